/-! jdk/internal/util/Preconditions.checkIndex(IILjava/util/function/BiFunction;)I -/
def t_J3_checkIndex_8e157_J9 (a0 : Int32) (a1 : Int32) (a2 : Option Nat) (h : CH) : Option (Int32 × CH) :=
  none
def t_J3_checkIndex_8e157 (a0 : Int32) (a1 : Int32) (a2 : Option Nat) (h : CH) : Option (Int32 × CH) :=
  if a0 < 0 then (t_J3_checkIndex_8e157_J9 a0 a1 a2 h) else (if a0 < a1 then (some (a0, h)) else (t_J3_checkIndex_8e157_J9 a0 a1 a2 h))
/-! java/util/Objects.checkIndex(II)I -/
def t_J15_checkIndex_7cf53 (a0 : Int32) (a1 : Int32) (h : CH) : Option (Int32 × CH) :=
  (t_J3_checkIndex_8e157 a0 a1 none h).bind fun q1 =>
  some (q1.1, q1.2)
/-! java/lang/Integer.bitCount(I)I -/
def t_J6_bitCount_0f7a4 (a0 : Int32) (h : CH) : Option (Int32 × CH) :=
  some ((((((((a0 - (((a0.toUInt32 >>> ((1 : Int32).toUInt32 &&& Int32.toUInt32 31)).toInt32) &&& 1431655765)) &&& 858993459) + ((((a0 - (((a0.toUInt32 >>> ((1 : Int32).toUInt32 &&& Int32.toUInt32 31)).toInt32) &&& 1431655765)).toUInt32 >>> ((2 : Int32).toUInt32 &&& Int32.toUInt32 31)).toInt32) &&& 858993459)) + (((((a0 - (((a0.toUInt32 >>> ((1 : Int32).toUInt32 &&& Int32.toUInt32 31)).toInt32) &&& 1431655765)) &&& 858993459) + ((((a0 - (((a0.toUInt32 >>> ((1 : Int32).toUInt32 &&& Int32.toUInt32 31)).toInt32) &&& 1431655765)).toUInt32 >>> ((2 : Int32).toUInt32 &&& Int32.toUInt32 31)).toInt32) &&& 858993459)).toUInt32 >>> ((4 : Int32).toUInt32 &&& Int32.toUInt32 31)).toInt32)) &&& 252645135) + (((((((a0 - (((a0.toUInt32 >>> ((1 : Int32).toUInt32 &&& Int32.toUInt32 31)).toInt32) &&& 1431655765)) &&& 858993459) + ((((a0 - (((a0.toUInt32 >>> ((1 : Int32).toUInt32 &&& Int32.toUInt32 31)).toInt32) &&& 1431655765)).toUInt32 >>> ((2 : Int32).toUInt32 &&& Int32.toUInt32 31)).toInt32) &&& 858993459)) + (((((a0 - (((a0.toUInt32 >>> ((1 : Int32).toUInt32 &&& Int32.toUInt32 31)).toInt32) &&& 1431655765)) &&& 858993459) + ((((a0 - (((a0.toUInt32 >>> ((1 : Int32).toUInt32 &&& Int32.toUInt32 31)).toInt32) &&& 1431655765)).toUInt32 >>> ((2 : Int32).toUInt32 &&& Int32.toUInt32 31)).toInt32) &&& 858993459)).toUInt32 >>> ((4 : Int32).toUInt32 &&& Int32.toUInt32 31)).toInt32)) &&& 252645135).toUInt32 >>> ((8 : Int32).toUInt32 &&& Int32.toUInt32 31)).toInt32)) + ((((((((a0 - (((a0.toUInt32 >>> ((1 : Int32).toUInt32 &&& Int32.toUInt32 31)).toInt32) &&& 1431655765)) &&& 858993459) + ((((a0 - (((a0.toUInt32 >>> ((1 : Int32).toUInt32 &&& Int32.toUInt32 31)).toInt32) &&& 1431655765)).toUInt32 >>> ((2 : Int32).toUInt32 &&& Int32.toUInt32 31)).toInt32) &&& 858993459)) + (((((a0 - (((a0.toUInt32 >>> ((1 : Int32).toUInt32 &&& Int32.toUInt32 31)).toInt32) &&& 1431655765)) &&& 858993459) + ((((a0 - (((a0.toUInt32 >>> ((1 : Int32).toUInt32 &&& Int32.toUInt32 31)).toInt32) &&& 1431655765)).toUInt32 >>> ((2 : Int32).toUInt32 &&& Int32.toUInt32 31)).toInt32) &&& 858993459)).toUInt32 >>> ((4 : Int32).toUInt32 &&& Int32.toUInt32 31)).toInt32)) &&& 252645135) + (((((((a0 - (((a0.toUInt32 >>> ((1 : Int32).toUInt32 &&& Int32.toUInt32 31)).toInt32) &&& 1431655765)) &&& 858993459) + ((((a0 - (((a0.toUInt32 >>> ((1 : Int32).toUInt32 &&& Int32.toUInt32 31)).toInt32) &&& 1431655765)).toUInt32 >>> ((2 : Int32).toUInt32 &&& Int32.toUInt32 31)).toInt32) &&& 858993459)) + (((((a0 - (((a0.toUInt32 >>> ((1 : Int32).toUInt32 &&& Int32.toUInt32 31)).toInt32) &&& 1431655765)) &&& 858993459) + ((((a0 - (((a0.toUInt32 >>> ((1 : Int32).toUInt32 &&& Int32.toUInt32 31)).toInt32) &&& 1431655765)).toUInt32 >>> ((2 : Int32).toUInt32 &&& Int32.toUInt32 31)).toInt32) &&& 858993459)).toUInt32 >>> ((4 : Int32).toUInt32 &&& Int32.toUInt32 31)).toInt32)) &&& 252645135).toUInt32 >>> ((8 : Int32).toUInt32 &&& Int32.toUInt32 31)).toInt32)).toUInt32 >>> ((16 : Int32).toUInt32 &&& Int32.toUInt32 31)).toInt32)) &&& 63, h)
/-! java/util/Arrays.copyOf([Ljava/lang/Object;ILjava/lang/Class;)[Ljava/lang/Object; -/
def t_J7_copyOf_6403c (a0 : Nat) (a1 : Int32) (a2 : Nat) (h : CH) : Option (Nat × CH) :=
  if a2 = h.2.1.2 then ((hcap a1).bind fun _ =>
  (tlen (tnew h (.inl (3, a1.toNatClampNeg, .inr (.inr (.inr (.inr fun _ => none)))))) a0).bind fun v3 =>
  (tcpy (tnew h (.inl (3, a1.toNatClampNeg, .inr (.inr (.inr (.inr fun _ => none)))))) a0 h.1 (if a1 < v3 then a1 else v3)).bind fun h6 =>
  some (h.1, h6)) else (none)
/-! java/util/Arrays.copyOf([Ljava/lang/Object;I)[Ljava/lang/Object; -/
def t_J7_copyOf_1904c (a0 : Nat) (a1 : Int32) (h : CH) : Option (Nat × CH) :=
  (toa h a0).bind fun _ =>
  (t_J7_copyOf_6403c a0 a1 h.2.1.2 h).bind fun q2 =>
  some (q2.1, q2.2)
/-! jdk/internal/util/ArraysSupport.newLength(III)I -/
def t_J8_newLength_cabcc_J21 (a0 : Int32) (a1 : Int32) (a2 : Int32) (h : CH) : Option (Int32 × CH) :=
  none
def t_J8_newLength_cabcc (a0 : Int32) (a1 : Int32) (a2 : Int32) (h : CH) : Option (Int32 × CH) :=
  if (a0 + (if a1 < a2 then a2 else a1)) ≤ 0 then (t_J8_newLength_cabcc_J21 a0 a1 a2 h) else (if 2147483639 < (a0 + (if a1 < a2 then a2 else a1)) then (t_J8_newLength_cabcc_J21 a0 a1 a2 h) else (some (a0 + (if a1 < a2 then a2 else a1), h)))
/-! java/util/ArrayList.grow(I)[Ljava/lang/Object; -/
def t_Jx4a65c_grow_92f84_J20 (a0 : Nat) (a1 : Int32) (y2 : Int32) (h : CH) : Option (Nat × CH) :=
  (t_J8_newLength_cabcc y2 (a1 - y2) (y2 >>> (1 &&& 31)) h).bind fun q6 =>
  (tgR q6.2 a0 0 1).bind fun v8 =>
  (t_J7_copyOf_1904c v8 q6.1 q6.2).bind fun q10 =>
  (tpF q10.2 a0 0 1 (.ref q10.1)).bind fun h12 =>
  some (q10.1, h12)
def t_Jx4a65c_grow_92f84 (a0 : Nat) (a1 : Int32) (h : CH) : Option (Nat × CH) :=
  (tgR h a0 0 1).bind fun v1 =>
  (tlen h v1).bind fun v3 =>
  if 0 < v3 then (t_Jx4a65c_grow_92f84_J20 a0 a1 v3 h) else ((tgR h a0 0 1).bind fun v14 =>
  if v14 = h.2.1.1 then ((hcap (if 10 < a1 then a1 else 10)).bind fun _ =>
  (tpF (tnew h (.inl (3, (if 10 < a1 then a1 else 10).toNatClampNeg, .inr (.inr (.inr (.inr fun _ => none)))))) a0 0 1 (.ref h.1)).bind fun h18 =>
  some (h.1, h18)) else (t_Jx4a65c_grow_92f84_J20 a0 a1 v3 h))
/-! java/util/ArrayList.grow()[Ljava/lang/Object; -/
def t_Jx4a65c_grow_d5877 (a0 : Nat) (h : CH) : Option (Nat × CH) :=
  (tgI h a0 0 2).bind fun v1 =>
  (tcl h a0 0).bind fun _ =>
  (t_Jx4a65c_grow_92f84 a0 (v1 + 1) h).bind fun q3 =>
  some (q3.1, q3.2)
/-! java/util/ArrayList.add(Ljava/lang/Object;[Ljava/lang/Object;I)V -/
def t_Jx4a65c_add_72be8_J11 (a0 : Nat) (a1 : Nat) (a3 : Int32) (y2 : Nat) (h : CH) : Option (CH) :=
  (tstR h y2 a3 a1).bind fun h4 =>
  (tpF h4 a0 0 2 (.int (a3 + 1))).bind fun h6 =>
  some h6
def t_Jx4a65c_add_72be8 (a0 : Nat) (a1 : Nat) (a2 : Nat) (a3 : Int32) (h : CH) : Option (CH) :=
  (tlen h a2).bind fun v1 =>
  if a3 = v1 then ((tcl h a0 0).bind fun _ =>
  (t_Jx4a65c_grow_d5877 a0 h).bind fun q8 =>
  t_Jx4a65c_add_72be8_J11 a0 a1 a3 q8.1 q8.2) else (t_Jx4a65c_add_72be8_J11 a0 a1 a3 a2 h)
/-! java/util/ArrayList.add(Ljava/lang/Object;)Z -/
def t_Jx4a65c_add_9ea2d (a0 : Nat) (a1 : Nat) (h : CH) : Option (Int32 × CH) :=
  (tgI h a0 0 0).bind fun v1 =>
  (tpF h a0 0 0 (.int (v1 + 1))).bind fun h3 =>
  (tgR h3 a0 0 1).bind fun v5 =>
  (tgI h3 a0 0 2).bind fun v7 =>
  (tcl h3 a0 0).bind fun _ =>
  (t_Jx4a65c_add_72be8 a0 a1 v5 v7 h3).bind fun q9 =>
  some (1, q9)
/-! java/util/ArrayList.elementData(I)Ljava/lang/Object; -/
def t_Jx4a65c_elementData_915e3 (a0 : Nat) (a1 : Int32) (h : CH) : Option (Nat × CH) :=
  (tgR h a0 0 1).bind fun v1 =>
  (tldR h 3 v1 a1).bind fun v3 =>
  some (v3, h)
/-! java/util/ArrayList.get(I)Ljava/lang/Object; -/
def t_Jx4a65c_get_915e3 (a0 : Nat) (a1 : Int32) (h : CH) : Option (Nat × CH) :=
  (tgI h a0 0 2).bind fun v1 =>
  (t_J15_checkIndex_7cf53 a1 v1 h).bind fun q3 =>
  (tcl q3.2 a0 0).bind fun _ =>
  (t_Jx4a65c_elementData_915e3 a0 a1 q3.2).bind fun q5 =>
  some (q5.1, q5.2)
/-! java/util/AbstractCollection.<init>()V -/
def t_Jxa1e45_init_da8c8 (a0 : Nat) (h : CH) : Option (CH) :=
  some h
/-! java/util/AbstractList.<init>()V -/
def t_Jxc12de_init_da8c8 (a0 : Nat) (h : CH) : Option (CH) :=
  (t_Jxa1e45_init_da8c8 a0 h).bind fun q1 =>
  (tpF q1 a0 0 0 (.int 0)).bind fun h3 =>
  some h3
/-! java/util/ArrayList.<init>()V -/
def t_Jx4a65c_init_da8c8 (a0 : Nat) (h : CH) : Option (CH) :=
  (t_Jxc12de_init_da8c8 a0 h).bind fun q1 =>
  (tpF q1 a0 0 1 (.ref q1.2.1.1)).bind fun h3 =>
  some h3
/-! java/util/ArrayList.isEmpty()Z -/
def t_Jx4a65c_isEmpty_aae02 (a0 : Nat) (h : CH) : Option (Int32 × CH) :=
  (tgI h a0 0 2).bind fun v1 =>
  if v1 = 0 then (some (1, h)) else (some (0, h))
/-! java/util/ArrayList.size()I -/
def t_Jx4a65c_size_8abf5 (a0 : Nat) (h : CH) : Option (Int32 × CH) :=
  (tgI h a0 0 2).bind fun v1 =>
  some (v1, h)
/-! HeaveSongs$Hands.add(IIII)Z -/
def t_X0_add (a0 : Nat) (a1 : Int32) (a2 : Int32) (a3 : Int32) (a4 : Int32) (h : CH) : Option (Int32 × CH) :=
  (tgI h a0 1 6).bind fun v1 =>
  if v1 < 10 then ((tgR h a0 1 0).bind fun v4 =>
  (tgI h a0 1 6).bind fun v6 =>
  (tst h 0 v4 v6 a1).bind fun h8 =>
  (tgR h8 a0 1 1).bind fun v10 =>
  (tgI h8 a0 1 6).bind fun v12 =>
  (tst h8 0 v10 v12 a2).bind fun h14 =>
  (tgR h14 a0 1 2).bind fun v16 =>
  (tgI h14 a0 1 6).bind fun v18 =>
  (tst h14 0 v16 v18 a3).bind fun h20 =>
  (tgR h20 a0 1 3).bind fun v22 =>
  (tgI h20 a0 1 6).bind fun v24 =>
  (tst h20 0 v22 v24 a4).bind fun h26 =>
  (tgR h26 a0 1 5).bind fun v28 =>
  (tgI h26 a0 1 6).bind fun v30 =>
  (tst h26 0 v28 v30 a1).bind fun h32 =>
  (tgI h32 a0 1 7).bind fun v34 =>
  (tgI h32 a0 1 6).bind fun v36 =>
  (tpF h32 a0 1 7 (.int (v34 ||| (1 <<< (v36 &&& 31))))).bind fun h38 =>
  (tgI h38 a0 1 6).bind fun v40 =>
  (tpF h38 a0 1 6 (.int (v40 + 1))).bind fun h42 =>
  some (1, h42)) else (some (0, h))
/-! HeaveSongs$Hands.allSet()I -/
def t_X0_allSet (a0 : Nat) (h : CH) : Option (Int32 × CH) :=
  (tgI h a0 1 6).bind fun v1 =>
  some ((1 <<< (v1 &&& 31)) - 1, h)
/-! HeaveSongs.within(III)Z -/
def t_X11_within (a0 : Int32) (a1 : Int32) (a2 : Int32) (h : CH) : Option (Int32 × CH) :=
  if a0 < a1 then (some (0, h)) else (if a2 < a0 then (some (0, h)) else (some (1, h)))
/-! HeaveSongs$Hands.has(I)Z -/
def t_X0_has (a0 : Nat) (a1 : Int32) (h : CH) : Option (Int32 × CH) :=
  (tgI h a0 1 6).bind fun v1 =>
  (t_X11_within a1 0 (v1 - 1) h).bind fun q3 =>
  (hzb q3.1).bind fun _ =>
  some (q3.1, q3.2)
/-! HeaveSongs$Hands.howManyAtStrength()I -/
def t_X0_howManyAtStrength_L4 (x0 : Nat) (s : Int32 × Int32 × CH) : Option ((Int32 × Int32 × CH) ⊕ ((Int32 × CH))) :=
  (tgI s.2.2 x0 1 6).bind fun v1 =>
  if v1 ≤ s.2.1 then (some (.inr ((s.1, s.2.2)))) else ((tgR s.2.2 x0 1 5).bind fun v4 =>
  (tld s.2.2 0 v4 s.2.1).bind fun v6 =>
  (tgR s.2.2 x0 1 0).bind fun v8 =>
  (tld s.2.2 0 v8 s.2.1).bind fun v10 =>
  if v6 = v10 then (some (.inl (s.1 + 1, s.2.1 + 1, s.2.2))) else (some (.inl (s.1, s.2.1 + 1, s.2.2))))
def t_X0_howManyAtStrength (a0 : Nat) (h : CH) : Option (Int32 × CH) :=
  (iter (t_X0_howManyAtStrength_L4 a0) 100000 (0, 0, h)).bind fun e13 =>
  some (e13.1, e13.2)
/-! HeaveSongs$Hands.<init>()V -/
def t_X0_init (a0 : Nat) (h : CH) : Option (CH) :=
  (tpF (tnew h (.inl (0, 10, .inl fun _ => 0))) a0 1 0 (.ref h.1)).bind fun h1 =>
  (tpF (tnew h1 (.inl (0, 10, .inl fun _ => 0))) a0 1 1 (.ref h1.1)).bind fun h3 =>
  (tpF (tnew h3 (.inl (0, 10, .inl fun _ => 0))) a0 1 2 (.ref h3.1)).bind fun h5 =>
  (tpF (tnew h5 (.inl (0, 10, .inl fun _ => 0))) a0 1 3 (.ref h5.1)).bind fun h7 =>
  (tpF (tnew h7 (.inl (0, 10, .inl fun _ => 0))) a0 1 4 (.ref h7.1)).bind fun h9 =>
  (tpF (tnew h9 (.inl (0, 10, .inl fun _ => 0))) a0 1 5 (.ref h9.1)).bind fun h11 =>
  some h11
/-! HeaveSongs$Hands.mixedInto(J)J -/
def t_X0_mixedInto_L5 (x0 : Nat) (s : Int64 × Int32 × CH) : Option ((Int64 × Int32 × CH) ⊕ ((Int64 × CH))) :=
  (tgI s.2.2 x0 1 6).bind fun v1 =>
  if v1 ≤ s.2.1 then (some (.inr ((s.1, s.2.2)))) else ((tgR s.2.2 x0 1 0).bind fun v4 =>
  (tld s.2.2 0 v4 s.2.1).bind fun v6 =>
  (tgR s.2.2 x0 1 1).bind fun v8 =>
  (tld s.2.2 0 v8 s.2.1).bind fun v10 =>
  (tgR s.2.2 x0 1 2).bind fun v12 =>
  (tld s.2.2 0 v12 s.2.1).bind fun v14 =>
  (tgR s.2.2 x0 1 3).bind fun v16 =>
  (tld s.2.2 0 v16 s.2.1).bind fun v18 =>
  (tgR s.2.2 x0 1 4).bind fun v20 =>
  (tld s.2.2 0 v20 s.2.1).bind fun v22 =>
  (tgR s.2.2 x0 1 5).bind fun v24 =>
  (tld s.2.2 0 v24 s.2.1).bind fun v26 =>
  some (.inl ((31 * ((31 * ((31 * ((31 * ((31 * ((31 * s.1) + v6.toInt64)) + v10.toInt64)) + v14.toInt64)) + v18.toInt64)) + v22.toInt64)) + v26.toInt64, s.2.1 + 1, s.2.2)))
def t_X0_mixedInto (a0 : Nat) (a1 : Int64) (h : CH) : Option (Int64 × CH) :=
  (iter (t_X0_mixedInto_L5 a0) 100000 (a1, 0, h)).bind fun e28 =>
  some (e28.1, e28.2)
/-! HeaveSongs$Hands.restFor(I[I)V -/
def t_X0_restFor_L2 (x0 : Nat) (x1 : Int32) (x2 : Nat) (s : Int32 × CH) : Option ((Int32 × CH) ⊕ ((CH))) :=
  (tgI s.2 x0 1 6).bind fun v1 =>
  if v1 ≤ s.1 then (some (.inr (s.2))) else ((tlen s.2 x2).bind fun v4 =>
  if v4 ≤ s.1 then (some (.inr (s.2))) else ((tgR s.2 x0 1 0).bind fun v7 =>
  (tld s.2 0 v7 s.1).bind fun v9 =>
  (tld s.2 0 x2 s.1).bind fun v11 =>
  (tgR s.2 x0 1 2).bind fun v13 =>
  (tld s.2 0 v13 s.1).bind fun v15 =>
  (tst s.2 0 x2 s.1 (if (v11 + (x1 * v15)) < v9 then (v11 + (x1 * v15)) else v9)).bind fun h17 =>
  some (.inl (s.1 + 1, h17))))
def t_X0_restFor (a0 : Nat) (a1 : Int32) (a2 : Nat) (h : CH) : Option (CH) :=
  (iter (t_X0_restFor_L2 a0 a1 a2) 100000 (0, h)).bind fun e19 =>
  some e19
/-! HeaveSongs$Word.<init>(II)V -/
def t_X10_init (a0 : Nat) (a1 : Int32) (a2 : Int32) (h : CH) : Option (CH) :=
  (tpF h a0 11 0 (.int a1)).bind fun h1 =>
  (tpF h1 a0 11 1 (.int a2)).bind fun h3 =>
  some h3
/-! HeaveSongs$Word.isStrong(I)Z -/
def t_X10_isStrong (a0 : Nat) (a1 : Int32) (h : CH) : Option (Int32 × CH) :=
  (tgI h a0 11 1).bind fun v1 =>
  (tgI h a0 11 0).bind fun v3 =>
  if ((v1 >>> (((v3 - 1) - a1) &&& 31)) &&& 1) = 1 then (some (1, h)) else (some (0, h))
/-! HeaveSongs$Word.mixedInto(J)J -/
def t_X10_mixedInto (a0 : Nat) (a1 : Int64) (h : CH) : Option (Int64 × CH) :=
  (tgI h a0 11 0).bind fun v1 =>
  (tgI h a0 11 1).bind fun v3 =>
  some ((31 * ((31 * a1) + v1.toInt64)) + v3.toInt64, h)
/-! HeaveSongs.isSilent(I)Z -/
def t_X11_isSilent (a0 : Int32) (h : CH) : Option (Int32 × CH) :=
  if a0 = 1 then (some (0, h)) else (if a0 = 2 then (some (0, h)) else (some (1, h)))
/-! HeaveSongs$Word.wrongIfSungFrom(LHeaveSongs$Row;I)I -/
def t_X10_wrongIfSungFrom_L24_J71 (x0 : Nat) (x1 : Nat) (x2 : Int32) (y3 : Int32) (y4 : Int32) (z0 : Int32) (z1 : Int32) (h : CH) : Option ((Int32 × Int32 × CH) ⊕ ((Int32 × CH) ⊕ (CH))) :=
  if z1 = z0 then (some (.inl (y3, y4 + 1, h))) else (some (.inl (y3 + 1, y4 + 1, h)))
def t_X10_wrongIfSungFrom_L24 (x0 : Nat) (x1 : Nat) (x2 : Int32) (s : Int32 × Int32 × CH) : Option ((Int32 × Int32 × CH) ⊕ ((Int32 × CH) ⊕ (CH))) :=
  (tgI s.2.2 x0 11 0).bind fun v7 =>
  if v7 ≤ s.2.1 then (some (.inr (.inl ((s.1, s.2.2))))) else ((tgR s.2.2 x1 7 0).bind fun v10 =>
  (tld s.2.2 0 v10 (x2 + s.2.1)).bind fun v12 =>
  (t_X11_isSilent v12 s.2.2).bind fun q14 =>
  if q14.1 = 0 then ((tcl q14.2 x0 11).bind fun _ =>
  (t_X10_isStrong x0 s.2.1 q14.2).bind fun q17 =>
  if v12 = 2 then (t_X10_wrongIfSungFrom_L24_J71 x0 x1 x2 s.1 s.2.1 1 q17.1 q17.2) else (t_X10_wrongIfSungFrom_L24_J71 x0 x1 x2 s.1 s.2.1 0 q17.1 q17.2)) else (some (.inr (.inr (q14.2)))))
def t_X10_wrongIfSungFrom (a0 : Nat) (a1 : Nat) (a2 : Int32) (h : CH) : Option (Int32 × CH) :=
  if a2 < 0 then (some ((-1), h)) else ((tgI h a0 11 0).bind fun v2 =>
  (tgI h a1 7 1).bind fun v4 =>
  if (a2 + v2) ≤ v4 then ((iter (t_X10_wrongIfSungFrom_L24 a0 a1 a2) 100000 (0, 0, h)).bind fun e22 =>
  Sum.elim (fun e24 => some (e24.1, e24.2)) (fun e25 => some ((-1), e25)) e22) else (some ((-1), h)))
/-! HeaveSongs.songOf(I)LHeaveSongs$Song; -/
def t_X11_songOf (a0 : Nat) (a1 : Int32) (h : CH) : Option (Option Nat × CH) :=
  (tgR h a0 12 1).bind fun v1 =>
  (tcl h v1 0).bind fun _ =>
  (t_Jx4a65c_size_8abf5 v1 h).bind fun q3 =>
  (t_X11_within a1 0 (q3.1 - 1) q3.2).bind fun q6 =>
  if q6.1 = 0 then (some (none, q6.2)) else ((tgR q6.2 a0 12 1).bind fun v9 =>
  (tcl q6.2 v9 0).bind fun _ =>
  (t_Jx4a65c_get_915e3 v9 a1 q6.2).bind fun q11 =>
  (tcl q11.2 q11.1 8).bind fun _ =>
  some (some q11.1, q11.2))
/-! HeaveSongs$Kin.changes(LHeaveSongs$Row;LHeaveSongs$Row;)I -/
def t_X2_changes_L2 (x0 : Nat) (x1 : Nat) (x2 : Nat) (s : Int32 × CH) : Option ((Int32 × CH) ⊕ ((CH))) :=
  (tgI s.2 x2 7 1).bind fun v1 =>
  if v1 < s.1 then (some (.inr (s.2))) else ((tgR s.2 x0 3 0).bind fun v4 =>
  (tst s.2 0 v4 s.1 s.1).bind fun h6 =>
  some (.inl (s.1 + 1, h6)))
def t_X2_changes_L53_J96 (x0 : Nat) (x1 : Nat) (x2 : Nat) (x3 : Int32) (y5 : Int32) (y6 : Int32) (z0 : Int32) (z1 : Int32) (h : CH) : Option ((Int32 × Int32 × CH) ⊕ ((CH))) :=
  (tgR h x0 3 0).bind fun v37 =>
  (tgR h x0 3 0).bind fun v39 =>
  (tld h 0 v39 y5).bind fun v41 =>
  (tst h 0 v37 (y5 + 1) (if ((if v41 < y6 then v41 else y6) + 1) < (z1 + z0) then ((if v41 < y6 then v41 else y6) + 1) else (z1 + z0))).bind fun h43 =>
  some (.inl (y6, y5 + 1, h43))
def t_X2_changes_L53 (x0 : Nat) (x1 : Nat) (x2 : Nat) (x3 : Int32) (s : Int32 × Int32 × CH) : Option ((Int32 × Int32 × CH) ⊕ ((CH))) :=
  (tgI s.2.2 x2 7 1).bind fun v21 =>
  if v21 ≤ s.2.1 then (some (.inr (s.2.2))) else ((tgR s.2.2 x0 3 0).bind fun v24 =>
  (tld s.2.2 0 v24 (s.2.1 + 1)).bind fun v26 =>
  (tgR s.2.2 x1 7 0).bind fun v28 =>
  (tld s.2.2 0 v28 x3).bind fun v30 =>
  (tgR s.2.2 x2 7 0).bind fun v32 =>
  (tld s.2.2 0 v32 s.2.1).bind fun v34 =>
  if v30 = v34 then (t_X2_changes_L53_J96 x0 x1 x2 x3 s.2.1 v26 0 s.1 s.2.2) else (t_X2_changes_L53_J96 x0 x1 x2 x3 s.2.1 v26 1 s.1 s.2.2))
def t_X2_changes_L25 (x0 : Nat) (x1 : Nat) (x2 : Nat) (s : Int32 × CH) : Option ((Int32 × CH) ⊕ ((CH))) :=
  (tgI s.2 x1 7 1).bind fun v10 =>
  if v10 ≤ s.1 then (some (.inr (s.2))) else ((tgR s.2 x0 3 0).bind fun v13 =>
  (tld s.2 0 v13 0).bind fun v15 =>
  (tgR s.2 x0 3 0).bind fun v17 =>
  (tst s.2 0 v17 0 (s.1 + 1)).bind fun h19 =>
  (iter (t_X2_changes_L53 x0 x1 x2 s.1) 100000 (v15, 0, h19)).bind fun e45 =>
  some (.inl (s.1 + 1, e45)))
def t_X2_changes (a0 : Nat) (a1 : Nat) (a2 : Nat) (h : CH) : Option (Int32 × CH) :=
  (iter (t_X2_changes_L2 a0 a1 a2) 100000 (0, h)).bind fun e8 =>
  (iter (t_X2_changes_L25 a0 a1 a2) 100000 (0, e8)).bind fun e47 =>
  (tgR e47 a0 3 0).bind fun v49 =>
  (tgI e47 a2 7 1).bind fun v51 =>
  (tld e47 0 v49 v51).bind fun v53 =>
  some (v53, e47)
/-! HeaveSongs$Kin.distance(LHeaveSongs$Song;LHeaveSongs$Song;)I -/
def t_X2_distance (a0 : Nat) (a1 : Nat) (a2 : Nat) (h : CH) : Option (Int32 × CH) :=
  (tgR h a1 8 0).bind fun v1 =>
  (tgR h a2 8 0).bind fun v3 =>
  (tcl h a0 3).bind fun _ =>
  (t_X2_changes a0 v1 v3 h).bind fun q5 =>
  (tgR q5.2 a1 8 1).bind fun v8 =>
  (tgR q5.2 a2 8 1).bind fun v10 =>
  (tcl q5.2 a0 3).bind fun _ =>
  (t_X2_changes a0 v8 v10 q5.2).bind fun q12 =>
  some (q5.1 + q12.1, q12.2)
/-! HeaveSongs.apart(II)I -/
def t_X11_apart (a0 : Nat) (a1 : Int32) (a2 : Int32) (h : CH) : Option (Int32 × CH) :=
  (tcl h a0 12).bind fun _ =>
  (t_X11_songOf a0 a1 h).bind fun q1 =>
  (tcl q1.2 a0 12).bind fun _ =>
  (t_X11_songOf a0 a2 q1.2).bind fun q4 =>
  Option.elim q1.1 (some ((-2), q4.2)) (fun a8 => Option.elim q4.1 (some ((-2), q4.2)) (fun a10 => (tgR q4.2 a0 12 11).bind fun v11 =>
  (tcl q4.2 v11 3).bind fun _ =>
  (t_X2_distance v11 a8 a10 q4.2).bind fun q13 =>
  some (q13.1, q13.2)))
/-! HeaveSongs$Row.add(I)Z -/
def t_X6_add (a0 : Nat) (a1 : Int32) (h : CH) : Option (Int32 × CH) :=
  (tgI h a0 7 1).bind fun v1 =>
  (tgR h a0 7 0).bind fun v3 =>
  (tlen h v3).bind fun v5 =>
  if v1 < v5 then ((tgR h a0 7 0).bind fun v8 =>
  (tgI h a0 7 1).bind fun v10 =>
  (tst h 0 v8 v10 a1).bind fun h12 =>
  (tgI h12 a0 7 1).bind fun v14 =>
  (tpF h12 a0 7 1 (.int (v14 + 1))).bind fun h16 =>
  some (1, h16)) else (some (0, h))
/-! HeaveSongs.beat(I)I -/
def t_X11_beat (a0 : Nat) (a1 : Int32) (h : CH) : Option (Int32 × CH) :=
  if a1 < 0 then (some ((-2), h)) else (if a1 ≤ 3 then ((tgR h a0 12 0).bind fun v3 =>
  (tcl h v3 7).bind fun _ =>
  (t_X6_add v3 a1 h).bind fun q5 =>
  if q5.1 = 0 then (some ((-4), q5.2)) else ((tgR q5.2 a0 12 0).bind fun v9 =>
  (tgI q5.2 v9 7 1).bind fun v11 =>
  some (v11, q5.2))) else (some ((-2), h)))
/-! HeaveSongs$Song.sungAt(I)I -/
def t_X7_sungAt (a0 : Nat) (a1 : Int32) (h : CH) : Option (Int32 × CH) :=
  (tgR h a0 8 0).bind fun v1 =>
  (tgI h v1 7 1).bind fun v3 =>
  (tgR h a0 8 1).bind fun v5 =>
  (tgI h v5 7 1).bind fun v7 =>
  if a1 < 0 then (some (0, h)) else (if 0 < (v3 + v7) then ((hdv (v3 + v7)).bind fun _ =>
  (tgR h a0 8 0).bind fun v12 =>
  (tgI h v12 7 1).bind fun v14 =>
  if v14 ≤ (a1 - a1 / (v3 + v7) * (v3 + v7)) then ((tgR h a0 8 1).bind fun v17 =>
  (tgR h v17 7 0).bind fun v19 =>
  (tgR h a0 8 0).bind fun v21 =>
  (tgI h v21 7 1).bind fun v23 =>
  (tld h 0 v19 ((a1 - a1 / (v3 + v7) * (v3 + v7)) - v23)).bind fun v25 =>
  some (v25, h)) else ((tgR h a0 8 0).bind fun v27 =>
  (tgR h v27 7 0).bind fun v29 =>
  (tld h 0 v29 (a1 - a1 / (v3 + v7) * (v3 + v7))).bind fun v31 =>
  some (v31, h))) else (some (0, h)))
/-! HeaveSongs.beatAt(II)I -/
def t_X11_beatAt (a0 : Nat) (a1 : Int32) (a2 : Int32) (h : CH) : Option (Int32 × CH) :=
  (tcl h a0 12).bind fun _ =>
  (t_X11_songOf a0 a1 h).bind fun q1 =>
  Option.elim q1.1 (some ((-2), q1.2)) (fun a5 => (t_X11_within a2 0 1000 q1.2).bind fun q6 =>
  if q6.1 = 0 then (some ((-2), q6.2)) else ((tcl q6.2 a5 8).bind fun _ =>
  (t_X7_sungAt a5 a2 q6.2).bind fun q9 =>
  some (q9.1, q9.2)))
/-! HeaveSongs.copy([I[I)V -/
def t_X11_copy_L2 (x0 : Nat) (x1 : Nat) (s : Int32 × CH) : Option ((Int32 × CH) ⊕ ((CH))) :=
  (tlen s.2 x0).bind fun v1 =>
  if v1 ≤ s.1 then (some (.inr (s.2))) else ((tlen s.2 x1).bind fun v4 =>
  if v4 ≤ s.1 then (some (.inr (s.2))) else ((tld s.2 0 x0 s.1).bind fun v7 =>
  (tst s.2 0 x1 s.1 v7).bind fun h9 =>
  some (.inl (s.1 + 1, h9))))
def t_X11_copy (a0 : Nat) (a1 : Nat) (h : CH) : Option (CH) :=
  (iter (t_X11_copy_L2 a0 a1) 100000 (0, h)).bind fun e11 =>
  some e11
/-! HeaveSongs$Haul.beginAsTold(LHeaveSongs$Hands;)V -/
def t_X1_beginAsTold (a0 : Nat) (a1 : Nat) (h : CH) : Option (CH) :=
  (tgR h a1 1 5).bind fun v1 =>
  (tgR h a0 2 0).bind fun v3 =>
  (t_X11_copy v1 v3 h).bind fun q5 =>
  (tgR q5 a1 1 4).bind fun v7 =>
  (tgR q5 a0 2 1).bind fun v9 =>
  (t_X11_copy v7 v9 q5).bind fun q11 =>
  (tgI q11 a1 1 7).bind fun v13 =>
  (tpF q11 a0 2 5 (.int v13)).bind fun h15 =>
  (tgI h15 a1 1 8).bind fun v17 =>
  (tpF h15 a0 2 6 (.int v17)).bind fun h19 =>
  some h19
/-! HeaveSongs.isIn(II)Z -/
def t_X11_isIn (a0 : Int32) (a1 : Int32) (h : CH) : Option (Int32 × CH) :=
  if ((a0 >>> (a1 &&& 31)) &&& 1) = 1 then (some (1, h)) else (some (0, h))
/-! HeaveSongs$Haul.gatherByLate(I)V -/
def t_X1_gatherByLate_L2 (x0 : Nat) (x1 : Int32) (s : Int32 × CH) : Option ((Int32 × CH) ⊕ ((CH))) :=
  if 3 < s.1 then (some (.inr (s.2))) else ((tgR s.2 x0 2 4).bind fun v2 =>
  (tst s.2 0 v2 s.1 0).bind fun h4 =>
  some (.inl (s.1 + 1, h4)))
def t_X1_gatherByLate_L22 (x0 : Nat) (x1 : Int32) (s : Int32 × CH) : Option ((Int32 × CH) ⊕ ((CH))) :=
  if x1 ≤ s.1 then (some (.inr (s.2))) else ((tgI s.2 x0 2 5).bind fun v9 =>
  (t_X11_isIn v9 s.1 s.2).bind fun q11 =>
  if q11.1 = 0 then (some (.inl (s.1 + 1, q11.2))) else ((tgR q11.2 x0 2 1).bind fun v14 =>
  (tld q11.2 0 v14 s.1).bind fun v16 =>
  (t_X11_within v16 0 3 q11.2).bind fun q18 =>
  if q18.1 = 0 then (some (.inl (s.1 + 1, q18.2))) else ((tgR q18.2 x0 2 4).bind fun v21 =>
  (tgR q18.2 x0 2 1).bind fun v23 =>
  (tld q18.2 0 v23 s.1).bind fun v25 =>
  (tld q18.2 0 v21 v25).bind fun v27 =>
  (tst q18.2 0 v21 v25 (v27 ||| (1 <<< (s.1 &&& 31)))).bind fun h29 =>
  some (.inl (s.1 + 1, h29)))))
def t_X1_gatherByLate (a0 : Nat) (a1 : Int32) (h : CH) : Option (CH) :=
  (iter (t_X1_gatherByLate_L2 a0 a1) 100000 (0, h)).bind fun e6 =>
  (iter (t_X1_gatherByLate_L22 a0 a1) 100000 (0, e6)).bind fun e31 =>
  some e31
/-! HeaveSongs$Haul.pullersAt(LHeaveSongs$Song;I)I -/
def t_X1_pullersAt_L5 (x0 : Nat) (x1 : Nat) (x2 : Int32) (s : Int32 × Int32 × CH) : Option ((Int32 × Int32 × CH) ⊕ ((Int32 × CH))) :=
  if 3 < s.2.1 then (some (.inr ((s.1, s.2.2)))) else (if x2 < s.2.1 then (some (.inr ((s.1, s.2.2)))) else ((tgR s.2.2 x0 2 4).bind fun v3 =>
  (tld s.2.2 0 v3 s.2.1).bind fun v5 =>
  if v5 = 0 then (some (.inl (s.1, s.2.1 + 1, s.2.2))) else ((tcl s.2.2 x1 8).bind fun _ =>
  (t_X7_sungAt x1 (x2 - s.2.1) s.2.2).bind fun q8 =>
  if q8.1 = 2 then ((tgR q8.2 x0 2 4).bind fun v12 =>
  (tld q8.2 0 v12 s.2.1).bind fun v14 =>
  some (.inl (s.1 ||| v14, s.2.1 + 1, q8.2))) else (some (.inl (s.1, s.2.1 + 1, q8.2))))))
def t_X1_pullersAt (a0 : Nat) (a1 : Nat) (a2 : Int32) (h : CH) : Option (Int32 × CH) :=
  (iter (t_X1_pullersAt_L5 a0 a1 a2) 100000 (0, 0, h)).bind fun e16 =>
  some (e16.1, e16.2)
/-! HeaveSongs$Haul.comesBack(LHeaveSongs$Hands;II)I -/
def t_X1_comesBack_J15 (a0 : Nat) (a1 : Nat) (a2 : Int32) (a3 : Int32) (h : CH) : Option (Int32 × CH) :=
  (tgR h a1 1 2).bind fun v2 =>
  (tld h 0 v2 a2).bind fun v4 =>
  some (v4, h)
def t_X1_comesBack (a0 : Nat) (a1 : Nat) (a2 : Int32) (a3 : Int32) (h : CH) : Option (Int32 × CH) :=
  if a3 = 0 then (t_X1_comesBack_J15 a0 a1 a2 a3 h) else ((tgI h a0 2 5).bind fun v6 =>
  (t_X11_isIn v6 a2 h).bind fun q8 =>
  if q8.1 = 0 then (t_X1_comesBack_J15 a0 a1 a2 a3 q8.2) else (if a3 = 3 then ((tgR q8.2 a1 1 3).bind fun v12 =>
  (tld q8.2 0 v12 a2).bind fun v14 =>
  some (v14, q8.2)) else (some (0, q8.2))))
/-! HeaveSongs$Haul.pull(LHeaveSongs$Hands;II)I -/
def t_X1_pull_L6 (x0 : Nat) (x1 : Nat) (x2 : Int32) (x3 : Int32) (s : Int32 × Int32 × CH) : Option ((Int32 × Int32 × CH) ⊕ ((Int32 × CH))) :=
  (tgI s.2.2 x1 1 6).bind fun v1 =>
  if v1 ≤ s.2.1 then (some (.inr ((s.1, s.2.2)))) else ((tgR s.2.2 x0 2 0).bind fun v4 =>
  (tld s.2.2 0 v4 s.2.1).bind fun v6 =>
  (t_X11_isIn x2 s.2.1 s.2.2).bind fun q8 =>
  if q8.1 = 0 then ((tgR q8.2 x1 1 0).bind fun v11 =>
  (tld q8.2 0 v11 s.2.1).bind fun v13 =>
  if v13 ≤ v6 then (some (.inl (s.1, s.2.1 + 1, q8.2))) else ((tgR q8.2 x0 2 0).bind fun v16 =>
  (tgR q8.2 x1 1 0).bind fun v18 =>
  (tld q8.2 0 v18 s.2.1).bind fun v20 =>
  (tcl q8.2 x0 2).bind fun _ =>
  (t_X1_comesBack x0 x1 s.2.1 x3 q8.2).bind fun q22 =>
  (tst q22.2 0 v16 s.2.1 (if (v6 + q22.1) < v20 then (v6 + q22.1) else v20)).bind fun h25 =>
  some (.inl (s.1, s.2.1 + 1, h25)))) else ((tgR q8.2 x0 2 0).bind fun v27 =>
  (tgR q8.2 x1 1 1).bind fun v29 =>
  (tld q8.2 0 v29 s.2.1).bind fun v31 =>
  (tst q8.2 0 v27 s.2.1 (if 0 < (v6 - v31) then (v6 - v31) else 0)).bind fun h33 =>
  some (.inl (s.1 + v6, s.2.1 + 1, h33))))
def t_X1_pull (a0 : Nat) (a1 : Nat) (a2 : Int32) (a3 : Int32) (h : CH) : Option (Int32 × CH) :=
  (iter (t_X1_pull_L6 a0 a1 a2 a3) 100000 (0, 0, h)).bind fun e35 =>
  some (e35.1, e35.2)
/-! HeaveSongs$Task.wonBehind(II)I -/
def t_X8_wonBehind (a0 : Nat) (a1 : Int32) (a2 : Int32) (h : CH) : Option (Int32 × CH) :=
  (tgI h a0 9 1).bind fun v1 =>
  if a2 ≤ v1 then ((tgI h a0 9 2).bind fun v4 =>
  some (if 0 < (a1 - v4) then (a1 - v4) else 0, h)) else ((tgI h a0 9 1).bind fun v6 =>
  some (a1 + ((a2 - v6) / 10), h))
/-! HeaveSongs$Haul.isBelowFloor(I)Z -/
def t_X1_isBelowFloor_L11 (x0 : Nat) (x1 : Int32) (s : Int32 × CH) : Option ((Int32 × CH) ⊕ ((CH) ⊕ (CH))) :=
  if x1 ≤ s.1 then (some (.inr (.inl (s.2)))) else ((tgI s.2 x0 2 5).bind fun v5 =>
  (t_X11_isIn v5 s.1 s.2).bind fun q7 =>
  if q7.1 = 0 then (some (.inl (s.1 + 1, q7.2))) else ((tgR q7.2 x0 2 0).bind fun v10 =>
  (tld q7.2 0 v10 s.1).bind fun v12 =>
  (tgI q7.2 x0 2 6).bind fun v14 =>
  if v14 ≤ v12 then (some (.inl (s.1 + 1, q7.2))) else (some (.inr (.inr (q7.2))))))
def t_X1_isBelowFloor (a0 : Nat) (a1 : Int32) (h : CH) : Option (Int32 × CH) :=
  (tgI h a0 2 6).bind fun v1 =>
  if 0 < v1 then ((iter (t_X1_isBelowFloor_L11 a0 a1) 100000 (0, h)).bind fun e17 =>
  Sum.elim (fun e19 => some (0, e19)) (fun e20 => some (1, e20)) e17) else (some (0, h))
/-! HeaveSongs$Haul.go(LHeaveSongs$Hands;LHeaveSongs$Song;LHeaveSongs$Task;I)Z -/
def t_X1_go_L19 (x0 : Nat) (x1 : Nat) (x2 : Nat) (x3 : Nat) (x4 : Int32) (s : Int32 × Int32 × CH) : Option ((Int32 × Int32 × CH) ⊕ ((CH) ⊕ (CH) ⊕ (CH))) :=
  if x4 ≤ s.2.1 then (some (.inr (.inl (s.2.2)))) else (if 300 ≤ s.2.1 then (some (.inr (.inl (s.2.2)))) else ((tcl s.2.2 x0 2).bind fun _ =>
  (t_X1_pullersAt x0 x2 s.2.1 s.2.2).bind fun q10 =>
  (tcl q10.2 x2 8).bind fun _ =>
  (t_X7_sungAt x2 s.2.1 q10.2).bind fun q13 =>
  (tcl q13.2 x0 2).bind fun _ =>
  (t_X1_pull x0 x1 q10.1 q13.1 q13.2).bind fun q16 =>
  (tcl q16.2 x3 9).bind fun _ =>
  (t_X8_wonBehind x3 s.1 q16.1 q16.2).bind fun q19 =>
  (tgR q19.2 x0 2 2).bind fun v22 =>
  (tst q19.2 0 v22 s.2.1 q19.1).bind fun h24 =>
  (tgR h24 x0 2 3).bind fun v26 =>
  (tst h24 0 v26 s.2.1 q16.1).bind fun h28 =>
  (tpF h28 x0 2 7 (.int (s.2.1 + 1))).bind fun h30 =>
  (tgI h30 x1 1 6).bind fun v32 =>
  (tcl h30 x0 2).bind fun _ =>
  (t_X1_isBelowFloor x0 v32 h30).bind fun q34 =>
  if q34.1 = 0 then ((tgI q34.2 x3 9 0).bind fun v38 =>
  if q19.1 < v38 then (some (.inl (q19.1, s.2.1 + 1, q34.2))) else (some (.inr (.inr (.inl (q34.2)))))) else (some (.inr (.inr (.inr (q34.2)))))))
def t_X1_go (a0 : Nat) (a1 : Nat) (a2 : Nat) (a3 : Nat) (a4 : Int32) (h : CH) : Option (Int32 × CH) :=
  (tpF h a0 2 7 (.int 0)).bind fun h1 =>
  (tgI h1 a1 1 6).bind fun v3 =>
  (tcl h1 a0 2).bind fun _ =>
  (t_X1_gatherByLate a0 v3 h1).bind fun q5 =>
  (iter (t_X1_go_L19 a0 a1 a2 a3 a4) 100000 (0, 0, q5)).bind fun e41 =>
  Sum.elim (fun e43 => some (0, e43)) (fun e44 => Sum.elim (fun e45 => some (1, e45)) (fun e46 => some (0, e46)) e44) e41
/-! HeaveSongs$Haul.leastNow(I)I -/
def t_X1_leastNow_L5 (x0 : Nat) (x1 : Int32) (s : Int32 × Int32 × CH) : Option ((Int32 × Int32 × CH) ⊕ ((Int32 × CH))) :=
  if x1 ≤ s.2.1 then (some (.inr ((s.1, s.2.2)))) else ((tgR s.2.2 x0 2 0).bind fun v2 =>
  (tld s.2.2 0 v2 s.2.1).bind fun v4 =>
  some (.inl (if v4 < s.1 then v4 else s.1, s.2.1 + 1, s.2.2)))
def t_X1_leastNow (a0 : Nat) (a1 : Int32) (h : CH) : Option (Int32 × CH) :=
  (iter (t_X1_leastNow_L5 a0 a1) 100000 (100, 0, h)).bind fun e6 =>
  some (e6.1, e6.2)
/-! HeaveSongs$TaskSearch.tryCrew(LHeaveSongs$Hands;LHeaveSongs$Song;LHeaveSongs$Task;I)V -/
def t_X9_tryCrew_J71 (a0 : Nat) (a1 : Nat) (a2 : Nat) (a3 : Nat) (a4 : Int32) (y5 : Int32) (h : CH) : Option (CH) :=
  (tpF h a0 10 6 (.int a4)).bind fun h32 =>
  (tgR h32 a0 10 0).bind fun v34 =>
  (tgI h32 v34 2 7).bind fun v36 =>
  (tpF h32 a0 10 7 (.int v36)).bind fun h38 =>
  (tpF h38 a0 10 8 (.int y5)).bind fun h40 =>
  some h40
def t_X9_tryCrew (a0 : Nat) (a1 : Nat) (a2 : Nat) (a3 : Nat) (a4 : Int32) (h : CH) : Option (CH) :=
  (tgR h a0 10 0).bind fun v1 =>
  (tcl h v1 2).bind fun _ =>
  (t_X1_beginAsTold v1 a1 h).bind fun q3 =>
  (tgR q3 a0 10 0).bind fun v6 =>
  (tpF q3 v6 2 5 (.int a4)).bind fun h8 =>
  (tgR h8 a0 10 0).bind fun v10 =>
  (tgI h8 a0 10 7).bind fun v12 =>
  (tcl h8 v10 2).bind fun _ =>
  (t_X1_go v10 a1 a2 a3 v12 h8).bind fun q14 =>
  if q14.1 = 0 then (some q14.2) else ((tgR q14.2 a0 10 0).bind fun v18 =>
  (tgI q14.2 a1 1 6).bind fun v20 =>
  (tcl q14.2 v18 2).bind fun _ =>
  (t_X1_leastNow v18 v20 q14.2).bind fun q22 =>
  (tgR q22.2 a0 10 0).bind fun v25 =>
  (tgI q22.2 v25 2 7).bind fun v27 =>
  (tgI q22.2 a0 10 7).bind fun v29 =>
  if v27 < v29 then (t_X9_tryCrew_J71 a0 a1 a2 a3 a4 q22.1 q22.2) else ((tgI q22.2 a0 10 8).bind fun v42 =>
  if q22.1 ≤ v42 then (some q22.2) else (t_X9_tryCrew_J71 a0 a1 a2 a3 a4 q22.1 q22.2)))
/-! HeaveSongs$TaskSearch.findCrew(LHeaveSongs$Hands;LHeaveSongs$Song;LHeaveSongs$Task;I)V -/
def t_X9_findCrew_L9 (x0 : Nat) (x1 : Nat) (x2 : Nat) (x3 : Nat) (x4 : Int32) (s : Int32 × CH) : Option ((Int32 × CH) ⊕ ((CH))) :=
  (tcl s.2 x1 1).bind fun _ =>
  (t_X0_allSet x1 s.2).bind fun q3 =>
  if q3.1 < s.1 then (some (.inr (q3.2))) else ((t_J6_bitCount_0f7a4 s.1 q3.2).bind fun q7 =>
  if q7.1 = x4 then ((tcl q7.2 x0 10).bind fun _ =>
  (t_X9_tryCrew x0 x1 x2 x3 s.1 q7.2).bind fun q10 =>
  some (.inl (s.1 + 1, q10))) else (some (.inl (s.1 + 1, q7.2))))
def t_X9_findCrew (a0 : Nat) (a1 : Nat) (a2 : Nat) (a3 : Nat) (a4 : Int32) (h : CH) : Option (CH) :=
  (tpF h a0 10 7 (.int 1000000000)).bind fun h1 =>
  (iter (t_X9_findCrew_L9 a0 a1 a2 a3 a4) 100000 (1, h1)).bind fun e13 =>
  some e13
/-! HeaveSongs.best(IIII)I -/
def t_X11_best (a0 : Nat) (a1 : Int32) (a2 : Int32) (a3 : Int32) (a4 : Int32) (h : CH) : Option (Int32 × CH) :=
  (tcl h a0 12).bind fun _ =>
  (t_X11_songOf a0 a1 h).bind fun q1 =>
  Option.elim q1.1 (some ((-2), q1.2)) (fun a5 => (tgR q1.2 a0 12 4).bind fun v6 =>
  (tcl q1.2 v6 0).bind fun _ =>
  (t_Jx4a65c_size_8abf5 v6 q1.2).bind fun q8 =>
  (t_X11_within a2 0 (q8.1 - 1) q8.2).bind fun q11 =>
  if q11.1 = 0 then (some ((-2), q11.2)) else ((tgR q11.2 a0 12 2).bind fun v14 =>
  (tgI q11.2 v14 1 6).bind fun v16 =>
  (t_X11_within a3 1 v16 q11.2).bind fun q18 =>
  if q18.1 = 0 then (some ((-2), q18.2)) else ((t_X11_within a4 0 2 q18.2).bind fun q21 =>
  if q21.1 = 0 then (some ((-2), q21.2)) else ((tgR q21.2 a0 12 6).bind fun v24 =>
  (tgR q21.2 a0 12 2).bind fun v26 =>
  (tgR q21.2 a0 12 4).bind fun v28 =>
  (tcl q21.2 v28 0).bind fun _ =>
  (t_Jx4a65c_get_915e3 v28 a2 q21.2).bind fun q30 =>
  (tcl q30.2 q30.1 9).bind fun _ =>
  (tcl q30.2 v24 10).bind fun _ =>
  (t_X9_findCrew v24 v26 a5 q30.1 a3 q30.2).bind fun q34 =>
  (tgR q34 a0 12 6).bind fun v37 =>
  (tgI q34 v37 10 7).bind fun v39 =>
  if v39 = 1000000000 then (some ((-1), q34)) else (if a4 = 0 then ((tgR q34 a0 12 6).bind fun v43 =>
  (tgI q34 v43 10 6).bind fun v45 =>
  some (v45, q34)) else (if a4 = 1 then ((tgR q34 a0 12 6).bind fun v48 =>
  (tgI q34 v48 10 7).bind fun v50 =>
  some (v50, q34)) else ((tgR q34 a0 12 6).bind fun v52 =>
  (tgI q34 v52 10 8).bind fun v54 =>
  some (v54, q34))))))))
/-! HeaveSongs.between(I)I -/
def t_X11_between (a0 : Nat) (a1 : Int32) (h : CH) : Option (Int32 × CH) :=
  (t_X11_within a1 0 50 h).bind fun q1 =>
  if q1.1 = 0 then (some ((-2), q1.2)) else ((tgI q1.2 a0 12 5).bind fun v4 =>
  (tpF q1.2 a0 12 5 (.int a1)).bind fun h6 =>
  (tgR h6 a0 12 6).bind fun v8 =>
  (tpF h6 v8 10 5 (.int 0)).bind fun h10 =>
  some (v4, h10))
/-! HeaveSongs.count(I)I -/
def t_X11_count (a0 : Nat) (a1 : Int32) (h : CH) : Option (Int32 × CH) :=
  if a1 = 0 then ((tgR h a0 12 1).bind fun v2 =>
  (tcl h v2 0).bind fun _ =>
  (t_Jx4a65c_size_8abf5 v2 h).bind fun q4 =>
  some (q4.1, q4.2)) else (if a1 = 1 then ((tgR h a0 12 2).bind fun v8 =>
  (tgI h v8 1 6).bind fun v10 =>
  some (v10, h)) else (if a1 = 2 then ((tgR h a0 12 2).bind fun v13 =>
  (tgI h v13 1 7).bind fun v15 =>
  some (v15, h)) else (if a1 = 3 then ((tgR h a0 12 2).bind fun v18 =>
  (tgI h v18 1 8).bind fun v20 =>
  some (v20, h)) else (if a1 = 4 then ((tgR h a0 12 4).bind fun v23 =>
  (tcl h v23 0).bind fun _ =>
  (t_Jx4a65c_size_8abf5 v23 h).bind fun q25 =>
  some (q25.1, q25.2)) else (if a1 = 5 then ((tgR h a0 12 7).bind fun v29 =>
  (tcl h v29 0).bind fun _ =>
  (t_Jx4a65c_size_8abf5 v29 h).bind fun q31 =>
  some (q31.1, q31.2)) else (if a1 = 6 then ((tgR h a0 12 9).bind fun v35 =>
  (tgI h v35 6 2).bind fun v37 =>
  some (v37, h)) else (if a1 = 7 then ((tgR h a0 12 0).bind fun v40 =>
  (tgI h v40 7 1).bind fun v42 =>
  some (v42, h)) else (if a1 = 8 then ((tgR h a0 12 3).bind fun v45 =>
  (tgI h v45 2 7).bind fun v47 =>
  some (v47, h)) else (some ((-2), h))))))))))
/-! HeaveSongs.crew(I)I -/
def t_X11_crew (a0 : Nat) (a1 : Int32) (h : CH) : Option (Int32 × CH) :=
  (tgR h a0 12 2).bind fun v1 =>
  (tcl h v1 1).bind fun _ =>
  (t_X0_allSet v1 h).bind fun q3 =>
  (t_X11_within a1 0 q3.1 q3.2).bind fun q6 =>
  if q6.1 = 0 then (some ((-2), q6.2)) else ((tgR q6.2 a0 12 2).bind fun v9 =>
  (tgI q6.2 v9 1 7).bind fun v11 =>
  (tgR q6.2 a0 12 2).bind fun v13 =>
  (tpF q6.2 v13 1 7 (.int a1)).bind fun h15 =>
  (tgR h15 a0 12 6).bind fun v17 =>
  (tpF h15 v17 10 5 (.int 0)).bind fun h19 =>
  some (v11, h19))
/-! HeaveSongs$Row.mixedInto(J)J -/
def t_X6_mixedInto_L5 (x0 : Nat) (s : Int64 × Int32 × CH) : Option ((Int64 × Int32 × CH) ⊕ ((Int64 × CH))) :=
  (tgI s.2.2 x0 7 1).bind fun v1 =>
  if v1 ≤ s.2.1 then (some (.inr ((s.1, s.2.2)))) else ((tgR s.2.2 x0 7 0).bind fun v4 =>
  (tld s.2.2 0 v4 s.2.1).bind fun v6 =>
  some (.inl ((31 * s.1) + v6.toInt64, s.2.1 + 1, s.2.2)))
def t_X6_mixedInto (a0 : Nat) (a1 : Int64) (h : CH) : Option (Int64 × CH) :=
  (iter (t_X6_mixedInto_L5 a0) 100000 (a1, 0, h)).bind fun e8 =>
  some (e8.1, e8.2)
/-! HeaveSongs$Song.mixedInto(J)J -/
def t_X7_mixedInto (a0 : Nat) (a1 : Int64) (h : CH) : Option (Int64 × CH) :=
  (tgR h a0 8 0).bind fun v1 =>
  (tgI h v1 7 1).bind fun v3 =>
  (tgR h a0 8 1).bind fun v5 =>
  (tgI h v5 7 1).bind fun v7 =>
  (tgR h a0 8 1).bind fun v9 =>
  (tgR h a0 8 0).bind fun v11 =>
  (tcl h v11 7).bind fun _ =>
  (t_X6_mixedInto v11 ((31 * ((31 * a1) + v3.toInt64)) + v7.toInt64) h).bind fun q13 =>
  (tcl q13.2 v9 7).bind fun _ =>
  (t_X6_mixedInto v9 q13.1 q13.2).bind fun q16 =>
  some (q16.1, q16.2)
/-! HeaveSongs$Haul.mixedInto(J)J -/
def t_X1_mixedInto_L5 (x0 : Nat) (s : Int64 × Int32 × CH) : Option ((Int64 × Int32 × CH) ⊕ ((Int64 × CH))) :=
  (tgI s.2.2 x0 2 7).bind fun v1 =>
  if v1 ≤ s.2.1 then (some (.inr ((s.1, s.2.2)))) else ((tgR s.2.2 x0 2 2).bind fun v4 =>
  (tld s.2.2 0 v4 s.2.1).bind fun v6 =>
  some (.inl ((31 * s.1) + v6.toInt64, s.2.1 + 1, s.2.2)))
def t_X1_mixedInto_L38 (x0 : Nat) (s : Int64 × Int32 × CH) : Option ((Int64 × Int32 × CH) ⊕ ((Int64 × CH))) :=
  (tgI s.2.2 x0 2 7).bind fun v10 =>
  if v10 ≤ s.2.1 then (some (.inr ((s.1, s.2.2)))) else ((tgR s.2.2 x0 2 3).bind fun v13 =>
  (tld s.2.2 0 v13 s.2.1).bind fun v15 =>
  some (.inl ((31 * s.1) + v15.toInt64, s.2.1 + 1, s.2.2)))
def t_X1_mixedInto (a0 : Nat) (a1 : Int64) (h : CH) : Option (Int64 × CH) :=
  (iter (t_X1_mixedInto_L5 a0) 100000 (a1, 0, h)).bind fun e8 =>
  (iter (t_X1_mixedInto_L38 a0) 100000 (e8.1, 0, e8.2)).bind fun e17 =>
  some (e17.1, e17.2)
/-! HeaveSongs$Task.mixedInto(J)J -/
def t_X8_mixedInto (a0 : Nat) (a1 : Int64) (h : CH) : Option (Int64 × CH) :=
  (tgI h a0 9 0).bind fun v1 =>
  (tgI h a0 9 1).bind fun v3 =>
  (tgI h a0 9 2).bind fun v5 =>
  some ((31 * ((31 * ((31 * a1) + v1.toInt64)) + v3.toInt64)) + v5.toInt64, h)
/-! HeaveSongs$Marks.mixedInto(J)J -/
def t_X5_mixedInto_L5 (x0 : Nat) (s : Int64 × Int32 × CH) : Option ((Int64 × Int32 × CH) ⊕ ((Int64 × CH))) :=
  (tgI s.2.2 x0 6 2).bind fun v1 =>
  if v1 ≤ s.2.1 then (some (.inr ((s.1, s.2.2)))) else ((tgR s.2.2 x0 6 0).bind fun v4 =>
  (tld s.2.2 0 v4 s.2.1).bind fun v6 =>
  (tgR s.2.2 x0 6 1).bind fun v8 =>
  (tld s.2.2 0 v8 s.2.1).bind fun v10 =>
  some (.inl ((31 * ((31 * s.1) + v6.toInt64)) + v10.toInt64, s.2.1 + 1, s.2.2)))
def t_X5_mixedInto (a0 : Nat) (a1 : Int64) (h : CH) : Option (Int64 × CH) :=
  (iter (t_X5_mixedInto_L5 a0) 100000 (a1, 0, h)).bind fun e12 =>
  some (e12.1, e12.2)
/-! HeaveSongs.digest()J -/
def t_X11_digest_L6 (x0 : Nat) (s : Int64 × Int32 × CH) : Option ((Int64 × Int32 × CH) ⊕ ((Int64 × CH))) :=
  if 8 < s.2.1 then (some (.inr ((s.1, s.2.2)))) else ((tcl s.2.2 x0 12).bind fun _ =>
  (t_X11_count x0 s.2.1 s.2.2).bind fun q2 =>
  some (.inl ((31 * s.1) + q2.1.toInt64, s.2.1 + 1, q2.2)))
def t_X11_digest_L42 (x0 : Nat) (s : Int64 × Int32 × CH) : Option ((Int64 × Int32 × CH) ⊕ ((Int64 × CH))) :=
  (tgR s.2.2 x0 12 1).bind fun v12 =>
  (tcl s.2.2 v12 0).bind fun _ =>
  (t_Jx4a65c_size_8abf5 v12 s.2.2).bind fun q14 =>
  if q14.1 ≤ s.2.1 then (some (.inr ((s.1, q14.2)))) else ((tgR q14.2 x0 12 1).bind fun v18 =>
  (tcl q14.2 v18 0).bind fun _ =>
  (t_Jx4a65c_get_915e3 v18 s.2.1 q14.2).bind fun q20 =>
  (tcl q20.2 q20.1 8).bind fun _ =>
  (tcl q20.2 q20.1 8).bind fun _ =>
  (t_X7_mixedInto q20.1 s.1 q20.2).bind fun q24 =>
  some (.inl (q24.1, s.2.1 + 1, q24.2)))
def t_X11_digest_L95 (x0 : Nat) (s : Int64 × Int32 × CH) : Option ((Int64 × Int32 × CH) ⊕ ((Int64 × CH))) :=
  (tgR s.2.2 x0 12 4).bind fun v39 =>
  (tcl s.2.2 v39 0).bind fun _ =>
  (t_Jx4a65c_size_8abf5 v39 s.2.2).bind fun q41 =>
  if q41.1 ≤ s.2.1 then (some (.inr ((s.1, q41.2)))) else ((tgR q41.2 x0 12 4).bind fun v45 =>
  (tcl q41.2 v45 0).bind fun _ =>
  (t_Jx4a65c_get_915e3 v45 s.2.1 q41.2).bind fun q47 =>
  (tcl q47.2 q47.1 9).bind fun _ =>
  (tcl q47.2 q47.1 9).bind fun _ =>
  (t_X8_mixedInto q47.1 s.1 q47.2).bind fun q51 =>
  some (.inl (q51.1, s.2.1 + 1, q51.2)))
def t_X11_digest_L130 (x0 : Nat) (s : Int64 × Int32 × CH) : Option ((Int64 × Int32 × CH) ⊕ ((Int64 × CH))) :=
  (tgR s.2.2 x0 12 7).bind fun v56 =>
  (tcl s.2.2 v56 0).bind fun _ =>
  (t_Jx4a65c_size_8abf5 v56 s.2.2).bind fun q58 =>
  if q58.1 ≤ s.2.1 then (some (.inr ((s.1, q58.2)))) else ((tgR q58.2 x0 12 7).bind fun v62 =>
  (tcl q58.2 v62 0).bind fun _ =>
  (t_Jx4a65c_get_915e3 v62 s.2.1 q58.2).bind fun q64 =>
  (tcl q64.2 q64.1 11).bind fun _ =>
  (tcl q64.2 q64.1 11).bind fun _ =>
  (t_X10_mixedInto q64.1 s.1 q64.2).bind fun q68 =>
  some (.inl (q68.1, s.2.1 + 1, q68.2)))
def t_X11_digest (a0 : Nat) (h : CH) : Option (Int64 × CH) :=
  (iter (t_X11_digest_L6 a0) 100000 (283, 0, h)).bind fun e5 =>
  (tgR e5.2 a0 12 0).bind fun v7 =>
  (tcl e5.2 v7 7).bind fun _ =>
  (t_X6_mixedInto v7 e5.1 e5.2).bind fun q9 =>
  (iter (t_X11_digest_L42 a0) 100000 (q9.1, 0, q9.2)).bind fun e27 =>
  (tgR e27.2 a0 12 2).bind fun v29 =>
  (tcl e27.2 v29 1).bind fun _ =>
  (t_X0_mixedInto v29 e27.1 e27.2).bind fun q31 =>
  (tgR q31.2 a0 12 3).bind fun v34 =>
  (tcl q31.2 v34 2).bind fun _ =>
  (t_X1_mixedInto v34 q31.1 q31.2).bind fun q36 =>
  (iter (t_X11_digest_L95 a0) 100000 (q36.1, 0, q36.2)).bind fun e54 =>
  (iter (t_X11_digest_L130 a0) 100000 (e54.1, 0, e54.2)).bind fun e71 =>
  (tgR e71.2 a0 12 9).bind fun v73 =>
  (tcl e71.2 v73 6).bind fun _ =>
  (t_X5_mixedInto v73 e71.1 e71.2).bind fun q75 =>
  some (q75.1, q75.2)
/-! HeaveSongs.floor(I)I -/
def t_X11_floor (a0 : Nat) (a1 : Int32) (h : CH) : Option (Int32 × CH) :=
  (t_X11_within a1 0 100 h).bind fun q1 =>
  if q1.1 = 0 then (some ((-2), q1.2)) else ((tgR q1.2 a0 12 2).bind fun v4 =>
  (tgI q1.2 v4 1 8).bind fun v6 =>
  (tgR q1.2 a0 12 2).bind fun v8 =>
  (tpF q1.2 v8 1 8 (.int a1)).bind fun h10 =>
  (tgR h10 a0 12 6).bind fun v12 =>
  (tpF h10 v12 10 5 (.int 0)).bind fun h14 =>
  some (v6, h14))
/-! HeaveSongs.ofLatest([II)I -/
def t_X11_ofLatest (a0 : Nat) (a1 : Nat) (a2 : Int32) (h : CH) : Option (Int32 × CH) :=
  if 0 ≤ a2 then ((tgR h a0 12 3).bind fun v2 =>
  (tgI h v2 2 7).bind fun v4 =>
  if v4 ≤ a2 then (some ((-1), h)) else ((tlen h a1).bind fun v7 =>
  if v7 ≤ a2 then (some ((-1), h)) else ((tld h 0 a1 a2).bind fun v10 =>
  some (v10, h)))) else (some ((-2), h))
/-! HeaveSongs.force(I)I -/
def t_X11_force (a0 : Nat) (a1 : Int32) (h : CH) : Option (Int32 × CH) :=
  (tgR h a0 12 3).bind fun v1 =>
  (tgR h v1 2 3).bind fun v3 =>
  (tcl h a0 12).bind fun _ =>
  (t_X11_ofLatest a0 v3 a1 h).bind fun q5 =>
  some (q5.1, q5.2)
/-! HeaveSongs.hand(IIII)I -/
def t_X11_hand (a0 : Nat) (a1 : Int32) (a2 : Int32) (a3 : Int32) (a4 : Int32) (h : CH) : Option (Int32 × CH) :=
  (t_X11_within a1 1 100 h).bind fun q1 =>
  if q1.1 = 0 then (some ((-2), q1.2)) else ((t_X11_within a2 0 30 q1.2).bind fun q4 =>
  if q4.1 = 0 then (some ((-2), q4.2)) else ((t_X11_within a3 0 30 q4.2).bind fun q7 =>
  if q7.1 = 0 then (some ((-2), q7.2)) else ((t_X11_within a4 0 30 q7.2).bind fun q10 =>
  if q10.1 = 0 then (some ((-2), q10.2)) else ((tgR q10.2 a0 12 2).bind fun v13 =>
  (tcl q10.2 v13 1).bind fun _ =>
  (t_X0_add v13 a1 a2 a3 a4 q10.2).bind fun q15 =>
  if q15.1 = 0 then (some ((-4), q15.2)) else ((tgR q15.2 a0 12 6).bind fun v19 =>
  (tpF q15.2 v19 10 5 (.int 0)).bind fun h21 =>
  (tgR h21 a0 12 2).bind fun v23 =>
  (tgI h21 v23 1 6).bind fun v25 =>
  some (v25 - 1, h21))))))
/-! HeaveSongs$Kin.hangNearest(Ljava/util/ArrayList;)I -/
def t_X2_hangNearest_L30 (x0 : Nat) (x1 : Nat) (x5 : Int32) (s : Int32 × Int32 × Int32 × Int32 × CH) : Option ((Int32 × Int32 × Int32 × Int32 × CH) ⊕ ((Int32 × Int32 × Int32 × CH))) :=
  (tcl s.2.2.2.2 x1 0).bind fun _ =>
  (t_Jx4a65c_size_8abf5 x1 s.2.2.2.2).bind fun q6 =>
  if q6.1 ≤ s.2.2.2.1 then (some (.inr ((s.1, s.2.1, s.2.2.1, q6.2)))) else (if 6 ≤ s.2.2.2.1 then (some (.inr ((s.1, s.2.1, s.2.2.1, q6.2)))) else ((tgR q6.2 x0 3 2).bind fun v11 =>
  (tld q6.2 2 v11 x5).bind fun v13 =>
  if v13 = 0 then ((tgR q6.2 x0 3 2).bind fun v16 =>
  (tld q6.2 2 v16 s.2.2.2.1).bind fun v18 =>
  if v18 = 0 then (some (.inl (s.1, s.2.1, s.2.2.1, s.2.2.2.1 + 1, q6.2))) else ((tcl q6.2 x1 0).bind fun _ =>
  (t_Jx4a65c_get_915e3 x1 x5 q6.2).bind fun q21 =>
  (tcl q21.2 q21.1 8).bind fun _ =>
  (tcl q21.2 x1 0).bind fun _ =>
  (t_Jx4a65c_get_915e3 x1 s.2.2.2.1 q21.2).bind fun q25 =>
  (tcl q25.2 q25.1 8).bind fun _ =>
  (tcl q25.2 x0 3).bind fun _ =>
  (t_X2_distance x0 q21.1 q25.1 q25.2).bind fun q29 =>
  if s.1 ≤ q29.1 then (some (.inl (s.1, s.2.1, s.2.2.1, s.2.2.2.1 + 1, q29.2))) else (some (.inl (q29.1, x5, s.2.2.2.1, s.2.2.2.1 + 1, q29.2))))) else (some (.inl (s.1, s.2.1, s.2.2.1, s.2.2.2.1 + 1, q6.2)))))
def t_X2_hangNearest_L11 (x0 : Nat) (x1 : Nat) (s : Int32 × Int32 × Int32 × Int32 × CH) : Option ((Int32 × Int32 × Int32 × Int32 × CH) ⊕ ((Int32 × Int32 × Int32 × CH))) :=
  (tcl s.2.2.2.2 x1 0).bind fun _ =>
  (t_Jx4a65c_size_8abf5 x1 s.2.2.2.2).bind fun q1 =>
  if q1.1 ≤ s.2.2.2.1 then (some (.inr ((s.1, s.2.1, s.2.2.1, q1.2)))) else (if 6 ≤ s.2.2.2.1 then (some (.inr ((s.1, s.2.1, s.2.2.1, q1.2)))) else ((iter (t_X2_hangNearest_L30 x0 x1 s.2.2.2.1) 100000 (s.1, s.2.1, s.2.2.1, 0, q1.2)).bind fun e33 =>
  some (.inl (e33.1, e33.2.1, e33.2.2.1, s.2.2.2.1 + 1, e33.2.2.2))))
def t_X2_hangNearest (a0 : Nat) (a1 : Nat) (h : CH) : Option (Int32 × CH) :=
  (iter (t_X2_hangNearest_L11 a0 a1) 100000 (1000000000, 0, (-1), 0, h)).bind fun e35 =>
  (tgR e35.2.2.2 a0 3 2).bind fun v37 =>
  (tst e35.2.2.2 2 v37 e35.2.1 1).bind fun h39 =>
  (tgR h39 a0 3 1).bind fun v41 =>
  (tst h39 0 v41 e35.2.1 e35.2.2.1).bind fun h43 =>
  some (e35.1, h43)
/-! HeaveSongs$Kin.growTree(Ljava/util/ArrayList;)I -/
def t_X2_growTree_L2_J22 (x0 : Nat) (x1 : Nat) (y2 : Int32) (z0 : Int32) (z1 : Int32) (z2 : Nat) (h : CH) : Option ((Int32 × CH) ⊕ ((CH))) :=
  (hzb z0).bind fun _ =>
  (tst h 2 z2 z1 z0).bind fun h5 =>
  (tgR h5 x0 3 1).bind fun v8 =>
  (tst h5 0 v8 y2 (-1)).bind fun h10 =>
  some (.inl (y2 + 1, h10))
def t_X2_growTree_L2 (x0 : Nat) (x1 : Nat) (s : Int32 × CH) : Option ((Int32 × CH) ⊕ ((CH))) :=
  if 6 ≤ s.1 then (some (.inr (s.2))) else ((tgR s.2 x0 3 2).bind fun v2 =>
  if s.1 = 0 then (t_X2_growTree_L2_J22 x0 x1 s.1 1 s.1 v2 s.2) else (t_X2_growTree_L2_J22 x0 x1 s.1 0 s.1 v2 s.2))
def t_X2_growTree_L40 (x0 : Nat) (x1 : Nat) (s : Int32 × Int32 × CH) : Option ((Int32 × Int32 × CH) ⊕ ((Int32 × CH))) :=
  (tcl s.2.2 x1 0).bind fun _ =>
  (t_Jx4a65c_size_8abf5 x1 s.2.2).bind fun q14 =>
  if q14.1 ≤ s.2.1 then (some (.inr ((s.1, q14.2)))) else ((tcl q14.2 x0 3).bind fun _ =>
  (t_X2_hangNearest x0 x1 q14.2).bind fun q18 =>
  some (.inl (s.1 + q18.1, s.2.1 + 1, q18.2)))
def t_X2_growTree (a0 : Nat) (a1 : Nat) (h : CH) : Option (Int32 × CH) :=
  (iter (t_X2_growTree_L2 a0 a1) 100000 (0, h)).bind fun e12 =>
  (iter (t_X2_growTree_L40 a0 a1) 100000 (0, 1, e12)).bind fun e21 =>
  some (e21.1, e21.2)
/-! HeaveSongs.hangs(I)I -/
def t_X11_hangs (a0 : Nat) (a1 : Int32) (h : CH) : Option (Int32 × CH) :=
  (tgR h a0 12 1).bind fun v1 =>
  (tcl h v1 0).bind fun _ =>
  (t_Jx4a65c_size_8abf5 v1 h).bind fun q3 =>
  (t_X11_within a1 0 (q3.1 - 1) q3.2).bind fun q6 =>
  if q6.1 = 0 then (some ((-2), q6.2)) else ((tgR q6.2 a0 12 11).bind fun v9 =>
  (tgR q6.2 a0 12 1).bind fun v11 =>
  (tcl q6.2 v9 3).bind fun _ =>
  (t_X2_growTree v9 v11 q6.2).bind fun q13 =>
  (tgR q13.2 a0 12 11).bind fun v16 =>
  (tgR q13.2 v16 3 1).bind fun v18 =>
  (tld q13.2 0 v18 a1).bind fun v20 =>
  some (v20, q13.2))
/-! HeaveSongs.isWeight(II)Z -/
def t_X11_isWeight (a0 : Int32) (a1 : Int32) (h : CH) : Option (Int32 × CH) :=
  (t_X11_within a0 0 1000 h).bind fun q1 =>
  if q1.1 = 0 then (some (0, q1.2)) else ((t_X11_within a1 0 50 q1.2).bind fun q4 =>
  if q4.1 = 0 then (some (0, q4.2)) else (some (1, q4.2)))
/-! HeaveSongs.isTask(III)Z -/
def t_X11_isTask (a0 : Int32) (a1 : Int32) (a2 : Int32) (h : CH) : Option (Int32 × CH) :=
  (t_X11_within a0 1 3000 h).bind fun q1 =>
  if q1.1 = 0 then (some (0, q1.2)) else ((t_X11_isWeight a1 a2 q1.2).bind fun q4 =>
  if q4.1 = 0 then (some (0, q4.2)) else (some (1, q4.2)))
/-! HeaveSongs$Task.<init>(III)V -/
def t_X8_init (a0 : Nat) (a1 : Int32) (a2 : Int32) (a3 : Int32) (h : CH) : Option (CH) :=
  (tpF h a0 9 0 (.int a1)).bind fun h1 =>
  (tpF h1 a0 9 1 (.int a2)).bind fun h3 =>
  (tpF h3 a0 9 2 (.int a3)).bind fun h5 =>
  some h5
/-! HeaveSongs.haul(IIII)I -/
def t_X11_haul (a0 : Nat) (a1 : Int32) (a2 : Int32) (a3 : Int32) (a4 : Int32) (h : CH) : Option (Int32 × CH) :=
  (tcl h a0 12).bind fun _ =>
  (t_X11_songOf a0 a1 h).bind fun q1 =>
  Option.elim q1.1 (some ((-2), q1.2)) (fun a5 => (t_X11_isTask a2 a3 a4 q1.2).bind fun q6 =>
  if q6.1 = 0 then (some ((-2), q6.2)) else ((tgR q6.2 a0 12 3).bind fun v9 =>
  (tgR q6.2 a0 12 2).bind fun v11 =>
  (tcl q6.2 v9 2).bind fun _ =>
  (t_X1_beginAsTold v9 v11 q6.2).bind fun q13 =>
  (tgR q13 a0 12 3).bind fun v16 =>
  (tgR q13 a0 12 2).bind fun v18 =>
  (t_X8_init q13.1 a2 a3 a4 (tnew q13 (.inr (9, [.int 0, .int 0, .int 0])))).bind fun q20 =>
  (tcl q20 v16 2).bind fun _ =>
  (t_X1_go v16 v18 a5 q13.1 300 q20).bind fun q22 =>
  (tgR q22.2 a0 12 3).bind fun v25 =>
  (tgR q22.2 v25 2 0).bind fun v27 =>
  (tgR q22.2 a0 12 2).bind fun v29 =>
  (tgR q22.2 v29 1 5).bind fun v31 =>
  (t_X11_copy v27 v31 q22.2).bind fun q33 =>
  (tgR q33 a0 12 6).bind fun v35 =>
  (tpF q33 v35 10 5 (.int 0)).bind fun h37 =>
  if q22.1 = 0 then ((tgR h37 a0 12 3).bind fun v40 =>
  (tgI h37 v40 2 7).bind fun v42 =>
  some ((-10) - v42, h37)) else ((tgR h37 a0 12 3).bind fun v44 =>
  (tgI h37 v44 2 7).bind fun v46 =>
  some (v46, h37))))
/-! HeaveSongs$Row.<init>()V -/
def t_X6_init (a0 : Nat) (h : CH) : Option (CH) :=
  (tpF (tnew h (.inl (0, 24, .inl fun _ => 0))) a0 7 0 (.ref h.1)).bind fun h1 =>
  some h1
/-! HeaveSongs$Haul.<init>()V -/
def t_X1_init (a0 : Nat) (h : CH) : Option (CH) :=
  (tpF (tnew h (.inl (0, 10, .inl fun _ => 0))) a0 2 0 (.ref h.1)).bind fun h1 =>
  (tpF (tnew h1 (.inl (0, 10, .inl fun _ => 0))) a0 2 1 (.ref h1.1)).bind fun h3 =>
  (tpF (tnew h3 (.inl (0, 300, .inl fun _ => 0))) a0 2 2 (.ref h3.1)).bind fun h5 =>
  (tpF (tnew h5 (.inl (0, 300, .inl fun _ => 0))) a0 2 3 (.ref h5.1)).bind fun h7 =>
  (tpF (tnew h7 (.inl (0, 4, .inl fun _ => 0))) a0 2 4 (.ref h7.1)).bind fun h9 =>
  some h9
/-! HeaveSongs$TaskSearch.<init>()V -/
def t_X9_init (a0 : Nat) (h : CH) : Option (CH) :=
  (t_X1_init h.1 (tnew h (.inr (2, [.null, .null, .null, .null, .null, .int 0, .int 0, .int 0])))).bind fun q1 =>
  (tpF q1 a0 10 0 (.ref h.1)).bind fun h3 =>
  (tpF (tnews h3 (hmulti h3.1 4 10)) a0 10 1 (.ref h3.1)).bind fun h5 =>
  (tpF (tnew h5 (.inl (0, 4, .inl fun _ => 0))) a0 10 2 (.ref h5.1)).bind fun h7 =>
  (tpF (tnew h7 (.inl (0, 4, .inl fun _ => 0))) a0 10 3 (.ref h7.1)).bind fun h9 =>
  (tpF h9 a0 10 4 (.int 1000000000)).bind fun h11 =>
  (tpF h11 a0 10 7 (.int 1000000000)).bind fun h13 =>
  some h13
/-! HeaveSongs$LineMaker.<init>()V -/
def t_X4_init (a0 : Nat) (h : CH) : Option (CH) :=
  (tpF (tnew h (.inl (1, 25, .inr (.inl fun _ => 0)))) a0 5 0 (.ref h.1)).bind fun h1 =>
  (tpF (tnew h1 (.inl (0, 25, .inl fun _ => 0))) a0 5 1 (.ref h1.1)).bind fun h3 =>
  (tpF (tnew h3 (.inl (0, 24, .inl fun _ => 0))) a0 5 2 (.ref h3.1)).bind fun h5 =>
  some h5
/-! HeaveSongs$Marks.<init>()V -/
def t_X5_init (a0 : Nat) (h : CH) : Option (CH) :=
  (tpF (tnew h (.inl (0, 60, .inl fun _ => 0))) a0 6 0 (.ref h.1)).bind fun h1 =>
  (tpF (tnew h1 (.inl (0, 60, .inl fun _ => 0))) a0 6 1 (.ref h1.1)).bind fun h3 =>
  some h3
/-! HeaveSongs$LateSearch.<init>()V -/
def t_X3_init (a0 : Nat) (h : CH) : Option (CH) :=
  (t_X1_init h.1 (tnew h (.inr (2, [.null, .null, .null, .null, .null, .int 0, .int 0, .int 0])))).bind fun q1 =>
  (tpF q1 a0 4 0 (.ref h.1)).bind fun h3 =>
  some h3
/-! HeaveSongs$Kin.<init>()V -/
def t_X2_init (a0 : Nat) (h : CH) : Option (CH) :=
  (tpF (tnew h (.inl (0, 25, .inl fun _ => 0))) a0 3 0 (.ref h.1)).bind fun h1 =>
  (tpF (tnew h1 (.inl (0, 6, .inl fun _ => 0))) a0 3 1 (.ref h1.1)).bind fun h3 =>
  (tpF (tnew h3 (.inl (2, 6, .inl fun _ => 0))) a0 3 2 (.ref h3.1)).bind fun h5 =>
  some h5
/-! HeaveSongs.<init>()V -/
def t_X11_init (a0 : Nat) (h : CH) : Option (CH) :=
  (t_X6_init h.1 (tnew h (.inr (7, [.null, .int 0])))).bind fun q1 =>
  (tpF q1 a0 12 0 (.ref h.1)).bind fun h3 =>
  (t_Jx4a65c_init_da8c8 h3.1 (tnew h3 (.inr (0, [.int 0, .null, .int 0])))).bind fun q5 =>
  (tpF q5 a0 12 1 (.ref h3.1)).bind fun h7 =>
  (t_X0_init h7.1 (tnew h7 (.inr (1, [.null, .null, .null, .null, .null, .null, .int 0, .int 0, .int 0])))).bind fun q9 =>
  (tpF q9 a0 12 2 (.ref h7.1)).bind fun h11 =>
  (t_X1_init h11.1 (tnew h11 (.inr (2, [.null, .null, .null, .null, .null, .int 0, .int 0, .int 0])))).bind fun q13 =>
  (tpF q13 a0 12 3 (.ref h11.1)).bind fun h15 =>
  (t_Jx4a65c_init_da8c8 h15.1 (tnew h15 (.inr (0, [.int 0, .null, .int 0])))).bind fun q17 =>
  (tpF q17 a0 12 4 (.ref h15.1)).bind fun h19 =>
  (t_X9_init h19.1 (tnew h19 (.inr (10, [.null, .null, .null, .null, .int 0, .int 0, .int 0, .int 0, .int 0])))).bind fun q21 =>
  (tpF q21 a0 12 6 (.ref h19.1)).bind fun h23 =>
  (t_Jx4a65c_init_da8c8 h23.1 (tnew h23 (.inr (0, [.int 0, .null, .int 0])))).bind fun q25 =>
  (tpF q25 a0 12 7 (.ref h23.1)).bind fun h27 =>
  (t_X4_init h27.1 (tnew h27 (.inr (5, [.null, .null, .null, .int 0, .long 0])))).bind fun q29 =>
  (tpF q29 a0 12 8 (.ref h27.1)).bind fun h31 =>
  (t_X5_init h31.1 (tnew h31 (.inr (6, [.null, .null, .int 0])))).bind fun q33 =>
  (tpF q33 a0 12 9 (.ref h31.1)).bind fun h35 =>
  (t_X3_init h35.1 (tnew h35 (.inr (4, [.null, .int 0, .int 0, .int 0, .int 0, .int 0])))).bind fun q37 =>
  (tpF q37 a0 12 10 (.ref h35.1)).bind fun h39 =>
  (t_X2_init h39.1 (tnew h39 (.inr (3, [.null, .null, .null])))).bind fun q41 =>
  (tpF q41 a0 12 11 (.ref h39.1)).bind fun h43 =>
  some h43
/-! HeaveSongs.late(II)I -/
def t_X11_late (a0 : Nat) (a1 : Int32) (a2 : Int32) (h : CH) : Option (Int32 × CH) :=
  (tgR h a0 12 2).bind fun v1 =>
  (tcl h v1 1).bind fun _ =>
  (t_X0_has v1 a1 h).bind fun q3 =>
  if q3.1 = 0 then (some ((-2), q3.2)) else ((t_X11_within a2 0 3 q3.2).bind fun q7 =>
  if q7.1 = 0 then (some ((-2), q7.2)) else ((tgR q7.2 a0 12 2).bind fun v10 =>
  (tgR q7.2 v10 1 4).bind fun v12 =>
  (tld q7.2 0 v12 a1).bind fun v14 =>
  (tgR q7.2 a0 12 2).bind fun v16 =>
  (tgR q7.2 v16 1 4).bind fun v18 =>
  (tst q7.2 0 v18 a1 a2).bind fun h20 =>
  (tgR h20 a0 12 6).bind fun v22 =>
  (tpF h20 v22 10 5 (.int 0)).bind fun h24 =>
  some (v14, h24)))
/-! HeaveSongs$LineMaker.countWays(LHeaveSongs$Row;Ljava/util/ArrayList;I)J -/
def t_X4_countWays_L6 (x0 : Nat) (x1 : Nat) (x2 : Nat) (x3 : Int32) (s : Int64 × Int32 × CH) : Option ((Int64 × Int32 × CH) ⊕ ((Int64 × CH))) :=
  (tcl s.2.2 x2 0).bind fun _ =>
  (t_Jx4a65c_size_8abf5 x2 s.2.2).bind fun q1 =>
  if q1.1 ≤ s.2.1 then (some (.inr ((s.1, q1.2)))) else ((tcl q1.2 x2 0).bind fun _ =>
  (t_Jx4a65c_get_915e3 x2 s.2.1 q1.2).bind fun q5 =>
  (tcl q5.2 q5.1 11).bind fun _ =>
  (tcl q5.2 q5.1 11).bind fun _ =>
  (t_X10_wrongIfSungFrom q5.1 x1 x3 q5.2).bind fun q9 =>
  if q9.1 = 0 then ((tgR q9.2 x0 5 0).bind fun v13 =>
  (tgI q9.2 q5.1 11 0).bind fun v15 =>
  (tldJ q9.2 v13 (x3 + v15)).bind fun v17 =>
  some (.inl (if (s.1 + v17) < 1000000000000000 then (s.1 + v17) else 1000000000000000, s.2.1 + 1, q9.2))) else (some (.inl (s.1, s.2.1 + 1, q9.2))))
def t_X4_countWays (a0 : Nat) (a1 : Nat) (a2 : Nat) (a3 : Int32) (h : CH) : Option (Int64 × CH) :=
  (iter (t_X4_countWays_L6 a0 a1 a2 a3) 100000 (0, 0, h)).bind fun e19 =>
  some (e19.1, e19.2)
/-! HeaveSongs$LineMaker.howMany(LHeaveSongs$Row;Ljava/util/ArrayList;)J -/
def t_X4_howMany_L17 (x0 : Nat) (x1 : Nat) (x2 : Nat) (s : Int32 × CH) : Option ((Int32 × CH) ⊕ ((CH))) :=
  if s.1 < 0 then (some (.inr (s.2))) else ((tgR s.2 x0 5 0).bind fun v10 =>
  (tgR s.2 x1 7 0).bind fun v12 =>
  (tld s.2 0 v12 s.1).bind fun v14 =>
  (t_X11_isSilent v14 s.2).bind fun q16 =>
  if q16.1 = 0 then ((tcl q16.2 x0 5).bind fun _ =>
  (t_X4_countWays x0 x1 x2 s.1 q16.2).bind fun q19 =>
  (tstJ q19.2 v10 s.1 q19.1).bind fun h22 =>
  some (.inl (s.1 + (-1), h22))) else ((tgR q16.2 x0 5 0).bind fun v24 =>
  (tldJ q16.2 v24 (s.1 + 1)).bind fun v26 =>
  (tstJ q16.2 v10 s.1 v26).bind fun h28 =>
  some (.inl (s.1 + (-1), h28))))
def t_X4_howMany (a0 : Nat) (a1 : Nat) (a2 : Nat) (h : CH) : Option (Int64 × CH) :=
  (tgR h a0 5 0).bind fun v1 =>
  (tgI h a1 7 1).bind fun v3 =>
  (tstJ h v1 v3 1).bind fun h5 =>
  (tgI h5 a1 7 1).bind fun v7 =>
  (iter (t_X4_howMany_L17 a0 a1 a2) 100000 (v7 - 1, h5)).bind fun e30 =>
  (tgR e30 a0 5 0).bind fun v32 =>
  (tldJ e30 v32 0).bind fun v34 =>
  some (v34, e30)
/-! HeaveSongs$LineMaker.wrongWith(LHeaveSongs$Word;LHeaveSongs$Row;I)I -/
def t_X4_wrongWith (a0 : Nat) (a1 : Nat) (a2 : Nat) (a3 : Int32) (h : CH) : Option (Int32 × CH) :=
  (tcl h a1 11).bind fun _ =>
  (t_X10_wrongIfSungFrom a1 a2 a3 h).bind fun q1 =>
  if q1.1 = (-1) then (some ((-1), q1.2)) else ((tgR q1.2 a0 5 1).bind fun v5 =>
  (tgI q1.2 a1 11 0).bind fun v7 =>
  (tld q1.2 0 v5 (a3 + v7)).bind fun v9 =>
  if v9 = (-1) then (some ((-1), q1.2)) else ((tgR q1.2 a0 5 1).bind fun v12 =>
  (tgI q1.2 a1 11 0).bind fun v14 =>
  (tld q1.2 0 v12 (a3 + v14)).bind fun v16 =>
  some (q1.1 + v16, q1.2)))
/-! HeaveSongs$LineMaker.nearWord(LHeaveSongs$Row;Ljava/util/ArrayList;I)I -/
def t_X4_nearWord_L3 (x0 : Nat) (x1 : Nat) (x2 : Nat) (x3 : Int32) (s : Int32 × CH) : Option ((Int32 × CH) ⊕ ((CH) ⊕ (Int32 × CH))) :=
  (tcl s.2 x2 0).bind fun _ =>
  (t_Jx4a65c_size_8abf5 x2 s.2).bind fun q1 =>
  if q1.1 ≤ s.1 then (some (.inr (.inl (q1.2)))) else ((tcl q1.2 x2 0).bind fun _ =>
  (t_Jx4a65c_get_915e3 x2 s.1 q1.2).bind fun q5 =>
  (tcl q5.2 q5.1 11).bind fun _ =>
  (tcl q5.2 x0 5).bind fun _ =>
  (t_X4_wrongWith x0 q5.1 x1 x3 q5.2).bind fun q9 =>
  (tgR q9.2 x0 5 1).bind fun v12 =>
  (tld q9.2 0 v12 x3).bind fun v14 =>
  if q9.1 = v14 then (some (.inr (.inr ((s.1, q9.2))))) else (some (.inl (s.1 + 1, q9.2))))
def t_X4_nearWord (a0 : Nat) (a1 : Nat) (a2 : Nat) (a3 : Int32) (h : CH) : Option (Int32 × CH) :=
  (iter (t_X4_nearWord_L3 a0 a1 a2 a3) 100000 (0, h)).bind fun e17 =>
  Sum.elim (fun e19 => some ((-1), e19)) (fun e20 => some (e20.1, e20.2)) e17
/-! HeaveSongs$LineMaker.countedWord(LHeaveSongs$Row;Ljava/util/ArrayList;I)I -/
def t_X4_countedWord_L3 (x0 : Nat) (x1 : Nat) (x2 : Nat) (x3 : Int32) (s : Int32 × CH) : Option ((Int32 × CH) ⊕ ((CH) ⊕ (Int32 × CH))) :=
  (tcl s.2 x2 0).bind fun _ =>
  (t_Jx4a65c_size_8abf5 x2 s.2).bind fun q1 =>
  if q1.1 ≤ s.1 then (some (.inr (.inl (q1.2)))) else ((tcl q1.2 x2 0).bind fun _ =>
  (t_Jx4a65c_get_915e3 x2 s.1 q1.2).bind fun q5 =>
  (tcl q5.2 q5.1 11).bind fun _ =>
  (tcl q5.2 q5.1 11).bind fun _ =>
  (t_X10_wrongIfSungFrom q5.1 x1 x3 q5.2).bind fun q9 =>
  if q9.1 = 0 then ((tgR q9.2 x0 5 0).bind fun v13 =>
  (tgI q9.2 q5.1 11 0).bind fun v15 =>
  (tldJ q9.2 v13 (x3 + v15)).bind fun v17 =>
  (tgJ q9.2 x0 5 4).bind fun v19 =>
  if 0 ≤ (lg_cmp v19 v17) then ((tgJ q9.2 x0 5 4).bind fun v22 =>
  (tpF q9.2 x0 5 4 (.long (v22 - v17))).bind fun h24 =>
  some (.inl (s.1 + 1, h24))) else (some (.inr (.inr ((s.1, q9.2)))))) else (some (.inl (s.1 + 1, q9.2))))
def t_X4_countedWord (a0 : Nat) (a1 : Nat) (a2 : Nat) (a3 : Int32) (h : CH) : Option (Int32 × CH) :=
  (iter (t_X4_countedWord_L3 a0 a1 a2 a3) 100000 (0, h)).bind fun e26 =>
  Sum.elim (fun e28 => some ((-1), e28)) (fun e29 => some (e29.1, e29.2)) e26
/-! HeaveSongs$LineMaker.lay(LHeaveSongs$Row;Ljava/util/ArrayList;Z)V -/
def t_X4_lay_L6_J73 (x0 : Nat) (x1 : Nat) (x2 : Nat) (x3 : Int32) (y5 : Int32) (z0 : Int32) (h : CH) : Option ((Int32 × Int32 × CH) ⊕ ((CH) ⊕ (CH))) :=
  if z0 = (-1) then (some (.inr (.inr (h)))) else ((tgR h x0 5 2).bind fun v24 =>
  (tgI h x0 5 3).bind fun v26 =>
  (tst h 0 v24 v26 z0).bind fun h28 =>
  (tgI h28 x0 5 3).bind fun v30 =>
  (tpF h28 x0 5 3 (.int (v30 + 1))).bind fun h32 =>
  (tcl h32 x2 0).bind fun _ =>
  (t_Jx4a65c_get_915e3 x2 z0 h32).bind fun q34 =>
  (tcl q34.2 q34.1 11).bind fun _ =>
  (tgI q34.2 q34.1 11 0).bind fun v38 =>
  some (.inl (y5 + v38, y5 + 1, q34.2)))
def t_X4_lay_L6 (x0 : Nat) (x1 : Nat) (x2 : Nat) (x3 : Int32) (s : Int32 × Int32 × CH) : Option ((Int32 × Int32 × CH) ⊕ ((CH) ⊕ (CH))) :=
  (tgI s.2.2 x1 7 1).bind fun v1 =>
  if v1 ≤ s.2.1 then (some (.inr (.inl (s.2.2)))) else ((tgI s.2.2 x0 5 3).bind fun v4 =>
  (tgR s.2.2 x0 5 2).bind fun v6 =>
  (tlen s.2.2 v6).bind fun v8 =>
  if v8 ≤ v4 then (some (.inr (.inl (s.2.2)))) else (if s.2.1 < s.1 then (some (.inl (s.1, s.2.1 + 1, s.2.2))) else ((tgR s.2.2 x1 7 0).bind fun v12 =>
  (tld s.2.2 0 v12 s.2.1).bind fun v14 =>
  (t_X11_isSilent v14 s.2.2).bind fun q16 =>
  if q16.1 = 0 then (if x3 = 0 then ((tcl q16.2 x0 5).bind fun _ =>
  (t_X4_countedWord x0 x1 x2 s.2.1 q16.2).bind fun q20 =>
  t_X4_lay_L6_J73 x0 x1 x2 x3 s.2.1 q20.1 q20.2) else ((tcl q16.2 x0 5).bind fun _ =>
  (t_X4_nearWord x0 x1 x2 s.2.1 q16.2).bind fun q40 =>
  t_X4_lay_L6_J73 x0 x1 x2 x3 s.2.1 q40.1 q40.2)) else (some (.inl (s.1, s.2.1 + 1, q16.2))))))
def t_X4_lay (a0 : Nat) (a1 : Nat) (a2 : Nat) (a3 : Int32) (h : CH) : Option (CH) :=
  (iter (t_X4_lay_L6 a0 a1 a2 a3) 100000 (0, 0, h)).bind fun e43 =>
  Sum.elim (fun e45 => some e45) (fun e46 => some e46) e43
/-! HeaveSongs$LineMaker.makeLine(LHeaveSongs$Row;Ljava/util/ArrayList;J)V -/
def t_X4_makeLine (a0 : Nat) (a1 : Nat) (a2 : Nat) (a3 : Int64) (h : CH) : Option (CH) :=
  (tpF h a0 5 3 (.int 0)).bind fun h1 =>
  if (lg_cmp a3 0) < 0 then (some h1) else ((tcl h1 a0 5).bind fun _ =>
  (t_X4_howMany a0 a1 a2 h1).bind fun q4 =>
  if 0 ≤ (lg_cmp a3 q4.1) then (some q4.2) else ((tpF q4.2 a0 5 4 (.long a3)).bind fun h8 =>
  (tcl h8 a0 5).bind fun _ =>
  (t_X4_lay a0 a1 a2 0 h8).bind fun q10 =>
  some q10))
/-! HeaveSongs$LineMaker.wordAt(I)I -/
def t_X4_wordAt (a0 : Nat) (a1 : Int32) (h : CH) : Option (Int32 × CH) :=
  (tgI h a0 5 3).bind fun v1 =>
  (t_X11_within a1 0 (v1 - 1) h).bind fun q3 =>
  if q3.1 = 0 then (some ((-1), q3.2)) else ((tgR q3.2 a0 5 2).bind fun v6 =>
  (tld q3.2 0 v6 a1).bind fun v8 =>
  some (v8, q3.2))
/-! HeaveSongs.lineAt(IJI)I -/
def t_X11_lineAt (a0 : Nat) (a1 : Int32) (a2 : Int64) (a4 : Int32) (h : CH) : Option (Int32 × CH) :=
  (tcl h a0 12).bind fun _ =>
  (t_X11_songOf a0 a1 h).bind fun q1 =>
  Option.elim q1.1 (some ((-2), q1.2)) (fun a5 => if (lg_cmp a2 0) < 0 then (some ((-2), q1.2)) else (if 0 ≤ a4 then ((tgR q1.2 a0 12 8).bind fun v8 =>
  (tgR q1.2 a5 8 0).bind fun v10 =>
  (tgR q1.2 a0 12 7).bind fun v12 =>
  (tcl q1.2 v8 5).bind fun _ =>
  (t_X4_makeLine v8 v10 v12 a2 q1.2).bind fun q14 =>
  (tgR q14 a0 12 8).bind fun v17 =>
  (tcl q14 v17 5).bind fun _ =>
  (t_X4_wordAt v17 a4 q14).bind fun q19 =>
  some (q19.1, q19.2)) else (some ((-2), q1.2))))
/-! HeaveSongs.lines(I)J -/
def t_X11_lines (a0 : Nat) (a1 : Int32) (h : CH) : Option (Int64 × CH) :=
  (tcl h a0 12).bind fun _ =>
  (t_X11_songOf a0 a1 h).bind fun q1 =>
  Option.elim q1.1 (some ((-2), q1.2)) (fun a5 => (tgR q1.2 a0 12 8).bind fun v6 =>
  (tgR q1.2 a5 8 0).bind fun v8 =>
  (tgR q1.2 a0 12 7).bind fun v10 =>
  (tcl q1.2 v6 5).bind fun _ =>
  (t_X4_howMany v6 v8 v10 q1.2).bind fun q12 =>
  some (q12.1, q12.2))
/-! HeaveSongs$Marks.add(II)Z -/
def t_X5_add (a0 : Nat) (a1 : Int32) (a2 : Int32) (h : CH) : Option (Int32 × CH) :=
  (tgI h a0 6 2).bind fun v1 =>
  if v1 < 60 then ((tgR h a0 6 0).bind fun v4 =>
  (tgI h a0 6 2).bind fun v6 =>
  (tst h 0 v4 v6 a1).bind fun h8 =>
  (tgR h8 a0 6 1).bind fun v10 =>
  (tgI h8 a0 6 2).bind fun v12 =>
  (tst h8 0 v10 v12 a2).bind fun h14 =>
  (tgI h14 a0 6 2).bind fun v16 =>
  (tpF h14 a0 6 2 (.int (v16 + 1))).bind fun h18 =>
  some (1, h18)) else (some (0, h))
/-! HeaveSongs.mark(II)I -/
def t_X11_mark (a0 : Nat) (a1 : Int32) (a2 : Int32) (h : CH) : Option (Int32 × CH) :=
  (t_X11_within a1 0 299 h).bind fun q1 =>
  if q1.1 = 0 then (some ((-2), q1.2)) else ((t_X11_within a2 0 5000 q1.2).bind fun q4 =>
  if q4.1 = 0 then (some ((-2), q4.2)) else ((tgR q4.2 a0 12 9).bind fun v7 =>
  (tcl q4.2 v7 6).bind fun _ =>
  (t_X5_add v7 a1 a2 q4.2).bind fun q9 =>
  if q9.1 = 0 then (some ((-4), q9.2)) else ((tgR q9.2 a0 12 9).bind fun v13 =>
  (tgI q9.2 v13 6 2).bind fun v15 =>
  some (v15, q9.2))))
/-! HeaveSongs$LineMaker.leastWrong(LHeaveSongs$Row;Ljava/util/ArrayList;I)I -/
def t_X4_leastWrong_L6 (x0 : Nat) (x1 : Nat) (x2 : Nat) (x3 : Int32) (s : Int32 × Int32 × CH) : Option ((Int32 × Int32 × CH) ⊕ ((Int32 × CH))) :=
  (tcl s.2.2 x2 0).bind fun _ =>
  (t_Jx4a65c_size_8abf5 x2 s.2.2).bind fun q1 =>
  if q1.1 ≤ s.2.1 then (some (.inr ((s.1, q1.2)))) else ((tcl q1.2 x2 0).bind fun _ =>
  (t_Jx4a65c_get_915e3 x2 s.2.1 q1.2).bind fun q5 =>
  (tcl q5.2 q5.1 11).bind fun _ =>
  (tcl q5.2 x0 5).bind fun _ =>
  (t_X4_wrongWith x0 q5.1 x1 x3 q5.2).bind fun q9 =>
  if q9.1 = (-1) then (some (.inl (s.1, s.2.1 + 1, q9.2))) else (if s.1 = (-1) then (some (.inl (q9.1, s.2.1 + 1, q9.2))) else (if s.1 ≤ q9.1 then (some (.inl (s.1, s.2.1 + 1, q9.2))) else (some (.inl (q9.1, s.2.1 + 1, q9.2))))))
def t_X4_leastWrong (a0 : Nat) (a1 : Nat) (a2 : Nat) (a3 : Int32) (h : CH) : Option (Int32 × CH) :=
  (iter (t_X4_leastWrong_L6 a0 a1 a2 a3) 100000 ((-1), 0, h)).bind fun e15 =>
  some (e15.1, e15.2)
/-! HeaveSongs$LineMaker.fewestWrong(LHeaveSongs$Row;Ljava/util/ArrayList;)I -/
def t_X4_fewestWrong_L17 (x0 : Nat) (x1 : Nat) (x2 : Nat) (s : Int32 × CH) : Option ((Int32 × CH) ⊕ ((CH))) :=
  if s.1 < 0 then (some (.inr (s.2))) else ((tgR s.2 x0 5 1).bind fun v10 =>
  (tgR s.2 x1 7 0).bind fun v12 =>
  (tld s.2 0 v12 s.1).bind fun v14 =>
  (t_X11_isSilent v14 s.2).bind fun q16 =>
  if q16.1 = 0 then ((tcl q16.2 x0 5).bind fun _ =>
  (t_X4_leastWrong x0 x1 x2 s.1 q16.2).bind fun q19 =>
  (tst q19.2 0 v10 s.1 q19.1).bind fun h22 =>
  some (.inl (s.1 + (-1), h22))) else ((tgR q16.2 x0 5 1).bind fun v24 =>
  (tld q16.2 0 v24 (s.1 + 1)).bind fun v26 =>
  (tst q16.2 0 v10 s.1 v26).bind fun h28 =>
  some (.inl (s.1 + (-1), h28))))
def t_X4_fewestWrong (a0 : Nat) (a1 : Nat) (a2 : Nat) (h : CH) : Option (Int32 × CH) :=
  (tgR h a0 5 1).bind fun v1 =>
  (tgI h a1 7 1).bind fun v3 =>
  (tst h 0 v1 v3 0).bind fun h5 =>
  (tgI h5 a1 7 1).bind fun v7 =>
  (iter (t_X4_fewestWrong_L17 a0 a1 a2) 100000 (v7 - 1, h5)).bind fun e30 =>
  (tgR e30 a0 5 1).bind fun v32 =>
  (tld e30 0 v32 0).bind fun v34 =>
  some (v34, e30)
/-! HeaveSongs.near(I)I -/
def t_X11_near (a0 : Nat) (a1 : Int32) (h : CH) : Option (Int32 × CH) :=
  (tcl h a0 12).bind fun _ =>
  (t_X11_songOf a0 a1 h).bind fun q1 =>
  Option.elim q1.1 (some ((-2), q1.2)) (fun a5 => (tgR q1.2 a0 12 8).bind fun v6 =>
  (tgR q1.2 a5 8 0).bind fun v8 =>
  (tgR q1.2 a0 12 7).bind fun v10 =>
  (tcl q1.2 v6 5).bind fun _ =>
  (t_X4_fewestWrong v6 v8 v10 q1.2).bind fun q12 =>
  some (q12.1, q12.2))
/-! HeaveSongs$LineMaker.makeNearLine(LHeaveSongs$Row;Ljava/util/ArrayList;)V -/
def t_X4_makeNearLine (a0 : Nat) (a1 : Nat) (a2 : Nat) (h : CH) : Option (CH) :=
  (tpF h a0 5 3 (.int 0)).bind fun h1 =>
  (tcl h1 a0 5).bind fun _ =>
  (t_X4_fewestWrong a0 a1 a2 h1).bind fun q3 =>
  if q3.1 = (-1) then (some q3.2) else ((tcl q3.2 a0 5).bind fun _ =>
  (t_X4_lay a0 a1 a2 1 q3.2).bind fun q7 =>
  some q7)
/-! HeaveSongs.nearAt(II)I -/
def t_X11_nearAt (a0 : Nat) (a1 : Int32) (a2 : Int32) (h : CH) : Option (Int32 × CH) :=
  (tcl h a0 12).bind fun _ =>
  (t_X11_songOf a0 a1 h).bind fun q1 =>
  Option.elim q1.1 (some ((-2), q1.2)) (fun a5 => if 0 ≤ a2 then ((tgR q1.2 a0 12 8).bind fun v7 =>
  (tgR q1.2 a5 8 0).bind fun v9 =>
  (tgR q1.2 a0 12 7).bind fun v11 =>
  (tcl q1.2 v7 5).bind fun _ =>
  (t_X4_makeNearLine v7 v9 v11 q1.2).bind fun q13 =>
  (tgR q13 a0 12 8).bind fun v16 =>
  (tcl q13 v16 5).bind fun _ =>
  (t_X4_wordAt v16 a2 q13).bind fun q18 =>
  some (q18.1, q18.2)) else (some ((-2), q1.2)))
/-! HeaveSongs.now(I)I -/
def t_X11_now (a0 : Nat) (a1 : Int32) (h : CH) : Option (Int32 × CH) :=
  (tgR h a0 12 2).bind fun v1 =>
  (tcl h v1 1).bind fun _ =>
  (t_X0_has v1 a1 h).bind fun q3 =>
  if q3.1 = 0 then (some ((-2), q3.2)) else ((tgR q3.2 a0 12 2).bind fun v7 =>
  (tgR q3.2 v7 1 5).bind fun v9 =>
  (tld q3.2 0 v9 a1).bind fun v11 =>
  some (v11, q3.2))
/-! HeaveSongs.pause(I)I -/
def t_X11_pause (a0 : Nat) (a1 : Int32) (h : CH) : Option (Int32 × CH) :=
  (t_X11_within a1 0 100 h).bind fun q1 =>
  if q1.1 = 0 then (some ((-2), q1.2)) else ((tgR q1.2 a0 12 2).bind fun v4 =>
  (tgR q1.2 a0 12 2).bind fun v6 =>
  (tgR q1.2 v6 1 5).bind fun v8 =>
  (tcl q1.2 v4 1).bind fun _ =>
  (t_X0_restFor v4 a1 v8 q1.2).bind fun q10 =>
  (tgR q10 a0 12 6).bind fun v13 =>
  (tpF q10 v13 10 5 (.int 0)).bind fun h15 =>
  (tgR h15 a0 12 2).bind fun v17 =>
  (tcl h15 v17 1).bind fun _ =>
  (t_X0_howManyAtStrength v17 h15).bind fun q19 =>
  some (q19.1, q19.2))
/-! HeaveSongs$TaskSearch.tryFrom(Ljava/util/ArrayList;LHeaveSongs$Hands;Ljava/util/ArrayList;III)V -/
def t_X9_tryFrom_L24 (rec : Nat → Nat → Nat → Nat → Int32 → Int32 → Int32 → CH → Option (CH)) (x0 : Nat) (x1 : Nat) (x2 : Nat) (x3 : Nat) (x4 : Int32) (x5 : Int32) (x6 : Int32) (s : Int32 × CH) : Option ((Int32 × CH) ⊕ ((CH))) :=
  (tcl s.2 x1 0).bind fun _ =>
  (t_Jx4a65c_size_8abf5 x1 s.2).bind fun q7 =>
  if q7.1 ≤ s.1 then (some (.inr (q7.2))) else ((tgR q7.2 x0 10 1).bind fun v11 =>
  (tldR q7.2 4 v11 x5).bind fun v13 =>
  (tgR q7.2 x0 10 0).bind fun v15 =>
  (tgR q7.2 v15 2 0).bind fun v17 =>
  (t_X11_copy v13 v17 q7.2).bind fun q19 =>
  (tgI q19 x0 10 4).bind fun v21 =>
  (tgR q19 x0 10 0).bind fun v23 =>
  (tcl q19 x1 0).bind fun _ =>
  (t_Jx4a65c_get_915e3 x1 s.1 q19).bind fun q25 =>
  (tcl q25.2 q25.1 8).bind fun _ =>
  (tcl q25.2 x3 0).bind fun _ =>
  (t_Jx4a65c_get_915e3 x3 x5 q25.2).bind fun q29 =>
  (tcl q29.2 q29.1 9).bind fun _ =>
  (tcl q29.2 v23 2).bind fun _ =>
  (t_X1_go v23 x2 q25.1 q29.1 ((v21 - 1) - x6) q29.2).bind fun q33 =>
  if q33.1 = 0 then (some (.inl (s.1 + 1, q33.2))) else ((tgR q33.2 x0 10 2).bind fun v37 =>
  (tst q33.2 0 v37 x5 s.1).bind fun h39 =>
  (tgR h39 x0 10 0).bind fun v41 =>
  (tgI h39 v41 2 7).bind fun v43 =>
  (tcl h39 x3 0).bind fun _ =>
  (t_Jx4a65c_size_8abf5 x3 h39).bind fun q45 =>
  if x5 = (q45.1 - 1) then ((tpF q45.2 x0 10 4 (.int (x6 + v43))).bind fun h70 =>
  (tgR h70 x0 10 2).bind fun v72 =>
  (tgR h70 x0 10 3).bind fun v74 =>
  (t_X11_copy v72 v74 h70).bind fun q76 =>
  some (.inl (s.1 + 1, q76))) else (if 4 ≤ (x5 + 1) then (some (.inl (s.1 + 1, q45.2))) else ((tgR q45.2 x0 10 0).bind fun v50 =>
  (tgR q45.2 v50 2 0).bind fun v52 =>
  (tgR q45.2 x0 10 1).bind fun v54 =>
  (tldR q45.2 4 v54 (x5 + 1)).bind fun v56 =>
  (t_X11_copy v52 v56 q45.2).bind fun q58 =>
  (tgR q58 x0 10 1).bind fun v60 =>
  (tldR q58 4 v60 (x5 + 1)).bind fun v62 =>
  (tcl q58 x2 1).bind fun _ =>
  (t_X0_restFor x2 x4 v62 q58).bind fun q64 =>
  (tcl q64 x0 10).bind fun _ =>
  (rec x0 x1 x2 x3 x4 (x5 + 1) ((x6 + v43) + x4) q64).bind fun q67 =>
  some (.inl (s.1 + 1, q67))))))
def t_X9_tryFrom (rec : Nat → Nat → Nat → Nat → Int32 → Int32 → Int32 → CH → Option (CH)) (a0 : Nat) (a1 : Nat) (a2 : Nat) (a3 : Nat) (a4 : Int32) (a5 : Int32) (a6 : Int32) (h : CH) : Option (CH) :=
  if a5 < 0 then (some h) else ((tcl h a3 0).bind fun _ =>
  (t_Jx4a65c_size_8abf5 a3 h).bind fun q2 =>
  if q2.1 ≤ a5 then (some q2.2) else (if a5 < 4 then ((iter (t_X9_tryFrom_L24 rec a0 a1 a2 a3 a4 a5 a6) 100000 (0, q2.2)).bind fun e78 =>
  some e78) else (some q2.2)))
def t_X9_tryFrom_d0 (_ : Nat) (_ : Nat) (_ : Nat) (_ : Nat) (_ : Int32) (_ : Int32) (_ : Int32) (_ : CH) : Option (CH) := none
def t_X9_tryFrom_d1 : Nat → Nat → Nat → Nat → Int32 → Int32 → Int32 → CH → Option (CH) := t_X9_tryFrom t_X9_tryFrom_d0
def t_X9_tryFrom_d2 : Nat → Nat → Nat → Nat → Int32 → Int32 → Int32 → CH → Option (CH) := t_X9_tryFrom t_X9_tryFrom_d1
def t_X9_tryFrom_d3 : Nat → Nat → Nat → Nat → Int32 → Int32 → Int32 → CH → Option (CH) := t_X9_tryFrom t_X9_tryFrom_d2
def t_X9_tryFrom_d4 : Nat → Nat → Nat → Nat → Int32 → Int32 → Int32 → CH → Option (CH) := t_X9_tryFrom t_X9_tryFrom_d3
/-! HeaveSongs$TaskSearch.findPlan(Ljava/util/ArrayList;LHeaveSongs$Hands;Ljava/util/ArrayList;I)V -/
def t_X9_findPlan (a0 : Nat) (a1 : Nat) (a2 : Nat) (a3 : Nat) (a4 : Int32) (h : CH) : Option (CH) :=
  (tgI h a0 10 5).bind fun v1 =>
  if v1 = 0 then ((tpF h a0 10 4 (.int 1000000000)).bind fun h4 =>
  (tgR h4 a0 10 0).bind fun v6 =>
  (tcl h4 v6 2).bind fun _ =>
  (t_X1_beginAsTold v6 a2 h4).bind fun q8 =>
  (tgR q8 a2 1 5).bind fun v11 =>
  (tgR q8 a0 10 1).bind fun v13 =>
  (tldR q8 4 v13 0).bind fun v15 =>
  (t_X11_copy v11 v15 q8).bind fun q17 =>
  (tcl q17 a0 10).bind fun _ =>
  (t_X9_tryFrom_d4 a0 a1 a2 a3 a4 0 0 q17).bind fun q19 =>
  (tpF q19 a0 10 5 (.int 1)).bind fun h22 =>
  some h22) else (some h)
/-! HeaveSongs.plan()I -/
def t_X11_plan (a0 : Nat) (h : CH) : Option (Int32 × CH) :=
  (tgR h a0 12 4).bind fun v1 =>
  (tcl h v1 0).bind fun _ =>
  (t_Jx4a65c_isEmpty_aae02 v1 h).bind fun q3 =>
  if q3.1 = 0 then ((tgR q3.2 a0 12 1).bind fun v7 =>
  (tcl q3.2 v7 0).bind fun _ =>
  (t_Jx4a65c_isEmpty_aae02 v7 q3.2).bind fun q9 =>
  if q9.1 = 0 then ((tgR q9.2 a0 12 6).bind fun v13 =>
  (tgR q9.2 a0 12 1).bind fun v15 =>
  (tgR q9.2 a0 12 2).bind fun v17 =>
  (tgR q9.2 a0 12 4).bind fun v19 =>
  (tgI q9.2 a0 12 5).bind fun v21 =>
  (tcl q9.2 v13 10).bind fun _ =>
  (t_X9_findPlan v13 v15 v17 v19 v21 q9.2).bind fun q23 =>
  (tgR q23 a0 12 6).bind fun v26 =>
  (tgI q23 v26 10 4).bind fun v28 =>
  if v28 = 1000000000 then (some ((-1), q23)) else ((tgR q23 a0 12 6).bind fun v31 =>
  (tgI q23 v31 10 4).bind fun v33 =>
  some (v33, q23))) else (some ((-3), q9.2))) else (some ((-3), q3.2))
/-! HeaveSongs.planAt(I)I -/
def t_X11_planAt (a0 : Nat) (a1 : Int32) (h : CH) : Option (Int32 × CH) :=
  (tgR h a0 12 4).bind fun v1 =>
  (tcl h v1 0).bind fun _ =>
  (t_Jx4a65c_size_8abf5 v1 h).bind fun q3 =>
  (t_X11_within a1 0 (q3.1 - 1) q3.2).bind fun q6 =>
  if q6.1 = 0 then (some ((-2), q6.2)) else ((tgR q6.2 a0 12 1).bind fun v9 =>
  (tcl q6.2 v9 0).bind fun _ =>
  (t_Jx4a65c_isEmpty_aae02 v9 q6.2).bind fun q11 =>
  if q11.1 = 0 then ((tgR q11.2 a0 12 6).bind fun v15 =>
  (tgR q11.2 a0 12 1).bind fun v17 =>
  (tgR q11.2 a0 12 2).bind fun v19 =>
  (tgR q11.2 a0 12 4).bind fun v21 =>
  (tgI q11.2 a0 12 5).bind fun v23 =>
  (tcl q11.2 v15 10).bind fun _ =>
  (t_X9_findPlan v15 v17 v19 v21 v23 q11.2).bind fun q25 =>
  (tgR q25 a0 12 6).bind fun v28 =>
  (tgI q25 v28 10 4).bind fun v30 =>
  if v30 = 1000000000 then (some ((-1), q25)) else ((tgR q25 a0 12 6).bind fun v33 =>
  (tgR q25 v33 10 3).bind fun v35 =>
  (tld q25 0 v35 a1).bind fun v37 =>
  some (v37, q25))) else (some ((-3), q11.2)))
/-! HeaveSongs$Row.take(LHeaveSongs$Row;)V -/
def t_X6_take (a0 : Nat) (a1 : Nat) (h : CH) : Option (CH) :=
  (tgR h a1 7 0).bind fun v1 =>
  (tgR h a0 7 0).bind fun v3 =>
  (t_X11_copy v1 v3 h).bind fun q5 =>
  (tgI q5 a1 7 1).bind fun v7 =>
  (tpF q5 a0 7 1 (.int v7)).bind fun h9 =>
  (tpF h9 a1 7 1 (.int 0)).bind fun h11 =>
  some h11
/-! HeaveSongs.refrain(I)I -/
def t_X11_refrain (a0 : Nat) (a1 : Int32) (h : CH) : Option (Int32 × CH) :=
  (tcl h a0 12).bind fun _ =>
  (t_X11_songOf a0 a1 h).bind fun q1 =>
  Option.elim q1.1 (some ((-2), q1.2)) (fun a5 => (tgR q1.2 a0 12 0).bind fun v6 =>
  (tgI q1.2 v6 7 1).bind fun v8 =>
  if v8 ≤ 12 then ((tgR q1.2 a5 8 1).bind fun v11 =>
  (tgR q1.2 a0 12 0).bind fun v13 =>
  (tcl q1.2 v11 7).bind fun _ =>
  (t_X6_take v11 v13 q1.2).bind fun q15 =>
  (tgR q15 a0 12 6).bind fun v18 =>
  (tpF q15 v18 10 5 (.int 0)).bind fun h20 =>
  (tgR h20 a5 8 1).bind fun v22 =>
  (tgI h20 v22 7 1).bind fun v24 =>
  some (v24, h20)) else (some ((-3), q1.2)))
/-! HeaveSongs.rest()I -/
def t_X11_rest (a0 : Nat) (h : CH) : Option (Int32 × CH) :=
  (tgR h a0 12 0).bind fun v1 =>
  (tgI h v1 7 1).bind fun v3 =>
  (tgR h a0 12 0).bind fun v5 =>
  (tpF h v5 7 1 (.int 0)).bind fun h7 =>
  some (v3, h7)
/-! HeaveSongs$Song.<init>()V -/
def t_X7_init (a0 : Nat) (h : CH) : Option (CH) :=
  (t_X6_init h.1 (tnew h (.inr (7, [.null, .int 0])))).bind fun q1 =>
  (tpF q1 a0 8 0 (.ref h.1)).bind fun h3 =>
  (t_X6_init h3.1 (tnew h3 (.inr (7, [.null, .int 0])))).bind fun q5 =>
  (tpF q5 a0 8 1 (.ref h3.1)).bind fun h7 =>
  some h7
/-! HeaveSongs.song()I -/
def t_X11_song (a0 : Nat) (h : CH) : Option (Int32 × CH) :=
  (tgR h a0 12 0).bind fun v1 =>
  (tgI h v1 7 1).bind fun v3 =>
  if v3 = 0 then (some ((-3), h)) else ((tgR h a0 12 1).bind fun v6 =>
  (tcl h v6 0).bind fun _ =>
  (t_Jx4a65c_size_8abf5 v6 h).bind fun q8 =>
  if q8.1 < 6 then ((t_X7_init q8.2.1 (tnew q8.2 (.inr (8, [.null, .null])))).bind fun q12 =>
  (tgR q12 q8.2.1 8 0).bind fun v14 =>
  (tgR q12 a0 12 0).bind fun v16 =>
  (tcl q12 v14 7).bind fun _ =>
  (t_X6_take v14 v16 q12).bind fun q18 =>
  (tgR q18 a0 12 1).bind fun v21 =>
  (tcl q18 v21 0).bind fun _ =>
  (t_Jx4a65c_add_9ea2d v21 q8.2.1 q18).bind fun q23 =>
  (tgR q23.2 a0 12 6).bind fun v26 =>
  (tpF q23.2 v26 10 5 (.int 0)).bind fun h28 =>
  (tgR h28 a0 12 1).bind fun v30 =>
  (tcl h28 v30 0).bind fun _ =>
  (t_Jx4a65c_size_8abf5 v30 h28).bind fun q32 =>
  some (q32.1 - 1, q32.2)) else (some ((-4), q8.2)))
/-! HeaveSongs.task(III)I -/
def t_X11_task (a0 : Nat) (a1 : Int32) (a2 : Int32) (a3 : Int32) (h : CH) : Option (Int32 × CH) :=
  (t_X11_isTask a1 a2 a3 h).bind fun q1 =>
  if q1.1 = 0 then (some ((-2), q1.2)) else ((tgR q1.2 a0 12 4).bind fun v4 =>
  (tcl q1.2 v4 0).bind fun _ =>
  (t_Jx4a65c_size_8abf5 v4 q1.2).bind fun q6 =>
  if q6.1 < 4 then ((tgR q6.2 a0 12 4).bind fun v10 =>
  (t_X8_init q6.2.1 a1 a2 a3 (tnew q6.2 (.inr (9, [.int 0, .int 0, .int 0])))).bind fun q12 =>
  (tcl q12 v10 0).bind fun _ =>
  (t_Jx4a65c_add_9ea2d v10 q6.2.1 q12).bind fun q14 =>
  (tgR q14.2 a0 12 6).bind fun v17 =>
  (tpF q14.2 v17 10 5 (.int 0)).bind fun h19 =>
  (tgR h19 a0 12 4).bind fun v21 =>
  (tcl h19 v21 0).bind fun _ =>
  (t_Jx4a65c_size_8abf5 v21 h19).bind fun q23 =>
  some (q23.1 - 1, q23.2)) else (some ((-4), q6.2)))
/-! HeaveSongs.tree()I -/
def t_X11_tree (a0 : Nat) (h : CH) : Option (Int32 × CH) :=
  (tgR h a0 12 11).bind fun v1 =>
  (tgR h a0 12 1).bind fun v3 =>
  (tcl h v1 3).bind fun _ =>
  (t_X2_growTree v1 v3 h).bind fun q5 =>
  some (q5.1, q5.2)
/-! HeaveSongs$Haul.beginFresh(LHeaveSongs$Hands;)V -/
def t_X1_beginFresh_L13 (x0 : Nat) (x1 : Nat) (s : Int32 × CH) : Option ((Int32 × CH) ⊕ ((CH))) :=
  if 10 ≤ s.1 then (some (.inr (s.2))) else ((tgR s.2 x0 2 1).bind fun v8 =>
  (tst s.2 0 v8 s.1 0).bind fun h10 =>
  some (.inl (s.1 + 1, h10)))
def t_X1_beginFresh (a0 : Nat) (a1 : Nat) (h : CH) : Option (CH) :=
  (tgR h a1 1 0).bind fun v1 =>
  (tgR h a0 2 0).bind fun v3 =>
  (t_X11_copy v1 v3 h).bind fun q5 =>
  (iter (t_X1_beginFresh_L13 a0 a1) 100000 (0, q5)).bind fun e12 =>
  (tgI e12 a1 1 7).bind fun v14 =>
  (tpF e12 a0 2 5 (.int v14)).bind fun h16 =>
  (tpF h16 a0 2 6 (.int 0)).bind fun h18 =>
  some h18
/-! HeaveSongs$Marks.span()I -/
def t_X5_span_L4 (x0 : Nat) (s : Int32 × Int32 × CH) : Option ((Int32 × Int32 × CH) ⊕ ((Int32 × CH))) :=
  (tgI s.2.2 x0 6 2).bind fun v1 =>
  if v1 ≤ s.2.1 then (some (.inr ((s.1, s.2.2)))) else ((tgR s.2.2 x0 6 0).bind fun v4 =>
  (tld s.2.2 0 v4 s.2.1).bind fun v6 =>
  some (.inl (if s.1 < (v6 + 1) then (v6 + 1) else s.1, s.2.1 + 1, s.2.2)))
def t_X5_span (a0 : Nat) (h : CH) : Option (Int32 × CH) :=
  (iter (t_X5_span_L4 a0) 100000 (0, 0, h)).bind fun e8 =>
  some (e8.1, e8.2)
/-! HeaveSongs$Marks.differenceTo([I)I -/
def t_X5_differenceTo_L4 (x0 : Nat) (x1 : Nat) (s : Int32 × Int32 × CH) : Option ((Int32 × Int32 × CH) ⊕ ((Int32 × CH))) :=
  (tgI s.2.2 x0 6 2).bind fun v1 =>
  if v1 ≤ s.2.1 then (some (.inr ((s.1, s.2.2)))) else ((tgR s.2.2 x0 6 0).bind fun v4 =>
  (tld s.2.2 0 v4 s.2.1).bind fun v6 =>
  (tlen s.2.2 x1).bind fun v8 =>
  (t_X11_within v6 0 (v8 - 1) s.2.2).bind fun q10 =>
  if q10.1 = 0 then (some (.inl (s.1, s.2.1 + 1, q10.2))) else ((tgR q10.2 x0 6 0).bind fun v13 =>
  (tld q10.2 0 v13 s.2.1).bind fun v15 =>
  (tld q10.2 0 x1 v15).bind fun v17 =>
  (tgR q10.2 x0 6 1).bind fun v19 =>
  (tld q10.2 0 v19 s.2.1).bind fun v21 =>
  some (.inl (s.1 + (if 0 ≤ (v17 - v21) then (v17 - v21) else -(v17 - v21)), s.2.1 + 1, q10.2))))
def t_X5_differenceTo (a0 : Nat) (a1 : Nat) (h : CH) : Option (Int32 × CH) :=
  (iter (t_X5_differenceTo_L4 a0 a1) 100000 (0, 0, h)).bind fun e23 =>
  some (e23.1, e23.2)
/-! HeaveSongs$LateSearch.sumOfTrial(LHeaveSongs$Hands;LHeaveSongs$Song;LHeaveSongs$Task;LHeaveSongs$Marks;)I -/
def t_X3_sumOfTrial (a0 : Nat) (a1 : Nat) (a2 : Nat) (a3 : Nat) (a4 : Nat) (h : CH) : Option (Int32 × CH) :=
  (tgR h a0 4 0).bind fun v1 =>
  (tcl h a4 6).bind fun _ =>
  (t_X5_span a4 h).bind fun q3 =>
  (tcl q3.2 v1 2).bind fun _ =>
  (t_X1_go v1 a1 a2 a3 q3.1 q3.2).bind fun q6 =>
  (tgR q6.2 a0 4 0).bind fun v9 =>
  (tgR q6.2 v9 2 2).bind fun v11 =>
  (tcl q6.2 a4 6).bind fun _ =>
  (t_X5_differenceTo a4 v11 q6.2).bind fun q13 =>
  some (q13.1, q13.2)
/-! HeaveSongs$LateSearch.tryPair(LHeaveSongs$Hands;LHeaveSongs$Song;LHeaveSongs$Task;LHeaveSongs$Marks;II)V -/
def t_X3_tryPair_L12 (x0 : Nat) (x1 : Nat) (x2 : Nat) (x3 : Nat) (x4 : Nat) (x5 : Int32) (x6 : Int32) (x7 : Int32) (s : Int32 × CH) : Option ((Int32 × CH) ⊕ ((CH))) :=
  if 3 < s.1 then (some (.inr (s.2))) else ((tgR s.2 x0 4 0).bind fun v3 =>
  (tcl s.2 v3 2).bind fun _ =>
  (t_X1_beginFresh v3 x1 s.2).bind fun q5 =>
  (tgR q5 x0 4 0).bind fun v8 =>
  (tgR q5 v8 2 1).bind fun v10 =>
  (tst q5 0 v10 x5 x7).bind fun h12 =>
  (tgR h12 x0 4 0).bind fun v14 =>
  (tgR h12 v14 2 1).bind fun v16 =>
  (tst h12 0 v16 x6 s.1).bind fun h18 =>
  (tcl h18 x0 4).bind fun _ =>
  (t_X3_sumOfTrial x0 x1 x2 x3 x4 h18).bind fun q20 =>
  (tgI q20.2 x0 4 5).bind fun v23 =>
  if v23 ≤ q20.1 then (some (.inl (s.1 + 1, q20.2))) else ((tpF q20.2 x0 4 5 (.int q20.1)).bind fun h26 =>
  (tpF h26 x0 4 1 (.int x5)).bind fun h28 =>
  (tpF h28 x0 4 2 (.int x6)).bind fun h30 =>
  (tpF h30 x0 4 3 (.int x7)).bind fun h32 =>
  (tpF h32 x0 4 4 (.int s.1)).bind fun h34 =>
  some (.inl (s.1 + 1, h34))))
def t_X3_tryPair_L3 (x0 : Nat) (x1 : Nat) (x2 : Nat) (x3 : Nat) (x4 : Nat) (x5 : Int32) (x6 : Int32) (s : Int32 × CH) : Option ((Int32 × CH) ⊕ ((CH))) :=
  if 3 < s.1 then (some (.inr (s.2))) else ((iter (t_X3_tryPair_L12 x0 x1 x2 x3 x4 x5 x6 s.1) 100000 (1, s.2)).bind fun e36 =>
  some (.inl (s.1 + 1, e36)))
def t_X3_tryPair (a0 : Nat) (a1 : Nat) (a2 : Nat) (a3 : Nat) (a4 : Nat) (a5 : Int32) (a6 : Int32) (h : CH) : Option (CH) :=
  (iter (t_X3_tryPair_L3 a0 a1 a2 a3 a4 a5 a6) 100000 (1, h)).bind fun e38 =>
  some e38
/-! HeaveSongs$LateSearch.findTwo(LHeaveSongs$Hands;LHeaveSongs$Song;LHeaveSongs$Task;LHeaveSongs$Marks;)V -/
def t_X3_findTwo_L24 (x0 : Nat) (x1 : Nat) (x2 : Nat) (x3 : Nat) (x4 : Nat) (x5 : Int32) (s : Int32 × CH) : Option ((Int32 × CH) ⊕ ((CH))) :=
  (tgI s.2 x1 1 6).bind fun v6 =>
  if v6 ≤ s.1 then (some (.inr (s.2))) else ((tgI s.2 x1 1 7).bind fun v9 =>
  (t_X11_isIn v9 x5 s.2).bind fun q11 =>
  if q11.1 = 0 then (some (.inl (s.1 + 1, q11.2))) else ((tgI q11.2 x1 1 7).bind fun v14 =>
  (t_X11_isIn v14 s.1 q11.2).bind fun q16 =>
  if q16.1 = 0 then (some (.inl (s.1 + 1, q16.2))) else ((tcl q16.2 x0 4).bind fun _ =>
  (t_X3_tryPair x0 x1 x2 x3 x4 x5 s.1 q16.2).bind fun q19 =>
  some (.inl (s.1 + 1, q19)))))
def t_X3_findTwo_L9 (x0 : Nat) (x1 : Nat) (x2 : Nat) (x3 : Nat) (x4 : Nat) (s : Int32 × CH) : Option ((Int32 × CH) ⊕ ((CH))) :=
  (tgI s.2 x1 1 6).bind fun v3 =>
  if v3 ≤ s.1 then (some (.inr (s.2))) else ((iter (t_X3_findTwo_L24 x0 x1 x2 x3 x4 s.1) 100000 (s.1 + 1, s.2)).bind fun e22 =>
  some (.inl (s.1 + 1, e22)))
def t_X3_findTwo (a0 : Nat) (a1 : Nat) (a2 : Nat) (a3 : Nat) (a4 : Nat) (h : CH) : Option (CH) :=
  (tpF h a0 4 5 (.int 1000000000)).bind fun h1 =>
  (iter (t_X3_findTwo_L9 a0 a1 a2 a3 a4) 100000 (0, h1)).bind fun e24 =>
  some e24
/-! HeaveSongs.two(IIII)I -/
def t_X11_two (a0 : Nat) (a1 : Int32) (a2 : Int32) (a3 : Int32) (a4 : Int32) (h : CH) : Option (Int32 × CH) :=
  (tcl h a0 12).bind fun _ =>
  (t_X11_songOf a0 a1 h).bind fun q1 =>
  Option.elim q1.1 (some ((-2), q1.2)) (fun a5 => (t_X11_isWeight a2 a3 q1.2).bind fun q6 =>
  if q6.1 = 0 then (some ((-2), q6.2)) else ((t_X11_within a4 0 4 q6.2).bind fun q9 =>
  if q9.1 = 0 then (some ((-2), q9.2)) else ((tgR q9.2 a0 12 2).bind fun v12 =>
  (tgI q9.2 v12 1 7).bind fun v14 =>
  (t_J6_bitCount_0f7a4 v14 q9.2).bind fun q16 =>
  if 2 ≤ q16.1 then ((tgR q16.2 a0 12 10).bind fun v19 =>
  (tgR q16.2 a0 12 2).bind fun v21 =>
  (t_X8_init q16.2.1 1000000000 a2 a3 (tnew q16.2 (.inr (9, [.int 0, .int 0, .int 0])))).bind fun q23 =>
  (tgR q23 a0 12 9).bind fun v25 =>
  (tcl q23 v19 4).bind fun _ =>
  (t_X3_findTwo v19 v21 a5 q16.2.1 v25 q23).bind fun q27 =>
  if a4 = 0 then ((tgR q27 a0 12 10).bind fun v31 =>
  (tgI q27 v31 4 1).bind fun v33 =>
  some (v33, q27)) else (if a4 = 1 then ((tgR q27 a0 12 10).bind fun v36 =>
  (tgI q27 v36 4 2).bind fun v38 =>
  some (v38, q27)) else (if a4 = 2 then ((tgR q27 a0 12 10).bind fun v41 =>
  (tgI q27 v41 4 3).bind fun v43 =>
  some (v43, q27)) else (if a4 = 3 then ((tgR q27 a0 12 10).bind fun v46 =>
  (tgI q27 v46 4 4).bind fun v48 =>
  some (v48, q27)) else ((tgR q27 a0 12 10).bind fun v50 =>
  (tgI q27 v50 4 5).bind fun v52 =>
  some (v52, q27)))))) else (some ((-1), q16.2)))))
/-! HeaveSongs$LateSearch.findOne(LHeaveSongs$Hands;LHeaveSongs$Song;LHeaveSongs$Task;LHeaveSongs$Marks;)V -/
def t_X3_findOne_L46 (x0 : Nat) (x1 : Nat) (x2 : Nat) (x3 : Nat) (x4 : Nat) (x5 : Int32) (s : Int32 × CH) : Option ((Int32 × CH) ⊕ ((CH))) :=
  if 3 < s.1 then (some (.inr (s.2))) else ((tgI s.2 x1 1 7).bind fun v19 =>
  (t_X11_isIn v19 x5 s.2).bind fun q21 =>
  if q21.1 = 0 then (some (.inr (q21.2))) else ((tgR q21.2 x0 4 0).bind fun v24 =>
  (tcl q21.2 v24 2).bind fun _ =>
  (t_X1_beginFresh v24 x1 q21.2).bind fun q26 =>
  (tgR q26 x0 4 0).bind fun v29 =>
  (tgR q26 v29 2 1).bind fun v31 =>
  (tst q26 0 v31 x5 s.1).bind fun h33 =>
  (tcl h33 x0 4).bind fun _ =>
  (t_X3_sumOfTrial x0 x1 x2 x3 x4 h33).bind fun q35 =>
  (tgI q35.2 x0 4 5).bind fun v38 =>
  if v38 ≤ q35.1 then (some (.inl (s.1 + 1, q35.2))) else ((tpF q35.2 x0 4 5 (.int q35.1)).bind fun h41 =>
  (tpF h41 x0 4 1 (.int x5)).bind fun h43 =>
  (tpF h43 x0 4 3 (.int s.1)).bind fun h45 =>
  some (.inl (s.1 + 1, h45)))))
def t_X3_findOne_L34 (x0 : Nat) (x1 : Nat) (x2 : Nat) (x3 : Nat) (x4 : Nat) (s : Int32 × CH) : Option ((Int32 × CH) ⊕ ((CH))) :=
  (tgI s.2 x1 1 6).bind fun v15 =>
  if v15 ≤ s.1 then (some (.inr (s.2))) else ((iter (t_X3_findOne_L46 x0 x1 x2 x3 x4 s.1) 100000 (1, s.2)).bind fun e47 =>
  some (.inl (s.1 + 1, e47)))
def t_X3_findOne (a0 : Nat) (a1 : Nat) (a2 : Nat) (a3 : Nat) (a4 : Nat) (h : CH) : Option (CH) :=
  (tpF h a0 4 1 (.int (-1))).bind fun h1 =>
  (tpF h1 a0 4 3 (.int 0)).bind fun h3 =>
  (tgR h3 a0 4 0).bind fun v5 =>
  (tcl h3 v5 2).bind fun _ =>
  (t_X1_beginFresh v5 a1 h3).bind fun q7 =>
  (tcl q7 a0 4).bind fun _ =>
  (t_X3_sumOfTrial a0 a1 a2 a3 a4 q7).bind fun q10 =>
  (tpF q10.2 a0 4 5 (.int q10.1)).bind fun h13 =>
  (iter (t_X3_findOne_L34 a0 a1 a2 a3 a4) 100000 (0, h13)).bind fun e49 =>
  some e49
/-! HeaveSongs.who(IIII)I -/
def t_X11_who (a0 : Nat) (a1 : Int32) (a2 : Int32) (a3 : Int32) (a4 : Int32) (h : CH) : Option (Int32 × CH) :=
  (tcl h a0 12).bind fun _ =>
  (t_X11_songOf a0 a1 h).bind fun q1 =>
  Option.elim q1.1 (some ((-2), q1.2)) (fun a5 => (t_X11_isWeight a2 a3 q1.2).bind fun q6 =>
  if q6.1 = 0 then (some ((-2), q6.2)) else ((t_X11_within a4 0 2 q6.2).bind fun q9 =>
  if q9.1 = 0 then (some ((-2), q9.2)) else ((tgR q9.2 a0 12 10).bind fun v12 =>
  (tgR q9.2 a0 12 2).bind fun v14 =>
  (t_X8_init q9.2.1 1000000000 a2 a3 (tnew q9.2 (.inr (9, [.int 0, .int 0, .int 0])))).bind fun q16 =>
  (tgR q16 a0 12 9).bind fun v18 =>
  (tcl q16 v12 4).bind fun _ =>
  (t_X3_findOne v12 v14 a5 q9.2.1 v18 q16).bind fun q20 =>
  if a4 = 0 then ((tgR q20 a0 12 10).bind fun v24 =>
  (tgI q20 v24 4 1).bind fun v26 =>
  some (v26, q20)) else (if a4 = 1 then ((tgR q20 a0 12 10).bind fun v29 =>
  (tgI q20 v29 4 3).bind fun v31 =>
  some (v31, q20)) else ((tgR q20 a0 12 10).bind fun v33 =>
  (tgI q20 v33 4 5).bind fun v35 =>
  some (v35, q20))))))
/-! HeaveSongs.wipe()I -/
def t_X11_wipe (a0 : Nat) (h : CH) : Option (Int32 × CH) :=
  (tgR h a0 12 9).bind fun v1 =>
  (tgI h v1 6 2).bind fun v3 =>
  (tgR h a0 12 9).bind fun v5 =>
  (tpF h v5 6 2 (.int 0)).bind fun h7 =>
  some (v3, h7)
/-! HeaveSongs.won(I)I -/
def t_X11_won (a0 : Nat) (a1 : Int32) (h : CH) : Option (Int32 × CH) :=
  (tgR h a0 12 3).bind fun v1 =>
  (tgR h v1 2 2).bind fun v3 =>
  (tcl h a0 12).bind fun _ =>
  (t_X11_ofLatest a0 v3 a1 h).bind fun q5 =>
  some (q5.1, q5.2)
/-! HeaveSongs.word(II)I -/
def t_X11_word (a0 : Nat) (a1 : Int32) (a2 : Int32) (h : CH) : Option (Int32 × CH) :=
  (t_X11_within a1 1 5 h).bind fun q1 =>
  if q1.1 = 0 then (some ((-2), q1.2)) else ((t_X11_within a2 0 ((1 <<< (a1 &&& 31)) - 1) q1.2).bind fun q4 =>
  if q4.1 = 0 then (some ((-2), q4.2)) else ((tgR q4.2 a0 12 7).bind fun v7 =>
  (tcl q4.2 v7 0).bind fun _ =>
  (t_Jx4a65c_size_8abf5 v7 q4.2).bind fun q9 =>
  if q9.1 < 12 then ((tgR q9.2 a0 12 7).bind fun v13 =>
  (t_X10_init q9.2.1 a1 a2 (tnew q9.2 (.inr (11, [.int 0, .int 0])))).bind fun q15 =>
  (tcl q15 v13 0).bind fun _ =>
  (t_Jx4a65c_add_9ea2d v13 q9.2.1 q15).bind fun q17 =>
  (tgR q17.2 a0 12 7).bind fun v20 =>
  (tcl q17.2 v20 0).bind fun _ =>
  (t_Jx4a65c_size_8abf5 v20 q17.2).bind fun q22 =>
  some (q22.1 - 1, q22.2)) else (some ((-4), q9.2))))
