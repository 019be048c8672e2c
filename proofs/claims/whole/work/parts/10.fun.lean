/-! jdk/internal/util/Preconditions.checkIndex(IILjava/util/function/BiFunction;)I -/
def f_J3_checkIndex_8e157_J9 (a0 : Int32) (a1 : Int32) (a2 : Option Nat) (h : AH) : Option (Int32 × AH) :=
  none
def f_J3_checkIndex_8e157 (a0 : Int32) (a1 : Int32) (a2 : Option Nat) (h : AH) : Option (Int32 × AH) :=
  if a0 < 0 then (f_J3_checkIndex_8e157_J9 a0 a1 a2 h) else (if a0 < a1 then (some (a0, h)) else (f_J3_checkIndex_8e157_J9 a0 a1 a2 h))
/-! java/util/Objects.checkIndex(II)I -/
def f_J15_checkIndex_7cf53 (a0 : Int32) (a1 : Int32) (h : AH) : Option (Int32 × AH) :=
  (f_J3_checkIndex_8e157 a0 a1 none h).bind fun q1 =>
  some (q1.1, q1.2)
/-! java/lang/Integer.bitCount(I)I -/
def f_J6_bitCount_0f7a4 (a0 : Int32) (h : AH) : Option (Int32 × AH) :=
  some ((((((((a0 - (((a0.toUInt32 >>> ((1 : Int32).toUInt32 &&& Int32.toUInt32 31)).toInt32) &&& 1431655765)) &&& 858993459) + ((((a0 - (((a0.toUInt32 >>> ((1 : Int32).toUInt32 &&& Int32.toUInt32 31)).toInt32) &&& 1431655765)).toUInt32 >>> ((2 : Int32).toUInt32 &&& Int32.toUInt32 31)).toInt32) &&& 858993459)) + (((((a0 - (((a0.toUInt32 >>> ((1 : Int32).toUInt32 &&& Int32.toUInt32 31)).toInt32) &&& 1431655765)) &&& 858993459) + ((((a0 - (((a0.toUInt32 >>> ((1 : Int32).toUInt32 &&& Int32.toUInt32 31)).toInt32) &&& 1431655765)).toUInt32 >>> ((2 : Int32).toUInt32 &&& Int32.toUInt32 31)).toInt32) &&& 858993459)).toUInt32 >>> ((4 : Int32).toUInt32 &&& Int32.toUInt32 31)).toInt32)) &&& 252645135) + (((((((a0 - (((a0.toUInt32 >>> ((1 : Int32).toUInt32 &&& Int32.toUInt32 31)).toInt32) &&& 1431655765)) &&& 858993459) + ((((a0 - (((a0.toUInt32 >>> ((1 : Int32).toUInt32 &&& Int32.toUInt32 31)).toInt32) &&& 1431655765)).toUInt32 >>> ((2 : Int32).toUInt32 &&& Int32.toUInt32 31)).toInt32) &&& 858993459)) + (((((a0 - (((a0.toUInt32 >>> ((1 : Int32).toUInt32 &&& Int32.toUInt32 31)).toInt32) &&& 1431655765)) &&& 858993459) + ((((a0 - (((a0.toUInt32 >>> ((1 : Int32).toUInt32 &&& Int32.toUInt32 31)).toInt32) &&& 1431655765)).toUInt32 >>> ((2 : Int32).toUInt32 &&& Int32.toUInt32 31)).toInt32) &&& 858993459)).toUInt32 >>> ((4 : Int32).toUInt32 &&& Int32.toUInt32 31)).toInt32)) &&& 252645135).toUInt32 >>> ((8 : Int32).toUInt32 &&& Int32.toUInt32 31)).toInt32)) + ((((((((a0 - (((a0.toUInt32 >>> ((1 : Int32).toUInt32 &&& Int32.toUInt32 31)).toInt32) &&& 1431655765)) &&& 858993459) + ((((a0 - (((a0.toUInt32 >>> ((1 : Int32).toUInt32 &&& Int32.toUInt32 31)).toInt32) &&& 1431655765)).toUInt32 >>> ((2 : Int32).toUInt32 &&& Int32.toUInt32 31)).toInt32) &&& 858993459)) + (((((a0 - (((a0.toUInt32 >>> ((1 : Int32).toUInt32 &&& Int32.toUInt32 31)).toInt32) &&& 1431655765)) &&& 858993459) + ((((a0 - (((a0.toUInt32 >>> ((1 : Int32).toUInt32 &&& Int32.toUInt32 31)).toInt32) &&& 1431655765)).toUInt32 >>> ((2 : Int32).toUInt32 &&& Int32.toUInt32 31)).toInt32) &&& 858993459)).toUInt32 >>> ((4 : Int32).toUInt32 &&& Int32.toUInt32 31)).toInt32)) &&& 252645135) + (((((((a0 - (((a0.toUInt32 >>> ((1 : Int32).toUInt32 &&& Int32.toUInt32 31)).toInt32) &&& 1431655765)) &&& 858993459) + ((((a0 - (((a0.toUInt32 >>> ((1 : Int32).toUInt32 &&& Int32.toUInt32 31)).toInt32) &&& 1431655765)).toUInt32 >>> ((2 : Int32).toUInt32 &&& Int32.toUInt32 31)).toInt32) &&& 858993459)) + (((((a0 - (((a0.toUInt32 >>> ((1 : Int32).toUInt32 &&& Int32.toUInt32 31)).toInt32) &&& 1431655765)) &&& 858993459) + ((((a0 - (((a0.toUInt32 >>> ((1 : Int32).toUInt32 &&& Int32.toUInt32 31)).toInt32) &&& 1431655765)).toUInt32 >>> ((2 : Int32).toUInt32 &&& Int32.toUInt32 31)).toInt32) &&& 858993459)).toUInt32 >>> ((4 : Int32).toUInt32 &&& Int32.toUInt32 31)).toInt32)) &&& 252645135).toUInt32 >>> ((8 : Int32).toUInt32 &&& Int32.toUInt32 31)).toInt32)).toUInt32 >>> ((16 : Int32).toUInt32 &&& Int32.toUInt32 31)).toInt32)) &&& 63, h)
/-! java/util/Arrays.copyOf([Ljava/lang/Object;ILjava/lang/Class;)[Ljava/lang/Object; -/
def f_J7_copyOf_6403c (a0 : Nat) (a1 : Int32) (a2 : Nat) (h : AH) : Option (Nat × AH) :=
  if a2 = h.2.1.2 then ((hcap a1).bind fun _ =>
  (hlen (hnew h (.inl (3, a1.toNatClampNeg, .inr (.inr (.inr (.inr fun _ => none)))))) a0).bind fun v3 =>
  (hcpy (hnew h (.inl (3, a1.toNatClampNeg, .inr (.inr (.inr (.inr fun _ => none)))))) a0 h.1 (if a1 < v3 then a1 else v3)).bind fun h6 =>
  some (h.1, h6)) else (none)
/-! java/util/Arrays.copyOf([Ljava/lang/Object;I)[Ljava/lang/Object; -/
def f_J7_copyOf_1904c (a0 : Nat) (a1 : Int32) (h : AH) : Option (Nat × AH) :=
  (hoa h a0).bind fun _ =>
  (f_J7_copyOf_6403c a0 a1 h.2.1.2 h).bind fun q2 =>
  some (q2.1, q2.2)
/-! jdk/internal/util/ArraysSupport.newLength(III)I -/
def f_J8_newLength_cabcc_J21 (a0 : Int32) (a1 : Int32) (a2 : Int32) (h : AH) : Option (Int32 × AH) :=
  none
def f_J8_newLength_cabcc (a0 : Int32) (a1 : Int32) (a2 : Int32) (h : AH) : Option (Int32 × AH) :=
  if (a0 + (if a1 < a2 then a2 else a1)) ≤ 0 then (f_J8_newLength_cabcc_J21 a0 a1 a2 h) else (if 2147483639 < (a0 + (if a1 < a2 then a2 else a1)) then (f_J8_newLength_cabcc_J21 a0 a1 a2 h) else (some (a0 + (if a1 < a2 then a2 else a1), h)))
/-! java/util/ArrayList.grow(I)[Ljava/lang/Object; -/
def f_Jx4a65c_grow_92f84_J20 (a0 : Nat) (a1 : Int32) (y2 : Int32) (h : AH) : Option (Nat × AH) :=
  (f_J8_newLength_cabcc y2 (a1 - y2) (y2 >>> (1 &&& 31)) h).bind fun q6 =>
  (hgR q6.2 a0 0 1).bind fun v8 =>
  (f_J7_copyOf_1904c v8 q6.1 q6.2).bind fun q10 =>
  (hpF q10.2 a0 0 1 (.ref q10.1)).bind fun h12 =>
  some (q10.1, h12)
def f_Jx4a65c_grow_92f84 (a0 : Nat) (a1 : Int32) (h : AH) : Option (Nat × AH) :=
  (hgR h a0 0 1).bind fun v1 =>
  (hlen h v1).bind fun v3 =>
  if 0 < v3 then (f_Jx4a65c_grow_92f84_J20 a0 a1 v3 h) else ((hgR h a0 0 1).bind fun v14 =>
  if v14 = h.2.1.1 then ((hcap (if 10 < a1 then a1 else 10)).bind fun _ =>
  (hpF (hnew h (.inl (3, (if 10 < a1 then a1 else 10).toNatClampNeg, .inr (.inr (.inr (.inr fun _ => none)))))) a0 0 1 (.ref h.1)).bind fun h18 =>
  some (h.1, h18)) else (f_Jx4a65c_grow_92f84_J20 a0 a1 v3 h))
/-! java/util/ArrayList.grow()[Ljava/lang/Object; -/
def f_Jx4a65c_grow_d5877 (a0 : Nat) (h : AH) : Option (Nat × AH) :=
  (hgI h a0 0 2).bind fun v1 =>
  (hcl h a0 0).bind fun _ =>
  (f_Jx4a65c_grow_92f84 a0 (v1 + 1) h).bind fun q3 =>
  some (q3.1, q3.2)
/-! java/util/ArrayList.add(Ljava/lang/Object;[Ljava/lang/Object;I)V -/
def f_Jx4a65c_add_72be8_J11 (a0 : Nat) (a1 : Nat) (a3 : Int32) (y2 : Nat) (h : AH) : Option (AH) :=
  (hstR h y2 a3 a1).bind fun h4 =>
  (hpF h4 a0 0 2 (.int (a3 + 1))).bind fun h6 =>
  some h6
def f_Jx4a65c_add_72be8 (a0 : Nat) (a1 : Nat) (a2 : Nat) (a3 : Int32) (h : AH) : Option (AH) :=
  (hlen h a2).bind fun v1 =>
  if a3 = v1 then ((hcl h a0 0).bind fun _ =>
  (f_Jx4a65c_grow_d5877 a0 h).bind fun q8 =>
  f_Jx4a65c_add_72be8_J11 a0 a1 a3 q8.1 q8.2) else (f_Jx4a65c_add_72be8_J11 a0 a1 a3 a2 h)
/-! java/util/ArrayList.add(Ljava/lang/Object;)Z -/
def f_Jx4a65c_add_9ea2d (a0 : Nat) (a1 : Nat) (h : AH) : Option (Int32 × AH) :=
  (hgI h a0 0 0).bind fun v1 =>
  (hpF h a0 0 0 (.int (v1 + 1))).bind fun h3 =>
  (hgR h3 a0 0 1).bind fun v5 =>
  (hgI h3 a0 0 2).bind fun v7 =>
  (hcl h3 a0 0).bind fun _ =>
  (f_Jx4a65c_add_72be8 a0 a1 v5 v7 h3).bind fun q9 =>
  some (1, q9)
/-! java/util/ArrayList.elementData(I)Ljava/lang/Object; -/
def f_Jx4a65c_elementData_915e3 (a0 : Nat) (a1 : Int32) (h : AH) : Option (Nat × AH) :=
  (hgR h a0 0 1).bind fun v1 =>
  (hldR h 3 v1 a1).bind fun v3 =>
  some (v3, h)
/-! java/util/ArrayList.get(I)Ljava/lang/Object; -/
def f_Jx4a65c_get_915e3 (a0 : Nat) (a1 : Int32) (h : AH) : Option (Nat × AH) :=
  (hgI h a0 0 2).bind fun v1 =>
  (f_J15_checkIndex_7cf53 a1 v1 h).bind fun q3 =>
  (hcl q3.2 a0 0).bind fun _ =>
  (f_Jx4a65c_elementData_915e3 a0 a1 q3.2).bind fun q5 =>
  some (q5.1, q5.2)
/-! java/util/AbstractCollection.<init>()V -/
def f_Jxa1e45_init_da8c8 (a0 : Nat) (h : AH) : Option (AH) :=
  some h
/-! java/util/AbstractList.<init>()V -/
def f_Jxc12de_init_da8c8 (a0 : Nat) (h : AH) : Option (AH) :=
  (f_Jxa1e45_init_da8c8 a0 h).bind fun q1 =>
  (hpF q1 a0 0 0 (.int 0)).bind fun h3 =>
  some h3
/-! java/util/ArrayList.<init>()V -/
def f_Jx4a65c_init_da8c8 (a0 : Nat) (h : AH) : Option (AH) :=
  (f_Jxc12de_init_da8c8 a0 h).bind fun q1 =>
  (hpF q1 a0 0 1 (.ref q1.2.1.1)).bind fun h3 =>
  some h3
/-! java/util/ArrayList.isEmpty()Z -/
def f_Jx4a65c_isEmpty_aae02 (a0 : Nat) (h : AH) : Option (Int32 × AH) :=
  (hgI h a0 0 2).bind fun v1 =>
  if v1 = 0 then (some (1, h)) else (some (0, h))
/-! java/util/ArrayList.size()I -/
def f_Jx4a65c_size_8abf5 (a0 : Nat) (h : AH) : Option (Int32 × AH) :=
  (hgI h a0 0 2).bind fun v1 =>
  some (v1, h)
/-! HeaveSongs$Hands.add(IIII)Z -/
def f_X0_add (a0 : Nat) (a1 : Int32) (a2 : Int32) (a3 : Int32) (a4 : Int32) (h : AH) : Option (Int32 × AH) :=
  (hgI h a0 1 6).bind fun v1 =>
  if v1 < 10 then ((hgR h a0 1 0).bind fun v4 =>
  (hgI h a0 1 6).bind fun v6 =>
  (hst h 0 v4 v6 a1).bind fun h8 =>
  (hgR h8 a0 1 1).bind fun v10 =>
  (hgI h8 a0 1 6).bind fun v12 =>
  (hst h8 0 v10 v12 a2).bind fun h14 =>
  (hgR h14 a0 1 2).bind fun v16 =>
  (hgI h14 a0 1 6).bind fun v18 =>
  (hst h14 0 v16 v18 a3).bind fun h20 =>
  (hgR h20 a0 1 3).bind fun v22 =>
  (hgI h20 a0 1 6).bind fun v24 =>
  (hst h20 0 v22 v24 a4).bind fun h26 =>
  (hgR h26 a0 1 5).bind fun v28 =>
  (hgI h26 a0 1 6).bind fun v30 =>
  (hst h26 0 v28 v30 a1).bind fun h32 =>
  (hgI h32 a0 1 7).bind fun v34 =>
  (hgI h32 a0 1 6).bind fun v36 =>
  (hpF h32 a0 1 7 (.int (v34 ||| (1 <<< (v36 &&& 31))))).bind fun h38 =>
  (hgI h38 a0 1 6).bind fun v40 =>
  (hpF h38 a0 1 6 (.int (v40 + 1))).bind fun h42 =>
  some (1, h42)) else (some (0, h))
/-! HeaveSongs$Hands.allSet()I -/
def f_X0_allSet (a0 : Nat) (h : AH) : Option (Int32 × AH) :=
  (hgI h a0 1 6).bind fun v1 =>
  some ((1 <<< (v1 &&& 31)) - 1, h)
/-! HeaveSongs.within(III)Z -/
def f_X11_within (a0 : Int32) (a1 : Int32) (a2 : Int32) (h : AH) : Option (Int32 × AH) :=
  if a0 < a1 then (some (0, h)) else (if a2 < a0 then (some (0, h)) else (some (1, h)))
/-! HeaveSongs$Hands.has(I)Z -/
def f_X0_has (a0 : Nat) (a1 : Int32) (h : AH) : Option (Int32 × AH) :=
  (hgI h a0 1 6).bind fun v1 =>
  (f_X11_within a1 0 (v1 - 1) h).bind fun q3 =>
  (hzb q3.1).bind fun _ =>
  some (q3.1, q3.2)
/-! HeaveSongs$Hands.howManyAtStrength()I -/
def f_X0_howManyAtStrength_L4 (x0 : Nat) (s : Int32 × Int32 × AH) : Option ((Int32 × Int32 × AH) ⊕ ((Int32 × AH))) :=
  (hgI s.2.2 x0 1 6).bind fun v1 =>
  if v1 ≤ s.2.1 then (some (.inr ((s.1, s.2.2)))) else ((hgR s.2.2 x0 1 5).bind fun v4 =>
  (hld s.2.2 0 v4 s.2.1).bind fun v6 =>
  (hgR s.2.2 x0 1 0).bind fun v8 =>
  (hld s.2.2 0 v8 s.2.1).bind fun v10 =>
  if v6 = v10 then (some (.inl (s.1 + 1, s.2.1 + 1, s.2.2))) else (some (.inl (s.1, s.2.1 + 1, s.2.2))))
def f_X0_howManyAtStrength (a0 : Nat) (h : AH) : Option (Int32 × AH) :=
  (iter (f_X0_howManyAtStrength_L4 a0) 100000 (0, 0, h)).bind fun e13 =>
  some (e13.1, e13.2)
/-! HeaveSongs$Hands.<init>()V -/
def f_X0_init (a0 : Nat) (h : AH) : Option (AH) :=
  (hpF (hnew h (.inl (0, 10, .inl fun _ => 0))) a0 1 0 (.ref h.1)).bind fun h1 =>
  (hpF (hnew h1 (.inl (0, 10, .inl fun _ => 0))) a0 1 1 (.ref h1.1)).bind fun h3 =>
  (hpF (hnew h3 (.inl (0, 10, .inl fun _ => 0))) a0 1 2 (.ref h3.1)).bind fun h5 =>
  (hpF (hnew h5 (.inl (0, 10, .inl fun _ => 0))) a0 1 3 (.ref h5.1)).bind fun h7 =>
  (hpF (hnew h7 (.inl (0, 10, .inl fun _ => 0))) a0 1 4 (.ref h7.1)).bind fun h9 =>
  (hpF (hnew h9 (.inl (0, 10, .inl fun _ => 0))) a0 1 5 (.ref h9.1)).bind fun h11 =>
  some h11
/-! HeaveSongs$Hands.mixedInto(J)J -/
def f_X0_mixedInto_L5 (x0 : Nat) (s : Int64 × Int32 × AH) : Option ((Int64 × Int32 × AH) ⊕ ((Int64 × AH))) :=
  (hgI s.2.2 x0 1 6).bind fun v1 =>
  if v1 ≤ s.2.1 then (some (.inr ((s.1, s.2.2)))) else ((hgR s.2.2 x0 1 0).bind fun v4 =>
  (hld s.2.2 0 v4 s.2.1).bind fun v6 =>
  (hgR s.2.2 x0 1 1).bind fun v8 =>
  (hld s.2.2 0 v8 s.2.1).bind fun v10 =>
  (hgR s.2.2 x0 1 2).bind fun v12 =>
  (hld s.2.2 0 v12 s.2.1).bind fun v14 =>
  (hgR s.2.2 x0 1 3).bind fun v16 =>
  (hld s.2.2 0 v16 s.2.1).bind fun v18 =>
  (hgR s.2.2 x0 1 4).bind fun v20 =>
  (hld s.2.2 0 v20 s.2.1).bind fun v22 =>
  (hgR s.2.2 x0 1 5).bind fun v24 =>
  (hld s.2.2 0 v24 s.2.1).bind fun v26 =>
  some (.inl ((31 * ((31 * ((31 * ((31 * ((31 * ((31 * s.1) + v6.toInt64)) + v10.toInt64)) + v14.toInt64)) + v18.toInt64)) + v22.toInt64)) + v26.toInt64, s.2.1 + 1, s.2.2)))
def f_X0_mixedInto (a0 : Nat) (a1 : Int64) (h : AH) : Option (Int64 × AH) :=
  (iter (f_X0_mixedInto_L5 a0) 100000 (a1, 0, h)).bind fun e28 =>
  some (e28.1, e28.2)
/-! HeaveSongs$Hands.restFor(I[I)V -/
def f_X0_restFor_L2 (x0 : Nat) (x1 : Int32) (x2 : Nat) (s : Int32 × AH) : Option ((Int32 × AH) ⊕ ((AH))) :=
  (hgI s.2 x0 1 6).bind fun v1 =>
  if v1 ≤ s.1 then (some (.inr (s.2))) else ((hlen s.2 x2).bind fun v4 =>
  if v4 ≤ s.1 then (some (.inr (s.2))) else ((hgR s.2 x0 1 0).bind fun v7 =>
  (hld s.2 0 v7 s.1).bind fun v9 =>
  (hld s.2 0 x2 s.1).bind fun v11 =>
  (hgR s.2 x0 1 2).bind fun v13 =>
  (hld s.2 0 v13 s.1).bind fun v15 =>
  (hst s.2 0 x2 s.1 (if (v11 + (x1 * v15)) < v9 then (v11 + (x1 * v15)) else v9)).bind fun h17 =>
  some (.inl (s.1 + 1, h17))))
def f_X0_restFor (a0 : Nat) (a1 : Int32) (a2 : Nat) (h : AH) : Option (AH) :=
  (iter (f_X0_restFor_L2 a0 a1 a2) 100000 (0, h)).bind fun e19 =>
  some e19
/-! HeaveSongs$Word.<init>(II)V -/
def f_X10_init (a0 : Nat) (a1 : Int32) (a2 : Int32) (h : AH) : Option (AH) :=
  (hpF h a0 11 0 (.int a1)).bind fun h1 =>
  (hpF h1 a0 11 1 (.int a2)).bind fun h3 =>
  some h3
/-! HeaveSongs$Word.isStrong(I)Z -/
def f_X10_isStrong (a0 : Nat) (a1 : Int32) (h : AH) : Option (Int32 × AH) :=
  (hgI h a0 11 1).bind fun v1 =>
  (hgI h a0 11 0).bind fun v3 =>
  if ((v1 >>> (((v3 - 1) - a1) &&& 31)) &&& 1) = 1 then (some (1, h)) else (some (0, h))
/-! HeaveSongs$Word.mixedInto(J)J -/
def f_X10_mixedInto (a0 : Nat) (a1 : Int64) (h : AH) : Option (Int64 × AH) :=
  (hgI h a0 11 0).bind fun v1 =>
  (hgI h a0 11 1).bind fun v3 =>
  some ((31 * ((31 * a1) + v1.toInt64)) + v3.toInt64, h)
/-! HeaveSongs.isSilent(I)Z -/
def f_X11_isSilent (a0 : Int32) (h : AH) : Option (Int32 × AH) :=
  if a0 = 1 then (some (0, h)) else (if a0 = 2 then (some (0, h)) else (some (1, h)))
/-! HeaveSongs$Word.wrongIfSungFrom(LHeaveSongs$Row;I)I -/
def f_X10_wrongIfSungFrom_L24_J71 (x0 : Nat) (x1 : Nat) (x2 : Int32) (y3 : Int32) (y4 : Int32) (z0 : Int32) (z1 : Int32) (h : AH) : Option ((Int32 × Int32 × AH) ⊕ ((Int32 × AH) ⊕ (AH))) :=
  if z1 = z0 then (some (.inl (y3, y4 + 1, h))) else (some (.inl (y3 + 1, y4 + 1, h)))
def f_X10_wrongIfSungFrom_L24 (x0 : Nat) (x1 : Nat) (x2 : Int32) (s : Int32 × Int32 × AH) : Option ((Int32 × Int32 × AH) ⊕ ((Int32 × AH) ⊕ (AH))) :=
  (hgI s.2.2 x0 11 0).bind fun v7 =>
  if v7 ≤ s.2.1 then (some (.inr (.inl ((s.1, s.2.2))))) else ((hgR s.2.2 x1 7 0).bind fun v10 =>
  (hld s.2.2 0 v10 (x2 + s.2.1)).bind fun v12 =>
  (f_X11_isSilent v12 s.2.2).bind fun q14 =>
  if q14.1 = 0 then ((hcl q14.2 x0 11).bind fun _ =>
  (f_X10_isStrong x0 s.2.1 q14.2).bind fun q17 =>
  if v12 = 2 then (f_X10_wrongIfSungFrom_L24_J71 x0 x1 x2 s.1 s.2.1 1 q17.1 q17.2) else (f_X10_wrongIfSungFrom_L24_J71 x0 x1 x2 s.1 s.2.1 0 q17.1 q17.2)) else (some (.inr (.inr (q14.2)))))
def f_X10_wrongIfSungFrom (a0 : Nat) (a1 : Nat) (a2 : Int32) (h : AH) : Option (Int32 × AH) :=
  if a2 < 0 then (some ((-1), h)) else ((hgI h a0 11 0).bind fun v2 =>
  (hgI h a1 7 1).bind fun v4 =>
  if (a2 + v2) ≤ v4 then ((iter (f_X10_wrongIfSungFrom_L24 a0 a1 a2) 100000 (0, 0, h)).bind fun e22 =>
  Sum.elim (fun e24 => some (e24.1, e24.2)) (fun e25 => some ((-1), e25)) e22) else (some ((-1), h)))
/-! HeaveSongs.songOf(I)LHeaveSongs$Song; -/
def f_X11_songOf (a0 : Nat) (a1 : Int32) (h : AH) : Option (Option Nat × AH) :=
  (hgR h a0 12 1).bind fun v1 =>
  (hcl h v1 0).bind fun _ =>
  (f_Jx4a65c_size_8abf5 v1 h).bind fun q3 =>
  (f_X11_within a1 0 (q3.1 - 1) q3.2).bind fun q6 =>
  if q6.1 = 0 then (some (none, q6.2)) else ((hgR q6.2 a0 12 1).bind fun v9 =>
  (hcl q6.2 v9 0).bind fun _ =>
  (f_Jx4a65c_get_915e3 v9 a1 q6.2).bind fun q11 =>
  (hcl q11.2 q11.1 8).bind fun _ =>
  some (some q11.1, q11.2))
/-! HeaveSongs$Kin.changes(LHeaveSongs$Row;LHeaveSongs$Row;)I -/
def f_X2_changes_L2 (x0 : Nat) (x1 : Nat) (x2 : Nat) (s : Int32 × AH) : Option ((Int32 × AH) ⊕ ((AH))) :=
  (hgI s.2 x2 7 1).bind fun v1 =>
  if v1 < s.1 then (some (.inr (s.2))) else ((hgR s.2 x0 3 0).bind fun v4 =>
  (hst s.2 0 v4 s.1 s.1).bind fun h6 =>
  some (.inl (s.1 + 1, h6)))
def f_X2_changes_L53_J96 (x0 : Nat) (x1 : Nat) (x2 : Nat) (x3 : Int32) (y5 : Int32) (y6 : Int32) (z0 : Int32) (z1 : Int32) (h : AH) : Option ((Int32 × Int32 × AH) ⊕ ((AH))) :=
  (hgR h x0 3 0).bind fun v37 =>
  (hgR h x0 3 0).bind fun v39 =>
  (hld h 0 v39 y5).bind fun v41 =>
  (hst h 0 v37 (y5 + 1) (if ((if v41 < y6 then v41 else y6) + 1) < (z1 + z0) then ((if v41 < y6 then v41 else y6) + 1) else (z1 + z0))).bind fun h43 =>
  some (.inl (y6, y5 + 1, h43))
def f_X2_changes_L53 (x0 : Nat) (x1 : Nat) (x2 : Nat) (x3 : Int32) (s : Int32 × Int32 × AH) : Option ((Int32 × Int32 × AH) ⊕ ((AH))) :=
  (hgI s.2.2 x2 7 1).bind fun v21 =>
  if v21 ≤ s.2.1 then (some (.inr (s.2.2))) else ((hgR s.2.2 x0 3 0).bind fun v24 =>
  (hld s.2.2 0 v24 (s.2.1 + 1)).bind fun v26 =>
  (hgR s.2.2 x1 7 0).bind fun v28 =>
  (hld s.2.2 0 v28 x3).bind fun v30 =>
  (hgR s.2.2 x2 7 0).bind fun v32 =>
  (hld s.2.2 0 v32 s.2.1).bind fun v34 =>
  if v30 = v34 then (f_X2_changes_L53_J96 x0 x1 x2 x3 s.2.1 v26 0 s.1 s.2.2) else (f_X2_changes_L53_J96 x0 x1 x2 x3 s.2.1 v26 1 s.1 s.2.2))
def f_X2_changes_L25 (x0 : Nat) (x1 : Nat) (x2 : Nat) (s : Int32 × AH) : Option ((Int32 × AH) ⊕ ((AH))) :=
  (hgI s.2 x1 7 1).bind fun v10 =>
  if v10 ≤ s.1 then (some (.inr (s.2))) else ((hgR s.2 x0 3 0).bind fun v13 =>
  (hld s.2 0 v13 0).bind fun v15 =>
  (hgR s.2 x0 3 0).bind fun v17 =>
  (hst s.2 0 v17 0 (s.1 + 1)).bind fun h19 =>
  (iter (f_X2_changes_L53 x0 x1 x2 s.1) 100000 (v15, 0, h19)).bind fun e45 =>
  some (.inl (s.1 + 1, e45)))
def f_X2_changes (a0 : Nat) (a1 : Nat) (a2 : Nat) (h : AH) : Option (Int32 × AH) :=
  (iter (f_X2_changes_L2 a0 a1 a2) 100000 (0, h)).bind fun e8 =>
  (iter (f_X2_changes_L25 a0 a1 a2) 100000 (0, e8)).bind fun e47 =>
  (hgR e47 a0 3 0).bind fun v49 =>
  (hgI e47 a2 7 1).bind fun v51 =>
  (hld e47 0 v49 v51).bind fun v53 =>
  some (v53, e47)
/-! HeaveSongs$Kin.distance(LHeaveSongs$Song;LHeaveSongs$Song;)I -/
def f_X2_distance (a0 : Nat) (a1 : Nat) (a2 : Nat) (h : AH) : Option (Int32 × AH) :=
  (hgR h a1 8 0).bind fun v1 =>
  (hgR h a2 8 0).bind fun v3 =>
  (hcl h a0 3).bind fun _ =>
  (f_X2_changes a0 v1 v3 h).bind fun q5 =>
  (hgR q5.2 a1 8 1).bind fun v8 =>
  (hgR q5.2 a2 8 1).bind fun v10 =>
  (hcl q5.2 a0 3).bind fun _ =>
  (f_X2_changes a0 v8 v10 q5.2).bind fun q12 =>
  some (q5.1 + q12.1, q12.2)
/-! HeaveSongs.apart(II)I -/
def f_X11_apart (a0 : Nat) (a1 : Int32) (a2 : Int32) (h : AH) : Option (Int32 × AH) :=
  (hcl h a0 12).bind fun _ =>
  (f_X11_songOf a0 a1 h).bind fun q1 =>
  (hcl q1.2 a0 12).bind fun _ =>
  (f_X11_songOf a0 a2 q1.2).bind fun q4 =>
  Option.elim q1.1 (some ((-2), q4.2)) (fun a8 => Option.elim q4.1 (some ((-2), q4.2)) (fun a10 => (hgR q4.2 a0 12 11).bind fun v11 =>
  (hcl q4.2 v11 3).bind fun _ =>
  (f_X2_distance v11 a8 a10 q4.2).bind fun q13 =>
  some (q13.1, q13.2)))
/-! HeaveSongs$Row.add(I)Z -/
def f_X6_add (a0 : Nat) (a1 : Int32) (h : AH) : Option (Int32 × AH) :=
  (hgI h a0 7 1).bind fun v1 =>
  (hgR h a0 7 0).bind fun v3 =>
  (hlen h v3).bind fun v5 =>
  if v1 < v5 then ((hgR h a0 7 0).bind fun v8 =>
  (hgI h a0 7 1).bind fun v10 =>
  (hst h 0 v8 v10 a1).bind fun h12 =>
  (hgI h12 a0 7 1).bind fun v14 =>
  (hpF h12 a0 7 1 (.int (v14 + 1))).bind fun h16 =>
  some (1, h16)) else (some (0, h))
/-! HeaveSongs.beat(I)I -/
def f_X11_beat (a0 : Nat) (a1 : Int32) (h : AH) : Option (Int32 × AH) :=
  if a1 < 0 then (some ((-2), h)) else (if a1 ≤ 3 then ((hgR h a0 12 0).bind fun v3 =>
  (hcl h v3 7).bind fun _ =>
  (f_X6_add v3 a1 h).bind fun q5 =>
  if q5.1 = 0 then (some ((-4), q5.2)) else ((hgR q5.2 a0 12 0).bind fun v9 =>
  (hgI q5.2 v9 7 1).bind fun v11 =>
  some (v11, q5.2))) else (some ((-2), h)))
/-! HeaveSongs$Song.sungAt(I)I -/
def f_X7_sungAt (a0 : Nat) (a1 : Int32) (h : AH) : Option (Int32 × AH) :=
  (hgR h a0 8 0).bind fun v1 =>
  (hgI h v1 7 1).bind fun v3 =>
  (hgR h a0 8 1).bind fun v5 =>
  (hgI h v5 7 1).bind fun v7 =>
  if a1 < 0 then (some (0, h)) else (if 0 < (v3 + v7) then ((hdv (v3 + v7)).bind fun _ =>
  (hgR h a0 8 0).bind fun v12 =>
  (hgI h v12 7 1).bind fun v14 =>
  if v14 ≤ (a1 - a1 / (v3 + v7) * (v3 + v7)) then ((hgR h a0 8 1).bind fun v17 =>
  (hgR h v17 7 0).bind fun v19 =>
  (hgR h a0 8 0).bind fun v21 =>
  (hgI h v21 7 1).bind fun v23 =>
  (hld h 0 v19 ((a1 - a1 / (v3 + v7) * (v3 + v7)) - v23)).bind fun v25 =>
  some (v25, h)) else ((hgR h a0 8 0).bind fun v27 =>
  (hgR h v27 7 0).bind fun v29 =>
  (hld h 0 v29 (a1 - a1 / (v3 + v7) * (v3 + v7))).bind fun v31 =>
  some (v31, h))) else (some (0, h)))
/-! HeaveSongs.beatAt(II)I -/
def f_X11_beatAt (a0 : Nat) (a1 : Int32) (a2 : Int32) (h : AH) : Option (Int32 × AH) :=
  (hcl h a0 12).bind fun _ =>
  (f_X11_songOf a0 a1 h).bind fun q1 =>
  Option.elim q1.1 (some ((-2), q1.2)) (fun a5 => (f_X11_within a2 0 1000 q1.2).bind fun q6 =>
  if q6.1 = 0 then (some ((-2), q6.2)) else ((hcl q6.2 a5 8).bind fun _ =>
  (f_X7_sungAt a5 a2 q6.2).bind fun q9 =>
  some (q9.1, q9.2)))
/-! HeaveSongs.copy([I[I)V -/
def f_X11_copy_L2 (x0 : Nat) (x1 : Nat) (s : Int32 × AH) : Option ((Int32 × AH) ⊕ ((AH))) :=
  (hlen s.2 x0).bind fun v1 =>
  if v1 ≤ s.1 then (some (.inr (s.2))) else ((hlen s.2 x1).bind fun v4 =>
  if v4 ≤ s.1 then (some (.inr (s.2))) else ((hld s.2 0 x0 s.1).bind fun v7 =>
  (hst s.2 0 x1 s.1 v7).bind fun h9 =>
  some (.inl (s.1 + 1, h9))))
def f_X11_copy (a0 : Nat) (a1 : Nat) (h : AH) : Option (AH) :=
  (iter (f_X11_copy_L2 a0 a1) 100000 (0, h)).bind fun e11 =>
  some e11
/-! HeaveSongs$Haul.beginAsTold(LHeaveSongs$Hands;)V -/
def f_X1_beginAsTold (a0 : Nat) (a1 : Nat) (h : AH) : Option (AH) :=
  (hgR h a1 1 5).bind fun v1 =>
  (hgR h a0 2 0).bind fun v3 =>
  (f_X11_copy v1 v3 h).bind fun q5 =>
  (hgR q5 a1 1 4).bind fun v7 =>
  (hgR q5 a0 2 1).bind fun v9 =>
  (f_X11_copy v7 v9 q5).bind fun q11 =>
  (hgI q11 a1 1 7).bind fun v13 =>
  (hpF q11 a0 2 5 (.int v13)).bind fun h15 =>
  (hgI h15 a1 1 8).bind fun v17 =>
  (hpF h15 a0 2 6 (.int v17)).bind fun h19 =>
  some h19
/-! HeaveSongs.isIn(II)Z -/
def f_X11_isIn (a0 : Int32) (a1 : Int32) (h : AH) : Option (Int32 × AH) :=
  if ((a0 >>> (a1 &&& 31)) &&& 1) = 1 then (some (1, h)) else (some (0, h))
/-! HeaveSongs$Haul.gatherByLate(I)V -/
def f_X1_gatherByLate_L2 (x0 : Nat) (x1 : Int32) (s : Int32 × AH) : Option ((Int32 × AH) ⊕ ((AH))) :=
  if 3 < s.1 then (some (.inr (s.2))) else ((hgR s.2 x0 2 4).bind fun v2 =>
  (hst s.2 0 v2 s.1 0).bind fun h4 =>
  some (.inl (s.1 + 1, h4)))
def f_X1_gatherByLate_L22 (x0 : Nat) (x1 : Int32) (s : Int32 × AH) : Option ((Int32 × AH) ⊕ ((AH))) :=
  if x1 ≤ s.1 then (some (.inr (s.2))) else ((hgI s.2 x0 2 5).bind fun v9 =>
  (f_X11_isIn v9 s.1 s.2).bind fun q11 =>
  if q11.1 = 0 then (some (.inl (s.1 + 1, q11.2))) else ((hgR q11.2 x0 2 1).bind fun v14 =>
  (hld q11.2 0 v14 s.1).bind fun v16 =>
  (f_X11_within v16 0 3 q11.2).bind fun q18 =>
  if q18.1 = 0 then (some (.inl (s.1 + 1, q18.2))) else ((hgR q18.2 x0 2 4).bind fun v21 =>
  (hgR q18.2 x0 2 1).bind fun v23 =>
  (hld q18.2 0 v23 s.1).bind fun v25 =>
  (hld q18.2 0 v21 v25).bind fun v27 =>
  (hst q18.2 0 v21 v25 (v27 ||| (1 <<< (s.1 &&& 31)))).bind fun h29 =>
  some (.inl (s.1 + 1, h29)))))
def f_X1_gatherByLate (a0 : Nat) (a1 : Int32) (h : AH) : Option (AH) :=
  (iter (f_X1_gatherByLate_L2 a0 a1) 100000 (0, h)).bind fun e6 =>
  (iter (f_X1_gatherByLate_L22 a0 a1) 100000 (0, e6)).bind fun e31 =>
  some e31
/-! HeaveSongs$Haul.pullersAt(LHeaveSongs$Song;I)I -/
def f_X1_pullersAt_L5 (x0 : Nat) (x1 : Nat) (x2 : Int32) (s : Int32 × Int32 × AH) : Option ((Int32 × Int32 × AH) ⊕ ((Int32 × AH))) :=
  if 3 < s.2.1 then (some (.inr ((s.1, s.2.2)))) else (if x2 < s.2.1 then (some (.inr ((s.1, s.2.2)))) else ((hgR s.2.2 x0 2 4).bind fun v3 =>
  (hld s.2.2 0 v3 s.2.1).bind fun v5 =>
  if v5 = 0 then (some (.inl (s.1, s.2.1 + 1, s.2.2))) else ((hcl s.2.2 x1 8).bind fun _ =>
  (f_X7_sungAt x1 (x2 - s.2.1) s.2.2).bind fun q8 =>
  if q8.1 = 2 then ((hgR q8.2 x0 2 4).bind fun v12 =>
  (hld q8.2 0 v12 s.2.1).bind fun v14 =>
  some (.inl (s.1 ||| v14, s.2.1 + 1, q8.2))) else (some (.inl (s.1, s.2.1 + 1, q8.2))))))
def f_X1_pullersAt (a0 : Nat) (a1 : Nat) (a2 : Int32) (h : AH) : Option (Int32 × AH) :=
  (iter (f_X1_pullersAt_L5 a0 a1 a2) 100000 (0, 0, h)).bind fun e16 =>
  some (e16.1, e16.2)
/-! HeaveSongs$Haul.comesBack(LHeaveSongs$Hands;II)I -/
def f_X1_comesBack_J15 (a0 : Nat) (a1 : Nat) (a2 : Int32) (a3 : Int32) (h : AH) : Option (Int32 × AH) :=
  (hgR h a1 1 2).bind fun v2 =>
  (hld h 0 v2 a2).bind fun v4 =>
  some (v4, h)
def f_X1_comesBack (a0 : Nat) (a1 : Nat) (a2 : Int32) (a3 : Int32) (h : AH) : Option (Int32 × AH) :=
  if a3 = 0 then (f_X1_comesBack_J15 a0 a1 a2 a3 h) else ((hgI h a0 2 5).bind fun v6 =>
  (f_X11_isIn v6 a2 h).bind fun q8 =>
  if q8.1 = 0 then (f_X1_comesBack_J15 a0 a1 a2 a3 q8.2) else (if a3 = 3 then ((hgR q8.2 a1 1 3).bind fun v12 =>
  (hld q8.2 0 v12 a2).bind fun v14 =>
  some (v14, q8.2)) else (some (0, q8.2))))
/-! HeaveSongs$Haul.pull(LHeaveSongs$Hands;II)I -/
def f_X1_pull_L6 (x0 : Nat) (x1 : Nat) (x2 : Int32) (x3 : Int32) (s : Int32 × Int32 × AH) : Option ((Int32 × Int32 × AH) ⊕ ((Int32 × AH))) :=
  (hgI s.2.2 x1 1 6).bind fun v1 =>
  if v1 ≤ s.2.1 then (some (.inr ((s.1, s.2.2)))) else ((hgR s.2.2 x0 2 0).bind fun v4 =>
  (hld s.2.2 0 v4 s.2.1).bind fun v6 =>
  (f_X11_isIn x2 s.2.1 s.2.2).bind fun q8 =>
  if q8.1 = 0 then ((hgR q8.2 x1 1 0).bind fun v11 =>
  (hld q8.2 0 v11 s.2.1).bind fun v13 =>
  if v13 ≤ v6 then (some (.inl (s.1, s.2.1 + 1, q8.2))) else ((hgR q8.2 x0 2 0).bind fun v16 =>
  (hgR q8.2 x1 1 0).bind fun v18 =>
  (hld q8.2 0 v18 s.2.1).bind fun v20 =>
  (hcl q8.2 x0 2).bind fun _ =>
  (f_X1_comesBack x0 x1 s.2.1 x3 q8.2).bind fun q22 =>
  (hst q22.2 0 v16 s.2.1 (if (v6 + q22.1) < v20 then (v6 + q22.1) else v20)).bind fun h25 =>
  some (.inl (s.1, s.2.1 + 1, h25)))) else ((hgR q8.2 x0 2 0).bind fun v27 =>
  (hgR q8.2 x1 1 1).bind fun v29 =>
  (hld q8.2 0 v29 s.2.1).bind fun v31 =>
  (hst q8.2 0 v27 s.2.1 (if 0 < (v6 - v31) then (v6 - v31) else 0)).bind fun h33 =>
  some (.inl (s.1 + v6, s.2.1 + 1, h33))))
def f_X1_pull (a0 : Nat) (a1 : Nat) (a2 : Int32) (a3 : Int32) (h : AH) : Option (Int32 × AH) :=
  (iter (f_X1_pull_L6 a0 a1 a2 a3) 100000 (0, 0, h)).bind fun e35 =>
  some (e35.1, e35.2)
/-! HeaveSongs$Task.wonBehind(II)I -/
def f_X8_wonBehind (a0 : Nat) (a1 : Int32) (a2 : Int32) (h : AH) : Option (Int32 × AH) :=
  (hgI h a0 9 1).bind fun v1 =>
  if a2 ≤ v1 then ((hgI h a0 9 2).bind fun v4 =>
  some (if 0 < (a1 - v4) then (a1 - v4) else 0, h)) else ((hgI h a0 9 1).bind fun v6 =>
  some (a1 + ((a2 - v6) / 10), h))
/-! HeaveSongs$Haul.isBelowFloor(I)Z -/
def f_X1_isBelowFloor_L11 (x0 : Nat) (x1 : Int32) (s : Int32 × AH) : Option ((Int32 × AH) ⊕ ((AH) ⊕ (AH))) :=
  if x1 ≤ s.1 then (some (.inr (.inl (s.2)))) else ((hgI s.2 x0 2 5).bind fun v5 =>
  (f_X11_isIn v5 s.1 s.2).bind fun q7 =>
  if q7.1 = 0 then (some (.inl (s.1 + 1, q7.2))) else ((hgR q7.2 x0 2 0).bind fun v10 =>
  (hld q7.2 0 v10 s.1).bind fun v12 =>
  (hgI q7.2 x0 2 6).bind fun v14 =>
  if v14 ≤ v12 then (some (.inl (s.1 + 1, q7.2))) else (some (.inr (.inr (q7.2))))))
def f_X1_isBelowFloor (a0 : Nat) (a1 : Int32) (h : AH) : Option (Int32 × AH) :=
  (hgI h a0 2 6).bind fun v1 =>
  if 0 < v1 then ((iter (f_X1_isBelowFloor_L11 a0 a1) 100000 (0, h)).bind fun e17 =>
  Sum.elim (fun e19 => some (0, e19)) (fun e20 => some (1, e20)) e17) else (some (0, h))
/-! HeaveSongs$Haul.go(LHeaveSongs$Hands;LHeaveSongs$Song;LHeaveSongs$Task;I)Z -/
def f_X1_go_L19 (x0 : Nat) (x1 : Nat) (x2 : Nat) (x3 : Nat) (x4 : Int32) (s : Int32 × Int32 × AH) : Option ((Int32 × Int32 × AH) ⊕ ((AH) ⊕ (AH) ⊕ (AH))) :=
  if x4 ≤ s.2.1 then (some (.inr (.inl (s.2.2)))) else (if 300 ≤ s.2.1 then (some (.inr (.inl (s.2.2)))) else ((hcl s.2.2 x0 2).bind fun _ =>
  (f_X1_pullersAt x0 x2 s.2.1 s.2.2).bind fun q10 =>
  (hcl q10.2 x2 8).bind fun _ =>
  (f_X7_sungAt x2 s.2.1 q10.2).bind fun q13 =>
  (hcl q13.2 x0 2).bind fun _ =>
  (f_X1_pull x0 x1 q10.1 q13.1 q13.2).bind fun q16 =>
  (hcl q16.2 x3 9).bind fun _ =>
  (f_X8_wonBehind x3 s.1 q16.1 q16.2).bind fun q19 =>
  (hgR q19.2 x0 2 2).bind fun v22 =>
  (hst q19.2 0 v22 s.2.1 q19.1).bind fun h24 =>
  (hgR h24 x0 2 3).bind fun v26 =>
  (hst h24 0 v26 s.2.1 q16.1).bind fun h28 =>
  (hpF h28 x0 2 7 (.int (s.2.1 + 1))).bind fun h30 =>
  (hgI h30 x1 1 6).bind fun v32 =>
  (hcl h30 x0 2).bind fun _ =>
  (f_X1_isBelowFloor x0 v32 h30).bind fun q34 =>
  if q34.1 = 0 then ((hgI q34.2 x3 9 0).bind fun v38 =>
  if q19.1 < v38 then (some (.inl (q19.1, s.2.1 + 1, q34.2))) else (some (.inr (.inr (.inl (q34.2)))))) else (some (.inr (.inr (.inr (q34.2)))))))
def f_X1_go (a0 : Nat) (a1 : Nat) (a2 : Nat) (a3 : Nat) (a4 : Int32) (h : AH) : Option (Int32 × AH) :=
  (hpF h a0 2 7 (.int 0)).bind fun h1 =>
  (hgI h1 a1 1 6).bind fun v3 =>
  (hcl h1 a0 2).bind fun _ =>
  (f_X1_gatherByLate a0 v3 h1).bind fun q5 =>
  (iter (f_X1_go_L19 a0 a1 a2 a3 a4) 100000 (0, 0, q5)).bind fun e41 =>
  Sum.elim (fun e43 => some (0, e43)) (fun e44 => Sum.elim (fun e45 => some (1, e45)) (fun e46 => some (0, e46)) e44) e41
/-! HeaveSongs$Haul.leastNow(I)I -/
def f_X1_leastNow_L5 (x0 : Nat) (x1 : Int32) (s : Int32 × Int32 × AH) : Option ((Int32 × Int32 × AH) ⊕ ((Int32 × AH))) :=
  if x1 ≤ s.2.1 then (some (.inr ((s.1, s.2.2)))) else ((hgR s.2.2 x0 2 0).bind fun v2 =>
  (hld s.2.2 0 v2 s.2.1).bind fun v4 =>
  some (.inl (if v4 < s.1 then v4 else s.1, s.2.1 + 1, s.2.2)))
def f_X1_leastNow (a0 : Nat) (a1 : Int32) (h : AH) : Option (Int32 × AH) :=
  (iter (f_X1_leastNow_L5 a0 a1) 100000 (100, 0, h)).bind fun e6 =>
  some (e6.1, e6.2)
/-! HeaveSongs$TaskSearch.tryCrew(LHeaveSongs$Hands;LHeaveSongs$Song;LHeaveSongs$Task;I)V -/
def f_X9_tryCrew_J71 (a0 : Nat) (a1 : Nat) (a2 : Nat) (a3 : Nat) (a4 : Int32) (y5 : Int32) (h : AH) : Option (AH) :=
  (hpF h a0 10 6 (.int a4)).bind fun h32 =>
  (hgR h32 a0 10 0).bind fun v34 =>
  (hgI h32 v34 2 7).bind fun v36 =>
  (hpF h32 a0 10 7 (.int v36)).bind fun h38 =>
  (hpF h38 a0 10 8 (.int y5)).bind fun h40 =>
  some h40
def f_X9_tryCrew (a0 : Nat) (a1 : Nat) (a2 : Nat) (a3 : Nat) (a4 : Int32) (h : AH) : Option (AH) :=
  (hgR h a0 10 0).bind fun v1 =>
  (hcl h v1 2).bind fun _ =>
  (f_X1_beginAsTold v1 a1 h).bind fun q3 =>
  (hgR q3 a0 10 0).bind fun v6 =>
  (hpF q3 v6 2 5 (.int a4)).bind fun h8 =>
  (hgR h8 a0 10 0).bind fun v10 =>
  (hgI h8 a0 10 7).bind fun v12 =>
  (hcl h8 v10 2).bind fun _ =>
  (f_X1_go v10 a1 a2 a3 v12 h8).bind fun q14 =>
  if q14.1 = 0 then (some q14.2) else ((hgR q14.2 a0 10 0).bind fun v18 =>
  (hgI q14.2 a1 1 6).bind fun v20 =>
  (hcl q14.2 v18 2).bind fun _ =>
  (f_X1_leastNow v18 v20 q14.2).bind fun q22 =>
  (hgR q22.2 a0 10 0).bind fun v25 =>
  (hgI q22.2 v25 2 7).bind fun v27 =>
  (hgI q22.2 a0 10 7).bind fun v29 =>
  if v27 < v29 then (f_X9_tryCrew_J71 a0 a1 a2 a3 a4 q22.1 q22.2) else ((hgI q22.2 a0 10 8).bind fun v42 =>
  if q22.1 ≤ v42 then (some q22.2) else (f_X9_tryCrew_J71 a0 a1 a2 a3 a4 q22.1 q22.2)))
/-! HeaveSongs$TaskSearch.findCrew(LHeaveSongs$Hands;LHeaveSongs$Song;LHeaveSongs$Task;I)V -/
def f_X9_findCrew_L9 (x0 : Nat) (x1 : Nat) (x2 : Nat) (x3 : Nat) (x4 : Int32) (s : Int32 × AH) : Option ((Int32 × AH) ⊕ ((AH))) :=
  (hcl s.2 x1 1).bind fun _ =>
  (f_X0_allSet x1 s.2).bind fun q3 =>
  if q3.1 < s.1 then (some (.inr (q3.2))) else ((f_J6_bitCount_0f7a4 s.1 q3.2).bind fun q7 =>
  if q7.1 = x4 then ((hcl q7.2 x0 10).bind fun _ =>
  (f_X9_tryCrew x0 x1 x2 x3 s.1 q7.2).bind fun q10 =>
  some (.inl (s.1 + 1, q10))) else (some (.inl (s.1 + 1, q7.2))))
def f_X9_findCrew (a0 : Nat) (a1 : Nat) (a2 : Nat) (a3 : Nat) (a4 : Int32) (h : AH) : Option (AH) :=
  (hpF h a0 10 7 (.int 1000000000)).bind fun h1 =>
  (iter (f_X9_findCrew_L9 a0 a1 a2 a3 a4) 100000 (1, h1)).bind fun e13 =>
  some e13
/-! HeaveSongs.best(IIII)I -/
def f_X11_best (a0 : Nat) (a1 : Int32) (a2 : Int32) (a3 : Int32) (a4 : Int32) (h : AH) : Option (Int32 × AH) :=
  (hcl h a0 12).bind fun _ =>
  (f_X11_songOf a0 a1 h).bind fun q1 =>
  Option.elim q1.1 (some ((-2), q1.2)) (fun a5 => (hgR q1.2 a0 12 4).bind fun v6 =>
  (hcl q1.2 v6 0).bind fun _ =>
  (f_Jx4a65c_size_8abf5 v6 q1.2).bind fun q8 =>
  (f_X11_within a2 0 (q8.1 - 1) q8.2).bind fun q11 =>
  if q11.1 = 0 then (some ((-2), q11.2)) else ((hgR q11.2 a0 12 2).bind fun v14 =>
  (hgI q11.2 v14 1 6).bind fun v16 =>
  (f_X11_within a3 1 v16 q11.2).bind fun q18 =>
  if q18.1 = 0 then (some ((-2), q18.2)) else ((f_X11_within a4 0 2 q18.2).bind fun q21 =>
  if q21.1 = 0 then (some ((-2), q21.2)) else ((hgR q21.2 a0 12 6).bind fun v24 =>
  (hgR q21.2 a0 12 2).bind fun v26 =>
  (hgR q21.2 a0 12 4).bind fun v28 =>
  (hcl q21.2 v28 0).bind fun _ =>
  (f_Jx4a65c_get_915e3 v28 a2 q21.2).bind fun q30 =>
  (hcl q30.2 q30.1 9).bind fun _ =>
  (hcl q30.2 v24 10).bind fun _ =>
  (f_X9_findCrew v24 v26 a5 q30.1 a3 q30.2).bind fun q34 =>
  (hgR q34 a0 12 6).bind fun v37 =>
  (hgI q34 v37 10 7).bind fun v39 =>
  if v39 = 1000000000 then (some ((-1), q34)) else (if a4 = 0 then ((hgR q34 a0 12 6).bind fun v43 =>
  (hgI q34 v43 10 6).bind fun v45 =>
  some (v45, q34)) else (if a4 = 1 then ((hgR q34 a0 12 6).bind fun v48 =>
  (hgI q34 v48 10 7).bind fun v50 =>
  some (v50, q34)) else ((hgR q34 a0 12 6).bind fun v52 =>
  (hgI q34 v52 10 8).bind fun v54 =>
  some (v54, q34))))))))
/-! HeaveSongs.between(I)I -/
def f_X11_between (a0 : Nat) (a1 : Int32) (h : AH) : Option (Int32 × AH) :=
  (f_X11_within a1 0 50 h).bind fun q1 =>
  if q1.1 = 0 then (some ((-2), q1.2)) else ((hgI q1.2 a0 12 5).bind fun v4 =>
  (hpF q1.2 a0 12 5 (.int a1)).bind fun h6 =>
  (hgR h6 a0 12 6).bind fun v8 =>
  (hpF h6 v8 10 5 (.int 0)).bind fun h10 =>
  some (v4, h10))
/-! HeaveSongs.count(I)I -/
def f_X11_count (a0 : Nat) (a1 : Int32) (h : AH) : Option (Int32 × AH) :=
  if a1 = 0 then ((hgR h a0 12 1).bind fun v2 =>
  (hcl h v2 0).bind fun _ =>
  (f_Jx4a65c_size_8abf5 v2 h).bind fun q4 =>
  some (q4.1, q4.2)) else (if a1 = 1 then ((hgR h a0 12 2).bind fun v8 =>
  (hgI h v8 1 6).bind fun v10 =>
  some (v10, h)) else (if a1 = 2 then ((hgR h a0 12 2).bind fun v13 =>
  (hgI h v13 1 7).bind fun v15 =>
  some (v15, h)) else (if a1 = 3 then ((hgR h a0 12 2).bind fun v18 =>
  (hgI h v18 1 8).bind fun v20 =>
  some (v20, h)) else (if a1 = 4 then ((hgR h a0 12 4).bind fun v23 =>
  (hcl h v23 0).bind fun _ =>
  (f_Jx4a65c_size_8abf5 v23 h).bind fun q25 =>
  some (q25.1, q25.2)) else (if a1 = 5 then ((hgR h a0 12 7).bind fun v29 =>
  (hcl h v29 0).bind fun _ =>
  (f_Jx4a65c_size_8abf5 v29 h).bind fun q31 =>
  some (q31.1, q31.2)) else (if a1 = 6 then ((hgR h a0 12 9).bind fun v35 =>
  (hgI h v35 6 2).bind fun v37 =>
  some (v37, h)) else (if a1 = 7 then ((hgR h a0 12 0).bind fun v40 =>
  (hgI h v40 7 1).bind fun v42 =>
  some (v42, h)) else (if a1 = 8 then ((hgR h a0 12 3).bind fun v45 =>
  (hgI h v45 2 7).bind fun v47 =>
  some (v47, h)) else (some ((-2), h))))))))))
/-! HeaveSongs.crew(I)I -/
def f_X11_crew (a0 : Nat) (a1 : Int32) (h : AH) : Option (Int32 × AH) :=
  (hgR h a0 12 2).bind fun v1 =>
  (hcl h v1 1).bind fun _ =>
  (f_X0_allSet v1 h).bind fun q3 =>
  (f_X11_within a1 0 q3.1 q3.2).bind fun q6 =>
  if q6.1 = 0 then (some ((-2), q6.2)) else ((hgR q6.2 a0 12 2).bind fun v9 =>
  (hgI q6.2 v9 1 7).bind fun v11 =>
  (hgR q6.2 a0 12 2).bind fun v13 =>
  (hpF q6.2 v13 1 7 (.int a1)).bind fun h15 =>
  (hgR h15 a0 12 6).bind fun v17 =>
  (hpF h15 v17 10 5 (.int 0)).bind fun h19 =>
  some (v11, h19))
/-! HeaveSongs$Row.mixedInto(J)J -/
def f_X6_mixedInto_L5 (x0 : Nat) (s : Int64 × Int32 × AH) : Option ((Int64 × Int32 × AH) ⊕ ((Int64 × AH))) :=
  (hgI s.2.2 x0 7 1).bind fun v1 =>
  if v1 ≤ s.2.1 then (some (.inr ((s.1, s.2.2)))) else ((hgR s.2.2 x0 7 0).bind fun v4 =>
  (hld s.2.2 0 v4 s.2.1).bind fun v6 =>
  some (.inl ((31 * s.1) + v6.toInt64, s.2.1 + 1, s.2.2)))
def f_X6_mixedInto (a0 : Nat) (a1 : Int64) (h : AH) : Option (Int64 × AH) :=
  (iter (f_X6_mixedInto_L5 a0) 100000 (a1, 0, h)).bind fun e8 =>
  some (e8.1, e8.2)
/-! HeaveSongs$Song.mixedInto(J)J -/
def f_X7_mixedInto (a0 : Nat) (a1 : Int64) (h : AH) : Option (Int64 × AH) :=
  (hgR h a0 8 0).bind fun v1 =>
  (hgI h v1 7 1).bind fun v3 =>
  (hgR h a0 8 1).bind fun v5 =>
  (hgI h v5 7 1).bind fun v7 =>
  (hgR h a0 8 1).bind fun v9 =>
  (hgR h a0 8 0).bind fun v11 =>
  (hcl h v11 7).bind fun _ =>
  (f_X6_mixedInto v11 ((31 * ((31 * a1) + v3.toInt64)) + v7.toInt64) h).bind fun q13 =>
  (hcl q13.2 v9 7).bind fun _ =>
  (f_X6_mixedInto v9 q13.1 q13.2).bind fun q16 =>
  some (q16.1, q16.2)
/-! HeaveSongs$Haul.mixedInto(J)J -/
def f_X1_mixedInto_L5 (x0 : Nat) (s : Int64 × Int32 × AH) : Option ((Int64 × Int32 × AH) ⊕ ((Int64 × AH))) :=
  (hgI s.2.2 x0 2 7).bind fun v1 =>
  if v1 ≤ s.2.1 then (some (.inr ((s.1, s.2.2)))) else ((hgR s.2.2 x0 2 2).bind fun v4 =>
  (hld s.2.2 0 v4 s.2.1).bind fun v6 =>
  some (.inl ((31 * s.1) + v6.toInt64, s.2.1 + 1, s.2.2)))
def f_X1_mixedInto_L38 (x0 : Nat) (s : Int64 × Int32 × AH) : Option ((Int64 × Int32 × AH) ⊕ ((Int64 × AH))) :=
  (hgI s.2.2 x0 2 7).bind fun v10 =>
  if v10 ≤ s.2.1 then (some (.inr ((s.1, s.2.2)))) else ((hgR s.2.2 x0 2 3).bind fun v13 =>
  (hld s.2.2 0 v13 s.2.1).bind fun v15 =>
  some (.inl ((31 * s.1) + v15.toInt64, s.2.1 + 1, s.2.2)))
def f_X1_mixedInto (a0 : Nat) (a1 : Int64) (h : AH) : Option (Int64 × AH) :=
  (iter (f_X1_mixedInto_L5 a0) 100000 (a1, 0, h)).bind fun e8 =>
  (iter (f_X1_mixedInto_L38 a0) 100000 (e8.1, 0, e8.2)).bind fun e17 =>
  some (e17.1, e17.2)
/-! HeaveSongs$Task.mixedInto(J)J -/
def f_X8_mixedInto (a0 : Nat) (a1 : Int64) (h : AH) : Option (Int64 × AH) :=
  (hgI h a0 9 0).bind fun v1 =>
  (hgI h a0 9 1).bind fun v3 =>
  (hgI h a0 9 2).bind fun v5 =>
  some ((31 * ((31 * ((31 * a1) + v1.toInt64)) + v3.toInt64)) + v5.toInt64, h)
/-! HeaveSongs$Marks.mixedInto(J)J -/
def f_X5_mixedInto_L5 (x0 : Nat) (s : Int64 × Int32 × AH) : Option ((Int64 × Int32 × AH) ⊕ ((Int64 × AH))) :=
  (hgI s.2.2 x0 6 2).bind fun v1 =>
  if v1 ≤ s.2.1 then (some (.inr ((s.1, s.2.2)))) else ((hgR s.2.2 x0 6 0).bind fun v4 =>
  (hld s.2.2 0 v4 s.2.1).bind fun v6 =>
  (hgR s.2.2 x0 6 1).bind fun v8 =>
  (hld s.2.2 0 v8 s.2.1).bind fun v10 =>
  some (.inl ((31 * ((31 * s.1) + v6.toInt64)) + v10.toInt64, s.2.1 + 1, s.2.2)))
def f_X5_mixedInto (a0 : Nat) (a1 : Int64) (h : AH) : Option (Int64 × AH) :=
  (iter (f_X5_mixedInto_L5 a0) 100000 (a1, 0, h)).bind fun e12 =>
  some (e12.1, e12.2)
/-! HeaveSongs.digest()J -/
def f_X11_digest_L6 (x0 : Nat) (s : Int64 × Int32 × AH) : Option ((Int64 × Int32 × AH) ⊕ ((Int64 × AH))) :=
  if 8 < s.2.1 then (some (.inr ((s.1, s.2.2)))) else ((hcl s.2.2 x0 12).bind fun _ =>
  (f_X11_count x0 s.2.1 s.2.2).bind fun q2 =>
  some (.inl ((31 * s.1) + q2.1.toInt64, s.2.1 + 1, q2.2)))
def f_X11_digest_L42 (x0 : Nat) (s : Int64 × Int32 × AH) : Option ((Int64 × Int32 × AH) ⊕ ((Int64 × AH))) :=
  (hgR s.2.2 x0 12 1).bind fun v12 =>
  (hcl s.2.2 v12 0).bind fun _ =>
  (f_Jx4a65c_size_8abf5 v12 s.2.2).bind fun q14 =>
  if q14.1 ≤ s.2.1 then (some (.inr ((s.1, q14.2)))) else ((hgR q14.2 x0 12 1).bind fun v18 =>
  (hcl q14.2 v18 0).bind fun _ =>
  (f_Jx4a65c_get_915e3 v18 s.2.1 q14.2).bind fun q20 =>
  (hcl q20.2 q20.1 8).bind fun _ =>
  (hcl q20.2 q20.1 8).bind fun _ =>
  (f_X7_mixedInto q20.1 s.1 q20.2).bind fun q24 =>
  some (.inl (q24.1, s.2.1 + 1, q24.2)))
def f_X11_digest_L95 (x0 : Nat) (s : Int64 × Int32 × AH) : Option ((Int64 × Int32 × AH) ⊕ ((Int64 × AH))) :=
  (hgR s.2.2 x0 12 4).bind fun v39 =>
  (hcl s.2.2 v39 0).bind fun _ =>
  (f_Jx4a65c_size_8abf5 v39 s.2.2).bind fun q41 =>
  if q41.1 ≤ s.2.1 then (some (.inr ((s.1, q41.2)))) else ((hgR q41.2 x0 12 4).bind fun v45 =>
  (hcl q41.2 v45 0).bind fun _ =>
  (f_Jx4a65c_get_915e3 v45 s.2.1 q41.2).bind fun q47 =>
  (hcl q47.2 q47.1 9).bind fun _ =>
  (hcl q47.2 q47.1 9).bind fun _ =>
  (f_X8_mixedInto q47.1 s.1 q47.2).bind fun q51 =>
  some (.inl (q51.1, s.2.1 + 1, q51.2)))
def f_X11_digest_L130 (x0 : Nat) (s : Int64 × Int32 × AH) : Option ((Int64 × Int32 × AH) ⊕ ((Int64 × AH))) :=
  (hgR s.2.2 x0 12 7).bind fun v56 =>
  (hcl s.2.2 v56 0).bind fun _ =>
  (f_Jx4a65c_size_8abf5 v56 s.2.2).bind fun q58 =>
  if q58.1 ≤ s.2.1 then (some (.inr ((s.1, q58.2)))) else ((hgR q58.2 x0 12 7).bind fun v62 =>
  (hcl q58.2 v62 0).bind fun _ =>
  (f_Jx4a65c_get_915e3 v62 s.2.1 q58.2).bind fun q64 =>
  (hcl q64.2 q64.1 11).bind fun _ =>
  (hcl q64.2 q64.1 11).bind fun _ =>
  (f_X10_mixedInto q64.1 s.1 q64.2).bind fun q68 =>
  some (.inl (q68.1, s.2.1 + 1, q68.2)))
def f_X11_digest (a0 : Nat) (h : AH) : Option (Int64 × AH) :=
  (iter (f_X11_digest_L6 a0) 100000 (283, 0, h)).bind fun e5 =>
  (hgR e5.2 a0 12 0).bind fun v7 =>
  (hcl e5.2 v7 7).bind fun _ =>
  (f_X6_mixedInto v7 e5.1 e5.2).bind fun q9 =>
  (iter (f_X11_digest_L42 a0) 100000 (q9.1, 0, q9.2)).bind fun e27 =>
  (hgR e27.2 a0 12 2).bind fun v29 =>
  (hcl e27.2 v29 1).bind fun _ =>
  (f_X0_mixedInto v29 e27.1 e27.2).bind fun q31 =>
  (hgR q31.2 a0 12 3).bind fun v34 =>
  (hcl q31.2 v34 2).bind fun _ =>
  (f_X1_mixedInto v34 q31.1 q31.2).bind fun q36 =>
  (iter (f_X11_digest_L95 a0) 100000 (q36.1, 0, q36.2)).bind fun e54 =>
  (iter (f_X11_digest_L130 a0) 100000 (e54.1, 0, e54.2)).bind fun e71 =>
  (hgR e71.2 a0 12 9).bind fun v73 =>
  (hcl e71.2 v73 6).bind fun _ =>
  (f_X5_mixedInto v73 e71.1 e71.2).bind fun q75 =>
  some (q75.1, q75.2)
/-! HeaveSongs.floor(I)I -/
def f_X11_floor (a0 : Nat) (a1 : Int32) (h : AH) : Option (Int32 × AH) :=
  (f_X11_within a1 0 100 h).bind fun q1 =>
  if q1.1 = 0 then (some ((-2), q1.2)) else ((hgR q1.2 a0 12 2).bind fun v4 =>
  (hgI q1.2 v4 1 8).bind fun v6 =>
  (hgR q1.2 a0 12 2).bind fun v8 =>
  (hpF q1.2 v8 1 8 (.int a1)).bind fun h10 =>
  (hgR h10 a0 12 6).bind fun v12 =>
  (hpF h10 v12 10 5 (.int 0)).bind fun h14 =>
  some (v6, h14))
/-! HeaveSongs.ofLatest([II)I -/
def f_X11_ofLatest (a0 : Nat) (a1 : Nat) (a2 : Int32) (h : AH) : Option (Int32 × AH) :=
  if 0 ≤ a2 then ((hgR h a0 12 3).bind fun v2 =>
  (hgI h v2 2 7).bind fun v4 =>
  if v4 ≤ a2 then (some ((-1), h)) else ((hlen h a1).bind fun v7 =>
  if v7 ≤ a2 then (some ((-1), h)) else ((hld h 0 a1 a2).bind fun v10 =>
  some (v10, h)))) else (some ((-2), h))
/-! HeaveSongs.force(I)I -/
def f_X11_force (a0 : Nat) (a1 : Int32) (h : AH) : Option (Int32 × AH) :=
  (hgR h a0 12 3).bind fun v1 =>
  (hgR h v1 2 3).bind fun v3 =>
  (hcl h a0 12).bind fun _ =>
  (f_X11_ofLatest a0 v3 a1 h).bind fun q5 =>
  some (q5.1, q5.2)
/-! HeaveSongs.hand(IIII)I -/
def f_X11_hand (a0 : Nat) (a1 : Int32) (a2 : Int32) (a3 : Int32) (a4 : Int32) (h : AH) : Option (Int32 × AH) :=
  (f_X11_within a1 1 100 h).bind fun q1 =>
  if q1.1 = 0 then (some ((-2), q1.2)) else ((f_X11_within a2 0 30 q1.2).bind fun q4 =>
  if q4.1 = 0 then (some ((-2), q4.2)) else ((f_X11_within a3 0 30 q4.2).bind fun q7 =>
  if q7.1 = 0 then (some ((-2), q7.2)) else ((f_X11_within a4 0 30 q7.2).bind fun q10 =>
  if q10.1 = 0 then (some ((-2), q10.2)) else ((hgR q10.2 a0 12 2).bind fun v13 =>
  (hcl q10.2 v13 1).bind fun _ =>
  (f_X0_add v13 a1 a2 a3 a4 q10.2).bind fun q15 =>
  if q15.1 = 0 then (some ((-4), q15.2)) else ((hgR q15.2 a0 12 6).bind fun v19 =>
  (hpF q15.2 v19 10 5 (.int 0)).bind fun h21 =>
  (hgR h21 a0 12 2).bind fun v23 =>
  (hgI h21 v23 1 6).bind fun v25 =>
  some (v25 - 1, h21))))))
/-! HeaveSongs$Kin.hangNearest(Ljava/util/ArrayList;)I -/
def f_X2_hangNearest_L30 (x0 : Nat) (x1 : Nat) (x5 : Int32) (s : Int32 × Int32 × Int32 × Int32 × AH) : Option ((Int32 × Int32 × Int32 × Int32 × AH) ⊕ ((Int32 × Int32 × Int32 × AH))) :=
  (hcl s.2.2.2.2 x1 0).bind fun _ =>
  (f_Jx4a65c_size_8abf5 x1 s.2.2.2.2).bind fun q6 =>
  if q6.1 ≤ s.2.2.2.1 then (some (.inr ((s.1, s.2.1, s.2.2.1, q6.2)))) else (if 6 ≤ s.2.2.2.1 then (some (.inr ((s.1, s.2.1, s.2.2.1, q6.2)))) else ((hgR q6.2 x0 3 2).bind fun v11 =>
  (hld q6.2 2 v11 x5).bind fun v13 =>
  if v13 = 0 then ((hgR q6.2 x0 3 2).bind fun v16 =>
  (hld q6.2 2 v16 s.2.2.2.1).bind fun v18 =>
  if v18 = 0 then (some (.inl (s.1, s.2.1, s.2.2.1, s.2.2.2.1 + 1, q6.2))) else ((hcl q6.2 x1 0).bind fun _ =>
  (f_Jx4a65c_get_915e3 x1 x5 q6.2).bind fun q21 =>
  (hcl q21.2 q21.1 8).bind fun _ =>
  (hcl q21.2 x1 0).bind fun _ =>
  (f_Jx4a65c_get_915e3 x1 s.2.2.2.1 q21.2).bind fun q25 =>
  (hcl q25.2 q25.1 8).bind fun _ =>
  (hcl q25.2 x0 3).bind fun _ =>
  (f_X2_distance x0 q21.1 q25.1 q25.2).bind fun q29 =>
  if s.1 ≤ q29.1 then (some (.inl (s.1, s.2.1, s.2.2.1, s.2.2.2.1 + 1, q29.2))) else (some (.inl (q29.1, x5, s.2.2.2.1, s.2.2.2.1 + 1, q29.2))))) else (some (.inl (s.1, s.2.1, s.2.2.1, s.2.2.2.1 + 1, q6.2)))))
def f_X2_hangNearest_L11 (x0 : Nat) (x1 : Nat) (s : Int32 × Int32 × Int32 × Int32 × AH) : Option ((Int32 × Int32 × Int32 × Int32 × AH) ⊕ ((Int32 × Int32 × Int32 × AH))) :=
  (hcl s.2.2.2.2 x1 0).bind fun _ =>
  (f_Jx4a65c_size_8abf5 x1 s.2.2.2.2).bind fun q1 =>
  if q1.1 ≤ s.2.2.2.1 then (some (.inr ((s.1, s.2.1, s.2.2.1, q1.2)))) else (if 6 ≤ s.2.2.2.1 then (some (.inr ((s.1, s.2.1, s.2.2.1, q1.2)))) else ((iter (f_X2_hangNearest_L30 x0 x1 s.2.2.2.1) 100000 (s.1, s.2.1, s.2.2.1, 0, q1.2)).bind fun e33 =>
  some (.inl (e33.1, e33.2.1, e33.2.2.1, s.2.2.2.1 + 1, e33.2.2.2))))
def f_X2_hangNearest (a0 : Nat) (a1 : Nat) (h : AH) : Option (Int32 × AH) :=
  (iter (f_X2_hangNearest_L11 a0 a1) 100000 (1000000000, 0, (-1), 0, h)).bind fun e35 =>
  (hgR e35.2.2.2 a0 3 2).bind fun v37 =>
  (hst e35.2.2.2 2 v37 e35.2.1 1).bind fun h39 =>
  (hgR h39 a0 3 1).bind fun v41 =>
  (hst h39 0 v41 e35.2.1 e35.2.2.1).bind fun h43 =>
  some (e35.1, h43)
/-! HeaveSongs$Kin.growTree(Ljava/util/ArrayList;)I -/
def f_X2_growTree_L2_J22 (x0 : Nat) (x1 : Nat) (y2 : Int32) (z0 : Int32) (z1 : Int32) (z2 : Nat) (h : AH) : Option ((Int32 × AH) ⊕ ((AH))) :=
  (hzb z0).bind fun _ =>
  (hst h 2 z2 z1 z0).bind fun h5 =>
  (hgR h5 x0 3 1).bind fun v8 =>
  (hst h5 0 v8 y2 (-1)).bind fun h10 =>
  some (.inl (y2 + 1, h10))
def f_X2_growTree_L2 (x0 : Nat) (x1 : Nat) (s : Int32 × AH) : Option ((Int32 × AH) ⊕ ((AH))) :=
  if 6 ≤ s.1 then (some (.inr (s.2))) else ((hgR s.2 x0 3 2).bind fun v2 =>
  if s.1 = 0 then (f_X2_growTree_L2_J22 x0 x1 s.1 1 s.1 v2 s.2) else (f_X2_growTree_L2_J22 x0 x1 s.1 0 s.1 v2 s.2))
def f_X2_growTree_L40 (x0 : Nat) (x1 : Nat) (s : Int32 × Int32 × AH) : Option ((Int32 × Int32 × AH) ⊕ ((Int32 × AH))) :=
  (hcl s.2.2 x1 0).bind fun _ =>
  (f_Jx4a65c_size_8abf5 x1 s.2.2).bind fun q14 =>
  if q14.1 ≤ s.2.1 then (some (.inr ((s.1, q14.2)))) else ((hcl q14.2 x0 3).bind fun _ =>
  (f_X2_hangNearest x0 x1 q14.2).bind fun q18 =>
  some (.inl (s.1 + q18.1, s.2.1 + 1, q18.2)))
def f_X2_growTree (a0 : Nat) (a1 : Nat) (h : AH) : Option (Int32 × AH) :=
  (iter (f_X2_growTree_L2 a0 a1) 100000 (0, h)).bind fun e12 =>
  (iter (f_X2_growTree_L40 a0 a1) 100000 (0, 1, e12)).bind fun e21 =>
  some (e21.1, e21.2)
/-! HeaveSongs.hangs(I)I -/
def f_X11_hangs (a0 : Nat) (a1 : Int32) (h : AH) : Option (Int32 × AH) :=
  (hgR h a0 12 1).bind fun v1 =>
  (hcl h v1 0).bind fun _ =>
  (f_Jx4a65c_size_8abf5 v1 h).bind fun q3 =>
  (f_X11_within a1 0 (q3.1 - 1) q3.2).bind fun q6 =>
  if q6.1 = 0 then (some ((-2), q6.2)) else ((hgR q6.2 a0 12 11).bind fun v9 =>
  (hgR q6.2 a0 12 1).bind fun v11 =>
  (hcl q6.2 v9 3).bind fun _ =>
  (f_X2_growTree v9 v11 q6.2).bind fun q13 =>
  (hgR q13.2 a0 12 11).bind fun v16 =>
  (hgR q13.2 v16 3 1).bind fun v18 =>
  (hld q13.2 0 v18 a1).bind fun v20 =>
  some (v20, q13.2))
/-! HeaveSongs.isWeight(II)Z -/
def f_X11_isWeight (a0 : Int32) (a1 : Int32) (h : AH) : Option (Int32 × AH) :=
  (f_X11_within a0 0 1000 h).bind fun q1 =>
  if q1.1 = 0 then (some (0, q1.2)) else ((f_X11_within a1 0 50 q1.2).bind fun q4 =>
  if q4.1 = 0 then (some (0, q4.2)) else (some (1, q4.2)))
/-! HeaveSongs.isTask(III)Z -/
def f_X11_isTask (a0 : Int32) (a1 : Int32) (a2 : Int32) (h : AH) : Option (Int32 × AH) :=
  (f_X11_within a0 1 3000 h).bind fun q1 =>
  if q1.1 = 0 then (some (0, q1.2)) else ((f_X11_isWeight a1 a2 q1.2).bind fun q4 =>
  if q4.1 = 0 then (some (0, q4.2)) else (some (1, q4.2)))
/-! HeaveSongs$Task.<init>(III)V -/
def f_X8_init (a0 : Nat) (a1 : Int32) (a2 : Int32) (a3 : Int32) (h : AH) : Option (AH) :=
  (hpF h a0 9 0 (.int a1)).bind fun h1 =>
  (hpF h1 a0 9 1 (.int a2)).bind fun h3 =>
  (hpF h3 a0 9 2 (.int a3)).bind fun h5 =>
  some h5
/-! HeaveSongs.haul(IIII)I -/
def f_X11_haul (a0 : Nat) (a1 : Int32) (a2 : Int32) (a3 : Int32) (a4 : Int32) (h : AH) : Option (Int32 × AH) :=
  (hcl h a0 12).bind fun _ =>
  (f_X11_songOf a0 a1 h).bind fun q1 =>
  Option.elim q1.1 (some ((-2), q1.2)) (fun a5 => (f_X11_isTask a2 a3 a4 q1.2).bind fun q6 =>
  if q6.1 = 0 then (some ((-2), q6.2)) else ((hgR q6.2 a0 12 3).bind fun v9 =>
  (hgR q6.2 a0 12 2).bind fun v11 =>
  (hcl q6.2 v9 2).bind fun _ =>
  (f_X1_beginAsTold v9 v11 q6.2).bind fun q13 =>
  (hgR q13 a0 12 3).bind fun v16 =>
  (hgR q13 a0 12 2).bind fun v18 =>
  (f_X8_init q13.1 a2 a3 a4 (hnew q13 (.inr (9, [.int 0, .int 0, .int 0])))).bind fun q20 =>
  (hcl q20 v16 2).bind fun _ =>
  (f_X1_go v16 v18 a5 q13.1 300 q20).bind fun q22 =>
  (hgR q22.2 a0 12 3).bind fun v25 =>
  (hgR q22.2 v25 2 0).bind fun v27 =>
  (hgR q22.2 a0 12 2).bind fun v29 =>
  (hgR q22.2 v29 1 5).bind fun v31 =>
  (f_X11_copy v27 v31 q22.2).bind fun q33 =>
  (hgR q33 a0 12 6).bind fun v35 =>
  (hpF q33 v35 10 5 (.int 0)).bind fun h37 =>
  if q22.1 = 0 then ((hgR h37 a0 12 3).bind fun v40 =>
  (hgI h37 v40 2 7).bind fun v42 =>
  some ((-10) - v42, h37)) else ((hgR h37 a0 12 3).bind fun v44 =>
  (hgI h37 v44 2 7).bind fun v46 =>
  some (v46, h37))))
/-! HeaveSongs$Row.<init>()V -/
def f_X6_init (a0 : Nat) (h : AH) : Option (AH) :=
  (hpF (hnew h (.inl (0, 24, .inl fun _ => 0))) a0 7 0 (.ref h.1)).bind fun h1 =>
  some h1
/-! HeaveSongs$Haul.<init>()V -/
def f_X1_init (a0 : Nat) (h : AH) : Option (AH) :=
  (hpF (hnew h (.inl (0, 10, .inl fun _ => 0))) a0 2 0 (.ref h.1)).bind fun h1 =>
  (hpF (hnew h1 (.inl (0, 10, .inl fun _ => 0))) a0 2 1 (.ref h1.1)).bind fun h3 =>
  (hpF (hnew h3 (.inl (0, 300, .inl fun _ => 0))) a0 2 2 (.ref h3.1)).bind fun h5 =>
  (hpF (hnew h5 (.inl (0, 300, .inl fun _ => 0))) a0 2 3 (.ref h5.1)).bind fun h7 =>
  (hpF (hnew h7 (.inl (0, 4, .inl fun _ => 0))) a0 2 4 (.ref h7.1)).bind fun h9 =>
  some h9
/-! HeaveSongs$TaskSearch.<init>()V -/
def f_X9_init (a0 : Nat) (h : AH) : Option (AH) :=
  (f_X1_init h.1 (hnew h (.inr (2, [.null, .null, .null, .null, .null, .int 0, .int 0, .int 0])))).bind fun q1 =>
  (hpF q1 a0 10 0 (.ref h.1)).bind fun h3 =>
  (hpF (hnews h3 (hmulti h3.1 4 10)) a0 10 1 (.ref h3.1)).bind fun h5 =>
  (hpF (hnew h5 (.inl (0, 4, .inl fun _ => 0))) a0 10 2 (.ref h5.1)).bind fun h7 =>
  (hpF (hnew h7 (.inl (0, 4, .inl fun _ => 0))) a0 10 3 (.ref h7.1)).bind fun h9 =>
  (hpF h9 a0 10 4 (.int 1000000000)).bind fun h11 =>
  (hpF h11 a0 10 7 (.int 1000000000)).bind fun h13 =>
  some h13
/-! HeaveSongs$LineMaker.<init>()V -/
def f_X4_init (a0 : Nat) (h : AH) : Option (AH) :=
  (hpF (hnew h (.inl (1, 25, .inr (.inl fun _ => 0)))) a0 5 0 (.ref h.1)).bind fun h1 =>
  (hpF (hnew h1 (.inl (0, 25, .inl fun _ => 0))) a0 5 1 (.ref h1.1)).bind fun h3 =>
  (hpF (hnew h3 (.inl (0, 24, .inl fun _ => 0))) a0 5 2 (.ref h3.1)).bind fun h5 =>
  some h5
/-! HeaveSongs$Marks.<init>()V -/
def f_X5_init (a0 : Nat) (h : AH) : Option (AH) :=
  (hpF (hnew h (.inl (0, 60, .inl fun _ => 0))) a0 6 0 (.ref h.1)).bind fun h1 =>
  (hpF (hnew h1 (.inl (0, 60, .inl fun _ => 0))) a0 6 1 (.ref h1.1)).bind fun h3 =>
  some h3
/-! HeaveSongs$LateSearch.<init>()V -/
def f_X3_init (a0 : Nat) (h : AH) : Option (AH) :=
  (f_X1_init h.1 (hnew h (.inr (2, [.null, .null, .null, .null, .null, .int 0, .int 0, .int 0])))).bind fun q1 =>
  (hpF q1 a0 4 0 (.ref h.1)).bind fun h3 =>
  some h3
/-! HeaveSongs$Kin.<init>()V -/
def f_X2_init (a0 : Nat) (h : AH) : Option (AH) :=
  (hpF (hnew h (.inl (0, 25, .inl fun _ => 0))) a0 3 0 (.ref h.1)).bind fun h1 =>
  (hpF (hnew h1 (.inl (0, 6, .inl fun _ => 0))) a0 3 1 (.ref h1.1)).bind fun h3 =>
  (hpF (hnew h3 (.inl (2, 6, .inl fun _ => 0))) a0 3 2 (.ref h3.1)).bind fun h5 =>
  some h5
/-! HeaveSongs.<init>()V -/
def f_X11_init (a0 : Nat) (h : AH) : Option (AH) :=
  (f_X6_init h.1 (hnew h (.inr (7, [.null, .int 0])))).bind fun q1 =>
  (hpF q1 a0 12 0 (.ref h.1)).bind fun h3 =>
  (f_Jx4a65c_init_da8c8 h3.1 (hnew h3 (.inr (0, [.int 0, .null, .int 0])))).bind fun q5 =>
  (hpF q5 a0 12 1 (.ref h3.1)).bind fun h7 =>
  (f_X0_init h7.1 (hnew h7 (.inr (1, [.null, .null, .null, .null, .null, .null, .int 0, .int 0, .int 0])))).bind fun q9 =>
  (hpF q9 a0 12 2 (.ref h7.1)).bind fun h11 =>
  (f_X1_init h11.1 (hnew h11 (.inr (2, [.null, .null, .null, .null, .null, .int 0, .int 0, .int 0])))).bind fun q13 =>
  (hpF q13 a0 12 3 (.ref h11.1)).bind fun h15 =>
  (f_Jx4a65c_init_da8c8 h15.1 (hnew h15 (.inr (0, [.int 0, .null, .int 0])))).bind fun q17 =>
  (hpF q17 a0 12 4 (.ref h15.1)).bind fun h19 =>
  (f_X9_init h19.1 (hnew h19 (.inr (10, [.null, .null, .null, .null, .int 0, .int 0, .int 0, .int 0, .int 0])))).bind fun q21 =>
  (hpF q21 a0 12 6 (.ref h19.1)).bind fun h23 =>
  (f_Jx4a65c_init_da8c8 h23.1 (hnew h23 (.inr (0, [.int 0, .null, .int 0])))).bind fun q25 =>
  (hpF q25 a0 12 7 (.ref h23.1)).bind fun h27 =>
  (f_X4_init h27.1 (hnew h27 (.inr (5, [.null, .null, .null, .int 0, .long 0])))).bind fun q29 =>
  (hpF q29 a0 12 8 (.ref h27.1)).bind fun h31 =>
  (f_X5_init h31.1 (hnew h31 (.inr (6, [.null, .null, .int 0])))).bind fun q33 =>
  (hpF q33 a0 12 9 (.ref h31.1)).bind fun h35 =>
  (f_X3_init h35.1 (hnew h35 (.inr (4, [.null, .int 0, .int 0, .int 0, .int 0, .int 0])))).bind fun q37 =>
  (hpF q37 a0 12 10 (.ref h35.1)).bind fun h39 =>
  (f_X2_init h39.1 (hnew h39 (.inr (3, [.null, .null, .null])))).bind fun q41 =>
  (hpF q41 a0 12 11 (.ref h39.1)).bind fun h43 =>
  some h43
/-! HeaveSongs.late(II)I -/
def f_X11_late (a0 : Nat) (a1 : Int32) (a2 : Int32) (h : AH) : Option (Int32 × AH) :=
  (hgR h a0 12 2).bind fun v1 =>
  (hcl h v1 1).bind fun _ =>
  (f_X0_has v1 a1 h).bind fun q3 =>
  if q3.1 = 0 then (some ((-2), q3.2)) else ((f_X11_within a2 0 3 q3.2).bind fun q7 =>
  if q7.1 = 0 then (some ((-2), q7.2)) else ((hgR q7.2 a0 12 2).bind fun v10 =>
  (hgR q7.2 v10 1 4).bind fun v12 =>
  (hld q7.2 0 v12 a1).bind fun v14 =>
  (hgR q7.2 a0 12 2).bind fun v16 =>
  (hgR q7.2 v16 1 4).bind fun v18 =>
  (hst q7.2 0 v18 a1 a2).bind fun h20 =>
  (hgR h20 a0 12 6).bind fun v22 =>
  (hpF h20 v22 10 5 (.int 0)).bind fun h24 =>
  some (v14, h24)))
/-! HeaveSongs$LineMaker.countWays(LHeaveSongs$Row;Ljava/util/ArrayList;I)J -/
def f_X4_countWays_L6 (x0 : Nat) (x1 : Nat) (x2 : Nat) (x3 : Int32) (s : Int64 × Int32 × AH) : Option ((Int64 × Int32 × AH) ⊕ ((Int64 × AH))) :=
  (hcl s.2.2 x2 0).bind fun _ =>
  (f_Jx4a65c_size_8abf5 x2 s.2.2).bind fun q1 =>
  if q1.1 ≤ s.2.1 then (some (.inr ((s.1, q1.2)))) else ((hcl q1.2 x2 0).bind fun _ =>
  (f_Jx4a65c_get_915e3 x2 s.2.1 q1.2).bind fun q5 =>
  (hcl q5.2 q5.1 11).bind fun _ =>
  (hcl q5.2 q5.1 11).bind fun _ =>
  (f_X10_wrongIfSungFrom q5.1 x1 x3 q5.2).bind fun q9 =>
  if q9.1 = 0 then ((hgR q9.2 x0 5 0).bind fun v13 =>
  (hgI q9.2 q5.1 11 0).bind fun v15 =>
  (hldJ q9.2 v13 (x3 + v15)).bind fun v17 =>
  some (.inl (if (s.1 + v17) < 1000000000000000 then (s.1 + v17) else 1000000000000000, s.2.1 + 1, q9.2))) else (some (.inl (s.1, s.2.1 + 1, q9.2))))
def f_X4_countWays (a0 : Nat) (a1 : Nat) (a2 : Nat) (a3 : Int32) (h : AH) : Option (Int64 × AH) :=
  (iter (f_X4_countWays_L6 a0 a1 a2 a3) 100000 (0, 0, h)).bind fun e19 =>
  some (e19.1, e19.2)
/-! HeaveSongs$LineMaker.howMany(LHeaveSongs$Row;Ljava/util/ArrayList;)J -/
def f_X4_howMany_L17 (x0 : Nat) (x1 : Nat) (x2 : Nat) (s : Int32 × AH) : Option ((Int32 × AH) ⊕ ((AH))) :=
  if s.1 < 0 then (some (.inr (s.2))) else ((hgR s.2 x0 5 0).bind fun v10 =>
  (hgR s.2 x1 7 0).bind fun v12 =>
  (hld s.2 0 v12 s.1).bind fun v14 =>
  (f_X11_isSilent v14 s.2).bind fun q16 =>
  if q16.1 = 0 then ((hcl q16.2 x0 5).bind fun _ =>
  (f_X4_countWays x0 x1 x2 s.1 q16.2).bind fun q19 =>
  (hstJ q19.2 v10 s.1 q19.1).bind fun h22 =>
  some (.inl (s.1 + (-1), h22))) else ((hgR q16.2 x0 5 0).bind fun v24 =>
  (hldJ q16.2 v24 (s.1 + 1)).bind fun v26 =>
  (hstJ q16.2 v10 s.1 v26).bind fun h28 =>
  some (.inl (s.1 + (-1), h28))))
def f_X4_howMany (a0 : Nat) (a1 : Nat) (a2 : Nat) (h : AH) : Option (Int64 × AH) :=
  (hgR h a0 5 0).bind fun v1 =>
  (hgI h a1 7 1).bind fun v3 =>
  (hstJ h v1 v3 1).bind fun h5 =>
  (hgI h5 a1 7 1).bind fun v7 =>
  (iter (f_X4_howMany_L17 a0 a1 a2) 100000 (v7 - 1, h5)).bind fun e30 =>
  (hgR e30 a0 5 0).bind fun v32 =>
  (hldJ e30 v32 0).bind fun v34 =>
  some (v34, e30)
/-! HeaveSongs$LineMaker.wrongWith(LHeaveSongs$Word;LHeaveSongs$Row;I)I -/
def f_X4_wrongWith (a0 : Nat) (a1 : Nat) (a2 : Nat) (a3 : Int32) (h : AH) : Option (Int32 × AH) :=
  (hcl h a1 11).bind fun _ =>
  (f_X10_wrongIfSungFrom a1 a2 a3 h).bind fun q1 =>
  if q1.1 = (-1) then (some ((-1), q1.2)) else ((hgR q1.2 a0 5 1).bind fun v5 =>
  (hgI q1.2 a1 11 0).bind fun v7 =>
  (hld q1.2 0 v5 (a3 + v7)).bind fun v9 =>
  if v9 = (-1) then (some ((-1), q1.2)) else ((hgR q1.2 a0 5 1).bind fun v12 =>
  (hgI q1.2 a1 11 0).bind fun v14 =>
  (hld q1.2 0 v12 (a3 + v14)).bind fun v16 =>
  some (q1.1 + v16, q1.2)))
/-! HeaveSongs$LineMaker.nearWord(LHeaveSongs$Row;Ljava/util/ArrayList;I)I -/
def f_X4_nearWord_L3 (x0 : Nat) (x1 : Nat) (x2 : Nat) (x3 : Int32) (s : Int32 × AH) : Option ((Int32 × AH) ⊕ ((AH) ⊕ (Int32 × AH))) :=
  (hcl s.2 x2 0).bind fun _ =>
  (f_Jx4a65c_size_8abf5 x2 s.2).bind fun q1 =>
  if q1.1 ≤ s.1 then (some (.inr (.inl (q1.2)))) else ((hcl q1.2 x2 0).bind fun _ =>
  (f_Jx4a65c_get_915e3 x2 s.1 q1.2).bind fun q5 =>
  (hcl q5.2 q5.1 11).bind fun _ =>
  (hcl q5.2 x0 5).bind fun _ =>
  (f_X4_wrongWith x0 q5.1 x1 x3 q5.2).bind fun q9 =>
  (hgR q9.2 x0 5 1).bind fun v12 =>
  (hld q9.2 0 v12 x3).bind fun v14 =>
  if q9.1 = v14 then (some (.inr (.inr ((s.1, q9.2))))) else (some (.inl (s.1 + 1, q9.2))))
def f_X4_nearWord (a0 : Nat) (a1 : Nat) (a2 : Nat) (a3 : Int32) (h : AH) : Option (Int32 × AH) :=
  (iter (f_X4_nearWord_L3 a0 a1 a2 a3) 100000 (0, h)).bind fun e17 =>
  Sum.elim (fun e19 => some ((-1), e19)) (fun e20 => some (e20.1, e20.2)) e17
/-! HeaveSongs$LineMaker.countedWord(LHeaveSongs$Row;Ljava/util/ArrayList;I)I -/
def f_X4_countedWord_L3 (x0 : Nat) (x1 : Nat) (x2 : Nat) (x3 : Int32) (s : Int32 × AH) : Option ((Int32 × AH) ⊕ ((AH) ⊕ (Int32 × AH))) :=
  (hcl s.2 x2 0).bind fun _ =>
  (f_Jx4a65c_size_8abf5 x2 s.2).bind fun q1 =>
  if q1.1 ≤ s.1 then (some (.inr (.inl (q1.2)))) else ((hcl q1.2 x2 0).bind fun _ =>
  (f_Jx4a65c_get_915e3 x2 s.1 q1.2).bind fun q5 =>
  (hcl q5.2 q5.1 11).bind fun _ =>
  (hcl q5.2 q5.1 11).bind fun _ =>
  (f_X10_wrongIfSungFrom q5.1 x1 x3 q5.2).bind fun q9 =>
  if q9.1 = 0 then ((hgR q9.2 x0 5 0).bind fun v13 =>
  (hgI q9.2 q5.1 11 0).bind fun v15 =>
  (hldJ q9.2 v13 (x3 + v15)).bind fun v17 =>
  (hgJ q9.2 x0 5 4).bind fun v19 =>
  if 0 ≤ (lg_cmp v19 v17) then ((hgJ q9.2 x0 5 4).bind fun v22 =>
  (hpF q9.2 x0 5 4 (.long (v22 - v17))).bind fun h24 =>
  some (.inl (s.1 + 1, h24))) else (some (.inr (.inr ((s.1, q9.2)))))) else (some (.inl (s.1 + 1, q9.2))))
def f_X4_countedWord (a0 : Nat) (a1 : Nat) (a2 : Nat) (a3 : Int32) (h : AH) : Option (Int32 × AH) :=
  (iter (f_X4_countedWord_L3 a0 a1 a2 a3) 100000 (0, h)).bind fun e26 =>
  Sum.elim (fun e28 => some ((-1), e28)) (fun e29 => some (e29.1, e29.2)) e26
/-! HeaveSongs$LineMaker.lay(LHeaveSongs$Row;Ljava/util/ArrayList;Z)V -/
def f_X4_lay_L6_J73 (x0 : Nat) (x1 : Nat) (x2 : Nat) (x3 : Int32) (y5 : Int32) (z0 : Int32) (h : AH) : Option ((Int32 × Int32 × AH) ⊕ ((AH) ⊕ (AH))) :=
  if z0 = (-1) then (some (.inr (.inr (h)))) else ((hgR h x0 5 2).bind fun v24 =>
  (hgI h x0 5 3).bind fun v26 =>
  (hst h 0 v24 v26 z0).bind fun h28 =>
  (hgI h28 x0 5 3).bind fun v30 =>
  (hpF h28 x0 5 3 (.int (v30 + 1))).bind fun h32 =>
  (hcl h32 x2 0).bind fun _ =>
  (f_Jx4a65c_get_915e3 x2 z0 h32).bind fun q34 =>
  (hcl q34.2 q34.1 11).bind fun _ =>
  (hgI q34.2 q34.1 11 0).bind fun v38 =>
  some (.inl (y5 + v38, y5 + 1, q34.2)))
def f_X4_lay_L6 (x0 : Nat) (x1 : Nat) (x2 : Nat) (x3 : Int32) (s : Int32 × Int32 × AH) : Option ((Int32 × Int32 × AH) ⊕ ((AH) ⊕ (AH))) :=
  (hgI s.2.2 x1 7 1).bind fun v1 =>
  if v1 ≤ s.2.1 then (some (.inr (.inl (s.2.2)))) else ((hgI s.2.2 x0 5 3).bind fun v4 =>
  (hgR s.2.2 x0 5 2).bind fun v6 =>
  (hlen s.2.2 v6).bind fun v8 =>
  if v8 ≤ v4 then (some (.inr (.inl (s.2.2)))) else (if s.2.1 < s.1 then (some (.inl (s.1, s.2.1 + 1, s.2.2))) else ((hgR s.2.2 x1 7 0).bind fun v12 =>
  (hld s.2.2 0 v12 s.2.1).bind fun v14 =>
  (f_X11_isSilent v14 s.2.2).bind fun q16 =>
  if q16.1 = 0 then (if x3 = 0 then ((hcl q16.2 x0 5).bind fun _ =>
  (f_X4_countedWord x0 x1 x2 s.2.1 q16.2).bind fun q20 =>
  f_X4_lay_L6_J73 x0 x1 x2 x3 s.2.1 q20.1 q20.2) else ((hcl q16.2 x0 5).bind fun _ =>
  (f_X4_nearWord x0 x1 x2 s.2.1 q16.2).bind fun q40 =>
  f_X4_lay_L6_J73 x0 x1 x2 x3 s.2.1 q40.1 q40.2)) else (some (.inl (s.1, s.2.1 + 1, q16.2))))))
def f_X4_lay (a0 : Nat) (a1 : Nat) (a2 : Nat) (a3 : Int32) (h : AH) : Option (AH) :=
  (iter (f_X4_lay_L6 a0 a1 a2 a3) 100000 (0, 0, h)).bind fun e43 =>
  Sum.elim (fun e45 => some e45) (fun e46 => some e46) e43
/-! HeaveSongs$LineMaker.makeLine(LHeaveSongs$Row;Ljava/util/ArrayList;J)V -/
def f_X4_makeLine (a0 : Nat) (a1 : Nat) (a2 : Nat) (a3 : Int64) (h : AH) : Option (AH) :=
  (hpF h a0 5 3 (.int 0)).bind fun h1 =>
  if (lg_cmp a3 0) < 0 then (some h1) else ((hcl h1 a0 5).bind fun _ =>
  (f_X4_howMany a0 a1 a2 h1).bind fun q4 =>
  if 0 ≤ (lg_cmp a3 q4.1) then (some q4.2) else ((hpF q4.2 a0 5 4 (.long a3)).bind fun h8 =>
  (hcl h8 a0 5).bind fun _ =>
  (f_X4_lay a0 a1 a2 0 h8).bind fun q10 =>
  some q10))
/-! HeaveSongs$LineMaker.wordAt(I)I -/
def f_X4_wordAt (a0 : Nat) (a1 : Int32) (h : AH) : Option (Int32 × AH) :=
  (hgI h a0 5 3).bind fun v1 =>
  (f_X11_within a1 0 (v1 - 1) h).bind fun q3 =>
  if q3.1 = 0 then (some ((-1), q3.2)) else ((hgR q3.2 a0 5 2).bind fun v6 =>
  (hld q3.2 0 v6 a1).bind fun v8 =>
  some (v8, q3.2))
/-! HeaveSongs.lineAt(IJI)I -/
def f_X11_lineAt (a0 : Nat) (a1 : Int32) (a2 : Int64) (a4 : Int32) (h : AH) : Option (Int32 × AH) :=
  (hcl h a0 12).bind fun _ =>
  (f_X11_songOf a0 a1 h).bind fun q1 =>
  Option.elim q1.1 (some ((-2), q1.2)) (fun a5 => if (lg_cmp a2 0) < 0 then (some ((-2), q1.2)) else (if 0 ≤ a4 then ((hgR q1.2 a0 12 8).bind fun v8 =>
  (hgR q1.2 a5 8 0).bind fun v10 =>
  (hgR q1.2 a0 12 7).bind fun v12 =>
  (hcl q1.2 v8 5).bind fun _ =>
  (f_X4_makeLine v8 v10 v12 a2 q1.2).bind fun q14 =>
  (hgR q14 a0 12 8).bind fun v17 =>
  (hcl q14 v17 5).bind fun _ =>
  (f_X4_wordAt v17 a4 q14).bind fun q19 =>
  some (q19.1, q19.2)) else (some ((-2), q1.2))))
/-! HeaveSongs.lines(I)J -/
def f_X11_lines (a0 : Nat) (a1 : Int32) (h : AH) : Option (Int64 × AH) :=
  (hcl h a0 12).bind fun _ =>
  (f_X11_songOf a0 a1 h).bind fun q1 =>
  Option.elim q1.1 (some ((-2), q1.2)) (fun a5 => (hgR q1.2 a0 12 8).bind fun v6 =>
  (hgR q1.2 a5 8 0).bind fun v8 =>
  (hgR q1.2 a0 12 7).bind fun v10 =>
  (hcl q1.2 v6 5).bind fun _ =>
  (f_X4_howMany v6 v8 v10 q1.2).bind fun q12 =>
  some (q12.1, q12.2))
/-! HeaveSongs$Marks.add(II)Z -/
def f_X5_add (a0 : Nat) (a1 : Int32) (a2 : Int32) (h : AH) : Option (Int32 × AH) :=
  (hgI h a0 6 2).bind fun v1 =>
  if v1 < 60 then ((hgR h a0 6 0).bind fun v4 =>
  (hgI h a0 6 2).bind fun v6 =>
  (hst h 0 v4 v6 a1).bind fun h8 =>
  (hgR h8 a0 6 1).bind fun v10 =>
  (hgI h8 a0 6 2).bind fun v12 =>
  (hst h8 0 v10 v12 a2).bind fun h14 =>
  (hgI h14 a0 6 2).bind fun v16 =>
  (hpF h14 a0 6 2 (.int (v16 + 1))).bind fun h18 =>
  some (1, h18)) else (some (0, h))
/-! HeaveSongs.mark(II)I -/
def f_X11_mark (a0 : Nat) (a1 : Int32) (a2 : Int32) (h : AH) : Option (Int32 × AH) :=
  (f_X11_within a1 0 299 h).bind fun q1 =>
  if q1.1 = 0 then (some ((-2), q1.2)) else ((f_X11_within a2 0 5000 q1.2).bind fun q4 =>
  if q4.1 = 0 then (some ((-2), q4.2)) else ((hgR q4.2 a0 12 9).bind fun v7 =>
  (hcl q4.2 v7 6).bind fun _ =>
  (f_X5_add v7 a1 a2 q4.2).bind fun q9 =>
  if q9.1 = 0 then (some ((-4), q9.2)) else ((hgR q9.2 a0 12 9).bind fun v13 =>
  (hgI q9.2 v13 6 2).bind fun v15 =>
  some (v15, q9.2))))
/-! HeaveSongs$LineMaker.leastWrong(LHeaveSongs$Row;Ljava/util/ArrayList;I)I -/
def f_X4_leastWrong_L6 (x0 : Nat) (x1 : Nat) (x2 : Nat) (x3 : Int32) (s : Int32 × Int32 × AH) : Option ((Int32 × Int32 × AH) ⊕ ((Int32 × AH))) :=
  (hcl s.2.2 x2 0).bind fun _ =>
  (f_Jx4a65c_size_8abf5 x2 s.2.2).bind fun q1 =>
  if q1.1 ≤ s.2.1 then (some (.inr ((s.1, q1.2)))) else ((hcl q1.2 x2 0).bind fun _ =>
  (f_Jx4a65c_get_915e3 x2 s.2.1 q1.2).bind fun q5 =>
  (hcl q5.2 q5.1 11).bind fun _ =>
  (hcl q5.2 x0 5).bind fun _ =>
  (f_X4_wrongWith x0 q5.1 x1 x3 q5.2).bind fun q9 =>
  if q9.1 = (-1) then (some (.inl (s.1, s.2.1 + 1, q9.2))) else (if s.1 = (-1) then (some (.inl (q9.1, s.2.1 + 1, q9.2))) else (if s.1 ≤ q9.1 then (some (.inl (s.1, s.2.1 + 1, q9.2))) else (some (.inl (q9.1, s.2.1 + 1, q9.2))))))
def f_X4_leastWrong (a0 : Nat) (a1 : Nat) (a2 : Nat) (a3 : Int32) (h : AH) : Option (Int32 × AH) :=
  (iter (f_X4_leastWrong_L6 a0 a1 a2 a3) 100000 ((-1), 0, h)).bind fun e15 =>
  some (e15.1, e15.2)
/-! HeaveSongs$LineMaker.fewestWrong(LHeaveSongs$Row;Ljava/util/ArrayList;)I -/
def f_X4_fewestWrong_L17 (x0 : Nat) (x1 : Nat) (x2 : Nat) (s : Int32 × AH) : Option ((Int32 × AH) ⊕ ((AH))) :=
  if s.1 < 0 then (some (.inr (s.2))) else ((hgR s.2 x0 5 1).bind fun v10 =>
  (hgR s.2 x1 7 0).bind fun v12 =>
  (hld s.2 0 v12 s.1).bind fun v14 =>
  (f_X11_isSilent v14 s.2).bind fun q16 =>
  if q16.1 = 0 then ((hcl q16.2 x0 5).bind fun _ =>
  (f_X4_leastWrong x0 x1 x2 s.1 q16.2).bind fun q19 =>
  (hst q19.2 0 v10 s.1 q19.1).bind fun h22 =>
  some (.inl (s.1 + (-1), h22))) else ((hgR q16.2 x0 5 1).bind fun v24 =>
  (hld q16.2 0 v24 (s.1 + 1)).bind fun v26 =>
  (hst q16.2 0 v10 s.1 v26).bind fun h28 =>
  some (.inl (s.1 + (-1), h28))))
def f_X4_fewestWrong (a0 : Nat) (a1 : Nat) (a2 : Nat) (h : AH) : Option (Int32 × AH) :=
  (hgR h a0 5 1).bind fun v1 =>
  (hgI h a1 7 1).bind fun v3 =>
  (hst h 0 v1 v3 0).bind fun h5 =>
  (hgI h5 a1 7 1).bind fun v7 =>
  (iter (f_X4_fewestWrong_L17 a0 a1 a2) 100000 (v7 - 1, h5)).bind fun e30 =>
  (hgR e30 a0 5 1).bind fun v32 =>
  (hld e30 0 v32 0).bind fun v34 =>
  some (v34, e30)
/-! HeaveSongs.near(I)I -/
def f_X11_near (a0 : Nat) (a1 : Int32) (h : AH) : Option (Int32 × AH) :=
  (hcl h a0 12).bind fun _ =>
  (f_X11_songOf a0 a1 h).bind fun q1 =>
  Option.elim q1.1 (some ((-2), q1.2)) (fun a5 => (hgR q1.2 a0 12 8).bind fun v6 =>
  (hgR q1.2 a5 8 0).bind fun v8 =>
  (hgR q1.2 a0 12 7).bind fun v10 =>
  (hcl q1.2 v6 5).bind fun _ =>
  (f_X4_fewestWrong v6 v8 v10 q1.2).bind fun q12 =>
  some (q12.1, q12.2))
/-! HeaveSongs$LineMaker.makeNearLine(LHeaveSongs$Row;Ljava/util/ArrayList;)V -/
def f_X4_makeNearLine (a0 : Nat) (a1 : Nat) (a2 : Nat) (h : AH) : Option (AH) :=
  (hpF h a0 5 3 (.int 0)).bind fun h1 =>
  (hcl h1 a0 5).bind fun _ =>
  (f_X4_fewestWrong a0 a1 a2 h1).bind fun q3 =>
  if q3.1 = (-1) then (some q3.2) else ((hcl q3.2 a0 5).bind fun _ =>
  (f_X4_lay a0 a1 a2 1 q3.2).bind fun q7 =>
  some q7)
/-! HeaveSongs.nearAt(II)I -/
def f_X11_nearAt (a0 : Nat) (a1 : Int32) (a2 : Int32) (h : AH) : Option (Int32 × AH) :=
  (hcl h a0 12).bind fun _ =>
  (f_X11_songOf a0 a1 h).bind fun q1 =>
  Option.elim q1.1 (some ((-2), q1.2)) (fun a5 => if 0 ≤ a2 then ((hgR q1.2 a0 12 8).bind fun v7 =>
  (hgR q1.2 a5 8 0).bind fun v9 =>
  (hgR q1.2 a0 12 7).bind fun v11 =>
  (hcl q1.2 v7 5).bind fun _ =>
  (f_X4_makeNearLine v7 v9 v11 q1.2).bind fun q13 =>
  (hgR q13 a0 12 8).bind fun v16 =>
  (hcl q13 v16 5).bind fun _ =>
  (f_X4_wordAt v16 a2 q13).bind fun q18 =>
  some (q18.1, q18.2)) else (some ((-2), q1.2)))
/-! HeaveSongs.now(I)I -/
def f_X11_now (a0 : Nat) (a1 : Int32) (h : AH) : Option (Int32 × AH) :=
  (hgR h a0 12 2).bind fun v1 =>
  (hcl h v1 1).bind fun _ =>
  (f_X0_has v1 a1 h).bind fun q3 =>
  if q3.1 = 0 then (some ((-2), q3.2)) else ((hgR q3.2 a0 12 2).bind fun v7 =>
  (hgR q3.2 v7 1 5).bind fun v9 =>
  (hld q3.2 0 v9 a1).bind fun v11 =>
  some (v11, q3.2))
/-! HeaveSongs.pause(I)I -/
def f_X11_pause (a0 : Nat) (a1 : Int32) (h : AH) : Option (Int32 × AH) :=
  (f_X11_within a1 0 100 h).bind fun q1 =>
  if q1.1 = 0 then (some ((-2), q1.2)) else ((hgR q1.2 a0 12 2).bind fun v4 =>
  (hgR q1.2 a0 12 2).bind fun v6 =>
  (hgR q1.2 v6 1 5).bind fun v8 =>
  (hcl q1.2 v4 1).bind fun _ =>
  (f_X0_restFor v4 a1 v8 q1.2).bind fun q10 =>
  (hgR q10 a0 12 6).bind fun v13 =>
  (hpF q10 v13 10 5 (.int 0)).bind fun h15 =>
  (hgR h15 a0 12 2).bind fun v17 =>
  (hcl h15 v17 1).bind fun _ =>
  (f_X0_howManyAtStrength v17 h15).bind fun q19 =>
  some (q19.1, q19.2))
/-! HeaveSongs$TaskSearch.tryFrom(Ljava/util/ArrayList;LHeaveSongs$Hands;Ljava/util/ArrayList;III)V -/
def f_X9_tryFrom_L24 (rec : Nat → Nat → Nat → Nat → Int32 → Int32 → Int32 → AH → Option (AH)) (x0 : Nat) (x1 : Nat) (x2 : Nat) (x3 : Nat) (x4 : Int32) (x5 : Int32) (x6 : Int32) (s : Int32 × AH) : Option ((Int32 × AH) ⊕ ((AH))) :=
  (hcl s.2 x1 0).bind fun _ =>
  (f_Jx4a65c_size_8abf5 x1 s.2).bind fun q7 =>
  if q7.1 ≤ s.1 then (some (.inr (q7.2))) else ((hgR q7.2 x0 10 1).bind fun v11 =>
  (hldR q7.2 4 v11 x5).bind fun v13 =>
  (hgR q7.2 x0 10 0).bind fun v15 =>
  (hgR q7.2 v15 2 0).bind fun v17 =>
  (f_X11_copy v13 v17 q7.2).bind fun q19 =>
  (hgI q19 x0 10 4).bind fun v21 =>
  (hgR q19 x0 10 0).bind fun v23 =>
  (hcl q19 x1 0).bind fun _ =>
  (f_Jx4a65c_get_915e3 x1 s.1 q19).bind fun q25 =>
  (hcl q25.2 q25.1 8).bind fun _ =>
  (hcl q25.2 x3 0).bind fun _ =>
  (f_Jx4a65c_get_915e3 x3 x5 q25.2).bind fun q29 =>
  (hcl q29.2 q29.1 9).bind fun _ =>
  (hcl q29.2 v23 2).bind fun _ =>
  (f_X1_go v23 x2 q25.1 q29.1 ((v21 - 1) - x6) q29.2).bind fun q33 =>
  if q33.1 = 0 then (some (.inl (s.1 + 1, q33.2))) else ((hgR q33.2 x0 10 2).bind fun v37 =>
  (hst q33.2 0 v37 x5 s.1).bind fun h39 =>
  (hgR h39 x0 10 0).bind fun v41 =>
  (hgI h39 v41 2 7).bind fun v43 =>
  (hcl h39 x3 0).bind fun _ =>
  (f_Jx4a65c_size_8abf5 x3 h39).bind fun q45 =>
  if x5 = (q45.1 - 1) then ((hpF q45.2 x0 10 4 (.int (x6 + v43))).bind fun h70 =>
  (hgR h70 x0 10 2).bind fun v72 =>
  (hgR h70 x0 10 3).bind fun v74 =>
  (f_X11_copy v72 v74 h70).bind fun q76 =>
  some (.inl (s.1 + 1, q76))) else (if 4 ≤ (x5 + 1) then (some (.inl (s.1 + 1, q45.2))) else ((hgR q45.2 x0 10 0).bind fun v50 =>
  (hgR q45.2 v50 2 0).bind fun v52 =>
  (hgR q45.2 x0 10 1).bind fun v54 =>
  (hldR q45.2 4 v54 (x5 + 1)).bind fun v56 =>
  (f_X11_copy v52 v56 q45.2).bind fun q58 =>
  (hgR q58 x0 10 1).bind fun v60 =>
  (hldR q58 4 v60 (x5 + 1)).bind fun v62 =>
  (hcl q58 x2 1).bind fun _ =>
  (f_X0_restFor x2 x4 v62 q58).bind fun q64 =>
  (hcl q64 x0 10).bind fun _ =>
  (rec x0 x1 x2 x3 x4 (x5 + 1) ((x6 + v43) + x4) q64).bind fun q67 =>
  some (.inl (s.1 + 1, q67))))))
def f_X9_tryFrom (rec : Nat → Nat → Nat → Nat → Int32 → Int32 → Int32 → AH → Option (AH)) (a0 : Nat) (a1 : Nat) (a2 : Nat) (a3 : Nat) (a4 : Int32) (a5 : Int32) (a6 : Int32) (h : AH) : Option (AH) :=
  if a5 < 0 then (some h) else ((hcl h a3 0).bind fun _ =>
  (f_Jx4a65c_size_8abf5 a3 h).bind fun q2 =>
  if q2.1 ≤ a5 then (some q2.2) else (if a5 < 4 then ((iter (f_X9_tryFrom_L24 rec a0 a1 a2 a3 a4 a5 a6) 100000 (0, q2.2)).bind fun e78 =>
  some e78) else (some q2.2)))
def f_X9_tryFrom_d0 (_ : Nat) (_ : Nat) (_ : Nat) (_ : Nat) (_ : Int32) (_ : Int32) (_ : Int32) (_ : AH) : Option (AH) := none
def f_X9_tryFrom_d1 : Nat → Nat → Nat → Nat → Int32 → Int32 → Int32 → AH → Option (AH) := f_X9_tryFrom f_X9_tryFrom_d0
def f_X9_tryFrom_d2 : Nat → Nat → Nat → Nat → Int32 → Int32 → Int32 → AH → Option (AH) := f_X9_tryFrom f_X9_tryFrom_d1
def f_X9_tryFrom_d3 : Nat → Nat → Nat → Nat → Int32 → Int32 → Int32 → AH → Option (AH) := f_X9_tryFrom f_X9_tryFrom_d2
def f_X9_tryFrom_d4 : Nat → Nat → Nat → Nat → Int32 → Int32 → Int32 → AH → Option (AH) := f_X9_tryFrom f_X9_tryFrom_d3
/-! HeaveSongs$TaskSearch.findPlan(Ljava/util/ArrayList;LHeaveSongs$Hands;Ljava/util/ArrayList;I)V -/
def f_X9_findPlan (a0 : Nat) (a1 : Nat) (a2 : Nat) (a3 : Nat) (a4 : Int32) (h : AH) : Option (AH) :=
  (hgI h a0 10 5).bind fun v1 =>
  if v1 = 0 then ((hpF h a0 10 4 (.int 1000000000)).bind fun h4 =>
  (hgR h4 a0 10 0).bind fun v6 =>
  (hcl h4 v6 2).bind fun _ =>
  (f_X1_beginAsTold v6 a2 h4).bind fun q8 =>
  (hgR q8 a2 1 5).bind fun v11 =>
  (hgR q8 a0 10 1).bind fun v13 =>
  (hldR q8 4 v13 0).bind fun v15 =>
  (f_X11_copy v11 v15 q8).bind fun q17 =>
  (hcl q17 a0 10).bind fun _ =>
  (f_X9_tryFrom_d4 a0 a1 a2 a3 a4 0 0 q17).bind fun q19 =>
  (hpF q19 a0 10 5 (.int 1)).bind fun h22 =>
  some h22) else (some h)
/-! HeaveSongs.plan()I -/
def f_X11_plan (a0 : Nat) (h : AH) : Option (Int32 × AH) :=
  (hgR h a0 12 4).bind fun v1 =>
  (hcl h v1 0).bind fun _ =>
  (f_Jx4a65c_isEmpty_aae02 v1 h).bind fun q3 =>
  if q3.1 = 0 then ((hgR q3.2 a0 12 1).bind fun v7 =>
  (hcl q3.2 v7 0).bind fun _ =>
  (f_Jx4a65c_isEmpty_aae02 v7 q3.2).bind fun q9 =>
  if q9.1 = 0 then ((hgR q9.2 a0 12 6).bind fun v13 =>
  (hgR q9.2 a0 12 1).bind fun v15 =>
  (hgR q9.2 a0 12 2).bind fun v17 =>
  (hgR q9.2 a0 12 4).bind fun v19 =>
  (hgI q9.2 a0 12 5).bind fun v21 =>
  (hcl q9.2 v13 10).bind fun _ =>
  (f_X9_findPlan v13 v15 v17 v19 v21 q9.2).bind fun q23 =>
  (hgR q23 a0 12 6).bind fun v26 =>
  (hgI q23 v26 10 4).bind fun v28 =>
  if v28 = 1000000000 then (some ((-1), q23)) else ((hgR q23 a0 12 6).bind fun v31 =>
  (hgI q23 v31 10 4).bind fun v33 =>
  some (v33, q23))) else (some ((-3), q9.2))) else (some ((-3), q3.2))
/-! HeaveSongs.planAt(I)I -/
def f_X11_planAt (a0 : Nat) (a1 : Int32) (h : AH) : Option (Int32 × AH) :=
  (hgR h a0 12 4).bind fun v1 =>
  (hcl h v1 0).bind fun _ =>
  (f_Jx4a65c_size_8abf5 v1 h).bind fun q3 =>
  (f_X11_within a1 0 (q3.1 - 1) q3.2).bind fun q6 =>
  if q6.1 = 0 then (some ((-2), q6.2)) else ((hgR q6.2 a0 12 1).bind fun v9 =>
  (hcl q6.2 v9 0).bind fun _ =>
  (f_Jx4a65c_isEmpty_aae02 v9 q6.2).bind fun q11 =>
  if q11.1 = 0 then ((hgR q11.2 a0 12 6).bind fun v15 =>
  (hgR q11.2 a0 12 1).bind fun v17 =>
  (hgR q11.2 a0 12 2).bind fun v19 =>
  (hgR q11.2 a0 12 4).bind fun v21 =>
  (hgI q11.2 a0 12 5).bind fun v23 =>
  (hcl q11.2 v15 10).bind fun _ =>
  (f_X9_findPlan v15 v17 v19 v21 v23 q11.2).bind fun q25 =>
  (hgR q25 a0 12 6).bind fun v28 =>
  (hgI q25 v28 10 4).bind fun v30 =>
  if v30 = 1000000000 then (some ((-1), q25)) else ((hgR q25 a0 12 6).bind fun v33 =>
  (hgR q25 v33 10 3).bind fun v35 =>
  (hld q25 0 v35 a1).bind fun v37 =>
  some (v37, q25))) else (some ((-3), q11.2)))
/-! HeaveSongs$Row.take(LHeaveSongs$Row;)V -/
def f_X6_take (a0 : Nat) (a1 : Nat) (h : AH) : Option (AH) :=
  (hgR h a1 7 0).bind fun v1 =>
  (hgR h a0 7 0).bind fun v3 =>
  (f_X11_copy v1 v3 h).bind fun q5 =>
  (hgI q5 a1 7 1).bind fun v7 =>
  (hpF q5 a0 7 1 (.int v7)).bind fun h9 =>
  (hpF h9 a1 7 1 (.int 0)).bind fun h11 =>
  some h11
/-! HeaveSongs.refrain(I)I -/
def f_X11_refrain (a0 : Nat) (a1 : Int32) (h : AH) : Option (Int32 × AH) :=
  (hcl h a0 12).bind fun _ =>
  (f_X11_songOf a0 a1 h).bind fun q1 =>
  Option.elim q1.1 (some ((-2), q1.2)) (fun a5 => (hgR q1.2 a0 12 0).bind fun v6 =>
  (hgI q1.2 v6 7 1).bind fun v8 =>
  if v8 ≤ 12 then ((hgR q1.2 a5 8 1).bind fun v11 =>
  (hgR q1.2 a0 12 0).bind fun v13 =>
  (hcl q1.2 v11 7).bind fun _ =>
  (f_X6_take v11 v13 q1.2).bind fun q15 =>
  (hgR q15 a0 12 6).bind fun v18 =>
  (hpF q15 v18 10 5 (.int 0)).bind fun h20 =>
  (hgR h20 a5 8 1).bind fun v22 =>
  (hgI h20 v22 7 1).bind fun v24 =>
  some (v24, h20)) else (some ((-3), q1.2)))
/-! HeaveSongs.rest()I -/
def f_X11_rest (a0 : Nat) (h : AH) : Option (Int32 × AH) :=
  (hgR h a0 12 0).bind fun v1 =>
  (hgI h v1 7 1).bind fun v3 =>
  (hgR h a0 12 0).bind fun v5 =>
  (hpF h v5 7 1 (.int 0)).bind fun h7 =>
  some (v3, h7)
/-! HeaveSongs$Song.<init>()V -/
def f_X7_init (a0 : Nat) (h : AH) : Option (AH) :=
  (f_X6_init h.1 (hnew h (.inr (7, [.null, .int 0])))).bind fun q1 =>
  (hpF q1 a0 8 0 (.ref h.1)).bind fun h3 =>
  (f_X6_init h3.1 (hnew h3 (.inr (7, [.null, .int 0])))).bind fun q5 =>
  (hpF q5 a0 8 1 (.ref h3.1)).bind fun h7 =>
  some h7
/-! HeaveSongs.song()I -/
def f_X11_song (a0 : Nat) (h : AH) : Option (Int32 × AH) :=
  (hgR h a0 12 0).bind fun v1 =>
  (hgI h v1 7 1).bind fun v3 =>
  if v3 = 0 then (some ((-3), h)) else ((hgR h a0 12 1).bind fun v6 =>
  (hcl h v6 0).bind fun _ =>
  (f_Jx4a65c_size_8abf5 v6 h).bind fun q8 =>
  if q8.1 < 6 then ((f_X7_init q8.2.1 (hnew q8.2 (.inr (8, [.null, .null])))).bind fun q12 =>
  (hgR q12 q8.2.1 8 0).bind fun v14 =>
  (hgR q12 a0 12 0).bind fun v16 =>
  (hcl q12 v14 7).bind fun _ =>
  (f_X6_take v14 v16 q12).bind fun q18 =>
  (hgR q18 a0 12 1).bind fun v21 =>
  (hcl q18 v21 0).bind fun _ =>
  (f_Jx4a65c_add_9ea2d v21 q8.2.1 q18).bind fun q23 =>
  (hgR q23.2 a0 12 6).bind fun v26 =>
  (hpF q23.2 v26 10 5 (.int 0)).bind fun h28 =>
  (hgR h28 a0 12 1).bind fun v30 =>
  (hcl h28 v30 0).bind fun _ =>
  (f_Jx4a65c_size_8abf5 v30 h28).bind fun q32 =>
  some (q32.1 - 1, q32.2)) else (some ((-4), q8.2)))
/-! HeaveSongs.task(III)I -/
def f_X11_task (a0 : Nat) (a1 : Int32) (a2 : Int32) (a3 : Int32) (h : AH) : Option (Int32 × AH) :=
  (f_X11_isTask a1 a2 a3 h).bind fun q1 =>
  if q1.1 = 0 then (some ((-2), q1.2)) else ((hgR q1.2 a0 12 4).bind fun v4 =>
  (hcl q1.2 v4 0).bind fun _ =>
  (f_Jx4a65c_size_8abf5 v4 q1.2).bind fun q6 =>
  if q6.1 < 4 then ((hgR q6.2 a0 12 4).bind fun v10 =>
  (f_X8_init q6.2.1 a1 a2 a3 (hnew q6.2 (.inr (9, [.int 0, .int 0, .int 0])))).bind fun q12 =>
  (hcl q12 v10 0).bind fun _ =>
  (f_Jx4a65c_add_9ea2d v10 q6.2.1 q12).bind fun q14 =>
  (hgR q14.2 a0 12 6).bind fun v17 =>
  (hpF q14.2 v17 10 5 (.int 0)).bind fun h19 =>
  (hgR h19 a0 12 4).bind fun v21 =>
  (hcl h19 v21 0).bind fun _ =>
  (f_Jx4a65c_size_8abf5 v21 h19).bind fun q23 =>
  some (q23.1 - 1, q23.2)) else (some ((-4), q6.2)))
/-! HeaveSongs.tree()I -/
def f_X11_tree (a0 : Nat) (h : AH) : Option (Int32 × AH) :=
  (hgR h a0 12 11).bind fun v1 =>
  (hgR h a0 12 1).bind fun v3 =>
  (hcl h v1 3).bind fun _ =>
  (f_X2_growTree v1 v3 h).bind fun q5 =>
  some (q5.1, q5.2)
/-! HeaveSongs$Haul.beginFresh(LHeaveSongs$Hands;)V -/
def f_X1_beginFresh_L13 (x0 : Nat) (x1 : Nat) (s : Int32 × AH) : Option ((Int32 × AH) ⊕ ((AH))) :=
  if 10 ≤ s.1 then (some (.inr (s.2))) else ((hgR s.2 x0 2 1).bind fun v8 =>
  (hst s.2 0 v8 s.1 0).bind fun h10 =>
  some (.inl (s.1 + 1, h10)))
def f_X1_beginFresh (a0 : Nat) (a1 : Nat) (h : AH) : Option (AH) :=
  (hgR h a1 1 0).bind fun v1 =>
  (hgR h a0 2 0).bind fun v3 =>
  (f_X11_copy v1 v3 h).bind fun q5 =>
  (iter (f_X1_beginFresh_L13 a0 a1) 100000 (0, q5)).bind fun e12 =>
  (hgI e12 a1 1 7).bind fun v14 =>
  (hpF e12 a0 2 5 (.int v14)).bind fun h16 =>
  (hpF h16 a0 2 6 (.int 0)).bind fun h18 =>
  some h18
/-! HeaveSongs$Marks.span()I -/
def f_X5_span_L4 (x0 : Nat) (s : Int32 × Int32 × AH) : Option ((Int32 × Int32 × AH) ⊕ ((Int32 × AH))) :=
  (hgI s.2.2 x0 6 2).bind fun v1 =>
  if v1 ≤ s.2.1 then (some (.inr ((s.1, s.2.2)))) else ((hgR s.2.2 x0 6 0).bind fun v4 =>
  (hld s.2.2 0 v4 s.2.1).bind fun v6 =>
  some (.inl (if s.1 < (v6 + 1) then (v6 + 1) else s.1, s.2.1 + 1, s.2.2)))
def f_X5_span (a0 : Nat) (h : AH) : Option (Int32 × AH) :=
  (iter (f_X5_span_L4 a0) 100000 (0, 0, h)).bind fun e8 =>
  some (e8.1, e8.2)
/-! HeaveSongs$Marks.differenceTo([I)I -/
def f_X5_differenceTo_L4 (x0 : Nat) (x1 : Nat) (s : Int32 × Int32 × AH) : Option ((Int32 × Int32 × AH) ⊕ ((Int32 × AH))) :=
  (hgI s.2.2 x0 6 2).bind fun v1 =>
  if v1 ≤ s.2.1 then (some (.inr ((s.1, s.2.2)))) else ((hgR s.2.2 x0 6 0).bind fun v4 =>
  (hld s.2.2 0 v4 s.2.1).bind fun v6 =>
  (hlen s.2.2 x1).bind fun v8 =>
  (f_X11_within v6 0 (v8 - 1) s.2.2).bind fun q10 =>
  if q10.1 = 0 then (some (.inl (s.1, s.2.1 + 1, q10.2))) else ((hgR q10.2 x0 6 0).bind fun v13 =>
  (hld q10.2 0 v13 s.2.1).bind fun v15 =>
  (hld q10.2 0 x1 v15).bind fun v17 =>
  (hgR q10.2 x0 6 1).bind fun v19 =>
  (hld q10.2 0 v19 s.2.1).bind fun v21 =>
  some (.inl (s.1 + (if 0 ≤ (v17 - v21) then (v17 - v21) else -(v17 - v21)), s.2.1 + 1, q10.2))))
def f_X5_differenceTo (a0 : Nat) (a1 : Nat) (h : AH) : Option (Int32 × AH) :=
  (iter (f_X5_differenceTo_L4 a0 a1) 100000 (0, 0, h)).bind fun e23 =>
  some (e23.1, e23.2)
/-! HeaveSongs$LateSearch.sumOfTrial(LHeaveSongs$Hands;LHeaveSongs$Song;LHeaveSongs$Task;LHeaveSongs$Marks;)I -/
def f_X3_sumOfTrial (a0 : Nat) (a1 : Nat) (a2 : Nat) (a3 : Nat) (a4 : Nat) (h : AH) : Option (Int32 × AH) :=
  (hgR h a0 4 0).bind fun v1 =>
  (hcl h a4 6).bind fun _ =>
  (f_X5_span a4 h).bind fun q3 =>
  (hcl q3.2 v1 2).bind fun _ =>
  (f_X1_go v1 a1 a2 a3 q3.1 q3.2).bind fun q6 =>
  (hgR q6.2 a0 4 0).bind fun v9 =>
  (hgR q6.2 v9 2 2).bind fun v11 =>
  (hcl q6.2 a4 6).bind fun _ =>
  (f_X5_differenceTo a4 v11 q6.2).bind fun q13 =>
  some (q13.1, q13.2)
/-! HeaveSongs$LateSearch.tryPair(LHeaveSongs$Hands;LHeaveSongs$Song;LHeaveSongs$Task;LHeaveSongs$Marks;II)V -/
def f_X3_tryPair_L12 (x0 : Nat) (x1 : Nat) (x2 : Nat) (x3 : Nat) (x4 : Nat) (x5 : Int32) (x6 : Int32) (x7 : Int32) (s : Int32 × AH) : Option ((Int32 × AH) ⊕ ((AH))) :=
  if 3 < s.1 then (some (.inr (s.2))) else ((hgR s.2 x0 4 0).bind fun v3 =>
  (hcl s.2 v3 2).bind fun _ =>
  (f_X1_beginFresh v3 x1 s.2).bind fun q5 =>
  (hgR q5 x0 4 0).bind fun v8 =>
  (hgR q5 v8 2 1).bind fun v10 =>
  (hst q5 0 v10 x5 x7).bind fun h12 =>
  (hgR h12 x0 4 0).bind fun v14 =>
  (hgR h12 v14 2 1).bind fun v16 =>
  (hst h12 0 v16 x6 s.1).bind fun h18 =>
  (hcl h18 x0 4).bind fun _ =>
  (f_X3_sumOfTrial x0 x1 x2 x3 x4 h18).bind fun q20 =>
  (hgI q20.2 x0 4 5).bind fun v23 =>
  if v23 ≤ q20.1 then (some (.inl (s.1 + 1, q20.2))) else ((hpF q20.2 x0 4 5 (.int q20.1)).bind fun h26 =>
  (hpF h26 x0 4 1 (.int x5)).bind fun h28 =>
  (hpF h28 x0 4 2 (.int x6)).bind fun h30 =>
  (hpF h30 x0 4 3 (.int x7)).bind fun h32 =>
  (hpF h32 x0 4 4 (.int s.1)).bind fun h34 =>
  some (.inl (s.1 + 1, h34))))
def f_X3_tryPair_L3 (x0 : Nat) (x1 : Nat) (x2 : Nat) (x3 : Nat) (x4 : Nat) (x5 : Int32) (x6 : Int32) (s : Int32 × AH) : Option ((Int32 × AH) ⊕ ((AH))) :=
  if 3 < s.1 then (some (.inr (s.2))) else ((iter (f_X3_tryPair_L12 x0 x1 x2 x3 x4 x5 x6 s.1) 100000 (1, s.2)).bind fun e36 =>
  some (.inl (s.1 + 1, e36)))
def f_X3_tryPair (a0 : Nat) (a1 : Nat) (a2 : Nat) (a3 : Nat) (a4 : Nat) (a5 : Int32) (a6 : Int32) (h : AH) : Option (AH) :=
  (iter (f_X3_tryPair_L3 a0 a1 a2 a3 a4 a5 a6) 100000 (1, h)).bind fun e38 =>
  some e38
/-! HeaveSongs$LateSearch.findTwo(LHeaveSongs$Hands;LHeaveSongs$Song;LHeaveSongs$Task;LHeaveSongs$Marks;)V -/
def f_X3_findTwo_L24 (x0 : Nat) (x1 : Nat) (x2 : Nat) (x3 : Nat) (x4 : Nat) (x5 : Int32) (s : Int32 × AH) : Option ((Int32 × AH) ⊕ ((AH))) :=
  (hgI s.2 x1 1 6).bind fun v6 =>
  if v6 ≤ s.1 then (some (.inr (s.2))) else ((hgI s.2 x1 1 7).bind fun v9 =>
  (f_X11_isIn v9 x5 s.2).bind fun q11 =>
  if q11.1 = 0 then (some (.inl (s.1 + 1, q11.2))) else ((hgI q11.2 x1 1 7).bind fun v14 =>
  (f_X11_isIn v14 s.1 q11.2).bind fun q16 =>
  if q16.1 = 0 then (some (.inl (s.1 + 1, q16.2))) else ((hcl q16.2 x0 4).bind fun _ =>
  (f_X3_tryPair x0 x1 x2 x3 x4 x5 s.1 q16.2).bind fun q19 =>
  some (.inl (s.1 + 1, q19)))))
def f_X3_findTwo_L9 (x0 : Nat) (x1 : Nat) (x2 : Nat) (x3 : Nat) (x4 : Nat) (s : Int32 × AH) : Option ((Int32 × AH) ⊕ ((AH))) :=
  (hgI s.2 x1 1 6).bind fun v3 =>
  if v3 ≤ s.1 then (some (.inr (s.2))) else ((iter (f_X3_findTwo_L24 x0 x1 x2 x3 x4 s.1) 100000 (s.1 + 1, s.2)).bind fun e22 =>
  some (.inl (s.1 + 1, e22)))
def f_X3_findTwo (a0 : Nat) (a1 : Nat) (a2 : Nat) (a3 : Nat) (a4 : Nat) (h : AH) : Option (AH) :=
  (hpF h a0 4 5 (.int 1000000000)).bind fun h1 =>
  (iter (f_X3_findTwo_L9 a0 a1 a2 a3 a4) 100000 (0, h1)).bind fun e24 =>
  some e24
/-! HeaveSongs.two(IIII)I -/
def f_X11_two (a0 : Nat) (a1 : Int32) (a2 : Int32) (a3 : Int32) (a4 : Int32) (h : AH) : Option (Int32 × AH) :=
  (hcl h a0 12).bind fun _ =>
  (f_X11_songOf a0 a1 h).bind fun q1 =>
  Option.elim q1.1 (some ((-2), q1.2)) (fun a5 => (f_X11_isWeight a2 a3 q1.2).bind fun q6 =>
  if q6.1 = 0 then (some ((-2), q6.2)) else ((f_X11_within a4 0 4 q6.2).bind fun q9 =>
  if q9.1 = 0 then (some ((-2), q9.2)) else ((hgR q9.2 a0 12 2).bind fun v12 =>
  (hgI q9.2 v12 1 7).bind fun v14 =>
  (f_J6_bitCount_0f7a4 v14 q9.2).bind fun q16 =>
  if 2 ≤ q16.1 then ((hgR q16.2 a0 12 10).bind fun v19 =>
  (hgR q16.2 a0 12 2).bind fun v21 =>
  (f_X8_init q16.2.1 1000000000 a2 a3 (hnew q16.2 (.inr (9, [.int 0, .int 0, .int 0])))).bind fun q23 =>
  (hgR q23 a0 12 9).bind fun v25 =>
  (hcl q23 v19 4).bind fun _ =>
  (f_X3_findTwo v19 v21 a5 q16.2.1 v25 q23).bind fun q27 =>
  if a4 = 0 then ((hgR q27 a0 12 10).bind fun v31 =>
  (hgI q27 v31 4 1).bind fun v33 =>
  some (v33, q27)) else (if a4 = 1 then ((hgR q27 a0 12 10).bind fun v36 =>
  (hgI q27 v36 4 2).bind fun v38 =>
  some (v38, q27)) else (if a4 = 2 then ((hgR q27 a0 12 10).bind fun v41 =>
  (hgI q27 v41 4 3).bind fun v43 =>
  some (v43, q27)) else (if a4 = 3 then ((hgR q27 a0 12 10).bind fun v46 =>
  (hgI q27 v46 4 4).bind fun v48 =>
  some (v48, q27)) else ((hgR q27 a0 12 10).bind fun v50 =>
  (hgI q27 v50 4 5).bind fun v52 =>
  some (v52, q27)))))) else (some ((-1), q16.2)))))
/-! HeaveSongs$LateSearch.findOne(LHeaveSongs$Hands;LHeaveSongs$Song;LHeaveSongs$Task;LHeaveSongs$Marks;)V -/
def f_X3_findOne_L46 (x0 : Nat) (x1 : Nat) (x2 : Nat) (x3 : Nat) (x4 : Nat) (x5 : Int32) (s : Int32 × AH) : Option ((Int32 × AH) ⊕ ((AH))) :=
  if 3 < s.1 then (some (.inr (s.2))) else ((hgI s.2 x1 1 7).bind fun v19 =>
  (f_X11_isIn v19 x5 s.2).bind fun q21 =>
  if q21.1 = 0 then (some (.inr (q21.2))) else ((hgR q21.2 x0 4 0).bind fun v24 =>
  (hcl q21.2 v24 2).bind fun _ =>
  (f_X1_beginFresh v24 x1 q21.2).bind fun q26 =>
  (hgR q26 x0 4 0).bind fun v29 =>
  (hgR q26 v29 2 1).bind fun v31 =>
  (hst q26 0 v31 x5 s.1).bind fun h33 =>
  (hcl h33 x0 4).bind fun _ =>
  (f_X3_sumOfTrial x0 x1 x2 x3 x4 h33).bind fun q35 =>
  (hgI q35.2 x0 4 5).bind fun v38 =>
  if v38 ≤ q35.1 then (some (.inl (s.1 + 1, q35.2))) else ((hpF q35.2 x0 4 5 (.int q35.1)).bind fun h41 =>
  (hpF h41 x0 4 1 (.int x5)).bind fun h43 =>
  (hpF h43 x0 4 3 (.int s.1)).bind fun h45 =>
  some (.inl (s.1 + 1, h45)))))
def f_X3_findOne_L34 (x0 : Nat) (x1 : Nat) (x2 : Nat) (x3 : Nat) (x4 : Nat) (s : Int32 × AH) : Option ((Int32 × AH) ⊕ ((AH))) :=
  (hgI s.2 x1 1 6).bind fun v15 =>
  if v15 ≤ s.1 then (some (.inr (s.2))) else ((iter (f_X3_findOne_L46 x0 x1 x2 x3 x4 s.1) 100000 (1, s.2)).bind fun e47 =>
  some (.inl (s.1 + 1, e47)))
def f_X3_findOne (a0 : Nat) (a1 : Nat) (a2 : Nat) (a3 : Nat) (a4 : Nat) (h : AH) : Option (AH) :=
  (hpF h a0 4 1 (.int (-1))).bind fun h1 =>
  (hpF h1 a0 4 3 (.int 0)).bind fun h3 =>
  (hgR h3 a0 4 0).bind fun v5 =>
  (hcl h3 v5 2).bind fun _ =>
  (f_X1_beginFresh v5 a1 h3).bind fun q7 =>
  (hcl q7 a0 4).bind fun _ =>
  (f_X3_sumOfTrial a0 a1 a2 a3 a4 q7).bind fun q10 =>
  (hpF q10.2 a0 4 5 (.int q10.1)).bind fun h13 =>
  (iter (f_X3_findOne_L34 a0 a1 a2 a3 a4) 100000 (0, h13)).bind fun e49 =>
  some e49
/-! HeaveSongs.who(IIII)I -/
def f_X11_who (a0 : Nat) (a1 : Int32) (a2 : Int32) (a3 : Int32) (a4 : Int32) (h : AH) : Option (Int32 × AH) :=
  (hcl h a0 12).bind fun _ =>
  (f_X11_songOf a0 a1 h).bind fun q1 =>
  Option.elim q1.1 (some ((-2), q1.2)) (fun a5 => (f_X11_isWeight a2 a3 q1.2).bind fun q6 =>
  if q6.1 = 0 then (some ((-2), q6.2)) else ((f_X11_within a4 0 2 q6.2).bind fun q9 =>
  if q9.1 = 0 then (some ((-2), q9.2)) else ((hgR q9.2 a0 12 10).bind fun v12 =>
  (hgR q9.2 a0 12 2).bind fun v14 =>
  (f_X8_init q9.2.1 1000000000 a2 a3 (hnew q9.2 (.inr (9, [.int 0, .int 0, .int 0])))).bind fun q16 =>
  (hgR q16 a0 12 9).bind fun v18 =>
  (hcl q16 v12 4).bind fun _ =>
  (f_X3_findOne v12 v14 a5 q9.2.1 v18 q16).bind fun q20 =>
  if a4 = 0 then ((hgR q20 a0 12 10).bind fun v24 =>
  (hgI q20 v24 4 1).bind fun v26 =>
  some (v26, q20)) else (if a4 = 1 then ((hgR q20 a0 12 10).bind fun v29 =>
  (hgI q20 v29 4 3).bind fun v31 =>
  some (v31, q20)) else ((hgR q20 a0 12 10).bind fun v33 =>
  (hgI q20 v33 4 5).bind fun v35 =>
  some (v35, q20))))))
/-! HeaveSongs.wipe()I -/
def f_X11_wipe (a0 : Nat) (h : AH) : Option (Int32 × AH) :=
  (hgR h a0 12 9).bind fun v1 =>
  (hgI h v1 6 2).bind fun v3 =>
  (hgR h a0 12 9).bind fun v5 =>
  (hpF h v5 6 2 (.int 0)).bind fun h7 =>
  some (v3, h7)
/-! HeaveSongs.won(I)I -/
def f_X11_won (a0 : Nat) (a1 : Int32) (h : AH) : Option (Int32 × AH) :=
  (hgR h a0 12 3).bind fun v1 =>
  (hgR h v1 2 2).bind fun v3 =>
  (hcl h a0 12).bind fun _ =>
  (f_X11_ofLatest a0 v3 a1 h).bind fun q5 =>
  some (q5.1, q5.2)
/-! HeaveSongs.word(II)I -/
def f_X11_word (a0 : Nat) (a1 : Int32) (a2 : Int32) (h : AH) : Option (Int32 × AH) :=
  (f_X11_within a1 1 5 h).bind fun q1 =>
  if q1.1 = 0 then (some ((-2), q1.2)) else ((f_X11_within a2 0 ((1 <<< (a1 &&& 31)) - 1) q1.2).bind fun q4 =>
  if q4.1 = 0 then (some ((-2), q4.2)) else ((hgR q4.2 a0 12 7).bind fun v7 =>
  (hcl q4.2 v7 0).bind fun _ =>
  (f_Jx4a65c_size_8abf5 v7 q4.2).bind fun q9 =>
  if q9.1 < 12 then ((hgR q9.2 a0 12 7).bind fun v13 =>
  (f_X10_init q9.2.1 a1 a2 (hnew q9.2 (.inr (11, [.int 0, .int 0])))).bind fun q15 =>
  (hcl q15 v13 0).bind fun _ =>
  (f_Jx4a65c_add_9ea2d v13 q9.2.1 q15).bind fun q17 =>
  (hgR q17.2 a0 12 7).bind fun v20 =>
  (hcl q17.2 v20 0).bind fun _ =>
  (f_Jx4a65c_size_8abf5 v20 q17.2).bind fun q22 =>
  some (q22.1 - 1, q22.2)) else (some ((-4), q9.2))))
/-! HeaveSongsModel.in(JJJ)Z -/
def f_X12_in (a0 : Int64) (a2 : Int64) (a4 : Int64) (h : AH) : Option (Int32 × AH) :=
  if (lg_cmp a0 a2) < 0 then (some (0, h)) else (if 0 < (lg_cmp a0 a4) then (some (0, h)) else (some (1, h)))
/-! HeaveSongsModel.noSong(I)Z -/
def f_X12_noSong (a0 : Nat) (a1 : Int32) (h : AH) : Option (Int32 × AH) :=
  (hgI h a0 13 0).bind fun v1 =>
  (f_X12_in a1.toInt64 0 ((v1 - 1).toInt64) h).bind fun q3 =>
  if q3.1 = 0 then (some (1, q3.2)) else (some (0, q3.2))
/-! HeaveSongsModel.bit(Z)I -/
def f_X12_bit (a0 : Int32) (h : AH) : Option (Int32 × AH) :=
  if a0 = 0 then (some (0, h)) else (some (1, h))
/-! HeaveSongsModel.apartBy(ZII)I -/
def f_X12_apartBy_L55_J258 (x0 : Nat) (x1 : Int32) (x2 : Int32) (x3 : Int32) (x4 : Int32) (x5 : Int32) (x6 : Int32) (y7 : Int32) (y8 : Int32) (h : AH) : Option ((Int32 × AH) ⊕ ((AH))) :=
  (hgR h x0 13 43).bind fun v14 =>
  (hst h 0 v14 ((25 * x6) + y7) y8).bind fun h16 =>
  some (.inl (y7 + 1, h16))
def f_X12_apartBy_L55_J256 (x0 : Nat) (x1 : Int32) (x2 : Int32) (x3 : Int32) (x4 : Int32) (x5 : Int32) (x6 : Int32) (y7 : Int32) (z0 : Int32) (h : AH) : Option ((Int32 × AH) ⊕ ((AH))) :=
  f_X12_apartBy_L55_J258 x0 x1 x2 x3 x4 x5 x6 y7 z0 h
def f_X12_apartBy_L55_J240 (x0 : Nat) (x1 : Int32) (x2 : Int32) (x3 : Int32) (x4 : Int32) (x5 : Int32) (x6 : Int32) (y7 : Int32) (y13 : Int32) (z0 : Int32) (h : AH) : Option ((Int32 × AH) ⊕ ((AH))) :=
  if z0 ≤ y13 then (f_X12_apartBy_L55_J256 x0 x1 x2 x3 x4 x5 x6 y7 z0 h) else (f_X12_apartBy_L55_J256 x0 x1 x2 x3 x4 x5 x6 y7 y13 h)
def f_X12_apartBy_L55_J182 (x0 : Nat) (x1 : Int32) (x2 : Int32) (x3 : Int32) (x4 : Int32) (x5 : Int32) (x6 : Int32) (y7 : Int32) (z0 : Int32) (z1 : Int32) (h : AH) : Option ((Int32 × AH) ⊕ ((AH))) :=
  (f_X12_bit z0 h).bind fun q34 =>
  (hgR q34.2 x0 13 43).bind fun v36 =>
  (hld q34.2 0 v36 ((25 * (x6 - 1)) + y7)).bind fun v38 =>
  (hgR q34.2 x0 13 43).bind fun v40 =>
  (hld q34.2 0 v40 (((25 * x6) + y7) - 1)).bind fun v42 =>
  if (v38 + 1) ≤ (z1 + q34.1) then (f_X12_apartBy_L55_J240 x0 x1 x2 x3 x4 x5 x6 y7 (v42 + 1) (v38 + 1) q34.2) else (f_X12_apartBy_L55_J240 x0 x1 x2 x3 x4 x5 x6 y7 (v42 + 1) (z1 + q34.1) q34.2)
def f_X12_apartBy_L55_J151 (x0 : Nat) (x1 : Int32) (x2 : Int32) (x3 : Int32) (x4 : Int32) (x5 : Int32) (x6 : Int32) (y7 : Int32) (y9 : Int32) (z0 : Int32) (h : AH) : Option ((Int32 × AH) ⊕ ((AH))) :=
  (hgR h x0 13 43).bind fun v29 =>
  (hld h 0 v29 (((25 * (x6 - 1)) + y7) - 1)).bind fun v31 =>
  if y9 = z0 then (f_X12_apartBy_L55_J182 x0 x1 x2 x3 x4 x5 x6 y7 0 v31 h) else (f_X12_apartBy_L55_J182 x0 x1 x2 x3 x4 x5 x6 y7 1 v31 h)
def f_X12_apartBy_L55_J114 (x0 : Nat) (x1 : Int32) (x2 : Int32) (x3 : Int32) (x4 : Int32) (x5 : Int32) (x6 : Int32) (y7 : Int32) (z0 : Int32) (h : AH) : Option ((Int32 × AH) ⊕ ((AH))) :=
  if x1 = 0 then ((hgR h x0 13 4).bind fun v25 =>
  (hld h 0 v25 (((12 * x3) + y7) - 1)).bind fun v27 =>
  f_X12_apartBy_L55_J151 x0 x1 x2 x3 x4 x5 x6 y7 z0 v27 h) else ((hgR h x0 13 3).bind fun v46 =>
  (hld h 0 v46 (((24 * x3) + y7) - 1)).bind fun v48 =>
  f_X12_apartBy_L55_J151 x0 x1 x2 x3 x4 x5 x6 y7 z0 v48 h)
def f_X12_apartBy_L55 (x0 : Nat) (x1 : Int32) (x2 : Int32) (x3 : Int32) (x4 : Int32) (x5 : Int32) (x6 : Int32) (s : Int32 × AH) : Option ((Int32 × AH) ⊕ ((AH))) :=
  if x5 < s.1 then (some (.inr (s.2))) else (if x6 ≤ 0 then (f_X12_apartBy_L55_J258 x0 x1 x2 x3 x4 x5 x6 s.1 (x6 + s.1) s.2) else (if s.1 ≤ 0 then (f_X12_apartBy_L55_J258 x0 x1 x2 x3 x4 x5 x6 s.1 (x6 + s.1) s.2) else (if x1 = 0 then ((hgR s.2 x0 13 4).bind fun v20 =>
  (hld s.2 0 v20 (((12 * x2) + x6) - 1)).bind fun v22 =>
  f_X12_apartBy_L55_J114 x0 x1 x2 x3 x4 x5 x6 s.1 v22 s.2) else ((hgR s.2 x0 13 3).bind fun v50 =>
  (hld s.2 0 v50 (((24 * x2) + x6) - 1)).bind fun v52 =>
  f_X12_apartBy_L55_J114 x0 x1 x2 x3 x4 x5 x6 s.1 v52 s.2))))
def f_X12_apartBy_L45 (x0 : Nat) (x1 : Int32) (x2 : Int32) (x3 : Int32) (x4 : Int32) (x5 : Int32) (s : Int32 × AH) : Option ((Int32 × AH) ⊕ ((AH))) :=
  if x4 < s.1 then (some (.inr (s.2))) else ((iter (f_X12_apartBy_L55 x0 x1 x2 x3 x4 x5 s.1) 100000 (0, s.2)).bind fun e54 =>
  some (.inl (s.1 + 1, e54)))
def f_X12_apartBy_J40 (a0 : Nat) (a1 : Int32) (a2 : Int32) (a3 : Int32) (y4 : Int32) (z0 : Int32) (h : AH) : Option (Int32 × AH) :=
  (iter (f_X12_apartBy_L45 a0 a1 a2 a3 y4 z0) 100000 (0, h)).bind fun e56 =>
  (hgR e56 a0 13 43).bind fun v58 =>
  (hld e56 0 v58 ((25 * y4) + z0)).bind fun v60 =>
  some (v60, e56)
def f_X12_apartBy_J19 (a0 : Nat) (a1 : Int32) (a2 : Int32) (a3 : Int32) (z0 : Int32) (h : AH) : Option (Int32 × AH) :=
  if a1 = 0 then ((hgR h a0 13 2).bind fun v7 =>
  (hld h 0 v7 a3).bind fun v9 =>
  f_X12_apartBy_J40 a0 a1 a2 a3 z0 v9 h) else ((hgR h a0 13 1).bind fun v62 =>
  (hld h 0 v62 a3).bind fun v64 =>
  f_X12_apartBy_J40 a0 a1 a2 a3 z0 v64 h)
def f_X12_apartBy (a0 : Nat) (a1 : Int32) (a2 : Int32) (a3 : Int32) (h : AH) : Option (Int32 × AH) :=
  if a1 = 0 then ((hgR h a0 13 2).bind fun v2 =>
  (hld h 0 v2 a2).bind fun v4 =>
  f_X12_apartBy_J19 a0 a1 a2 a3 v4 h) else ((hgR h a0 13 1).bind fun v66 =>
  (hld h 0 v66 a2).bind fun v68 =>
  f_X12_apartBy_J19 a0 a1 a2 a3 v68 h)
/-! HeaveSongsModel.apartOf(II)I -/
def f_X12_apartOf (a0 : Nat) (a1 : Int32) (a2 : Int32) (h : AH) : Option (Int32 × AH) :=
  (hcl h a0 13).bind fun _ =>
  (f_X12_apartBy a0 1 a1 a2 h).bind fun q1 =>
  (hcl q1.2 a0 13).bind fun _ =>
  (f_X12_apartBy a0 0 a1 a2 q1.2).bind fun q4 =>
  some (q1.1 + q4.1, q4.2)
/-! HeaveSongsModel.apart(II)I -/
def f_X12_apart (a0 : Nat) (a1 : Int32) (a2 : Int32) (h : AH) : Option (Int32 × AH) :=
  (hcl h a0 13).bind fun _ =>
  (f_X12_noSong a0 a1 h).bind fun q1 =>
  if q1.1 = 0 then ((hcl q1.2 a0 13).bind fun _ =>
  (f_X12_noSong a0 a2 q1.2).bind fun q5 =>
  if q5.1 = 0 then ((hcl q5.2 a0 13).bind fun _ =>
  (f_X12_apartOf a0 a1 a2 q5.2).bind fun q9 =>
  some (q9.1, q9.2)) else (some ((-2), q5.2))) else (some ((-2), q1.2))
/-! HeaveSongsModel.beat(I)I -/
def f_X12_beat (a0 : Nat) (a1 : Int32) (h : AH) : Option (Int32 × AH) :=
  (f_X12_in a1.toInt64 0 3 h).bind fun q1 =>
  if q1.1 = 0 then (some ((-2), q1.2)) else ((hgI q1.2 a0 13 5).bind fun v4 =>
  if v4 = 24 then (some ((-4), q1.2)) else ((hgR q1.2 a0 13 6).bind fun v7 =>
  (hgI q1.2 a0 13 5).bind fun v9 =>
  (hst q1.2 0 v7 v9 a1).bind fun h11 =>
  (hgI h11 a0 13 5).bind fun v13 =>
  (hpF h11 a0 13 5 (.int (v13 + 1))).bind fun h15 =>
  (hgI h15 a0 13 5).bind fun v17 =>
  some (v17, h15)))
/-! HeaveSongsModel.beatOf(II)I -/
def f_X12_beatOf (a0 : Nat) (a1 : Int32) (a2 : Int32) (h : AH) : Option (Int32 × AH) :=
  (hgR h a0 13 1).bind fun v1 =>
  (hld h 0 v1 a1).bind fun v3 =>
  (hgR h a0 13 2).bind fun v5 =>
  (hld h 0 v5 a1).bind fun v7 =>
  (hdv (v3 + v7)).bind fun _ =>
  (hgR h a0 13 1).bind fun v10 =>
  (hld h 0 v10 a1).bind fun v12 =>
  if v12 ≤ (a2 - a2 / (v3 + v7) * (v3 + v7)) then ((hgR h a0 13 4).bind fun v15 =>
  (hgR h a0 13 1).bind fun v17 =>
  (hld h 0 v17 a1).bind fun v19 =>
  (hld h 0 v15 (((12 * a1) + (a2 - a2 / (v3 + v7) * (v3 + v7))) - v19)).bind fun v21 =>
  some (v21, h)) else ((hgR h a0 13 3).bind fun v23 =>
  (hld h 0 v23 ((24 * a1) + (a2 - a2 / (v3 + v7) * (v3 + v7)))).bind fun v25 =>
  some (v25, h))
/-! HeaveSongsModel.beatAt(II)I -/
def f_X12_beatAt (a0 : Nat) (a1 : Int32) (a2 : Int32) (h : AH) : Option (Int32 × AH) :=
  (hcl h a0 13).bind fun _ =>
  (f_X12_noSong a0 a1 h).bind fun q1 =>
  if q1.1 = 0 then ((f_X12_in a2.toInt64 0 1000 q1.2).bind fun q5 =>
  if q5.1 = 0 then (some ((-2), q5.2)) else ((hcl q5.2 a0 13).bind fun _ =>
  (f_X12_beatOf a0 a1 a2 q5.2).bind fun q8 =>
  some (q8.1, q8.2))) else (some ((-2), q1.2))
/-! HeaveSongsModel.ones(I)I -/
def f_X12_ones_L4 (x0 : Int32) (s : Int32 × Int32 × AH) : Option ((Int32 × Int32 × AH) ⊕ ((Int32 × AH))) :=
  if 12 ≤ s.2.1 then (some (.inr ((s.1, s.2.2)))) else (some (.inl (s.1 + ((x0 >>> (s.2.1 &&& 31)) &&& 1), s.2.1 + 1, s.2.2)))
def f_X12_ones (a0 : Int32) (h : AH) : Option (Int32 × AH) :=
  (iter (f_X12_ones_L4 a0) 100000 (0, 0, h)).bind fun e2 =>
  some (e2.1, e2.2)
/-! HeaveSongsModel.carry(II)V -/
def f_X12_carry_L2 (x0 : Nat) (x1 : Int32) (x2 : Int32) (s : Int32 × AH) : Option ((Int32 × AH) ⊕ ((AH))) :=
  (hgI s.2 x0 13 7).bind fun v1 =>
  if v1 ≤ s.1 then (some (.inr (s.2))) else ((hgR s.2 x0 13 13).bind fun v4 =>
  (hgR s.2 x0 13 13).bind fun v6 =>
  (hld s.2 0 v6 ((10 * x1) + s.1)).bind fun v8 =>
  (hst s.2 0 v4 ((10 * x2) + s.1) v8).bind fun h10 =>
  some (.inl (s.1 + 1, h10)))
def f_X12_carry (a0 : Nat) (a1 : Int32) (a2 : Int32) (h : AH) : Option (AH) :=
  (iter (f_X12_carry_L2 a0 a1 a2) 100000 (0, h)).bind fun e12 =>
  some e12
/-! HeaveSongsModel.step(IIIIII)V -/
def f_X12_step_L11_J94 (x0 : Nat) (x1 : Int32) (x2 : Int32) (x3 : Int32) (x4 : Int32) (x5 : Int32) (x6 : Int32) (y7 : Int32) (y8 : Int32) (y9 : Int32) (z0 : Int32) (z1 : Int32) (z2 : Nat) (h : AH) : Option ((Int32 × Int32 × AH) ⊕ ((Int32 × AH))) :=
  (hpF h z2 13 21 (.int (z1 + z0))).bind fun h10 =>
  (f_X12_bit y9 h10).bind fun q12 =>
  some (.inl (y7 ||| (q12.1 <<< (y8 &&& 31)), y8 + 1, q12.2))
def f_X12_step_L11_J66 (x0 : Nat) (x1 : Int32) (x2 : Int32) (x3 : Int32) (x4 : Int32) (x5 : Int32) (x6 : Int32) (y7 : Int32) (y8 : Int32) (z0 : Int32) (h : AH) : Option ((Int32 × Int32 × AH) ⊕ ((Int32 × AH))) :=
  (hgI h x0 13 21).bind fun v7 =>
  if z0 = 0 then (f_X12_step_L11_J94 x0 x1 x2 x3 x4 x5 x6 y7 y8 z0 0 v7 x0 h) else ((hgR h x0 13 13).bind fun v14 =>
  (hld h 0 v14 ((10 * x1) + y8)).bind fun v16 =>
  f_X12_step_L11_J94 x0 x1 x2 x3 x4 x5 x6 y7 y8 z0 v16 v7 x0 h)
def f_X12_step_L11_J65 (x0 : Nat) (x1 : Int32) (x2 : Int32) (x3 : Int32) (x4 : Int32) (x5 : Int32) (x6 : Int32) (y7 : Int32) (y8 : Int32) (h : AH) : Option ((Int32 × Int32 × AH) ⊕ ((Int32 × AH))) :=
  f_X12_step_L11_J66 x0 x1 x2 x3 x4 x5 x6 y7 y8 0 h
def f_X12_step_L11 (x0 : Nat) (x1 : Int32) (x2 : Int32) (x3 : Int32) (x4 : Int32) (x5 : Int32) (x6 : Int32) (s : Int32 × Int32 × AH) : Option ((Int32 × Int32 × AH) ⊕ ((Int32 × AH))) :=
  (hgI s.2.2 x0 13 7).bind fun v3 =>
  if v3 ≤ s.2.1 then (some (.inr ((s.1, s.2.2)))) else (if ((x3 >>> (s.2.1 &&& 31)) &&& 1) = 1 then ((hgR s.2.2 x0 13 19).bind fun v18 =>
  (hld s.2.2 0 v18 s.2.1).bind fun v20 =>
  if x6 < v20 then (f_X12_step_L11_J65 x0 x1 x2 x3 x4 x5 x6 s.1 s.2.1 s.2.2) else ((hgR s.2.2 x0 13 19).bind fun v23 =>
  (hld s.2.2 0 v23 s.2.1).bind fun v25 =>
  (hcl s.2.2 x0 13).bind fun _ =>
  (f_X12_beatOf x0 x2 (x6 - v25) s.2.2).bind fun q27 =>
  if q27.1 = 2 then (f_X12_step_L11_J66 x0 x1 x2 x3 x4 x5 x6 s.1 s.2.1 1 q27.2) else (f_X12_step_L11_J65 x0 x1 x2 x3 x4 x5 x6 s.1 s.2.1 q27.2))) else (f_X12_step_L11_J65 x0 x1 x2 x3 x4 x5 x6 s.1 s.2.1 s.2.2))
def f_X12_step_L184_J296 (x0 : Nat) (x1 : Int32) (x3 : Int32) (x7 : Int32) (x8 : Int32) (y9 : Int32) (y10 : Int32) (h : AH) : Option ((Int32 × AH) ⊕ ((AH))) :=
  (hgR h x0 13 13).bind fun v57 =>
  (hgR h x0 13 8).bind fun v59 =>
  (hld h 0 v59 y9).bind fun v61 =>
  if y10 ≤ v61 then ((hst h 0 v57 ((10 * x1) + y9) y10).bind fun h64 =>
  some (.inl (y9 + 1, h64))) else ((hgR h x0 13 8).bind fun v66 =>
  (hld h 0 v66 y9).bind fun v68 =>
  (hst h 0 v57 ((10 * x1) + y9) v68).bind fun h70 =>
  some (.inl (y9 + 1, h70)))
def f_X12_step_L184_J263 (x0 : Nat) (x1 : Int32) (x3 : Int32) (x7 : Int32) (x8 : Int32) (y9 : Int32) (y10 : Int32) (h : AH) : Option ((Int32 × AH) ⊕ ((AH))) :=
  (hgR h x0 13 10).bind fun v53 =>
  (hld h 0 v53 y9).bind fun v55 =>
  f_X12_step_L184_J296 x0 x1 x3 x7 x8 y9 (y10 + v55) h
def f_X12_step_L184_J244 (x0 : Nat) (x1 : Int32) (x3 : Int32) (x7 : Int32) (x8 : Int32) (y9 : Int32) (z0 : Int32) (h : AH) : Option ((Int32 × AH) ⊕ ((AH))) :=
  f_X12_step_L184_J296 x0 x1 x3 x7 x8 y9 z0 h
def f_X12_step_L184 (x0 : Nat) (x1 : Int32) (x3 : Int32) (x7 : Int32) (x8 : Int32) (s : Int32 × AH) : Option ((Int32 × AH) ⊕ ((AH))) :=
  (hgI s.2 x0 13 7).bind fun v44 =>
  if v44 ≤ s.1 then (some (.inr (s.2))) else ((hgR s.2 x0 13 13).bind fun v47 =>
  (hld s.2 0 v47 ((10 * x1) + s.1)).bind fun v49 =>
  if ((x7 >>> (s.1 &&& 31)) &&& 1) = 1 then ((hgR s.2 x0 13 9).bind fun v78 =>
  (hld s.2 0 v78 s.1).bind fun v80 =>
  if v49 ≤ v80 then (f_X12_step_L184_J244 x0 x1 x3 x7 x8 s.1 0 s.2) else ((hgR s.2 x0 13 9).bind fun v83 =>
  (hld s.2 0 v83 s.1).bind fun v85 =>
  f_X12_step_L184_J244 x0 x1 x3 x7 x8 s.1 (v49 - v85) s.2)) else (if ((x3 >>> (s.1 &&& 31)) &&& 1) = 0 then (f_X12_step_L184_J263 x0 x1 x3 x7 x8 s.1 v49 s.2) else (if x8 = 0 then (f_X12_step_L184_J263 x0 x1 x3 x7 x8 s.1 v49 s.2) else (if x8 = 3 then ((hgR s.2 x0 13 11).bind fun v74 =>
  (hld s.2 0 v74 s.1).bind fun v76 =>
  f_X12_step_L184_J296 x0 x1 x3 x7 x8 s.1 (v49 + v76) s.2) else (f_X12_step_L184_J296 x0 x1 x3 x7 x8 s.1 v49 s.2)))))
def f_X12_step_J172 (a0 : Nat) (a1 : Int32) (a2 : Int32) (a3 : Int32) (a4 : Int32) (a5 : Int32) (a6 : Int32) (y7 : Int32) (h : AH) : Option (AH) :=
  (hcl h a0 13).bind fun _ =>
  (f_X12_beatOf a0 a2 a6 h).bind fun q41 =>
  (iter (f_X12_step_L184 a0 a1 a3 y7 q41.1) 100000 (0, q41.2)).bind fun e87 =>
  some e87
def f_X12_step_J169 (a0 : Nat) (a1 : Int32) (a2 : Int32) (a3 : Int32) (a4 : Int32) (a5 : Int32) (a6 : Int32) (y7 : Int32) (z0 : Int32) (z1 : Nat) (h : AH) : Option (AH) :=
  (hpF h z1 13 20 (.int z0)).bind fun h39 =>
  f_X12_step_J172 a0 a1 a2 a3 a4 a5 a6 y7 h39
def f_X12_step (a0 : Nat) (a1 : Int32) (a2 : Int32) (a3 : Int32) (a4 : Int32) (a5 : Int32) (a6 : Int32) (h : AH) : Option (AH) :=
  (hpF h a0 13 21 (.int 0)).bind fun h1 =>
  (iter (f_X12_step_L11 a0 a1 a2 a3 a4 a5 a6) 100000 (0, 0, h1)).bind fun e31 =>
  (hgI e31.2 a0 13 21).bind fun v33 =>
  if v33 ≤ a4 then ((hgI e31.2 a0 13 20).bind fun v36 =>
  if v36 ≤ a5 then (f_X12_step_J169 a0 a1 a2 a3 a4 a5 a6 e31.1 0 a0 e31.2) else ((hgI e31.2 a0 13 20).bind fun v89 =>
  f_X12_step_J169 a0 a1 a2 a3 a4 a5 a6 e31.1 (v89 - a5) a0 e31.2)) else ((hgI e31.2 a0 13 20).bind fun v91 =>
  (hgI e31.2 a0 13 21).bind fun v93 =>
  (hpF e31.2 a0 13 20 (.int (v91 + ((v93 - a4) / 10)))).bind fun h95 =>
  f_X12_step_J172 a0 a1 a2 a3 a4 a5 a6 e31.1 h95)
/-! HeaveSongsModel.isAbove(II)Z -/
def f_X12_isAbove_L5_J46 (x0 : Nat) (x1 : Int32) (x2 : Int32) (y4 : Int32) (h : AH) : Option ((Int32 × Int32 × AH) ⊕ ((Int32 × AH))) :=
  some (.inl (1, y4 + 1, h))
def f_X12_isAbove_L5 (x0 : Nat) (x1 : Int32) (x2 : Int32) (s : Int32 × Int32 × AH) : Option ((Int32 × Int32 × AH) ⊕ ((Int32 × AH))) :=
  (hgI s.2.2 x0 13 7).bind fun v1 =>
  if v1 ≤ s.2.1 then (some (.inr ((s.1, s.2.2)))) else (if s.1 = 0 then (some (.inl (0, s.2.1 + 1, s.2.2))) else (if ((x2 >>> (s.2.1 &&& 31)) &&& 1) = 0 then (f_X12_isAbove_L5_J46 x0 x1 x2 s.2.1 s.2.2) else ((hgR s.2.2 x0 13 13).bind fun v6 =>
  (hld s.2.2 0 v6 ((10 * x1) + s.2.1)).bind fun v8 =>
  (hgI s.2.2 x0 13 15).bind fun v10 =>
  if v8 < v10 then (some (.inl (0, s.2.1 + 1, s.2.2))) else (f_X12_isAbove_L5_J46 x0 x1 x2 s.2.1 s.2.2))))
def f_X12_isAbove (a0 : Nat) (a1 : Int32) (a2 : Int32) (h : AH) : Option (Int32 × AH) :=
  (iter (f_X12_isAbove_L5 a0 a1 a2) 100000 (1, 0, h)).bind fun e13 =>
  (hzb e13.1).bind fun _ =>
  some (e13.1, e13.2)
/-! HeaveSongsModel.work(IIIIIIZ)I -/
def f_X12_work_L8 (x0 : Nat) (x1 : Int32) (x2 : Int32) (x3 : Int32) (x4 : Int32) (x5 : Int32) (x6 : Int32) (x7 : Int32) (s : Int32 × AH) : Option ((Int32 × AH) ⊕ ((AH))) :=
  (hgI s.2 x0 13 7).bind fun v3 =>
  if v3 ≤ s.1 then (some (.inr (s.2))) else ((hgR s.2 x0 13 19).bind fun v6 =>
  (hgR s.2 x0 13 12).bind fun v8 =>
  (hld s.2 0 v8 s.1).bind fun v10 =>
  (hst s.2 0 v6 s.1 v10).bind fun h12 =>
  some (.inl (s.1 + 1, h12)))
def f_X12_work_L40_J96 (x0 : Nat) (x1 : Int32) (x2 : Int32) (x3 : Int32) (x4 : Int32) (x5 : Int32) (x6 : Int32) (x7 : Int32) (y8 : Int32) (h : AH) : Option ((Int32 × AH) ⊕ ((AH) ⊕ (Int32 × AH) ⊕ (Int32 × AH))) :=
  (hcl h x0 13).bind fun _ =>
  (f_X12_isAbove x0 x1 x3 h).bind fun q21 =>
  if q21.1 = 0 then (some (.inr (.inr (.inr ((y8, q21.2)))))) else ((hgI q21.2 x0 13 20).bind fun v25 =>
  if v25 < x4 then (some (.inl (y8 + 1, q21.2))) else (some (.inr (.inr (.inl ((y8, q21.2)))))))
def f_X12_work_L40 (x0 : Nat) (x1 : Int32) (x2 : Int32) (x3 : Int32) (x4 : Int32) (x5 : Int32) (x6 : Int32) (x7 : Int32) (s : Int32 × AH) : Option ((Int32 × AH) ⊕ ((AH) ⊕ (Int32 × AH) ⊕ (Int32 × AH))) :=
  if 300 ≤ s.1 then (some (.inr (.inl (s.2)))) else ((hcl s.2 x0 13).bind fun _ =>
  (f_X12_step x0 x1 x2 x3 x5 x6 s.1 s.2).bind fun q17 =>
  if x7 = 0 then (f_X12_work_L40_J96 x0 x1 x2 x3 x4 x5 x6 x7 s.1 q17) else ((hgR q17 x0 13 17).bind fun v28 =>
  (hgI q17 x0 13 20).bind fun v30 =>
  (hst q17 0 v28 s.1 v30).bind fun h32 =>
  (hgR h32 x0 13 18).bind fun v34 =>
  (hgI h32 x0 13 21).bind fun v36 =>
  (hst h32 0 v34 s.1 v36).bind fun h38 =>
  (hpF h38 x0 13 16 (.int (s.1 + 1))).bind fun h40 =>
  f_X12_work_L40_J96 x0 x1 x2 x3 x4 x5 x6 x7 s.1 h40))
def f_X12_work (a0 : Nat) (a1 : Int32) (a2 : Int32) (a3 : Int32) (a4 : Int32) (a5 : Int32) (a6 : Int32) (a7 : Int32) (h : AH) : Option (Int32 × AH) :=
  (hpF h a0 13 20 (.int 0)).bind fun h1 =>
  (iter (f_X12_work_L8 a0 a1 a2 a3 a4 a5 a6 a7) 100000 (0, h1)).bind fun e14 =>
  (iter (f_X12_work_L40 a0 a1 a2 a3 a4 a5 a6 a7) 100000 (0, e14)).bind fun e42 =>
  Sum.elim (fun e44 => some ((-300), e44)) (fun e45 => Sum.elim (fun e46 => some (e46.1 + 1, e46.2)) (fun e47 => some ((0 - e47.1) - 1, e47.2)) e45) e42
/-! HeaveSongsModel.leastNow(I)I -/
def f_X12_leastNow_L6 (x0 : Nat) (x1 : Int32) (s : Int32 × Int32 × AH) : Option ((Int32 × Int32 × AH) ⊕ ((Int32 × AH))) :=
  (hgI s.2.2 x0 13 7).bind fun v1 =>
  if v1 ≤ s.2.1 then (some (.inr ((s.1, s.2.2)))) else ((hgR s.2.2 x0 13 13).bind fun v4 =>
  (hld s.2.2 0 v4 ((10 * x1) + s.2.1)).bind fun v6 =>
  if s.1 ≤ v6 then (some (.inl (s.1, s.2.1 + 1, s.2.2))) else (some (.inl (v6, s.2.1 + 1, s.2.2))))
def f_X12_leastNow (a0 : Nat) (a1 : Int32) (h : AH) : Option (Int32 × AH) :=
  (iter (f_X12_leastNow_L6 a0 a1) 100000 (1000, 0, h)).bind fun e9 =>
  some (e9.1, e9.2)
/-! HeaveSongsModel.best(IIII)I -/
def f_X12_best_L66_J159 (x0 : Nat) (x1 : Int32) (x2 : Int32) (x3 : Int32) (x4 : Int32) (y8 : Int32) (y9 : Int32) (y10 : Int32) (h : AH) : Option ((Int32 × Int32 × Int32 × Int32 × AH) ⊕ ((Int32 × Int32 × Int32 × AH))) :=
  some (.inl (y8, y9, y10, y8 + 1, h))
def f_X12_best_L66 (x0 : Nat) (x1 : Int32) (x2 : Int32) (x3 : Int32) (x4 : Int32) (s : Int32 × Int32 × Int32 × Int32 × AH) : Option ((Int32 × Int32 × Int32 × Int32 × AH) ⊕ ((Int32 × Int32 × Int32 × AH))) :=
  (hgI s.2.2.2.2 x0 13 7).bind fun v18 =>
  if (1 <<< (v18 &&& 31)) ≤ s.2.2.2.1 then (some (.inr ((s.1, s.2.1, s.2.2.1, s.2.2.2.2)))) else ((f_X12_ones s.2.2.2.1 s.2.2.2.2).bind fun q21 =>
  if q21.1 = x3 then ((hcl q21.2 x0 13).bind fun _ =>
  (f_X12_carry x0 0 1 q21.2).bind fun q24 =>
  (hgR q24 x0 13 23).bind fun v27 =>
  (hld q24 0 v27 x2).bind fun v29 =>
  (hgR q24 x0 13 24).bind fun v31 =>
  (hld q24 0 v31 x2).bind fun v33 =>
  (hgR q24 x0 13 25).bind fun v35 =>
  (hld q24 0 v35 x2).bind fun v37 =>
  (hcl q24 x0 13).bind fun _ =>
  (f_X12_work x0 1 x1 s.2.2.2.1 v29 v33 v37 0 q24).bind fun q39 =>
  (hcl q39.2 x0 13).bind fun _ =>
  (f_X12_leastNow x0 1 q39.2).bind fun q42 =>
  if q39.1 ≤ 0 then (some (.inl (s.1, s.2.1, s.2.2.1, s.2.2.2.1 + 1, q42.2))) else (if s.1 < 0 then (f_X12_best_L66_J159 x0 x1 x2 x3 x4 s.2.2.2.1 q39.1 q42.1 q42.2) else (if q39.1 < s.2.1 then (f_X12_best_L66_J159 x0 x1 x2 x3 x4 s.2.2.2.1 q39.1 q42.1 q42.2) else (if q39.1 = s.2.1 then (if q42.1 ≤ s.2.2.1 then (some (.inl (s.1, s.2.1, s.2.2.1, s.2.2.2.1 + 1, q42.2))) else (f_X12_best_L66_J159 x0 x1 x2 x3 x4 s.2.2.2.1 q39.1 q42.1 q42.2)) else (some (.inl (s.1, s.2.1, s.2.2.1, s.2.2.2.1 + 1, q42.2))))))) else (some (.inl (s.1, s.2.1, s.2.2.1, s.2.2.2.1 + 1, q21.2))))
def f_X12_best (a0 : Nat) (a1 : Int32) (a2 : Int32) (a3 : Int32) (a4 : Int32) (h : AH) : Option (Int32 × AH) :=
  (hcl h a0 13).bind fun _ =>
  (f_X12_noSong a0 a1 h).bind fun q1 =>
  if q1.1 = 0 then ((hgI q1.2 a0 13 22).bind fun v5 =>
  (f_X12_in a2.toInt64 0 ((v5 - 1).toInt64) q1.2).bind fun q7 =>
  if q7.1 = 0 then (some ((-2), q7.2)) else ((hgI q7.2 a0 13 7).bind fun v10 =>
  (f_X12_in a3.toInt64 1 v10.toInt64 q7.2).bind fun q12 =>
  if q12.1 = 0 then (some ((-2), q12.2)) else ((f_X12_in a4.toInt64 0 2 q12.2).bind fun q15 =>
  if q15.1 = 0 then (some ((-2), q15.2)) else ((iter (f_X12_best_L66 a0 a1 a2 a3 a4) 100000 ((-1), 0, 0, 1, q15.2)).bind fun e50 =>
  if 0 ≤ e50.1 then (if a4 = 0 then (some (e50.1, e50.2.2.2)) else (if a4 = 1 then (some (e50.2.1, e50.2.2.2)) else (some (e50.2.2.1, e50.2.2.2)))) else (some ((-1), e50.2.2.2)))))) else (some ((-2), q1.2))
/-! HeaveSongsModel.between(I)I -/
def f_X12_between (a0 : Nat) (a1 : Int32) (h : AH) : Option (Int32 × AH) :=
  (f_X12_in a1.toInt64 0 50 h).bind fun q1 =>
  if q1.1 = 0 then (some ((-2), q1.2)) else ((hgI q1.2 a0 13 26).bind fun v4 =>
  (hpF q1.2 a0 13 26 (.int a1)).bind fun h6 =>
  some (v4, h6))
/-! HeaveSongsModel.count(I)I -/
def f_X12_count (a0 : Nat) (a1 : Int32) (h : AH) : Option (Int32 × AH) :=
  if a1 = 0 then ((hgI h a0 13 0).bind fun v2 =>
  some (v2, h)) else (if a1 = 1 then ((hgI h a0 13 7).bind fun v5 =>
  some (v5, h)) else (if a1 = 2 then ((hgI h a0 13 14).bind fun v8 =>
  some (v8, h)) else (if a1 = 3 then ((hgI h a0 13 15).bind fun v11 =>
  some (v11, h)) else (if a1 = 4 then ((hgI h a0 13 22).bind fun v14 =>
  some (v14, h)) else (if a1 = 5 then ((hgI h a0 13 30).bind fun v17 =>
  some (v17, h)) else (if a1 = 6 then ((hgI h a0 13 35).bind fun v20 =>
  some (v20, h)) else (if a1 = 7 then ((hgI h a0 13 5).bind fun v23 =>
  some (v23, h)) else (if a1 = 8 then ((hgI h a0 13 16).bind fun v26 =>
  some (v26, h)) else (some ((-2), h))))))))))
/-! HeaveSongsModel.crew(I)I -/
def f_X12_crew (a0 : Nat) (a1 : Int32) (h : AH) : Option (Int32 × AH) :=
  (hgI h a0 13 7).bind fun v1 =>
  (f_X12_in a1.toInt64 0 (((1 <<< (v1 &&& 31)) - 1).toInt64) h).bind fun q3 =>
  if q3.1 = 0 then (some ((-2), q3.2)) else ((hgI q3.2 a0 13 14).bind fun v6 =>
  (hpF q3.2 a0 13 14 (.int a1)).bind fun h8 =>
  some (v6, h8))
/-! HeaveSongsModel.note(J)V -/
def f_X12_note (a0 : Nat) (a1 : Int64) (h : AH) : Option (AH) :=
  (hgJ h a0 13 46).bind fun v1 =>
  (hpF h a0 13 46 (.long ((31 * v1) + a1))).bind fun h3 =>
  some h3
/-! HeaveSongsModel.digest()J -/
def f_X12_digest_L9 (x0 : Nat) (s : Int32 × AH) : Option ((Int32 × AH) ⊕ ((AH))) :=
  if 9 ≤ s.1 then (some (.inr (s.2))) else ((hcl s.2 x0 13).bind fun _ =>
  (f_X12_count x0 s.1 s.2).bind fun q4 =>
  (hcl q4.2 x0 13).bind fun _ =>
  (f_X12_note x0 q4.1.toInt64 q4.2).bind fun q7 =>
  some (.inl (s.1 + 1, q7)))
def f_X12_digest_L33 (x0 : Nat) (s : Int32 × AH) : Option ((Int32 × AH) ⊕ ((AH))) :=
  (hgI s.2 x0 13 5).bind fun v12 =>
  if v12 ≤ s.1 then (some (.inr (s.2))) else ((hgR s.2 x0 13 6).bind fun v15 =>
  (hld s.2 0 v15 s.1).bind fun v17 =>
  (hcl s.2 x0 13).bind fun _ =>
  (f_X12_note x0 v17.toInt64 s.2).bind fun q19 =>
  some (.inl (s.1 + 1, q19)))
def f_X12_digest_L92 (x0 : Nat) (x1 : Int32) (s : Int32 × AH) : Option ((Int32 × AH) ⊕ ((AH))) :=
  (hgR s.2 x0 13 1).bind fun v41 =>
  (hld s.2 0 v41 x1).bind fun v43 =>
  if v43 ≤ s.1 then (some (.inr (s.2))) else ((hgR s.2 x0 13 3).bind fun v46 =>
  (hld s.2 0 v46 ((24 * x1) + s.1)).bind fun v48 =>
  (hcl s.2 x0 13).bind fun _ =>
  (f_X12_note x0 v48.toInt64 s.2).bind fun q50 =>
  some (.inl (s.1 + 1, q50)))
def f_X12_digest_L126 (x0 : Nat) (x1 : Int32) (s : Int32 × AH) : Option ((Int32 × AH) ⊕ ((AH))) :=
  (hgR s.2 x0 13 2).bind fun v55 =>
  (hld s.2 0 v55 x1).bind fun v57 =>
  if v57 ≤ s.1 then (some (.inr (s.2))) else ((hgR s.2 x0 13 4).bind fun v60 =>
  (hld s.2 0 v60 ((12 * x1) + s.1)).bind fun v62 =>
  (hcl s.2 x0 13).bind fun _ =>
  (f_X12_note x0 v62.toInt64 s.2).bind fun q64 =>
  some (.inl (s.1 + 1, q64)))
def f_X12_digest_L60 (x0 : Nat) (s : Int32 × AH) : Option ((Int32 × AH) ⊕ ((AH))) :=
  (hgI s.2 x0 13 0).bind fun v24 =>
  if v24 ≤ s.1 then (some (.inr (s.2))) else ((hgR s.2 x0 13 1).bind fun v27 =>
  (hld s.2 0 v27 s.1).bind fun v29 =>
  (hcl s.2 x0 13).bind fun _ =>
  (f_X12_note x0 v29.toInt64 s.2).bind fun q31 =>
  (hgR q31 x0 13 2).bind fun v34 =>
  (hld q31 0 v34 s.1).bind fun v36 =>
  (hcl q31 x0 13).bind fun _ =>
  (f_X12_note x0 v36.toInt64 q31).bind fun q38 =>
  (iter (f_X12_digest_L92 x0 s.1) 100000 (0, q38)).bind fun e53 =>
  (iter (f_X12_digest_L126 x0 s.1) 100000 (0, e53)).bind fun e67 =>
  some (.inl (s.1 + 1, e67)))
def f_X12_digest_L166 (x0 : Nat) (s : Int32 × AH) : Option ((Int32 × AH) ⊕ ((AH))) :=
  (hgI s.2 x0 13 7).bind fun v71 =>
  if v71 ≤ s.1 then (some (.inr (s.2))) else ((hgR s.2 x0 13 8).bind fun v74 =>
  (hld s.2 0 v74 s.1).bind fun v76 =>
  (hcl s.2 x0 13).bind fun _ =>
  (f_X12_note x0 v76.toInt64 s.2).bind fun q78 =>
  (hgR q78 x0 13 9).bind fun v81 =>
  (hld q78 0 v81 s.1).bind fun v83 =>
  (hcl q78 x0 13).bind fun _ =>
  (f_X12_note x0 v83.toInt64 q78).bind fun q85 =>
  (hgR q85 x0 13 10).bind fun v88 =>
  (hld q85 0 v88 s.1).bind fun v90 =>
  (hcl q85 x0 13).bind fun _ =>
  (f_X12_note x0 v90.toInt64 q85).bind fun q92 =>
  (hgR q92 x0 13 11).bind fun v95 =>
  (hld q92 0 v95 s.1).bind fun v97 =>
  (hcl q92 x0 13).bind fun _ =>
  (f_X12_note x0 v97.toInt64 q92).bind fun q99 =>
  (hgR q99 x0 13 12).bind fun v102 =>
  (hld q99 0 v102 s.1).bind fun v104 =>
  (hcl q99 x0 13).bind fun _ =>
  (f_X12_note x0 v104.toInt64 q99).bind fun q106 =>
  (hgR q106 x0 13 13).bind fun v109 =>
  (hld q106 0 v109 s.1).bind fun v111 =>
  (hcl q106 x0 13).bind fun _ =>
  (f_X12_note x0 v111.toInt64 q106).bind fun q113 =>
  some (.inl (s.1 + 1, q113)))
def f_X12_digest_L248 (x0 : Nat) (s : Int32 × AH) : Option ((Int32 × AH) ⊕ ((AH))) :=
  (hgI s.2 x0 13 16).bind fun v118 =>
  if v118 ≤ s.1 then (some (.inr (s.2))) else ((hgR s.2 x0 13 17).bind fun v121 =>
  (hld s.2 0 v121 s.1).bind fun v123 =>
  (hcl s.2 x0 13).bind fun _ =>
  (f_X12_note x0 v123.toInt64 s.2).bind fun q125 =>
  some (.inl (s.1 + 1, q125)))
def f_X12_digest_L275 (x0 : Nat) (s : Int32 × AH) : Option ((Int32 × AH) ⊕ ((AH))) :=
  (hgI s.2 x0 13 16).bind fun v130 =>
  if v130 ≤ s.1 then (some (.inr (s.2))) else ((hgR s.2 x0 13 18).bind fun v133 =>
  (hld s.2 0 v133 s.1).bind fun v135 =>
  (hcl s.2 x0 13).bind fun _ =>
  (f_X12_note x0 v135.toInt64 s.2).bind fun q137 =>
  some (.inl (s.1 + 1, q137)))
def f_X12_digest_L302 (x0 : Nat) (s : Int32 × AH) : Option ((Int32 × AH) ⊕ ((AH))) :=
  (hgI s.2 x0 13 22).bind fun v142 =>
  if v142 ≤ s.1 then (some (.inr (s.2))) else ((hgR s.2 x0 13 23).bind fun v145 =>
  (hld s.2 0 v145 s.1).bind fun v147 =>
  (hcl s.2 x0 13).bind fun _ =>
  (f_X12_note x0 v147.toInt64 s.2).bind fun q149 =>
  (hgR q149 x0 13 24).bind fun v152 =>
  (hld q149 0 v152 s.1).bind fun v154 =>
  (hcl q149 x0 13).bind fun _ =>
  (f_X12_note x0 v154.toInt64 q149).bind fun q156 =>
  (hgR q156 x0 13 25).bind fun v159 =>
  (hld q156 0 v159 s.1).bind fun v161 =>
  (hcl q156 x0 13).bind fun _ =>
  (f_X12_note x0 v161.toInt64 q156).bind fun q163 =>
  some (.inl (s.1 + 1, q163)))
def f_X12_digest_L351 (x0 : Nat) (s : Int32 × AH) : Option ((Int32 × AH) ⊕ ((AH))) :=
  (hgI s.2 x0 13 30).bind fun v168 =>
  if v168 ≤ s.1 then (some (.inr (s.2))) else ((hgR s.2 x0 13 31).bind fun v171 =>
  (hld s.2 0 v171 s.1).bind fun v173 =>
  (hcl s.2 x0 13).bind fun _ =>
  (f_X12_note x0 v173.toInt64 s.2).bind fun q175 =>
  (hgR q175 x0 13 32).bind fun v178 =>
  (hld q175 0 v178 s.1).bind fun v180 =>
  (hcl q175 x0 13).bind fun _ =>
  (f_X12_note x0 v180.toInt64 q175).bind fun q182 =>
  some (.inl (s.1 + 1, q182)))
def f_X12_digest_L389 (x0 : Nat) (s : Int32 × AH) : Option ((Int32 × AH) ⊕ ((AH))) :=
  (hgI s.2 x0 13 35).bind fun v187 =>
  if v187 ≤ s.1 then (some (.inr (s.2))) else ((hgR s.2 x0 13 36).bind fun v190 =>
  (hld s.2 0 v190 s.1).bind fun v192 =>
  (hcl s.2 x0 13).bind fun _ =>
  (f_X12_note x0 v192.toInt64 s.2).bind fun q194 =>
  (hgR q194 x0 13 37).bind fun v197 =>
  (hld q194 0 v197 s.1).bind fun v199 =>
  (hcl q194 x0 13).bind fun _ =>
  (f_X12_note x0 v199.toInt64 q194).bind fun q201 =>
  some (.inl (s.1 + 1, q201)))
def f_X12_digest (a0 : Nat) (h : AH) : Option (Int64 × AH) :=
  (hpF h a0 13 46 (.long 283)).bind fun h1 =>
  (iter (f_X12_digest_L9 a0) 100000 (0, h1)).bind fun e10 =>
  (iter (f_X12_digest_L33 a0) 100000 (0, e10)).bind fun e22 =>
  (iter (f_X12_digest_L60 a0) 100000 (0, e22)).bind fun e69 =>
  (iter (f_X12_digest_L166 a0) 100000 (0, e69)).bind fun e116 =>
  (iter (f_X12_digest_L248 a0) 100000 (0, e116)).bind fun e128 =>
  (iter (f_X12_digest_L275 a0) 100000 (0, e128)).bind fun e140 =>
  (iter (f_X12_digest_L302 a0) 100000 (0, e140)).bind fun e166 =>
  (iter (f_X12_digest_L351 a0) 100000 (0, e166)).bind fun e185 =>
  (iter (f_X12_digest_L389 a0) 100000 (0, e185)).bind fun e204 =>
  (hgJ e204 a0 13 46).bind fun v206 =>
  some (v206, e204)
/-! HeaveSongsModel.isSung(I)Z -/
def f_X12_isSung (a0 : Int32) (h : AH) : Option (Int32 × AH) :=
  if a0 = 1 then (some (1, h)) else (if a0 = 2 then (some (1, h)) else (some (0, h)))
/-! HeaveSongsModel.sungFrom(II)I -/
def f_X12_sungFrom_L2 (x0 : Nat) (x1 : Int32) (s : Int32 × AH) : Option ((Int32 × AH) ⊕ ((Int32 × AH))) :=
  (hgR s.2 x0 13 1).bind fun v1 =>
  (hld s.2 0 v1 x1).bind fun v3 =>
  if v3 ≤ s.1 then (some (.inr ((s.1, s.2)))) else ((hgR s.2 x0 13 3).bind fun v6 =>
  (hld s.2 0 v6 ((24 * x1) + s.1)).bind fun v8 =>
  (f_X12_isSung v8 s.2).bind fun q10 =>
  if q10.1 = 0 then (some (.inl (s.1 + 1, q10.2))) else (some (.inr ((s.1, q10.2)))))
def f_X12_sungFrom (a0 : Nat) (a1 : Int32) (a2 : Int32) (h : AH) : Option (Int32 × AH) :=
  (iter (f_X12_sungFrom_L2 a0 a1) 100000 (a2, h)).bind fun e13 =>
  some (e13.1, e13.2)
/-! HeaveSongsModel.wrongOf(III)I -/
def f_X12_wrongOf_L25_J116 (x0 : Nat) (x1 : Int32) (x2 : Int32) (x3 : Int32) (y5 : Int32) (z0 : Int32) (z1 : Int32) (h : AH) : Option ((Int32 × Int32 × AH) ⊕ ((Int32 × AH) ⊕ (AH))) :=
  (f_X12_bit z0 h).bind fun q33 =>
  some (.inl (z1 + q33.1, y5 + 1, q33.2))
def f_X12_wrongOf_L25_J108 (x0 : Nat) (x1 : Int32) (x2 : Int32) (x3 : Int32) (y5 : Int32) (z0 : Int32) (z1 : Int32) (z2 : Int32) (h : AH) : Option ((Int32 × Int32 × AH) ⊕ ((Int32 × AH) ⊕ (AH))) :=
  if z1 = z0 then (f_X12_wrongOf_L25_J116 x0 x1 x2 x3 y5 0 z2 h) else (f_X12_wrongOf_L25_J116 x0 x1 x2 x3 y5 1 z2 h)
def f_X12_wrongOf_L25_J97 (x0 : Nat) (x1 : Int32) (x2 : Int32) (x3 : Int32) (y5 : Int32) (y6 : Int32) (z0 : Int32) (z1 : Int32) (h : AH) : Option ((Int32 × Int32 × AH) ⊕ ((Int32 × AH) ⊕ (AH))) :=
  if y6 = 2 then (f_X12_wrongOf_L25_J108 x0 x1 x2 x3 y5 1 z0 z1 h) else (f_X12_wrongOf_L25_J108 x0 x1 x2 x3 y5 0 z0 z1 h)
def f_X12_wrongOf_L25 (x0 : Nat) (x1 : Int32) (x2 : Int32) (x3 : Int32) (s : Int32 × Int32 × AH) : Option ((Int32 × Int32 × AH) ⊕ ((Int32 × AH) ⊕ (AH))) :=
  (hgR s.2.2 x0 13 31).bind fun v10 =>
  (hld s.2.2 0 v10 x3).bind fun v12 =>
  if v12 ≤ s.2.1 then (some (.inr (.inl ((s.1, s.2.2))))) else ((hgR s.2.2 x0 13 3).bind fun v15 =>
  (hld s.2.2 0 v15 (((24 * x1) + x2) + s.2.1)).bind fun v17 =>
  (f_X12_isSung v17 s.2.2).bind fun q19 =>
  if q19.1 = 0 then (some (.inr (.inr (q19.2)))) else ((hgR q19.2 x0 13 32).bind fun v22 =>
  (hld q19.2 0 v22 x3).bind fun v24 =>
  (hgR q19.2 x0 13 31).bind fun v26 =>
  (hld q19.2 0 v26 x3).bind fun v28 =>
  if ((v24 >>> (((v28 - 1) - s.2.1) &&& 31)) &&& 1) = 1 then (f_X12_wrongOf_L25_J97 x0 x1 x2 x3 s.2.1 v17 1 s.1 q19.2) else (f_X12_wrongOf_L25_J97 x0 x1 x2 x3 s.2.1 v17 0 s.1 q19.2)))
def f_X12_wrongOf (a0 : Nat) (a1 : Int32) (a2 : Int32) (a3 : Int32) (h : AH) : Option (Int32 × AH) :=
  (hgR h a0 13 31).bind fun v1 =>
  (hld h 0 v1 a3).bind fun v3 =>
  (hgR h a0 13 1).bind fun v5 =>
  (hld h 0 v5 a1).bind fun v7 =>
  if (a2 + v3) ≤ v7 then ((iter (f_X12_wrongOf_L25 a0 a1 a2 a3) 100000 (0, 0, h)).bind fun e35 =>
  Sum.elim (fun e37 => some (e37.1, e37.2)) (fun e38 => some ((-1), e38)) e35) else (some ((-1), h))
/-! HeaveSongsModel.findLines(I)V -/
def f_X12_findLines_L82_J144 (x0 : Nat) (x1 : Int32) (x3 : Int32) (y5 : Int64) (y7 : Int32) (y8 : Int32) (y9 : Int32) (h : AH) : Option ((Int64 × Int32 × Int32 × AH) ⊕ ((Int64 × Int32 × AH))) :=
  if y9 < 0 then (some (.inl (y5, y7, y8 + 1, h))) else ((hgR h x0 13 34).bind fun v26 =>
  (hgR h x0 13 31).bind fun v28 =>
  (hld h 0 v28 y8).bind fun v30 =>
  (hld h 0 v26 (x3 + v30)).bind fun v32 =>
  if y7 ≤ (y9 + v32) then (some (.inl (y5, y7, y8 + 1, h))) else ((hgR h x0 13 34).bind fun v35 =>
  (hgR h x0 13 31).bind fun v37 =>
  (hld h 0 v37 y8).bind fun v39 =>
  (hld h 0 v35 (x3 + v39)).bind fun v41 =>
  some (.inl (y5, y9 + v41, y8 + 1, h))))
def f_X12_findLines_L82_J142 (x0 : Nat) (x1 : Int32) (x3 : Int32) (y7 : Int32) (y8 : Int32) (y9 : Int32) (z0 : Int64) (h : AH) : Option ((Int64 × Int32 × Int32 × AH) ⊕ ((Int64 × Int32 × AH))) :=
  f_X12_findLines_L82_J144 x0 x1 x3 z0 y7 y8 y9 h
def f_X12_findLines_L82 (x0 : Nat) (x1 : Int32) (x3 : Int32) (s : Int64 × Int32 × Int32 × AH) : Option ((Int64 × Int32 × Int32 × AH) ⊕ ((Int64 × Int32 × AH))) :=
  (hgI s.2.2.2 x0 13 30).bind fun v18 =>
  if v18 ≤ s.2.2.1 then (some (.inr ((s.1, s.2.1, s.2.2.2)))) else ((hcl s.2.2.2 x0 13).bind fun _ =>
  (f_X12_wrongOf x0 x1 x3 s.2.2.1 s.2.2.2).bind fun q21 =>
  if q21.1 = 0 then ((hgR q21.2 x0 13 33).bind fun v43 =>
  (hgR q21.2 x0 13 31).bind fun v45 =>
  (hld q21.2 0 v45 s.2.2.1).bind fun v47 =>
  (hldJ q21.2 v43 (x3 + v47)).bind fun v49 =>
  if (lg_cmp (s.1 + v49) 1000000000000000) ≤ 0 then (f_X12_findLines_L82_J142 x0 x1 x3 s.2.1 s.2.2.1 q21.1 (s.1 + v49) q21.2) else (f_X12_findLines_L82_J142 x0 x1 x3 s.2.1 s.2.2.1 q21.1 1000000000000000 q21.2)) else (f_X12_findLines_L82_J144 x0 x1 x3 s.1 s.2.1 s.2.2.1 q21.1 q21.2))
def f_X12_findLines_L25 (x0 : Nat) (x1 : Int32) (s : Int32 × AH) : Option ((Int32 × AH) ⊕ ((AH))) :=
  if s.1 < 0 then (some (.inr (s.2))) else ((hcl s.2 x0 13).bind fun _ =>
  (f_X12_sungFrom x0 x1 s.1 s.2).bind fun q14 =>
  if q14.1 ≤ s.1 then ((iter (f_X12_findLines_L82 x0 x1 s.1) 100000 (0, 1000000000, 0, q14.2)).bind fun e52 =>
  (hgR e52.2.2 x0 13 33).bind fun v54 =>
  (hstJ e52.2.2 v54 s.1 e52.1).bind fun h56 =>
  (hgR h56 x0 13 34).bind fun v58 =>
  (hst h56 0 v58 s.1 e52.2.1).bind fun h60 =>
  some (.inl (s.1 + (-1), h60))) else ((hgR q14.2 x0 13 33).bind fun v62 =>
  (hgR q14.2 x0 13 33).bind fun v64 =>
  (hldJ q14.2 v64 q14.1).bind fun v66 =>
  (hstJ q14.2 v62 s.1 v66).bind fun h68 =>
  (hgR h68 x0 13 34).bind fun v70 =>
  (hgR h68 x0 13 34).bind fun v72 =>
  (hld h68 0 v72 q14.1).bind fun v74 =>
  (hst h68 0 v70 s.1 v74).bind fun h76 =>
  some (.inl (s.1 + (-1), h76))))
def f_X12_findLines (a0 : Nat) (a1 : Int32) (h : AH) : Option (AH) :=
  (hgR h a0 13 1).bind fun v1 =>
  (hld h 0 v1 a1).bind fun v3 =>
  (hgR h a0 13 33).bind fun v5 =>
  (hstJ h v5 v3 1).bind fun h7 =>
  (hgR h7 a0 13 34).bind fun v9 =>
  (hst h7 0 v9 v3 0).bind fun h11 =>
  (iter (f_X12_findLines_L25 a0 a1) 100000 (v3 - 1, h11)).bind fun e78 =>
  some e78
/-! HeaveSongsModel.restAll(II)V -/
def f_X12_restAll_L2 (x0 : Nat) (x1 : Int32) (x2 : Int32) (s : Int32 × AH) : Option ((Int32 × AH) ⊕ ((AH))) :=
  (hgI s.2 x0 13 7).bind fun v1 =>
  if v1 ≤ s.1 then (some (.inr (s.2))) else ((hgR s.2 x0 13 13).bind fun v4 =>
  (hld s.2 0 v4 ((10 * x1) + s.1)).bind fun v6 =>
  (hgR s.2 x0 13 10).bind fun v8 =>
  (hld s.2 0 v8 s.1).bind fun v10 =>
  (hgR s.2 x0 13 13).bind fun v12 =>
  (hgR s.2 x0 13 8).bind fun v14 =>
  (hld s.2 0 v14 s.1).bind fun v16 =>
  if (v6 + (x2 * v10)) ≤ v16 then ((hst s.2 0 v12 ((10 * x1) + s.1) (v6 + (x2 * v10))).bind fun h19 =>
  some (.inl (s.1 + 1, h19))) else ((hgR s.2 x0 13 8).bind fun v21 =>
  (hld s.2 0 v21 s.1).bind fun v23 =>
  (hst s.2 0 v12 ((10 * x1) + s.1) v23).bind fun h25 =>
  some (.inl (s.1 + 1, h25))))
def f_X12_restAll (a0 : Nat) (a1 : Int32) (a2 : Int32) (h : AH) : Option (AH) :=
  (iter (f_X12_restAll_L2 a0 a1 a2) 100000 (0, h)).bind fun e27 =>
  some e27
/-! HeaveSongsModel.go(II)Z -/
def f_X12_go_J80 (a0 : Nat) (a1 : Int32) (a2 : Int32) (y3 : Int32) (z0 : Int32) (z1 : Int32) (z2 : Int32) (z3 : Nat) (h : AH) : Option (Int32 × AH) :=
  (hst h 0 z3 z2 ((z1 + z0) + y3)).bind fun h29 =>
  if y3 ≤ 0 then (some (0, h29)) else (some (1, h29))
def f_X12_go_J23 (a0 : Nat) (a1 : Int32) (a2 : Int32) (h : AH) : Option (Int32 × AH) :=
  (hgI h a0 13 14).bind fun v5 =>
  (hgR h a0 13 23).bind fun v7 =>
  (hld h 0 v7 a1).bind fun v9 =>
  (hgR h a0 13 24).bind fun v11 =>
  (hld h 0 v11 a1).bind fun v13 =>
  (hgR h a0 13 25).bind fun v15 =>
  (hld h 0 v15 a1).bind fun v17 =>
  (hcl h a0 13).bind fun _ =>
  (f_X12_work a0 (a1 + 1) a2 v5 v9 v13 v17 0 h).bind fun q19 =>
  (hgR q19.2 a0 13 29).bind fun v22 =>
  (hgR q19.2 a0 13 29).bind fun v24 =>
  (hld q19.2 0 v24 a1).bind fun v26 =>
  if a1 ≤ 0 then (f_X12_go_J80 a0 a1 a2 q19.1 0 v26 (a1 + 1) v22 q19.2) else ((hgI q19.2 a0 13 26).bind fun v32 =>
  f_X12_go_J80 a0 a1 a2 q19.1 v32 v26 (a1 + 1) v22 q19.2)
def f_X12_go (a0 : Nat) (a1 : Int32) (a2 : Int32) (h : AH) : Option (Int32 × AH) :=
  (hcl h a0 13).bind fun _ =>
  (f_X12_carry a0 a1 (a1 + 1) h).bind fun q1 =>
  if a1 ≤ 0 then (f_X12_go_J23 a0 a1 a2 q1) else ((hgI q1 a0 13 26).bind fun v34 =>
  (hcl q1 a0 13).bind fun _ =>
  (f_X12_restAll a0 (a1 + 1) v34 q1).bind fun q36 =>
  f_X12_go_J23 a0 a1 a2 q36)
/-! HeaveSongsModel.findPlan()I -/
def f_X12_findPlan_L134 (x0 : Nat) (x1 : Int32) (x2 : Int32) (s : Int32 × AH) : Option ((Int32 × AH) ⊕ ((AH))) :=
  (hgI s.2 x0 13 22).bind fun v35 =>
  if v35 ≤ s.1 then (some (.inr (s.2))) else ((hgR s.2 x0 13 28).bind fun v38 =>
  (hgR s.2 x0 13 27).bind fun v40 =>
  (hld s.2 0 v40 s.1).bind fun v42 =>
  (hst s.2 0 v38 s.1 v42).bind fun h44 =>
  some (.inl (s.1 + 1, h44)))
def f_X12_findPlan_L18_J160 (x0 : Nat) (y1 : Int32) (y2 : Int32) (h : AH) : Option ((Int32 × Int32 × AH) ⊕ ((Int32 × AH))) :=
  (hgR h x0 13 27).bind fun v48 =>
  (hld h 0 v48 y2).bind fun v50 =>
  (hst h 0 v48 y2 (v50 + 1)).bind fun h52 =>
  some (.inl (y1, y2, h52))
def f_X12_findPlan_L18_J122 (x0 : Nat) (y2 : Int32) (h : AH) : Option ((Int32 × Int32 × AH) ⊕ ((Int32 × AH))) :=
  (hgR h x0 13 29).bind fun v29 =>
  (hgI h x0 13 22).bind fun v31 =>
  (hld h 0 v29 v31).bind fun v33 =>
  (iter (f_X12_findPlan_L134 x0 v33 y2) 100000 (0, h)).bind fun e46 =>
  f_X12_findPlan_L18_J160 x0 v33 y2 e46
def f_X12_findPlan_L18 (x0 : Nat) (s : Int32 × Int32 × AH) : Option ((Int32 × Int32 × AH) ⊕ ((Int32 × AH))) :=
  if s.2.1 < 0 then (some (.inr ((s.1, s.2.2)))) else ((hgR s.2.2 x0 13 27).bind fun v10 =>
  (hld s.2.2 0 v10 s.2.1).bind fun v12 =>
  (hgI s.2.2 x0 13 0).bind fun v14 =>
  if v12 = v14 then (if (s.2.1 + (-1)) < 0 then (some (.inl (s.1, s.2.1 + (-1), s.2.2))) else ((hgR s.2.2 x0 13 27).bind fun v72 =>
  (hld s.2.2 0 v72 (s.2.1 + (-1))).bind fun v74 =>
  (hst s.2.2 0 v72 (s.2.1 + (-1)) (v74 + 1)).bind fun h76 =>
  some (.inl (s.1, s.2.1 + (-1), h76)))) else ((hgR s.2.2 x0 13 27).bind fun v17 =>
  (hld s.2.2 0 v17 s.2.1).bind fun v19 =>
  (hcl s.2.2 x0 13).bind fun _ =>
  (f_X12_go x0 s.2.1 v19 s.2.2).bind fun q21 =>
  if q21.1 = 0 then ((hgR q21.2 x0 13 27).bind fun v65 =>
  (hld q21.2 0 v65 s.2.1).bind fun v67 =>
  (hst q21.2 0 v65 s.2.1 (v67 + 1)).bind fun h69 =>
  some (.inl (s.1, s.2.1, h69))) else ((hgI q21.2 x0 13 22).bind fun v25 =>
  if v25 ≤ (s.2.1 + 1) then (if s.1 < 0 then (f_X12_findPlan_L18_J122 x0 s.2.1 q21.2) else ((hgR q21.2 x0 13 29).bind fun v54 =>
  (hgI q21.2 x0 13 22).bind fun v56 =>
  (hld q21.2 0 v54 v56).bind fun v58 =>
  if s.1 ≤ v58 then (f_X12_findPlan_L18_J160 x0 s.1 s.2.1 q21.2) else (f_X12_findPlan_L18_J122 x0 s.2.1 q21.2))) else ((hgR q21.2 x0 13 27).bind fun v61 =>
  (hst q21.2 0 v61 (s.2.1 + 1) 0).bind fun h63 =>
  some (.inl (s.1, s.2.1 + 1, h63))))))
def f_X12_findPlan (a0 : Nat) (h : AH) : Option (Int32 × AH) :=
  (hgR h a0 13 29).bind fun v1 =>
  (hst h 0 v1 0 0).bind fun h3 =>
  (hgR h3 a0 13 27).bind fun v5 =>
  (hst h3 0 v5 0 0).bind fun h7 =>
  (iter (f_X12_findPlan_L18 a0) 100000 ((-1), 0, h7)).bind fun e78 =>
  some (e78.1, e78.2)
/-! HeaveSongsModel.findTree()V -/
def f_X12_findTree_L48_J89 (x0 : Nat) (x1 : Int32) (x2 : Int32) (x6 : Int32) (y3 : Int32) (y4 : Int32) (y5 : Int32) (y7 : Int32) (z0 : Int32) (h : AH) : Option ((Int32 × Int32 × Int32 × Int32 × AH) ⊕ ((Int32 × Int32 × Int32 × AH))) :=
  if y4 ≤ z0 then (some (.inl (y3, y4, y5, y7 + 1, h))) else (some (.inl (x6, z0, y7, y7 + 1, h)))
def f_X12_findTree_L48 (x0 : Nat) (x1 : Int32) (x2 : Int32) (x6 : Int32) (s : Int32 × Int32 × Int32 × Int32 × AH) : Option ((Int32 × Int32 × Int32 × Int32 × AH) ⊕ ((Int32 × Int32 × Int32 × AH))) :=
  (hgI s.2.2.2.2 x0 13 0).bind fun v13 =>
  if v13 ≤ s.2.2.2.1 then (some (.inr ((s.1, s.2.1, s.2.2.1, s.2.2.2.2)))) else (if ((x1 >>> (x6 &&& 31)) &&& 1) = 0 then (if ((x1 >>> (s.2.2.2.1 &&& 31)) &&& 1) = 1 then ((hcl s.2.2.2.2 x0 13).bind fun _ =>
  (f_X12_apartOf x0 x6 s.2.2.2.1 s.2.2.2.2).bind fun q19 =>
  f_X12_findTree_L48_J89 x0 x1 x2 x6 s.1 s.2.1 s.2.2.1 s.2.2.2.1 q19.1 q19.2) else (f_X12_findTree_L48_J89 x0 x1 x2 x6 s.1 s.2.1 s.2.2.1 s.2.2.2.1 1000000000 s.2.2.2.2)) else (some (.inr ((s.1, s.2.1, s.2.2.1, s.2.2.2.2)))))
def f_X12_findTree_L36 (x0 : Nat) (x1 : Int32) (x2 : Int32) (s : Int32 × Int32 × Int32 × Int32 × AH) : Option ((Int32 × Int32 × Int32 × Int32 × AH) ⊕ ((Int32 × Int32 × Int32 × AH))) :=
  (hgI s.2.2.2.2 x0 13 0).bind fun v10 =>
  if v10 ≤ s.2.2.2.1 then (some (.inr ((s.1, s.2.1, s.2.2.1, s.2.2.2.2)))) else ((iter (f_X12_findTree_L48 x0 x1 x2 s.2.2.2.1) 100000 (s.1, s.2.1, s.2.2.1, 0, s.2.2.2.2)).bind fun e22 =>
  some (.inl (e22.1, e22.2.1, e22.2.2.1, s.2.2.2.1 + 1, e22.2.2.2)))
def f_X12_findTree_L16 (x0 : Nat) (s : Int32 × Int32 × AH) : Option ((Int32 × Int32 × AH) ⊕ ((AH))) :=
  (hgI s.2.2 x0 13 0).bind fun v7 =>
  if v7 ≤ s.2.1 then (some (.inr (s.2.2))) else ((iter (f_X12_findTree_L36 x0 s.1 s.2.1) 100000 ((-1), 1000000000, (-1), 0, s.2.2)).bind fun e24 =>
  (hgR e24.2.2.2 x0 13 44).bind fun v26 =>
  (hst e24.2.2.2 0 v26 e24.1 e24.2.2.1).bind fun h28 =>
  (hgI h28 x0 13 45).bind fun v30 =>
  (hpF h28 x0 13 45 (.int (v30 + e24.2.1))).bind fun h32 =>
  some (.inl (s.1 ||| (1 <<< (e24.1 &&& 31)), s.2.1 + 1, h32)))
def f_X12_findTree (a0 : Nat) (h : AH) : Option (AH) :=
  (hpF h a0 13 45 (.int 0)).bind fun h1 =>
  (hgR h1 a0 13 44).bind fun v3 =>
  (hst h1 0 v3 0 (-1)).bind fun h5 =>
  (iter (f_X12_findTree_L16 a0) 100000 (1, 1, h5)).bind fun e34 =>
  some e34
/-! HeaveSongsModel.floor(I)I -/
def f_X12_floor (a0 : Nat) (a1 : Int32) (h : AH) : Option (Int32 × AH) :=
  (f_X12_in a1.toInt64 0 100 h).bind fun q1 =>
  if q1.1 = 0 then (some ((-2), q1.2)) else ((hgI q1.2 a0 13 15).bind fun v4 =>
  (hpF q1.2 a0 13 15 (.int a1)).bind fun h6 =>
  some (v4, h6))
/-! HeaveSongsModel.force(I)I -/
def f_X12_force (a0 : Nat) (a1 : Int32) (h : AH) : Option (Int32 × AH) :=
  if 0 ≤ a1 then ((hgI h a0 13 16).bind fun v2 =>
  if v2 ≤ a1 then (some ((-1), h)) else ((hgR h a0 13 18).bind fun v5 =>
  (hld h 0 v5 a1).bind fun v7 =>
  some (v7, h))) else (some ((-2), h))
/-! HeaveSongsModel.hand(IIII)I -/
def f_X12_hand (a0 : Nat) (a1 : Int32) (a2 : Int32) (a3 : Int32) (a4 : Int32) (h : AH) : Option (Int32 × AH) :=
  (f_X12_in a1.toInt64 1 100 h).bind fun q1 =>
  if q1.1 = 0 then (some ((-2), q1.2)) else ((f_X12_in a2.toInt64 0 30 q1.2).bind fun q4 =>
  if q4.1 = 0 then (some ((-2), q4.2)) else ((f_X12_in a3.toInt64 0 30 q4.2).bind fun q7 =>
  if q7.1 = 0 then (some ((-2), q7.2)) else ((f_X12_in a4.toInt64 0 30 q7.2).bind fun q10 =>
  if q10.1 = 0 then (some ((-2), q10.2)) else ((hgI q10.2 a0 13 7).bind fun v13 =>
  if v13 = 10 then (some ((-4), q10.2)) else ((hgR q10.2 a0 13 8).bind fun v16 =>
  (hgI q10.2 a0 13 7).bind fun v18 =>
  (hst q10.2 0 v16 v18 a1).bind fun h20 =>
  (hgR h20 a0 13 9).bind fun v22 =>
  (hgI h20 a0 13 7).bind fun v24 =>
  (hst h20 0 v22 v24 a2).bind fun h26 =>
  (hgR h26 a0 13 10).bind fun v28 =>
  (hgI h26 a0 13 7).bind fun v30 =>
  (hst h26 0 v28 v30 a3).bind fun h32 =>
  (hgR h32 a0 13 11).bind fun v34 =>
  (hgI h32 a0 13 7).bind fun v36 =>
  (hst h32 0 v34 v36 a4).bind fun h38 =>
  (hgR h38 a0 13 12).bind fun v40 =>
  (hgI h38 a0 13 7).bind fun v42 =>
  (hst h38 0 v40 v42 0).bind fun h44 =>
  (hgR h44 a0 13 13).bind fun v46 =>
  (hgI h44 a0 13 7).bind fun v48 =>
  (hst h44 0 v46 v48 a1).bind fun h50 =>
  (hgI h50 a0 13 14).bind fun v52 =>
  (hgI h50 a0 13 7).bind fun v54 =>
  (hpF h50 a0 13 14 (.int (v52 ||| (1 <<< (v54 &&& 31))))).bind fun h56 =>
  (hgI h56 a0 13 7).bind fun v58 =>
  (hpF h56 a0 13 7 (.int (v58 + 1))).bind fun h60 =>
  (hgI h60 a0 13 7).bind fun v62 =>
  some (v62 - 1, h60))))))
/-! HeaveSongsModel.hangs(I)I -/
def f_X12_hangs (a0 : Nat) (a1 : Int32) (h : AH) : Option (Int32 × AH) :=
  (hcl h a0 13).bind fun _ =>
  (f_X12_noSong a0 a1 h).bind fun q1 =>
  if q1.1 = 0 then ((hcl q1.2 a0 13).bind fun _ =>
  (f_X12_findTree a0 q1.2).bind fun q5 =>
  (hgR q5 a0 13 44).bind fun v8 =>
  (hld q5 0 v8 a1).bind fun v10 =>
  some (v10, q5)) else (some ((-2), q1.2))
/-! HeaveSongsModel.isTask(III)Z -/
def f_X12_isTask (a0 : Int32) (a1 : Int32) (a2 : Int32) (h : AH) : Option (Int32 × AH) :=
  (f_X12_in a0.toInt64 1 3000 h).bind fun q1 =>
  if q1.1 = 0 then (some (0, q1.2)) else ((f_X12_in a1.toInt64 0 1000 q1.2).bind fun q4 =>
  if q4.1 = 0 then (some (0, q4.2)) else ((f_X12_in a2.toInt64 0 50 q4.2).bind fun q7 =>
  if q7.1 = 0 then (some (0, q7.2)) else (some (1, q7.2))))
/-! HeaveSongsModel.haul(IIII)I -/
def f_X12_haul (a0 : Nat) (a1 : Int32) (a2 : Int32) (a3 : Int32) (a4 : Int32) (h : AH) : Option (Int32 × AH) :=
  (hcl h a0 13).bind fun _ =>
  (f_X12_noSong a0 a1 h).bind fun q1 =>
  if q1.1 = 0 then ((f_X12_isTask a2 a3 a4 q1.2).bind fun q5 =>
  if q5.1 = 0 then (some ((-2), q5.2)) else ((hgI q5.2 a0 13 14).bind fun v8 =>
  (hcl q5.2 a0 13).bind fun _ =>
  (f_X12_work a0 0 a1 v8 a2 a3 a4 1 q5.2).bind fun q10 =>
  if 0 ≤ q10.1 then (some (q10.1, q10.2)) else (some ((-10) + q10.1, q10.2)))) else (some ((-2), q1.2))
/-! HeaveSongsModel.<init>()V -/
def f_X12_init (a0 : Nat) (h : AH) : Option (AH) :=
  (hpF (hnew h (.inl (0, 6, .inl fun _ => 0))) a0 13 1 (.ref h.1)).bind fun h1 =>
  (hpF (hnew h1 (.inl (0, 6, .inl fun _ => 0))) a0 13 2 (.ref h1.1)).bind fun h3 =>
  (hpF (hnew h3 (.inl (0, 144, .inl fun _ => 0))) a0 13 3 (.ref h3.1)).bind fun h5 =>
  (hpF (hnew h5 (.inl (0, 72, .inl fun _ => 0))) a0 13 4 (.ref h5.1)).bind fun h7 =>
  (hpF (hnew h7 (.inl (0, 24, .inl fun _ => 0))) a0 13 6 (.ref h7.1)).bind fun h9 =>
  (hpF (hnew h9 (.inl (0, 10, .inl fun _ => 0))) a0 13 8 (.ref h9.1)).bind fun h11 =>
  (hpF (hnew h11 (.inl (0, 10, .inl fun _ => 0))) a0 13 9 (.ref h11.1)).bind fun h13 =>
  (hpF (hnew h13 (.inl (0, 10, .inl fun _ => 0))) a0 13 10 (.ref h13.1)).bind fun h15 =>
  (hpF (hnew h15 (.inl (0, 10, .inl fun _ => 0))) a0 13 11 (.ref h15.1)).bind fun h17 =>
  (hpF (hnew h17 (.inl (0, 10, .inl fun _ => 0))) a0 13 12 (.ref h17.1)).bind fun h19 =>
  (hpF (hnew h19 (.inl (0, 60, .inl fun _ => 0))) a0 13 13 (.ref h19.1)).bind fun h21 =>
  (hpF (hnew h21 (.inl (0, 300, .inl fun _ => 0))) a0 13 17 (.ref h21.1)).bind fun h23 =>
  (hpF (hnew h23 (.inl (0, 300, .inl fun _ => 0))) a0 13 18 (.ref h23.1)).bind fun h25 =>
  (hpF (hnew h25 (.inl (0, 10, .inl fun _ => 0))) a0 13 19 (.ref h25.1)).bind fun h27 =>
  (hpF (hnew h27 (.inl (0, 4, .inl fun _ => 0))) a0 13 23 (.ref h27.1)).bind fun h29 =>
  (hpF (hnew h29 (.inl (0, 4, .inl fun _ => 0))) a0 13 24 (.ref h29.1)).bind fun h31 =>
  (hpF (hnew h31 (.inl (0, 4, .inl fun _ => 0))) a0 13 25 (.ref h31.1)).bind fun h33 =>
  (hpF (hnew h33 (.inl (0, 4, .inl fun _ => 0))) a0 13 27 (.ref h33.1)).bind fun h35 =>
  (hpF (hnew h35 (.inl (0, 4, .inl fun _ => 0))) a0 13 28 (.ref h35.1)).bind fun h37 =>
  (hpF (hnew h37 (.inl (0, 5, .inl fun _ => 0))) a0 13 29 (.ref h37.1)).bind fun h39 =>
  (hpF (hnew h39 (.inl (0, 12, .inl fun _ => 0))) a0 13 31 (.ref h39.1)).bind fun h41 =>
  (hpF (hnew h41 (.inl (0, 12, .inl fun _ => 0))) a0 13 32 (.ref h41.1)).bind fun h43 =>
  (hpF (hnew h43 (.inl (1, 25, .inr (.inl fun _ => 0)))) a0 13 33 (.ref h43.1)).bind fun h45 =>
  (hpF (hnew h45 (.inl (0, 25, .inl fun _ => 0))) a0 13 34 (.ref h45.1)).bind fun h47 =>
  (hpF (hnew h47 (.inl (0, 60, .inl fun _ => 0))) a0 13 36 (.ref h47.1)).bind fun h49 =>
  (hpF (hnew h49 (.inl (0, 60, .inl fun _ => 0))) a0 13 37 (.ref h49.1)).bind fun h51 =>
  (hpF (hnew h51 (.inl (0, 300, .inl fun _ => 0))) a0 13 38 (.ref h51.1)).bind fun h53 =>
  (hpF (hnew h53 (.inl (0, 650, .inl fun _ => 0))) a0 13 43 (.ref h53.1)).bind fun h55 =>
  (hpF (hnew h55 (.inl (0, 6, .inl fun _ => 0))) a0 13 44 (.ref h55.1)).bind fun h57 =>
  some h57
/-! HeaveSongsModel.isOf(I)Z -/
def f_X12_isOf (a0 : Nat) (a1 : Int32) (h : AH) : Option (Int32 × AH) :=
  (hgI h a0 13 14).bind fun v1 =>
  if ((v1 >>> (a1 &&& 31)) &&& 1) = 1 then (some (1, h)) else (some (0, h))
/-! HeaveSongsModel.noHand(I)Z -/
def f_X12_noHand (a0 : Nat) (a1 : Int32) (h : AH) : Option (Int32 × AH) :=
  (hgI h a0 13 7).bind fun v1 =>
  (f_X12_in a1.toInt64 0 ((v1 - 1).toInt64) h).bind fun q3 =>
  if q3.1 = 0 then (some (1, q3.2)) else (some (0, q3.2))
/-! HeaveSongsModel.late(II)I -/
def f_X12_late (a0 : Nat) (a1 : Int32) (a2 : Int32) (h : AH) : Option (Int32 × AH) :=
  (hcl h a0 13).bind fun _ =>
  (f_X12_noHand a0 a1 h).bind fun q1 =>
  if q1.1 = 0 then ((f_X12_in a2.toInt64 0 3 q1.2).bind fun q5 =>
  if q5.1 = 0 then (some ((-2), q5.2)) else ((hgR q5.2 a0 13 12).bind fun v8 =>
  (hld q5.2 0 v8 a1).bind fun v10 =>
  (hgR q5.2 a0 13 12).bind fun v12 =>
  (hst q5.2 0 v12 a1 a2).bind fun h14 =>
  some (v10, h14))) else (some ((-2), q1.2))
/-! HeaveSongsModel.lineAt(IJI)I -/
def f_X12_lineAt_L71_J137 (x0 : Nat) (x1 : Int32) (x4 : Int32) (x7 : Int32) (x8 : Int32) (y9 : Int32) (y10 : Int32) (z0 : Int64) (z1 : Int64) (h : AH) : Option ((Int64 × Int32 × Int32 × AH) ⊕ ((Int64 × Int32 × AH))) :=
  if y10 = 0 then (some (.inl (z1 - z0, y9 + 1, y10, h))) else (some (.inl (z1 - z0, y9 + 0, y10, h)))
def f_X12_lineAt_L71_J122 (x0 : Nat) (x1 : Int32) (x4 : Int32) (x7 : Int32) (x8 : Int32) (y5 : Int64) (y9 : Int32) (y11 : Int64) (z0 : Int32) (h : AH) : Option ((Int64 × Int32 × Int32 × AH) ⊕ ((Int64 × Int32 × AH))) :=
  if z0 = 0 then (f_X12_lineAt_L71_J137 x0 x1 x4 x7 x8 y9 z0 y11 y5 h) else (f_X12_lineAt_L71_J137 x0 x1 x4 x7 x8 y9 z0 0 y5 h)
def f_X12_lineAt_L71_J107 (x0 : Nat) (x1 : Int32) (x4 : Int32) (x7 : Int32) (x8 : Int32) (y5 : Int64) (y9 : Int32) (z0 : Int64) (h : AH) : Option ((Int64 × Int32 × Int32 × AH) ⊕ ((Int64 × Int32 × AH))) :=
  if 0 ≤ (lg_cmp y5 z0) then (f_X12_lineAt_L71_J122 x0 x1 x4 x7 x8 y5 y9 z0 0 h) else (f_X12_lineAt_L71_J122 x0 x1 x4 x7 x8 y5 y9 z0 1 h)
def f_X12_lineAt_L71 (x0 : Nat) (x1 : Int32) (x4 : Int32) (x7 : Int32) (x8 : Int32) (s : Int64 × Int32 × Int32 × AH) : Option ((Int64 × Int32 × Int32 × AH) ⊕ ((Int64 × Int32 × AH))) :=
  if s.2.2.1 = 0 then ((hcl s.2.2.2 x0 13).bind fun _ =>
  (f_X12_wrongOf x0 x1 x7 s.2.1 s.2.2.2).bind fun q24 =>
  if q24.1 = 0 then ((hgR q24.2 x0 13 33).bind fun v31 =>
  (hgR q24.2 x0 13 31).bind fun v33 =>
  (hld q24.2 0 v33 s.2.1).bind fun v35 =>
  (hldJ q24.2 v31 (x7 + v35)).bind fun v37 =>
  f_X12_lineAt_L71_J107 x0 x1 x4 x7 x8 s.1 s.2.1 v37 q24.2) else (f_X12_lineAt_L71_J107 x0 x1 x4 x7 x8 s.1 s.2.1 0 q24.2)) else (some (.inr ((s.1, s.2.1, s.2.2.2))))
def f_X12_lineAt_L54 (x0 : Nat) (x1 : Int32) (x4 : Int32) (s : Int64 × Int32 × Int32 × AH) : Option ((Int64 × Int32 × Int32 × AH) ⊕ ((AH) ⊕ (Int32 × AH))) :=
  (hgR s.2.2.2 x0 13 1).bind fun v18 =>
  (hld s.2.2.2 0 v18 x1).bind fun v20 =>
  if v20 ≤ s.2.1 then (some (.inr (.inl (s.2.2.2)))) else ((iter (f_X12_lineAt_L71 x0 x1 x4 s.2.1 s.2.2.1) 100000 (s.1, 0, 0, s.2.2.2)).bind fun e39 =>
  if s.2.2.1 = x4 then (some (.inr (.inr ((e39.2.1, e39.2.2))))) else ((hgR e39.2.2 x0 13 31).bind fun v42 =>
  (hld e39.2.2 0 v42 e39.2.1).bind fun v44 =>
  (hcl e39.2.2 x0 13).bind fun _ =>
  (f_X12_sungFrom x0 x1 (s.2.1 + v44) e39.2.2).bind fun q46 =>
  some (.inl (e39.1, q46.1, s.2.2.1 + 1, q46.2))))
def f_X12_lineAt (a0 : Nat) (a1 : Int32) (a2 : Int64) (a4 : Int32) (h : AH) : Option (Int32 × AH) :=
  (hcl h a0 13).bind fun _ =>
  (f_X12_noSong a0 a1 h).bind fun q1 =>
  if q1.1 = 0 then (if (lg_cmp a2 0) < 0 then (some ((-2), q1.2)) else (if 0 ≤ a4 then ((hcl q1.2 a0 13).bind fun _ =>
  (f_X12_findLines a0 a1 q1.2).bind fun q7 =>
  (hgR q7 a0 13 33).bind fun v10 =>
  (hldJ q7 v10 0).bind fun v12 =>
  if (lg_cmp a2 v12) < 0 then ((hcl q7 a0 13).bind fun _ =>
  (f_X12_sungFrom a0 a1 0 q7).bind fun q15 =>
  (iter (f_X12_lineAt_L54 a0 a1 a4) 100000 (a2, q15.1, 0, q15.2)).bind fun e49 =>
  Sum.elim (fun e51 => some ((-1), e51)) (fun e52 => some (e52.1, e52.2)) e49) else (some ((-1), q7))) else (some ((-2), q1.2)))) else (some ((-2), q1.2))
/-! HeaveSongsModel.lines(I)J -/
def f_X12_lines (a0 : Nat) (a1 : Int32) (h : AH) : Option (Int64 × AH) :=
  (hcl h a0 13).bind fun _ =>
  (f_X12_noSong a0 a1 h).bind fun q1 =>
  if q1.1 = 0 then ((hcl q1.2 a0 13).bind fun _ =>
  (f_X12_findLines a0 a1 q1.2).bind fun q5 =>
  (hgR q5 a0 13 33).bind fun v8 =>
  (hldJ q5 v8 0).bind fun v10 =>
  some (v10, q5)) else (some ((-2), q1.2))
/-! HeaveSongsModel.mark(II)I -/
def f_X12_mark (a0 : Nat) (a1 : Int32) (a2 : Int32) (h : AH) : Option (Int32 × AH) :=
  (f_X12_in a1.toInt64 0 299 h).bind fun q1 =>
  if q1.1 = 0 then (some ((-2), q1.2)) else ((f_X12_in a2.toInt64 0 5000 q1.2).bind fun q4 =>
  if q4.1 = 0 then (some ((-2), q4.2)) else ((hgI q4.2 a0 13 35).bind fun v7 =>
  if v7 = 60 then (some ((-4), q4.2)) else ((hgR q4.2 a0 13 36).bind fun v10 =>
  (hgI q4.2 a0 13 35).bind fun v12 =>
  (hst q4.2 0 v10 v12 a1).bind fun h14 =>
  (hgR h14 a0 13 37).bind fun v16 =>
  (hgI h14 a0 13 35).bind fun v18 =>
  (hst h14 0 v16 v18 a2).bind fun h20 =>
  (hgI h20 a0 13 35).bind fun v22 =>
  (hpF h20 a0 13 35 (.int (v22 + 1))).bind fun h24 =>
  (hgI h24 a0 13 35).bind fun v26 =>
  some (v26, h24))))
/-! HeaveSongsModel.near(I)I -/
def f_X12_near (a0 : Nat) (a1 : Int32) (h : AH) : Option (Int32 × AH) :=
  (hcl h a0 13).bind fun _ =>
  (f_X12_noSong a0 a1 h).bind fun q1 =>
  if q1.1 = 0 then ((hcl q1.2 a0 13).bind fun _ =>
  (f_X12_findLines a0 a1 q1.2).bind fun q5 =>
  (hgR q5 a0 13 34).bind fun v8 =>
  (hld q5 0 v8 0).bind fun v10 =>
  if v10 < 1000000000 then ((hgR q5 a0 13 34).bind fun v13 =>
  (hld q5 0 v13 0).bind fun v15 =>
  some (v15, q5)) else (some ((-1), q5))) else (some ((-2), q1.2))
/-! HeaveSongsModel.nearAt(II)I -/
def f_X12_nearAt_L56 (x0 : Nat) (x1 : Int32) (x2 : Int32) (x3 : Int32) (x4 : Int32) (s : Int32 × AH) : Option ((Int32 × AH) ⊕ ((Int32 × AH))) :=
  (hcl s.2 x0 13).bind fun _ =>
  (f_X12_wrongOf x0 x1 x3 s.1 s.2).bind fun q22 =>
  if q22.1 < 0 then (some (.inl (s.1 + 1, q22.2))) else ((hcl q22.2 x0 13).bind fun _ =>
  (f_X12_wrongOf x0 x1 x3 s.1 q22.2).bind fun q26 =>
  (hgR q26.2 x0 13 34).bind fun v29 =>
  (hgR q26.2 x0 13 31).bind fun v31 =>
  (hld q26.2 0 v31 s.1).bind fun v33 =>
  (hld q26.2 0 v29 (x3 + v33)).bind fun v35 =>
  (hgR q26.2 x0 13 34).bind fun v37 =>
  (hld q26.2 0 v37 x3).bind fun v39 =>
  if (q26.1 + v35) = v39 then (some (.inr ((s.1, q26.2)))) else (some (.inl (s.1 + 1, q26.2))))
def f_X12_nearAt_L43 (x0 : Nat) (x1 : Int32) (x2 : Int32) (s : Int32 × Int32 × AH) : Option ((Int32 × Int32 × AH) ⊕ ((AH) ⊕ (Int32 × AH))) :=
  (hgR s.2.2 x0 13 1).bind fun v17 =>
  (hld s.2.2 0 v17 x1).bind fun v19 =>
  if v19 ≤ s.1 then (some (.inr (.inl (s.2.2)))) else ((iter (f_X12_nearAt_L56 x0 x1 x2 s.1 s.2.1) 100000 (0, s.2.2)).bind fun e42 =>
  if s.2.1 = x2 then (some (.inr (.inr ((e42.1, e42.2))))) else ((hgR e42.2 x0 13 31).bind fun v45 =>
  (hld e42.2 0 v45 e42.1).bind fun v47 =>
  (hcl e42.2 x0 13).bind fun _ =>
  (f_X12_sungFrom x0 x1 (s.1 + v47) e42.2).bind fun q49 =>
  some (.inl (q49.1, s.2.1 + 1, q49.2))))
def f_X12_nearAt (a0 : Nat) (a1 : Int32) (a2 : Int32) (h : AH) : Option (Int32 × AH) :=
  (hcl h a0 13).bind fun _ =>
  (f_X12_noSong a0 a1 h).bind fun q1 =>
  if q1.1 = 0 then (if 0 ≤ a2 then ((hcl q1.2 a0 13).bind fun _ =>
  (f_X12_findLines a0 a1 q1.2).bind fun q6 =>
  (hgR q6 a0 13 34).bind fun v9 =>
  (hld q6 0 v9 0).bind fun v11 =>
  if v11 < 1000000000 then ((hcl q6 a0 13).bind fun _ =>
  (f_X12_sungFrom a0 a1 0 q6).bind fun q14 =>
  (iter (f_X12_nearAt_L43 a0 a1 a2) 100000 (q14.1, 0, q14.2)).bind fun e52 =>
  Sum.elim (fun e54 => some ((-1), e54)) (fun e55 => some (e55.1, e55.2)) e52) else (some ((-1), q6))) else (some ((-2), q1.2))) else (some ((-2), q1.2))
/-! HeaveSongsModel.now(I)I -/
def f_X12_now (a0 : Nat) (a1 : Int32) (h : AH) : Option (Int32 × AH) :=
  (hcl h a0 13).bind fun _ =>
  (f_X12_noHand a0 a1 h).bind fun q1 =>
  if q1.1 = 0 then ((hgR q1.2 a0 13 13).bind fun v5 =>
  (hld q1.2 0 v5 a1).bind fun v7 =>
  some (v7, q1.2)) else (some ((-2), q1.2))
/-! HeaveSongsModel.pause(I)I -/
def f_X12_pause_L25_J54 (x0 : Nat) (y3 : Int32) (z0 : Int32) (z1 : Int32) (h : AH) : Option ((Int32 × Int32 × AH) ⊕ ((Int32 × AH))) :=
  (f_X12_bit z0 h).bind fun q19 =>
  some (.inl (z1 + q19.1, y3 + 1, q19.2))
def f_X12_pause_L25 (x0 : Nat) (s : Int32 × Int32 × AH) : Option ((Int32 × Int32 × AH) ⊕ ((Int32 × AH))) :=
  (hgI s.2.2 x0 13 7).bind fun v7 =>
  if v7 ≤ s.2.1 then (some (.inr ((s.1, s.2.2)))) else ((hgR s.2.2 x0 13 13).bind fun v10 =>
  (hld s.2.2 0 v10 s.2.1).bind fun v12 =>
  (hgR s.2.2 x0 13 8).bind fun v14 =>
  (hld s.2.2 0 v14 s.2.1).bind fun v16 =>
  if v12 = v16 then (f_X12_pause_L25_J54 x0 s.2.1 1 s.1 s.2.2) else (f_X12_pause_L25_J54 x0 s.2.1 0 s.1 s.2.2))
def f_X12_pause (a0 : Nat) (a1 : Int32) (h : AH) : Option (Int32 × AH) :=
  (f_X12_in a1.toInt64 0 100 h).bind fun q1 =>
  if q1.1 = 0 then (some ((-2), q1.2)) else ((hcl q1.2 a0 13).bind fun _ =>
  (f_X12_restAll a0 0 a1 q1.2).bind fun q4 =>
  (iter (f_X12_pause_L25 a0) 100000 (0, 0, q4)).bind fun e21 =>
  some (e21.1, e21.2))
/-! HeaveSongsModel.plan()I -/
def f_X12_plan (a0 : Nat) (h : AH) : Option (Int32 × AH) :=
  (hgI h a0 13 22).bind fun v1 =>
  if v1 = 0 then (some ((-3), h)) else ((hgI h a0 13 0).bind fun v4 =>
  if v4 = 0 then (some ((-3), h)) else ((hcl h a0 13).bind fun _ =>
  (f_X12_findPlan a0 h).bind fun q7 =>
  some (q7.1, q7.2)))
/-! HeaveSongsModel.planAt(I)I -/
def f_X12_planAt (a0 : Nat) (a1 : Int32) (h : AH) : Option (Int32 × AH) :=
  (hgI h a0 13 22).bind fun v1 =>
  (f_X12_in a1.toInt64 0 ((v1 - 1).toInt64) h).bind fun q3 =>
  if q3.1 = 0 then (some ((-2), q3.2)) else ((hgI q3.2 a0 13 0).bind fun v6 =>
  if v6 = 0 then (some ((-3), q3.2)) else ((hcl q3.2 a0 13).bind fun _ =>
  (f_X12_findPlan a0 q3.2).bind fun q9 =>
  if q9.1 < 0 then (some ((-1), q9.2)) else ((hgR q9.2 a0 13 28).bind fun v13 =>
  (hld q9.2 0 v13 a1).bind fun v15 =>
  some (v15, q9.2))))
/-! HeaveSongsModel.refrain(I)I -/
def f_X12_refrain_L25 (x0 : Nat) (x1 : Int32) (s : Int32 × AH) : Option ((Int32 × AH) ⊕ ((AH))) :=
  (hgI s.2 x0 13 5).bind fun v8 =>
  if v8 ≤ s.1 then (some (.inr (s.2))) else ((hgR s.2 x0 13 4).bind fun v11 =>
  (hgR s.2 x0 13 6).bind fun v13 =>
  (hld s.2 0 v13 s.1).bind fun v15 =>
  (hst s.2 0 v11 ((12 * x1) + s.1) v15).bind fun h17 =>
  some (.inl (s.1 + 1, h17)))
def f_X12_refrain (a0 : Nat) (a1 : Int32) (h : AH) : Option (Int32 × AH) :=
  (hcl h a0 13).bind fun _ =>
  (f_X12_noSong a0 a1 h).bind fun q1 =>
  if q1.1 = 0 then ((hgI q1.2 a0 13 5).bind fun v5 =>
  if v5 ≤ 12 then ((iter (f_X12_refrain_L25 a0 a1) 100000 (0, q1.2)).bind fun e19 =>
  (hgR e19 a0 13 2).bind fun v21 =>
  (hgI e19 a0 13 5).bind fun v23 =>
  (hst e19 0 v21 a1 v23).bind fun h25 =>
  (hpF h25 a0 13 5 (.int 0)).bind fun h27 =>
  (hgR h27 a0 13 2).bind fun v29 =>
  (hld h27 0 v29 a1).bind fun v31 =>
  some (v31, h27)) else (some ((-3), q1.2))) else (some ((-2), q1.2))
/-! HeaveSongsModel.rest()I -/
def f_X12_rest (a0 : Nat) (h : AH) : Option (Int32 × AH) :=
  (hgI h a0 13 5).bind fun v1 =>
  (hpF h a0 13 5 (.int 0)).bind fun h3 =>
  some (v1, h3)
/-! HeaveSongsModel.song()I -/
def f_X12_song_L24 (x0 : Nat) (s : Int32 × AH) : Option ((Int32 × AH) ⊕ ((AH))) :=
  (hgI s.2 x0 13 5).bind fun v7 =>
  if v7 ≤ s.1 then (some (.inr (s.2))) else ((hgR s.2 x0 13 3).bind fun v10 =>
  (hgI s.2 x0 13 0).bind fun v12 =>
  (hgR s.2 x0 13 6).bind fun v14 =>
  (hld s.2 0 v14 s.1).bind fun v16 =>
  (hst s.2 0 v10 ((24 * v12) + s.1) v16).bind fun h18 =>
  some (.inl (s.1 + 1, h18)))
def f_X12_song (a0 : Nat) (h : AH) : Option (Int32 × AH) :=
  (hgI h a0 13 5).bind fun v1 =>
  if v1 = 0 then (some ((-3), h)) else ((hgI h a0 13 0).bind fun v4 =>
  if v4 = 6 then (some ((-4), h)) else ((iter (f_X12_song_L24 a0) 100000 (0, h)).bind fun e20 =>
  (hgR e20 a0 13 1).bind fun v22 =>
  (hgI e20 a0 13 0).bind fun v24 =>
  (hgI e20 a0 13 5).bind fun v26 =>
  (hst e20 0 v22 v24 v26).bind fun h28 =>
  (hgR h28 a0 13 2).bind fun v30 =>
  (hgI h28 a0 13 0).bind fun v32 =>
  (hst h28 0 v30 v32 0).bind fun h34 =>
  (hpF h34 a0 13 5 (.int 0)).bind fun h36 =>
  (hgI h36 a0 13 0).bind fun v38 =>
  (hpF h36 a0 13 0 (.int (v38 + 1))).bind fun h40 =>
  (hgI h40 a0 13 0).bind fun v42 =>
  some (v42 - 1, h40)))
/-! HeaveSongsModel.sumOf(IIIIIII)I -/
def f_X12_sumOf_L3 (x0 : Nat) (x1 : Int32) (x2 : Int32) (x3 : Int32) (x4 : Int32) (x5 : Int32) (x6 : Int32) (x7 : Int32) (s : Int32 × AH) : Option ((Int32 × AH) ⊕ ((AH))) :=
  (hgI s.2 x0 13 7).bind fun v1 =>
  if v1 ≤ s.1 then (some (.inr (s.2))) else ((hgR s.2 x0 13 13).bind fun v4 =>
  (hgR s.2 x0 13 8).bind fun v6 =>
  (hld s.2 0 v6 s.1).bind fun v8 =>
  (hst s.2 0 v4 (10 + s.1) v8).bind fun h10 =>
  (hgR h10 x0 13 19).bind fun v12 =>
  if s.1 = x4 then ((hst h10 0 v12 s.1 x5).bind fun h20 =>
  some (.inl (s.1 + 1, h20))) else (if s.1 = x6 then ((hst h10 0 v12 s.1 x7).bind fun h18 =>
  some (.inl (s.1 + 1, h18))) else ((hst h10 0 v12 s.1 0).bind fun h16 =>
  some (.inl (s.1 + 1, h16)))))
def f_X12_sumOf_L75 (x0 : Nat) (x1 : Int32) (x2 : Int32) (x3 : Int32) (s : Int32 × AH) : Option ((Int32 × AH) ⊕ ((AH))) :=
  if 300 ≤ s.1 then (some (.inr (s.2))) else ((hgI s.2 x0 13 14).bind fun v27 =>
  (hcl s.2 x0 13).bind fun _ =>
  (f_X12_step x0 1 x1 v27 x2 x3 s.1 s.2).bind fun q29 =>
  (hgR q29 x0 13 38).bind fun v32 =>
  (hgI q29 x0 13 20).bind fun v34 =>
  (hst q29 0 v32 s.1 v34).bind fun h36 =>
  some (.inl (s.1 + 1, h36)))
def f_X12_sumOf_L120 (x0 : Nat) (s : Int32 × Int32 × AH) : Option ((Int32 × Int32 × AH) ⊕ ((Int32 × AH))) :=
  (hgI s.2.2 x0 13 35).bind fun v40 =>
  if v40 ≤ s.2.1 then (some (.inr ((s.1, s.2.2)))) else ((hgR s.2.2 x0 13 38).bind fun v43 =>
  (hgR s.2.2 x0 13 36).bind fun v45 =>
  (hld s.2.2 0 v45 s.2.1).bind fun v47 =>
  (hld s.2.2 0 v43 v47).bind fun v49 =>
  (hgR s.2.2 x0 13 37).bind fun v51 =>
  (hld s.2.2 0 v51 s.2.1).bind fun v53 =>
  if 0 ≤ (v49 - v53) then (some (.inl (s.1 + (v49 - v53), s.2.1 + 1, s.2.2))) else (some (.inl (s.1 + (0 - (v49 - v53)), s.2.1 + 1, s.2.2))))
def f_X12_sumOf (a0 : Nat) (a1 : Int32) (a2 : Int32) (a3 : Int32) (a4 : Int32) (a5 : Int32) (a6 : Int32) (a7 : Int32) (h : AH) : Option (Int32 × AH) :=
  (iter (f_X12_sumOf_L3 a0 a1 a2 a3 a4 a5 a6 a7) 100000 (0, h)).bind fun e22 =>
  (hpF e22 a0 13 20 (.int 0)).bind fun h24 =>
  (iter (f_X12_sumOf_L75 a0 a1 a2 a3) 100000 (0, h24)).bind fun e38 =>
  (iter (f_X12_sumOf_L120 a0) 100000 (0, 0, e38)).bind fun e56 =>
  some (e56.1, e56.2)
/-! HeaveSongsModel.task(III)I -/
def f_X12_task (a0 : Nat) (a1 : Int32) (a2 : Int32) (a3 : Int32) (h : AH) : Option (Int32 × AH) :=
  (f_X12_isTask a1 a2 a3 h).bind fun q1 =>
  if q1.1 = 0 then (some ((-2), q1.2)) else ((hgI q1.2 a0 13 22).bind fun v4 =>
  if v4 = 4 then (some ((-4), q1.2)) else ((hgR q1.2 a0 13 23).bind fun v7 =>
  (hgI q1.2 a0 13 22).bind fun v9 =>
  (hst q1.2 0 v7 v9 a1).bind fun h11 =>
  (hgR h11 a0 13 24).bind fun v13 =>
  (hgI h11 a0 13 22).bind fun v15 =>
  (hst h11 0 v13 v15 a2).bind fun h17 =>
  (hgR h17 a0 13 25).bind fun v19 =>
  (hgI h17 a0 13 22).bind fun v21 =>
  (hst h17 0 v19 v21 a3).bind fun h23 =>
  (hgI h23 a0 13 22).bind fun v25 =>
  (hpF h23 a0 13 22 (.int (v25 + 1))).bind fun h27 =>
  (hgI h27 a0 13 22).bind fun v29 =>
  some (v29 - 1, h27)))
/-! HeaveSongsModel.tree()I -/
def f_X12_tree (a0 : Nat) (h : AH) : Option (Int32 × AH) :=
  (hcl h a0 13).bind fun _ =>
  (f_X12_findTree a0 h).bind fun q1 =>
  (hgI q1 a0 13 45).bind fun v4 =>
  some (v4, q1)
/-! HeaveSongsModel.tryTwo(IIIIII)I -/
def f_X12_tryTwo_L7_J51 (x0 : Nat) (x1 : Int32) (x2 : Int32) (x3 : Int32) (x4 : Int32) (x5 : Int32) (y8 : Int32) (y9 : Int32) (h : AH) : Option ((Int32 × Int32 × AH) ⊕ ((Int32 × AH))) :=
  (hpF h x0 13 39 (.int x4)).bind fun h6 =>
  (hpF h6 x0 13 40 (.int x5)).bind fun h8 =>
  (hpF h8 x0 13 41 (.int (1 + (y8 / 3)))).bind fun h10 =>
  (hpF h10 x0 13 42 (.int (1 + (y8 - y8 / 3 * 3)))).bind fun h12 =>
  some (.inl (y9, y8 + 1, h12))
def f_X12_tryTwo_L7 (x0 : Nat) (x1 : Int32) (x2 : Int32) (x3 : Int32) (x4 : Int32) (x5 : Int32) (s : Int32 × Int32 × AH) : Option ((Int32 × Int32 × AH) ⊕ ((Int32 × AH))) :=
  if 9 ≤ s.2.1 then (some (.inr ((s.1, s.2.2)))) else ((hcl s.2.2 x0 13).bind fun _ =>
  (f_X12_sumOf x0 x1 x2 x3 x4 (1 + (s.2.1 / 3)) x5 (1 + (s.2.1 - s.2.1 / 3 * 3)) s.2.2).bind fun q2 =>
  if s.1 < 0 then (f_X12_tryTwo_L7_J51 x0 x1 x2 x3 x4 x5 s.2.1 q2.1 q2.2) else (if s.1 ≤ q2.1 then (some (.inl (s.1, s.2.1 + 1, q2.2))) else (f_X12_tryTwo_L7_J51 x0 x1 x2 x3 x4 x5 s.2.1 q2.1 q2.2)))
def f_X12_tryTwo (a0 : Nat) (a1 : Int32) (a2 : Int32) (a3 : Int32) (a4 : Int32) (a5 : Int32) (a6 : Int32) (h : AH) : Option (Int32 × AH) :=
  (iter (f_X12_tryTwo_L7 a0 a1 a2 a3 a4 a5) 100000 (a6, 0, h)).bind fun e15 =>
  some (e15.1, e15.2)
/-! HeaveSongsModel.two(IIII)I -/
def f_X12_two_L54 (x0 : Nat) (x1 : Int32) (x2 : Int32) (x3 : Int32) (x4 : Int32) (x6 : Int32) (s : Int32 × Int32 × AH) : Option ((Int32 × Int32 × AH) ⊕ ((Int32 × AH))) :=
  (hgI s.2.2 x0 13 7).bind fun v14 =>
  if v14 ≤ s.2.1 then (some (.inr ((s.1, s.2.2)))) else ((hcl s.2.2 x0 13).bind fun _ =>
  (f_X12_isOf x0 x6 s.2.2).bind fun q17 =>
  if q17.1 = 0 then (some (.inl (s.1, s.2.1 + 1, q17.2))) else ((hcl q17.2 x0 13).bind fun _ =>
  (f_X12_isOf x0 s.2.1 q17.2).bind fun q21 =>
  if q21.1 = 0 then (some (.inl (s.1, s.2.1 + 1, q21.2))) else ((hcl q21.2 x0 13).bind fun _ =>
  (f_X12_tryTwo x0 x1 x2 x3 x6 s.2.1 s.1 q21.2).bind fun q25 =>
  some (.inl (q25.1, s.2.1 + 1, q25.2)))))
def f_X12_two_L39 (x0 : Nat) (x1 : Int32) (x2 : Int32) (x3 : Int32) (x4 : Int32) (s : Int32 × Int32 × AH) : Option ((Int32 × Int32 × AH) ⊕ ((Int32 × AH))) :=
  (hgI s.2.2 x0 13 7).bind fun v11 =>
  if v11 ≤ s.2.1 then (some (.inr ((s.1, s.2.2)))) else ((iter (f_X12_two_L54 x0 x1 x2 x3 x4 s.2.1) 100000 (s.1, s.2.1 + 1, s.2.2)).bind fun e28 =>
  some (.inl (e28.1, s.2.1 + 1, e28.2)))
def f_X12_two (a0 : Nat) (a1 : Int32) (a2 : Int32) (a3 : Int32) (a4 : Int32) (h : AH) : Option (Int32 × AH) :=
  (hcl h a0 13).bind fun _ =>
  (f_X12_noSong a0 a1 h).bind fun q1 =>
  if q1.1 = 0 then ((f_X12_isTask 1 a2 a3 q1.2).bind fun q5 =>
  if q5.1 = 0 then (some ((-2), q5.2)) else ((f_X12_in a4.toInt64 0 4 q5.2).bind fun q8 =>
  if q8.1 = 0 then (some ((-2), q8.2)) else ((iter (f_X12_two_L39 a0 a1 a2 a3 a4) 100000 ((-1), 0, q8.2)).bind fun e30 =>
  if 0 ≤ e30.1 then (if a4 = 0 then ((hgI e30.2 a0 13 39).bind fun v43 =>
  some (v43, e30.2)) else (if a4 = 1 then ((hgI e30.2 a0 13 40).bind fun v41 =>
  some (v41, e30.2)) else (if a4 = 2 then ((hgI e30.2 a0 13 41).bind fun v39 =>
  some (v39, e30.2)) else (if a4 = 3 then ((hgI e30.2 a0 13 42).bind fun v37 =>
  some (v37, e30.2)) else (some (e30.1, e30.2)))))) else (some ((-1), e30.2))))) else (some ((-2), q1.2))
/-! HeaveSongsModel.who(IIII)I -/
def f_X12_who_L71 (x0 : Nat) (x1 : Int32) (x2 : Int32) (x3 : Int32) (x4 : Int32) (x6 : Int32) (s : Int32 × Int32 × AH) : Option ((Int32 × Int32 × AH) ⊕ ((Int32 × AH))) :=
  if 4 ≤ s.2.1 then (some (.inr ((s.1, s.2.2)))) else ((hcl s.2.2 x0 13).bind fun _ =>
  (f_X12_isOf x0 x6 s.2.2).bind fun q22 =>
  if q22.1 = 0 then (some (.inr ((s.1, q22.2)))) else ((hcl q22.2 x0 13).bind fun _ =>
  (f_X12_sumOf x0 x1 x2 x3 x6 s.2.1 (-1) 0 q22.2).bind fun q26 =>
  if s.1 ≤ q26.1 then (some (.inl (s.1, s.2.1 + 1, q26.2))) else ((hpF q26.2 x0 13 39 (.int x6)).bind fun h30 =>
  (hpF h30 x0 13 41 (.int s.2.1)).bind fun h32 =>
  some (.inl (q26.1, s.2.1 + 1, h32)))))
def f_X12_who_L59 (x0 : Nat) (x1 : Int32) (x2 : Int32) (x3 : Int32) (x4 : Int32) (s : Int32 × Int32 × AH) : Option ((Int32 × Int32 × AH) ⊕ ((Int32 × AH))) :=
  (hgI s.2.2 x0 13 7).bind fun v18 =>
  if v18 ≤ s.2.1 then (some (.inr ((s.1, s.2.2)))) else ((iter (f_X12_who_L71 x0 x1 x2 x3 x4 s.2.1) 100000 (s.1, 1, s.2.2)).bind fun e34 =>
  some (.inl (e34.1, s.2.1 + 1, e34.2)))
def f_X12_who (a0 : Nat) (a1 : Int32) (a2 : Int32) (a3 : Int32) (a4 : Int32) (h : AH) : Option (Int32 × AH) :=
  (hcl h a0 13).bind fun _ =>
  (f_X12_noSong a0 a1 h).bind fun q1 =>
  if q1.1 = 0 then ((f_X12_isTask 1 a2 a3 q1.2).bind fun q5 =>
  if q5.1 = 0 then (some ((-2), q5.2)) else ((f_X12_in a4.toInt64 0 2 q5.2).bind fun q8 =>
  if q8.1 = 0 then (some ((-2), q8.2)) else ((hcl q8.2 a0 13).bind fun _ =>
  (f_X12_sumOf a0 a1 a2 a3 (-1) 0 (-1) 0 q8.2).bind fun q11 =>
  (hpF q11.2 a0 13 39 (.int (-1))).bind fun h14 =>
  (hpF h14 a0 13 41 (.int 0)).bind fun h16 =>
  (iter (f_X12_who_L59 a0 a1 a2 a3 a4) 100000 (q11.1, 0, h16)).bind fun e36 =>
  if a4 = 0 then ((hgI e36.2 a0 13 39).bind fun v42 =>
  some (v42, e36.2)) else (if a4 = 1 then ((hgI e36.2 a0 13 41).bind fun v40 =>
  some (v40, e36.2)) else (some (e36.1, e36.2)))))) else (some ((-2), q1.2))
/-! HeaveSongsModel.wipe()I -/
def f_X12_wipe (a0 : Nat) (h : AH) : Option (Int32 × AH) :=
  (hgI h a0 13 35).bind fun v1 =>
  (hpF h a0 13 35 (.int 0)).bind fun h3 =>
  some (v1, h3)
/-! HeaveSongsModel.won(I)I -/
def f_X12_won (a0 : Nat) (a1 : Int32) (h : AH) : Option (Int32 × AH) :=
  if 0 ≤ a1 then ((hgI h a0 13 16).bind fun v2 =>
  if v2 ≤ a1 then (some ((-1), h)) else ((hgR h a0 13 17).bind fun v5 =>
  (hld h 0 v5 a1).bind fun v7 =>
  some (v7, h))) else (some ((-2), h))
/-! HeaveSongsModel.word(II)I -/
def f_X12_word (a0 : Nat) (a1 : Int32) (a2 : Int32) (h : AH) : Option (Int32 × AH) :=
  (f_X12_in a1.toInt64 1 5 h).bind fun q1 =>
  if q1.1 = 0 then (some ((-2), q1.2)) else ((f_X12_in a2.toInt64 0 (((1 <<< (a1 &&& 31)) - 1).toInt64) q1.2).bind fun q4 =>
  if q4.1 = 0 then (some ((-2), q4.2)) else ((hgI q4.2 a0 13 30).bind fun v7 =>
  if v7 = 12 then (some ((-4), q4.2)) else ((hgR q4.2 a0 13 31).bind fun v10 =>
  (hgI q4.2 a0 13 30).bind fun v12 =>
  (hst q4.2 0 v10 v12 a1).bind fun h14 =>
  (hgR h14 a0 13 32).bind fun v16 =>
  (hgI h14 a0 13 30).bind fun v18 =>
  (hst h14 0 v16 v18 a2).bind fun h20 =>
  (hgI h20 a0 13 30).bind fun v22 =>
  (hpF h20 a0 13 30 (.int (v22 + 1))).bind fun h24 =>
  (hgI h24 a0 13 30).bind fun v26 =>
  some (v26 - 1, h24))))
