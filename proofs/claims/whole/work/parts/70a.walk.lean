abbrev rmJ3_checkIndex_8e157 : Room := { frames := 0, cells := 0, slots := 0, locals := 0 }
theorem yn_J3_checkIndex_8e157 : YN yJ3_checkIndex_8e157 3 := by refine ⟨?_, ?_, ?_⟩ <;> decide +kernel
set_option maxRecDepth 100000 in
set_option maxHeartbeats 4000000 in
theorem w_J3_checkIndex_8e157_J9 {X : MX} (C : CX X cJ3_checkIndex_8e157 3 RJ3 (some .int) rmJ3_checkIndex_8e157) (a0 : Int32) (a1 : Int32) (a2 : Option Nat) (h : AH) (res : Int32 × AH) (hf : f_J3_checkIndex_8e157_J9 a0 a1 a2 h = some res) (K : ∀ (v : Int32) (h2 : AH), res = (v, h2) → PR X rmJ3_checkIndex_8e157 (some (.int v)) h2) : PT X 3 0 0 9 [(0, .int a0), (1, .int a1), (2, va_rf a2)] [] h := by
  unfold f_J3_checkIndex_8e157_J9 at hf
  refine pt_aload_nQ C 2 rfl rfl dJ3_checkIndex_8e157_9 ?_
  refine pt_iload_n C 0 rfl rfl dJ3_checkIndex_8e157_10 ?_
  refine pt_iload_n C 1 rfl rfl dJ3_checkIndex_8e157_11 ?_
  cases hf
set_option maxRecDepth 100000 in
set_option maxHeartbeats 4000000 in
theorem w_J3_checkIndex_8e157_0 {X : MX} (C : CX X cJ3_checkIndex_8e157 3 RJ3 (some .int) rmJ3_checkIndex_8e157) (a0 : Int32) (a1 : Int32) (a2 : Option Nat) (h : AH) (res : Int32 × AH) (hf : f_J3_checkIndex_8e157 a0 a1 a2 h = some res) (K : ∀ (v : Int32) (h2 : AH), res = (v, h2) → PR X rmJ3_checkIndex_8e157 (some (.int v)) h2) : PT X 3 0 0 0 [(0, .int a0), (1, .int a1), (2, va_rf a2)] [] h := by
  unfold f_J3_checkIndex_8e157 at hf
  refine pt_iload_n C 0 rfl rfl dJ3_checkIndex_8e157_0 ?_
  refine pt_if_lt C (tgt := 9) (by decide) dJ3_checkIndex_8e157_1 (fun c1 => ?_) (fun c1 => ?_)
  · rw [if_pos c1] at hf
    exact w_J3_checkIndex_8e157_J9 C a0 a1 a2 h _ hf K
  · rw [if_neg c1] at hf
    refine pt_iload_n C 0 rfl rfl dJ3_checkIndex_8e157_4 ?_
    refine pt_iload_n C 1 rfl rfl dJ3_checkIndex_8e157_5 ?_
    refine pt_icmp_lt C (tgt := 16) (by decide) dJ3_checkIndex_8e157_6 (fun c2 => ?_) (fun c2 => ?_)
    · rw [if_pos c2] at hf
      refine pt_iload_n C 0 rfl rfl dJ3_checkIndex_8e157_16 ?_
      exact pt_iret C (K _ _ (Option.some.inj hf).symm) (by decide) (by decide) dJ3_checkIndex_8e157_17
    · rw [if_neg c2] at hf
      exact w_J3_checkIndex_8e157_J9 C a0 a1 a2 h _ hf K
theorem con_J3_checkIndex_8e157 (l : Launch) (a0 : Int32) (a1 : Int32) (a2 : Option Nat) (h : AH) (q : Int32 × AH) (hf : f_J3_checkIndex_8e157 a0 a1 a2 h = some q) : Con l yJ3_checkIndex_8e157 cJ3_checkIndex_8e157 3 (some .int) rmJ3_checkIndex_8e157 [.int a0, .int a1, va_rf a2] h (some (.int q.1)) q.2 := by
  cases a2 <;> exact Con.of (by decide +kernel) (Nat.le_of_ble_eq_true rfl) (fun X C I K => w_J3_checkIndex_8e157_0 C a0 a1 _ h q hf (fun v h2 e => by cases e; exact K))
abbrev rmJ15_checkIndex_7cf53 : Room := { frames := 1, cells := 0, slots := 0, locals := 22 }
theorem yn_J15_checkIndex_7cf53 : YN yJ15_checkIndex_7cf53 2 := by refine ⟨?_, ?_, ?_⟩ <;> decide +kernel
set_option maxRecDepth 100000 in
set_option maxHeartbeats 4000000 in
theorem w_J15_checkIndex_7cf53_0 {X : MX} (C : CX X cJ15_checkIndex_7cf53 2 RJ15 (some .int) rmJ15_checkIndex_7cf53) (a0 : Int32) (a1 : Int32) (h : AH) (res : Int32 × AH) (hf : f_J15_checkIndex_7cf53 a0 a1 h = some res) (K : ∀ (v : Int32) (h2 : AH), res = (v, h2) → PR X rmJ15_checkIndex_7cf53 (some (.int v)) h2) : PT X 2 0 0 0 [(0, .int a0), (1, .int a1)] [] h := by
  unfold f_J15_checkIndex_7cf53 at hf
  refine pt_iload_n C 0 rfl rfl dJ15_checkIndex_7cf53_0 ?_
  refine pt_iload_n C 1 rfl rfl dJ15_checkIndex_7cf53_1 ?_
  refine pt_null C dJ15_checkIndex_7cf53_2 ?_
  refine ob hf (fun q1 g2 hf => ?_)
  refine pt_callS C (As := [.int a0, .int a1, va_rf none]) (rest := []) (v := (some (.int q1.1))) (fun l => con_J3_checkIndex_8e157 l a0 a1 none h _ g2) tw_471 tw_469 tw_470 tw_20 yn_J3_checkIndex_8e157 (by decide) (Nat.le_of_ble_eq_true rfl) dJ15_checkIndex_7cf53_3 rfl ?_
  show PT X 2 0 0 6 [(0, .int a0), (1, .int a1)] [.int q1.1] q1.2
  exact pt_iret C (K _ _ (Option.some.inj hf).symm) (by decide) (by decide) dJ15_checkIndex_7cf53_6
theorem con_J15_checkIndex_7cf53 (l : Launch) (a0 : Int32) (a1 : Int32) (h : AH) (q : Int32 × AH) (hf : f_J15_checkIndex_7cf53 a0 a1 h = some q) : Con l yJ15_checkIndex_7cf53 cJ15_checkIndex_7cf53 2 (some .int) rmJ15_checkIndex_7cf53 [.int a0, .int a1] h (some (.int q.1)) q.2 := Con.of (by decide +kernel) (Nat.le_of_ble_eq_true rfl) (fun X C I K => w_J15_checkIndex_7cf53_0 C a0 a1 h q hf (fun v h2 e => by cases e; exact K))
abbrev rmJ6_bitCount_0f7a4 : Room := { frames := 0, cells := 0, slots := 0, locals := 0 }
theorem yn_J6_bitCount_0f7a4 : YN yJ6_bitCount_0f7a4 1 := by refine ⟨?_, ?_, ?_⟩ <;> decide +kernel
set_option maxRecDepth 100000 in
set_option maxHeartbeats 4000000 in
theorem w_J6_bitCount_0f7a4_0 {X : MX} (C : CX X cJ6_bitCount_0f7a4 1 RJ6 (some .int) rmJ6_bitCount_0f7a4) (a0 : Int32) (h : AH) (res : Int32 × AH) (hf : f_J6_bitCount_0f7a4 a0 h = some res) (K : ∀ (v : Int32) (h2 : AH), res = (v, h2) → PR X rmJ6_bitCount_0f7a4 (some (.int v)) h2) : PT X 1 0 0 0 [(0, .int a0)] [] h := by
  unfold f_J6_bitCount_0f7a4 at hf
  refine pt_iload_n C 0 rfl rfl dJ6_bitCount_0f7a4_0 ?_
  refine pt_iload_n C 0 rfl rfl dJ6_bitCount_0f7a4_1 ?_
  refine pt_iconst C (v := 1) (by decide) dJ6_bitCount_0f7a4_2 ?_
  refine pt_iushr C dJ6_bitCount_0f7a4_3 ?_
  refine pt_ldcw C tw_660 dJ6_bitCount_0f7a4_4 ?_
  refine pt_iand C dJ6_bitCount_0f7a4_7 ?_
  refine pt_isub C dJ6_bitCount_0f7a4_8 ?_
  refine pt_istore_n C [(0, .int (a0 - (((a0.toUInt32 >>> ((1 : Int32).toUInt32 &&& Int32.toUInt32 31)).toInt32) &&& 1431655765)))] rfl (by decide) rfl dJ6_bitCount_0f7a4_9 ?_
  refine pt_iload_n C 0 rfl rfl dJ6_bitCount_0f7a4_10 ?_
  refine pt_ldcw C tw_661 dJ6_bitCount_0f7a4_11 ?_
  refine pt_iand C dJ6_bitCount_0f7a4_14 ?_
  refine pt_iload_n C 0 rfl rfl dJ6_bitCount_0f7a4_15 ?_
  refine pt_iconst C (v := 2) (by decide) dJ6_bitCount_0f7a4_16 ?_
  refine pt_iushr C dJ6_bitCount_0f7a4_17 ?_
  refine pt_ldcw C tw_661 dJ6_bitCount_0f7a4_18 ?_
  refine pt_iand C dJ6_bitCount_0f7a4_21 ?_
  refine pt_iadd C dJ6_bitCount_0f7a4_22 ?_
  refine pt_istore_n C [(0, .int (((a0 - (((a0.toUInt32 >>> ((1 : Int32).toUInt32 &&& Int32.toUInt32 31)).toInt32) &&& 1431655765)) &&& 858993459) + ((((a0 - (((a0.toUInt32 >>> ((1 : Int32).toUInt32 &&& Int32.toUInt32 31)).toInt32) &&& 1431655765)).toUInt32 >>> ((2 : Int32).toUInt32 &&& Int32.toUInt32 31)).toInt32) &&& 858993459)))] rfl (by decide) rfl dJ6_bitCount_0f7a4_23 ?_
  refine pt_iload_n C 0 rfl rfl dJ6_bitCount_0f7a4_24 ?_
  refine pt_iload_n C 0 rfl rfl dJ6_bitCount_0f7a4_25 ?_
  refine pt_iconst C (v := 4) (by decide) dJ6_bitCount_0f7a4_26 ?_
  refine pt_iushr C dJ6_bitCount_0f7a4_27 ?_
  refine pt_iadd C dJ6_bitCount_0f7a4_28 ?_
  refine pt_ldcw C tw_662 dJ6_bitCount_0f7a4_29 ?_
  refine pt_iand C dJ6_bitCount_0f7a4_32 ?_
  refine pt_istore_n C [(0, .int (((((a0 - (((a0.toUInt32 >>> ((1 : Int32).toUInt32 &&& Int32.toUInt32 31)).toInt32) &&& 1431655765)) &&& 858993459) + ((((a0 - (((a0.toUInt32 >>> ((1 : Int32).toUInt32 &&& Int32.toUInt32 31)).toInt32) &&& 1431655765)).toUInt32 >>> ((2 : Int32).toUInt32 &&& Int32.toUInt32 31)).toInt32) &&& 858993459)) + (((((a0 - (((a0.toUInt32 >>> ((1 : Int32).toUInt32 &&& Int32.toUInt32 31)).toInt32) &&& 1431655765)) &&& 858993459) + ((((a0 - (((a0.toUInt32 >>> ((1 : Int32).toUInt32 &&& Int32.toUInt32 31)).toInt32) &&& 1431655765)).toUInt32 >>> ((2 : Int32).toUInt32 &&& Int32.toUInt32 31)).toInt32) &&& 858993459)).toUInt32 >>> ((4 : Int32).toUInt32 &&& Int32.toUInt32 31)).toInt32)) &&& 252645135))] rfl (by decide) rfl dJ6_bitCount_0f7a4_33 ?_
  refine pt_iload_n C 0 rfl rfl dJ6_bitCount_0f7a4_34 ?_
  refine pt_iload_n C 0 rfl rfl dJ6_bitCount_0f7a4_35 ?_
  refine pt_bipush C (v := 8) (by decide) dJ6_bitCount_0f7a4_36 ?_
  refine pt_iushr C dJ6_bitCount_0f7a4_38 ?_
  refine pt_iadd C dJ6_bitCount_0f7a4_39 ?_
  refine pt_istore_n C [(0, .int ((((((a0 - (((a0.toUInt32 >>> ((1 : Int32).toUInt32 &&& Int32.toUInt32 31)).toInt32) &&& 1431655765)) &&& 858993459) + ((((a0 - (((a0.toUInt32 >>> ((1 : Int32).toUInt32 &&& Int32.toUInt32 31)).toInt32) &&& 1431655765)).toUInt32 >>> ((2 : Int32).toUInt32 &&& Int32.toUInt32 31)).toInt32) &&& 858993459)) + (((((a0 - (((a0.toUInt32 >>> ((1 : Int32).toUInt32 &&& Int32.toUInt32 31)).toInt32) &&& 1431655765)) &&& 858993459) + ((((a0 - (((a0.toUInt32 >>> ((1 : Int32).toUInt32 &&& Int32.toUInt32 31)).toInt32) &&& 1431655765)).toUInt32 >>> ((2 : Int32).toUInt32 &&& Int32.toUInt32 31)).toInt32) &&& 858993459)).toUInt32 >>> ((4 : Int32).toUInt32 &&& Int32.toUInt32 31)).toInt32)) &&& 252645135) + (((((((a0 - (((a0.toUInt32 >>> ((1 : Int32).toUInt32 &&& Int32.toUInt32 31)).toInt32) &&& 1431655765)) &&& 858993459) + ((((a0 - (((a0.toUInt32 >>> ((1 : Int32).toUInt32 &&& Int32.toUInt32 31)).toInt32) &&& 1431655765)).toUInt32 >>> ((2 : Int32).toUInt32 &&& Int32.toUInt32 31)).toInt32) &&& 858993459)) + (((((a0 - (((a0.toUInt32 >>> ((1 : Int32).toUInt32 &&& Int32.toUInt32 31)).toInt32) &&& 1431655765)) &&& 858993459) + ((((a0 - (((a0.toUInt32 >>> ((1 : Int32).toUInt32 &&& Int32.toUInt32 31)).toInt32) &&& 1431655765)).toUInt32 >>> ((2 : Int32).toUInt32 &&& Int32.toUInt32 31)).toInt32) &&& 858993459)).toUInt32 >>> ((4 : Int32).toUInt32 &&& Int32.toUInt32 31)).toInt32)) &&& 252645135).toUInt32 >>> ((8 : Int32).toUInt32 &&& Int32.toUInt32 31)).toInt32)))] rfl (by decide) rfl dJ6_bitCount_0f7a4_40 ?_
  refine pt_iload_n C 0 rfl rfl dJ6_bitCount_0f7a4_41 ?_
  refine pt_iload_n C 0 rfl rfl dJ6_bitCount_0f7a4_42 ?_
  refine pt_bipush C (v := 16) (by decide) dJ6_bitCount_0f7a4_43 ?_
  refine pt_iushr C dJ6_bitCount_0f7a4_45 ?_
  refine pt_iadd C dJ6_bitCount_0f7a4_46 ?_
  refine pt_istore_n C [(0, .int (((((((a0 - (((a0.toUInt32 >>> ((1 : Int32).toUInt32 &&& Int32.toUInt32 31)).toInt32) &&& 1431655765)) &&& 858993459) + ((((a0 - (((a0.toUInt32 >>> ((1 : Int32).toUInt32 &&& Int32.toUInt32 31)).toInt32) &&& 1431655765)).toUInt32 >>> ((2 : Int32).toUInt32 &&& Int32.toUInt32 31)).toInt32) &&& 858993459)) + (((((a0 - (((a0.toUInt32 >>> ((1 : Int32).toUInt32 &&& Int32.toUInt32 31)).toInt32) &&& 1431655765)) &&& 858993459) + ((((a0 - (((a0.toUInt32 >>> ((1 : Int32).toUInt32 &&& Int32.toUInt32 31)).toInt32) &&& 1431655765)).toUInt32 >>> ((2 : Int32).toUInt32 &&& Int32.toUInt32 31)).toInt32) &&& 858993459)).toUInt32 >>> ((4 : Int32).toUInt32 &&& Int32.toUInt32 31)).toInt32)) &&& 252645135) + (((((((a0 - (((a0.toUInt32 >>> ((1 : Int32).toUInt32 &&& Int32.toUInt32 31)).toInt32) &&& 1431655765)) &&& 858993459) + ((((a0 - (((a0.toUInt32 >>> ((1 : Int32).toUInt32 &&& Int32.toUInt32 31)).toInt32) &&& 1431655765)).toUInt32 >>> ((2 : Int32).toUInt32 &&& Int32.toUInt32 31)).toInt32) &&& 858993459)) + (((((a0 - (((a0.toUInt32 >>> ((1 : Int32).toUInt32 &&& Int32.toUInt32 31)).toInt32) &&& 1431655765)) &&& 858993459) + ((((a0 - (((a0.toUInt32 >>> ((1 : Int32).toUInt32 &&& Int32.toUInt32 31)).toInt32) &&& 1431655765)).toUInt32 >>> ((2 : Int32).toUInt32 &&& Int32.toUInt32 31)).toInt32) &&& 858993459)).toUInt32 >>> ((4 : Int32).toUInt32 &&& Int32.toUInt32 31)).toInt32)) &&& 252645135).toUInt32 >>> ((8 : Int32).toUInt32 &&& Int32.toUInt32 31)).toInt32)) + ((((((((a0 - (((a0.toUInt32 >>> ((1 : Int32).toUInt32 &&& Int32.toUInt32 31)).toInt32) &&& 1431655765)) &&& 858993459) + ((((a0 - (((a0.toUInt32 >>> ((1 : Int32).toUInt32 &&& Int32.toUInt32 31)).toInt32) &&& 1431655765)).toUInt32 >>> ((2 : Int32).toUInt32 &&& Int32.toUInt32 31)).toInt32) &&& 858993459)) + (((((a0 - (((a0.toUInt32 >>> ((1 : Int32).toUInt32 &&& Int32.toUInt32 31)).toInt32) &&& 1431655765)) &&& 858993459) + ((((a0 - (((a0.toUInt32 >>> ((1 : Int32).toUInt32 &&& Int32.toUInt32 31)).toInt32) &&& 1431655765)).toUInt32 >>> ((2 : Int32).toUInt32 &&& Int32.toUInt32 31)).toInt32) &&& 858993459)).toUInt32 >>> ((4 : Int32).toUInt32 &&& Int32.toUInt32 31)).toInt32)) &&& 252645135) + (((((((a0 - (((a0.toUInt32 >>> ((1 : Int32).toUInt32 &&& Int32.toUInt32 31)).toInt32) &&& 1431655765)) &&& 858993459) + ((((a0 - (((a0.toUInt32 >>> ((1 : Int32).toUInt32 &&& Int32.toUInt32 31)).toInt32) &&& 1431655765)).toUInt32 >>> ((2 : Int32).toUInt32 &&& Int32.toUInt32 31)).toInt32) &&& 858993459)) + (((((a0 - (((a0.toUInt32 >>> ((1 : Int32).toUInt32 &&& Int32.toUInt32 31)).toInt32) &&& 1431655765)) &&& 858993459) + ((((a0 - (((a0.toUInt32 >>> ((1 : Int32).toUInt32 &&& Int32.toUInt32 31)).toInt32) &&& 1431655765)).toUInt32 >>> ((2 : Int32).toUInt32 &&& Int32.toUInt32 31)).toInt32) &&& 858993459)).toUInt32 >>> ((4 : Int32).toUInt32 &&& Int32.toUInt32 31)).toInt32)) &&& 252645135).toUInt32 >>> ((8 : Int32).toUInt32 &&& Int32.toUInt32 31)).toInt32)).toUInt32 >>> ((16 : Int32).toUInt32 &&& Int32.toUInt32 31)).toInt32)))] rfl (by decide) rfl dJ6_bitCount_0f7a4_47 ?_
  refine pt_iload_n C 0 rfl rfl dJ6_bitCount_0f7a4_48 ?_
  refine pt_bipush C (v := 63) (by decide) dJ6_bitCount_0f7a4_49 ?_
  refine pt_iand C dJ6_bitCount_0f7a4_51 ?_
  exact pt_iret C (K _ _ (Option.some.inj hf).symm) (by decide) (by decide) dJ6_bitCount_0f7a4_52
theorem con_J6_bitCount_0f7a4 (l : Launch) (a0 : Int32) (h : AH) (q : Int32 × AH) (hf : f_J6_bitCount_0f7a4 a0 h = some q) : Con l yJ6_bitCount_0f7a4 cJ6_bitCount_0f7a4 1 (some .int) rmJ6_bitCount_0f7a4 [.int a0] h (some (.int q.1)) q.2 := Con.of (by decide +kernel) (Nat.le_of_ble_eq_true rfl) (fun X C I K => w_J6_bitCount_0f7a4_0 C a0 h q hf (fun v h2 e => by cases e; exact K))
abbrev rmJ7_copyOf_6403c : Room := { frames := 1, cells := 1, slots := 16, locals := 60 }
theorem yn_J7_copyOf_6403c : YN yJ7_copyOf_6403c 3 := by refine ⟨?_, ?_, ?_⟩ <;> decide +kernel
set_option maxRecDepth 100000 in
set_option maxHeartbeats 4000000 in
theorem w_J7_copyOf_6403c_0 {X : MX} (C : CX X cJ7_copyOf_6403c 4 RJ7 (some (.array (.object "java/lang/Object"))) rmJ7_copyOf_6403c) (a0 : Nat) (a1 : Int32) (a2 : Nat) (h : AH) (res : Nat × AH) (hf : f_J7_copyOf_6403c a0 a1 a2 h = some res) (K : ∀ (v : Nat) (h2 : AH), res = (v, h2) → PR X rmJ7_copyOf_6403c (some (.ref v)) h2) : PT X 4 0 0 0 [(0, .ref a0), (1, .int a1), (2, .ref a2)] [] h := by
  unfold f_J7_copyOf_6403c at hf
  refine pt_aload_n C 2 rfl rfl dJ7_copyOf_6403c_0 ?_
  refine pt_ldcM C tw_440 dJ7_copyOf_6403c_1 ?_
  refine pt_acmp_ne C (tgt := 13) (by decide) dJ7_copyOf_6403c_3 (fun c1 => ?_) (fun c1 => ?_)
  · rw [if_neg c1] at hf
    cases hf
  · rw [if_pos c1] at hf
    refine pt_iload_n C 1 rfl rfl dJ7_copyOf_6403c_6 ?_
    refine ob hf (fun _ g2 hf => ?_)
    refine pt_newO C 16 tw_442 (hcap_spec g2).1 (hcap_spec g2).2 (by decide) (by decide) (by decide) dJ7_copyOf_6403c_7 ?_
    refine pt_goto C (tgt := 24) (by decide) dJ7_copyOf_6403c_10 ?_
    refine pt_astore_n C [(3, .ref h.1), (0, .ref a0), (1, .int a1), (2, .ref a2)] rfl (by decide) rfl dJ7_copyOf_6403c_24 ?_
    refine pt_aload_n C 1 rfl rfl dJ7_copyOf_6403c_25 ?_
    refine pt_iconst C (v := 0) (by decide) dJ7_copyOf_6403c_26 ?_
    refine pt_aload_n C 0 rfl rfl dJ7_copyOf_6403c_27 ?_
    refine pt_iconst C (v := 0) (by decide) dJ7_copyOf_6403c_28 ?_
    refine pt_aload_n C 1 rfl rfl dJ7_copyOf_6403c_29 ?_
    refine ob hf (fun v3 g4 hf => ?_)
    refine pt_alen C g4 dJ7_copyOf_6403c_30 ?_
    refine pt_iload_n C 2 rfl rfl dJ7_copyOf_6403c_31 ?_
    refine pt_mmin C tw_443 tw_444 tw_16 tw_445 (by decide) (Nat.le_of_ble_eq_true rfl) (by decide) (by decide) dJ7_copyOf_6403c_32 ?_
    refine ob hf (fun h6 g5 hf => ?_)
    refine pt_copyR C tw_446 tw_acn tw_447 tw_18 g5 (by decide) (by decide) dJ7_copyOf_6403c_35 ?_
    refine pt_aload_n C 0 rfl rfl dJ7_copyOf_6403c_38 ?_
    exact pt_aret C (v := some h.1) (by first | exact Or.inl ⟨_, rfl⟩ | exact Or.inr ⟨_, rfl⟩) (K _ _ (Option.some.inj hf).symm) (by decide) (by decide) dJ7_copyOf_6403c_39
theorem con_J7_copyOf_6403c (l : Launch) (a0 : Nat) (a1 : Int32) (a2 : Nat) (h : AH) (q : Nat × AH) (hf : f_J7_copyOf_6403c a0 a1 a2 h = some q) : Con l yJ7_copyOf_6403c cJ7_copyOf_6403c 4 (some (.array (.object "java/lang/Object"))) rmJ7_copyOf_6403c [.ref a0, .int a1, .ref a2] h (some (.ref q.1)) q.2 := Con.of (by decide +kernel) (Nat.le_of_ble_eq_true rfl) (fun X C I K => w_J7_copyOf_6403c_0 C a0 a1 a2 h q hf (fun v h2 e => by cases e; exact K))
abbrev rmJ7_copyOf_1904c : Room := { frames := 2, cells := 1, slots := 16, locals := 83 }
theorem yn_J7_copyOf_1904c : YN yJ7_copyOf_1904c 2 := by refine ⟨?_, ?_, ?_⟩ <;> decide +kernel
set_option maxRecDepth 100000 in
set_option maxHeartbeats 4000000 in
theorem w_J7_copyOf_1904c_0 {X : MX} (C : CX X cJ7_copyOf_1904c 2 RJ7 (some (.array (.object "java/lang/Object"))) rmJ7_copyOf_1904c) (a0 : Nat) (a1 : Int32) (h : AH) (res : Nat × AH) (hf : f_J7_copyOf_1904c a0 a1 h = some res) (K : ∀ (v : Nat) (h2 : AH), res = (v, h2) → PR X rmJ7_copyOf_1904c (some (.ref v)) h2) : PT X 2 0 0 0 [(0, .ref a0), (1, .int a1)] [] h := by
  unfold f_J7_copyOf_1904c at hf
  refine pt_aload_n C 0 rfl rfl dJ7_copyOf_1904c_0 ?_
  refine pt_iload_n C 1 rfl rfl dJ7_copyOf_1904c_1 ?_
  refine pt_aload_n C 0 rfl rfl dJ7_copyOf_1904c_2 ?_
  refine ob hf (fun _ g1 hf => ?_)
  refine pt_getC C tw_419 tw_1322 tw_420 tw_gcn g1 (by decide) (Nat.le_of_ble_eq_true rfl) dJ7_copyOf_1904c_3 ?_
  refine ob hf (fun q2 g3 hf => ?_)
  refine pt_callS C (As := [.ref a0, .int a1, .ref h.2.1.2]) (rest := []) (v := (some (.ref q2.1))) (fun l => con_J7_copyOf_6403c l a0 a1 h.2.1.2 h _ g3) tw_439 tw_437 tw_438 tw_17 yn_J7_copyOf_6403c (by decide) (Nat.le_of_ble_eq_true rfl) dJ7_copyOf_1904c_6 rfl ?_
  show PT X 2 1 16 9 [(0, .ref a0), (1, .int a1)] [.ref q2.1] q2.2
  exact pt_aret C (v := some q2.1) (by first | exact Or.inl ⟨_, rfl⟩ | exact Or.inr ⟨_, rfl⟩) (K _ _ (Option.some.inj hf).symm) (by decide) (by decide) dJ7_copyOf_1904c_9
theorem con_J7_copyOf_1904c (l : Launch) (a0 : Nat) (a1 : Int32) (h : AH) (q : Nat × AH) (hf : f_J7_copyOf_1904c a0 a1 h = some q) : Con l yJ7_copyOf_1904c cJ7_copyOf_1904c 2 (some (.array (.object "java/lang/Object"))) rmJ7_copyOf_1904c [.ref a0, .int a1] h (some (.ref q.1)) q.2 := Con.of (by decide +kernel) (Nat.le_of_ble_eq_true rfl) (fun X C I K => w_J7_copyOf_1904c_0 C a0 a1 h q hf (fun v h2 e => by cases e; exact K))
abbrev rmJ8_newLength_cabcc : Room := { frames := 1, cells := 0, slots := 0, locals := 23 }
theorem yn_J8_newLength_cabcc : YN yJ8_newLength_cabcc 3 := by refine ⟨?_, ?_, ?_⟩ <;> decide +kernel
set_option maxRecDepth 100000 in
set_option maxHeartbeats 4000000 in
theorem w_J8_newLength_cabcc_J21 {X : MX} (C : CX X cJ8_newLength_cabcc 4 RJ8 (some .int) rmJ8_newLength_cabcc) (a0 : Int32) (a1 : Int32) (a2 : Int32) (h : AH) (res : Int32 × AH) (hf : f_J8_newLength_cabcc_J21 a0 a1 a2 h = some res) (K : ∀ (v : Int32) (h2 : AH), res = (v, h2) → PR X rmJ8_newLength_cabcc (some (.int v)) h2) : PT X 4 0 0 21 [(0, .int a0)] [] h := by
  unfold f_J8_newLength_cabcc_J21 at hf
  cases hf
set_option maxRecDepth 100000 in
set_option maxHeartbeats 4000000 in
theorem w_J8_newLength_cabcc_0 {X : MX} (C : CX X cJ8_newLength_cabcc 4 RJ8 (some .int) rmJ8_newLength_cabcc) (a0 : Int32) (a1 : Int32) (a2 : Int32) (h : AH) (res : Int32 × AH) (hf : f_J8_newLength_cabcc a0 a1 a2 h = some res) (K : ∀ (v : Int32) (h2 : AH), res = (v, h2) → PR X rmJ8_newLength_cabcc (some (.int v)) h2) : PT X 4 0 0 0 [(0, .int a0), (1, .int a1), (2, .int a2)] [] h := by
  unfold f_J8_newLength_cabcc at hf
  refine pt_iload_n C 0 rfl rfl dJ8_newLength_cabcc_0 ?_
  refine pt_iload_n C 1 rfl rfl dJ8_newLength_cabcc_1 ?_
  refine pt_iload_n C 2 rfl rfl dJ8_newLength_cabcc_2 ?_
  refine pt_mmax C tw_409 tw_410 tw_16 tw_411 (by decide) (Nat.le_of_ble_eq_true rfl) (by decide) (by decide) dJ8_newLength_cabcc_3 ?_
  refine pt_iadd C dJ8_newLength_cabcc_6 ?_
  refine pt_istore_n C [(3, .int (a0 + (if a1 < a2 then a2 else a1))), (0, .int a0), (1, .int a1), (2, .int a2)] rfl (by decide) rfl dJ8_newLength_cabcc_7 ?_
  refine pt_iconst C (v := 0) (by decide) dJ8_newLength_cabcc_8 ?_
  refine pt_iload_n C 0 rfl rfl dJ8_newLength_cabcc_9 ?_
  refine pt_icmp_ge C (tgt := 21) (by decide) dJ8_newLength_cabcc_10 (fun c1 => ?_) (fun c1 => ?_)
  · rw [if_pos c1] at hf
    refine pt_sub C [(0, .int a0)] [1] rfl ?_
    exact w_J8_newLength_cabcc_J21 C a0 a1 a2 h _ hf K
  · rw [if_neg c1] at hf
    refine pt_iload_n C 0 rfl rfl dJ8_newLength_cabcc_13 ?_
    refine pt_ldc C tw_412 dJ8_newLength_cabcc_14 ?_
    refine pt_icmp_gt C (tgt := 21) (by decide) dJ8_newLength_cabcc_16 (fun c2 => ?_) (fun c2 => ?_)
    · rw [if_pos c2] at hf
      refine pt_sub C [(0, .int a0)] [1] rfl ?_
      exact w_J8_newLength_cabcc_J21 C a0 a1 a2 h _ hf K
    · rw [if_neg c2] at hf
      refine pt_iload_n C 0 rfl rfl dJ8_newLength_cabcc_19 ?_
      exact pt_iret C (K _ _ (Option.some.inj hf).symm) (by decide) (by decide) dJ8_newLength_cabcc_20
theorem con_J8_newLength_cabcc (l : Launch) (a0 : Int32) (a1 : Int32) (a2 : Int32) (h : AH) (q : Int32 × AH) (hf : f_J8_newLength_cabcc a0 a1 a2 h = some q) : Con l yJ8_newLength_cabcc cJ8_newLength_cabcc 4 (some .int) rmJ8_newLength_cabcc [.int a0, .int a1, .int a2] h (some (.int q.1)) q.2 := Con.of (by decide +kernel) (Nat.le_of_ble_eq_true rfl) (fun X C I K => w_J8_newLength_cabcc_0 C a0 a1 a2 h q hf (fun v h2 e => by cases e; exact K))
abbrev rmJx4a65c_grow_92f84 : Room := { frames := 3, cells := 1, slots := 16, locals := 104 }
theorem yn_Jx4a65c_grow_92f84 : YN yJx4a65c_grow_92f84 1 := by refine ⟨?_, ?_, ?_⟩ <;> decide +kernel
set_option maxRecDepth 100000 in
set_option maxHeartbeats 4000000 in
theorem w_Jx4a65c_grow_92f84_J20 {X : MX} (C : CX X cJx4a65c_grow_92f84 4 RJx4a65c (some (.array (.object "java/lang/Object"))) rmJx4a65c_grow_92f84) (a0 : Nat) (a1 : Int32) (y2 : Int32) (h : AH) (res : Nat × AH) (hf : f_Jx4a65c_grow_92f84_J20 a0 a1 y2 h = some res) (K : ∀ (v : Nat) (h2 : AH), res = (v, h2) → PR X rmJx4a65c_grow_92f84 (some (.ref v)) h2) : PT X 4 0 0 20 [(0, .ref a0), (1, .int a1), (2, .int y2)] [] h := by
  unfold f_Jx4a65c_grow_92f84_J20 at hf
  refine pt_iload_n C 2 rfl rfl dJx4a65c_grow_92f84_20 ?_
  refine pt_iload_n C 1 rfl rfl dJx4a65c_grow_92f84_21 ?_
  refine pt_iload_n C 2 rfl rfl dJx4a65c_grow_92f84_22 ?_
  refine pt_isub C dJx4a65c_grow_92f84_23 ?_
  refine pt_iload_n C 2 rfl rfl dJx4a65c_grow_92f84_24 ?_
  refine pt_iconst C (v := 1) (by decide) dJx4a65c_grow_92f84_25 ?_
  refine pt_ishr C dJx4a65c_grow_92f84_26 ?_
  refine ob hf (fun q6 g7 hf => ?_)
  refine pt_callS C (As := [.int y2, .int (a1 - y2), .int (y2 >>> (1 &&& 31))]) (rest := []) (v := (some (.int q6.1))) (fun l => con_J8_newLength_cabcc l y2 (a1 - y2) (y2 >>> (1 &&& 31)) h _ g7) tw_408 tw_406 tw_407 tw_15 yn_J8_newLength_cabcc (by decide) (Nat.le_of_ble_eq_true rfl) dJx4a65c_grow_92f84_27 rfl ?_
  show PT X 4 0 0 30 [(0, .ref a0), (1, .int a1), (2, .int y2)] [.int q6.1] q6.2
  refine pt_istore_n C [(3, .int q6.1), (0, .ref a0), (1, .int a1), (2, .int y2)] rfl (by decide) rfl dJx4a65c_grow_92f84_30 ?_
  refine pt_aload_n C 1 rfl rfl dJx4a65c_grow_92f84_31 ?_
  refine pt_aload_n C 1 rfl rfl dJx4a65c_grow_92f84_32 ?_
  refine ob hf (fun v8 g9 hf => ?_)
  refine pt_getR C kJx4a65c 1 (by decide) tw_69 (Or.inl rfl) g9 dJx4a65c_grow_92f84_33 ?_
  refine pt_iload_n C 0 rfl rfl dJx4a65c_grow_92f84_36 ?_
  refine ob hf (fun q10 g11 hf => ?_)
  refine pt_callS C (As := [.ref v8, .int q6.1]) (rest := [.ref a0]) (v := (some (.ref q10.1))) (fun l => con_J7_copyOf_1904c l v8 q6.1 q6.2 _ g11) tw_418 tw_416 tw_417 tw_17 yn_J7_copyOf_1904c (by decide) (Nat.le_of_ble_eq_true rfl) dJx4a65c_grow_92f84_37 rfl ?_
  show PT X 4 1 16 40 [(3, .int q6.1), (0, .ref a0), (1, .int a1), (2, .int y2)] [.ref q10.1, .ref a0] q10.2
  refine pt_dup_x1 C rfl rfl dJx4a65c_grow_92f84_40 ?_
  refine ob hf (fun h12 g13 hf => ?_)
  refine pt_put C kJx4a65c 1 (by decide) tw_69 (Or.inl rfl) rfl rfl rfl g13 dJx4a65c_grow_92f84_41 ?_
  exact pt_aret C (v := some q10.1) (by first | exact Or.inl ⟨_, rfl⟩ | exact Or.inr ⟨_, rfl⟩) (K _ _ (Option.some.inj hf).symm) (by decide) (by decide) dJx4a65c_grow_92f84_44
set_option maxRecDepth 100000 in
set_option maxHeartbeats 4000000 in
theorem w_Jx4a65c_grow_92f84_0 {X : MX} (C : CX X cJx4a65c_grow_92f84 4 RJx4a65c (some (.array (.object "java/lang/Object"))) rmJx4a65c_grow_92f84) (a0 : Nat) (a1 : Int32) (h : AH) (res : Nat × AH) (hf : f_Jx4a65c_grow_92f84 a0 a1 h = some res) (K : ∀ (v : Nat) (h2 : AH), res = (v, h2) → PR X rmJx4a65c_grow_92f84 (some (.ref v)) h2) : PT X 4 0 0 0 [(0, .ref a0), (1, .int a1)] [] h := by
  unfold f_Jx4a65c_grow_92f84 at hf
  refine pt_aload_n C 0 rfl rfl dJx4a65c_grow_92f84_0 ?_
  refine ob hf (fun v1 g2 hf => ?_)
  refine pt_getR C kJx4a65c 1 (by decide) tw_69 (Or.inl rfl) g2 dJx4a65c_grow_92f84_1 ?_
  refine ob hf (fun v3 g4 hf => ?_)
  refine pt_alen C g4 dJx4a65c_grow_92f84_4 ?_
  refine pt_istore_n C [(2, .int v3), (0, .ref a0), (1, .int a1)] rfl (by decide) rfl dJx4a65c_grow_92f84_5 ?_
  refine pt_iload_n C 0 rfl rfl dJx4a65c_grow_92f84_6 ?_
  refine pt_if_gt C (tgt := 20) (by decide) dJx4a65c_grow_92f84_7 (fun c5 => ?_) (fun c5 => ?_)
  · rw [if_pos c5] at hf
    refine pt_sub C [(0, .ref a0), (1, .int a1), (2, .int v3)] [1, 2, 0] rfl ?_
    exact w_Jx4a65c_grow_92f84_J20 C a0 a1 v3 h _ hf K
  · rw [if_neg c5] at hf
    refine pt_aload_n C 1 rfl rfl dJx4a65c_grow_92f84_10 ?_
    refine ob hf (fun v14 g15 hf => ?_)
    refine pt_getR C kJx4a65c 1 (by decide) tw_69 (Or.inl rfl) g15 dJx4a65c_grow_92f84_11 ?_
    refine pt_gets C tw_67 rfl dJx4a65c_grow_92f84_14 ?_
    refine pt_acmp_eq C (tgt := 45) (by decide) dJx4a65c_grow_92f84_17 (fun c16 => ?_) (fun c16 => ?_)
    · rw [if_pos c16] at hf
      refine pt_aload_n C 1 rfl rfl dJx4a65c_grow_92f84_45 ?_
      refine pt_bipush C (v := 10) (by decide) dJx4a65c_grow_92f84_46 ?_
      refine pt_iload_n C 2 rfl rfl dJx4a65c_grow_92f84_48 ?_
      refine pt_mmax C tw_449 tw_410 tw_16 tw_411 (by decide) (Nat.le_of_ble_eq_true rfl) (by decide) (by decide) dJx4a65c_grow_92f84_49 ?_
      refine ob hf (fun _ g17 hf => ?_)
      refine pt_newO C 16 tw_450 (hcap_spec g17).1 (hcap_spec g17).2 (by decide) (by decide) (by decide) dJx4a65c_grow_92f84_52 ?_
      refine pt_dup_x1 C rfl rfl dJx4a65c_grow_92f84_55 ?_
      refine ob hf (fun h18 g19 hf => ?_)
      refine pt_put C kJx4a65c 1 (by decide) tw_69 (Or.inl rfl) rfl rfl rfl g19 dJx4a65c_grow_92f84_56 ?_
      exact pt_aret C (v := some h.1) (by first | exact Or.inl ⟨_, rfl⟩ | exact Or.inr ⟨_, rfl⟩) (K _ _ (Option.some.inj hf).symm) (by decide) (by decide) dJx4a65c_grow_92f84_59
    · rw [if_neg c16] at hf
      refine pt_sub C [(0, .ref a0), (1, .int a1), (2, .int v3)] [1, 2, 0] rfl ?_
      exact w_Jx4a65c_grow_92f84_J20 C a0 a1 v3 h _ hf K
theorem con_Jx4a65c_grow_92f84 (l : Launch) (a0 : Nat) (a1 : Int32) (h : AH) (q : Nat × AH) (hf : f_Jx4a65c_grow_92f84 a0 a1 h = some q) : Con l yJx4a65c_grow_92f84 cJx4a65c_grow_92f84 4 (some (.array (.object "java/lang/Object"))) rmJx4a65c_grow_92f84 [.ref a0, .int a1] h (some (.ref q.1)) q.2 := Con.of (by decide +kernel) (Nat.le_of_ble_eq_true rfl) (fun X C I K => w_Jx4a65c_grow_92f84_0 C a0 a1 h q hf (fun v h2 e => by cases e; exact K))
abbrev rmJx4a65c_grow_d5877 : Room := { frames := 4, cells := 1, slots := 16, locals := 127 }
theorem yn_Jx4a65c_grow_d5877 : YN yJx4a65c_grow_d5877 0 := by refine ⟨?_, ?_, ?_⟩ <;> decide +kernel
set_option maxRecDepth 100000 in
set_option maxHeartbeats 4000000 in
theorem w_Jx4a65c_grow_d5877_0 {X : MX} (C : CX X cJx4a65c_grow_d5877 1 RJx4a65c (some (.array (.object "java/lang/Object"))) rmJx4a65c_grow_d5877) (a0 : Nat) (h : AH) (res : Nat × AH) (hf : f_Jx4a65c_grow_d5877 a0 h = some res) (K : ∀ (v : Nat) (h2 : AH), res = (v, h2) → PR X rmJx4a65c_grow_d5877 (some (.ref v)) h2) : PT X 1 0 0 0 [(0, .ref a0)] [] h := by
  unfold f_Jx4a65c_grow_d5877 at hf
  refine pt_aload_n C 0 rfl rfl dJx4a65c_grow_d5877_0 ?_
  refine pt_aload_n C 0 rfl rfl dJx4a65c_grow_d5877_1 ?_
  refine ob hf (fun v1 g2 hf => ?_)
  refine pt_getI C kJx4a65c 2 (by decide) tw_70 (Or.inl rfl) g2 dJx4a65c_grow_d5877_2 ?_
  refine pt_iconst C (v := 1) (by decide) dJx4a65c_grow_d5877_5 ?_
  refine pt_iadd C dJx4a65c_grow_d5877_6 ?_
  refine ob hf (fun _ g5 hf => ?_)
  refine ob hf (fun q3 g4 hf => ?_)
  refine pt_callV C (As := [.int (v1 + 1)]) (rest := []) (v := (some (.ref q3.1))) (fun l => con_Jx4a65c_grow_92f84 l a0 (v1 + 1) h _ g4) tw_405 tw_402 tw_404 tp_2 kJx4a65c g5 tw_5 yn_Jx4a65c_grow_92f84 (by decide) (Nat.le_of_ble_eq_true rfl) dJx4a65c_grow_d5877_7 rfl ?_
  show PT X 1 1 16 10 [(0, .ref a0)] [.ref q3.1] q3.2
  exact pt_aret C (v := some q3.1) (by first | exact Or.inl ⟨_, rfl⟩ | exact Or.inr ⟨_, rfl⟩) (K _ _ (Option.some.inj hf).symm) (by decide) (by decide) dJx4a65c_grow_d5877_10
theorem con_Jx4a65c_grow_d5877 (l : Launch) (a0 : Nat) (h : AH) (q : Nat × AH) (hf : f_Jx4a65c_grow_d5877 a0 h = some q) : Con l yJx4a65c_grow_d5877 cJx4a65c_grow_d5877 1 (some (.array (.object "java/lang/Object"))) rmJx4a65c_grow_d5877 [.ref a0] h (some (.ref q.1)) q.2 := Con.of (by decide +kernel) (Nat.le_of_ble_eq_true rfl) (fun X C I K => w_Jx4a65c_grow_d5877_0 C a0 h q hf (fun v h2 e => by cases e; exact K))
abbrev rmJx4a65c_add_72be8 : Room := { frames := 5, cells := 1, slots := 16, locals := 147 }
theorem yn_Jx4a65c_add_72be8 : YN yJx4a65c_add_72be8 3 := by refine ⟨?_, ?_, ?_⟩ <;> decide +kernel
set_option maxRecDepth 100000 in
set_option maxHeartbeats 4000000 in
theorem w_Jx4a65c_add_72be8_J11 {X : MX} (C : CX X cJx4a65c_add_72be8 4 RJx4a65c none rmJx4a65c_add_72be8) (a0 : Nat) (a1 : Nat) (a3 : Int32) (y2 : Nat) (h : AH) (res : AH) (hf : f_Jx4a65c_add_72be8_J11 a0 a1 a3 y2 h = some res) (K : PR X rmJx4a65c_add_72be8 none res) : PT X 4 1 16 11 [(0, .ref a0), (1, .ref a1), (2, .ref y2), (3, .int a3)] [] h := by
  unfold f_Jx4a65c_add_72be8_J11 at hf
  refine pt_aload_n C 2 rfl rfl dJx4a65c_add_72be8_11 ?_
  refine pt_iload_n C 3 rfl rfl dJx4a65c_add_72be8_12 ?_
  refine pt_aload_n C 1 rfl rfl dJx4a65c_add_72be8_13 ?_
  refine ob hf (fun h4 g5 hf => ?_)
  refine pt_aast C g5 dJx4a65c_add_72be8_14 ?_
  refine pt_aload_n C 0 rfl rfl dJx4a65c_add_72be8_15 ?_
  refine pt_iload_n C 3 rfl rfl dJx4a65c_add_72be8_16 ?_
  refine pt_iconst C (v := 1) (by decide) dJx4a65c_add_72be8_17 ?_
  refine pt_iadd C dJx4a65c_add_72be8_18 ?_
  refine ob hf (fun h6 g7 hf => ?_)
  refine pt_put C kJx4a65c 2 (by decide) tw_70 (Or.inl rfl) rfl rfl rfl g7 dJx4a65c_add_72be8_19 ?_
  obtain rfl := Option.some.inj hf
  exact pt_vret C K (by decide) (by decide) dJx4a65c_add_72be8_22
set_option maxRecDepth 100000 in
set_option maxHeartbeats 4000000 in
theorem w_Jx4a65c_add_72be8_0 {X : MX} (C : CX X cJx4a65c_add_72be8 4 RJx4a65c none rmJx4a65c_add_72be8) (a0 : Nat) (a1 : Nat) (a2 : Nat) (a3 : Int32) (h : AH) (res : AH) (hf : f_Jx4a65c_add_72be8 a0 a1 a2 a3 h = some res) (K : PR X rmJx4a65c_add_72be8 none res) : PT X 4 0 0 0 [(0, .ref a0), (1, .ref a1), (2, .ref a2), (3, .int a3)] [] h := by
  unfold f_Jx4a65c_add_72be8 at hf
  refine pt_iload_n C 3 rfl rfl dJx4a65c_add_72be8_0 ?_
  refine pt_aload_n C 2 rfl rfl dJx4a65c_add_72be8_1 ?_
  refine ob hf (fun v1 g2 hf => ?_)
  refine pt_alen C g2 dJx4a65c_add_72be8_2 ?_
  refine pt_icmp_ne C (tgt := 11) (by decide) dJx4a65c_add_72be8_3 (fun c3 => ?_) (fun c3 => ?_)
  · rw [if_neg c3] at hf
    refine pt_widen C (c2 := 1) (s2 := 16) (by decide) (by decide) ?_
    exact w_Jx4a65c_add_72be8_J11 C a0 a1 a3 a2 h _ hf K
  · rw [if_pos c3] at hf
    refine pt_aload_n C 0 rfl rfl dJx4a65c_add_72be8_6 ?_
    refine ob hf (fun _ g10 hf => ?_)
    refine ob hf (fun q8 g9 hf => ?_)
    refine pt_callV C (As := []) (rest := []) (v := (some (.ref q8.1))) (fun l => con_Jx4a65c_grow_d5877 l a0 h _ g9) tw_401 tw_398 tw_400 tp_1 kJx4a65c g10 tw_5 yn_Jx4a65c_grow_d5877 (by decide) (Nat.le_of_ble_eq_true rfl) dJx4a65c_add_72be8_7 rfl ?_
    show PT X 4 1 16 10 [(0, .ref a0), (1, .ref a1), (2, .ref a2), (3, .int a3)] [.ref q8.1] q8.2
    refine pt_astore_n C [(2, .ref q8.1), (0, .ref a0), (1, .ref a1), (3, .int a3)] rfl (by decide) rfl dJx4a65c_add_72be8_10 ?_
    refine pt_sub C [(0, .ref a0), (1, .ref a1), (2, .ref q8.1), (3, .int a3)] [1, 2, 0, 3] rfl ?_
    exact w_Jx4a65c_add_72be8_J11 C a0 a1 a3 q8.1 q8.2 _ hf K
theorem con_Jx4a65c_add_72be8 (l : Launch) (a0 : Nat) (a1 : Nat) (a2 : Nat) (a3 : Int32) (h : AH) (q : AH) (hf : f_Jx4a65c_add_72be8 a0 a1 a2 a3 h = some q) : Con l yJx4a65c_add_72be8 cJx4a65c_add_72be8 4 none rmJx4a65c_add_72be8 [.ref a0, .ref a1, .ref a2, .int a3] h none q := Con.of (by decide +kernel) (Nat.le_of_ble_eq_true rfl) (fun X C I K => w_Jx4a65c_add_72be8_0 C a0 a1 a2 a3 h q hf K)
abbrev rmJx4a65c_add_9ea2d : Room := { frames := 6, cells := 1, slots := 16, locals := 170 }
theorem yn_Jx4a65c_add_9ea2d : YN yJx4a65c_add_9ea2d 1 := by refine ⟨?_, ?_, ?_⟩ <;> decide +kernel
set_option maxRecDepth 100000 in
set_option maxHeartbeats 4000000 in
theorem w_Jx4a65c_add_9ea2d_0 {X : MX} (C : CX X cJx4a65c_add_9ea2d 2 RJx4a65c (some .boolean) rmJx4a65c_add_9ea2d) (a0 : Nat) (a1 : Nat) (h : AH) (res : Int32 × AH) (hf : f_Jx4a65c_add_9ea2d a0 a1 h = some res) (K : ∀ (v : Int32) (h2 : AH), res = (v, h2) → PR X rmJx4a65c_add_9ea2d (some (.int v)) h2) : PT X 2 0 0 0 [(0, .ref a0), (1, .ref a1)] [] h := by
  unfold f_Jx4a65c_add_9ea2d at hf
  refine pt_aload_n C 0 rfl rfl dJx4a65c_add_9ea2d_0 ?_
  refine pt_dup C rfl dJx4a65c_add_9ea2d_1 ?_
  refine ob hf (fun v1 g2 hf => ?_)
  refine pt_getI C kJx4a65c 0 (by decide) tw_72 (Or.inr tw_73) g2 dJx4a65c_add_9ea2d_2 ?_
  refine pt_iconst C (v := 1) (by decide) dJx4a65c_add_9ea2d_5 ?_
  refine pt_iadd C dJx4a65c_add_9ea2d_6 ?_
  refine ob hf (fun h3 g4 hf => ?_)
  refine pt_put C kJx4a65c 0 (by decide) tw_72 (Or.inr tw_73) rfl rfl rfl g4 dJx4a65c_add_9ea2d_7 ?_
  refine pt_aload_n C 0 rfl rfl dJx4a65c_add_9ea2d_10 ?_
  refine pt_aload_n C 1 rfl rfl dJx4a65c_add_9ea2d_11 ?_
  refine pt_aload_n C 0 rfl rfl dJx4a65c_add_9ea2d_12 ?_
  refine ob hf (fun v5 g6 hf => ?_)
  refine pt_getR C kJx4a65c 1 (by decide) tw_69 (Or.inl rfl) g6 dJx4a65c_add_9ea2d_13 ?_
  refine pt_aload_n C 0 rfl rfl dJx4a65c_add_9ea2d_16 ?_
  refine ob hf (fun v7 g8 hf => ?_)
  refine pt_getI C kJx4a65c 2 (by decide) tw_70 (Or.inl rfl) g8 dJx4a65c_add_9ea2d_17 ?_
  refine ob hf (fun _ g11 hf => ?_)
  refine ob hf (fun q9 g10 hf => ?_)
  refine pt_callV C (As := [.ref a1, .ref v5, .int v7]) (rest := []) (v := none) (fun l => con_Jx4a65c_add_72be8 l a0 a1 v5 v7 h3 _ g10) tw_397 tw_394 tw_396 tp_0 kJx4a65c g11 tw_5 yn_Jx4a65c_add_72be8 (by decide) (Nat.le_of_ble_eq_true rfl) dJx4a65c_add_9ea2d_20 rfl ?_
  show PT X 2 1 16 23 [(0, .ref a0), (1, .ref a1)] [] q9
  refine pt_iconst C (v := 1) (by decide) dJx4a65c_add_9ea2d_23 ?_
  exact pt_zret C (by decide) (K _ _ (Option.some.inj hf).symm) (by decide) (by decide) dJx4a65c_add_9ea2d_24
theorem con_Jx4a65c_add_9ea2d (l : Launch) (a0 : Nat) (a1 : Nat) (h : AH) (q : Int32 × AH) (hf : f_Jx4a65c_add_9ea2d a0 a1 h = some q) : Con l yJx4a65c_add_9ea2d cJx4a65c_add_9ea2d 2 (some .boolean) rmJx4a65c_add_9ea2d [.ref a0, .ref a1] h (some (.int q.1)) q.2 := Con.of (by decide +kernel) (Nat.le_of_ble_eq_true rfl) (fun X C I K => w_Jx4a65c_add_9ea2d_0 C a0 a1 h q hf (fun v h2 e => by cases e; exact K))
abbrev rmJx4a65c_elementData_915e3 : Room := { frames := 0, cells := 0, slots := 0, locals := 0 }
theorem yn_Jx4a65c_elementData_915e3 : YN yJx4a65c_elementData_915e3 1 := by refine ⟨?_, ?_, ?_⟩ <;> decide +kernel
set_option maxRecDepth 100000 in
set_option maxHeartbeats 4000000 in
theorem w_Jx4a65c_elementData_915e3_0 {X : MX} (C : CX X cJx4a65c_elementData_915e3 2 RJx4a65c (some (.object "java/lang/Object")) rmJx4a65c_elementData_915e3) (a0 : Nat) (a1 : Int32) (h : AH) (res : Nat × AH) (hf : f_Jx4a65c_elementData_915e3 a0 a1 h = some res) (K : ∀ (v : Nat) (h2 : AH), res = (v, h2) → PR X rmJx4a65c_elementData_915e3 (some (.ref v)) h2) : PT X 2 0 0 0 [(0, .ref a0), (1, .int a1)] [] h := by
  unfold f_Jx4a65c_elementData_915e3 at hf
  refine pt_aload_n C 0 rfl rfl dJx4a65c_elementData_915e3_0 ?_
  refine ob hf (fun v1 g2 hf => ?_)
  refine pt_getR C kJx4a65c 1 (by decide) tw_69 (Or.inl rfl) g2 dJx4a65c_elementData_915e3_1 ?_
  refine pt_iload_n C 1 rfl rfl dJx4a65c_elementData_915e3_4 ?_
  refine ob hf (fun v3 g4 hf => ?_)
  refine pt_aald3 C g4 dJx4a65c_elementData_915e3_5 ?_
  exact pt_aret C (v := some v3) (by first | exact Or.inl ⟨_, rfl⟩ | exact Or.inr ⟨_, rfl⟩) (K _ _ (Option.some.inj hf).symm) (by decide) (by decide) dJx4a65c_elementData_915e3_6
theorem con_Jx4a65c_elementData_915e3 (l : Launch) (a0 : Nat) (a1 : Int32) (h : AH) (q : Nat × AH) (hf : f_Jx4a65c_elementData_915e3 a0 a1 h = some q) : Con l yJx4a65c_elementData_915e3 cJx4a65c_elementData_915e3 2 (some (.object "java/lang/Object")) rmJx4a65c_elementData_915e3 [.ref a0, .int a1] h (some (.ref q.1)) q.2 := Con.of (by decide +kernel) (Nat.le_of_ble_eq_true rfl) (fun X C I K => w_Jx4a65c_elementData_915e3_0 C a0 a1 h q hf (fun v h2 e => by cases e; exact K))
abbrev rmJx4a65c_get_915e3 : Room := { frames := 2, cells := 0, slots := 0, locals := 43 }
theorem yn_Jx4a65c_get_915e3 : YN yJx4a65c_get_915e3 1 := by refine ⟨?_, ?_, ?_⟩ <;> decide +kernel
set_option maxRecDepth 100000 in
set_option maxHeartbeats 4000000 in
theorem w_Jx4a65c_get_915e3_0 {X : MX} (C : CX X cJx4a65c_get_915e3 2 RJx4a65c (some (.object "java/lang/Object")) rmJx4a65c_get_915e3) (a0 : Nat) (a1 : Int32) (h : AH) (res : Nat × AH) (hf : f_Jx4a65c_get_915e3 a0 a1 h = some res) (K : ∀ (v : Nat) (h2 : AH), res = (v, h2) → PR X rmJx4a65c_get_915e3 (some (.ref v)) h2) : PT X 2 0 0 0 [(0, .ref a0), (1, .int a1)] [] h := by
  unfold f_Jx4a65c_get_915e3 at hf
  refine pt_iload_n C 1 rfl rfl dJx4a65c_get_915e3_0 ?_
  refine pt_aload_n C 0 rfl rfl dJx4a65c_get_915e3_1 ?_
  refine ob hf (fun v1 g2 hf => ?_)
  refine pt_getI C kJx4a65c 2 (by decide) tw_70 (Or.inl rfl) g2 dJx4a65c_get_915e3_2 ?_
  refine ob hf (fun q3 g4 hf => ?_)
  refine pt_callS C (As := [.int a1, .int v1]) (rest := []) (v := (some (.int q3.1))) (fun l => con_J15_checkIndex_7cf53 l a1 v1 h _ g4) tw_468 tw_466 tw_467 tw_19 yn_J15_checkIndex_7cf53 (by decide) (Nat.le_of_ble_eq_true rfl) dJx4a65c_get_915e3_5 rfl ?_
  show PT X 2 0 0 8 [(0, .ref a0), (1, .int a1)] [.int q3.1] q3.2
  refine pt_pop C rfl dJx4a65c_get_915e3_8 ?_
  refine pt_aload_n C 0 rfl rfl dJx4a65c_get_915e3_9 ?_
  refine pt_iload_n C 1 rfl rfl dJx4a65c_get_915e3_10 ?_
  refine ob hf (fun _ g7 hf => ?_)
  refine ob hf (fun q5 g6 hf => ?_)
  refine pt_callV C (As := [.int a1]) (rest := []) (v := (some (.ref q5.1))) (fun l => con_Jx4a65c_elementData_915e3 l a0 a1 q3.2 _ g6) tw_475 tw_472 tw_473 tw_474 kJx4a65c g7 tw_5 yn_Jx4a65c_elementData_915e3 (by decide) (Nat.le_of_ble_eq_true rfl) dJx4a65c_get_915e3_11 rfl ?_
  show PT X 2 0 0 14 [(0, .ref a0), (1, .int a1)] [.ref q5.1] q5.2
  exact pt_aret C (v := some q5.1) (by first | exact Or.inl ⟨_, rfl⟩ | exact Or.inr ⟨_, rfl⟩) (K _ _ (Option.some.inj hf).symm) (by decide) (by decide) dJx4a65c_get_915e3_14
theorem con_Jx4a65c_get_915e3 (l : Launch) (a0 : Nat) (a1 : Int32) (h : AH) (q : Nat × AH) (hf : f_Jx4a65c_get_915e3 a0 a1 h = some q) : Con l yJx4a65c_get_915e3 cJx4a65c_get_915e3 2 (some (.object "java/lang/Object")) rmJx4a65c_get_915e3 [.ref a0, .int a1] h (some (.ref q.1)) q.2 := Con.of (by decide +kernel) (Nat.le_of_ble_eq_true rfl) (fun X C I K => w_Jx4a65c_get_915e3_0 C a0 a1 h q hf (fun v h2 e => by cases e; exact K))
abbrev rmJxa1e45_init_da8c8 : Room := { frames := 1, cells := 0, slots := 0, locals := 20 }
theorem yn_Jxa1e45_init_da8c8 : YN yJxa1e45_init_da8c8 0 := by refine ⟨?_, ?_, ?_⟩ <;> decide +kernel
set_option maxRecDepth 100000 in
set_option maxHeartbeats 4000000 in
theorem w_Jxa1e45_init_da8c8_0 {X : MX} (C : CX X cJxa1e45_init_da8c8 1 RJxa1e45 none rmJxa1e45_init_da8c8) (I : IN X) (a0 : Nat) (h : AH) (res : AH) (hf : f_Jxa1e45_init_da8c8 a0 h = some res) (K : PR X rmJxa1e45_init_da8c8 none res) : PT X 1 0 0 0 [(0, .ref a0)] [] h := by
  unfold f_Jxa1e45_init_da8c8 at hf
  refine pt_aload_n C 0 rfl rfl dJxa1e45_init_da8c8_0 ?_
  refine pt_objInit C tw_66 tw_30 tw_31 (by decide) (Nat.le_of_ble_eq_true rfl) dJxa1e45_init_da8c8_1 ?_
  obtain rfl := Option.some.inj hf
  exact pt_vret C K (by decide) (by decide) dJxa1e45_init_da8c8_4
theorem con_Jxa1e45_init_da8c8 (l : Launch) (a0 : Nat) (h : AH) (q : AH) (hf : f_Jxa1e45_init_da8c8 a0 h = some q) : Con l yJxa1e45_init_da8c8 cJxa1e45_init_da8c8 1 none rmJxa1e45_init_da8c8 [.ref a0] h none q := Con.of (by decide +kernel) (Nat.le_of_ble_eq_true rfl) (fun X C I K => w_Jxa1e45_init_da8c8_0 C (I rfl) a0 h q hf K)
abbrev rmJxc12de_init_da8c8 : Room := { frames := 2, cells := 0, slots := 0, locals := 40 }
theorem yn_Jxc12de_init_da8c8 : YN yJxc12de_init_da8c8 0 := by refine ⟨?_, ?_, ?_⟩ <;> decide +kernel
set_option maxRecDepth 100000 in
set_option maxHeartbeats 4000000 in
theorem w_Jxc12de_init_da8c8_0 {X : MX} (C : CX X cJxc12de_init_da8c8 1 RJxc12de none rmJxc12de_init_da8c8) (I : IN X) (a0 : Nat) (h : AH) (res : AH) (hf : f_Jxc12de_init_da8c8 a0 h = some res) (K : PR X rmJxc12de_init_da8c8 none res) : PT X 1 0 0 0 [(0, .ref a0)] [] h := by
  unfold f_Jxc12de_init_da8c8 at hf
  refine pt_aload_n C 0 rfl rfl dJxc12de_init_da8c8_0 ?_
  refine ob hf (fun q1 g2 hf => ?_)
  refine pt_callI C (As := []) (rest := []) (v := none) (fun l => con_Jxa1e45_init_da8c8 l a0 h _ g2) tw_65 tw_63 tw_64 rfl tw_3 yn_Jxa1e45_init_da8c8 (by decide) (Nat.le_of_ble_eq_true rfl) dJxc12de_init_da8c8_1 rfl ?_
  show PT X 1 0 0 4 [(0, .ref a0)] [] q1
  refine pt_aload_n C 0 rfl rfl dJxc12de_init_da8c8_4 ?_
  refine pt_iconst C (v := 0) (by decide) dJxc12de_init_da8c8_5 ?_
  refine ob hf (fun h3 g4 hf => ?_)
  refine pt_put C kJx4a65c 0 (by decide) tw_71 (Or.inl rfl) rfl rfl rfl g4 dJxc12de_init_da8c8_6 ?_
  obtain rfl := Option.some.inj hf
  exact pt_vret C K (by decide) (by decide) dJxc12de_init_da8c8_9
theorem con_Jxc12de_init_da8c8 (l : Launch) (a0 : Nat) (h : AH) (q : AH) (hf : f_Jxc12de_init_da8c8 a0 h = some q) : Con l yJxc12de_init_da8c8 cJxc12de_init_da8c8 1 none rmJxc12de_init_da8c8 [.ref a0] h none q := Con.of (by decide +kernel) (Nat.le_of_ble_eq_true rfl) (fun X C I K => w_Jxc12de_init_da8c8_0 C (I rfl) a0 h q hf K)
abbrev rmJx4a65c_init_da8c8 : Room := { frames := 3, cells := 0, slots := 0, locals := 60 }
theorem yn_Jx4a65c_init_da8c8 : YN yJx4a65c_init_da8c8 0 := by refine ⟨?_, ?_, ?_⟩ <;> decide +kernel
set_option maxRecDepth 100000 in
set_option maxHeartbeats 4000000 in
theorem w_Jx4a65c_init_da8c8_0 {X : MX} (C : CX X cJx4a65c_init_da8c8 1 RJx4a65c none rmJx4a65c_init_da8c8) (I : IN X) (a0 : Nat) (h : AH) (res : AH) (hf : f_Jx4a65c_init_da8c8 a0 h = some res) (K : PR X rmJx4a65c_init_da8c8 none res) : PT X 1 0 0 0 [(0, .ref a0)] [] h := by
  unfold f_Jx4a65c_init_da8c8 at hf
  refine pt_aload_n C 0 rfl rfl dJx4a65c_init_da8c8_0 ?_
  refine ob hf (fun q1 g2 hf => ?_)
  refine pt_callI C (As := []) (rest := []) (v := none) (fun l => con_Jxc12de_init_da8c8 l a0 h _ g2) tw_62 tw_60 tw_61 rfl tw_4 yn_Jxc12de_init_da8c8 (by decide) (Nat.le_of_ble_eq_true rfl) dJx4a65c_init_da8c8_1 rfl ?_
  show PT X 1 0 0 4 [(0, .ref a0)] [] q1
  refine pt_aload_n C 0 rfl rfl dJx4a65c_init_da8c8_4 ?_
  refine pt_gets C tw_67 rfl dJx4a65c_init_da8c8_5 ?_
  refine ob hf (fun h3 g4 hf => ?_)
  refine pt_put C kJx4a65c 1 (by decide) tw_69 (Or.inl rfl) rfl rfl rfl g4 dJx4a65c_init_da8c8_8 ?_
  obtain rfl := Option.some.inj hf
  exact pt_vret C K (by decide) (by decide) dJx4a65c_init_da8c8_11
theorem con_Jx4a65c_init_da8c8 (l : Launch) (a0 : Nat) (h : AH) (q : AH) (hf : f_Jx4a65c_init_da8c8 a0 h = some q) : Con l yJx4a65c_init_da8c8 cJx4a65c_init_da8c8 1 none rmJx4a65c_init_da8c8 [.ref a0] h none q := Con.of (by decide +kernel) (Nat.le_of_ble_eq_true rfl) (fun X C I K => w_Jx4a65c_init_da8c8_0 C (I rfl) a0 h q hf K)
abbrev rmJx4a65c_isEmpty_aae02 : Room := { frames := 0, cells := 0, slots := 0, locals := 0 }
theorem yn_Jx4a65c_isEmpty_aae02 : YN yJx4a65c_isEmpty_aae02 0 := by refine ⟨?_, ?_, ?_⟩ <;> decide +kernel
set_option maxRecDepth 100000 in
set_option maxHeartbeats 4000000 in
theorem w_Jx4a65c_isEmpty_aae02_0 {X : MX} (C : CX X cJx4a65c_isEmpty_aae02 1 RJx4a65c (some .boolean) rmJx4a65c_isEmpty_aae02) (a0 : Nat) (h : AH) (res : Int32 × AH) (hf : f_Jx4a65c_isEmpty_aae02 a0 h = some res) (K : ∀ (v : Int32) (h2 : AH), res = (v, h2) → PR X rmJx4a65c_isEmpty_aae02 (some (.int v)) h2) : PT X 1 0 0 0 [(0, .ref a0)] [] h := by
  unfold f_Jx4a65c_isEmpty_aae02 at hf
  refine pt_aload_n C 0 rfl rfl dJx4a65c_isEmpty_aae02_0 ?_
  refine ob hf (fun v1 g2 hf => ?_)
  refine pt_getI C kJx4a65c 2 (by decide) tw_70 (Or.inl rfl) g2 dJx4a65c_isEmpty_aae02_1 ?_
  refine pt_if_ne C (tgt := 11) (by decide) dJx4a65c_isEmpty_aae02_4 (fun c3 => ?_) (fun c3 => ?_)
  · rw [if_neg c3] at hf
    refine pt_iconst C (v := 0) (by decide) dJx4a65c_isEmpty_aae02_11 ?_
    exact pt_zret C (by decide) (K _ _ (Option.some.inj hf).symm) (by decide) (by decide) dJx4a65c_isEmpty_aae02_12
  · rw [if_pos c3] at hf
    refine pt_iconst C (v := 1) (by decide) dJx4a65c_isEmpty_aae02_7 ?_
    refine pt_goto C (tgt := 12) (by decide) dJx4a65c_isEmpty_aae02_8 ?_
    exact pt_zret C (by decide) (K _ _ (Option.some.inj hf).symm) (by decide) (by decide) dJx4a65c_isEmpty_aae02_12
theorem con_Jx4a65c_isEmpty_aae02 (l : Launch) (a0 : Nat) (h : AH) (q : Int32 × AH) (hf : f_Jx4a65c_isEmpty_aae02 a0 h = some q) : Con l yJx4a65c_isEmpty_aae02 cJx4a65c_isEmpty_aae02 1 (some .boolean) rmJx4a65c_isEmpty_aae02 [.ref a0] h (some (.int q.1)) q.2 := Con.of (by decide +kernel) (Nat.le_of_ble_eq_true rfl) (fun X C I K => w_Jx4a65c_isEmpty_aae02_0 C a0 h q hf (fun v h2 e => by cases e; exact K))
abbrev rmJx4a65c_size_8abf5 : Room := { frames := 0, cells := 0, slots := 0, locals := 0 }
theorem yn_Jx4a65c_size_8abf5 : YN yJx4a65c_size_8abf5 0 := by refine ⟨?_, ?_, ?_⟩ <;> decide +kernel
set_option maxRecDepth 100000 in
set_option maxHeartbeats 4000000 in
theorem w_Jx4a65c_size_8abf5_0 {X : MX} (C : CX X cJx4a65c_size_8abf5 1 RJx4a65c (some .int) rmJx4a65c_size_8abf5) (a0 : Nat) (h : AH) (res : Int32 × AH) (hf : f_Jx4a65c_size_8abf5 a0 h = some res) (K : ∀ (v : Int32) (h2 : AH), res = (v, h2) → PR X rmJx4a65c_size_8abf5 (some (.int v)) h2) : PT X 1 0 0 0 [(0, .ref a0)] [] h := by
  unfold f_Jx4a65c_size_8abf5 at hf
  refine pt_aload_n C 0 rfl rfl dJx4a65c_size_8abf5_0 ?_
  refine ob hf (fun v1 g2 hf => ?_)
  refine pt_getI C kJx4a65c 2 (by decide) tw_70 (Or.inl rfl) g2 dJx4a65c_size_8abf5_1 ?_
  exact pt_iret C (K _ _ (Option.some.inj hf).symm) (by decide) (by decide) dJx4a65c_size_8abf5_4
theorem con_Jx4a65c_size_8abf5 (l : Launch) (a0 : Nat) (h : AH) (q : Int32 × AH) (hf : f_Jx4a65c_size_8abf5 a0 h = some q) : Con l yJx4a65c_size_8abf5 cJx4a65c_size_8abf5 1 (some .int) rmJx4a65c_size_8abf5 [.ref a0] h (some (.int q.1)) q.2 := Con.of (by decide +kernel) (Nat.le_of_ble_eq_true rfl) (fun X C I K => w_Jx4a65c_size_8abf5_0 C a0 h q hf (fun v h2 e => by cases e; exact K))
abbrev rmX0_add : Room := { frames := 0, cells := 0, slots := 0, locals := 0 }
theorem yn_X0_add : YN yX0_add 4 := by refine ⟨?_, ?_, ?_⟩ <;> decide +kernel
set_option maxRecDepth 100000 in
set_option maxHeartbeats 4000000 in
theorem w_X0_add_0 {X : MX} (C : CX X cX0_add 5 RX0 (some .boolean) rmX0_add) (a0 : Nat) (a1 : Int32) (a2 : Int32) (a3 : Int32) (a4 : Int32) (h : AH) (res : Int32 × AH) (hf : f_X0_add a0 a1 a2 a3 a4 h = some res) (K : ∀ (v : Int32) (h2 : AH), res = (v, h2) → PR X rmX0_add (some (.int v)) h2) : PT X 5 0 0 0 [(0, .ref a0), (1, .int a1), (2, .int a2), (3, .int a3), (4, .int a4)] [] h := by
  unfold f_X0_add at hf
  refine pt_aload_n C 0 rfl rfl dX0_add_0 ?_
  refine ob hf (fun v1 g2 hf => ?_)
  refine pt_getI C kX0 6 (by decide) tw_102 (Or.inl rfl) g2 dX0_add_1 ?_
  refine pt_bipush C (v := 10) (by decide) dX0_add_4 ?_
  refine pt_icmp_lt C (tgt := 11) (by decide) dX0_add_6 (fun c3 => ?_) (fun c3 => ?_)
  · rw [if_pos c3] at hf
    refine pt_aload_n C 0 rfl rfl dX0_add_11 ?_
    refine ob hf (fun v4 g5 hf => ?_)
    refine pt_getR C kX0 0 (by decide) tw_87 (Or.inl rfl) g5 dX0_add_12 ?_
    refine pt_aload_n C 0 rfl rfl dX0_add_15 ?_
    refine ob hf (fun v6 g7 hf => ?_)
    refine pt_getI C kX0 6 (by decide) tw_102 (Or.inl rfl) g7 dX0_add_16 ?_
    refine pt_iload_n C 1 rfl rfl dX0_add_19 ?_
    refine ob hf (fun h8 g9 hf => ?_)
    refine pt_iast C g9 dX0_add_20 ?_
    refine pt_aload_n C 0 rfl rfl dX0_add_21 ?_
    refine ob hf (fun v10 g11 hf => ?_)
    refine pt_getR C kX0 1 (by decide) tw_89 (Or.inl rfl) g11 dX0_add_22 ?_
    refine pt_aload_n C 0 rfl rfl dX0_add_25 ?_
    refine ob hf (fun v12 g13 hf => ?_)
    refine pt_getI C kX0 6 (by decide) tw_102 (Or.inl rfl) g13 dX0_add_26 ?_
    refine pt_iload_n C 2 rfl rfl dX0_add_29 ?_
    refine ob hf (fun h14 g15 hf => ?_)
    refine pt_iast C g15 dX0_add_30 ?_
    refine pt_aload_n C 0 rfl rfl dX0_add_31 ?_
    refine ob hf (fun v16 g17 hf => ?_)
    refine pt_getR C kX0 2 (by decide) tw_91 (Or.inl rfl) g17 dX0_add_32 ?_
    refine pt_aload_n C 0 rfl rfl dX0_add_35 ?_
    refine ob hf (fun v18 g19 hf => ?_)
    refine pt_getI C kX0 6 (by decide) tw_102 (Or.inl rfl) g19 dX0_add_36 ?_
    refine pt_iload_n C 3 rfl rfl dX0_add_39 ?_
    refine ob hf (fun h20 g21 hf => ?_)
    refine pt_iast C g21 dX0_add_40 ?_
    refine pt_aload_n C 0 rfl rfl dX0_add_41 ?_
    refine ob hf (fun v22 g23 hf => ?_)
    refine pt_getR C kX0 3 (by decide) tw_93 (Or.inl rfl) g23 dX0_add_42 ?_
    refine pt_aload_n C 0 rfl rfl dX0_add_45 ?_
    refine ob hf (fun v24 g25 hf => ?_)
    refine pt_getI C kX0 6 (by decide) tw_102 (Or.inl rfl) g25 dX0_add_46 ?_
    refine pt_iload C 4 rfl dX0_add_49 ?_
    refine ob hf (fun h26 g27 hf => ?_)
    refine pt_iast C g27 dX0_add_51 ?_
    refine pt_aload_n C 0 rfl rfl dX0_add_52 ?_
    refine ob hf (fun v28 g29 hf => ?_)
    refine pt_getR C kX0 5 (by decide) tw_98 (Or.inl rfl) g29 dX0_add_53 ?_
    refine pt_aload_n C 0 rfl rfl dX0_add_56 ?_
    refine ob hf (fun v30 g31 hf => ?_)
    refine pt_getI C kX0 6 (by decide) tw_102 (Or.inl rfl) g31 dX0_add_57 ?_
    refine pt_iload_n C 1 rfl rfl dX0_add_60 ?_
    refine ob hf (fun h32 g33 hf => ?_)
    refine pt_iast C g33 dX0_add_61 ?_
    refine pt_aload_n C 0 rfl rfl dX0_add_62 ?_
    refine pt_dup C rfl dX0_add_63 ?_
    refine ob hf (fun v34 g35 hf => ?_)
    refine pt_getI C kX0 7 (by decide) tw_109 (Or.inl rfl) g35 dX0_add_64 ?_
    refine pt_iconst C (v := 1) (by decide) dX0_add_67 ?_
    refine pt_aload_n C 0 rfl rfl dX0_add_68 ?_
    refine ob hf (fun v36 g37 hf => ?_)
    refine pt_getI C kX0 6 (by decide) tw_102 (Or.inl rfl) g37 dX0_add_69 ?_
    refine pt_ishl C dX0_add_72 ?_
    refine pt_ior C dX0_add_73 ?_
    refine ob hf (fun h38 g39 hf => ?_)
    refine pt_put C kX0 7 (by decide) tw_109 (Or.inl rfl) rfl rfl rfl g39 dX0_add_74 ?_
    refine pt_aload_n C 0 rfl rfl dX0_add_77 ?_
    refine pt_dup C rfl dX0_add_78 ?_
    refine ob hf (fun v40 g41 hf => ?_)
    refine pt_getI C kX0 6 (by decide) tw_102 (Or.inl rfl) g41 dX0_add_79 ?_
    refine pt_iconst C (v := 1) (by decide) dX0_add_82 ?_
    refine pt_iadd C dX0_add_83 ?_
    refine ob hf (fun h42 g43 hf => ?_)
    refine pt_put C kX0 6 (by decide) tw_102 (Or.inl rfl) rfl rfl rfl g43 dX0_add_84 ?_
    refine pt_iconst C (v := 1) (by decide) dX0_add_87 ?_
    exact pt_zret C (by decide) (K _ _ (Option.some.inj hf).symm) (by decide) (by decide) dX0_add_88
  · rw [if_neg c3] at hf
    refine pt_iconst C (v := 0) (by decide) dX0_add_9 ?_
    exact pt_zret C (by decide) (K _ _ (Option.some.inj hf).symm) (by decide) (by decide) dX0_add_10
theorem con_X0_add (l : Launch) (a0 : Nat) (a1 : Int32) (a2 : Int32) (a3 : Int32) (a4 : Int32) (h : AH) (q : Int32 × AH) (hf : f_X0_add a0 a1 a2 a3 a4 h = some q) : Con l yX0_add cX0_add 5 (some .boolean) rmX0_add [.ref a0, .int a1, .int a2, .int a3, .int a4] h (some (.int q.1)) q.2 := Con.of (by decide +kernel) (Nat.le_of_ble_eq_true rfl) (fun X C I K => w_X0_add_0 C a0 a1 a2 a3 a4 h q hf (fun v h2 e => by cases e; exact K))
abbrev rmX0_allSet : Room := { frames := 0, cells := 0, slots := 0, locals := 0 }
theorem yn_X0_allSet : YN yX0_allSet 0 := by refine ⟨?_, ?_, ?_⟩ <;> decide +kernel
set_option maxRecDepth 100000 in
set_option maxHeartbeats 4000000 in
theorem w_X0_allSet_0 {X : MX} (C : CX X cX0_allSet 1 RX0 (some .int) rmX0_allSet) (a0 : Nat) (h : AH) (res : Int32 × AH) (hf : f_X0_allSet a0 h = some res) (K : ∀ (v : Int32) (h2 : AH), res = (v, h2) → PR X rmX0_allSet (some (.int v)) h2) : PT X 1 0 0 0 [(0, .ref a0)] [] h := by
  unfold f_X0_allSet at hf
  refine pt_iconst C (v := 1) (by decide) dX0_allSet_0 ?_
  refine pt_aload_n C 0 rfl rfl dX0_allSet_1 ?_
  refine ob hf (fun v1 g2 hf => ?_)
  refine pt_getI C kX0 6 (by decide) tw_102 (Or.inl rfl) g2 dX0_allSet_2 ?_
  refine pt_ishl C dX0_allSet_5 ?_
  refine pt_iconst C (v := 1) (by decide) dX0_allSet_6 ?_
  refine pt_isub C dX0_allSet_7 ?_
  exact pt_iret C (K _ _ (Option.some.inj hf).symm) (by decide) (by decide) dX0_allSet_8
theorem con_X0_allSet (l : Launch) (a0 : Nat) (h : AH) (q : Int32 × AH) (hf : f_X0_allSet a0 h = some q) : Con l yX0_allSet cX0_allSet 1 (some .int) rmX0_allSet [.ref a0] h (some (.int q.1)) q.2 := Con.of (by decide +kernel) (Nat.le_of_ble_eq_true rfl) (fun X C I K => w_X0_allSet_0 C a0 h q hf (fun v h2 e => by cases e; exact K))
abbrev rmX11_within : Room := { frames := 0, cells := 0, slots := 0, locals := 0 }
theorem yn_X11_within : YN yX11_within 3 := by refine ⟨?_, ?_, ?_⟩ <;> decide +kernel
set_option maxRecDepth 100000 in
set_option maxHeartbeats 4000000 in
theorem w_X11_within_0 {X : MX} (C : CX X cX11_within 3 RX11 (some .boolean) rmX11_within) (a0 : Int32) (a1 : Int32) (a2 : Int32) (h : AH) (res : Int32 × AH) (hf : f_X11_within a0 a1 a2 h = some res) (K : ∀ (v : Int32) (h2 : AH), res = (v, h2) → PR X rmX11_within (some (.int v)) h2) : PT X 3 0 0 0 [(0, .int a0), (1, .int a1), (2, .int a2)] [] h := by
  unfold f_X11_within at hf
  refine pt_iload_n C 0 rfl rfl dX11_within_0 ?_
  refine pt_iload_n C 1 rfl rfl dX11_within_1 ?_
  refine pt_icmp_lt C (tgt := 14) (by decide) dX11_within_2 (fun c1 => ?_) (fun c1 => ?_)
  · rw [if_pos c1] at hf
    refine pt_iconst C (v := 0) (by decide) dX11_within_14 ?_
    exact pt_zret C (by decide) (K _ _ (Option.some.inj hf).symm) (by decide) (by decide) dX11_within_15
  · rw [if_neg c1] at hf
    refine pt_iload_n C 0 rfl rfl dX11_within_5 ?_
    refine pt_iload_n C 2 rfl rfl dX11_within_6 ?_
    refine pt_icmp_gt C (tgt := 14) (by decide) dX11_within_7 (fun c2 => ?_) (fun c2 => ?_)
    · rw [if_pos c2] at hf
      refine pt_iconst C (v := 0) (by decide) dX11_within_14 ?_
      exact pt_zret C (by decide) (K _ _ (Option.some.inj hf).symm) (by decide) (by decide) dX11_within_15
    · rw [if_neg c2] at hf
      refine pt_iconst C (v := 1) (by decide) dX11_within_10 ?_
      refine pt_goto C (tgt := 15) (by decide) dX11_within_11 ?_
      exact pt_zret C (by decide) (K _ _ (Option.some.inj hf).symm) (by decide) (by decide) dX11_within_15
theorem con_X11_within (l : Launch) (a0 : Int32) (a1 : Int32) (a2 : Int32) (h : AH) (q : Int32 × AH) (hf : f_X11_within a0 a1 a2 h = some q) : Con l yX11_within cX11_within 3 (some .boolean) rmX11_within [.int a0, .int a1, .int a2] h (some (.int q.1)) q.2 := Con.of (by decide +kernel) (Nat.le_of_ble_eq_true rfl) (fun X C I K => w_X11_within_0 C a0 a1 a2 h q hf (fun v h2 e => by cases e; exact K))
abbrev rmX0_has : Room := { frames := 1, cells := 0, slots := 0, locals := 22 }
theorem yn_X0_has : YN yX0_has 1 := by refine ⟨?_, ?_, ?_⟩ <;> decide +kernel
set_option maxRecDepth 100000 in
set_option maxHeartbeats 4000000 in
theorem w_X0_has_0 {X : MX} (C : CX X cX0_has 2 RX0 (some .boolean) rmX0_has) (a0 : Nat) (a1 : Int32) (h : AH) (res : Int32 × AH) (hf : f_X0_has a0 a1 h = some res) (K : ∀ (v : Int32) (h2 : AH), res = (v, h2) → PR X rmX0_has (some (.int v)) h2) : PT X 2 0 0 0 [(0, .ref a0), (1, .int a1)] [] h := by
  unfold f_X0_has at hf
  refine pt_iload_n C 1 rfl rfl dX0_has_0 ?_
  refine pt_iconst C (v := 0) (by decide) dX0_has_1 ?_
  refine pt_aload_n C 0 rfl rfl dX0_has_2 ?_
  refine ob hf (fun v1 g2 hf => ?_)
  refine pt_getI C kX0 6 (by decide) tw_102 (Or.inl rfl) g2 dX0_has_3 ?_
  refine pt_iconst C (v := 1) (by decide) dX0_has_6 ?_
  refine pt_isub C dX0_has_7 ?_
  refine ob hf (fun q3 g4 hf => ?_)
  refine pt_callSN C (As := [.int a1, .int 0, .int (v1 - 1)]) (rest := []) (v := (some (.int q3.1))) (fun l => con_X11_within l a1 0 (v1 - 1) h _ g4) tw_461 (host := "HeaveSongs") (by decide +kernel) tw_460 tw_1 yn_X11_within (by decide) (Nat.le_of_ble_eq_true rfl) dX0_has_8 rfl ?_
  show PT X 2 0 0 11 [(0, .ref a0), (1, .int a1)] [.int q3.1] q3.2
  refine ob hf (fun _ g5 hf => ?_)
  exact pt_zret C (hzb_spec g5) (K _ _ (Option.some.inj hf).symm) (by decide) (by decide) dX0_has_11
theorem con_X0_has (l : Launch) (a0 : Nat) (a1 : Int32) (h : AH) (q : Int32 × AH) (hf : f_X0_has a0 a1 h = some q) : Con l yX0_has cX0_has 2 (some .boolean) rmX0_has [.ref a0, .int a1] h (some (.int q.1)) q.2 := Con.of (by decide +kernel) (Nat.le_of_ble_eq_true rfl) (fun X C I K => w_X0_has_0 C a0 a1 h q hf (fun v h2 e => by cases e; exact K))
abbrev rmX0_howManyAtStrength : Room := { frames := 0, cells := 0, slots := 0, locals := 0 }
theorem yn_X0_howManyAtStrength : YN yX0_howManyAtStrength 0 := by refine ⟨?_, ?_, ?_⟩ <;> decide +kernel
set_option maxRecDepth 100000 in
set_option maxHeartbeats 4000000 in
theorem w_X0_howManyAtStrength_L4 {X : MX} (C : CX X cX0_howManyAtStrength 3 RX0 (some .int) rmX0_howManyAtStrength) (x0 : Nat) (s : Int32 × Int32 × AH) (res : (Int32 × Int32 × AH) ⊕ ((Int32 × AH))) (hf : f_X0_howManyAtStrength_L4 x0 s = some res) (K0 : ∀ (u1 : Int32) (u2 : Int32) (hu : AH), res = .inl (u1, u2, hu) → PT X 3 0 0 4 [(0, .ref x0), (1, .int u1), (2, .int u2)] [] hu) (K1 : ∀ (u1 : Int32) (hu : AH), res = .inr ((u1, hu)) → PT X 3 0 0 36 [(1, .int u1)] [] hu) : PT X 3 0 0 4 [(0, .ref x0), (1, .int s.1), (2, .int s.2.1)] [] s.2.2 := by
  unfold f_X0_howManyAtStrength_L4 at hf
  refine pt_iload_n C 2 rfl rfl dX0_howManyAtStrength_4 ?_
  refine pt_aload_n C 0 rfl rfl dX0_howManyAtStrength_5 ?_
  refine ob hf (fun v1 g2 hf => ?_)
  refine pt_getI C kX0 6 (by decide) tw_102 (Or.inl rfl) g2 dX0_howManyAtStrength_6 ?_
  refine pt_icmp_ge C (tgt := 36) (by decide) dX0_howManyAtStrength_9 (fun c3 => ?_) (fun c3 => ?_)
  · rw [if_pos c3] at hf
    refine pt_sub C [(1, .int s.1)] [1] rfl ?_
    exact K1 _ _ (Option.some.inj hf).symm
  · rw [if_neg c3] at hf
    refine pt_aload_n C 0 rfl rfl dX0_howManyAtStrength_12 ?_
    refine ob hf (fun v4 g5 hf => ?_)
    refine pt_getR C kX0 5 (by decide) tw_98 (Or.inl rfl) g5 dX0_howManyAtStrength_13 ?_
    refine pt_iload_n C 2 rfl rfl dX0_howManyAtStrength_16 ?_
    refine ob hf (fun v6 g7 hf => ?_)
    refine pt_iald C g7 dX0_howManyAtStrength_17 ?_
    refine pt_aload_n C 0 rfl rfl dX0_howManyAtStrength_18 ?_
    refine ob hf (fun v8 g9 hf => ?_)
    refine pt_getR C kX0 0 (by decide) tw_87 (Or.inl rfl) g9 dX0_howManyAtStrength_19 ?_
    refine pt_iload_n C 2 rfl rfl dX0_howManyAtStrength_22 ?_
    refine ob hf (fun v10 g11 hf => ?_)
    refine pt_iald C g11 dX0_howManyAtStrength_23 ?_
    refine pt_icmp_ne C (tgt := 30) (by decide) dX0_howManyAtStrength_24 (fun c12 => ?_) (fun c12 => ?_)
    · rw [if_neg c12] at hf
      refine pt_iinc C 2 [(2, .int (s.2.1 + 1)), (0, .ref x0), (1, .int s.1)] rfl (iinc_eq s.2.1 (by decide)) (by decide) rfl dX0_howManyAtStrength_30 ?_
      refine pt_goto C (tgt := 4) (by decide) dX0_howManyAtStrength_33 ?_
      refine pt_sub C [(0, .ref x0), (1, .int s.1), (2, .int (s.2.1 + 1))] [1, 2, 0] rfl ?_
      exact K0 _ _ _ (Option.some.inj hf).symm
    · rw [if_pos c12] at hf
      refine pt_iinc C 1 [(1, .int (s.1 + 1)), (0, .ref x0), (2, .int s.2.1)] rfl (iinc_eq s.1 (by decide)) (by decide) rfl dX0_howManyAtStrength_27 ?_
      refine pt_iinc C 2 [(2, .int (s.2.1 + 1)), (1, .int (s.1 + 1)), (0, .ref x0)] rfl (iinc_eq s.2.1 (by decide)) (by decide) rfl dX0_howManyAtStrength_30 ?_
      refine pt_goto C (tgt := 4) (by decide) dX0_howManyAtStrength_33 ?_
      refine pt_sub C [(0, .ref x0), (1, .int (s.1 + 1)), (2, .int (s.2.1 + 1))] [2, 1, 0] rfl ?_
      exact K0 _ _ _ (Option.some.inj hf).symm
theorem l_X0_howManyAtStrength_L4 {X : MX} (C : CX X cX0_howManyAtStrength 3 RX0 (some .int) rmX0_howManyAtStrength) (x0 : Nat) : ∀ (n : Nat) (s : Int32 × Int32 × AH) (r : (Int32 × AH)), iter (f_X0_howManyAtStrength_L4 x0) n s = some r → (fun r : (Int32 × AH) => PT X 3 0 0 36 [(1, .int r.1)] [] r.2) r → PT X 3 0 0 4 [(0, .ref x0), (1, .int s.1), (2, .int s.2.1)] [] s.2.2 :=
  iter_W (fun s : Int32 × Int32 × AH => PT X 3 0 0 4 [(0, .ref x0), (1, .int s.1), (2, .int s.2.1)] [] s.2.2) (fun r : (Int32 × AH) => PT X 3 0 0 36 [(1, .int r.1)] [] r.2) _ (fun s s2 hf P => w_X0_howManyAtStrength_L4 C x0 s _ hf (fun u1 u2 hu e => by cases e; exact P) (fun u1 hu e => by cases e)) (fun s r hf P => w_X0_howManyAtStrength_L4 C x0 s _ hf (fun u1 u2 hu e => by cases e) (fun u1 hu e => by cases e; exact P))
set_option maxRecDepth 100000 in
set_option maxHeartbeats 4000000 in
theorem w_X0_howManyAtStrength_0 {X : MX} (C : CX X cX0_howManyAtStrength 3 RX0 (some .int) rmX0_howManyAtStrength) (a0 : Nat) (h : AH) (res : Int32 × AH) (hf : f_X0_howManyAtStrength a0 h = some res) (K : ∀ (v : Int32) (h2 : AH), res = (v, h2) → PR X rmX0_howManyAtStrength (some (.int v)) h2) : PT X 3 0 0 0 [(0, .ref a0)] [] h := by
  unfold f_X0_howManyAtStrength at hf
  refine pt_iconst C (v := 0) (by decide) dX0_howManyAtStrength_0 ?_
  refine pt_istore_n C [(1, .int 0), (0, .ref a0)] rfl (by decide) rfl dX0_howManyAtStrength_1 ?_
  refine pt_iconst C (v := 0) (by decide) dX0_howManyAtStrength_2 ?_
  refine pt_istore_n C [(2, .int 0), (1, .int 0), (0, .ref a0)] rfl (by decide) rfl dX0_howManyAtStrength_3 ?_
  refine pt_sub C [(0, .ref a0), (1, .int 0), (2, .int 0)] [2, 1, 0] rfl ?_
  refine ob hf (fun e13 g14 hf => ?_)
  refine l_X0_howManyAtStrength_L4 C a0 _ _ _ g14 ?_
  refine pt_iload_n C 0 rfl rfl dX0_howManyAtStrength_36 ?_
  exact pt_iret C (K _ _ (Option.some.inj hf).symm) (by decide) (by decide) dX0_howManyAtStrength_37
theorem con_X0_howManyAtStrength (l : Launch) (a0 : Nat) (h : AH) (q : Int32 × AH) (hf : f_X0_howManyAtStrength a0 h = some q) : Con l yX0_howManyAtStrength cX0_howManyAtStrength 3 (some .int) rmX0_howManyAtStrength [.ref a0] h (some (.int q.1)) q.2 := Con.of (by decide +kernel) (Nat.le_of_ble_eq_true rfl) (fun X C I K => w_X0_howManyAtStrength_0 C a0 h q hf (fun v h2 e => by cases e; exact K))
abbrev rmX0_init : Room := { frames := 1, cells := 6, slots := 60, locals := 20 }
theorem yn_X0_init : YN yX0_init 0 := by refine ⟨?_, ?_, ?_⟩ <;> decide +kernel
set_option maxRecDepth 100000 in
set_option maxHeartbeats 4000000 in
theorem w_X0_init_0 {X : MX} (C : CX X cX0_init 1 RX0 none rmX0_init) (I : IN X) (a0 : Nat) (h : AH) (res : AH) (hf : f_X0_init a0 h = some res) (K : PR X rmX0_init none res) : PT X 1 0 0 0 [(0, .ref a0)] [] h := by
  unfold f_X0_init at hf
  refine pt_aload_n C 0 rfl rfl dX0_init_0 ?_
  refine pt_objInit C tw_86 tw_30 tw_31 (by decide) (Nat.le_of_ble_eq_true rfl) dX0_init_1 ?_
  refine pt_aload_n C 0 rfl rfl dX0_init_4 ?_
  refine pt_bipush C (v := 10) (by decide) dX0_init_5 ?_
  refine pt_newI C 10 tw_54 (by decide) (by decide) (by decide) (by decide) (by decide) dX0_init_7 ?_
  refine ob hf (fun h1 g2 hf => ?_)
  refine pt_putF C I kX0 0 (by decide) tw_87 (Or.inl rfl) rfl rfl rfl rfl g2 dX0_init_9 ?_
  refine pt_aload_n C 0 rfl rfl dX0_init_12 ?_
  refine pt_bipush C (v := 10) (by decide) dX0_init_13 ?_
  refine pt_newI C 10 tw_54 (by decide) (by decide) (by decide) (by decide) (by decide) dX0_init_15 ?_
  refine ob hf (fun h3 g4 hf => ?_)
  refine pt_putF C I kX0 1 (by decide) tw_89 (Or.inl rfl) rfl rfl rfl rfl g4 dX0_init_17 ?_
  refine pt_aload_n C 0 rfl rfl dX0_init_20 ?_
  refine pt_bipush C (v := 10) (by decide) dX0_init_21 ?_
  refine pt_newI C 10 tw_54 (by decide) (by decide) (by decide) (by decide) (by decide) dX0_init_23 ?_
  refine ob hf (fun h5 g6 hf => ?_)
  refine pt_putF C I kX0 2 (by decide) tw_91 (Or.inl rfl) rfl rfl rfl rfl g6 dX0_init_25 ?_
  refine pt_aload_n C 0 rfl rfl dX0_init_28 ?_
  refine pt_bipush C (v := 10) (by decide) dX0_init_29 ?_
  refine pt_newI C 10 tw_54 (by decide) (by decide) (by decide) (by decide) (by decide) dX0_init_31 ?_
  refine ob hf (fun h7 g8 hf => ?_)
  refine pt_putF C I kX0 3 (by decide) tw_93 (Or.inl rfl) rfl rfl rfl rfl g8 dX0_init_33 ?_
  refine pt_aload_n C 0 rfl rfl dX0_init_36 ?_
  refine pt_bipush C (v := 10) (by decide) dX0_init_37 ?_
  refine pt_newI C 10 tw_54 (by decide) (by decide) (by decide) (by decide) (by decide) dX0_init_39 ?_
  refine ob hf (fun h9 g10 hf => ?_)
  refine pt_putF C I kX0 4 (by decide) tw_95 (Or.inl rfl) rfl rfl rfl rfl g10 dX0_init_41 ?_
  refine pt_aload_n C 0 rfl rfl dX0_init_44 ?_
  refine pt_bipush C (v := 10) (by decide) dX0_init_45 ?_
  refine pt_newI C 10 tw_54 (by decide) (by decide) (by decide) (by decide) (by decide) dX0_init_47 ?_
  refine ob hf (fun h11 g12 hf => ?_)
  refine pt_putF C I kX0 5 (by decide) tw_98 (Or.inl rfl) rfl rfl rfl rfl g12 dX0_init_49 ?_
  obtain rfl := Option.some.inj hf
  exact pt_vret C K (by decide) (by decide) dX0_init_52
theorem con_X0_init (l : Launch) (a0 : Nat) (h : AH) (q : AH) (hf : f_X0_init a0 h = some q) : Con l yX0_init cX0_init 1 none rmX0_init [.ref a0] h none q := Con.of (by decide +kernel) (Nat.le_of_ble_eq_true rfl) (fun X C I K => w_X0_init_0 C (I rfl) a0 h q hf K)
abbrev rmX0_mixedInto : Room := { frames := 0, cells := 0, slots := 0, locals := 0 }
theorem yn_X0_mixedInto : YN yX0_mixedInto 1 := by refine ⟨?_, ?_, ?_⟩ <;> decide +kernel
set_option maxRecDepth 100000 in
set_option maxHeartbeats 4000000 in
theorem w_X0_mixedInto_L5 {X : MX} (C : CX X cX0_mixedInto 6 RX0 (some .long) rmX0_mixedInto) (x0 : Nat) (s : Int64 × Int32 × AH) (res : (Int64 × Int32 × AH) ⊕ ((Int64 × AH))) (hf : f_X0_mixedInto_L5 x0 s = some res) (K0 : ∀ (u3 : Int64) (u5 : Int32) (hu : AH), res = .inl (u3, u5, hu) → PT X 6 0 0 5 [(0, .ref x0), (3, .long u3), (5, .int u5)] [] hu) (K1 : ∀ (u3 : Int64) (hu : AH), res = .inr ((u3, hu)) → PT X 6 0 0 110 [(3, .long u3)] [] hu) : PT X 6 0 0 5 [(0, .ref x0), (3, .long s.1), (5, .int s.2.1)] [] s.2.2 := by
  unfold f_X0_mixedInto_L5 at hf
  refine pt_iload C 2 rfl dX0_mixedInto_5 ?_
  refine pt_aload_n C 0 rfl rfl dX0_mixedInto_7 ?_
  refine ob hf (fun v1 g2 hf => ?_)
  refine pt_getI C kX0 6 (by decide) tw_102 (Or.inl rfl) g2 dX0_mixedInto_8 ?_
  refine pt_icmp_ge C (tgt := 110) (by decide) dX0_mixedInto_11 (fun c3 => ?_) (fun c3 => ?_)
  · rw [if_pos c3] at hf
    refine pt_sub C [(3, .long s.1)] [1] rfl ?_
    exact K1 _ _ (Option.some.inj hf).symm
  · rw [if_neg c3] at hf
    refine pt_ldc2 C tw_889 dX0_mixedInto_14 ?_
    refine pt_lload_n C 1 rfl rfl dX0_mixedInto_17 ?_
    refine pt_lmul C dX0_mixedInto_18 ?_
    refine pt_aload_n C 0 rfl rfl dX0_mixedInto_19 ?_
    refine ob hf (fun v4 g5 hf => ?_)
    refine pt_getR C kX0 0 (by decide) tw_87 (Or.inl rfl) g5 dX0_mixedInto_20 ?_
    refine pt_iload C 2 rfl dX0_mixedInto_23 ?_
    refine ob hf (fun v6 g7 hf => ?_)
    refine pt_iald C g7 dX0_mixedInto_25 ?_
    refine pt_i2l C dX0_mixedInto_26 ?_
    refine pt_ladd C dX0_mixedInto_27 ?_
    refine pt_lstore_n C [(3, .long ((31 * s.1) + v6.toInt64)), (0, .ref x0), (5, .int s.2.1)] rfl (by decide) rfl dX0_mixedInto_28 ?_
    refine pt_ldc2 C tw_889 dX0_mixedInto_29 ?_
    refine pt_lload_n C 0 rfl rfl dX0_mixedInto_32 ?_
    refine pt_lmul C dX0_mixedInto_33 ?_
    refine pt_aload_n C 1 rfl rfl dX0_mixedInto_34 ?_
    refine ob hf (fun v8 g9 hf => ?_)
    refine pt_getR C kX0 1 (by decide) tw_89 (Or.inl rfl) g9 dX0_mixedInto_35 ?_
    refine pt_iload C 2 rfl dX0_mixedInto_38 ?_
    refine ob hf (fun v10 g11 hf => ?_)
    refine pt_iald C g11 dX0_mixedInto_40 ?_
    refine pt_i2l C dX0_mixedInto_41 ?_
    refine pt_ladd C dX0_mixedInto_42 ?_
    refine pt_lstore_n C [(3, .long ((31 * ((31 * s.1) + v6.toInt64)) + v10.toInt64)), (0, .ref x0), (5, .int s.2.1)] rfl (by decide) rfl dX0_mixedInto_43 ?_
    refine pt_ldc2 C tw_889 dX0_mixedInto_44 ?_
    refine pt_lload_n C 0 rfl rfl dX0_mixedInto_47 ?_
    refine pt_lmul C dX0_mixedInto_48 ?_
    refine pt_aload_n C 1 rfl rfl dX0_mixedInto_49 ?_
    refine ob hf (fun v12 g13 hf => ?_)
    refine pt_getR C kX0 2 (by decide) tw_91 (Or.inl rfl) g13 dX0_mixedInto_50 ?_
    refine pt_iload C 2 rfl dX0_mixedInto_53 ?_
    refine ob hf (fun v14 g15 hf => ?_)
    refine pt_iald C g15 dX0_mixedInto_55 ?_
    refine pt_i2l C dX0_mixedInto_56 ?_
    refine pt_ladd C dX0_mixedInto_57 ?_
    refine pt_lstore_n C [(3, .long ((31 * ((31 * ((31 * s.1) + v6.toInt64)) + v10.toInt64)) + v14.toInt64)), (0, .ref x0), (5, .int s.2.1)] rfl (by decide) rfl dX0_mixedInto_58 ?_
    refine pt_ldc2 C tw_889 dX0_mixedInto_59 ?_
    refine pt_lload_n C 0 rfl rfl dX0_mixedInto_62 ?_
    refine pt_lmul C dX0_mixedInto_63 ?_
    refine pt_aload_n C 1 rfl rfl dX0_mixedInto_64 ?_
    refine ob hf (fun v16 g17 hf => ?_)
    refine pt_getR C kX0 3 (by decide) tw_93 (Or.inl rfl) g17 dX0_mixedInto_65 ?_
    refine pt_iload C 2 rfl dX0_mixedInto_68 ?_
    refine ob hf (fun v18 g19 hf => ?_)
    refine pt_iald C g19 dX0_mixedInto_70 ?_
    refine pt_i2l C dX0_mixedInto_71 ?_
    refine pt_ladd C dX0_mixedInto_72 ?_
    refine pt_lstore_n C [(3, .long ((31 * ((31 * ((31 * ((31 * s.1) + v6.toInt64)) + v10.toInt64)) + v14.toInt64)) + v18.toInt64)), (0, .ref x0), (5, .int s.2.1)] rfl (by decide) rfl dX0_mixedInto_73 ?_
    refine pt_ldc2 C tw_889 dX0_mixedInto_74 ?_
    refine pt_lload_n C 0 rfl rfl dX0_mixedInto_77 ?_
    refine pt_lmul C dX0_mixedInto_78 ?_
    refine pt_aload_n C 1 rfl rfl dX0_mixedInto_79 ?_
    refine ob hf (fun v20 g21 hf => ?_)
    refine pt_getR C kX0 4 (by decide) tw_95 (Or.inl rfl) g21 dX0_mixedInto_80 ?_
    refine pt_iload C 2 rfl dX0_mixedInto_83 ?_
    refine ob hf (fun v22 g23 hf => ?_)
    refine pt_iald C g23 dX0_mixedInto_85 ?_
    refine pt_i2l C dX0_mixedInto_86 ?_
    refine pt_ladd C dX0_mixedInto_87 ?_
    refine pt_lstore_n C [(3, .long ((31 * ((31 * ((31 * ((31 * ((31 * s.1) + v6.toInt64)) + v10.toInt64)) + v14.toInt64)) + v18.toInt64)) + v22.toInt64)), (0, .ref x0), (5, .int s.2.1)] rfl (by decide) rfl dX0_mixedInto_88 ?_
    refine pt_ldc2 C tw_889 dX0_mixedInto_89 ?_
    refine pt_lload_n C 0 rfl rfl dX0_mixedInto_92 ?_
    refine pt_lmul C dX0_mixedInto_93 ?_
    refine pt_aload_n C 1 rfl rfl dX0_mixedInto_94 ?_
    refine ob hf (fun v24 g25 hf => ?_)
    refine pt_getR C kX0 5 (by decide) tw_98 (Or.inl rfl) g25 dX0_mixedInto_95 ?_
    refine pt_iload C 2 rfl dX0_mixedInto_98 ?_
    refine ob hf (fun v26 g27 hf => ?_)
    refine pt_iald C g27 dX0_mixedInto_100 ?_
    refine pt_i2l C dX0_mixedInto_101 ?_
    refine pt_ladd C dX0_mixedInto_102 ?_
    refine pt_lstore_n C [(3, .long ((31 * ((31 * ((31 * ((31 * ((31 * ((31 * s.1) + v6.toInt64)) + v10.toInt64)) + v14.toInt64)) + v18.toInt64)) + v22.toInt64)) + v26.toInt64)), (0, .ref x0), (5, .int s.2.1)] rfl (by decide) rfl dX0_mixedInto_103 ?_
    refine pt_iinc C 2 [(5, .int (s.2.1 + 1)), (3, .long ((31 * ((31 * ((31 * ((31 * ((31 * ((31 * s.1) + v6.toInt64)) + v10.toInt64)) + v14.toInt64)) + v18.toInt64)) + v22.toInt64)) + v26.toInt64)), (0, .ref x0)] rfl (iinc_eq s.2.1 (by decide)) (by decide) rfl dX0_mixedInto_104 ?_
    refine pt_goto C (tgt := 5) (by decide) dX0_mixedInto_107 ?_
    refine pt_sub C [(0, .ref x0), (3, .long ((31 * ((31 * ((31 * ((31 * ((31 * ((31 * s.1) + v6.toInt64)) + v10.toInt64)) + v14.toInt64)) + v18.toInt64)) + v22.toInt64)) + v26.toInt64)), (5, .int (s.2.1 + 1))] [2, 1, 0] rfl ?_
    exact K0 _ _ _ (Option.some.inj hf).symm
theorem l_X0_mixedInto_L5 {X : MX} (C : CX X cX0_mixedInto 6 RX0 (some .long) rmX0_mixedInto) (x0 : Nat) : ∀ (n : Nat) (s : Int64 × Int32 × AH) (r : (Int64 × AH)), iter (f_X0_mixedInto_L5 x0) n s = some r → (fun r : (Int64 × AH) => PT X 6 0 0 110 [(3, .long r.1)] [] r.2) r → PT X 6 0 0 5 [(0, .ref x0), (3, .long s.1), (5, .int s.2.1)] [] s.2.2 :=
  iter_W (fun s : Int64 × Int32 × AH => PT X 6 0 0 5 [(0, .ref x0), (3, .long s.1), (5, .int s.2.1)] [] s.2.2) (fun r : (Int64 × AH) => PT X 6 0 0 110 [(3, .long r.1)] [] r.2) _ (fun s s2 hf P => w_X0_mixedInto_L5 C x0 s _ hf (fun u3 u5 hu e => by cases e; exact P) (fun u3 hu e => by cases e)) (fun s r hf P => w_X0_mixedInto_L5 C x0 s _ hf (fun u3 u5 hu e => by cases e) (fun u3 hu e => by cases e; exact P))
set_option maxRecDepth 100000 in
set_option maxHeartbeats 4000000 in
theorem w_X0_mixedInto_0 {X : MX} (C : CX X cX0_mixedInto 6 RX0 (some .long) rmX0_mixedInto) (a0 : Nat) (a1 : Int64) (h : AH) (res : Int64 × AH) (hf : f_X0_mixedInto a0 a1 h = some res) (K : ∀ (v : Int64) (h2 : AH), res = (v, h2) → PR X rmX0_mixedInto (some (.long v)) h2) : PT X 6 0 0 0 [(0, .ref a0), (1, .long a1)] [] h := by
  unfold f_X0_mixedInto at hf
  refine pt_lload_n C 1 rfl rfl dX0_mixedInto_0 ?_
  refine pt_lstore_n C [(3, .long a1), (0, .ref a0), (1, .long a1)] rfl (by decide) rfl dX0_mixedInto_1 ?_
  refine pt_iconst C (v := 0) (by decide) dX0_mixedInto_2 ?_
  refine pt_istore C [(5, .int 0), (3, .long a1), (0, .ref a0), (1, .long a1)] (by decide) rfl dX0_mixedInto_3 ?_
  refine pt_sub C [(0, .ref a0), (3, .long a1), (5, .int 0)] [2, 1, 0] rfl ?_
  refine ob hf (fun e28 g29 hf => ?_)
  refine l_X0_mixedInto_L5 C a0 _ _ _ g29 ?_
  refine pt_lload_n C 0 rfl rfl dX0_mixedInto_110 ?_
  exact pt_lret C (K _ _ (Option.some.inj hf).symm) (by decide) (by decide) dX0_mixedInto_111
theorem con_X0_mixedInto (l : Launch) (a0 : Nat) (a1 : Int64) (h : AH) (q : Int64 × AH) (hf : f_X0_mixedInto a0 a1 h = some q) : Con l yX0_mixedInto cX0_mixedInto 6 (some .long) rmX0_mixedInto [.ref a0, .long a1] h (some (.long q.1)) q.2 := Con.of (by decide +kernel) (Nat.le_of_ble_eq_true rfl) (fun X C I K => w_X0_mixedInto_0 C a0 a1 h q hf (fun v h2 e => by cases e; exact K))
abbrev rmX0_restFor : Room := { frames := 1, cells := 0, slots := 0, locals := 23 }
theorem yn_X0_restFor : YN yX0_restFor 2 := by refine ⟨?_, ?_, ?_⟩ <;> decide +kernel
set_option maxRecDepth 100000 in
set_option maxHeartbeats 4000000 in
theorem w_X0_restFor_L2 {X : MX} (C : CX X cX0_restFor 4 RX0 none rmX0_restFor) (x0 : Nat) (x1 : Int32) (x2 : Nat) (s : Int32 × AH) (res : (Int32 × AH) ⊕ ((AH))) (hf : f_X0_restFor_L2 x0 x1 x2 s = some res) (K0 : ∀ (u3 : Int32) (hu : AH), res = .inl (u3, hu) → PT X 4 0 0 2 [(0, .ref x0), (1, .int x1), (2, .ref x2), (3, .int u3)] [] hu) (K1 : ∀ (hu : AH), res = .inr (hu) → PT X 4 0 0 46 [] [] hu) : PT X 4 0 0 2 [(0, .ref x0), (1, .int x1), (2, .ref x2), (3, .int s.1)] [] s.2 := by
  unfold f_X0_restFor_L2 at hf
  refine pt_iload_n C 3 rfl rfl dX0_restFor_2 ?_
  refine pt_aload_n C 0 rfl rfl dX0_restFor_3 ?_
  refine ob hf (fun v1 g2 hf => ?_)
  refine pt_getI C kX0 6 (by decide) tw_102 (Or.inl rfl) g2 dX0_restFor_4 ?_
  refine pt_icmp_ge C (tgt := 46) (by decide) dX0_restFor_7 (fun c3 => ?_) (fun c3 => ?_)
  · rw [if_pos c3] at hf
    refine pt_sub C [] [] rfl ?_
    exact K1 _ (Option.some.inj hf).symm
  · rw [if_neg c3] at hf
    refine pt_iload_n C 3 rfl rfl dX0_restFor_10 ?_
    refine pt_aload_n C 2 rfl rfl dX0_restFor_11 ?_
    refine ob hf (fun v4 g5 hf => ?_)
    refine pt_alen C g5 dX0_restFor_12 ?_
    refine pt_icmp_ge C (tgt := 46) (by decide) dX0_restFor_13 (fun c6 => ?_) (fun c6 => ?_)
    · rw [if_pos c6] at hf
      refine pt_sub C [] [] rfl ?_
      exact K1 _ (Option.some.inj hf).symm
    · rw [if_neg c6] at hf
      refine pt_aload_n C 2 rfl rfl dX0_restFor_16 ?_
      refine pt_iload_n C 3 rfl rfl dX0_restFor_17 ?_
      refine pt_aload_n C 0 rfl rfl dX0_restFor_18 ?_
      refine ob hf (fun v7 g8 hf => ?_)
      refine pt_getR C kX0 0 (by decide) tw_87 (Or.inl rfl) g8 dX0_restFor_19 ?_
      refine pt_iload_n C 3 rfl rfl dX0_restFor_22 ?_
      refine ob hf (fun v9 g10 hf => ?_)
      refine pt_iald C g10 dX0_restFor_23 ?_
      refine pt_aload_n C 2 rfl rfl dX0_restFor_24 ?_
      refine pt_iload_n C 3 rfl rfl dX0_restFor_25 ?_
      refine ob hf (fun v11 g12 hf => ?_)
      refine pt_iald C g12 dX0_restFor_26 ?_
      refine pt_iload_n C 1 rfl rfl dX0_restFor_27 ?_
      refine pt_aload_n C 0 rfl rfl dX0_restFor_28 ?_
      refine ob hf (fun v13 g14 hf => ?_)
      refine pt_getR C kX0 2 (by decide) tw_91 (Or.inl rfl) g14 dX0_restFor_29 ?_
      refine pt_iload_n C 3 rfl rfl dX0_restFor_32 ?_
      refine ob hf (fun v15 g16 hf => ?_)
      refine pt_iald C g16 dX0_restFor_33 ?_
      refine pt_imul C dX0_restFor_34 ?_
      refine pt_iadd C dX0_restFor_35 ?_
      refine pt_mmin C tw_525 tw_444 tw_16 tw_445 (by decide) (Nat.le_of_ble_eq_true rfl) (by decide) (by decide) dX0_restFor_36 ?_
      refine ob hf (fun h17 g18 hf => ?_)
      refine pt_iast C g18 dX0_restFor_39 ?_
      refine pt_iinc C 3 [(3, .int (s.1 + 1)), (0, .ref x0), (1, .int x1), (2, .ref x2)] rfl (iinc_eq s.1 (by decide)) (by decide) rfl dX0_restFor_40 ?_
      refine pt_goto C (tgt := 2) (by decide) dX0_restFor_43 ?_
      refine pt_sub C [(0, .ref x0), (1, .int x1), (2, .ref x2), (3, .int (s.1 + 1))] [1, 2, 3, 0] rfl ?_
      exact K0 _ _ (Option.some.inj hf).symm
theorem l_X0_restFor_L2 {X : MX} (C : CX X cX0_restFor 4 RX0 none rmX0_restFor) (x0 : Nat) (x1 : Int32) (x2 : Nat) : ∀ (n : Nat) (s : Int32 × AH) (r : (AH)), iter (f_X0_restFor_L2 x0 x1 x2) n s = some r → (fun r : (AH) => PT X 4 0 0 46 [] [] r) r → PT X 4 0 0 2 [(0, .ref x0), (1, .int x1), (2, .ref x2), (3, .int s.1)] [] s.2 :=
  iter_W (fun s : Int32 × AH => PT X 4 0 0 2 [(0, .ref x0), (1, .int x1), (2, .ref x2), (3, .int s.1)] [] s.2) (fun r : (AH) => PT X 4 0 0 46 [] [] r) _ (fun s s2 hf P => w_X0_restFor_L2 C x0 x1 x2 s _ hf (fun u3 hu e => by cases e; exact P) (fun hu e => by cases e)) (fun s r hf P => w_X0_restFor_L2 C x0 x1 x2 s _ hf (fun u3 hu e => by cases e) (fun hu e => by cases e; exact P))
set_option maxRecDepth 100000 in
set_option maxHeartbeats 4000000 in
theorem w_X0_restFor_0 {X : MX} (C : CX X cX0_restFor 4 RX0 none rmX0_restFor) (a0 : Nat) (a1 : Int32) (a2 : Nat) (h : AH) (res : AH) (hf : f_X0_restFor a0 a1 a2 h = some res) (K : PR X rmX0_restFor none res) : PT X 4 0 0 0 [(0, .ref a0), (1, .int a1), (2, .ref a2)] [] h := by
  unfold f_X0_restFor at hf
  refine pt_iconst C (v := 0) (by decide) dX0_restFor_0 ?_
  refine pt_istore_n C [(3, .int 0), (0, .ref a0), (1, .int a1), (2, .ref a2)] rfl (by decide) rfl dX0_restFor_1 ?_
  refine pt_sub C [(0, .ref a0), (1, .int a1), (2, .ref a2), (3, .int 0)] [1, 2, 3, 0] rfl ?_
  refine ob hf (fun e19 g20 hf => ?_)
  refine l_X0_restFor_L2 C a0 a1 a2 _ _ _ g20 ?_
  obtain rfl := Option.some.inj hf
  exact pt_vret C K (by decide) (by decide) dX0_restFor_46
theorem con_X0_restFor (l : Launch) (a0 : Nat) (a1 : Int32) (a2 : Nat) (h : AH) (q : AH) (hf : f_X0_restFor a0 a1 a2 h = some q) : Con l yX0_restFor cX0_restFor 4 none rmX0_restFor [.ref a0, .int a1, .ref a2] h none q := Con.of (by decide +kernel) (Nat.le_of_ble_eq_true rfl) (fun X C I K => w_X0_restFor_0 C a0 a1 a2 h q hf K)
abbrev rmX10_init : Room := { frames := 1, cells := 0, slots := 0, locals := 20 }
theorem yn_X10_init : YN yX10_init 2 := by refine ⟨?_, ?_, ?_⟩ <;> decide +kernel
set_option maxRecDepth 100000 in
set_option maxHeartbeats 4000000 in
theorem w_X10_init_0 {X : MX} (C : CX X cX10_init 3 RX10 none rmX10_init) (I : IN X) (a0 : Nat) (a1 : Int32) (a2 : Int32) (h : AH) (res : AH) (hf : f_X10_init a0 a1 a2 h = some res) (K : PR X rmX10_init none res) : PT X 3 0 0 0 [(0, .ref a0), (1, .int a1), (2, .int a2)] [] h := by
  unfold f_X10_init at hf
  refine pt_aload_n C 0 rfl rfl dX10_init_0 ?_
  refine pt_objInit C tw_680 tw_30 tw_31 (by decide) (Nat.le_of_ble_eq_true rfl) dX10_init_1 ?_
  refine pt_aload_n C 0 rfl rfl dX10_init_4 ?_
  refine pt_iload_n C 1 rfl rfl dX10_init_5 ?_
  refine ob hf (fun h1 g2 hf => ?_)
  refine pt_putF C I kX10 0 (by decide) tw_681 (Or.inl rfl) rfl rfl rfl rfl g2 dX10_init_6 ?_
  refine pt_aload_n C 0 rfl rfl dX10_init_9 ?_
  refine pt_iload_n C 2 rfl rfl dX10_init_10 ?_
  refine ob hf (fun h3 g4 hf => ?_)
  refine pt_putF C I kX10 1 (by decide) tw_683 (Or.inl rfl) rfl rfl rfl rfl g4 dX10_init_11 ?_
  obtain rfl := Option.some.inj hf
  exact pt_vret C K (by decide) (by decide) dX10_init_14
theorem con_X10_init (l : Launch) (a0 : Nat) (a1 : Int32) (a2 : Int32) (h : AH) (q : AH) (hf : f_X10_init a0 a1 a2 h = some q) : Con l yX10_init cX10_init 3 none rmX10_init [.ref a0, .int a1, .int a2] h none q := Con.of (by decide +kernel) (Nat.le_of_ble_eq_true rfl) (fun X C I K => w_X10_init_0 C (I rfl) a0 a1 a2 h q hf K)
abbrev rmX10_isStrong : Room := { frames := 0, cells := 0, slots := 0, locals := 0 }
theorem yn_X10_isStrong : YN yX10_isStrong 1 := by refine ⟨?_, ?_, ?_⟩ <;> decide +kernel
set_option maxRecDepth 100000 in
set_option maxHeartbeats 4000000 in
theorem w_X10_isStrong_0 {X : MX} (C : CX X cX10_isStrong 2 RX10 (some .boolean) rmX10_isStrong) (a0 : Nat) (a1 : Int32) (h : AH) (res : Int32 × AH) (hf : f_X10_isStrong a0 a1 h = some res) (K : ∀ (v : Int32) (h2 : AH), res = (v, h2) → PR X rmX10_isStrong (some (.int v)) h2) : PT X 2 0 0 0 [(0, .ref a0), (1, .int a1)] [] h := by
  unfold f_X10_isStrong at hf
  refine pt_aload_n C 0 rfl rfl dX10_isStrong_0 ?_
  refine ob hf (fun v1 g2 hf => ?_)
  refine pt_getI C kX10 1 (by decide) tw_683 (Or.inl rfl) g2 dX10_isStrong_1 ?_
  refine pt_aload_n C 0 rfl rfl dX10_isStrong_4 ?_
  refine ob hf (fun v3 g4 hf => ?_)
  refine pt_getI C kX10 0 (by decide) tw_681 (Or.inl rfl) g4 dX10_isStrong_5 ?_
  refine pt_iconst C (v := 1) (by decide) dX10_isStrong_8 ?_
  refine pt_isub C dX10_isStrong_9 ?_
  refine pt_iload_n C 1 rfl rfl dX10_isStrong_10 ?_
  refine pt_isub C dX10_isStrong_11 ?_
  refine pt_ishr C dX10_isStrong_12 ?_
  refine pt_iconst C (v := 1) (by decide) dX10_isStrong_13 ?_
  refine pt_iand C dX10_isStrong_14 ?_
  refine pt_iconst C (v := 1) (by decide) dX10_isStrong_15 ?_
  refine pt_icmp_ne C (tgt := 23) (by decide) dX10_isStrong_16 (fun c5 => ?_) (fun c5 => ?_)
  · rw [if_neg c5] at hf
    refine pt_iconst C (v := 0) (by decide) dX10_isStrong_23 ?_
    exact pt_zret C (by decide) (K _ _ (Option.some.inj hf).symm) (by decide) (by decide) dX10_isStrong_24
  · rw [if_pos c5] at hf
    refine pt_iconst C (v := 1) (by decide) dX10_isStrong_19 ?_
    refine pt_goto C (tgt := 24) (by decide) dX10_isStrong_20 ?_
    exact pt_zret C (by decide) (K _ _ (Option.some.inj hf).symm) (by decide) (by decide) dX10_isStrong_24
theorem con_X10_isStrong (l : Launch) (a0 : Nat) (a1 : Int32) (h : AH) (q : Int32 × AH) (hf : f_X10_isStrong a0 a1 h = some q) : Con l yX10_isStrong cX10_isStrong 2 (some .boolean) rmX10_isStrong [.ref a0, .int a1] h (some (.int q.1)) q.2 := Con.of (by decide +kernel) (Nat.le_of_ble_eq_true rfl) (fun X C I K => w_X10_isStrong_0 C a0 a1 h q hf (fun v h2 e => by cases e; exact K))
abbrev rmX10_mixedInto : Room := { frames := 0, cells := 0, slots := 0, locals := 0 }
theorem yn_X10_mixedInto : YN yX10_mixedInto 1 := by refine ⟨?_, ?_, ?_⟩ <;> decide +kernel
set_option maxRecDepth 100000 in
set_option maxHeartbeats 4000000 in
theorem w_X10_mixedInto_0 {X : MX} (C : CX X cX10_mixedInto 3 RX10 (some .long) rmX10_mixedInto) (a0 : Nat) (a1 : Int64) (h : AH) (res : Int64 × AH) (hf : f_X10_mixedInto a0 a1 h = some res) (K : ∀ (v : Int64) (h2 : AH), res = (v, h2) → PR X rmX10_mixedInto (some (.long v)) h2) : PT X 3 0 0 0 [(0, .ref a0), (1, .long a1)] [] h := by
  unfold f_X10_mixedInto at hf
  refine pt_ldc2 C tw_904 dX10_mixedInto_0 ?_
  refine pt_ldc2 C tw_904 dX10_mixedInto_3 ?_
  refine pt_lload_n C 1 rfl rfl dX10_mixedInto_6 ?_
  refine pt_lmul C dX10_mixedInto_7 ?_
  refine pt_aload_n C 0 rfl rfl dX10_mixedInto_8 ?_
  refine ob hf (fun v1 g2 hf => ?_)
  refine pt_getI C kX10 0 (by decide) tw_681 (Or.inl rfl) g2 dX10_mixedInto_9 ?_
  refine pt_i2l C dX10_mixedInto_12 ?_
  refine pt_ladd C dX10_mixedInto_13 ?_
  refine pt_lmul C dX10_mixedInto_14 ?_
  refine pt_aload_n C 0 rfl rfl dX10_mixedInto_15 ?_
  refine ob hf (fun v3 g4 hf => ?_)
  refine pt_getI C kX10 1 (by decide) tw_683 (Or.inl rfl) g4 dX10_mixedInto_16 ?_
  refine pt_i2l C dX10_mixedInto_19 ?_
  refine pt_ladd C dX10_mixedInto_20 ?_
  exact pt_lret C (K _ _ (Option.some.inj hf).symm) (by decide) (by decide) dX10_mixedInto_21
theorem con_X10_mixedInto (l : Launch) (a0 : Nat) (a1 : Int64) (h : AH) (q : Int64 × AH) (hf : f_X10_mixedInto a0 a1 h = some q) : Con l yX10_mixedInto cX10_mixedInto 3 (some .long) rmX10_mixedInto [.ref a0, .long a1] h (some (.long q.1)) q.2 := Con.of (by decide +kernel) (Nat.le_of_ble_eq_true rfl) (fun X C I K => w_X10_mixedInto_0 C a0 a1 h q hf (fun v h2 e => by cases e; exact K))
abbrev rmX11_isSilent : Room := { frames := 0, cells := 0, slots := 0, locals := 0 }
theorem yn_X11_isSilent : YN yX11_isSilent 1 := by refine ⟨?_, ?_, ?_⟩ <;> decide +kernel
set_option maxRecDepth 100000 in
set_option maxHeartbeats 4000000 in
theorem w_X11_isSilent_0 {X : MX} (C : CX X cX11_isSilent 1 RX11 (some .boolean) rmX11_isSilent) (a0 : Int32) (h : AH) (res : Int32 × AH) (hf : f_X11_isSilent a0 h = some res) (K : ∀ (v : Int32) (h2 : AH), res = (v, h2) → PR X rmX11_isSilent (some (.int v)) h2) : PT X 1 0 0 0 [(0, .int a0)] [] h := by
  unfold f_X11_isSilent at hf
  refine pt_iload_n C 0 rfl rfl dX11_isSilent_0 ?_
  refine pt_iconst C (v := 1) (by decide) dX11_isSilent_1 ?_
  refine pt_icmp_eq C (tgt := 14) (by decide) dX11_isSilent_2 (fun c1 => ?_) (fun c1 => ?_)
  · rw [if_pos c1] at hf
    refine pt_iconst C (v := 0) (by decide) dX11_isSilent_14 ?_
    exact pt_zret C (by decide) (K _ _ (Option.some.inj hf).symm) (by decide) (by decide) dX11_isSilent_15
  · rw [if_neg c1] at hf
    refine pt_iload_n C 0 rfl rfl dX11_isSilent_5 ?_
    refine pt_iconst C (v := 2) (by decide) dX11_isSilent_6 ?_
    refine pt_icmp_eq C (tgt := 14) (by decide) dX11_isSilent_7 (fun c2 => ?_) (fun c2 => ?_)
    · rw [if_pos c2] at hf
      refine pt_iconst C (v := 0) (by decide) dX11_isSilent_14 ?_
      exact pt_zret C (by decide) (K _ _ (Option.some.inj hf).symm) (by decide) (by decide) dX11_isSilent_15
    · rw [if_neg c2] at hf
      refine pt_iconst C (v := 1) (by decide) dX11_isSilent_10 ?_
      refine pt_goto C (tgt := 15) (by decide) dX11_isSilent_11 ?_
      exact pt_zret C (by decide) (K _ _ (Option.some.inj hf).symm) (by decide) (by decide) dX11_isSilent_15
theorem con_X11_isSilent (l : Launch) (a0 : Int32) (h : AH) (q : Int32 × AH) (hf : f_X11_isSilent a0 h = some q) : Con l yX11_isSilent cX11_isSilent 1 (some .boolean) rmX11_isSilent [.int a0] h (some (.int q.1)) q.2 := Con.of (by decide +kernel) (Nat.le_of_ble_eq_true rfl) (fun X C I K => w_X11_isSilent_0 C a0 h q hf (fun v h2 e => by cases e; exact K))
abbrev rmX10_wrongIfSungFrom : Room := { frames := 1, cells := 0, slots := 0, locals := 21 }
theorem yn_X10_wrongIfSungFrom : YN yX10_wrongIfSungFrom 2 := by refine ⟨?_, ?_, ?_⟩ <;> decide +kernel
set_option maxRecDepth 100000 in
set_option maxHeartbeats 4000000 in
theorem w_X10_wrongIfSungFrom_L24_J71 {X : MX} (C : CX X cX10_wrongIfSungFrom 6 RX10 (some .int) rmX10_wrongIfSungFrom) (x0 : Nat) (x1 : Nat) (x2 : Int32) (y3 : Int32) (y4 : Int32) (z0 : Int32) (z1 : Int32) (h : AH) (res : (Int32 × Int32 × AH) ⊕ ((Int32 × AH) ⊕ (AH))) (hf : f_X10_wrongIfSungFrom_L24_J71 x0 x1 x2 y3 y4 z0 z1 h = some res) (K0 : ∀ (u3 : Int32) (u4 : Int32) (hu : AH), res = .inl (u3, u4, hu) → PT X 6 0 0 24 [(0, .ref x0), (1, .ref x1), (2, .int x2), (3, .int u3), (4, .int u4)] [] hu) (K1 : ∀ (u3 : Int32) (hu : AH), res = .inr (.inl ((u3, hu))) → PT X 6 0 0 83 [(3, .int u3)] [] hu) (K2 : ∀ (hu : AH), res = .inr (.inr (hu)) → PT X 6 0 0 52 [] [] hu) : PT X 6 0 0 71 [(0, .ref x0), (1, .ref x1), (2, .int x2), (3, .int y3), (4, .int y4)] [.int z0, .int z1] h := by
  unfold f_X10_wrongIfSungFrom_L24_J71 at hf
  refine pt_icmp_eq C (tgt := 77) (by decide) dX10_wrongIfSungFrom_71 (fun c21 => ?_) (fun c21 => ?_)
  · rw [if_pos c21] at hf
    refine pt_iinc C 4 [(4, .int (y4 + 1)), (0, .ref x0), (1, .ref x1), (2, .int x2), (3, .int y3)] rfl (iinc_eq y4 (by decide)) (by decide) rfl dX10_wrongIfSungFrom_77 ?_
    refine pt_goto C (tgt := 24) (by decide) dX10_wrongIfSungFrom_80 ?_
    refine pt_sub C [(0, .ref x0), (1, .ref x1), (2, .int x2), (3, .int y3), (4, .int (y4 + 1))] [1, 2, 3, 4, 0] rfl ?_
    exact K0 _ _ _ (Option.some.inj hf).symm
  · rw [if_neg c21] at hf
    refine pt_iinc C 3 [(3, .int (y3 + 1)), (0, .ref x0), (1, .ref x1), (2, .int x2), (4, .int y4)] rfl (iinc_eq y3 (by decide)) (by decide) rfl dX10_wrongIfSungFrom_74 ?_
    refine pt_iinc C 4 [(4, .int (y4 + 1)), (3, .int (y3 + 1)), (0, .ref x0), (1, .ref x1), (2, .int x2)] rfl (iinc_eq y4 (by decide)) (by decide) rfl dX10_wrongIfSungFrom_77 ?_
    refine pt_goto C (tgt := 24) (by decide) dX10_wrongIfSungFrom_80 ?_
    refine pt_sub C [(0, .ref x0), (1, .ref x1), (2, .int x2), (3, .int (y3 + 1)), (4, .int (y4 + 1))] [2, 3, 4, 1, 0] rfl ?_
    exact K0 _ _ _ (Option.some.inj hf).symm
set_option maxRecDepth 100000 in
set_option maxHeartbeats 4000000 in
theorem w_X10_wrongIfSungFrom_L24 {X : MX} (C : CX X cX10_wrongIfSungFrom 6 RX10 (some .int) rmX10_wrongIfSungFrom) (x0 : Nat) (x1 : Nat) (x2 : Int32) (s : Int32 × Int32 × AH) (res : (Int32 × Int32 × AH) ⊕ ((Int32 × AH) ⊕ (AH))) (hf : f_X10_wrongIfSungFrom_L24 x0 x1 x2 s = some res) (K0 : ∀ (u3 : Int32) (u4 : Int32) (hu : AH), res = .inl (u3, u4, hu) → PT X 6 0 0 24 [(0, .ref x0), (1, .ref x1), (2, .int x2), (3, .int u3), (4, .int u4)] [] hu) (K1 : ∀ (u3 : Int32) (hu : AH), res = .inr (.inl ((u3, hu))) → PT X 6 0 0 83 [(3, .int u3)] [] hu) (K2 : ∀ (hu : AH), res = .inr (.inr (hu)) → PT X 6 0 0 52 [] [] hu) : PT X 6 0 0 24 [(0, .ref x0), (1, .ref x1), (2, .int x2), (3, .int s.1), (4, .int s.2.1)] [] s.2.2 := by
  unfold f_X10_wrongIfSungFrom_L24 at hf
  refine pt_iload C 4 rfl dX10_wrongIfSungFrom_24 ?_
  refine pt_aload_n C 0 rfl rfl dX10_wrongIfSungFrom_26 ?_
  refine ob hf (fun v7 g8 hf => ?_)
  refine pt_getI C kX10 0 (by decide) tw_681 (Or.inl rfl) g8 dX10_wrongIfSungFrom_27 ?_
  refine pt_icmp_ge C (tgt := 83) (by decide) dX10_wrongIfSungFrom_30 (fun c9 => ?_) (fun c9 => ?_)
  · rw [if_pos c9] at hf
    refine pt_sub C [(3, .int s.1)] [3] rfl ?_
    exact K1 _ _ (Option.some.inj hf).symm
  · rw [if_neg c9] at hf
    refine pt_aload_n C 1 rfl rfl dX10_wrongIfSungFrom_33 ?_
    refine ob hf (fun v10 g11 hf => ?_)
    refine pt_getR C kX6 0 (by decide) tw_41 (Or.inl rfl) g11 dX10_wrongIfSungFrom_34 ?_
    refine pt_iload_n C 2 rfl rfl dX10_wrongIfSungFrom_37 ?_
    refine pt_iload C 4 rfl dX10_wrongIfSungFrom_38 ?_
    refine pt_iadd C dX10_wrongIfSungFrom_40 ?_
    refine ob hf (fun v12 g13 hf => ?_)
    refine pt_iald C g13 dX10_wrongIfSungFrom_41 ?_
    refine pt_istore C [(5, .int v12), (0, .ref x0), (1, .ref x1), (2, .int x2), (3, .int s.1), (4, .int s.2.1)] (by decide) rfl dX10_wrongIfSungFrom_42 ?_
    refine pt_iload C 0 rfl dX10_wrongIfSungFrom_44 ?_
    refine ob hf (fun q14 g15 hf => ?_)
    refine pt_callSN C (As := [.int v12]) (rest := []) (v := (some (.int q14.1))) (fun l => con_X11_isSilent l v12 s.2.2 _ g15) tw_700 (host := "HeaveSongs") (by decide +kernel) tw_699 tw_1 yn_X11_isSilent (by decide) (Nat.le_of_ble_eq_true rfl) dX10_wrongIfSungFrom_46 rfl ?_
    show PT X 6 0 0 49 [(5, .int v12), (0, .ref x0), (1, .ref x1), (2, .int x2), (3, .int s.1), (4, .int s.2.1)] [.int q14.1] q14.2
    refine pt_if_eq C (tgt := 54) (by decide) dX10_wrongIfSungFrom_49 (fun c16 => ?_) (fun c16 => ?_)
    · rw [if_pos c16] at hf
      refine pt_aload_n C 1 rfl rfl dX10_wrongIfSungFrom_54 ?_
      refine pt_iload C 5 rfl dX10_wrongIfSungFrom_55 ?_
      refine ob hf (fun _ g19 hf => ?_)
      refine ob hf (fun q17 g18 hf => ?_)
      refine pt_callV C (As := [.int s.2.1]) (rest := []) (v := (some (.int q17.1))) (fun l => con_X10_isStrong l x0 s.2.1 q14.2 _ g18) tw_716 tw_713 tw_714 tw_715 kX10 g19 tw_23 yn_X10_isStrong (by decide) (Nat.le_of_ble_eq_true rfl) dX10_wrongIfSungFrom_57 rfl ?_
      show PT X 6 0 0 60 [(5, .int v12), (0, .ref x0), (1, .ref x1), (2, .int x2), (3, .int s.1), (4, .int s.2.1)] [.int q17.1] q17.2
      refine pt_iload C 0 rfl dX10_wrongIfSungFrom_60 ?_
      refine pt_iconst C (v := 2) (by decide) dX10_wrongIfSungFrom_62 ?_
      refine pt_icmp_ne C (tgt := 70) (by decide) dX10_wrongIfSungFrom_63 (fun c20 => ?_) (fun c20 => ?_)
      · rw [if_neg c20] at hf
        refine pt_iconst C (v := 0) (by decide) dX10_wrongIfSungFrom_70 ?_
        refine pt_sub C [(0, .ref x0), (1, .ref x1), (2, .int x2), (3, .int s.1), (4, .int s.2.1)] [1, 2, 3, 4, 5] rfl ?_
        exact w_X10_wrongIfSungFrom_L24_J71 C x0 x1 x2 s.1 s.2.1 0 q17.1 q17.2 _ hf K0 K1 K2
      · rw [if_pos c20] at hf
        refine pt_iconst C (v := 1) (by decide) dX10_wrongIfSungFrom_66 ?_
        refine pt_goto C (tgt := 71) (by decide) dX10_wrongIfSungFrom_67 ?_
        refine pt_sub C [(0, .ref x0), (1, .ref x1), (2, .int x2), (3, .int s.1), (4, .int s.2.1)] [1, 2, 3, 4, 5] rfl ?_
        exact w_X10_wrongIfSungFrom_L24_J71 C x0 x1 x2 s.1 s.2.1 1 q17.1 q17.2 _ hf K0 K1 K2
    · rw [if_neg c16] at hf
      refine pt_sub C [] [] rfl ?_
      exact K2 _ (Option.some.inj hf).symm
theorem l_X10_wrongIfSungFrom_L24 {X : MX} (C : CX X cX10_wrongIfSungFrom 6 RX10 (some .int) rmX10_wrongIfSungFrom) (x0 : Nat) (x1 : Nat) (x2 : Int32) : ∀ (n : Nat) (s : Int32 × Int32 × AH) (r : (Int32 × AH) ⊕ (AH)), iter (f_X10_wrongIfSungFrom_L24 x0 x1 x2) n s = some r → (Sum.elim (fun r : (Int32 × AH) => PT X 6 0 0 83 [(3, .int r.1)] [] r.2) (fun r : (AH) => PT X 6 0 0 52 [] [] r)) r → PT X 6 0 0 24 [(0, .ref x0), (1, .ref x1), (2, .int x2), (3, .int s.1), (4, .int s.2.1)] [] s.2.2 :=
  iter_W (fun s : Int32 × Int32 × AH => PT X 6 0 0 24 [(0, .ref x0), (1, .ref x1), (2, .int x2), (3, .int s.1), (4, .int s.2.1)] [] s.2.2) (Sum.elim (fun r : (Int32 × AH) => PT X 6 0 0 83 [(3, .int r.1)] [] r.2) (fun r : (AH) => PT X 6 0 0 52 [] [] r)) _ (fun s s2 hf P => w_X10_wrongIfSungFrom_L24 C x0 x1 x2 s _ hf (fun u3 u4 hu e => by cases e; exact P) (fun u3 hu e => by cases e) (fun hu e => by cases e)) (fun s r hf P => w_X10_wrongIfSungFrom_L24 C x0 x1 x2 s _ hf (fun u3 u4 hu e => by cases e) (fun u3 hu e => by cases e; exact P) (fun hu e => by cases e; exact P))
set_option maxRecDepth 100000 in
set_option maxHeartbeats 4000000 in
theorem w_X10_wrongIfSungFrom_0 {X : MX} (C : CX X cX10_wrongIfSungFrom 6 RX10 (some .int) rmX10_wrongIfSungFrom) (a0 : Nat) (a1 : Nat) (a2 : Int32) (h : AH) (res : Int32 × AH) (hf : f_X10_wrongIfSungFrom a0 a1 a2 h = some res) (K : ∀ (v : Int32) (h2 : AH), res = (v, h2) → PR X rmX10_wrongIfSungFrom (some (.int v)) h2) : PT X 6 0 0 0 [(0, .ref a0), (1, .ref a1), (2, .int a2)] [] h := by
  unfold f_X10_wrongIfSungFrom at hf
  refine pt_iload_n C 2 rfl rfl dX10_wrongIfSungFrom_0 ?_
  refine pt_if_lt C (tgt := 17) (by decide) dX10_wrongIfSungFrom_1 (fun c1 => ?_) (fun c1 => ?_)
  · rw [if_pos c1] at hf
    refine pt_iconst C (v := (-1)) (by decide) dX10_wrongIfSungFrom_17 ?_
    exact pt_iret C (K _ _ (Option.some.inj hf).symm) (by decide) (by decide) dX10_wrongIfSungFrom_18
  · rw [if_neg c1] at hf
    refine pt_iload_n C 2 rfl rfl dX10_wrongIfSungFrom_4 ?_
    refine pt_aload_n C 0 rfl rfl dX10_wrongIfSungFrom_5 ?_
    refine ob hf (fun v2 g3 hf => ?_)
    refine pt_getI C kX10 0 (by decide) tw_681 (Or.inl rfl) g3 dX10_wrongIfSungFrom_6 ?_
    refine pt_iadd C dX10_wrongIfSungFrom_9 ?_
    refine pt_aload_n C 1 rfl rfl dX10_wrongIfSungFrom_10 ?_
    refine ob hf (fun v4 g5 hf => ?_)
    refine pt_getI C kX6 1 (by decide) tw_48 (Or.inl rfl) g5 dX10_wrongIfSungFrom_11 ?_
    refine pt_icmp_le C (tgt := 19) (by decide) dX10_wrongIfSungFrom_14 (fun c6 => ?_) (fun c6 => ?_)
    · rw [if_pos c6] at hf
      refine pt_iconst C (v := 0) (by decide) dX10_wrongIfSungFrom_19 ?_
      refine pt_istore_n C [(3, .int 0), (0, .ref a0), (1, .ref a1), (2, .int a2)] rfl (by decide) rfl dX10_wrongIfSungFrom_20 ?_
      refine pt_iconst C (v := 0) (by decide) dX10_wrongIfSungFrom_21 ?_
      refine pt_istore C [(4, .int 0), (3, .int 0), (0, .ref a0), (1, .ref a1), (2, .int a2)] (by decide) rfl dX10_wrongIfSungFrom_22 ?_
      refine pt_sub C [(0, .ref a0), (1, .ref a1), (2, .int a2), (3, .int 0), (4, .int 0)] [2, 3, 4, 1, 0] rfl ?_
      refine ob hf (fun e22 g23 hf => ?_)
      refine l_X10_wrongIfSungFrom_L24 C a0 a1 a2 _ _ _ g23 ?_
      cases e22 with
      | inl e24 =>
        simp only [Sum.elim_inl] at hf ⊢
        refine pt_iload_n C 0 rfl rfl dX10_wrongIfSungFrom_83 ?_
        exact pt_iret C (K _ _ (Option.some.inj hf).symm) (by decide) (by decide) dX10_wrongIfSungFrom_84
      | inr e25 =>
        simp only [Sum.elim_inr] at hf ⊢
        refine pt_iconst C (v := (-1)) (by decide) dX10_wrongIfSungFrom_52 ?_
        exact pt_iret C (K _ _ (Option.some.inj hf).symm) (by decide) (by decide) dX10_wrongIfSungFrom_53
    · rw [if_neg c6] at hf
      refine pt_iconst C (v := (-1)) (by decide) dX10_wrongIfSungFrom_17 ?_
      exact pt_iret C (K _ _ (Option.some.inj hf).symm) (by decide) (by decide) dX10_wrongIfSungFrom_18
theorem con_X10_wrongIfSungFrom (l : Launch) (a0 : Nat) (a1 : Nat) (a2 : Int32) (h : AH) (q : Int32 × AH) (hf : f_X10_wrongIfSungFrom a0 a1 a2 h = some q) : Con l yX10_wrongIfSungFrom cX10_wrongIfSungFrom 6 (some .int) rmX10_wrongIfSungFrom [.ref a0, .ref a1, .int a2] h (some (.int q.1)) q.2 := Con.of (by decide +kernel) (Nat.le_of_ble_eq_true rfl) (fun X C I K => w_X10_wrongIfSungFrom_0 C a0 a1 a2 h q hf (fun v h2 e => by cases e; exact K))
abbrev rmX11_songOf : Room := { frames := 3, cells := 0, slots := 0, locals := 64 }
theorem yn_X11_songOf : YN yX11_songOf 1 := by refine ⟨?_, ?_, ?_⟩ <;> decide +kernel
set_option maxRecDepth 100000 in
set_option maxHeartbeats 4000000 in
theorem w_X11_songOf_0 {X : MX} (C : CX X cX11_songOf 2 RX11 (some (.object "HeaveSongs$Song")) rmX11_songOf) (a0 : Nat) (a1 : Int32) (h : AH) (res : Option Nat × AH) (hf : f_X11_songOf a0 a1 h = some res) (K : ∀ (v : Option Nat) (h2 : AH), res = (v, h2) → PR X rmX11_songOf (some (va_rf v)) h2) : PT X 2 0 0 0 [(0, .ref a0), (1, .int a1)] [] h := by
  unfold f_X11_songOf at hf
  refine pt_iload_n C 1 rfl rfl dX11_songOf_0 ?_
  refine pt_iconst C (v := 0) (by decide) dX11_songOf_1 ?_
  refine pt_aload_n C 0 rfl rfl dX11_songOf_2 ?_
  refine ob hf (fun v1 g2 hf => ?_)
  refine pt_getR C kX11 1 (by decide) tw_308 (Or.inl rfl) g2 dX11_songOf_3 ?_
  refine ob hf (fun _ g5 hf => ?_)
  refine ob hf (fun q3 g4 hf => ?_)
  refine pt_callV C (As := []) (rest := [.int 0, .int a1]) (v := (some (.int q3.1))) (fun l => con_Jx4a65c_size_8abf5 l v1 h _ g4) tw_363 tw_360 tw_361 tw_362 kJx4a65c g5 tw_5 yn_Jx4a65c_size_8abf5 (by decide) (Nat.le_of_ble_eq_true rfl) dX11_songOf_6 rfl ?_
  show PT X 2 0 0 9 [(0, .ref a0), (1, .int a1)] [.int q3.1, .int 0, .int a1] q3.2
  refine pt_iconst C (v := 1) (by decide) dX11_songOf_9 ?_
  refine pt_isub C dX11_songOf_10 ?_
  refine ob hf (fun q6 g7 hf => ?_)
  refine pt_callS C (As := [.int a1, .int 0, .int (q3.1 - 1)]) (rest := []) (v := (some (.int q6.1))) (fun l => con_X11_within l a1 0 (q3.1 - 1) q3.2 _ g7) tw_461 tw_459 tw_460 tw_1 yn_X11_within (by decide) (Nat.le_of_ble_eq_true rfl) dX11_songOf_11 rfl ?_
  show PT X 2 0 0 14 [(0, .ref a0), (1, .int a1)] [.int q6.1] q6.2
  refine pt_if_eq C (tgt := 31) (by decide) dX11_songOf_14 (fun c8 => ?_) (fun c8 => ?_)
  · rw [if_pos c8] at hf
    refine pt_null C dX11_songOf_31 ?_
    exact pt_aret C (v := none) (by first | exact Or.inl ⟨_, rfl⟩ | exact Or.inr ⟨_, rfl⟩) (K _ _ (Option.some.inj hf).symm) (by decide) (by decide) dX11_songOf_32
  · rw [if_neg c8] at hf
    refine pt_aload_n C 0 rfl rfl dX11_songOf_17 ?_
    refine ob hf (fun v9 g10 hf => ?_)
    refine pt_getR C kX11 1 (by decide) tw_308 (Or.inl rfl) g10 dX11_songOf_18 ?_
    refine pt_iload_n C 1 rfl rfl dX11_songOf_21 ?_
    refine ob hf (fun _ g13 hf => ?_)
    refine ob hf (fun q11 g12 hf => ?_)
    refine pt_callV C (As := [.int a1]) (rest := []) (v := (some (.ref q11.1))) (fun l => con_Jx4a65c_get_915e3 l v9 a1 q6.2 _ g12) tw_465 tw_462 tw_463 tw_464 kJx4a65c g13 tw_5 yn_Jx4a65c_get_915e3 (by decide) (Nat.le_of_ble_eq_true rfl) dX11_songOf_22 rfl ?_
    show PT X 2 0 0 25 [(0, .ref a0), (1, .int a1)] [.ref q11.1] q11.2
    refine ob hf (fun _ g14 hf => ?_)
    refine pt_cast C kX7 tw_364 g14 dX11_songOf_25 ?_
    refine pt_goto C (tgt := 32) (by decide) dX11_songOf_28 ?_
    exact pt_aret C (v := some q11.1) (by first | exact Or.inl ⟨_, rfl⟩ | exact Or.inr ⟨_, rfl⟩) (K _ _ (Option.some.inj hf).symm) (by decide) (by decide) dX11_songOf_32
theorem con_X11_songOf (l : Launch) (a0 : Nat) (a1 : Int32) (h : AH) (q : Option Nat × AH) (hf : f_X11_songOf a0 a1 h = some q) : Con l yX11_songOf cX11_songOf 2 (some (.object "HeaveSongs$Song")) rmX11_songOf [.ref a0, .int a1] h (some (va_rf q.1)) q.2 := Con.of (by decide +kernel) (Nat.le_of_ble_eq_true rfl) (fun X C I K => w_X11_songOf_0 C a0 a1 h q hf (fun v h2 e => by cases e; exact K))
abbrev rmX2_changes : Room := { frames := 1, cells := 0, slots := 0, locals := 23 }
theorem yn_X2_changes : YN yX2_changes 2 := by refine ⟨?_, ?_, ?_⟩ <;> decide +kernel
set_option maxRecDepth 100000 in
set_option maxHeartbeats 4000000 in
theorem w_X2_changes_L2 {X : MX} (C : CX X cX2_changes 8 RX2 (some .int) rmX2_changes) (x0 : Nat) (x1 : Nat) (x2 : Nat) (s : Int32 × AH) (res : (Int32 × AH) ⊕ ((AH))) (hf : f_X2_changes_L2 x0 x1 x2 s = some res) (K0 : ∀ (u3 : Int32) (hu : AH), res = .inl (u3, hu) → PT X 8 0 0 2 [(0, .ref x0), (1, .ref x1), (2, .ref x2), (3, .int u3)] [] hu) (K1 : ∀ (hu : AH), res = .inr (hu) → PT X 8 0 0 23 [(0, .ref x0), (1, .ref x1), (2, .ref x2)] [] hu) : PT X 8 0 0 2 [(0, .ref x0), (1, .ref x1), (2, .ref x2), (3, .int s.1)] [] s.2 := by
  unfold f_X2_changes_L2 at hf
  refine pt_iload_n C 3 rfl rfl dX2_changes_2 ?_
  refine pt_aload_n C 2 rfl rfl dX2_changes_3 ?_
  refine ob hf (fun v1 g2 hf => ?_)
  refine pt_getI C kX6 1 (by decide) tw_47 (Or.inl rfl) g2 dX2_changes_4 ?_
  refine pt_icmp_gt C (tgt := 23) (by decide) dX2_changes_7 (fun c3 => ?_) (fun c3 => ?_)
  · rw [if_pos c3] at hf
    refine pt_sub C [(0, .ref x0), (1, .ref x1), (2, .ref x2)] [0, 1, 2] rfl ?_
    exact K1 _ (Option.some.inj hf).symm
  · rw [if_neg c3] at hf
    refine pt_aload_n C 0 rfl rfl dX2_changes_10 ?_
    refine ob hf (fun v4 g5 hf => ?_)
    refine pt_getR C kX2 0 (by decide) tw_295 (Or.inl rfl) g5 dX2_changes_11 ?_
    refine pt_iload_n C 3 rfl rfl dX2_changes_14 ?_
    refine pt_iload_n C 3 rfl rfl dX2_changes_15 ?_
    refine ob hf (fun h6 g7 hf => ?_)
    refine pt_iast C g7 dX2_changes_16 ?_
    refine pt_iinc C 3 [(3, .int (s.1 + 1)), (0, .ref x0), (1, .ref x1), (2, .ref x2)] rfl (iinc_eq s.1 (by decide)) (by decide) rfl dX2_changes_17 ?_
    refine pt_goto C (tgt := 2) (by decide) dX2_changes_20 ?_
    refine pt_sub C [(0, .ref x0), (1, .ref x1), (2, .ref x2), (3, .int (s.1 + 1))] [1, 2, 3, 0] rfl ?_
    exact K0 _ _ (Option.some.inj hf).symm
theorem l_X2_changes_L2 {X : MX} (C : CX X cX2_changes 8 RX2 (some .int) rmX2_changes) (x0 : Nat) (x1 : Nat) (x2 : Nat) : ∀ (n : Nat) (s : Int32 × AH) (r : (AH)), iter (f_X2_changes_L2 x0 x1 x2) n s = some r → (fun r : (AH) => PT X 8 0 0 23 [(0, .ref x0), (1, .ref x1), (2, .ref x2)] [] r) r → PT X 8 0 0 2 [(0, .ref x0), (1, .ref x1), (2, .ref x2), (3, .int s.1)] [] s.2 :=
  iter_W (fun s : Int32 × AH => PT X 8 0 0 2 [(0, .ref x0), (1, .ref x1), (2, .ref x2), (3, .int s.1)] [] s.2) (fun r : (AH) => PT X 8 0 0 23 [(0, .ref x0), (1, .ref x1), (2, .ref x2)] [] r) _ (fun s s2 hf P => w_X2_changes_L2 C x0 x1 x2 s _ hf (fun u3 hu e => by cases e; exact P) (fun hu e => by cases e)) (fun s r hf P => w_X2_changes_L2 C x0 x1 x2 s _ hf (fun u3 hu e => by cases e) (fun hu e => by cases e; exact P))
set_option maxRecDepth 100000 in
set_option maxHeartbeats 4000000 in
theorem w_X2_changes_L53_J96 {X : MX} (C : CX X cX2_changes 8 RX2 (some .int) rmX2_changes) (x0 : Nat) (x1 : Nat) (x2 : Nat) (x3 : Int32) (y5 : Int32) (y6 : Int32) (z0 : Int32) (z1 : Int32) (h : AH) (res : (Int32 × Int32 × AH) ⊕ ((AH))) (hf : f_X2_changes_L53_J96 x0 x1 x2 x3 y5 y6 z0 z1 h = some res) (K0 : ∀ (u4 : Int32) (u5 : Int32) (hu : AH), res = .inl (u4, u5, hu) → PT X 8 0 0 53 [(0, .ref x0), (1, .ref x1), (2, .ref x2), (3, .int x3), (4, .int u4), (5, .int u5)] [] hu) (K1 : ∀ (hu : AH), res = .inr (hu) → PT X 8 0 0 137 [(0, .ref x0), (1, .ref x1), (2, .ref x2), (3, .int x3)] [] hu) : PT X 8 0 0 96 [(0, .ref x0), (1, .ref x1), (2, .ref x2), (3, .int x3), (5, .int y5), (6, .int y6)] [.int z0, .int z1] h := by
  unfold f_X2_changes_L53_J96 at hf
  refine pt_iadd C dX2_changes_96 ?_
  refine pt_istore C [(7, .int (z1 + z0)), (0, .ref x0), (1, .ref x1), (2, .ref x2), (3, .int x3), (5, .int y5), (6, .int y6)] (by decide) rfl dX2_changes_97 ?_
  refine pt_aload_n C 1 rfl rfl dX2_changes_99 ?_
  refine ob hf (fun v37 g38 hf => ?_)
  refine pt_getR C kX2 0 (by decide) tw_295 (Or.inl rfl) g38 dX2_changes_100 ?_
  refine pt_iload C 5 rfl dX2_changes_103 ?_
  refine pt_iconst C (v := 1) (by decide) dX2_changes_105 ?_
  refine pt_iadd C dX2_changes_106 ?_
  refine pt_iload C 0 rfl dX2_changes_107 ?_
  refine pt_iload C 6 rfl dX2_changes_109 ?_
  refine pt_aload_n C 1 rfl rfl dX2_changes_111 ?_
  refine ob hf (fun v39 g40 hf => ?_)
  refine pt_getR C kX2 0 (by decide) tw_295 (Or.inl rfl) g40 dX2_changes_112 ?_
  refine pt_iload C 5 rfl dX2_changes_115 ?_
  refine ob hf (fun v41 g42 hf => ?_)
  refine pt_iald C g42 dX2_changes_117 ?_
  refine pt_mmin C tw_841 tw_444 tw_16 tw_445 (by decide) (Nat.le_of_ble_eq_true rfl) (by decide) (by decide) dX2_changes_118 ?_
  refine pt_iconst C (v := 1) (by decide) dX2_changes_121 ?_
  refine pt_iadd C dX2_changes_122 ?_
  refine pt_mmin C tw_841 tw_444 tw_16 tw_445 (by decide) (Nat.le_of_ble_eq_true rfl) (by decide) (by decide) dX2_changes_123 ?_
  refine ob hf (fun h43 g44 hf => ?_)
  refine pt_iast C g44 dX2_changes_126 ?_
  refine pt_iload C 6 rfl dX2_changes_127 ?_
  refine pt_istore C [(4, .int y6), (7, .int (z1 + z0)), (0, .ref x0), (1, .ref x1), (2, .ref x2), (3, .int x3), (5, .int y5), (6, .int y6)] (by decide) rfl dX2_changes_129 ?_
  refine pt_iinc C 6 [(5, .int (y5 + 1)), (4, .int y6), (7, .int (z1 + z0)), (0, .ref x0), (1, .ref x1), (2, .ref x2), (3, .int x3), (6, .int y6)] rfl (iinc_eq y5 (by decide)) (by decide) rfl dX2_changes_131 ?_
  refine pt_goto C (tgt := 53) (by decide) dX2_changes_134 ?_
  refine pt_sub C [(0, .ref x0), (1, .ref x1), (2, .ref x2), (3, .int x3), (4, .int y6), (5, .int (y5 + 1))] [3, 4, 5, 6, 1, 0] rfl ?_
  exact K0 _ _ _ (Option.some.inj hf).symm
set_option maxRecDepth 100000 in
set_option maxHeartbeats 4000000 in
theorem w_X2_changes_L53 {X : MX} (C : CX X cX2_changes 8 RX2 (some .int) rmX2_changes) (x0 : Nat) (x1 : Nat) (x2 : Nat) (x3 : Int32) (s : Int32 × Int32 × AH) (res : (Int32 × Int32 × AH) ⊕ ((AH))) (hf : f_X2_changes_L53 x0 x1 x2 x3 s = some res) (K0 : ∀ (u4 : Int32) (u5 : Int32) (hu : AH), res = .inl (u4, u5, hu) → PT X 8 0 0 53 [(0, .ref x0), (1, .ref x1), (2, .ref x2), (3, .int x3), (4, .int u4), (5, .int u5)] [] hu) (K1 : ∀ (hu : AH), res = .inr (hu) → PT X 8 0 0 137 [(0, .ref x0), (1, .ref x1), (2, .ref x2), (3, .int x3)] [] hu) : PT X 8 0 0 53 [(0, .ref x0), (1, .ref x1), (2, .ref x2), (3, .int x3), (4, .int s.1), (5, .int s.2.1)] [] s.2.2 := by
  unfold f_X2_changes_L53 at hf
  refine pt_iload C 5 rfl dX2_changes_53 ?_
  refine pt_aload_n C 2 rfl rfl dX2_changes_55 ?_
  refine ob hf (fun v21 g22 hf => ?_)
  refine pt_getI C kX6 1 (by decide) tw_47 (Or.inl rfl) g22 dX2_changes_56 ?_
  refine pt_icmp_ge C (tgt := 137) (by decide) dX2_changes_59 (fun c23 => ?_) (fun c23 => ?_)
  · rw [if_pos c23] at hf
    refine pt_sub C [(0, .ref x0), (1, .ref x1), (2, .ref x2), (3, .int x3)] [0, 1, 2, 3] rfl ?_
    exact K1 _ (Option.some.inj hf).symm
  · rw [if_neg c23] at hf
    refine pt_aload_n C 0 rfl rfl dX2_changes_62 ?_
    refine ob hf (fun v24 g25 hf => ?_)
    refine pt_getR C kX2 0 (by decide) tw_295 (Or.inl rfl) g25 dX2_changes_63 ?_
    refine pt_iload C 5 rfl dX2_changes_66 ?_
    refine pt_iconst C (v := 1) (by decide) dX2_changes_68 ?_
    refine pt_iadd C dX2_changes_69 ?_
    refine ob hf (fun v26 g27 hf => ?_)
    refine pt_iald C g27 dX2_changes_70 ?_
    refine pt_istore C [(6, .int v26), (0, .ref x0), (1, .ref x1), (2, .ref x2), (3, .int x3), (4, .int s.1), (5, .int s.2.1)] (by decide) rfl dX2_changes_71 ?_
    refine pt_iload C 5 rfl dX2_changes_73 ?_
    refine pt_aload_n C 2 rfl rfl dX2_changes_75 ?_
    refine ob hf (fun v28 g29 hf => ?_)
    refine pt_getR C kX6 0 (by decide) tw_42 (Or.inl rfl) g29 dX2_changes_76 ?_
    refine pt_iload_n C 4 rfl rfl dX2_changes_79 ?_
    refine ob hf (fun v30 g31 hf => ?_)
    refine pt_iald C g31 dX2_changes_80 ?_
    refine pt_aload_n C 3 rfl rfl dX2_changes_81 ?_
    refine ob hf (fun v32 g33 hf => ?_)
    refine pt_getR C kX6 0 (by decide) tw_42 (Or.inl rfl) g33 dX2_changes_82 ?_
    refine pt_iload C 6 rfl dX2_changes_85 ?_
    refine ob hf (fun v34 g35 hf => ?_)
    refine pt_iald C g35 dX2_changes_87 ?_
    refine pt_icmp_ne C (tgt := 95) (by decide) dX2_changes_88 (fun c36 => ?_) (fun c36 => ?_)
    · rw [if_neg c36] at hf
      refine pt_iconst C (v := 1) (by decide) dX2_changes_95 ?_
      refine pt_sub C [(0, .ref x0), (1, .ref x1), (2, .ref x2), (3, .int x3), (5, .int s.2.1), (6, .int v26)] [1, 2, 3, 4, 6, 0] rfl ?_
      exact w_X2_changes_L53_J96 C x0 x1 x2 x3 s.2.1 v26 1 s.1 s.2.2 _ hf K0 K1
    · rw [if_pos c36] at hf
      refine pt_iconst C (v := 0) (by decide) dX2_changes_91 ?_
      refine pt_goto C (tgt := 96) (by decide) dX2_changes_92 ?_
      refine pt_sub C [(0, .ref x0), (1, .ref x1), (2, .ref x2), (3, .int x3), (5, .int s.2.1), (6, .int v26)] [1, 2, 3, 4, 6, 0] rfl ?_
      exact w_X2_changes_L53_J96 C x0 x1 x2 x3 s.2.1 v26 0 s.1 s.2.2 _ hf K0 K1
theorem l_X2_changes_L53 {X : MX} (C : CX X cX2_changes 8 RX2 (some .int) rmX2_changes) (x0 : Nat) (x1 : Nat) (x2 : Nat) (x3 : Int32) : ∀ (n : Nat) (s : Int32 × Int32 × AH) (r : (AH)), iter (f_X2_changes_L53 x0 x1 x2 x3) n s = some r → (fun r : (AH) => PT X 8 0 0 137 [(0, .ref x0), (1, .ref x1), (2, .ref x2), (3, .int x3)] [] r) r → PT X 8 0 0 53 [(0, .ref x0), (1, .ref x1), (2, .ref x2), (3, .int x3), (4, .int s.1), (5, .int s.2.1)] [] s.2.2 :=
  iter_W (fun s : Int32 × Int32 × AH => PT X 8 0 0 53 [(0, .ref x0), (1, .ref x1), (2, .ref x2), (3, .int x3), (4, .int s.1), (5, .int s.2.1)] [] s.2.2) (fun r : (AH) => PT X 8 0 0 137 [(0, .ref x0), (1, .ref x1), (2, .ref x2), (3, .int x3)] [] r) _ (fun s s2 hf P => w_X2_changes_L53 C x0 x1 x2 x3 s _ hf (fun u4 u5 hu e => by cases e; exact P) (fun hu e => by cases e)) (fun s r hf P => w_X2_changes_L53 C x0 x1 x2 x3 s _ hf (fun u4 u5 hu e => by cases e) (fun hu e => by cases e; exact P))
set_option maxRecDepth 100000 in
set_option maxHeartbeats 4000000 in
theorem w_X2_changes_L25 {X : MX} (C : CX X cX2_changes 8 RX2 (some .int) rmX2_changes) (x0 : Nat) (x1 : Nat) (x2 : Nat) (s : Int32 × AH) (res : (Int32 × AH) ⊕ ((AH))) (hf : f_X2_changes_L25 x0 x1 x2 s = some res) (K0 : ∀ (u3 : Int32) (hu : AH), res = .inl (u3, hu) → PT X 8 0 0 25 [(0, .ref x0), (1, .ref x1), (2, .ref x2), (3, .int u3)] [] hu) (K1 : ∀ (hu : AH), res = .inr (hu) → PT X 8 0 0 143 [(0, .ref x0), (2, .ref x2)] [] hu) : PT X 8 0 0 25 [(0, .ref x0), (1, .ref x1), (2, .ref x2), (3, .int s.1)] [] s.2 := by
  unfold f_X2_changes_L25 at hf
  refine pt_iload_n C 3 rfl rfl dX2_changes_25 ?_
  refine pt_aload_n C 1 rfl rfl dX2_changes_26 ?_
  refine ob hf (fun v10 g11 hf => ?_)
  refine pt_getI C kX6 1 (by decide) tw_47 (Or.inl rfl) g11 dX2_changes_27 ?_
  refine pt_icmp_ge C (tgt := 143) (by decide) dX2_changes_30 (fun c12 => ?_) (fun c12 => ?_)
  · rw [if_pos c12] at hf
    refine pt_sub C [(0, .ref x0), (2, .ref x2)] [0, 2] rfl ?_
    exact K1 _ (Option.some.inj hf).symm
  · rw [if_neg c12] at hf
    refine pt_aload_n C 0 rfl rfl dX2_changes_33 ?_
    refine ob hf (fun v13 g14 hf => ?_)
    refine pt_getR C kX2 0 (by decide) tw_295 (Or.inl rfl) g14 dX2_changes_34 ?_
    refine pt_iconst C (v := 0) (by decide) dX2_changes_37 ?_
    refine ob hf (fun v15 g16 hf => ?_)
    refine pt_iald C g16 dX2_changes_38 ?_
    refine pt_istore C [(4, .int v15), (0, .ref x0), (1, .ref x1), (2, .ref x2), (3, .int s.1)] (by decide) rfl dX2_changes_39 ?_
    refine pt_aload_n C 1 rfl rfl dX2_changes_41 ?_
    refine ob hf (fun v17 g18 hf => ?_)
    refine pt_getR C kX2 0 (by decide) tw_295 (Or.inl rfl) g18 dX2_changes_42 ?_
    refine pt_iconst C (v := 0) (by decide) dX2_changes_45 ?_
    refine pt_iload_n C 4 rfl rfl dX2_changes_46 ?_
    refine pt_iconst C (v := 1) (by decide) dX2_changes_47 ?_
    refine pt_iadd C dX2_changes_48 ?_
    refine ob hf (fun h19 g20 hf => ?_)
    refine pt_iast C g20 dX2_changes_49 ?_
    refine pt_iconst C (v := 0) (by decide) dX2_changes_50 ?_
    refine pt_istore C [(5, .int 0), (4, .int v15), (0, .ref x0), (1, .ref x1), (2, .ref x2), (3, .int s.1)] (by decide) rfl dX2_changes_51 ?_
    refine pt_sub C [(0, .ref x0), (1, .ref x1), (2, .ref x2), (3, .int s.1), (4, .int v15), (5, .int 0)] [2, 3, 4, 5, 1, 0] rfl ?_
    refine ob hf (fun e45 g46 hf => ?_)
    refine l_X2_changes_L53 C x0 x1 x2 s.1 _ _ _ g46 ?_
    refine pt_iinc C 3 [(3, .int (s.1 + 1)), (0, .ref x0), (1, .ref x1), (2, .ref x2)] rfl (iinc_eq s.1 (by decide)) (by decide) rfl dX2_changes_137 ?_
    refine pt_goto C (tgt := 25) (by decide) dX2_changes_140 ?_
    refine pt_sub C [(0, .ref x0), (1, .ref x1), (2, .ref x2), (3, .int (s.1 + 1))] [1, 2, 3, 0] rfl ?_
    exact K0 _ _ (Option.some.inj hf).symm
theorem l_X2_changes_L25 {X : MX} (C : CX X cX2_changes 8 RX2 (some .int) rmX2_changes) (x0 : Nat) (x1 : Nat) (x2 : Nat) : ∀ (n : Nat) (s : Int32 × AH) (r : (AH)), iter (f_X2_changes_L25 x0 x1 x2) n s = some r → (fun r : (AH) => PT X 8 0 0 143 [(0, .ref x0), (2, .ref x2)] [] r) r → PT X 8 0 0 25 [(0, .ref x0), (1, .ref x1), (2, .ref x2), (3, .int s.1)] [] s.2 :=
  iter_W (fun s : Int32 × AH => PT X 8 0 0 25 [(0, .ref x0), (1, .ref x1), (2, .ref x2), (3, .int s.1)] [] s.2) (fun r : (AH) => PT X 8 0 0 143 [(0, .ref x0), (2, .ref x2)] [] r) _ (fun s s2 hf P => w_X2_changes_L25 C x0 x1 x2 s _ hf (fun u3 hu e => by cases e; exact P) (fun hu e => by cases e)) (fun s r hf P => w_X2_changes_L25 C x0 x1 x2 s _ hf (fun u3 hu e => by cases e) (fun hu e => by cases e; exact P))
set_option maxRecDepth 100000 in
set_option maxHeartbeats 4000000 in
theorem w_X2_changes_0 {X : MX} (C : CX X cX2_changes 8 RX2 (some .int) rmX2_changes) (a0 : Nat) (a1 : Nat) (a2 : Nat) (h : AH) (res : Int32 × AH) (hf : f_X2_changes a0 a1 a2 h = some res) (K : ∀ (v : Int32) (h2 : AH), res = (v, h2) → PR X rmX2_changes (some (.int v)) h2) : PT X 8 0 0 0 [(0, .ref a0), (1, .ref a1), (2, .ref a2)] [] h := by
  unfold f_X2_changes at hf
  refine pt_iconst C (v := 0) (by decide) dX2_changes_0 ?_
  refine pt_istore_n C [(3, .int 0), (0, .ref a0), (1, .ref a1), (2, .ref a2)] rfl (by decide) rfl dX2_changes_1 ?_
  refine pt_sub C [(0, .ref a0), (1, .ref a1), (2, .ref a2), (3, .int 0)] [1, 2, 3, 0] rfl ?_
  refine ob hf (fun e8 g9 hf => ?_)
  refine l_X2_changes_L2 C a0 a1 a2 _ _ _ g9 ?_
  refine pt_iconst C (v := 0) (by decide) dX2_changes_23 ?_
  refine pt_istore_n C [(3, .int 0), (0, .ref a0), (1, .ref a1), (2, .ref a2)] rfl (by decide) rfl dX2_changes_24 ?_
  refine pt_sub C [(0, .ref a0), (1, .ref a1), (2, .ref a2), (3, .int 0)] [1, 2, 3, 0] rfl ?_
  refine ob hf (fun e47 g48 hf => ?_)
  refine l_X2_changes_L25 C a0 a1 a2 _ _ _ g48 ?_
  refine pt_aload_n C 0 rfl rfl dX2_changes_143 ?_
  refine ob hf (fun v49 g50 hf => ?_)
  refine pt_getR C kX2 0 (by decide) tw_295 (Or.inl rfl) g50 dX2_changes_144 ?_
  refine pt_aload_n C 1 rfl rfl dX2_changes_147 ?_
  refine ob hf (fun v51 g52 hf => ?_)
  refine pt_getI C kX6 1 (by decide) tw_47 (Or.inl rfl) g52 dX2_changes_148 ?_
  refine ob hf (fun v53 g54 hf => ?_)
  refine pt_iald C g54 dX2_changes_151 ?_
  exact pt_iret C (K _ _ (Option.some.inj hf).symm) (by decide) (by decide) dX2_changes_152
theorem con_X2_changes (l : Launch) (a0 : Nat) (a1 : Nat) (a2 : Nat) (h : AH) (q : Int32 × AH) (hf : f_X2_changes a0 a1 a2 h = some q) : Con l yX2_changes cX2_changes 8 (some .int) rmX2_changes [.ref a0, .ref a1, .ref a2] h (some (.int q.1)) q.2 := Con.of (by decide +kernel) (Nat.le_of_ble_eq_true rfl) (fun X C I K => w_X2_changes_0 C a0 a1 a2 h q hf (fun v h2 e => by cases e; exact K))
