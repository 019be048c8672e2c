abbrev rmX12_wipe : Room := { frames := 0, cells := 0, slots := 0, locals := 0 }
theorem yn_X12_wipe : YN yX12_wipe 0 := by refine ⟨?_, ?_, ?_⟩ <;> decide +kernel
set_option maxRecDepth 100000 in
set_option maxHeartbeats 4000000 in
theorem w_X12_wipe_0 {X : MX} (C : CX X cX12_wipe 2 RX12 (some .int) rmX12_wipe) (a0 : Nat) (h : AH) (res : Int32 × AH) (hf : f_X12_wipe a0 h = some res) (K : ∀ (v : Int32) (h2 : AH), res = (v, h2) → PR X rmX12_wipe (some (.int v)) h2) : PT X 2 0 0 0 [(0, .ref a0)] [] h := by
  unfold f_X12_wipe at hf
  refine pt_aload_n C 0 rfl rfl dX12_wipe_0 ?_
  refine ob hf (fun v1 g2 hf => ?_)
  refine pt_getI C kX12 35 (by decide) tw_951 (Or.inl rfl) g2 dX12_wipe_1 ?_
  refine pt_istore_n C [(1, .int v1), (0, .ref a0)] rfl (by decide) rfl dX12_wipe_4 ?_
  refine pt_aload_n C 1 rfl rfl dX12_wipe_5 ?_
  refine pt_iconst C (v := 0) (by decide) dX12_wipe_6 ?_
  refine ob hf (fun h3 g4 hf => ?_)
  refine pt_put C kX12 35 (by decide) tw_951 (Or.inl rfl) rfl rfl rfl g4 dX12_wipe_7 ?_
  refine pt_iload_n C 0 rfl rfl dX12_wipe_10 ?_
  exact pt_iret C (K _ _ (Option.some.inj hf).symm) (by decide) (by decide) dX12_wipe_11
theorem con_X12_wipe (l : Launch) (a0 : Nat) (h : AH) (q : Int32 × AH) (hf : f_X12_wipe a0 h = some q) : Con l yX12_wipe cX12_wipe 2 (some .int) rmX12_wipe [.ref a0] h (some (.int q.1)) q.2 := Con.of (by decide +kernel) (Nat.le_of_ble_eq_true rfl) (fun X C I K => w_X12_wipe_0 C a0 h q hf (fun v h2 e => by cases e; exact K))
abbrev rmX12_won : Room := { frames := 0, cells := 0, slots := 0, locals := 0 }
theorem yn_X12_won : YN yX12_won 1 := by refine ⟨?_, ?_, ?_⟩ <;> decide +kernel
set_option maxRecDepth 100000 in
set_option maxHeartbeats 4000000 in
theorem w_X12_won_0 {X : MX} (C : CX X cX12_won 2 RX12 (some .int) rmX12_won) (a0 : Nat) (a1 : Int32) (h : AH) (res : Int32 × AH) (hf : f_X12_won a0 a1 h = some res) (K : ∀ (v : Int32) (h2 : AH), res = (v, h2) → PR X rmX12_won (some (.int v)) h2) : PT X 2 0 0 0 [(0, .ref a0), (1, .int a1)] [] h := by
  unfold f_X12_won at hf
  refine pt_iload_n C 1 rfl rfl dX12_won_0 ?_
  refine pt_if_ge C (tgt := 9) (by decide) dX12_won_1 (fun c1 => ?_) (fun c1 => ?_)
  · rw [if_pos c1] at hf
    refine pt_iload_n C 1 rfl rfl dX12_won_9 ?_
    refine pt_aload_n C 0 rfl rfl dX12_won_10 ?_
    refine ob hf (fun v2 g3 hf => ?_)
    refine pt_getI C kX12 16 (by decide) tw_932 (Or.inl rfl) g3 dX12_won_11 ?_
    refine pt_icmp_ge C (tgt := 26) (by decide) dX12_won_14 (fun c4 => ?_) (fun c4 => ?_)
    · rw [if_pos c4] at hf
      refine pt_iconst C (v := (-1)) (by decide) dX12_won_26 ?_
      exact pt_iret C (K _ _ (Option.some.inj hf).symm) (by decide) (by decide) dX12_won_27
    · rw [if_neg c4] at hf
      refine pt_aload_n C 0 rfl rfl dX12_won_17 ?_
      refine ob hf (fun v5 g6 hf => ?_)
      refine pt_getR C kX12 17 (by decide) tw_933 (Or.inl rfl) g6 dX12_won_18 ?_
      refine pt_iload_n C 1 rfl rfl dX12_won_21 ?_
      refine ob hf (fun v7 g8 hf => ?_)
      refine pt_iald C g8 dX12_won_22 ?_
      refine pt_goto C (tgt := 27) (by decide) dX12_won_23 ?_
      exact pt_iret C (K _ _ (Option.some.inj hf).symm) (by decide) (by decide) dX12_won_27
  · rw [if_neg c1] at hf
    refine pt_bipush C (v := (-2)) (by decide) dX12_won_4 ?_
    refine pt_goto C (tgt := 27) (by decide) dX12_won_6 ?_
    exact pt_iret C (K _ _ (Option.some.inj hf).symm) (by decide) (by decide) dX12_won_27
theorem con_X12_won (l : Launch) (a0 : Nat) (a1 : Int32) (h : AH) (q : Int32 × AH) (hf : f_X12_won a0 a1 h = some q) : Con l yX12_won cX12_won 2 (some .int) rmX12_won [.ref a0, .int a1] h (some (.int q.1)) q.2 := Con.of (by decide +kernel) (Nat.le_of_ble_eq_true rfl) (fun X C I K => w_X12_won_0 C a0 a1 h q hf (fun v h2 e => by cases e; exact K))
abbrev rmX12_word : Room := { frames := 1, cells := 0, slots := 0, locals := 25 }
theorem yn_X12_word : YN yX12_word 2 := by refine ⟨?_, ?_, ?_⟩ <;> decide +kernel
set_option maxRecDepth 100000 in
set_option maxHeartbeats 4000000 in
theorem w_X12_word_0 {X : MX} (C : CX X cX12_word 3 RX12 (some .int) rmX12_word) (a0 : Nat) (a1 : Int32) (a2 : Int32) (h : AH) (res : Int32 × AH) (hf : f_X12_word a0 a1 a2 h = some res) (K : ∀ (v : Int32) (h2 : AH), res = (v, h2) → PR X rmX12_word (some (.int v)) h2) : PT X 3 0 0 0 [(0, .ref a0), (1, .int a1), (2, .int a2)] [] h := by
  unfold f_X12_word at hf
  refine pt_iload_n C 1 rfl rfl dX12_word_0 ?_
  refine pt_i2l C dX12_word_1 ?_
  refine pt_lconst C (v := 1) (by decide) dX12_word_2 ?_
  refine pt_ldc2 C tw_1201 dX12_word_3 ?_
  refine ob hf (fun q1 g2 hf => ?_)
  refine pt_callS C (As := [.long a1.toInt64, .long 1, .long 5]) (rest := []) (v := (some (.int q1.1))) (fun l => con_X12_in l a1.toInt64 1 5 h _ g2) tw_1065 tw_1063 tw_1064 tw_13 yn_X12_in (by decide) (Nat.le_of_ble_eq_true rfl) dX12_word_6 rfl ?_
  show PT X 3 0 0 9 [(0, .ref a0), (1, .int a1), (2, .int a2)] [.int q1.1] q1.2
  refine pt_if_eq C (tgt := 27) (by decide) dX12_word_9 (fun c3 => ?_) (fun c3 => ?_)
  · rw [if_pos c3] at hf
    refine pt_bipush C (v := (-2)) (by decide) dX12_word_27 ?_
    exact pt_iret C (K _ _ (Option.some.inj hf).symm) (by decide) (by decide) dX12_word_29
  · rw [if_neg c3] at hf
    refine pt_iload_n C 2 rfl rfl dX12_word_12 ?_
    refine pt_i2l C dX12_word_13 ?_
    refine pt_lconst C (v := 0) (by decide) dX12_word_14 ?_
    refine pt_iconst C (v := 1) (by decide) dX12_word_15 ?_
    refine pt_iload_n C 1 rfl rfl dX12_word_16 ?_
    refine pt_ishl C dX12_word_17 ?_
    refine pt_iconst C (v := 1) (by decide) dX12_word_18 ?_
    refine pt_isub C dX12_word_19 ?_
    refine pt_i2l C dX12_word_20 ?_
    refine ob hf (fun q4 g5 hf => ?_)
    refine pt_callS C (As := [.long a2.toInt64, .long 0, .long (((1 <<< (a1 &&& 31)) - 1).toInt64)]) (rest := []) (v := (some (.int q4.1))) (fun l => con_X12_in l a2.toInt64 0 (((1 <<< (a1 &&& 31)) - 1).toInt64) q1.2 _ g5) tw_1065 tw_1063 tw_1064 tw_13 yn_X12_in (by decide) (Nat.le_of_ble_eq_true rfl) dX12_word_21 rfl ?_
    show PT X 3 0 0 24 [(0, .ref a0), (1, .int a1), (2, .int a2)] [.int q4.1] q4.2
    refine pt_if_ne C (tgt := 30) (by decide) dX12_word_24 (fun c6 => ?_) (fun c6 => ?_)
    · rw [if_neg c6] at hf
      refine pt_aload_n C 0 rfl rfl dX12_word_30 ?_
      refine ob hf (fun v7 g8 hf => ?_)
      refine pt_getI C kX12 30 (by decide) tw_946 (Or.inl rfl) g8 dX12_word_31 ?_
      refine pt_bipush C (v := 12) (by decide) dX12_word_34 ?_
      refine pt_icmp_ne C (tgt := 42) (by decide) dX12_word_36 (fun c9 => ?_) (fun c9 => ?_)
      · rw [if_neg c9] at hf
        refine pt_aload_n C 0 rfl rfl dX12_word_42 ?_
        refine ob hf (fun v10 g11 hf => ?_)
        refine pt_getR C kX12 31 (by decide) tw_947 (Or.inl rfl) g11 dX12_word_43 ?_
        refine pt_aload_n C 0 rfl rfl dX12_word_46 ?_
        refine ob hf (fun v12 g13 hf => ?_)
        refine pt_getI C kX12 30 (by decide) tw_946 (Or.inl rfl) g13 dX12_word_47 ?_
        refine pt_iload_n C 1 rfl rfl dX12_word_50 ?_
        refine ob hf (fun h14 g15 hf => ?_)
        refine pt_iast C g15 dX12_word_51 ?_
        refine pt_aload_n C 0 rfl rfl dX12_word_52 ?_
        refine ob hf (fun v16 g17 hf => ?_)
        refine pt_getR C kX12 32 (by decide) tw_948 (Or.inl rfl) g17 dX12_word_53 ?_
        refine pt_aload_n C 0 rfl rfl dX12_word_56 ?_
        refine ob hf (fun v18 g19 hf => ?_)
        refine pt_getI C kX12 30 (by decide) tw_946 (Or.inl rfl) g19 dX12_word_57 ?_
        refine pt_iload_n C 2 rfl rfl dX12_word_60 ?_
        refine ob hf (fun h20 g21 hf => ?_)
        refine pt_iast C g21 dX12_word_61 ?_
        refine pt_aload_n C 0 rfl rfl dX12_word_62 ?_
        refine pt_dup C rfl dX12_word_63 ?_
        refine ob hf (fun v22 g23 hf => ?_)
        refine pt_getI C kX12 30 (by decide) tw_946 (Or.inl rfl) g23 dX12_word_64 ?_
        refine pt_iconst C (v := 1) (by decide) dX12_word_67 ?_
        refine pt_iadd C dX12_word_68 ?_
        refine ob hf (fun h24 g25 hf => ?_)
        refine pt_put C kX12 30 (by decide) tw_946 (Or.inl rfl) rfl rfl rfl g25 dX12_word_69 ?_
        refine pt_aload_n C 0 rfl rfl dX12_word_72 ?_
        refine ob hf (fun v26 g27 hf => ?_)
        refine pt_getI C kX12 30 (by decide) tw_946 (Or.inl rfl) g27 dX12_word_73 ?_
        refine pt_iconst C (v := 1) (by decide) dX12_word_76 ?_
        refine pt_isub C dX12_word_77 ?_
        exact pt_iret C (K _ _ (Option.some.inj hf).symm) (by decide) (by decide) dX12_word_78
      · rw [if_pos c9] at hf
        refine pt_bipush C (v := (-4)) (by decide) dX12_word_39 ?_
        exact pt_iret C (K _ _ (Option.some.inj hf).symm) (by decide) (by decide) dX12_word_41
    · rw [if_pos c6] at hf
      refine pt_bipush C (v := (-2)) (by decide) dX12_word_27 ?_
      exact pt_iret C (K _ _ (Option.some.inj hf).symm) (by decide) (by decide) dX12_word_29
theorem con_X12_word (l : Launch) (a0 : Nat) (a1 : Int32) (a2 : Int32) (h : AH) (q : Int32 × AH) (hf : f_X12_word a0 a1 a2 h = some q) : Con l yX12_word cX12_word 3 (some .int) rmX12_word [.ref a0, .int a1, .int a2] h (some (.int q.1)) q.2 := Con.of (by decide +kernel) (Nat.le_of_ble_eq_true rfl) (fun X C I K => w_X12_word_0 C a0 a1 a2 h q hf (fun v h2 e => by cases e; exact K))
