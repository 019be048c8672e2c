abbrev rmX12_lines : Room := { frames := 3, cells := 0, slots := 0, locals := 76 }
theorem yn_X12_lines : YN yX12_lines 1 := by refine ⟨?_, ?_, ?_⟩ <;> decide +kernel
set_option maxRecDepth 100000 in
set_option maxHeartbeats 4000000 in
theorem w_X12_lines_0 {X : MX} (C : CX X cX12_lines 2 RX12 (some .long) rmX12_lines) (a0 : Nat) (a1 : Int32) (h : AH) (res : Int64 × AH) (hf : f_X12_lines a0 a1 h = some res) (K : ∀ (v : Int64) (h2 : AH), res = (v, h2) → PR X rmX12_lines (some (.long v)) h2) : PT X 2 0 0 0 [(0, .ref a0), (1, .int a1)] [] h := by
  unfold f_X12_lines at hf
  refine pt_aload_n C 0 rfl rfl dX12_lines_0 ?_
  refine pt_iload_n C 1 rfl rfl dX12_lines_1 ?_
  refine ob hf (fun _ g3 hf => ?_)
  refine ob hf (fun q1 g2 hf => ?_)
  refine pt_callV C (As := [.int a1]) (rest := []) (v := (some (.int q1.1))) (fun l => con_X12_noSong l a0 a1 h _ g2) tw_1081 tw_1078 tw_1080 tp_22 kX12 g3 tw_13 yn_X12_noSong (by decide) (Nat.le_of_ble_eq_true rfl) dX12_lines_2 rfl ?_
  show PT X 2 0 0 5 [(0, .ref a0), (1, .int a1)] [.int q1.1] q1.2
  refine pt_if_eq C (tgt := 12) (by decide) dX12_lines_5 (fun c4 => ?_) (fun c4 => ?_)
  · rw [if_pos c4] at hf
    refine pt_aload_n C 0 rfl rfl dX12_lines_12 ?_
    refine pt_iload_n C 1 rfl rfl dX12_lines_13 ?_
    refine ob hf (fun _ g7 hf => ?_)
    refine ob hf (fun q5 g6 hf => ?_)
    refine pt_callV C (As := [.int a1]) (rest := []) (v := none) (fun l => con_X12_findLines l a0 a1 q1.2 _ g6) tw_1210 tw_1207 tw_1209 tp_33 kX12 g7 tw_13 yn_X12_findLines (by decide) (Nat.le_of_ble_eq_true rfl) dX12_lines_14 rfl ?_
    show PT X 2 0 0 17 [(0, .ref a0), (1, .int a1)] [] q5
    refine pt_aload_n C 0 rfl rfl dX12_lines_17 ?_
    refine ob hf (fun v8 g9 hf => ?_)
    refine pt_getR C kX12 33 (by decide) tw_949 (Or.inl rfl) g9 dX12_lines_18 ?_
    refine pt_iconst C (v := 0) (by decide) dX12_lines_21 ?_
    refine ob hf (fun v10 g11 hf => ?_)
    refine pt_lald C g11 dX12_lines_22 ?_
    exact pt_lret C (K _ _ (Option.some.inj hf).symm) (by decide) (by decide) dX12_lines_23
  · rw [if_neg c4] at hf
    refine pt_ldc2 C tw_1206 dX12_lines_8 ?_
    exact pt_lret C (K _ _ (Option.some.inj hf).symm) (by decide) (by decide) dX12_lines_11
theorem con_X12_lines (l : Launch) (a0 : Nat) (a1 : Int32) (h : AH) (q : Int64 × AH) (hf : f_X12_lines a0 a1 h = some q) : Con l yX12_lines cX12_lines 2 (some .long) rmX12_lines [.ref a0, .int a1] h (some (.long q.1)) q.2 := Con.of (by decide +kernel) (Nat.le_of_ble_eq_true rfl) (fun X C I K => w_X12_lines_0 C a0 a1 h q hf (fun v h2 e => by cases e; exact K))
abbrev rmX12_mark : Room := { frames := 1, cells := 0, slots := 0, locals := 25 }
theorem yn_X12_mark : YN yX12_mark 2 := by refine ⟨?_, ?_, ?_⟩ <;> decide +kernel
set_option maxRecDepth 100000 in
set_option maxHeartbeats 4000000 in
theorem w_X12_mark_0 {X : MX} (C : CX X cX12_mark 3 RX12 (some .int) rmX12_mark) (a0 : Nat) (a1 : Int32) (a2 : Int32) (h : AH) (res : Int32 × AH) (hf : f_X12_mark a0 a1 a2 h = some res) (K : ∀ (v : Int32) (h2 : AH), res = (v, h2) → PR X rmX12_mark (some (.int v)) h2) : PT X 3 0 0 0 [(0, .ref a0), (1, .int a1), (2, .int a2)] [] h := by
  unfold f_X12_mark at hf
  refine pt_iload_n C 1 rfl rfl dX12_mark_0 ?_
  refine pt_i2l C dX12_mark_1 ?_
  refine pt_lconst C (v := 0) (by decide) dX12_mark_2 ?_
  refine pt_ldc2 C tw_1240 dX12_mark_3 ?_
  refine ob hf (fun q1 g2 hf => ?_)
  refine pt_callS C (As := [.long a1.toInt64, .long 0, .long 299]) (rest := []) (v := (some (.int q1.1))) (fun l => con_X12_in l a1.toInt64 0 299 h _ g2) tw_1065 tw_1063 tw_1064 tw_13 yn_X12_in (by decide) (Nat.le_of_ble_eq_true rfl) dX12_mark_6 rfl ?_
  show PT X 3 0 0 9 [(0, .ref a0), (1, .int a1), (2, .int a2)] [.int q1.1] q1.2
  refine pt_if_eq C (tgt := 24) (by decide) dX12_mark_9 (fun c3 => ?_) (fun c3 => ?_)
  · rw [if_pos c3] at hf
    refine pt_bipush C (v := (-2)) (by decide) dX12_mark_24 ?_
    exact pt_iret C (K _ _ (Option.some.inj hf).symm) (by decide) (by decide) dX12_mark_26
  · rw [if_neg c3] at hf
    refine pt_iload_n C 2 rfl rfl dX12_mark_12 ?_
    refine pt_i2l C dX12_mark_13 ?_
    refine pt_lconst C (v := 0) (by decide) dX12_mark_14 ?_
    refine pt_ldc2 C tw_1241 dX12_mark_15 ?_
    refine ob hf (fun q4 g5 hf => ?_)
    refine pt_callS C (As := [.long a2.toInt64, .long 0, .long 5000]) (rest := []) (v := (some (.int q4.1))) (fun l => con_X12_in l a2.toInt64 0 5000 q1.2 _ g5) tw_1065 tw_1063 tw_1064 tw_13 yn_X12_in (by decide) (Nat.le_of_ble_eq_true rfl) dX12_mark_18 rfl ?_
    show PT X 3 0 0 21 [(0, .ref a0), (1, .int a1), (2, .int a2)] [.int q4.1] q4.2
    refine pt_if_ne C (tgt := 27) (by decide) dX12_mark_21 (fun c6 => ?_) (fun c6 => ?_)
    · rw [if_neg c6] at hf
      refine pt_aload_n C 0 rfl rfl dX12_mark_27 ?_
      refine ob hf (fun v7 g8 hf => ?_)
      refine pt_getI C kX12 35 (by decide) tw_951 (Or.inl rfl) g8 dX12_mark_28 ?_
      refine pt_bipush C (v := 60) (by decide) dX12_mark_31 ?_
      refine pt_icmp_ne C (tgt := 39) (by decide) dX12_mark_33 (fun c9 => ?_) (fun c9 => ?_)
      · rw [if_neg c9] at hf
        refine pt_aload_n C 0 rfl rfl dX12_mark_39 ?_
        refine ob hf (fun v10 g11 hf => ?_)
        refine pt_getR C kX12 36 (by decide) tw_952 (Or.inl rfl) g11 dX12_mark_40 ?_
        refine pt_aload_n C 0 rfl rfl dX12_mark_43 ?_
        refine ob hf (fun v12 g13 hf => ?_)
        refine pt_getI C kX12 35 (by decide) tw_951 (Or.inl rfl) g13 dX12_mark_44 ?_
        refine pt_iload_n C 1 rfl rfl dX12_mark_47 ?_
        refine ob hf (fun h14 g15 hf => ?_)
        refine pt_iast C g15 dX12_mark_48 ?_
        refine pt_aload_n C 0 rfl rfl dX12_mark_49 ?_
        refine ob hf (fun v16 g17 hf => ?_)
        refine pt_getR C kX12 37 (by decide) tw_953 (Or.inl rfl) g17 dX12_mark_50 ?_
        refine pt_aload_n C 0 rfl rfl dX12_mark_53 ?_
        refine ob hf (fun v18 g19 hf => ?_)
        refine pt_getI C kX12 35 (by decide) tw_951 (Or.inl rfl) g19 dX12_mark_54 ?_
        refine pt_iload_n C 2 rfl rfl dX12_mark_57 ?_
        refine ob hf (fun h20 g21 hf => ?_)
        refine pt_iast C g21 dX12_mark_58 ?_
        refine pt_aload_n C 0 rfl rfl dX12_mark_59 ?_
        refine pt_dup C rfl dX12_mark_60 ?_
        refine ob hf (fun v22 g23 hf => ?_)
        refine pt_getI C kX12 35 (by decide) tw_951 (Or.inl rfl) g23 dX12_mark_61 ?_
        refine pt_iconst C (v := 1) (by decide) dX12_mark_64 ?_
        refine pt_iadd C dX12_mark_65 ?_
        refine ob hf (fun h24 g25 hf => ?_)
        refine pt_put C kX12 35 (by decide) tw_951 (Or.inl rfl) rfl rfl rfl g25 dX12_mark_66 ?_
        refine pt_aload_n C 0 rfl rfl dX12_mark_69 ?_
        refine ob hf (fun v26 g27 hf => ?_)
        refine pt_getI C kX12 35 (by decide) tw_951 (Or.inl rfl) g27 dX12_mark_70 ?_
        exact pt_iret C (K _ _ (Option.some.inj hf).symm) (by decide) (by decide) dX12_mark_73
      · rw [if_pos c9] at hf
        refine pt_bipush C (v := (-4)) (by decide) dX12_mark_36 ?_
        exact pt_iret C (K _ _ (Option.some.inj hf).symm) (by decide) (by decide) dX12_mark_38
    · rw [if_pos c6] at hf
      refine pt_bipush C (v := (-2)) (by decide) dX12_mark_24 ?_
      exact pt_iret C (K _ _ (Option.some.inj hf).symm) (by decide) (by decide) dX12_mark_26
theorem con_X12_mark (l : Launch) (a0 : Nat) (a1 : Int32) (a2 : Int32) (h : AH) (q : Int32 × AH) (hf : f_X12_mark a0 a1 a2 h = some q) : Con l yX12_mark cX12_mark 3 (some .int) rmX12_mark [.ref a0, .int a1, .int a2] h (some (.int q.1)) q.2 := Con.of (by decide +kernel) (Nat.le_of_ble_eq_true rfl) (fun X C I K => w_X12_mark_0 C a0 a1 a2 h q hf (fun v h2 e => by cases e; exact K))
abbrev rmX12_near : Room := { frames := 3, cells := 0, slots := 0, locals := 76 }
theorem yn_X12_near : YN yX12_near 1 := by refine ⟨?_, ?_, ?_⟩ <;> decide +kernel
set_option maxRecDepth 100000 in
set_option maxHeartbeats 4000000 in
theorem w_X12_near_0 {X : MX} (C : CX X cX12_near 2 RX12 (some .int) rmX12_near) (a0 : Nat) (a1 : Int32) (h : AH) (res : Int32 × AH) (hf : f_X12_near a0 a1 h = some res) (K : ∀ (v : Int32) (h2 : AH), res = (v, h2) → PR X rmX12_near (some (.int v)) h2) : PT X 2 0 0 0 [(0, .ref a0), (1, .int a1)] [] h := by
  unfold f_X12_near at hf
  refine pt_aload_n C 0 rfl rfl dX12_near_0 ?_
  refine pt_iload_n C 1 rfl rfl dX12_near_1 ?_
  refine ob hf (fun _ g3 hf => ?_)
  refine ob hf (fun q1 g2 hf => ?_)
  refine pt_callV C (As := [.int a1]) (rest := []) (v := (some (.int q1.1))) (fun l => con_X12_noSong l a0 a1 h _ g2) tw_1081 tw_1078 tw_1080 tp_22 kX12 g3 tw_13 yn_X12_noSong (by decide) (Nat.le_of_ble_eq_true rfl) dX12_near_2 rfl ?_
  show PT X 2 0 0 5 [(0, .ref a0), (1, .int a1)] [.int q1.1] q1.2
  refine pt_if_eq C (tgt := 11) (by decide) dX12_near_5 (fun c4 => ?_) (fun c4 => ?_)
  · rw [if_pos c4] at hf
    refine pt_aload_n C 0 rfl rfl dX12_near_11 ?_
    refine pt_iload_n C 1 rfl rfl dX12_near_12 ?_
    refine ob hf (fun _ g7 hf => ?_)
    refine ob hf (fun q5 g6 hf => ?_)
    refine pt_callV C (As := [.int a1]) (rest := []) (v := none) (fun l => con_X12_findLines l a0 a1 q1.2 _ g6) tw_1210 tw_1207 tw_1209 tp_33 kX12 g7 tw_13 yn_X12_findLines (by decide) (Nat.le_of_ble_eq_true rfl) dX12_near_13 rfl ?_
    show PT X 2 0 0 16 [(0, .ref a0), (1, .int a1)] [] q5
    refine pt_aload_n C 0 rfl rfl dX12_near_16 ?_
    refine ob hf (fun v8 g9 hf => ?_)
    refine pt_getR C kX12 34 (by decide) tw_950 (Or.inl rfl) g9 dX12_near_17 ?_
    refine pt_iconst C (v := 0) (by decide) dX12_near_20 ?_
    refine ob hf (fun v10 g11 hf => ?_)
    refine pt_iald C g11 dX12_near_21 ?_
    refine pt_ldc C tw_1218 dX12_near_22 ?_
    refine pt_icmp_lt C (tgt := 31) (by decide) dX12_near_24 (fun c12 => ?_) (fun c12 => ?_)
    · rw [if_pos c12] at hf
      refine pt_aload_n C 0 rfl rfl dX12_near_31 ?_
      refine ob hf (fun v13 g14 hf => ?_)
      refine pt_getR C kX12 34 (by decide) tw_950 (Or.inl rfl) g14 dX12_near_32 ?_
      refine pt_iconst C (v := 0) (by decide) dX12_near_35 ?_
      refine ob hf (fun v15 g16 hf => ?_)
      refine pt_iald C g16 dX12_near_36 ?_
      exact pt_iret C (K _ _ (Option.some.inj hf).symm) (by decide) (by decide) dX12_near_37
    · rw [if_neg c12] at hf
      refine pt_iconst C (v := (-1)) (by decide) dX12_near_27 ?_
      refine pt_goto C (tgt := 37) (by decide) dX12_near_28 ?_
      exact pt_iret C (K _ _ (Option.some.inj hf).symm) (by decide) (by decide) dX12_near_37
  · rw [if_neg c4] at hf
    refine pt_bipush C (v := (-2)) (by decide) dX12_near_8 ?_
    exact pt_iret C (K _ _ (Option.some.inj hf).symm) (by decide) (by decide) dX12_near_10
theorem con_X12_near (l : Launch) (a0 : Nat) (a1 : Int32) (h : AH) (q : Int32 × AH) (hf : f_X12_near a0 a1 h = some q) : Con l yX12_near cX12_near 2 (some .int) rmX12_near [.ref a0, .int a1] h (some (.int q.1)) q.2 := Con.of (by decide +kernel) (Nat.le_of_ble_eq_true rfl) (fun X C I K => w_X12_near_0 C a0 a1 h q hf (fun v h2 e => by cases e; exact K))
abbrev rmX12_nearAt : Room := { frames := 3, cells := 0, slots := 0, locals := 76 }
theorem yn_X12_nearAt : YN yX12_nearAt 2 := by refine ⟨?_, ?_, ?_⟩ <;> decide +kernel
set_option maxRecDepth 100000 in
set_option maxHeartbeats 4000000 in
theorem w_X12_nearAt_L56 {X : MX} (C : CX X cX12_nearAt 6 RX12 (some .int) rmX12_nearAt) (x0 : Nat) (x1 : Int32) (x2 : Int32) (x3 : Int32) (x4 : Int32) (s : Int32 × AH) (res : (Int32 × AH) ⊕ ((Int32 × AH))) (hf : f_X12_nearAt_L56 x0 x1 x2 x3 x4 s = some res) (K0 : ∀ (u5 : Int32) (hu : AH), res = .inl (u5, hu) → PT X 6 0 0 56 [(0, .ref x0), (1, .int x1), (2, .int x2), (3, .int x3), (4, .int x4), (5, .int u5)] [] hu) (K1 : ∀ (u5 : Int32) (hu : AH), res = .inr ((u5, hu)) → PT X 6 0 0 105 [(0, .ref x0), (1, .int x1), (2, .int x2), (3, .int x3), (4, .int x4), (5, .int u5)] [] hu) : PT X 6 0 0 56 [(0, .ref x0), (1, .int x1), (2, .int x2), (3, .int x3), (4, .int x4), (5, .int s.1)] [] s.2 := by
  unfold f_X12_nearAt_L56 at hf
  refine pt_aload_n C 0 rfl rfl dX12_nearAt_56 ?_
  refine pt_iload_n C 1 rfl rfl dX12_nearAt_57 ?_
  refine pt_iload_n C 3 rfl rfl dX12_nearAt_58 ?_
  refine pt_iload C 5 rfl dX12_nearAt_59 ?_
  refine ob hf (fun _ g24 hf => ?_)
  refine ob hf (fun q22 g23 hf => ?_)
  refine pt_callV C (As := [.int x1, .int x3, .int s.1]) (rest := []) (v := (some (.int q22.1))) (fun l => con_X12_wrongOf l x0 x1 x3 s.1 s.2 _ g23) tw_1222 tw_1219 tw_1221 tp_35 kX12 g24 tw_13 yn_X12_wrongOf (by decide) (Nat.le_of_ble_eq_true rfl) dX12_nearAt_61 rfl ?_
  show PT X 6 0 0 64 [(0, .ref x0), (1, .int x1), (2, .int x2), (3, .int x3), (4, .int x4), (5, .int s.1)] [.int q22.1] q22.2
  refine pt_if_lt C (tgt := 99) (by decide) dX12_nearAt_64 (fun c25 => ?_) (fun c25 => ?_)
  · rw [if_pos c25] at hf
    refine pt_iinc C 5 [(5, .int (s.1 + 1)), (0, .ref x0), (1, .int x1), (2, .int x2), (3, .int x3), (4, .int x4)] rfl (iinc_eq s.1 (by decide)) (by decide) rfl dX12_nearAt_99 ?_
    refine pt_goto C (tgt := 56) (by decide) dX12_nearAt_102 ?_
    refine pt_sub C [(0, .ref x0), (1, .int x1), (2, .int x2), (3, .int x3), (4, .int x4), (5, .int (s.1 + 1))] [1, 2, 3, 4, 5, 0] rfl ?_
    exact K0 _ _ (Option.some.inj hf).symm
  · rw [if_neg c25] at hf
    refine pt_aload_n C 0 rfl rfl dX12_nearAt_67 ?_
    refine pt_iload_n C 1 rfl rfl dX12_nearAt_68 ?_
    refine pt_iload_n C 3 rfl rfl dX12_nearAt_69 ?_
    refine pt_iload C 5 rfl dX12_nearAt_70 ?_
    refine ob hf (fun _ g28 hf => ?_)
    refine ob hf (fun q26 g27 hf => ?_)
    refine pt_callV C (As := [.int x1, .int x3, .int s.1]) (rest := []) (v := (some (.int q26.1))) (fun l => con_X12_wrongOf l x0 x1 x3 s.1 q22.2 _ g27) tw_1222 tw_1219 tw_1221 tp_35 kX12 g28 tw_13 yn_X12_wrongOf (by decide) (Nat.le_of_ble_eq_true rfl) dX12_nearAt_72 rfl ?_
    show PT X 6 0 0 75 [(0, .ref x0), (1, .int x1), (2, .int x2), (3, .int x3), (4, .int x4), (5, .int s.1)] [.int q26.1] q26.2
    refine pt_aload_n C 0 rfl rfl dX12_nearAt_75 ?_
    refine ob hf (fun v29 g30 hf => ?_)
    refine pt_getR C kX12 34 (by decide) tw_950 (Or.inl rfl) g30 dX12_nearAt_76 ?_
    refine pt_iload_n C 3 rfl rfl dX12_nearAt_79 ?_
    refine pt_aload_n C 0 rfl rfl dX12_nearAt_80 ?_
    refine ob hf (fun v31 g32 hf => ?_)
    refine pt_getR C kX12 31 (by decide) tw_947 (Or.inl rfl) g32 dX12_nearAt_81 ?_
    refine pt_iload C 5 rfl dX12_nearAt_84 ?_
    refine ob hf (fun v33 g34 hf => ?_)
    refine pt_iald C g34 dX12_nearAt_86 ?_
    refine pt_iadd C dX12_nearAt_87 ?_
    refine ob hf (fun v35 g36 hf => ?_)
    refine pt_iald C g36 dX12_nearAt_88 ?_
    refine pt_iadd C dX12_nearAt_89 ?_
    refine pt_aload_n C 0 rfl rfl dX12_nearAt_90 ?_
    refine ob hf (fun v37 g38 hf => ?_)
    refine pt_getR C kX12 34 (by decide) tw_950 (Or.inl rfl) g38 dX12_nearAt_91 ?_
    refine pt_iload_n C 3 rfl rfl dX12_nearAt_94 ?_
    refine ob hf (fun v39 g40 hf => ?_)
    refine pt_iald C g40 dX12_nearAt_95 ?_
    refine pt_icmp_eq C (tgt := 105) (by decide) dX12_nearAt_96 (fun c41 => ?_) (fun c41 => ?_)
    · rw [if_pos c41] at hf
      exact K1 _ _ (Option.some.inj hf).symm
    · rw [if_neg c41] at hf
      refine pt_iinc C 5 [(5, .int (s.1 + 1)), (0, .ref x0), (1, .int x1), (2, .int x2), (3, .int x3), (4, .int x4)] rfl (iinc_eq s.1 (by decide)) (by decide) rfl dX12_nearAt_99 ?_
      refine pt_goto C (tgt := 56) (by decide) dX12_nearAt_102 ?_
      refine pt_sub C [(0, .ref x0), (1, .int x1), (2, .int x2), (3, .int x3), (4, .int x4), (5, .int (s.1 + 1))] [1, 2, 3, 4, 5, 0] rfl ?_
      exact K0 _ _ (Option.some.inj hf).symm
theorem l_X12_nearAt_L56 {X : MX} (C : CX X cX12_nearAt 6 RX12 (some .int) rmX12_nearAt) (x0 : Nat) (x1 : Int32) (x2 : Int32) (x3 : Int32) (x4 : Int32) : ∀ (n : Nat) (s : Int32 × AH) (r : (Int32 × AH)), iter (f_X12_nearAt_L56 x0 x1 x2 x3 x4) n s = some r → (fun r : (Int32 × AH) => PT X 6 0 0 105 [(0, .ref x0), (1, .int x1), (2, .int x2), (3, .int x3), (4, .int x4), (5, .int r.1)] [] r.2) r → PT X 6 0 0 56 [(0, .ref x0), (1, .int x1), (2, .int x2), (3, .int x3), (4, .int x4), (5, .int s.1)] [] s.2 :=
  iter_W (fun s : Int32 × AH => PT X 6 0 0 56 [(0, .ref x0), (1, .int x1), (2, .int x2), (3, .int x3), (4, .int x4), (5, .int s.1)] [] s.2) (fun r : (Int32 × AH) => PT X 6 0 0 105 [(0, .ref x0), (1, .int x1), (2, .int x2), (3, .int x3), (4, .int x4), (5, .int r.1)] [] r.2) _ (fun s s2 hf P => w_X12_nearAt_L56 C x0 x1 x2 x3 x4 s _ hf (fun u5 hu e => by cases e; exact P) (fun u5 hu e => by cases e)) (fun s r hf P => w_X12_nearAt_L56 C x0 x1 x2 x3 x4 s _ hf (fun u5 hu e => by cases e) (fun u5 hu e => by cases e; exact P))
set_option maxRecDepth 100000 in
set_option maxHeartbeats 4000000 in
theorem w_X12_nearAt_L43 {X : MX} (C : CX X cX12_nearAt 6 RX12 (some .int) rmX12_nearAt) (x0 : Nat) (x1 : Int32) (x2 : Int32) (s : Int32 × Int32 × AH) (res : (Int32 × Int32 × AH) ⊕ ((AH) ⊕ (Int32 × AH))) (hf : f_X12_nearAt_L43 x0 x1 x2 s = some res) (K0 : ∀ (u3 : Int32) (u4 : Int32) (hu : AH), res = .inl (u3, u4, hu) → PT X 6 0 0 43 [(0, .ref x0), (1, .int x1), (2, .int x2), (3, .int u3), (4, .int u4)] [] hu) (K1 : ∀ (hu : AH), res = .inr (.inl (hu)) → PT X 6 0 0 135 [] [] hu) (K2 : ∀ (u5 : Int32) (hu : AH), res = .inr (.inr ((u5, hu))) → PT X 6 0 0 111 [(5, .int u5)] [] hu) : PT X 6 0 0 43 [(0, .ref x0), (1, .int x1), (2, .int x2), (3, .int s.1), (4, .int s.2.1)] [] s.2.2 := by
  unfold f_X12_nearAt_L43 at hf
  refine pt_iload_n C 3 rfl rfl dX12_nearAt_43 ?_
  refine pt_aload_n C 0 rfl rfl dX12_nearAt_44 ?_
  refine ob hf (fun v17 g18 hf => ?_)
  refine pt_getR C kX12 1 (by decide) tw_917 (Or.inl rfl) g18 dX12_nearAt_45 ?_
  refine pt_iload_n C 1 rfl rfl dX12_nearAt_48 ?_
  refine ob hf (fun v19 g20 hf => ?_)
  refine pt_iald C g20 dX12_nearAt_49 ?_
  refine pt_icmp_ge C (tgt := 135) (by decide) dX12_nearAt_50 (fun c21 => ?_) (fun c21 => ?_)
  · rw [if_pos c21] at hf
    refine pt_sub C [] [] rfl ?_
    exact K1 _ (Option.some.inj hf).symm
  · rw [if_neg c21] at hf
    refine pt_iconst C (v := 0) (by decide) dX12_nearAt_53 ?_
    refine pt_istore C [(5, .int 0), (0, .ref x0), (1, .int x1), (2, .int x2), (3, .int s.1), (4, .int s.2.1)] (by decide) rfl dX12_nearAt_54 ?_
    refine pt_sub C [(0, .ref x0), (1, .int x1), (2, .int x2), (3, .int s.1), (4, .int s.2.1), (5, .int 0)] [1, 2, 3, 4, 5, 0] rfl ?_
    refine ob hf (fun e42 g43 hf => ?_)
    refine l_X12_nearAt_L56 C x0 x1 x2 s.1 s.2.1 _ _ _ g43 ?_
    refine pt_iload C 4 rfl dX12_nearAt_105 ?_
    refine pt_iload_n C 2 rfl rfl dX12_nearAt_107 ?_
    refine pt_icmp_ne C (tgt := 114) (by decide) dX12_nearAt_108 (fun c44 => ?_) (fun c44 => ?_)
    · rw [if_neg c44] at hf
      refine pt_iinc C 4 [(4, .int (s.2.1 + 1)), (0, .ref x0), (1, .int x1), (2, .int x2), (3, .int s.1), (5, .int e42.1)] rfl (iinc_eq s.2.1 (by decide)) (by decide) rfl dX12_nearAt_114 ?_
      refine pt_aload_n C 1 rfl rfl dX12_nearAt_117 ?_
      refine pt_iload_n C 2 rfl rfl dX12_nearAt_118 ?_
      refine pt_iload_n C 4 rfl rfl dX12_nearAt_119 ?_
      refine pt_aload_n C 1 rfl rfl dX12_nearAt_120 ?_
      refine ob hf (fun v45 g46 hf => ?_)
      refine pt_getR C kX12 31 (by decide) tw_947 (Or.inl rfl) g46 dX12_nearAt_121 ?_
      refine pt_iload C 5 rfl dX12_nearAt_124 ?_
      refine ob hf (fun v47 g48 hf => ?_)
      refine pt_iald C g48 dX12_nearAt_126 ?_
      refine pt_iadd C dX12_nearAt_127 ?_
      refine ob hf (fun _ g51 hf => ?_)
      refine ob hf (fun q49 g50 hf => ?_)
      refine pt_callV C (As := [.int x1, .int (s.1 + v47)]) (rest := []) (v := (some (.int q49.1))) (fun l => con_X12_sungFrom l x0 x1 (s.1 + v47) e42.2 _ g50) tw_1214 tw_1211 tw_1213 tp_34 kX12 g51 tw_13 yn_X12_sungFrom (by decide) (Nat.le_of_ble_eq_true rfl) dX12_nearAt_128 rfl ?_
      show PT X 6 0 0 131 [(4, .int (s.2.1 + 1)), (0, .ref x0), (1, .int x1), (2, .int x2), (3, .int s.1), (5, .int e42.1)] [.int q49.1] q49.2
      refine pt_istore_n C [(3, .int q49.1), (4, .int (s.2.1 + 1)), (0, .ref x0), (1, .int x1), (2, .int x2), (5, .int e42.1)] rfl (by decide) rfl dX12_nearAt_131 ?_
      refine pt_goto C (tgt := 43) (by decide) dX12_nearAt_132 ?_
      refine pt_sub C [(0, .ref x0), (1, .int x1), (2, .int x2), (3, .int q49.1), (4, .int (s.2.1 + 1))] [2, 3, 4, 0, 1] rfl ?_
      exact K0 _ _ _ (Option.some.inj hf).symm
    · rw [if_pos c44] at hf
      refine pt_sub C [(5, .int e42.1)] [5] rfl ?_
      exact K2 _ _ (Option.some.inj hf).symm
theorem l_X12_nearAt_L43 {X : MX} (C : CX X cX12_nearAt 6 RX12 (some .int) rmX12_nearAt) (x0 : Nat) (x1 : Int32) (x2 : Int32) : ∀ (n : Nat) (s : Int32 × Int32 × AH) (r : (AH) ⊕ (Int32 × AH)), iter (f_X12_nearAt_L43 x0 x1 x2) n s = some r → (Sum.elim (fun r : (AH) => PT X 6 0 0 135 [] [] r) (fun r : (Int32 × AH) => PT X 6 0 0 111 [(5, .int r.1)] [] r.2)) r → PT X 6 0 0 43 [(0, .ref x0), (1, .int x1), (2, .int x2), (3, .int s.1), (4, .int s.2.1)] [] s.2.2 :=
  iter_W (fun s : Int32 × Int32 × AH => PT X 6 0 0 43 [(0, .ref x0), (1, .int x1), (2, .int x2), (3, .int s.1), (4, .int s.2.1)] [] s.2.2) (Sum.elim (fun r : (AH) => PT X 6 0 0 135 [] [] r) (fun r : (Int32 × AH) => PT X 6 0 0 111 [(5, .int r.1)] [] r.2)) _ (fun s s2 hf P => w_X12_nearAt_L43 C x0 x1 x2 s _ hf (fun u3 u4 hu e => by cases e; exact P) (fun hu e => by cases e) (fun u5 hu e => by cases e)) (fun s r hf P => w_X12_nearAt_L43 C x0 x1 x2 s _ hf (fun u3 u4 hu e => by cases e) (fun hu e => by cases e; exact P) (fun u5 hu e => by cases e; exact P))
set_option maxRecDepth 100000 in
set_option maxHeartbeats 4000000 in
theorem w_X12_nearAt_0 {X : MX} (C : CX X cX12_nearAt 6 RX12 (some .int) rmX12_nearAt) (a0 : Nat) (a1 : Int32) (a2 : Int32) (h : AH) (res : Int32 × AH) (hf : f_X12_nearAt a0 a1 a2 h = some res) (K : ∀ (v : Int32) (h2 : AH), res = (v, h2) → PR X rmX12_nearAt (some (.int v)) h2) : PT X 6 0 0 0 [(0, .ref a0), (1, .int a1), (2, .int a2)] [] h := by
  unfold f_X12_nearAt at hf
  refine pt_aload_n C 0 rfl rfl dX12_nearAt_0 ?_
  refine pt_iload_n C 1 rfl rfl dX12_nearAt_1 ?_
  refine ob hf (fun _ g3 hf => ?_)
  refine ob hf (fun q1 g2 hf => ?_)
  refine pt_callV C (As := [.int a1]) (rest := []) (v := (some (.int q1.1))) (fun l => con_X12_noSong l a0 a1 h _ g2) tw_1081 tw_1078 tw_1080 tp_22 kX12 g3 tw_13 yn_X12_noSong (by decide) (Nat.le_of_ble_eq_true rfl) dX12_nearAt_2 rfl ?_
  show PT X 6 0 0 5 [(0, .ref a0), (1, .int a1), (2, .int a2)] [.int q1.1] q1.2
  refine pt_if_ne C (tgt := 12) (by decide) dX12_nearAt_5 (fun c4 => ?_) (fun c4 => ?_)
  · rw [if_neg c4] at hf
    refine pt_bipush C (v := (-2)) (by decide) dX12_nearAt_12 ?_
    exact pt_iret C (K _ _ (Option.some.inj hf).symm) (by decide) (by decide) dX12_nearAt_14
  · rw [if_pos c4] at hf
    refine pt_iload_n C 2 rfl rfl dX12_nearAt_8 ?_
    refine pt_if_ge C (tgt := 15) (by decide) dX12_nearAt_9 (fun c5 => ?_) (fun c5 => ?_)
    · rw [if_pos c5] at hf
      refine pt_aload_n C 0 rfl rfl dX12_nearAt_15 ?_
      refine pt_iload_n C 1 rfl rfl dX12_nearAt_16 ?_
      refine ob hf (fun _ g8 hf => ?_)
      refine ob hf (fun q6 g7 hf => ?_)
      refine pt_callV C (As := [.int a1]) (rest := []) (v := none) (fun l => con_X12_findLines l a0 a1 q1.2 _ g7) tw_1210 tw_1207 tw_1209 tp_33 kX12 g8 tw_13 yn_X12_findLines (by decide) (Nat.le_of_ble_eq_true rfl) dX12_nearAt_17 rfl ?_
      show PT X 6 0 0 20 [(0, .ref a0), (1, .int a1), (2, .int a2)] [] q6
      refine pt_aload_n C 0 rfl rfl dX12_nearAt_20 ?_
      refine ob hf (fun v9 g10 hf => ?_)
      refine pt_getR C kX12 34 (by decide) tw_950 (Or.inl rfl) g10 dX12_nearAt_21 ?_
      refine pt_iconst C (v := 0) (by decide) dX12_nearAt_24 ?_
      refine ob hf (fun v11 g12 hf => ?_)
      refine pt_iald C g12 dX12_nearAt_25 ?_
      refine pt_ldc C tw_1218 dX12_nearAt_26 ?_
      refine pt_icmp_lt C (tgt := 33) (by decide) dX12_nearAt_28 (fun c13 => ?_) (fun c13 => ?_)
      · rw [if_pos c13] at hf
        refine pt_aload_n C 0 rfl rfl dX12_nearAt_33 ?_
        refine pt_iload_n C 1 rfl rfl dX12_nearAt_34 ?_
        refine pt_iconst C (v := 0) (by decide) dX12_nearAt_35 ?_
        refine ob hf (fun _ g16 hf => ?_)
        refine ob hf (fun q14 g15 hf => ?_)
        refine pt_callV C (As := [.int a1, .int 0]) (rest := []) (v := (some (.int q14.1))) (fun l => con_X12_sungFrom l a0 a1 0 q6 _ g15) tw_1214 tw_1211 tw_1213 tp_34 kX12 g16 tw_13 yn_X12_sungFrom (by decide) (Nat.le_of_ble_eq_true rfl) dX12_nearAt_36 rfl ?_
        show PT X 6 0 0 39 [(0, .ref a0), (1, .int a1), (2, .int a2)] [.int q14.1] q14.2
        refine pt_istore_n C [(3, .int q14.1), (0, .ref a0), (1, .int a1), (2, .int a2)] rfl (by decide) rfl dX12_nearAt_39 ?_
        refine pt_iconst C (v := 0) (by decide) dX12_nearAt_40 ?_
        refine pt_istore C [(4, .int 0), (3, .int q14.1), (0, .ref a0), (1, .int a1), (2, .int a2)] (by decide) rfl dX12_nearAt_41 ?_
        refine pt_sub C [(0, .ref a0), (1, .int a1), (2, .int a2), (3, .int q14.1), (4, .int 0)] [2, 3, 4, 1, 0] rfl ?_
        refine ob hf (fun e52 g53 hf => ?_)
        refine l_X12_nearAt_L43 C a0 a1 a2 _ _ _ g53 ?_
        cases e52 with
        | inl e54 =>
          simp only [Sum.elim_inl] at hf ⊢
          refine pt_iconst C (v := (-1)) (by decide) dX12_nearAt_135 ?_
          exact pt_iret C (K _ _ (Option.some.inj hf).symm) (by decide) (by decide) dX12_nearAt_136
        | inr e55 =>
          simp only [Sum.elim_inr] at hf ⊢
          refine pt_iload C 0 rfl dX12_nearAt_111 ?_
          exact pt_iret C (K _ _ (Option.some.inj hf).symm) (by decide) (by decide) dX12_nearAt_113
      · rw [if_neg c13] at hf
        refine pt_iconst C (v := (-1)) (by decide) dX12_nearAt_31 ?_
        exact pt_iret C (K _ _ (Option.some.inj hf).symm) (by decide) (by decide) dX12_nearAt_32
    · rw [if_neg c5] at hf
      refine pt_bipush C (v := (-2)) (by decide) dX12_nearAt_12 ?_
      exact pt_iret C (K _ _ (Option.some.inj hf).symm) (by decide) (by decide) dX12_nearAt_14
theorem con_X12_nearAt (l : Launch) (a0 : Nat) (a1 : Int32) (a2 : Int32) (h : AH) (q : Int32 × AH) (hf : f_X12_nearAt a0 a1 a2 h = some q) : Con l yX12_nearAt cX12_nearAt 6 (some .int) rmX12_nearAt [.ref a0, .int a1, .int a2] h (some (.int q.1)) q.2 := Con.of (by decide +kernel) (Nat.le_of_ble_eq_true rfl) (fun X C I K => w_X12_nearAt_0 C a0 a1 a2 h q hf (fun v h2 e => by cases e; exact K))
abbrev rmX12_now : Room := { frames := 2, cells := 0, slots := 0, locals := 46 }
theorem yn_X12_now : YN yX12_now 1 := by refine ⟨?_, ?_, ?_⟩ <;> decide +kernel
set_option maxRecDepth 100000 in
set_option maxHeartbeats 4000000 in
theorem w_X12_now_0 {X : MX} (C : CX X cX12_now 2 RX12 (some .int) rmX12_now) (a0 : Nat) (a1 : Int32) (h : AH) (res : Int32 × AH) (hf : f_X12_now a0 a1 h = some res) (K : ∀ (v : Int32) (h2 : AH), res = (v, h2) → PR X rmX12_now (some (.int v)) h2) : PT X 2 0 0 0 [(0, .ref a0), (1, .int a1)] [] h := by
  unfold f_X12_now at hf
  refine pt_aload_n C 0 rfl rfl dX12_now_0 ?_
  refine pt_iload_n C 1 rfl rfl dX12_now_1 ?_
  refine ob hf (fun _ g3 hf => ?_)
  refine ob hf (fun q1 g2 hf => ?_)
  refine pt_callV C (As := [.int a1]) (rest := []) (v := (some (.int q1.1))) (fun l => con_X12_noHand l a0 a1 h _ g2) tw_1104 tw_1101 tw_1103 tp_24 kX12 g3 tw_13 yn_X12_noHand (by decide) (Nat.le_of_ble_eq_true rfl) dX12_now_2 rfl ?_
  show PT X 2 0 0 5 [(0, .ref a0), (1, .int a1)] [.int q1.1] q1.2
  refine pt_if_eq C (tgt := 13) (by decide) dX12_now_5 (fun c4 => ?_) (fun c4 => ?_)
  · rw [if_pos c4] at hf
    refine pt_aload_n C 0 rfl rfl dX12_now_13 ?_
    refine ob hf (fun v5 g6 hf => ?_)
    refine pt_getR C kX12 13 (by decide) tw_929 (Or.inl rfl) g6 dX12_now_14 ?_
    refine pt_iload_n C 1 rfl rfl dX12_now_17 ?_
    refine ob hf (fun v7 g8 hf => ?_)
    refine pt_iald C g8 dX12_now_18 ?_
    exact pt_iret C (K _ _ (Option.some.inj hf).symm) (by decide) (by decide) dX12_now_19
  · rw [if_neg c4] at hf
    refine pt_bipush C (v := (-2)) (by decide) dX12_now_8 ?_
    refine pt_goto C (tgt := 19) (by decide) dX12_now_10 ?_
    exact pt_iret C (K _ _ (Option.some.inj hf).symm) (by decide) (by decide) dX12_now_19
theorem con_X12_now (l : Launch) (a0 : Nat) (a1 : Int32) (h : AH) (q : Int32 × AH) (hf : f_X12_now a0 a1 h = some q) : Con l yX12_now cX12_now 2 (some .int) rmX12_now [.ref a0, .int a1] h (some (.int q.1)) q.2 := Con.of (by decide +kernel) (Nat.le_of_ble_eq_true rfl) (fun X C I K => w_X12_now_0 C a0 a1 h q hf (fun v h2 e => by cases e; exact K))
abbrev rmX12_pause : Room := { frames := 1, cells := 0, slots := 0, locals := 25 }
theorem yn_X12_pause : YN yX12_pause 1 := by refine ⟨?_, ?_, ?_⟩ <;> decide +kernel
set_option maxRecDepth 100000 in
set_option maxHeartbeats 4000000 in
theorem w_X12_pause_L25_J54 {X : MX} (C : CX X cX12_pause 4 RX12 (some .int) rmX12_pause) (x0 : Nat) (y3 : Int32) (z0 : Int32) (z1 : Int32) (h : AH) (res : (Int32 × Int32 × AH) ⊕ ((Int32 × AH))) (hf : f_X12_pause_L25_J54 x0 y3 z0 z1 h = some res) (K0 : ∀ (u2 : Int32) (u3 : Int32) (hu : AH), res = .inl (u2, u3, hu) → PT X 4 0 0 25 [(0, .ref x0), (2, .int u2), (3, .int u3)] [] hu) (K1 : ∀ (u2 : Int32) (hu : AH), res = .inr ((u2, hu)) → PT X 4 0 0 65 [(2, .int u2)] [] hu) : PT X 4 0 0 54 [(0, .ref x0), (3, .int y3)] [.int z0, .int z1] h := by
  unfold f_X12_pause_L25_J54 at hf
  refine ob hf (fun q19 g20 hf => ?_)
  refine pt_callS C (As := [.int z0]) (rest := [.int z1]) (v := (some (.int q19.1))) (fun l => con_X12_bit l z0 h _ g20) tw_1127 tw_1125 tw_1126 tw_13 yn_X12_bit (by decide) (Nat.le_of_ble_eq_true rfl) dX12_pause_54 rfl ?_
  show PT X 4 0 0 57 [(0, .ref x0), (3, .int y3)] [.int q19.1, .int z1] q19.2
  refine pt_iadd C dX12_pause_57 ?_
  refine pt_istore_n C [(2, .int (z1 + q19.1)), (0, .ref x0), (3, .int y3)] rfl (by decide) rfl dX12_pause_58 ?_
  refine pt_iinc C 2 [(3, .int (y3 + 1)), (2, .int (z1 + q19.1)), (0, .ref x0)] rfl (iinc_eq y3 (by decide)) (by decide) rfl dX12_pause_59 ?_
  refine pt_goto C (tgt := 25) (by decide) dX12_pause_62 ?_
  refine pt_sub C [(0, .ref x0), (2, .int (z1 + q19.1)), (3, .int (y3 + 1))] [2, 1, 0] rfl ?_
  exact K0 _ _ _ (Option.some.inj hf).symm
set_option maxRecDepth 100000 in
set_option maxHeartbeats 4000000 in
theorem w_X12_pause_L25 {X : MX} (C : CX X cX12_pause 4 RX12 (some .int) rmX12_pause) (x0 : Nat) (s : Int32 × Int32 × AH) (res : (Int32 × Int32 × AH) ⊕ ((Int32 × AH))) (hf : f_X12_pause_L25 x0 s = some res) (K0 : ∀ (u2 : Int32) (u3 : Int32) (hu : AH), res = .inl (u2, u3, hu) → PT X 4 0 0 25 [(0, .ref x0), (2, .int u2), (3, .int u3)] [] hu) (K1 : ∀ (u2 : Int32) (hu : AH), res = .inr ((u2, hu)) → PT X 4 0 0 65 [(2, .int u2)] [] hu) : PT X 4 0 0 25 [(0, .ref x0), (2, .int s.1), (3, .int s.2.1)] [] s.2.2 := by
  unfold f_X12_pause_L25 at hf
  refine pt_iload_n C 2 rfl rfl dX12_pause_25 ?_
  refine pt_aload_n C 0 rfl rfl dX12_pause_26 ?_
  refine ob hf (fun v7 g8 hf => ?_)
  refine pt_getI C kX12 7 (by decide) tw_923 (Or.inl rfl) g8 dX12_pause_27 ?_
  refine pt_icmp_ge C (tgt := 65) (by decide) dX12_pause_30 (fun c9 => ?_) (fun c9 => ?_)
  · rw [if_pos c9] at hf
    refine pt_sub C [(2, .int s.1)] [1] rfl ?_
    exact K1 _ _ (Option.some.inj hf).symm
  · rw [if_neg c9] at hf
    refine pt_iload_n C 1 rfl rfl dX12_pause_33 ?_
    refine pt_aload_n C 0 rfl rfl dX12_pause_34 ?_
    refine ob hf (fun v10 g11 hf => ?_)
    refine pt_getR C kX12 13 (by decide) tw_929 (Or.inl rfl) g11 dX12_pause_35 ?_
    refine pt_iload_n C 2 rfl rfl dX12_pause_38 ?_
    refine ob hf (fun v12 g13 hf => ?_)
    refine pt_iald C g13 dX12_pause_39 ?_
    refine pt_aload_n C 0 rfl rfl dX12_pause_40 ?_
    refine ob hf (fun v14 g15 hf => ?_)
    refine pt_getR C kX12 8 (by decide) tw_924 (Or.inl rfl) g15 dX12_pause_41 ?_
    refine pt_iload_n C 2 rfl rfl dX12_pause_44 ?_
    refine ob hf (fun v16 g17 hf => ?_)
    refine pt_iald C g17 dX12_pause_45 ?_
    refine pt_icmp_ne C (tgt := 53) (by decide) dX12_pause_46 (fun c18 => ?_) (fun c18 => ?_)
    · rw [if_neg c18] at hf
      refine pt_iconst C (v := 0) (by decide) dX12_pause_53 ?_
      refine pt_sub C [(0, .ref x0), (3, .int s.2.1)] [0, 2] rfl ?_
      exact w_X12_pause_L25_J54 C x0 s.2.1 0 s.1 s.2.2 _ hf K0 K1
    · rw [if_pos c18] at hf
      refine pt_iconst C (v := 1) (by decide) dX12_pause_49 ?_
      refine pt_goto C (tgt := 54) (by decide) dX12_pause_50 ?_
      refine pt_sub C [(0, .ref x0), (3, .int s.2.1)] [0, 2] rfl ?_
      exact w_X12_pause_L25_J54 C x0 s.2.1 1 s.1 s.2.2 _ hf K0 K1
theorem l_X12_pause_L25 {X : MX} (C : CX X cX12_pause 4 RX12 (some .int) rmX12_pause) (x0 : Nat) : ∀ (n : Nat) (s : Int32 × Int32 × AH) (r : (Int32 × AH)), iter (f_X12_pause_L25 x0) n s = some r → (fun r : (Int32 × AH) => PT X 4 0 0 65 [(2, .int r.1)] [] r.2) r → PT X 4 0 0 25 [(0, .ref x0), (2, .int s.1), (3, .int s.2.1)] [] s.2.2 :=
  iter_W (fun s : Int32 × Int32 × AH => PT X 4 0 0 25 [(0, .ref x0), (2, .int s.1), (3, .int s.2.1)] [] s.2.2) (fun r : (Int32 × AH) => PT X 4 0 0 65 [(2, .int r.1)] [] r.2) _ (fun s s2 hf P => w_X12_pause_L25 C x0 s _ hf (fun u2 u3 hu e => by cases e; exact P) (fun u2 hu e => by cases e)) (fun s r hf P => w_X12_pause_L25 C x0 s _ hf (fun u2 u3 hu e => by cases e) (fun u2 hu e => by cases e; exact P))
set_option maxRecDepth 100000 in
set_option maxHeartbeats 4000000 in
theorem w_X12_pause_0 {X : MX} (C : CX X cX12_pause 4 RX12 (some .int) rmX12_pause) (a0 : Nat) (a1 : Int32) (h : AH) (res : Int32 × AH) (hf : f_X12_pause a0 a1 h = some res) (K : ∀ (v : Int32) (h2 : AH), res = (v, h2) → PR X rmX12_pause (some (.int v)) h2) : PT X 4 0 0 0 [(0, .ref a0), (1, .int a1)] [] h := by
  unfold f_X12_pause at hf
  refine pt_iload_n C 1 rfl rfl dX12_pause_0 ?_
  refine pt_i2l C dX12_pause_1 ?_
  refine pt_lconst C (v := 0) (by decide) dX12_pause_2 ?_
  refine pt_ldc2 C tw_1095 dX12_pause_3 ?_
  refine ob hf (fun q1 g2 hf => ?_)
  refine pt_callS C (As := [.long a1.toInt64, .long 0, .long 100]) (rest := []) (v := (some (.int q1.1))) (fun l => con_X12_in l a1.toInt64 0 100 h _ g2) tw_1065 tw_1063 tw_1064 tw_13 yn_X12_in (by decide) (Nat.le_of_ble_eq_true rfl) dX12_pause_6 rfl ?_
  show PT X 4 0 0 9 [(0, .ref a0), (1, .int a1)] [.int q1.1] q1.2
  refine pt_if_ne C (tgt := 15) (by decide) dX12_pause_9 (fun c3 => ?_) (fun c3 => ?_)
  · rw [if_neg c3] at hf
    refine pt_aload_n C 0 rfl rfl dX12_pause_15 ?_
    refine pt_iconst C (v := 0) (by decide) dX12_pause_16 ?_
    refine pt_iload_n C 1 rfl rfl dX12_pause_17 ?_
    refine ob hf (fun _ g6 hf => ?_)
    refine ob hf (fun q4 g5 hf => ?_)
    refine pt_callV C (As := [.int 0, .int a1]) (rest := []) (v := none) (fun l => con_X12_restAll l a0 0 a1 q1.2 _ g5) tw_1124 tw_1121 tw_1123 tp_25 kX12 g6 tw_13 yn_X12_restAll (by decide) (Nat.le_of_ble_eq_true rfl) dX12_pause_18 rfl ?_
    show PT X 4 0 0 21 [(0, .ref a0), (1, .int a1)] [] q4
    refine pt_iconst C (v := 0) (by decide) dX12_pause_21 ?_
    refine pt_istore_n C [(2, .int 0), (0, .ref a0), (1, .int a1)] rfl (by decide) rfl dX12_pause_22 ?_
    refine pt_iconst C (v := 0) (by decide) dX12_pause_23 ?_
    refine pt_istore_n C [(3, .int 0), (2, .int 0), (0, .ref a0), (1, .int a1)] rfl (by decide) rfl dX12_pause_24 ?_
    refine pt_sub C [(0, .ref a0), (2, .int 0), (3, .int 0)] [2, 1, 0] rfl ?_
    refine ob hf (fun e21 g22 hf => ?_)
    refine l_X12_pause_L25 C a0 _ _ _ g22 ?_
    refine pt_iload_n C 0 rfl rfl dX12_pause_65 ?_
    exact pt_iret C (K _ _ (Option.some.inj hf).symm) (by decide) (by decide) dX12_pause_66
  · rw [if_pos c3] at hf
    refine pt_bipush C (v := (-2)) (by decide) dX12_pause_12 ?_
    exact pt_iret C (K _ _ (Option.some.inj hf).symm) (by decide) (by decide) dX12_pause_14
theorem con_X12_pause (l : Launch) (a0 : Nat) (a1 : Int32) (h : AH) (q : Int32 × AH) (hf : f_X12_pause a0 a1 h = some q) : Con l yX12_pause cX12_pause 4 (some .int) rmX12_pause [.ref a0, .int a1] h (some (.int q.1)) q.2 := Con.of (by decide +kernel) (Nat.le_of_ble_eq_true rfl) (fun X C I K => w_X12_pause_0 C a0 a1 h q hf (fun v h2 e => by cases e; exact K))
abbrev rmX12_plan : Room := { frames := 5, cells := 0, slots := 0, locals := 127 }
theorem yn_X12_plan : YN yX12_plan 0 := by refine ⟨?_, ?_, ?_⟩ <;> decide +kernel
set_option maxRecDepth 100000 in
set_option maxHeartbeats 4000000 in
theorem w_X12_plan_0 {X : MX} (C : CX X cX12_plan 1 RX12 (some .int) rmX12_plan) (a0 : Nat) (h : AH) (res : Int32 × AH) (hf : f_X12_plan a0 h = some res) (K : ∀ (v : Int32) (h2 : AH), res = (v, h2) → PR X rmX12_plan (some (.int v)) h2) : PT X 1 0 0 0 [(0, .ref a0)] [] h := by
  unfold f_X12_plan at hf
  refine pt_aload_n C 0 rfl rfl dX12_plan_0 ?_
  refine ob hf (fun v1 g2 hf => ?_)
  refine pt_getI C kX12 22 (by decide) tw_938 (Or.inl rfl) g2 dX12_plan_1 ?_
  refine pt_if_eq C (tgt := 14) (by decide) dX12_plan_4 (fun c3 => ?_) (fun c3 => ?_)
  · rw [if_pos c3] at hf
    refine pt_bipush C (v := (-3)) (by decide) dX12_plan_14 ?_
    refine pt_goto C (tgt := 23) (by decide) dX12_plan_16 ?_
    exact pt_iret C (K _ _ (Option.some.inj hf).symm) (by decide) (by decide) dX12_plan_23
  · rw [if_neg c3] at hf
    refine pt_aload_n C 0 rfl rfl dX12_plan_7 ?_
    refine ob hf (fun v4 g5 hf => ?_)
    refine pt_getI C kX12 0 (by decide) tw_916 (Or.inl rfl) g5 dX12_plan_8 ?_
    refine pt_if_ne C (tgt := 19) (by decide) dX12_plan_11 (fun c6 => ?_) (fun c6 => ?_)
    · rw [if_neg c6] at hf
      refine pt_aload_n C 0 rfl rfl dX12_plan_19 ?_
      refine ob hf (fun _ g9 hf => ?_)
      refine ob hf (fun q7 g8 hf => ?_)
      refine pt_callV C (As := []) (rest := []) (v := (some (.int q7.1))) (fun l => con_X12_findPlan l a0 h _ g8) tw_1172 tw_1169 tw_1171 tp_29 kX12 g9 tw_13 yn_X12_findPlan (by decide) (Nat.le_of_ble_eq_true rfl) dX12_plan_20 rfl ?_
      show PT X 1 0 0 23 [(0, .ref a0)] [.int q7.1] q7.2
      exact pt_iret C (K _ _ (Option.some.inj hf).symm) (by decide) (by decide) dX12_plan_23
    · rw [if_pos c6] at hf
      refine pt_bipush C (v := (-3)) (by decide) dX12_plan_14 ?_
      refine pt_goto C (tgt := 23) (by decide) dX12_plan_16 ?_
      exact pt_iret C (K _ _ (Option.some.inj hf).symm) (by decide) (by decide) dX12_plan_23
theorem con_X12_plan (l : Launch) (a0 : Nat) (h : AH) (q : Int32 × AH) (hf : f_X12_plan a0 h = some q) : Con l yX12_plan cX12_plan 1 (some .int) rmX12_plan [.ref a0] h (some (.int q.1)) q.2 := Con.of (by decide +kernel) (Nat.le_of_ble_eq_true rfl) (fun X C I K => w_X12_plan_0 C a0 h q hf (fun v h2 e => by cases e; exact K))
abbrev rmX12_planAt : Room := { frames := 5, cells := 0, slots := 0, locals := 127 }
theorem yn_X12_planAt : YN yX12_planAt 1 := by refine ⟨?_, ?_, ?_⟩ <;> decide +kernel
set_option maxRecDepth 100000 in
set_option maxHeartbeats 4000000 in
theorem w_X12_planAt_0 {X : MX} (C : CX X cX12_planAt 2 RX12 (some .int) rmX12_planAt) (a0 : Nat) (a1 : Int32) (h : AH) (res : Int32 × AH) (hf : f_X12_planAt a0 a1 h = some res) (K : ∀ (v : Int32) (h2 : AH), res = (v, h2) → PR X rmX12_planAt (some (.int v)) h2) : PT X 2 0 0 0 [(0, .ref a0), (1, .int a1)] [] h := by
  unfold f_X12_planAt at hf
  refine pt_iload_n C 1 rfl rfl dX12_planAt_0 ?_
  refine pt_i2l C dX12_planAt_1 ?_
  refine pt_lconst C (v := 0) (by decide) dX12_planAt_2 ?_
  refine pt_aload_n C 0 rfl rfl dX12_planAt_3 ?_
  refine ob hf (fun v1 g2 hf => ?_)
  refine pt_getI C kX12 22 (by decide) tw_938 (Or.inl rfl) g2 dX12_planAt_4 ?_
  refine pt_iconst C (v := 1) (by decide) dX12_planAt_7 ?_
  refine pt_isub C dX12_planAt_8 ?_
  refine pt_i2l C dX12_planAt_9 ?_
  refine ob hf (fun q3 g4 hf => ?_)
  refine pt_callS C (As := [.long a1.toInt64, .long 0, .long ((v1 - 1).toInt64)]) (rest := []) (v := (some (.int q3.1))) (fun l => con_X12_in l a1.toInt64 0 ((v1 - 1).toInt64) h _ g4) tw_1065 tw_1063 tw_1064 tw_13 yn_X12_in (by decide) (Nat.le_of_ble_eq_true rfl) dX12_planAt_10 rfl ?_
  show PT X 2 0 0 13 [(0, .ref a0), (1, .int a1)] [.int q3.1] q3.2
  refine pt_if_ne C (tgt := 19) (by decide) dX12_planAt_13 (fun c5 => ?_) (fun c5 => ?_)
  · rw [if_neg c5] at hf
    refine pt_aload_n C 0 rfl rfl dX12_planAt_19 ?_
    refine ob hf (fun v6 g7 hf => ?_)
    refine pt_getI C kX12 0 (by decide) tw_916 (Or.inl rfl) g7 dX12_planAt_20 ?_
    refine pt_if_ne C (tgt := 29) (by decide) dX12_planAt_23 (fun c8 => ?_) (fun c8 => ?_)
    · rw [if_neg c8] at hf
      refine pt_aload_n C 0 rfl rfl dX12_planAt_29 ?_
      refine ob hf (fun _ g11 hf => ?_)
      refine ob hf (fun q9 g10 hf => ?_)
      refine pt_callV C (As := []) (rest := []) (v := (some (.int q9.1))) (fun l => con_X12_findPlan l a0 q3.2 _ g10) tw_1172 tw_1169 tw_1171 tp_29 kX12 g11 tw_13 yn_X12_findPlan (by decide) (Nat.le_of_ble_eq_true rfl) dX12_planAt_30 rfl ?_
      show PT X 2 0 0 33 [(0, .ref a0), (1, .int a1)] [.int q9.1] q9.2
      refine pt_if_lt C (tgt := 45) (by decide) dX12_planAt_33 (fun c12 => ?_) (fun c12 => ?_)
      · rw [if_pos c12] at hf
        refine pt_iconst C (v := (-1)) (by decide) dX12_planAt_45 ?_
        exact pt_iret C (K _ _ (Option.some.inj hf).symm) (by decide) (by decide) dX12_planAt_46
      · rw [if_neg c12] at hf
        refine pt_aload_n C 0 rfl rfl dX12_planAt_36 ?_
        refine ob hf (fun v13 g14 hf => ?_)
        refine pt_getR C kX12 28 (by decide) tw_944 (Or.inl rfl) g14 dX12_planAt_37 ?_
        refine pt_iload_n C 1 rfl rfl dX12_planAt_40 ?_
        refine ob hf (fun v15 g16 hf => ?_)
        refine pt_iald C g16 dX12_planAt_41 ?_
        refine pt_goto C (tgt := 46) (by decide) dX12_planAt_42 ?_
        exact pt_iret C (K _ _ (Option.some.inj hf).symm) (by decide) (by decide) dX12_planAt_46
    · rw [if_pos c8] at hf
      refine pt_bipush C (v := (-3)) (by decide) dX12_planAt_26 ?_
      exact pt_iret C (K _ _ (Option.some.inj hf).symm) (by decide) (by decide) dX12_planAt_28
  · rw [if_pos c5] at hf
    refine pt_bipush C (v := (-2)) (by decide) dX12_planAt_16 ?_
    exact pt_iret C (K _ _ (Option.some.inj hf).symm) (by decide) (by decide) dX12_planAt_18
theorem con_X12_planAt (l : Launch) (a0 : Nat) (a1 : Int32) (h : AH) (q : Int32 × AH) (hf : f_X12_planAt a0 a1 h = some q) : Con l yX12_planAt cX12_planAt 2 (some .int) rmX12_planAt [.ref a0, .int a1] h (some (.int q.1)) q.2 := Con.of (by decide +kernel) (Nat.le_of_ble_eq_true rfl) (fun X C I K => w_X12_planAt_0 C a0 a1 h q hf (fun v h2 e => by cases e; exact K))
abbrev rmX12_refrain : Room := { frames := 2, cells := 0, slots := 0, locals := 46 }
theorem yn_X12_refrain : YN yX12_refrain 1 := by refine ⟨?_, ?_, ?_⟩ <;> decide +kernel
set_option maxRecDepth 100000 in
set_option maxHeartbeats 4000000 in
theorem w_X12_refrain_L25 {X : MX} (C : CX X cX12_refrain 3 RX12 (some .int) rmX12_refrain) (x0 : Nat) (x1 : Int32) (s : Int32 × AH) (res : (Int32 × AH) ⊕ ((AH))) (hf : f_X12_refrain_L25 x0 x1 s = some res) (K0 : ∀ (u2 : Int32) (hu : AH), res = .inl (u2, hu) → PT X 3 0 0 25 [(0, .ref x0), (1, .int x1), (2, .int u2)] [] hu) (K1 : ∀ (hu : AH), res = .inr (hu) → PT X 3 0 0 56 [(0, .ref x0), (1, .int x1)] [] hu) : PT X 3 0 0 25 [(0, .ref x0), (1, .int x1), (2, .int s.1)] [] s.2 := by
  unfold f_X12_refrain_L25 at hf
  refine pt_iload_n C 2 rfl rfl dX12_refrain_25 ?_
  refine pt_aload_n C 0 rfl rfl dX12_refrain_26 ?_
  refine ob hf (fun v8 g9 hf => ?_)
  refine pt_getI C kX12 5 (by decide) tw_921 (Or.inl rfl) g9 dX12_refrain_27 ?_
  refine pt_icmp_ge C (tgt := 56) (by decide) dX12_refrain_30 (fun c10 => ?_) (fun c10 => ?_)
  · rw [if_pos c10] at hf
    refine pt_sub C [(0, .ref x0), (1, .int x1)] [0, 1] rfl ?_
    exact K1 _ (Option.some.inj hf).symm
  · rw [if_neg c10] at hf
    refine pt_aload_n C 0 rfl rfl dX12_refrain_33 ?_
    refine ob hf (fun v11 g12 hf => ?_)
    refine pt_getR C kX12 4 (by decide) tw_920 (Or.inl rfl) g12 dX12_refrain_34 ?_
    refine pt_bipush C (v := 12) (by decide) dX12_refrain_37 ?_
    refine pt_iload_n C 1 rfl rfl dX12_refrain_39 ?_
    refine pt_imul C dX12_refrain_40 ?_
    refine pt_iload_n C 2 rfl rfl dX12_refrain_41 ?_
    refine pt_iadd C dX12_refrain_42 ?_
    refine pt_aload_n C 0 rfl rfl dX12_refrain_43 ?_
    refine ob hf (fun v13 g14 hf => ?_)
    refine pt_getR C kX12 6 (by decide) tw_922 (Or.inl rfl) g14 dX12_refrain_44 ?_
    refine pt_iload_n C 2 rfl rfl dX12_refrain_47 ?_
    refine ob hf (fun v15 g16 hf => ?_)
    refine pt_iald C g16 dX12_refrain_48 ?_
    refine ob hf (fun h17 g18 hf => ?_)
    refine pt_iast C g18 dX12_refrain_49 ?_
    refine pt_iinc C 2 [(2, .int (s.1 + 1)), (0, .ref x0), (1, .int x1)] rfl (iinc_eq s.1 (by decide)) (by decide) rfl dX12_refrain_50 ?_
    refine pt_goto C (tgt := 25) (by decide) dX12_refrain_53 ?_
    refine pt_sub C [(0, .ref x0), (1, .int x1), (2, .int (s.1 + 1))] [1, 2, 0] rfl ?_
    exact K0 _ _ (Option.some.inj hf).symm
theorem l_X12_refrain_L25 {X : MX} (C : CX X cX12_refrain 3 RX12 (some .int) rmX12_refrain) (x0 : Nat) (x1 : Int32) : ∀ (n : Nat) (s : Int32 × AH) (r : (AH)), iter (f_X12_refrain_L25 x0 x1) n s = some r → (fun r : (AH) => PT X 3 0 0 56 [(0, .ref x0), (1, .int x1)] [] r) r → PT X 3 0 0 25 [(0, .ref x0), (1, .int x1), (2, .int s.1)] [] s.2 :=
  iter_W (fun s : Int32 × AH => PT X 3 0 0 25 [(0, .ref x0), (1, .int x1), (2, .int s.1)] [] s.2) (fun r : (AH) => PT X 3 0 0 56 [(0, .ref x0), (1, .int x1)] [] r) _ (fun s s2 hf P => w_X12_refrain_L25 C x0 x1 s _ hf (fun u2 hu e => by cases e; exact P) (fun hu e => by cases e)) (fun s r hf P => w_X12_refrain_L25 C x0 x1 s _ hf (fun u2 hu e => by cases e) (fun hu e => by cases e; exact P))
set_option maxRecDepth 100000 in
set_option maxHeartbeats 4000000 in
theorem w_X12_refrain_0 {X : MX} (C : CX X cX12_refrain 3 RX12 (some .int) rmX12_refrain) (a0 : Nat) (a1 : Int32) (h : AH) (res : Int32 × AH) (hf : f_X12_refrain a0 a1 h = some res) (K : ∀ (v : Int32) (h2 : AH), res = (v, h2) → PR X rmX12_refrain (some (.int v)) h2) : PT X 3 0 0 0 [(0, .ref a0), (1, .int a1)] [] h := by
  unfold f_X12_refrain at hf
  refine pt_aload_n C 0 rfl rfl dX12_refrain_0 ?_
  refine pt_iload_n C 1 rfl rfl dX12_refrain_1 ?_
  refine ob hf (fun _ g3 hf => ?_)
  refine ob hf (fun q1 g2 hf => ?_)
  refine pt_callV C (As := [.int a1]) (rest := []) (v := (some (.int q1.1))) (fun l => con_X12_noSong l a0 a1 h _ g2) tw_1081 tw_1078 tw_1080 tp_22 kX12 g3 tw_13 yn_X12_noSong (by decide) (Nat.le_of_ble_eq_true rfl) dX12_refrain_2 rfl ?_
  show PT X 3 0 0 5 [(0, .ref a0), (1, .int a1)] [.int q1.1] q1.2
  refine pt_if_eq C (tgt := 11) (by decide) dX12_refrain_5 (fun c4 => ?_) (fun c4 => ?_)
  · rw [if_pos c4] at hf
    refine pt_aload_n C 0 rfl rfl dX12_refrain_11 ?_
    refine ob hf (fun v5 g6 hf => ?_)
    refine pt_getI C kX12 5 (by decide) tw_921 (Or.inl rfl) g6 dX12_refrain_12 ?_
    refine pt_bipush C (v := 12) (by decide) dX12_refrain_15 ?_
    refine pt_icmp_le C (tgt := 23) (by decide) dX12_refrain_17 (fun c7 => ?_) (fun c7 => ?_)
    · rw [if_pos c7] at hf
      refine pt_iconst C (v := 0) (by decide) dX12_refrain_23 ?_
      refine pt_istore_n C [(2, .int 0), (0, .ref a0), (1, .int a1)] rfl (by decide) rfl dX12_refrain_24 ?_
      refine pt_sub C [(0, .ref a0), (1, .int a1), (2, .int 0)] [1, 2, 0] rfl ?_
      refine ob hf (fun e19 g20 hf => ?_)
      refine l_X12_refrain_L25 C a0 a1 _ _ _ g20 ?_
      refine pt_aload_n C 0 rfl rfl dX12_refrain_56 ?_
      refine ob hf (fun v21 g22 hf => ?_)
      refine pt_getR C kX12 2 (by decide) tw_918 (Or.inl rfl) g22 dX12_refrain_57 ?_
      refine pt_iload_n C 1 rfl rfl dX12_refrain_60 ?_
      refine pt_aload_n C 0 rfl rfl dX12_refrain_61 ?_
      refine ob hf (fun v23 g24 hf => ?_)
      refine pt_getI C kX12 5 (by decide) tw_921 (Or.inl rfl) g24 dX12_refrain_62 ?_
      refine ob hf (fun h25 g26 hf => ?_)
      refine pt_iast C g26 dX12_refrain_65 ?_
      refine pt_aload_n C 0 rfl rfl dX12_refrain_66 ?_
      refine pt_iconst C (v := 0) (by decide) dX12_refrain_67 ?_
      refine ob hf (fun h27 g28 hf => ?_)
      refine pt_put C kX12 5 (by decide) tw_921 (Or.inl rfl) rfl rfl rfl g28 dX12_refrain_68 ?_
      refine pt_aload_n C 0 rfl rfl dX12_refrain_71 ?_
      refine ob hf (fun v29 g30 hf => ?_)
      refine pt_getR C kX12 2 (by decide) tw_918 (Or.inl rfl) g30 dX12_refrain_72 ?_
      refine pt_iload_n C 1 rfl rfl dX12_refrain_75 ?_
      refine ob hf (fun v31 g32 hf => ?_)
      refine pt_iald C g32 dX12_refrain_76 ?_
      exact pt_iret C (K _ _ (Option.some.inj hf).symm) (by decide) (by decide) dX12_refrain_77
    · rw [if_neg c7] at hf
      refine pt_bipush C (v := (-3)) (by decide) dX12_refrain_20 ?_
      exact pt_iret C (K _ _ (Option.some.inj hf).symm) (by decide) (by decide) dX12_refrain_22
  · rw [if_neg c4] at hf
    refine pt_bipush C (v := (-2)) (by decide) dX12_refrain_8 ?_
    exact pt_iret C (K _ _ (Option.some.inj hf).symm) (by decide) (by decide) dX12_refrain_10
theorem con_X12_refrain (l : Launch) (a0 : Nat) (a1 : Int32) (h : AH) (q : Int32 × AH) (hf : f_X12_refrain a0 a1 h = some q) : Con l yX12_refrain cX12_refrain 3 (some .int) rmX12_refrain [.ref a0, .int a1] h (some (.int q.1)) q.2 := Con.of (by decide +kernel) (Nat.le_of_ble_eq_true rfl) (fun X C I K => w_X12_refrain_0 C a0 a1 h q hf (fun v h2 e => by cases e; exact K))
abbrev rmX12_rest : Room := { frames := 0, cells := 0, slots := 0, locals := 0 }
theorem yn_X12_rest : YN yX12_rest 0 := by refine ⟨?_, ?_, ?_⟩ <;> decide +kernel
set_option maxRecDepth 100000 in
set_option maxHeartbeats 4000000 in
theorem w_X12_rest_0 {X : MX} (C : CX X cX12_rest 2 RX12 (some .int) rmX12_rest) (a0 : Nat) (h : AH) (res : Int32 × AH) (hf : f_X12_rest a0 h = some res) (K : ∀ (v : Int32) (h2 : AH), res = (v, h2) → PR X rmX12_rest (some (.int v)) h2) : PT X 2 0 0 0 [(0, .ref a0)] [] h := by
  unfold f_X12_rest at hf
  refine pt_aload_n C 0 rfl rfl dX12_rest_0 ?_
  refine ob hf (fun v1 g2 hf => ?_)
  refine pt_getI C kX12 5 (by decide) tw_921 (Or.inl rfl) g2 dX12_rest_1 ?_
  refine pt_istore_n C [(1, .int v1), (0, .ref a0)] rfl (by decide) rfl dX12_rest_4 ?_
  refine pt_aload_n C 1 rfl rfl dX12_rest_5 ?_
  refine pt_iconst C (v := 0) (by decide) dX12_rest_6 ?_
  refine ob hf (fun h3 g4 hf => ?_)
  refine pt_put C kX12 5 (by decide) tw_921 (Or.inl rfl) rfl rfl rfl g4 dX12_rest_7 ?_
  refine pt_iload_n C 0 rfl rfl dX12_rest_10 ?_
  exact pt_iret C (K _ _ (Option.some.inj hf).symm) (by decide) (by decide) dX12_rest_11
theorem con_X12_rest (l : Launch) (a0 : Nat) (h : AH) (q : Int32 × AH) (hf : f_X12_rest a0 h = some q) : Con l yX12_rest cX12_rest 2 (some .int) rmX12_rest [.ref a0] h (some (.int q.1)) q.2 := Con.of (by decide +kernel) (Nat.le_of_ble_eq_true rfl) (fun X C I K => w_X12_rest_0 C a0 h q hf (fun v h2 e => by cases e; exact K))
abbrev rmX12_song : Room := { frames := 0, cells := 0, slots := 0, locals := 0 }
theorem yn_X12_song : YN yX12_song 0 := by refine ⟨?_, ?_, ?_⟩ <;> decide +kernel
set_option maxRecDepth 100000 in
set_option maxHeartbeats 4000000 in
theorem w_X12_song_L24 {X : MX} (C : CX X cX12_song 2 RX12 (some .int) rmX12_song) (x0 : Nat) (s : Int32 × AH) (res : (Int32 × AH) ⊕ ((AH))) (hf : f_X12_song_L24 x0 s = some res) (K0 : ∀ (u1 : Int32) (hu : AH), res = .inl (u1, hu) → PT X 2 0 0 24 [(0, .ref x0), (1, .int u1)] [] hu) (K1 : ∀ (hu : AH), res = .inr (hu) → PT X 2 0 0 58 [(0, .ref x0)] [] hu) : PT X 2 0 0 24 [(0, .ref x0), (1, .int s.1)] [] s.2 := by
  unfold f_X12_song_L24 at hf
  refine pt_iload_n C 1 rfl rfl dX12_song_24 ?_
  refine pt_aload_n C 0 rfl rfl dX12_song_25 ?_
  refine ob hf (fun v7 g8 hf => ?_)
  refine pt_getI C kX12 5 (by decide) tw_921 (Or.inl rfl) g8 dX12_song_26 ?_
  refine pt_icmp_ge C (tgt := 58) (by decide) dX12_song_29 (fun c9 => ?_) (fun c9 => ?_)
  · rw [if_pos c9] at hf
    refine pt_sub C [(0, .ref x0)] [0] rfl ?_
    exact K1 _ (Option.some.inj hf).symm
  · rw [if_neg c9] at hf
    refine pt_aload_n C 0 rfl rfl dX12_song_32 ?_
    refine ob hf (fun v10 g11 hf => ?_)
    refine pt_getR C kX12 3 (by decide) tw_919 (Or.inl rfl) g11 dX12_song_33 ?_
    refine pt_bipush C (v := 24) (by decide) dX12_song_36 ?_
    refine pt_aload_n C 0 rfl rfl dX12_song_38 ?_
    refine ob hf (fun v12 g13 hf => ?_)
    refine pt_getI C kX12 0 (by decide) tw_916 (Or.inl rfl) g13 dX12_song_39 ?_
    refine pt_imul C dX12_song_42 ?_
    refine pt_iload_n C 1 rfl rfl dX12_song_43 ?_
    refine pt_iadd C dX12_song_44 ?_
    refine pt_aload_n C 0 rfl rfl dX12_song_45 ?_
    refine ob hf (fun v14 g15 hf => ?_)
    refine pt_getR C kX12 6 (by decide) tw_922 (Or.inl rfl) g15 dX12_song_46 ?_
    refine pt_iload_n C 1 rfl rfl dX12_song_49 ?_
    refine ob hf (fun v16 g17 hf => ?_)
    refine pt_iald C g17 dX12_song_50 ?_
    refine ob hf (fun h18 g19 hf => ?_)
    refine pt_iast C g19 dX12_song_51 ?_
    refine pt_iinc C 1 [(1, .int (s.1 + 1)), (0, .ref x0)] rfl (iinc_eq s.1 (by decide)) (by decide) rfl dX12_song_52 ?_
    refine pt_goto C (tgt := 24) (by decide) dX12_song_55 ?_
    refine pt_sub C [(0, .ref x0), (1, .int (s.1 + 1))] [1, 0] rfl ?_
    exact K0 _ _ (Option.some.inj hf).symm
theorem l_X12_song_L24 {X : MX} (C : CX X cX12_song 2 RX12 (some .int) rmX12_song) (x0 : Nat) : ∀ (n : Nat) (s : Int32 × AH) (r : (AH)), iter (f_X12_song_L24 x0) n s = some r → (fun r : (AH) => PT X 2 0 0 58 [(0, .ref x0)] [] r) r → PT X 2 0 0 24 [(0, .ref x0), (1, .int s.1)] [] s.2 :=
  iter_W (fun s : Int32 × AH => PT X 2 0 0 24 [(0, .ref x0), (1, .int s.1)] [] s.2) (fun r : (AH) => PT X 2 0 0 58 [(0, .ref x0)] [] r) _ (fun s s2 hf P => w_X12_song_L24 C x0 s _ hf (fun u1 hu e => by cases e; exact P) (fun hu e => by cases e)) (fun s r hf P => w_X12_song_L24 C x0 s _ hf (fun u1 hu e => by cases e) (fun hu e => by cases e; exact P))
set_option maxRecDepth 100000 in
set_option maxHeartbeats 4000000 in
theorem w_X12_song_0 {X : MX} (C : CX X cX12_song 2 RX12 (some .int) rmX12_song) (a0 : Nat) (h : AH) (res : Int32 × AH) (hf : f_X12_song a0 h = some res) (K : ∀ (v : Int32) (h2 : AH), res = (v, h2) → PR X rmX12_song (some (.int v)) h2) : PT X 2 0 0 0 [(0, .ref a0)] [] h := by
  unfold f_X12_song at hf
  refine pt_aload_n C 0 rfl rfl dX12_song_0 ?_
  refine ob hf (fun v1 g2 hf => ?_)
  refine pt_getI C kX12 5 (by decide) tw_921 (Or.inl rfl) g2 dX12_song_1 ?_
  refine pt_if_ne C (tgt := 10) (by decide) dX12_song_4 (fun c3 => ?_) (fun c3 => ?_)
  · rw [if_neg c3] at hf
    refine pt_aload_n C 0 rfl rfl dX12_song_10 ?_
    refine ob hf (fun v4 g5 hf => ?_)
    refine pt_getI C kX12 0 (by decide) tw_916 (Or.inl rfl) g5 dX12_song_11 ?_
    refine pt_bipush C (v := 6) (by decide) dX12_song_14 ?_
    refine pt_icmp_ne C (tgt := 22) (by decide) dX12_song_16 (fun c6 => ?_) (fun c6 => ?_)
    · rw [if_neg c6] at hf
      refine pt_iconst C (v := 0) (by decide) dX12_song_22 ?_
      refine pt_istore_n C [(1, .int 0), (0, .ref a0)] rfl (by decide) rfl dX12_song_23 ?_
      refine pt_sub C [(0, .ref a0), (1, .int 0)] [1, 0] rfl ?_
      refine ob hf (fun e20 g21 hf => ?_)
      refine l_X12_song_L24 C a0 _ _ _ g21 ?_
      refine pt_aload_n C 0 rfl rfl dX12_song_58 ?_
      refine ob hf (fun v22 g23 hf => ?_)
      refine pt_getR C kX12 1 (by decide) tw_917 (Or.inl rfl) g23 dX12_song_59 ?_
      refine pt_aload_n C 0 rfl rfl dX12_song_62 ?_
      refine ob hf (fun v24 g25 hf => ?_)
      refine pt_getI C kX12 0 (by decide) tw_916 (Or.inl rfl) g25 dX12_song_63 ?_
      refine pt_aload_n C 0 rfl rfl dX12_song_66 ?_
      refine ob hf (fun v26 g27 hf => ?_)
      refine pt_getI C kX12 5 (by decide) tw_921 (Or.inl rfl) g27 dX12_song_67 ?_
      refine ob hf (fun h28 g29 hf => ?_)
      refine pt_iast C g29 dX12_song_70 ?_
      refine pt_aload_n C 0 rfl rfl dX12_song_71 ?_
      refine ob hf (fun v30 g31 hf => ?_)
      refine pt_getR C kX12 2 (by decide) tw_918 (Or.inl rfl) g31 dX12_song_72 ?_
      refine pt_aload_n C 0 rfl rfl dX12_song_75 ?_
      refine ob hf (fun v32 g33 hf => ?_)
      refine pt_getI C kX12 0 (by decide) tw_916 (Or.inl rfl) g33 dX12_song_76 ?_
      refine pt_iconst C (v := 0) (by decide) dX12_song_79 ?_
      refine ob hf (fun h34 g35 hf => ?_)
      refine pt_iast C g35 dX12_song_80 ?_
      refine pt_aload_n C 0 rfl rfl dX12_song_81 ?_
      refine pt_iconst C (v := 0) (by decide) dX12_song_82 ?_
      refine ob hf (fun h36 g37 hf => ?_)
      refine pt_put C kX12 5 (by decide) tw_921 (Or.inl rfl) rfl rfl rfl g37 dX12_song_83 ?_
      refine pt_aload_n C 0 rfl rfl dX12_song_86 ?_
      refine pt_dup C rfl dX12_song_87 ?_
      refine ob hf (fun v38 g39 hf => ?_)
      refine pt_getI C kX12 0 (by decide) tw_916 (Or.inl rfl) g39 dX12_song_88 ?_
      refine pt_iconst C (v := 1) (by decide) dX12_song_91 ?_
      refine pt_iadd C dX12_song_92 ?_
      refine ob hf (fun h40 g41 hf => ?_)
      refine pt_put C kX12 0 (by decide) tw_916 (Or.inl rfl) rfl rfl rfl g41 dX12_song_93 ?_
      refine pt_aload_n C 0 rfl rfl dX12_song_96 ?_
      refine ob hf (fun v42 g43 hf => ?_)
      refine pt_getI C kX12 0 (by decide) tw_916 (Or.inl rfl) g43 dX12_song_97 ?_
      refine pt_iconst C (v := 1) (by decide) dX12_song_100 ?_
      refine pt_isub C dX12_song_101 ?_
      exact pt_iret C (K _ _ (Option.some.inj hf).symm) (by decide) (by decide) dX12_song_102
    · rw [if_pos c6] at hf
      refine pt_bipush C (v := (-4)) (by decide) dX12_song_19 ?_
      exact pt_iret C (K _ _ (Option.some.inj hf).symm) (by decide) (by decide) dX12_song_21
  · rw [if_pos c3] at hf
    refine pt_bipush C (v := (-3)) (by decide) dX12_song_7 ?_
    exact pt_iret C (K _ _ (Option.some.inj hf).symm) (by decide) (by decide) dX12_song_9
theorem con_X12_song (l : Launch) (a0 : Nat) (h : AH) (q : Int32 × AH) (hf : f_X12_song a0 h = some q) : Con l yX12_song cX12_song 2 (some .int) rmX12_song [.ref a0] h (some (.int q.1)) q.2 := Con.of (by decide +kernel) (Nat.le_of_ble_eq_true rfl) (fun X C I K => w_X12_song_0 C a0 h q hf (fun v h2 e => by cases e; exact K))
abbrev rmX12_sumOf : Room := { frames := 2, cells := 0, slots := 0, locals := 53 }
theorem yn_X12_sumOf : YN yX12_sumOf 7 := by refine ⟨?_, ?_, ?_⟩ <;> decide +kernel
set_option maxRecDepth 100000 in
set_option maxHeartbeats 4000000 in
theorem w_X12_sumOf_L3 {X : MX} (C : CX X cX12_sumOf 11 RX12 (some .int) rmX12_sumOf) (x0 : Nat) (x1 : Int32) (x2 : Int32) (x3 : Int32) (x4 : Int32) (x5 : Int32) (x6 : Int32) (x7 : Int32) (s : Int32 × AH) (res : (Int32 × AH) ⊕ ((AH))) (hf : f_X12_sumOf_L3 x0 x1 x2 x3 x4 x5 x6 x7 s = some res) (K0 : ∀ (u8 : Int32) (hu : AH), res = .inl (u8, hu) → PT X 11 0 0 3 [(0, .ref x0), (1, .int x1), (2, .int x2), (3, .int x3), (4, .int x4), (5, .int x5), (6, .int x6), (7, .int x7), (8, .int u8)] [] hu) (K1 : ∀ (hu : AH), res = .inr (hu) → PT X 11 0 0 67 [(0, .ref x0), (1, .int x1), (2, .int x2), (3, .int x3)] [] hu) : PT X 11 0 0 3 [(0, .ref x0), (1, .int x1), (2, .int x2), (3, .int x3), (4, .int x4), (5, .int x5), (6, .int x6), (7, .int x7), (8, .int s.1)] [] s.2 := by
  unfold f_X12_sumOf_L3 at hf
  refine pt_iload C 8 rfl dX12_sumOf_3 ?_
  refine pt_aload_n C 0 rfl rfl dX12_sumOf_5 ?_
  refine ob hf (fun v1 g2 hf => ?_)
  refine pt_getI C kX12 7 (by decide) tw_923 (Or.inl rfl) g2 dX12_sumOf_6 ?_
  refine pt_icmp_ge C (tgt := 67) (by decide) dX12_sumOf_9 (fun c3 => ?_) (fun c3 => ?_)
  · rw [if_pos c3] at hf
    refine pt_sub C [(0, .ref x0), (1, .int x1), (2, .int x2), (3, .int x3)] [0, 1, 2, 3] rfl ?_
    exact K1 _ (Option.some.inj hf).symm
  · rw [if_neg c3] at hf
    refine pt_aload_n C 0 rfl rfl dX12_sumOf_12 ?_
    refine ob hf (fun v4 g5 hf => ?_)
    refine pt_getR C kX12 13 (by decide) tw_929 (Or.inl rfl) g5 dX12_sumOf_13 ?_
    refine pt_bipush C (v := 10) (by decide) dX12_sumOf_16 ?_
    refine pt_iload C 8 rfl dX12_sumOf_18 ?_
    refine pt_iadd C dX12_sumOf_20 ?_
    refine pt_aload_n C 0 rfl rfl dX12_sumOf_21 ?_
    refine ob hf (fun v6 g7 hf => ?_)
    refine pt_getR C kX12 8 (by decide) tw_924 (Or.inl rfl) g7 dX12_sumOf_22 ?_
    refine pt_iload C 8 rfl dX12_sumOf_25 ?_
    refine ob hf (fun v8 g9 hf => ?_)
    refine pt_iald C g9 dX12_sumOf_27 ?_
    refine ob hf (fun h10 g11 hf => ?_)
    refine pt_iast C g11 dX12_sumOf_28 ?_
    refine pt_aload_n C 0 rfl rfl dX12_sumOf_29 ?_
    refine ob hf (fun v12 g13 hf => ?_)
    refine pt_getR C kX12 19 (by decide) tw_935 (Or.inl rfl) g13 dX12_sumOf_30 ?_
    refine pt_iload C 8 rfl dX12_sumOf_33 ?_
    refine pt_iload C 8 rfl dX12_sumOf_35 ?_
    refine pt_iload C 4 rfl dX12_sumOf_37 ?_
    refine pt_icmp_ne C (tgt := 47) (by decide) dX12_sumOf_39 (fun c14 => ?_) (fun c14 => ?_)
    · rw [if_neg c14] at hf
      refine pt_iload C 8 rfl dX12_sumOf_47 ?_
      refine pt_iload C 6 rfl dX12_sumOf_49 ?_
      refine pt_icmp_ne C (tgt := 59) (by decide) dX12_sumOf_51 (fun c15 => ?_) (fun c15 => ?_)
      · rw [if_neg c15] at hf
        refine pt_iconst C (v := 0) (by decide) dX12_sumOf_59 ?_
        refine ob hf (fun h16 g17 hf => ?_)
        refine pt_iast C g17 dX12_sumOf_60 ?_
        refine pt_iinc C 8 [(8, .int (s.1 + 1)), (0, .ref x0), (1, .int x1), (2, .int x2), (3, .int x3), (4, .int x4), (5, .int x5), (6, .int x6), (7, .int x7)] rfl (iinc_eq s.1 (by decide)) (by decide) rfl dX12_sumOf_61 ?_
        refine pt_goto C (tgt := 3) (by decide) dX12_sumOf_64 ?_
        refine pt_sub C [(0, .ref x0), (1, .int x1), (2, .int x2), (3, .int x3), (4, .int x4), (5, .int x5), (6, .int x6), (7, .int x7), (8, .int (s.1 + 1))] [1, 2, 3, 4, 5, 6, 7, 8, 0] rfl ?_
        exact K0 _ _ (Option.some.inj hf).symm
      · rw [if_pos c15] at hf
        refine pt_iload C 7 rfl dX12_sumOf_54 ?_
        refine pt_goto C (tgt := 60) (by decide) dX12_sumOf_56 ?_
        refine ob hf (fun h18 g19 hf => ?_)
        refine pt_iast C g19 dX12_sumOf_60 ?_
        refine pt_iinc C 8 [(8, .int (s.1 + 1)), (0, .ref x0), (1, .int x1), (2, .int x2), (3, .int x3), (4, .int x4), (5, .int x5), (6, .int x6), (7, .int x7)] rfl (iinc_eq s.1 (by decide)) (by decide) rfl dX12_sumOf_61 ?_
        refine pt_goto C (tgt := 3) (by decide) dX12_sumOf_64 ?_
        refine pt_sub C [(0, .ref x0), (1, .int x1), (2, .int x2), (3, .int x3), (4, .int x4), (5, .int x5), (6, .int x6), (7, .int x7), (8, .int (s.1 + 1))] [1, 2, 3, 4, 5, 6, 7, 8, 0] rfl ?_
        exact K0 _ _ (Option.some.inj hf).symm
    · rw [if_pos c14] at hf
      refine pt_iload C 5 rfl dX12_sumOf_42 ?_
      refine pt_goto C (tgt := 60) (by decide) dX12_sumOf_44 ?_
      refine ob hf (fun h20 g21 hf => ?_)
      refine pt_iast C g21 dX12_sumOf_60 ?_
      refine pt_iinc C 8 [(8, .int (s.1 + 1)), (0, .ref x0), (1, .int x1), (2, .int x2), (3, .int x3), (4, .int x4), (5, .int x5), (6, .int x6), (7, .int x7)] rfl (iinc_eq s.1 (by decide)) (by decide) rfl dX12_sumOf_61 ?_
      refine pt_goto C (tgt := 3) (by decide) dX12_sumOf_64 ?_
      refine pt_sub C [(0, .ref x0), (1, .int x1), (2, .int x2), (3, .int x3), (4, .int x4), (5, .int x5), (6, .int x6), (7, .int x7), (8, .int (s.1 + 1))] [1, 2, 3, 4, 5, 6, 7, 8, 0] rfl ?_
      exact K0 _ _ (Option.some.inj hf).symm
theorem l_X12_sumOf_L3 {X : MX} (C : CX X cX12_sumOf 11 RX12 (some .int) rmX12_sumOf) (x0 : Nat) (x1 : Int32) (x2 : Int32) (x3 : Int32) (x4 : Int32) (x5 : Int32) (x6 : Int32) (x7 : Int32) : ∀ (n : Nat) (s : Int32 × AH) (r : (AH)), iter (f_X12_sumOf_L3 x0 x1 x2 x3 x4 x5 x6 x7) n s = some r → (fun r : (AH) => PT X 11 0 0 67 [(0, .ref x0), (1, .int x1), (2, .int x2), (3, .int x3)] [] r) r → PT X 11 0 0 3 [(0, .ref x0), (1, .int x1), (2, .int x2), (3, .int x3), (4, .int x4), (5, .int x5), (6, .int x6), (7, .int x7), (8, .int s.1)] [] s.2 :=
  iter_W (fun s : Int32 × AH => PT X 11 0 0 3 [(0, .ref x0), (1, .int x1), (2, .int x2), (3, .int x3), (4, .int x4), (5, .int x5), (6, .int x6), (7, .int x7), (8, .int s.1)] [] s.2) (fun r : (AH) => PT X 11 0 0 67 [(0, .ref x0), (1, .int x1), (2, .int x2), (3, .int x3)] [] r) _ (fun s s2 hf P => w_X12_sumOf_L3 C x0 x1 x2 x3 x4 x5 x6 x7 s _ hf (fun u8 hu e => by cases e; exact P) (fun hu e => by cases e)) (fun s r hf P => w_X12_sumOf_L3 C x0 x1 x2 x3 x4 x5 x6 x7 s _ hf (fun u8 hu e => by cases e) (fun hu e => by cases e; exact P))
set_option maxRecDepth 100000 in
set_option maxHeartbeats 4000000 in
theorem w_X12_sumOf_L75 {X : MX} (C : CX X cX12_sumOf 11 RX12 (some .int) rmX12_sumOf) (x0 : Nat) (x1 : Int32) (x2 : Int32) (x3 : Int32) (s : Int32 × AH) (res : (Int32 × AH) ⊕ ((AH))) (hf : f_X12_sumOf_L75 x0 x1 x2 x3 s = some res) (K0 : ∀ (u8 : Int32) (hu : AH), res = .inl (u8, hu) → PT X 11 0 0 75 [(0, .ref x0), (1, .int x1), (2, .int x2), (3, .int x3), (8, .int u8)] [] hu) (K1 : ∀ (hu : AH), res = .inr (hu) → PT X 11 0 0 114 [(0, .ref x0)] [] hu) : PT X 11 0 0 75 [(0, .ref x0), (1, .int x1), (2, .int x2), (3, .int x3), (8, .int s.1)] [] s.2 := by
  unfold f_X12_sumOf_L75 at hf
  refine pt_iload C 4 rfl dX12_sumOf_75 ?_
  refine pt_sipush C (v := 300) (by decide) dX12_sumOf_77 ?_
  refine pt_icmp_ge C (tgt := 114) (by decide) dX12_sumOf_80 (fun c26 => ?_) (fun c26 => ?_)
  · rw [if_pos c26] at hf
    refine pt_sub C [(0, .ref x0)] [0] rfl ?_
    exact K1 _ (Option.some.inj hf).symm
  · rw [if_neg c26] at hf
    refine pt_aload_n C 0 rfl rfl dX12_sumOf_83 ?_
    refine pt_iconst C (v := 1) (by decide) dX12_sumOf_84 ?_
    refine pt_iload_n C 1 rfl rfl dX12_sumOf_85 ?_
    refine pt_aload_n C 0 rfl rfl dX12_sumOf_86 ?_
    refine ob hf (fun v27 g28 hf => ?_)
    refine pt_getI C kX12 14 (by decide) tw_930 (Or.inl rfl) g28 dX12_sumOf_87 ?_
    refine pt_iload_n C 2 rfl rfl dX12_sumOf_90 ?_
    refine pt_iload_n C 3 rfl rfl dX12_sumOf_91 ?_
    refine pt_iload C 4 rfl dX12_sumOf_92 ?_
    refine ob hf (fun _ g31 hf => ?_)
    refine ob hf (fun q29 g30 hf => ?_)
    refine pt_callV C (As := [.int 1, .int x1, .int v27, .int x2, .int x3, .int s.1]) (rest := []) (v := none) (fun l => con_X12_step l x0 1 x1 v27 x2 x3 s.1 s.2 _ g30) tw_1144 tw_1141 tw_1143 tp_27 kX12 g31 tw_13 yn_X12_step (by decide) (Nat.le_of_ble_eq_true rfl) dX12_sumOf_94 rfl ?_
    show PT X 11 0 0 97 [(0, .ref x0), (1, .int x1), (2, .int x2), (3, .int x3), (8, .int s.1)] [] q29
    refine pt_aload_n C 0 rfl rfl dX12_sumOf_97 ?_
    refine ob hf (fun v32 g33 hf => ?_)
    refine pt_getR C kX12 38 (by decide) tw_954 (Or.inl rfl) g33 dX12_sumOf_98 ?_
    refine pt_iload C 4 rfl dX12_sumOf_101 ?_
    refine pt_aload_n C 0 rfl rfl dX12_sumOf_103 ?_
    refine ob hf (fun v34 g35 hf => ?_)
    refine pt_getI C kX12 20 (by decide) tw_936 (Or.inl rfl) g35 dX12_sumOf_104 ?_
    refine ob hf (fun h36 g37 hf => ?_)
    refine pt_iast C g37 dX12_sumOf_107 ?_
    refine pt_iinc C 4 [(8, .int (s.1 + 1)), (0, .ref x0), (1, .int x1), (2, .int x2), (3, .int x3)] rfl (iinc_eq s.1 (by decide)) (by decide) rfl dX12_sumOf_108 ?_
    refine pt_goto C (tgt := 75) (by decide) dX12_sumOf_111 ?_
    refine pt_sub C [(0, .ref x0), (1, .int x1), (2, .int x2), (3, .int x3), (8, .int (s.1 + 1))] [1, 2, 3, 4, 0] rfl ?_
    exact K0 _ _ (Option.some.inj hf).symm
theorem l_X12_sumOf_L75 {X : MX} (C : CX X cX12_sumOf 11 RX12 (some .int) rmX12_sumOf) (x0 : Nat) (x1 : Int32) (x2 : Int32) (x3 : Int32) : ∀ (n : Nat) (s : Int32 × AH) (r : (AH)), iter (f_X12_sumOf_L75 x0 x1 x2 x3) n s = some r → (fun r : (AH) => PT X 11 0 0 114 [(0, .ref x0)] [] r) r → PT X 11 0 0 75 [(0, .ref x0), (1, .int x1), (2, .int x2), (3, .int x3), (8, .int s.1)] [] s.2 :=
  iter_W (fun s : Int32 × AH => PT X 11 0 0 75 [(0, .ref x0), (1, .int x1), (2, .int x2), (3, .int x3), (8, .int s.1)] [] s.2) (fun r : (AH) => PT X 11 0 0 114 [(0, .ref x0)] [] r) _ (fun s s2 hf P => w_X12_sumOf_L75 C x0 x1 x2 x3 s _ hf (fun u8 hu e => by cases e; exact P) (fun hu e => by cases e)) (fun s r hf P => w_X12_sumOf_L75 C x0 x1 x2 x3 s _ hf (fun u8 hu e => by cases e) (fun hu e => by cases e; exact P))
set_option maxRecDepth 100000 in
set_option maxHeartbeats 4000000 in
theorem w_X12_sumOf_L120 {X : MX} (C : CX X cX12_sumOf 11 RX12 (some .int) rmX12_sumOf) (x0 : Nat) (s : Int32 × Int32 × AH) (res : (Int32 × Int32 × AH) ⊕ ((Int32 × AH))) (hf : f_X12_sumOf_L120 x0 s = some res) (K0 : ∀ (u8 : Int32) (u9 : Int32) (hu : AH), res = .inl (u8, u9, hu) → PT X 11 0 0 120 [(0, .ref x0), (8, .int u8), (9, .int u9)] [] hu) (K1 : ∀ (u8 : Int32) (hu : AH), res = .inr ((u8, hu)) → PT X 11 0 0 176 [(8, .int u8)] [] hu) : PT X 11 0 0 120 [(0, .ref x0), (8, .int s.1), (9, .int s.2.1)] [] s.2.2 := by
  unfold f_X12_sumOf_L120 at hf
  refine pt_iload C 2 rfl dX12_sumOf_120 ?_
  refine pt_aload_n C 0 rfl rfl dX12_sumOf_122 ?_
  refine ob hf (fun v40 g41 hf => ?_)
  refine pt_getI C kX12 35 (by decide) tw_951 (Or.inl rfl) g41 dX12_sumOf_123 ?_
  refine pt_icmp_ge C (tgt := 176) (by decide) dX12_sumOf_126 (fun c42 => ?_) (fun c42 => ?_)
  · rw [if_pos c42] at hf
    refine pt_sub C [(8, .int s.1)] [1] rfl ?_
    exact K1 _ _ (Option.some.inj hf).symm
  · rw [if_neg c42] at hf
    refine pt_aload_n C 0 rfl rfl dX12_sumOf_129 ?_
    refine ob hf (fun v43 g44 hf => ?_)
    refine pt_getR C kX12 38 (by decide) tw_954 (Or.inl rfl) g44 dX12_sumOf_130 ?_
    refine pt_aload_n C 0 rfl rfl dX12_sumOf_133 ?_
    refine ob hf (fun v45 g46 hf => ?_)
    refine pt_getR C kX12 36 (by decide) tw_952 (Or.inl rfl) g46 dX12_sumOf_134 ?_
    refine pt_iload C 2 rfl dX12_sumOf_137 ?_
    refine ob hf (fun v47 g48 hf => ?_)
    refine pt_iald C g48 dX12_sumOf_139 ?_
    refine ob hf (fun v49 g50 hf => ?_)
    refine pt_iald C g50 dX12_sumOf_140 ?_
    refine pt_aload_n C 0 rfl rfl dX12_sumOf_141 ?_
    refine ob hf (fun v51 g52 hf => ?_)
    refine pt_getR C kX12 37 (by decide) tw_953 (Or.inl rfl) g52 dX12_sumOf_142 ?_
    refine pt_iload C 2 rfl dX12_sumOf_145 ?_
    refine ob hf (fun v53 g54 hf => ?_)
    refine pt_iald C g54 dX12_sumOf_147 ?_
    refine pt_isub C dX12_sumOf_148 ?_
    refine pt_istore C [(10, .int (v49 - v53)), (0, .ref x0), (8, .int s.1), (9, .int s.2.1)] (by decide) rfl dX12_sumOf_149 ?_
    refine pt_iload C 2 rfl dX12_sumOf_151 ?_
    refine pt_iload C 0 rfl dX12_sumOf_153 ?_
    refine pt_if_ge C (tgt := 165) (by decide) dX12_sumOf_155 (fun c55 => ?_) (fun c55 => ?_)
    · rw [if_pos c55] at hf
      refine pt_iload C 0 rfl dX12_sumOf_165 ?_
      refine pt_iadd C dX12_sumOf_167 ?_
      refine pt_istore C [(8, .int (s.1 + (v49 - v53))), (10, .int (v49 - v53)), (0, .ref x0), (9, .int s.2.1)] (by decide) rfl dX12_sumOf_168 ?_
      refine pt_iinc C 3 [(9, .int (s.2.1 + 1)), (8, .int (s.1 + (v49 - v53))), (10, .int (v49 - v53)), (0, .ref x0)] rfl (iinc_eq s.2.1 (by decide)) (by decide) rfl dX12_sumOf_170 ?_
      refine pt_goto C (tgt := 120) (by decide) dX12_sumOf_173 ?_
      refine pt_sub C [(0, .ref x0), (8, .int (s.1 + (v49 - v53))), (9, .int (s.2.1 + 1))] [3, 1, 0] rfl ?_
      exact K0 _ _ _ (Option.some.inj hf).symm
    · rw [if_neg c55] at hf
      refine pt_iconst C (v := 0) (by decide) dX12_sumOf_158 ?_
      refine pt_iload C 0 rfl dX12_sumOf_159 ?_
      refine pt_isub C dX12_sumOf_161 ?_
      refine pt_goto C (tgt := 167) (by decide) dX12_sumOf_162 ?_
      refine pt_iadd C dX12_sumOf_167 ?_
      refine pt_istore C [(8, .int (s.1 + (0 - (v49 - v53)))), (10, .int (v49 - v53)), (0, .ref x0), (9, .int s.2.1)] (by decide) rfl dX12_sumOf_168 ?_
      refine pt_iinc C 3 [(9, .int (s.2.1 + 1)), (8, .int (s.1 + (0 - (v49 - v53)))), (10, .int (v49 - v53)), (0, .ref x0)] rfl (iinc_eq s.2.1 (by decide)) (by decide) rfl dX12_sumOf_170 ?_
      refine pt_goto C (tgt := 120) (by decide) dX12_sumOf_173 ?_
      refine pt_sub C [(0, .ref x0), (8, .int (s.1 + (0 - (v49 - v53)))), (9, .int (s.2.1 + 1))] [3, 1, 0] rfl ?_
      exact K0 _ _ _ (Option.some.inj hf).symm
theorem l_X12_sumOf_L120 {X : MX} (C : CX X cX12_sumOf 11 RX12 (some .int) rmX12_sumOf) (x0 : Nat) : ∀ (n : Nat) (s : Int32 × Int32 × AH) (r : (Int32 × AH)), iter (f_X12_sumOf_L120 x0) n s = some r → (fun r : (Int32 × AH) => PT X 11 0 0 176 [(8, .int r.1)] [] r.2) r → PT X 11 0 0 120 [(0, .ref x0), (8, .int s.1), (9, .int s.2.1)] [] s.2.2 :=
  iter_W (fun s : Int32 × Int32 × AH => PT X 11 0 0 120 [(0, .ref x0), (8, .int s.1), (9, .int s.2.1)] [] s.2.2) (fun r : (Int32 × AH) => PT X 11 0 0 176 [(8, .int r.1)] [] r.2) _ (fun s s2 hf P => w_X12_sumOf_L120 C x0 s _ hf (fun u8 u9 hu e => by cases e; exact P) (fun u8 hu e => by cases e)) (fun s r hf P => w_X12_sumOf_L120 C x0 s _ hf (fun u8 u9 hu e => by cases e) (fun u8 hu e => by cases e; exact P))
set_option maxRecDepth 100000 in
set_option maxHeartbeats 4000000 in
theorem w_X12_sumOf_0 {X : MX} (C : CX X cX12_sumOf 11 RX12 (some .int) rmX12_sumOf) (a0 : Nat) (a1 : Int32) (a2 : Int32) (a3 : Int32) (a4 : Int32) (a5 : Int32) (a6 : Int32) (a7 : Int32) (h : AH) (res : Int32 × AH) (hf : f_X12_sumOf a0 a1 a2 a3 a4 a5 a6 a7 h = some res) (K : ∀ (v : Int32) (h2 : AH), res = (v, h2) → PR X rmX12_sumOf (some (.int v)) h2) : PT X 11 0 0 0 [(0, .ref a0), (1, .int a1), (2, .int a2), (3, .int a3), (4, .int a4), (5, .int a5), (6, .int a6), (7, .int a7)] [] h := by
  unfold f_X12_sumOf at hf
  refine pt_iconst C (v := 0) (by decide) dX12_sumOf_0 ?_
  refine pt_istore C [(8, .int 0), (0, .ref a0), (1, .int a1), (2, .int a2), (3, .int a3), (4, .int a4), (5, .int a5), (6, .int a6), (7, .int a7)] (by decide) rfl dX12_sumOf_1 ?_
  refine pt_sub C [(0, .ref a0), (1, .int a1), (2, .int a2), (3, .int a3), (4, .int a4), (5, .int a5), (6, .int a6), (7, .int a7), (8, .int 0)] [1, 2, 3, 4, 5, 6, 7, 8, 0] rfl ?_
  refine ob hf (fun e22 g23 hf => ?_)
  refine l_X12_sumOf_L3 C a0 a1 a2 a3 a4 a5 a6 a7 _ _ _ g23 ?_
  refine pt_aload_n C 0 rfl rfl dX12_sumOf_67 ?_
  refine pt_iconst C (v := 0) (by decide) dX12_sumOf_68 ?_
  refine ob hf (fun h24 g25 hf => ?_)
  refine pt_put C kX12 20 (by decide) tw_936 (Or.inl rfl) rfl rfl rfl g25 dX12_sumOf_69 ?_
  refine pt_iconst C (v := 0) (by decide) dX12_sumOf_72 ?_
  refine pt_istore C [(8, .int 0), (0, .ref a0), (1, .int a1), (2, .int a2), (3, .int a3)] (by decide) rfl dX12_sumOf_73 ?_
  refine pt_sub C [(0, .ref a0), (1, .int a1), (2, .int a2), (3, .int a3), (8, .int 0)] [1, 2, 3, 4, 0] rfl ?_
  refine ob hf (fun e38 g39 hf => ?_)
  refine l_X12_sumOf_L75 C a0 a1 a2 a3 _ _ _ g39 ?_
  refine pt_iconst C (v := 0) (by decide) dX12_sumOf_114 ?_
  refine pt_istore C [(8, .int 0), (0, .ref a0)] (by decide) rfl dX12_sumOf_115 ?_
  refine pt_iconst C (v := 0) (by decide) dX12_sumOf_117 ?_
  refine pt_istore C [(9, .int 0), (8, .int 0), (0, .ref a0)] (by decide) rfl dX12_sumOf_118 ?_
  refine pt_sub C [(0, .ref a0), (8, .int 0), (9, .int 0)] [2, 1, 0] rfl ?_
  refine ob hf (fun e56 g57 hf => ?_)
  refine l_X12_sumOf_L120 C a0 _ _ _ g57 ?_
  refine pt_iload C 0 rfl dX12_sumOf_176 ?_
  exact pt_iret C (K _ _ (Option.some.inj hf).symm) (by decide) (by decide) dX12_sumOf_178
theorem con_X12_sumOf (l : Launch) (a0 : Nat) (a1 : Int32) (a2 : Int32) (a3 : Int32) (a4 : Int32) (a5 : Int32) (a6 : Int32) (a7 : Int32) (h : AH) (q : Int32 × AH) (hf : f_X12_sumOf a0 a1 a2 a3 a4 a5 a6 a7 h = some q) : Con l yX12_sumOf cX12_sumOf 11 (some .int) rmX12_sumOf [.ref a0, .int a1, .int a2, .int a3, .int a4, .int a5, .int a6, .int a7] h (some (.int q.1)) q.2 := Con.of (by decide +kernel) (Nat.le_of_ble_eq_true rfl) (fun X C I K => w_X12_sumOf_0 C a0 a1 a2 a3 a4 a5 a6 a7 h q hf (fun v h2 e => by cases e; exact K))
abbrev rmX12_task : Room := { frames := 2, cells := 0, slots := 0, locals := 47 }
theorem yn_X12_task : YN yX12_task 3 := by refine ⟨?_, ?_, ?_⟩ <;> decide +kernel
set_option maxRecDepth 100000 in
set_option maxHeartbeats 4000000 in
theorem w_X12_task_0 {X : MX} (C : CX X cX12_task 4 RX12 (some .int) rmX12_task) (a0 : Nat) (a1 : Int32) (a2 : Int32) (a3 : Int32) (h : AH) (res : Int32 × AH) (hf : f_X12_task a0 a1 a2 a3 h = some res) (K : ∀ (v : Int32) (h2 : AH), res = (v, h2) → PR X rmX12_task (some (.int v)) h2) : PT X 4 0 0 0 [(0, .ref a0), (1, .int a1), (2, .int a2), (3, .int a3)] [] h := by
  unfold f_X12_task at hf
  refine pt_iload_n C 1 rfl rfl dX12_task_0 ?_
  refine pt_iload_n C 2 rfl rfl dX12_task_1 ?_
  refine pt_iload_n C 3 rfl rfl dX12_task_2 ?_
  refine ob hf (fun q1 g2 hf => ?_)
  refine pt_callS C (As := [.int a1, .int a2, .int a3]) (rest := []) (v := (some (.int q1.1))) (fun l => con_X12_isTask l a1 a2 a3 h _ g2) tw_1134 tw_1132 tw_1133 tw_13 yn_X12_isTask (by decide) (Nat.le_of_ble_eq_true rfl) dX12_task_3 rfl ?_
  show PT X 4 0 0 6 [(0, .ref a0), (1, .int a1), (2, .int a2), (3, .int a3)] [.int q1.1] q1.2
  refine pt_if_ne C (tgt := 12) (by decide) dX12_task_6 (fun c3 => ?_) (fun c3 => ?_)
  · rw [if_neg c3] at hf
    refine pt_aload_n C 0 rfl rfl dX12_task_12 ?_
    refine ob hf (fun v4 g5 hf => ?_)
    refine pt_getI C kX12 22 (by decide) tw_938 (Or.inl rfl) g5 dX12_task_13 ?_
    refine pt_iconst C (v := 4) (by decide) dX12_task_16 ?_
    refine pt_icmp_ne C (tgt := 23) (by decide) dX12_task_17 (fun c6 => ?_) (fun c6 => ?_)
    · rw [if_neg c6] at hf
      refine pt_aload_n C 0 rfl rfl dX12_task_23 ?_
      refine ob hf (fun v7 g8 hf => ?_)
      refine pt_getR C kX12 23 (by decide) tw_939 (Or.inl rfl) g8 dX12_task_24 ?_
      refine pt_aload_n C 0 rfl rfl dX12_task_27 ?_
      refine ob hf (fun v9 g10 hf => ?_)
      refine pt_getI C kX12 22 (by decide) tw_938 (Or.inl rfl) g10 dX12_task_28 ?_
      refine pt_iload_n C 1 rfl rfl dX12_task_31 ?_
      refine ob hf (fun h11 g12 hf => ?_)
      refine pt_iast C g12 dX12_task_32 ?_
      refine pt_aload_n C 0 rfl rfl dX12_task_33 ?_
      refine ob hf (fun v13 g14 hf => ?_)
      refine pt_getR C kX12 24 (by decide) tw_940 (Or.inl rfl) g14 dX12_task_34 ?_
      refine pt_aload_n C 0 rfl rfl dX12_task_37 ?_
      refine ob hf (fun v15 g16 hf => ?_)
      refine pt_getI C kX12 22 (by decide) tw_938 (Or.inl rfl) g16 dX12_task_38 ?_
      refine pt_iload_n C 2 rfl rfl dX12_task_41 ?_
      refine ob hf (fun h17 g18 hf => ?_)
      refine pt_iast C g18 dX12_task_42 ?_
      refine pt_aload_n C 0 rfl rfl dX12_task_43 ?_
      refine ob hf (fun v19 g20 hf => ?_)
      refine pt_getR C kX12 25 (by decide) tw_941 (Or.inl rfl) g20 dX12_task_44 ?_
      refine pt_aload_n C 0 rfl rfl dX12_task_47 ?_
      refine ob hf (fun v21 g22 hf => ?_)
      refine pt_getI C kX12 22 (by decide) tw_938 (Or.inl rfl) g22 dX12_task_48 ?_
      refine pt_iload_n C 3 rfl rfl dX12_task_51 ?_
      refine ob hf (fun h23 g24 hf => ?_)
      refine pt_iast C g24 dX12_task_52 ?_
      refine pt_aload_n C 0 rfl rfl dX12_task_53 ?_
      refine pt_dup C rfl dX12_task_54 ?_
      refine ob hf (fun v25 g26 hf => ?_)
      refine pt_getI C kX12 22 (by decide) tw_938 (Or.inl rfl) g26 dX12_task_55 ?_
      refine pt_iconst C (v := 1) (by decide) dX12_task_58 ?_
      refine pt_iadd C dX12_task_59 ?_
      refine ob hf (fun h27 g28 hf => ?_)
      refine pt_put C kX12 22 (by decide) tw_938 (Or.inl rfl) rfl rfl rfl g28 dX12_task_60 ?_
      refine pt_aload_n C 0 rfl rfl dX12_task_63 ?_
      refine ob hf (fun v29 g30 hf => ?_)
      refine pt_getI C kX12 22 (by decide) tw_938 (Or.inl rfl) g30 dX12_task_64 ?_
      refine pt_iconst C (v := 1) (by decide) dX12_task_67 ?_
      refine pt_isub C dX12_task_68 ?_
      exact pt_iret C (K _ _ (Option.some.inj hf).symm) (by decide) (by decide) dX12_task_69
    · rw [if_pos c6] at hf
      refine pt_bipush C (v := (-4)) (by decide) dX12_task_20 ?_
      exact pt_iret C (K _ _ (Option.some.inj hf).symm) (by decide) (by decide) dX12_task_22
  · rw [if_pos c3] at hf
    refine pt_bipush C (v := (-2)) (by decide) dX12_task_9 ?_
    exact pt_iret C (K _ _ (Option.some.inj hf).symm) (by decide) (by decide) dX12_task_11
theorem con_X12_task (l : Launch) (a0 : Nat) (a1 : Int32) (a2 : Int32) (a3 : Int32) (h : AH) (q : Int32 × AH) (hf : f_X12_task a0 a1 a2 a3 h = some q) : Con l yX12_task cX12_task 4 (some .int) rmX12_task [.ref a0, .int a1, .int a2, .int a3] h (some (.int q.1)) q.2 := Con.of (by decide +kernel) (Nat.le_of_ble_eq_true rfl) (fun X C I K => w_X12_task_0 C a0 a1 a2 a3 h q hf (fun v h2 e => by cases e; exact K))
abbrev rmX12_tree : Room := { frames := 4, cells := 0, slots := 0, locals := 103 }
theorem yn_X12_tree : YN yX12_tree 0 := by refine ⟨?_, ?_, ?_⟩ <;> decide +kernel
set_option maxRecDepth 100000 in
set_option maxHeartbeats 4000000 in
theorem w_X12_tree_0 {X : MX} (C : CX X cX12_tree 1 RX12 (some .int) rmX12_tree) (a0 : Nat) (h : AH) (res : Int32 × AH) (hf : f_X12_tree a0 h = some res) (K : ∀ (v : Int32) (h2 : AH), res = (v, h2) → PR X rmX12_tree (some (.int v)) h2) : PT X 1 0 0 0 [(0, .ref a0)] [] h := by
  unfold f_X12_tree at hf
  refine pt_aload_n C 0 rfl rfl dX12_tree_0 ?_
  refine ob hf (fun _ g3 hf => ?_)
  refine ob hf (fun q1 g2 hf => ?_)
  refine pt_callV C (As := []) (rest := []) (v := none) (fun l => con_X12_findTree l a0 h _ g2) tw_1286 tw_1283 tw_1285 tp_41 kX12 g3 tw_13 yn_X12_findTree (by decide) (Nat.le_of_ble_eq_true rfl) dX12_tree_1 rfl ?_
  show PT X 1 0 0 4 [(0, .ref a0)] [] q1
  refine pt_aload_n C 0 rfl rfl dX12_tree_4 ?_
  refine ob hf (fun v4 g5 hf => ?_)
  refine pt_getI C kX12 45 (by decide) tw_961 (Or.inl rfl) g5 dX12_tree_5 ?_
  exact pt_iret C (K _ _ (Option.some.inj hf).symm) (by decide) (by decide) dX12_tree_8
theorem con_X12_tree (l : Launch) (a0 : Nat) (h : AH) (q : Int32 × AH) (hf : f_X12_tree a0 h = some q) : Con l yX12_tree cX12_tree 1 (some .int) rmX12_tree [.ref a0] h (some (.int q.1)) q.2 := Con.of (by decide +kernel) (Nat.le_of_ble_eq_true rfl) (fun X C I K => w_X12_tree_0 C a0 h q hf (fun v h2 e => by cases e; exact K))
abbrev rmX12_tryTwo : Room := { frames := 3, cells := 0, slots := 0, locals := 83 }
theorem yn_X12_tryTwo : YN yX12_tryTwo 6 := by refine ⟨?_, ?_, ?_⟩ <;> decide +kernel
set_option maxRecDepth 100000 in
set_option maxHeartbeats 4000000 in
theorem w_X12_tryTwo_L7_J51 {X : MX} (C : CX X cX12_tryTwo 10 RX12 (some .int) rmX12_tryTwo) (x0 : Nat) (x1 : Int32) (x2 : Int32) (x3 : Int32) (x4 : Int32) (x5 : Int32) (y8 : Int32) (y9 : Int32) (h : AH) (res : (Int32 × Int32 × AH) ⊕ ((Int32 × AH))) (hf : f_X12_tryTwo_L7_J51 x0 x1 x2 x3 x4 x5 y8 y9 h = some res) (K0 : ∀ (u7 : Int32) (u8 : Int32) (hu : AH), res = .inl (u7, u8, hu) → PT X 10 0 0 7 [(0, .ref x0), (1, .int x1), (2, .int x2), (3, .int x3), (4, .int x4), (5, .int x5), (7, .int u7), (8, .int u8)] [] hu) (K1 : ∀ (u7 : Int32) (hu : AH), res = .inr ((u7, hu)) → PT X 10 0 0 93 [(7, .int u7)] [] hu) : PT X 10 0 0 51 [(0, .ref x0), (1, .int x1), (2, .int x2), (3, .int x3), (4, .int x4), (5, .int x5), (8, .int y8), (9, .int y9)] [] h := by
  unfold f_X12_tryTwo_L7_J51 at hf
  refine pt_iload C 7 rfl dX12_tryTwo_51 ?_
  refine pt_istore C [(7, .int y9), (0, .ref x0), (1, .int x1), (2, .int x2), (3, .int x3), (4, .int x4), (5, .int x5), (8, .int y8), (9, .int y9)] (by decide) rfl dX12_tryTwo_53 ?_
  refine pt_aload_n C 1 rfl rfl dX12_tryTwo_55 ?_
  refine pt_iload C 5 rfl dX12_tryTwo_56 ?_
  refine ob hf (fun h6 g7 hf => ?_)
  refine pt_put C kX12 39 (by decide) tw_955 (Or.inl rfl) rfl rfl rfl g7 dX12_tryTwo_58 ?_
  refine pt_aload_n C 1 rfl rfl dX12_tryTwo_61 ?_
  refine pt_iload C 6 rfl dX12_tryTwo_62 ?_
  refine ob hf (fun h8 g9 hf => ?_)
  refine pt_put C kX12 40 (by decide) tw_956 (Or.inl rfl) rfl rfl rfl g9 dX12_tryTwo_64 ?_
  refine pt_aload_n C 1 rfl rfl dX12_tryTwo_67 ?_
  refine pt_iconst C (v := 1) (by decide) dX12_tryTwo_68 ?_
  refine pt_iload C 7 rfl dX12_tryTwo_69 ?_
  refine pt_iconst C (v := 3) (by decide) dX12_tryTwo_71 ?_
  refine pt_idiv C (by decide) dX12_tryTwo_72 ?_
  refine pt_iadd C dX12_tryTwo_73 ?_
  refine ob hf (fun h10 g11 hf => ?_)
  refine pt_put C kX12 41 (by decide) tw_957 (Or.inl rfl) rfl rfl rfl g11 dX12_tryTwo_74 ?_
  refine pt_aload_n C 1 rfl rfl dX12_tryTwo_77 ?_
  refine pt_iconst C (v := 1) (by decide) dX12_tryTwo_78 ?_
  refine pt_iload C 7 rfl dX12_tryTwo_79 ?_
  refine pt_iconst C (v := 3) (by decide) dX12_tryTwo_81 ?_
  refine pt_irem C (by decide) dX12_tryTwo_82 ?_
  refine pt_iadd C dX12_tryTwo_83 ?_
  refine ob hf (fun h12 g13 hf => ?_)
  refine pt_put C kX12 42 (by decide) tw_958 (Or.inl rfl) rfl rfl rfl g13 dX12_tryTwo_84 ?_
  refine pt_iinc C 7 [(8, .int (y8 + 1)), (7, .int y9), (0, .ref x0), (1, .int x1), (2, .int x2), (3, .int x3), (4, .int x4), (5, .int x5), (9, .int y9)] rfl (iinc_eq y8 (by decide)) (by decide) rfl dX12_tryTwo_87 ?_
  refine pt_goto C (tgt := 7) (by decide) dX12_tryTwo_90 ?_
  refine pt_sub C [(0, .ref x0), (1, .int x1), (2, .int x2), (3, .int x3), (4, .int x4), (5, .int x5), (7, .int y9), (8, .int (y8 + 1))] [2, 3, 4, 5, 6, 7, 1, 0] rfl ?_
  exact K0 _ _ _ (Option.some.inj hf).symm
set_option maxRecDepth 100000 in
set_option maxHeartbeats 4000000 in
theorem w_X12_tryTwo_L7 {X : MX} (C : CX X cX12_tryTwo 10 RX12 (some .int) rmX12_tryTwo) (x0 : Nat) (x1 : Int32) (x2 : Int32) (x3 : Int32) (x4 : Int32) (x5 : Int32) (s : Int32 × Int32 × AH) (res : (Int32 × Int32 × AH) ⊕ ((Int32 × AH))) (hf : f_X12_tryTwo_L7 x0 x1 x2 x3 x4 x5 s = some res) (K0 : ∀ (u7 : Int32) (u8 : Int32) (hu : AH), res = .inl (u7, u8, hu) → PT X 10 0 0 7 [(0, .ref x0), (1, .int x1), (2, .int x2), (3, .int x3), (4, .int x4), (5, .int x5), (7, .int u7), (8, .int u8)] [] hu) (K1 : ∀ (u7 : Int32) (hu : AH), res = .inr ((u7, hu)) → PT X 10 0 0 93 [(7, .int u7)] [] hu) : PT X 10 0 0 7 [(0, .ref x0), (1, .int x1), (2, .int x2), (3, .int x3), (4, .int x4), (5, .int x5), (7, .int s.1), (8, .int s.2.1)] [] s.2.2 := by
  unfold f_X12_tryTwo_L7 at hf
  refine pt_iload C 7 rfl dX12_tryTwo_7 ?_
  refine pt_bipush C (v := 9) (by decide) dX12_tryTwo_9 ?_
  refine pt_icmp_ge C (tgt := 93) (by decide) dX12_tryTwo_11 (fun c1 => ?_) (fun c1 => ?_)
  · rw [if_pos c1] at hf
    refine pt_sub C [(7, .int s.1)] [6] rfl ?_
    exact K1 _ _ (Option.some.inj hf).symm
  · rw [if_neg c1] at hf
    refine pt_aload_n C 0 rfl rfl dX12_tryTwo_14 ?_
    refine pt_iload_n C 1 rfl rfl dX12_tryTwo_15 ?_
    refine pt_iload_n C 2 rfl rfl dX12_tryTwo_16 ?_
    refine pt_iload_n C 3 rfl rfl dX12_tryTwo_17 ?_
    refine pt_iload C 4 rfl dX12_tryTwo_18 ?_
    refine pt_iconst C (v := 1) (by decide) dX12_tryTwo_20 ?_
    refine pt_iload C 7 rfl dX12_tryTwo_21 ?_
    refine pt_iconst C (v := 3) (by decide) dX12_tryTwo_23 ?_
    refine pt_idiv C (by decide) dX12_tryTwo_24 ?_
    refine pt_iadd C dX12_tryTwo_25 ?_
    refine pt_iload C 5 rfl dX12_tryTwo_26 ?_
    refine pt_iconst C (v := 1) (by decide) dX12_tryTwo_28 ?_
    refine pt_iload C 7 rfl dX12_tryTwo_29 ?_
    refine pt_iconst C (v := 3) (by decide) dX12_tryTwo_31 ?_
    refine pt_irem C (by decide) dX12_tryTwo_32 ?_
    refine pt_iadd C dX12_tryTwo_33 ?_
    refine ob hf (fun _ g4 hf => ?_)
    refine ob hf (fun q2 g3 hf => ?_)
    refine pt_callV C (As := [.int x1, .int x2, .int x3, .int x4, .int (1 + (s.2.1 / 3)), .int x5, .int (1 + (s.2.1 - s.2.1 / 3 * 3))]) (rest := []) (v := (some (.int q2.1))) (fun l => con_X12_sumOf l x0 x1 x2 x3 x4 (1 + (s.2.1 / 3)) x5 (1 + (s.2.1 - s.2.1 / 3 * 3)) s.2.2 _ g3) tw_1253 tw_1250 tw_1252 tp_36 kX12 g4 tw_13 yn_X12_sumOf (by decide) (Nat.le_of_ble_eq_true rfl) dX12_tryTwo_34 rfl ?_
    show PT X 10 0 0 37 [(0, .ref x0), (1, .int x1), (2, .int x2), (3, .int x3), (4, .int x4), (5, .int x5), (7, .int s.1), (8, .int s.2.1)] [.int q2.1] q2.2
    refine pt_istore C [(9, .int q2.1), (0, .ref x0), (1, .int x1), (2, .int x2), (3, .int x3), (4, .int x4), (5, .int x5), (7, .int s.1), (8, .int s.2.1)] (by decide) rfl dX12_tryTwo_37 ?_
    refine pt_iload C 7 rfl dX12_tryTwo_39 ?_
    refine pt_if_lt C (tgt := 51) (by decide) dX12_tryTwo_41 (fun c5 => ?_) (fun c5 => ?_)
    · rw [if_pos c5] at hf
      refine pt_sub C [(0, .ref x0), (1, .int x1), (2, .int x2), (3, .int x3), (4, .int x4), (5, .int x5), (8, .int s.2.1), (9, .int q2.1)] [1, 2, 3, 4, 5, 6, 8, 0] rfl ?_
      exact w_X12_tryTwo_L7_J51 C x0 x1 x2 x3 x4 x5 s.2.1 q2.1 q2.2 _ hf K0 K1
    · rw [if_neg c5] at hf
      refine pt_iload C 0 rfl dX12_tryTwo_44 ?_
      refine pt_iload C 7 rfl dX12_tryTwo_46 ?_
      refine pt_icmp_ge C (tgt := 87) (by decide) dX12_tryTwo_48 (fun c14 => ?_) (fun c14 => ?_)
      · rw [if_pos c14] at hf
        refine pt_iinc C 8 [(8, .int (s.2.1 + 1)), (9, .int q2.1), (0, .ref x0), (1, .int x1), (2, .int x2), (3, .int x3), (4, .int x4), (5, .int x5), (7, .int s.1)] rfl (iinc_eq s.2.1 (by decide)) (by decide) rfl dX12_tryTwo_87 ?_
        refine pt_goto C (tgt := 7) (by decide) dX12_tryTwo_90 ?_
        refine pt_sub C [(0, .ref x0), (1, .int x1), (2, .int x2), (3, .int x3), (4, .int x4), (5, .int x5), (7, .int s.1), (8, .int (s.2.1 + 1))] [2, 3, 4, 5, 6, 7, 8, 0] rfl ?_
        exact K0 _ _ _ (Option.some.inj hf).symm
      · rw [if_neg c14] at hf
        refine pt_sub C [(0, .ref x0), (1, .int x1), (2, .int x2), (3, .int x3), (4, .int x4), (5, .int x5), (8, .int s.2.1), (9, .int q2.1)] [1, 2, 3, 4, 5, 6, 8, 0] rfl ?_
        exact w_X12_tryTwo_L7_J51 C x0 x1 x2 x3 x4 x5 s.2.1 q2.1 q2.2 _ hf K0 K1
theorem l_X12_tryTwo_L7 {X : MX} (C : CX X cX12_tryTwo 10 RX12 (some .int) rmX12_tryTwo) (x0 : Nat) (x1 : Int32) (x2 : Int32) (x3 : Int32) (x4 : Int32) (x5 : Int32) : ∀ (n : Nat) (s : Int32 × Int32 × AH) (r : (Int32 × AH)), iter (f_X12_tryTwo_L7 x0 x1 x2 x3 x4 x5) n s = some r → (fun r : (Int32 × AH) => PT X 10 0 0 93 [(7, .int r.1)] [] r.2) r → PT X 10 0 0 7 [(0, .ref x0), (1, .int x1), (2, .int x2), (3, .int x3), (4, .int x4), (5, .int x5), (7, .int s.1), (8, .int s.2.1)] [] s.2.2 :=
  iter_W (fun s : Int32 × Int32 × AH => PT X 10 0 0 7 [(0, .ref x0), (1, .int x1), (2, .int x2), (3, .int x3), (4, .int x4), (5, .int x5), (7, .int s.1), (8, .int s.2.1)] [] s.2.2) (fun r : (Int32 × AH) => PT X 10 0 0 93 [(7, .int r.1)] [] r.2) _ (fun s s2 hf P => w_X12_tryTwo_L7 C x0 x1 x2 x3 x4 x5 s _ hf (fun u7 u8 hu e => by cases e; exact P) (fun u7 hu e => by cases e)) (fun s r hf P => w_X12_tryTwo_L7 C x0 x1 x2 x3 x4 x5 s _ hf (fun u7 u8 hu e => by cases e) (fun u7 hu e => by cases e; exact P))
set_option maxRecDepth 100000 in
set_option maxHeartbeats 4000000 in
theorem w_X12_tryTwo_0 {X : MX} (C : CX X cX12_tryTwo 10 RX12 (some .int) rmX12_tryTwo) (a0 : Nat) (a1 : Int32) (a2 : Int32) (a3 : Int32) (a4 : Int32) (a5 : Int32) (a6 : Int32) (h : AH) (res : Int32 × AH) (hf : f_X12_tryTwo a0 a1 a2 a3 a4 a5 a6 h = some res) (K : ∀ (v : Int32) (h2 : AH), res = (v, h2) → PR X rmX12_tryTwo (some (.int v)) h2) : PT X 10 0 0 0 [(0, .ref a0), (1, .int a1), (2, .int a2), (3, .int a3), (4, .int a4), (5, .int a5), (6, .int a6)] [] h := by
  unfold f_X12_tryTwo at hf
  refine pt_iload C 6 rfl dX12_tryTwo_0 ?_
  refine pt_istore C [(7, .int a6), (0, .ref a0), (1, .int a1), (2, .int a2), (3, .int a3), (4, .int a4), (5, .int a5), (6, .int a6)] (by decide) rfl dX12_tryTwo_2 ?_
  refine pt_iconst C (v := 0) (by decide) dX12_tryTwo_4 ?_
  refine pt_istore C [(8, .int 0), (7, .int a6), (0, .ref a0), (1, .int a1), (2, .int a2), (3, .int a3), (4, .int a4), (5, .int a5), (6, .int a6)] (by decide) rfl dX12_tryTwo_5 ?_
  refine pt_sub C [(0, .ref a0), (1, .int a1), (2, .int a2), (3, .int a3), (4, .int a4), (5, .int a5), (7, .int a6), (8, .int 0)] [2, 3, 4, 5, 6, 7, 1, 0] rfl ?_
  refine ob hf (fun e15 g16 hf => ?_)
  refine l_X12_tryTwo_L7 C a0 a1 a2 a3 a4 a5 _ _ _ g16 ?_
  refine pt_iload C 0 rfl dX12_tryTwo_93 ?_
  exact pt_iret C (K _ _ (Option.some.inj hf).symm) (by decide) (by decide) dX12_tryTwo_95
theorem con_X12_tryTwo (l : Launch) (a0 : Nat) (a1 : Int32) (a2 : Int32) (a3 : Int32) (a4 : Int32) (a5 : Int32) (a6 : Int32) (h : AH) (q : Int32 × AH) (hf : f_X12_tryTwo a0 a1 a2 a3 a4 a5 a6 h = some q) : Con l yX12_tryTwo cX12_tryTwo 10 (some .int) rmX12_tryTwo [.ref a0, .int a1, .int a2, .int a3, .int a4, .int a5, .int a6] h (some (.int q.1)) q.2 := Con.of (by decide +kernel) (Nat.le_of_ble_eq_true rfl) (fun X C I K => w_X12_tryTwo_0 C a0 a1 a2 a3 a4 a5 a6 h q hf (fun v h2 e => by cases e; exact K))
abbrev rmX12_two : Room := { frames := 4, cells := 0, slots := 0, locals := 112 }
theorem yn_X12_two : YN yX12_two 4 := by refine ⟨?_, ?_, ?_⟩ <;> decide +kernel
set_option maxRecDepth 100000 in
set_option maxHeartbeats 4000000 in
theorem w_X12_two_L54 {X : MX} (C : CX X cX12_two 8 RX12 (some .int) rmX12_two) (x0 : Nat) (x1 : Int32) (x2 : Int32) (x3 : Int32) (x4 : Int32) (x6 : Int32) (s : Int32 × Int32 × AH) (res : (Int32 × Int32 × AH) ⊕ ((Int32 × AH))) (hf : f_X12_two_L54 x0 x1 x2 x3 x4 x6 s = some res) (K0 : ∀ (u5 : Int32) (u7 : Int32) (hu : AH), res = .inl (u5, u7, hu) → PT X 8 0 0 54 [(0, .ref x0), (1, .int x1), (2, .int x2), (3, .int x3), (4, .int x4), (5, .int u5), (6, .int x6), (7, .int u7)] [] hu) (K1 : ∀ (u5 : Int32) (hu : AH), res = .inr ((u5, hu)) → PT X 8 0 0 107 [(0, .ref x0), (1, .int x1), (2, .int x2), (3, .int x3), (4, .int x4), (5, .int u5), (6, .int x6)] [] hu) : PT X 8 0 0 54 [(0, .ref x0), (1, .int x1), (2, .int x2), (3, .int x3), (4, .int x4), (5, .int s.1), (6, .int x6), (7, .int s.2.1)] [] s.2.2 := by
  unfold f_X12_two_L54 at hf
  refine pt_iload C 7 rfl dX12_two_54 ?_
  refine pt_aload_n C 0 rfl rfl dX12_two_56 ?_
  refine ob hf (fun v14 g15 hf => ?_)
  refine pt_getI C kX12 7 (by decide) tw_923 (Or.inl rfl) g15 dX12_two_57 ?_
  refine pt_icmp_ge C (tgt := 107) (by decide) dX12_two_60 (fun c16 => ?_) (fun c16 => ?_)
  · rw [if_pos c16] at hf
    refine pt_sub C [(0, .ref x0), (1, .int x1), (2, .int x2), (3, .int x3), (4, .int x4), (5, .int s.1), (6, .int x6)] [0, 1, 2, 3, 4, 5, 6] rfl ?_
    exact K1 _ _ (Option.some.inj hf).symm
  · rw [if_neg c16] at hf
    refine pt_aload_n C 0 rfl rfl dX12_two_63 ?_
    refine pt_iload C 6 rfl dX12_two_64 ?_
    refine ob hf (fun _ g19 hf => ?_)
    refine ob hf (fun q17 g18 hf => ?_)
    refine pt_callV C (As := [.int x6]) (rest := []) (v := (some (.int q17.1))) (fun l => con_X12_isOf l x0 x6 s.2.2 _ g18) tw_1257 tw_1254 tw_1256 tp_37 kX12 g19 tw_13 yn_X12_isOf (by decide) (Nat.le_of_ble_eq_true rfl) dX12_two_66 rfl ?_
    show PT X 8 0 0 69 [(0, .ref x0), (1, .int x1), (2, .int x2), (3, .int x3), (4, .int x4), (5, .int s.1), (6, .int x6), (7, .int s.2.1)] [.int q17.1] q17.2
    refine pt_if_eq C (tgt := 97) (by decide) dX12_two_69 (fun c20 => ?_) (fun c20 => ?_)
    · rw [if_pos c20] at hf
      refine pt_iload C 5 rfl dX12_two_97 ?_
      refine pt_istore C [(5, .int s.1), (0, .ref x0), (1, .int x1), (2, .int x2), (3, .int x3), (4, .int x4), (6, .int x6), (7, .int s.2.1)] (by decide) rfl dX12_two_99 ?_
      refine pt_iinc C 7 [(7, .int (s.2.1 + 1)), (5, .int s.1), (0, .ref x0), (1, .int x1), (2, .int x2), (3, .int x3), (4, .int x4), (6, .int x6)] rfl (iinc_eq s.2.1 (by decide)) (by decide) rfl dX12_two_101 ?_
      refine pt_goto C (tgt := 54) (by decide) dX12_two_104 ?_
      refine pt_sub C [(0, .ref x0), (1, .int x1), (2, .int x2), (3, .int x3), (4, .int x4), (5, .int s.1), (6, .int x6), (7, .int (s.2.1 + 1))] [2, 3, 4, 5, 6, 1, 7, 0] rfl ?_
      exact K0 _ _ _ (Option.some.inj hf).symm
    · rw [if_neg c20] at hf
      refine pt_aload_n C 0 rfl rfl dX12_two_72 ?_
      refine pt_iload C 7 rfl dX12_two_73 ?_
      refine ob hf (fun _ g23 hf => ?_)
      refine ob hf (fun q21 g22 hf => ?_)
      refine pt_callV C (As := [.int s.2.1]) (rest := []) (v := (some (.int q21.1))) (fun l => con_X12_isOf l x0 s.2.1 q17.2 _ g22) tw_1257 tw_1254 tw_1256 tp_37 kX12 g23 tw_13 yn_X12_isOf (by decide) (Nat.le_of_ble_eq_true rfl) dX12_two_75 rfl ?_
      show PT X 8 0 0 78 [(0, .ref x0), (1, .int x1), (2, .int x2), (3, .int x3), (4, .int x4), (5, .int s.1), (6, .int x6), (7, .int s.2.1)] [.int q21.1] q21.2
      refine pt_if_eq C (tgt := 97) (by decide) dX12_two_78 (fun c24 => ?_) (fun c24 => ?_)
      · rw [if_pos c24] at hf
        refine pt_iload C 5 rfl dX12_two_97 ?_
        refine pt_istore C [(5, .int s.1), (0, .ref x0), (1, .int x1), (2, .int x2), (3, .int x3), (4, .int x4), (6, .int x6), (7, .int s.2.1)] (by decide) rfl dX12_two_99 ?_
        refine pt_iinc C 7 [(7, .int (s.2.1 + 1)), (5, .int s.1), (0, .ref x0), (1, .int x1), (2, .int x2), (3, .int x3), (4, .int x4), (6, .int x6)] rfl (iinc_eq s.2.1 (by decide)) (by decide) rfl dX12_two_101 ?_
        refine pt_goto C (tgt := 54) (by decide) dX12_two_104 ?_
        refine pt_sub C [(0, .ref x0), (1, .int x1), (2, .int x2), (3, .int x3), (4, .int x4), (5, .int s.1), (6, .int x6), (7, .int (s.2.1 + 1))] [2, 3, 4, 5, 6, 1, 7, 0] rfl ?_
        exact K0 _ _ _ (Option.some.inj hf).symm
      · rw [if_neg c24] at hf
        refine pt_aload_n C 0 rfl rfl dX12_two_81 ?_
        refine pt_iload_n C 1 rfl rfl dX12_two_82 ?_
        refine pt_iload_n C 2 rfl rfl dX12_two_83 ?_
        refine pt_iload_n C 3 rfl rfl dX12_two_84 ?_
        refine pt_iload C 6 rfl dX12_two_85 ?_
        refine pt_iload C 7 rfl dX12_two_87 ?_
        refine pt_iload C 5 rfl dX12_two_89 ?_
        refine ob hf (fun _ g27 hf => ?_)
        refine ob hf (fun q25 g26 hf => ?_)
        refine pt_callV C (As := [.int x1, .int x2, .int x3, .int x6, .int s.2.1, .int s.1]) (rest := []) (v := (some (.int q25.1))) (fun l => con_X12_tryTwo l x0 x1 x2 x3 x6 s.2.1 s.1 q21.2 _ g26) tw_1266 tw_1263 tw_1265 tp_38 kX12 g27 tw_13 yn_X12_tryTwo (by decide) (Nat.le_of_ble_eq_true rfl) dX12_two_91 rfl ?_
        show PT X 8 0 0 94 [(0, .ref x0), (1, .int x1), (2, .int x2), (3, .int x3), (4, .int x4), (5, .int s.1), (6, .int x6), (7, .int s.2.1)] [.int q25.1] q25.2
        refine pt_goto C (tgt := 99) (by decide) dX12_two_94 ?_
        refine pt_istore C [(5, .int q25.1), (0, .ref x0), (1, .int x1), (2, .int x2), (3, .int x3), (4, .int x4), (6, .int x6), (7, .int s.2.1)] (by decide) rfl dX12_two_99 ?_
        refine pt_iinc C 7 [(7, .int (s.2.1 + 1)), (5, .int q25.1), (0, .ref x0), (1, .int x1), (2, .int x2), (3, .int x3), (4, .int x4), (6, .int x6)] rfl (iinc_eq s.2.1 (by decide)) (by decide) rfl dX12_two_101 ?_
        refine pt_goto C (tgt := 54) (by decide) dX12_two_104 ?_
        refine pt_sub C [(0, .ref x0), (1, .int x1), (2, .int x2), (3, .int x3), (4, .int x4), (5, .int q25.1), (6, .int x6), (7, .int (s.2.1 + 1))] [2, 3, 4, 5, 6, 1, 7, 0] rfl ?_
        exact K0 _ _ _ (Option.some.inj hf).symm
theorem l_X12_two_L54 {X : MX} (C : CX X cX12_two 8 RX12 (some .int) rmX12_two) (x0 : Nat) (x1 : Int32) (x2 : Int32) (x3 : Int32) (x4 : Int32) (x6 : Int32) : ∀ (n : Nat) (s : Int32 × Int32 × AH) (r : (Int32 × AH)), iter (f_X12_two_L54 x0 x1 x2 x3 x4 x6) n s = some r → (fun r : (Int32 × AH) => PT X 8 0 0 107 [(0, .ref x0), (1, .int x1), (2, .int x2), (3, .int x3), (4, .int x4), (5, .int r.1), (6, .int x6)] [] r.2) r → PT X 8 0 0 54 [(0, .ref x0), (1, .int x1), (2, .int x2), (3, .int x3), (4, .int x4), (5, .int s.1), (6, .int x6), (7, .int s.2.1)] [] s.2.2 :=
  iter_W (fun s : Int32 × Int32 × AH => PT X 8 0 0 54 [(0, .ref x0), (1, .int x1), (2, .int x2), (3, .int x3), (4, .int x4), (5, .int s.1), (6, .int x6), (7, .int s.2.1)] [] s.2.2) (fun r : (Int32 × AH) => PT X 8 0 0 107 [(0, .ref x0), (1, .int x1), (2, .int x2), (3, .int x3), (4, .int x4), (5, .int r.1), (6, .int x6)] [] r.2) _ (fun s s2 hf P => w_X12_two_L54 C x0 x1 x2 x3 x4 x6 s _ hf (fun u5 u7 hu e => by cases e; exact P) (fun u5 hu e => by cases e)) (fun s r hf P => w_X12_two_L54 C x0 x1 x2 x3 x4 x6 s _ hf (fun u5 u7 hu e => by cases e) (fun u5 hu e => by cases e; exact P))
set_option maxRecDepth 100000 in
set_option maxHeartbeats 4000000 in
theorem w_X12_two_L39 {X : MX} (C : CX X cX12_two 8 RX12 (some .int) rmX12_two) (x0 : Nat) (x1 : Int32) (x2 : Int32) (x3 : Int32) (x4 : Int32) (s : Int32 × Int32 × AH) (res : (Int32 × Int32 × AH) ⊕ ((Int32 × AH))) (hf : f_X12_two_L39 x0 x1 x2 x3 x4 s = some res) (K0 : ∀ (u5 : Int32) (u6 : Int32) (hu : AH), res = .inl (u5, u6, hu) → PT X 8 0 0 39 [(0, .ref x0), (1, .int x1), (2, .int x2), (3, .int x3), (4, .int x4), (5, .int u5), (6, .int u6)] [] hu) (K1 : ∀ (u5 : Int32) (hu : AH), res = .inr ((u5, hu)) → PT X 8 0 0 113 [(0, .ref x0), (4, .int x4), (5, .int u5)] [] hu) : PT X 8 0 0 39 [(0, .ref x0), (1, .int x1), (2, .int x2), (3, .int x3), (4, .int x4), (5, .int s.1), (6, .int s.2.1)] [] s.2.2 := by
  unfold f_X12_two_L39 at hf
  refine pt_iload C 6 rfl dX12_two_39 ?_
  refine pt_aload_n C 0 rfl rfl dX12_two_41 ?_
  refine ob hf (fun v11 g12 hf => ?_)
  refine pt_getI C kX12 7 (by decide) tw_923 (Or.inl rfl) g12 dX12_two_42 ?_
  refine pt_icmp_ge C (tgt := 113) (by decide) dX12_two_45 (fun c13 => ?_) (fun c13 => ?_)
  · rw [if_pos c13] at hf
    refine pt_sub C [(0, .ref x0), (4, .int x4), (5, .int s.1)] [0, 4, 5] rfl ?_
    exact K1 _ _ (Option.some.inj hf).symm
  · rw [if_neg c13] at hf
    refine pt_iload C 6 rfl dX12_two_48 ?_
    refine pt_iconst C (v := 1) (by decide) dX12_two_50 ?_
    refine pt_iadd C dX12_two_51 ?_
    refine pt_istore C [(7, .int (s.2.1 + 1)), (0, .ref x0), (1, .int x1), (2, .int x2), (3, .int x3), (4, .int x4), (5, .int s.1), (6, .int s.2.1)] (by decide) rfl dX12_two_52 ?_
    refine pt_sub C [(0, .ref x0), (1, .int x1), (2, .int x2), (3, .int x3), (4, .int x4), (5, .int s.1), (6, .int s.2.1), (7, .int (s.2.1 + 1))] [1, 2, 3, 4, 5, 6, 7, 0] rfl ?_
    refine ob hf (fun e28 g29 hf => ?_)
    refine l_X12_two_L54 C x0 x1 x2 x3 x4 s.2.1 _ _ _ g29 ?_
    refine pt_iinc C 6 [(6, .int (s.2.1 + 1)), (0, .ref x0), (1, .int x1), (2, .int x2), (3, .int x3), (4, .int x4), (5, .int e28.1)] rfl (iinc_eq s.2.1 (by decide)) (by decide) rfl dX12_two_107 ?_
    refine pt_goto C (tgt := 39) (by decide) dX12_two_110 ?_
    refine pt_sub C [(0, .ref x0), (1, .int x1), (2, .int x2), (3, .int x3), (4, .int x4), (5, .int e28.1), (6, .int (s.2.1 + 1))] [1, 2, 3, 4, 5, 6, 0] rfl ?_
    exact K0 _ _ _ (Option.some.inj hf).symm
theorem l_X12_two_L39 {X : MX} (C : CX X cX12_two 8 RX12 (some .int) rmX12_two) (x0 : Nat) (x1 : Int32) (x2 : Int32) (x3 : Int32) (x4 : Int32) : ∀ (n : Nat) (s : Int32 × Int32 × AH) (r : (Int32 × AH)), iter (f_X12_two_L39 x0 x1 x2 x3 x4) n s = some r → (fun r : (Int32 × AH) => PT X 8 0 0 113 [(0, .ref x0), (4, .int x4), (5, .int r.1)] [] r.2) r → PT X 8 0 0 39 [(0, .ref x0), (1, .int x1), (2, .int x2), (3, .int x3), (4, .int x4), (5, .int s.1), (6, .int s.2.1)] [] s.2.2 :=
  iter_W (fun s : Int32 × Int32 × AH => PT X 8 0 0 39 [(0, .ref x0), (1, .int x1), (2, .int x2), (3, .int x3), (4, .int x4), (5, .int s.1), (6, .int s.2.1)] [] s.2.2) (fun r : (Int32 × AH) => PT X 8 0 0 113 [(0, .ref x0), (4, .int x4), (5, .int r.1)] [] r.2) _ (fun s s2 hf P => w_X12_two_L39 C x0 x1 x2 x3 x4 s _ hf (fun u5 u6 hu e => by cases e; exact P) (fun u5 hu e => by cases e)) (fun s r hf P => w_X12_two_L39 C x0 x1 x2 x3 x4 s _ hf (fun u5 u6 hu e => by cases e) (fun u5 hu e => by cases e; exact P))
set_option maxRecDepth 100000 in
set_option maxHeartbeats 4000000 in
theorem w_X12_two_0 {X : MX} (C : CX X cX12_two 8 RX12 (some .int) rmX12_two) (a0 : Nat) (a1 : Int32) (a2 : Int32) (a3 : Int32) (a4 : Int32) (h : AH) (res : Int32 × AH) (hf : f_X12_two a0 a1 a2 a3 a4 h = some res) (K : ∀ (v : Int32) (h2 : AH), res = (v, h2) → PR X rmX12_two (some (.int v)) h2) : PT X 8 0 0 0 [(0, .ref a0), (1, .int a1), (2, .int a2), (3, .int a3), (4, .int a4)] [] h := by
  unfold f_X12_two at hf
  refine pt_aload_n C 0 rfl rfl dX12_two_0 ?_
  refine pt_iload_n C 1 rfl rfl dX12_two_1 ?_
  refine ob hf (fun _ g3 hf => ?_)
  refine ob hf (fun q1 g2 hf => ?_)
  refine pt_callV C (As := [.int a1]) (rest := []) (v := (some (.int q1.1))) (fun l => con_X12_noSong l a0 a1 h _ g2) tw_1081 tw_1078 tw_1080 tp_22 kX12 g3 tw_13 yn_X12_noSong (by decide) (Nat.le_of_ble_eq_true rfl) dX12_two_2 rfl ?_
  show PT X 8 0 0 5 [(0, .ref a0), (1, .int a1), (2, .int a2), (3, .int a3), (4, .int a4)] [.int q1.1] q1.2
  refine pt_if_ne C (tgt := 30) (by decide) dX12_two_5 (fun c4 => ?_) (fun c4 => ?_)
  · rw [if_neg c4] at hf
    refine pt_bipush C (v := (-2)) (by decide) dX12_two_30 ?_
    exact pt_iret C (K _ _ (Option.some.inj hf).symm) (by decide) (by decide) dX12_two_32
  · rw [if_pos c4] at hf
    refine pt_iconst C (v := 1) (by decide) dX12_two_8 ?_
    refine pt_iload_n C 2 rfl rfl dX12_two_9 ?_
    refine pt_iload_n C 3 rfl rfl dX12_two_10 ?_
    refine ob hf (fun q5 g6 hf => ?_)
    refine pt_callS C (As := [.int 1, .int a2, .int a3]) (rest := []) (v := (some (.int q5.1))) (fun l => con_X12_isTask l 1 a2 a3 q1.2 _ g6) tw_1134 tw_1132 tw_1133 tw_13 yn_X12_isTask (by decide) (Nat.le_of_ble_eq_true rfl) dX12_two_11 rfl ?_
    show PT X 8 0 0 14 [(0, .ref a0), (1, .int a1), (2, .int a2), (3, .int a3), (4, .int a4)] [.int q5.1] q5.2
    refine pt_if_eq C (tgt := 30) (by decide) dX12_two_14 (fun c7 => ?_) (fun c7 => ?_)
    · rw [if_pos c7] at hf
      refine pt_bipush C (v := (-2)) (by decide) dX12_two_30 ?_
      exact pt_iret C (K _ _ (Option.some.inj hf).symm) (by decide) (by decide) dX12_two_32
    · rw [if_neg c7] at hf
      refine pt_iload C 4 rfl dX12_two_17 ?_
      refine pt_i2l C dX12_two_19 ?_
      refine pt_lconst C (v := 0) (by decide) dX12_two_20 ?_
      refine pt_ldc2 C tw_1262 dX12_two_21 ?_
      refine ob hf (fun q8 g9 hf => ?_)
      refine pt_callS C (As := [.long a4.toInt64, .long 0, .long 4]) (rest := []) (v := (some (.int q8.1))) (fun l => con_X12_in l a4.toInt64 0 4 q5.2 _ g9) tw_1065 tw_1063 tw_1064 tw_13 yn_X12_in (by decide) (Nat.le_of_ble_eq_true rfl) dX12_two_24 rfl ?_
      show PT X 8 0 0 27 [(0, .ref a0), (1, .int a1), (2, .int a2), (3, .int a3), (4, .int a4)] [.int q8.1] q8.2
      refine pt_if_ne C (tgt := 33) (by decide) dX12_two_27 (fun c10 => ?_) (fun c10 => ?_)
      · rw [if_neg c10] at hf
        refine pt_iconst C (v := (-1)) (by decide) dX12_two_33 ?_
        refine pt_istore C [(5, .int (-1)), (0, .ref a0), (1, .int a1), (2, .int a2), (3, .int a3), (4, .int a4)] (by decide) rfl dX12_two_34 ?_
        refine pt_iconst C (v := 0) (by decide) dX12_two_36 ?_
        refine pt_istore C [(6, .int 0), (5, .int (-1)), (0, .ref a0), (1, .int a1), (2, .int a2), (3, .int a3), (4, .int a4)] (by decide) rfl dX12_two_37 ?_
        refine pt_sub C [(0, .ref a0), (1, .int a1), (2, .int a2), (3, .int a3), (4, .int a4), (5, .int (-1)), (6, .int 0)] [2, 3, 4, 5, 6, 1, 0] rfl ?_
        refine ob hf (fun e30 g31 hf => ?_)
        refine l_X12_two_L39 C a0 a1 a2 a3 a4 _ _ _ g31 ?_
        refine pt_iload C 2 rfl dX12_two_113 ?_
        refine pt_if_ge C (tgt := 122) (by decide) dX12_two_115 (fun c32 => ?_) (fun c32 => ?_)
        · rw [if_pos c32] at hf
          refine pt_iload C 1 rfl dX12_two_122 ?_
          refine pt_if_ne C (tgt := 134) (by decide) dX12_two_124 (fun c33 => ?_) (fun c33 => ?_)
          · rw [if_neg c33] at hf
            refine pt_iload C 1 rfl dX12_two_134 ?_
            refine pt_iconst C (v := 1) (by decide) dX12_two_136 ?_
            refine pt_icmp_ne C (tgt := 147) (by decide) dX12_two_137 (fun c34 => ?_) (fun c34 => ?_)
            · rw [if_neg c34] at hf
              refine pt_iload C 1 rfl dX12_two_147 ?_
              refine pt_iconst C (v := 2) (by decide) dX12_two_149 ?_
              refine pt_icmp_ne C (tgt := 160) (by decide) dX12_two_150 (fun c35 => ?_) (fun c35 => ?_)
              · rw [if_neg c35] at hf
                refine pt_iload C 1 rfl dX12_two_160 ?_
                refine pt_iconst C (v := 3) (by decide) dX12_two_162 ?_
                refine pt_icmp_ne C (tgt := 173) (by decide) dX12_two_163 (fun c36 => ?_) (fun c36 => ?_)
                · rw [if_neg c36] at hf
                  refine pt_iload C 2 rfl dX12_two_173 ?_
                  exact pt_iret C (K _ _ (Option.some.inj hf).symm) (by decide) (by decide) dX12_two_175
                · rw [if_pos c36] at hf
                  refine pt_aload_n C 0 rfl rfl dX12_two_166 ?_
                  refine ob hf (fun v37 g38 hf => ?_)
                  refine pt_getI C kX12 42 (by decide) tw_958 (Or.inl rfl) g38 dX12_two_167 ?_
                  refine pt_goto C (tgt := 175) (by decide) dX12_two_170 ?_
                  exact pt_iret C (K _ _ (Option.some.inj hf).symm) (by decide) (by decide) dX12_two_175
              · rw [if_pos c35] at hf
                refine pt_aload_n C 0 rfl rfl dX12_two_153 ?_
                refine ob hf (fun v39 g40 hf => ?_)
                refine pt_getI C kX12 41 (by decide) tw_957 (Or.inl rfl) g40 dX12_two_154 ?_
                refine pt_goto C (tgt := 175) (by decide) dX12_two_157 ?_
                exact pt_iret C (K _ _ (Option.some.inj hf).symm) (by decide) (by decide) dX12_two_175
            · rw [if_pos c34] at hf
              refine pt_aload_n C 0 rfl rfl dX12_two_140 ?_
              refine ob hf (fun v41 g42 hf => ?_)
              refine pt_getI C kX12 40 (by decide) tw_956 (Or.inl rfl) g42 dX12_two_141 ?_
              refine pt_goto C (tgt := 175) (by decide) dX12_two_144 ?_
              exact pt_iret C (K _ _ (Option.some.inj hf).symm) (by decide) (by decide) dX12_two_175
          · rw [if_pos c33] at hf
            refine pt_aload_n C 0 rfl rfl dX12_two_127 ?_
            refine ob hf (fun v43 g44 hf => ?_)
            refine pt_getI C kX12 39 (by decide) tw_955 (Or.inl rfl) g44 dX12_two_128 ?_
            refine pt_goto C (tgt := 175) (by decide) dX12_two_131 ?_
            exact pt_iret C (K _ _ (Option.some.inj hf).symm) (by decide) (by decide) dX12_two_175
        · rw [if_neg c32] at hf
          refine pt_iconst C (v := (-1)) (by decide) dX12_two_118 ?_
          refine pt_goto C (tgt := 175) (by decide) dX12_two_119 ?_
          exact pt_iret C (K _ _ (Option.some.inj hf).symm) (by decide) (by decide) dX12_two_175
      · rw [if_pos c10] at hf
        refine pt_bipush C (v := (-2)) (by decide) dX12_two_30 ?_
        exact pt_iret C (K _ _ (Option.some.inj hf).symm) (by decide) (by decide) dX12_two_32
theorem con_X12_two (l : Launch) (a0 : Nat) (a1 : Int32) (a2 : Int32) (a3 : Int32) (a4 : Int32) (h : AH) (q : Int32 × AH) (hf : f_X12_two a0 a1 a2 a3 a4 h = some q) : Con l yX12_two cX12_two 8 (some .int) rmX12_two [.ref a0, .int a1, .int a2, .int a3, .int a4] h (some (.int q.1)) q.2 := Con.of (by decide +kernel) (Nat.le_of_ble_eq_true rfl) (fun X C I K => w_X12_two_0 C a0 a1 a2 a3 a4 h q hf (fun v h2 e => by cases e; exact K))
abbrev rmX12_who : Room := { frames := 3, cells := 0, slots := 0, locals := 83 }
theorem yn_X12_who : YN yX12_who 4 := by refine ⟨?_, ?_, ?_⟩ <;> decide +kernel
set_option maxRecDepth 100000 in
set_option maxHeartbeats 4000000 in
theorem w_X12_who_L71 {X : MX} (C : CX X cX12_who 9 RX12 (some .int) rmX12_who) (x0 : Nat) (x1 : Int32) (x2 : Int32) (x3 : Int32) (x4 : Int32) (x6 : Int32) (s : Int32 × Int32 × AH) (res : (Int32 × Int32 × AH) ⊕ ((Int32 × AH))) (hf : f_X12_who_L71 x0 x1 x2 x3 x4 x6 s = some res) (K0 : ∀ (u5 : Int32) (u7 : Int32) (hu : AH), res = .inl (u5, u7, hu) → PT X 9 0 0 71 [(0, .ref x0), (1, .int x1), (2, .int x2), (3, .int x3), (4, .int x4), (5, .int u5), (6, .int x6), (7, .int u7)] [] hu) (K1 : ∀ (u5 : Int32) (hu : AH), res = .inr ((u5, hu)) → PT X 9 0 0 130 [(0, .ref x0), (1, .int x1), (2, .int x2), (3, .int x3), (4, .int x4), (5, .int u5), (6, .int x6)] [] hu) : PT X 9 0 0 71 [(0, .ref x0), (1, .int x1), (2, .int x2), (3, .int x3), (4, .int x4), (5, .int s.1), (6, .int x6), (7, .int s.2.1)] [] s.2.2 := by
  unfold f_X12_who_L71 at hf
  refine pt_iload C 7 rfl dX12_who_71 ?_
  refine pt_iconst C (v := 4) (by decide) dX12_who_73 ?_
  refine pt_icmp_ge C (tgt := 130) (by decide) dX12_who_74 (fun c21 => ?_) (fun c21 => ?_)
  · rw [if_pos c21] at hf
    refine pt_sub C [(0, .ref x0), (1, .int x1), (2, .int x2), (3, .int x3), (4, .int x4), (5, .int s.1), (6, .int x6)] [0, 1, 2, 3, 4, 5, 6] rfl ?_
    exact K1 _ _ (Option.some.inj hf).symm
  · rw [if_neg c21] at hf
    refine pt_aload_n C 0 rfl rfl dX12_who_77 ?_
    refine pt_iload C 6 rfl dX12_who_78 ?_
    refine ob hf (fun _ g24 hf => ?_)
    refine ob hf (fun q22 g23 hf => ?_)
    refine pt_callV C (As := [.int x6]) (rest := []) (v := (some (.int q22.1))) (fun l => con_X12_isOf l x0 x6 s.2.2 _ g23) tw_1257 tw_1254 tw_1256 tp_37 kX12 g24 tw_13 yn_X12_isOf (by decide) (Nat.le_of_ble_eq_true rfl) dX12_who_80 rfl ?_
    show PT X 9 0 0 83 [(0, .ref x0), (1, .int x1), (2, .int x2), (3, .int x3), (4, .int x4), (5, .int s.1), (6, .int x6), (7, .int s.2.1)] [.int q22.1] q22.2
    refine pt_if_eq C (tgt := 130) (by decide) dX12_who_83 (fun c25 => ?_) (fun c25 => ?_)
    · rw [if_pos c25] at hf
      refine pt_sub C [(0, .ref x0), (1, .int x1), (2, .int x2), (3, .int x3), (4, .int x4), (5, .int s.1), (6, .int x6)] [0, 1, 2, 3, 4, 5, 6] rfl ?_
      exact K1 _ _ (Option.some.inj hf).symm
    · rw [if_neg c25] at hf
      refine pt_aload_n C 0 rfl rfl dX12_who_86 ?_
      refine pt_iload_n C 1 rfl rfl dX12_who_87 ?_
      refine pt_iload_n C 2 rfl rfl dX12_who_88 ?_
      refine pt_iload_n C 3 rfl rfl dX12_who_89 ?_
      refine pt_iload C 6 rfl dX12_who_90 ?_
      refine pt_iload C 7 rfl dX12_who_92 ?_
      refine pt_iconst C (v := (-1)) (by decide) dX12_who_94 ?_
      refine pt_iconst C (v := 0) (by decide) dX12_who_95 ?_
      refine ob hf (fun _ g28 hf => ?_)
      refine ob hf (fun q26 g27 hf => ?_)
      refine pt_callV C (As := [.int x1, .int x2, .int x3, .int x6, .int s.2.1, .int (-1), .int 0]) (rest := []) (v := (some (.int q26.1))) (fun l => con_X12_sumOf l x0 x1 x2 x3 x6 s.2.1 (-1) 0 q22.2 _ g27) tw_1253 tw_1250 tw_1252 tp_36 kX12 g28 tw_13 yn_X12_sumOf (by decide) (Nat.le_of_ble_eq_true rfl) dX12_who_96 rfl ?_
      show PT X 9 0 0 99 [(0, .ref x0), (1, .int x1), (2, .int x2), (3, .int x3), (4, .int x4), (5, .int s.1), (6, .int x6), (7, .int s.2.1)] [.int q26.1] q26.2
      refine pt_istore C [(8, .int q26.1), (0, .ref x0), (1, .int x1), (2, .int x2), (3, .int x3), (4, .int x4), (5, .int s.1), (6, .int x6), (7, .int s.2.1)] (by decide) rfl dX12_who_99 ?_
      refine pt_iload C 0 rfl dX12_who_101 ?_
      refine pt_iload C 6 rfl dX12_who_103 ?_
      refine pt_icmp_ge C (tgt := 124) (by decide) dX12_who_105 (fun c29 => ?_) (fun c29 => ?_)
      · rw [if_pos c29] at hf
        refine pt_iinc C 8 [(7, .int (s.2.1 + 1)), (8, .int q26.1), (0, .ref x0), (1, .int x1), (2, .int x2), (3, .int x3), (4, .int x4), (5, .int s.1), (6, .int x6)] rfl (iinc_eq s.2.1 (by decide)) (by decide) rfl dX12_who_124 ?_
        refine pt_goto C (tgt := 71) (by decide) dX12_who_127 ?_
        refine pt_sub C [(0, .ref x0), (1, .int x1), (2, .int x2), (3, .int x3), (4, .int x4), (5, .int s.1), (6, .int x6), (7, .int (s.2.1 + 1))] [2, 3, 4, 5, 6, 7, 8, 0] rfl ?_
        exact K0 _ _ _ (Option.some.inj hf).symm
      · rw [if_neg c29] at hf
        refine pt_iload C 0 rfl dX12_who_108 ?_
        refine pt_istore C [(5, .int q26.1), (8, .int q26.1), (0, .ref x0), (1, .int x1), (2, .int x2), (3, .int x3), (4, .int x4), (6, .int x6), (7, .int s.2.1)] (by decide) rfl dX12_who_110 ?_
        refine pt_aload_n C 2 rfl rfl dX12_who_112 ?_
        refine pt_iload C 7 rfl dX12_who_113 ?_
        refine ob hf (fun h30 g31 hf => ?_)
        refine pt_put C kX12 39 (by decide) tw_955 (Or.inl rfl) rfl rfl rfl g31 dX12_who_115 ?_
        refine pt_aload_n C 2 rfl rfl dX12_who_118 ?_
        refine pt_iload C 8 rfl dX12_who_119 ?_
        refine ob hf (fun h32 g33 hf => ?_)
        refine pt_put C kX12 41 (by decide) tw_957 (Or.inl rfl) rfl rfl rfl g33 dX12_who_121 ?_
        refine pt_iinc C 8 [(7, .int (s.2.1 + 1)), (5, .int q26.1), (8, .int q26.1), (0, .ref x0), (1, .int x1), (2, .int x2), (3, .int x3), (4, .int x4), (6, .int x6)] rfl (iinc_eq s.2.1 (by decide)) (by decide) rfl dX12_who_124 ?_
        refine pt_goto C (tgt := 71) (by decide) dX12_who_127 ?_
        refine pt_sub C [(0, .ref x0), (1, .int x1), (2, .int x2), (3, .int x3), (4, .int x4), (5, .int q26.1), (6, .int x6), (7, .int (s.2.1 + 1))] [3, 4, 5, 6, 7, 1, 8, 0] rfl ?_
        exact K0 _ _ _ (Option.some.inj hf).symm
theorem l_X12_who_L71 {X : MX} (C : CX X cX12_who 9 RX12 (some .int) rmX12_who) (x0 : Nat) (x1 : Int32) (x2 : Int32) (x3 : Int32) (x4 : Int32) (x6 : Int32) : ∀ (n : Nat) (s : Int32 × Int32 × AH) (r : (Int32 × AH)), iter (f_X12_who_L71 x0 x1 x2 x3 x4 x6) n s = some r → (fun r : (Int32 × AH) => PT X 9 0 0 130 [(0, .ref x0), (1, .int x1), (2, .int x2), (3, .int x3), (4, .int x4), (5, .int r.1), (6, .int x6)] [] r.2) r → PT X 9 0 0 71 [(0, .ref x0), (1, .int x1), (2, .int x2), (3, .int x3), (4, .int x4), (5, .int s.1), (6, .int x6), (7, .int s.2.1)] [] s.2.2 :=
  iter_W (fun s : Int32 × Int32 × AH => PT X 9 0 0 71 [(0, .ref x0), (1, .int x1), (2, .int x2), (3, .int x3), (4, .int x4), (5, .int s.1), (6, .int x6), (7, .int s.2.1)] [] s.2.2) (fun r : (Int32 × AH) => PT X 9 0 0 130 [(0, .ref x0), (1, .int x1), (2, .int x2), (3, .int x3), (4, .int x4), (5, .int r.1), (6, .int x6)] [] r.2) _ (fun s s2 hf P => w_X12_who_L71 C x0 x1 x2 x3 x4 x6 s _ hf (fun u5 u7 hu e => by cases e; exact P) (fun u5 hu e => by cases e)) (fun s r hf P => w_X12_who_L71 C x0 x1 x2 x3 x4 x6 s _ hf (fun u5 u7 hu e => by cases e) (fun u5 hu e => by cases e; exact P))
set_option maxRecDepth 100000 in
set_option maxHeartbeats 4000000 in
theorem w_X12_who_L59 {X : MX} (C : CX X cX12_who 9 RX12 (some .int) rmX12_who) (x0 : Nat) (x1 : Int32) (x2 : Int32) (x3 : Int32) (x4 : Int32) (s : Int32 × Int32 × AH) (res : (Int32 × Int32 × AH) ⊕ ((Int32 × AH))) (hf : f_X12_who_L59 x0 x1 x2 x3 x4 s = some res) (K0 : ∀ (u5 : Int32) (u6 : Int32) (hu : AH), res = .inl (u5, u6, hu) → PT X 9 0 0 59 [(0, .ref x0), (1, .int x1), (2, .int x2), (3, .int x3), (4, .int x4), (5, .int u5), (6, .int u6)] [] hu) (K1 : ∀ (u5 : Int32) (hu : AH), res = .inr ((u5, hu)) → PT X 9 0 0 136 [(0, .ref x0), (4, .int x4), (5, .int u5)] [] hu) : PT X 9 0 0 59 [(0, .ref x0), (1, .int x1), (2, .int x2), (3, .int x3), (4, .int x4), (5, .int s.1), (6, .int s.2.1)] [] s.2.2 := by
  unfold f_X12_who_L59 at hf
  refine pt_iload C 6 rfl dX12_who_59 ?_
  refine pt_aload_n C 0 rfl rfl dX12_who_61 ?_
  refine ob hf (fun v18 g19 hf => ?_)
  refine pt_getI C kX12 7 (by decide) tw_923 (Or.inl rfl) g19 dX12_who_62 ?_
  refine pt_icmp_ge C (tgt := 136) (by decide) dX12_who_65 (fun c20 => ?_) (fun c20 => ?_)
  · rw [if_pos c20] at hf
    refine pt_sub C [(0, .ref x0), (4, .int x4), (5, .int s.1)] [0, 4, 5] rfl ?_
    exact K1 _ _ (Option.some.inj hf).symm
  · rw [if_neg c20] at hf
    refine pt_iconst C (v := 1) (by decide) dX12_who_68 ?_
    refine pt_istore C [(7, .int 1), (0, .ref x0), (1, .int x1), (2, .int x2), (3, .int x3), (4, .int x4), (5, .int s.1), (6, .int s.2.1)] (by decide) rfl dX12_who_69 ?_
    refine pt_sub C [(0, .ref x0), (1, .int x1), (2, .int x2), (3, .int x3), (4, .int x4), (5, .int s.1), (6, .int s.2.1), (7, .int 1)] [1, 2, 3, 4, 5, 6, 7, 0] rfl ?_
    refine ob hf (fun e34 g35 hf => ?_)
    refine l_X12_who_L71 C x0 x1 x2 x3 x4 s.2.1 _ _ _ g35 ?_
    refine pt_iinc C 6 [(6, .int (s.2.1 + 1)), (0, .ref x0), (1, .int x1), (2, .int x2), (3, .int x3), (4, .int x4), (5, .int e34.1)] rfl (iinc_eq s.2.1 (by decide)) (by decide) rfl dX12_who_130 ?_
    refine pt_goto C (tgt := 59) (by decide) dX12_who_133 ?_
    refine pt_sub C [(0, .ref x0), (1, .int x1), (2, .int x2), (3, .int x3), (4, .int x4), (5, .int e34.1), (6, .int (s.2.1 + 1))] [1, 2, 3, 4, 5, 6, 0] rfl ?_
    exact K0 _ _ _ (Option.some.inj hf).symm
theorem l_X12_who_L59 {X : MX} (C : CX X cX12_who 9 RX12 (some .int) rmX12_who) (x0 : Nat) (x1 : Int32) (x2 : Int32) (x3 : Int32) (x4 : Int32) : ∀ (n : Nat) (s : Int32 × Int32 × AH) (r : (Int32 × AH)), iter (f_X12_who_L59 x0 x1 x2 x3 x4) n s = some r → (fun r : (Int32 × AH) => PT X 9 0 0 136 [(0, .ref x0), (4, .int x4), (5, .int r.1)] [] r.2) r → PT X 9 0 0 59 [(0, .ref x0), (1, .int x1), (2, .int x2), (3, .int x3), (4, .int x4), (5, .int s.1), (6, .int s.2.1)] [] s.2.2 :=
  iter_W (fun s : Int32 × Int32 × AH => PT X 9 0 0 59 [(0, .ref x0), (1, .int x1), (2, .int x2), (3, .int x3), (4, .int x4), (5, .int s.1), (6, .int s.2.1)] [] s.2.2) (fun r : (Int32 × AH) => PT X 9 0 0 136 [(0, .ref x0), (4, .int x4), (5, .int r.1)] [] r.2) _ (fun s s2 hf P => w_X12_who_L59 C x0 x1 x2 x3 x4 s _ hf (fun u5 u6 hu e => by cases e; exact P) (fun u5 hu e => by cases e)) (fun s r hf P => w_X12_who_L59 C x0 x1 x2 x3 x4 s _ hf (fun u5 u6 hu e => by cases e) (fun u5 hu e => by cases e; exact P))
set_option maxRecDepth 100000 in
set_option maxHeartbeats 4000000 in
theorem w_X12_who_0 {X : MX} (C : CX X cX12_who 9 RX12 (some .int) rmX12_who) (a0 : Nat) (a1 : Int32) (a2 : Int32) (a3 : Int32) (a4 : Int32) (h : AH) (res : Int32 × AH) (hf : f_X12_who a0 a1 a2 a3 a4 h = some res) (K : ∀ (v : Int32) (h2 : AH), res = (v, h2) → PR X rmX12_who (some (.int v)) h2) : PT X 9 0 0 0 [(0, .ref a0), (1, .int a1), (2, .int a2), (3, .int a3), (4, .int a4)] [] h := by
  unfold f_X12_who at hf
  refine pt_aload_n C 0 rfl rfl dX12_who_0 ?_
  refine pt_iload_n C 1 rfl rfl dX12_who_1 ?_
  refine ob hf (fun _ g3 hf => ?_)
  refine ob hf (fun q1 g2 hf => ?_)
  refine pt_callV C (As := [.int a1]) (rest := []) (v := (some (.int q1.1))) (fun l => con_X12_noSong l a0 a1 h _ g2) tw_1081 tw_1078 tw_1080 tp_22 kX12 g3 tw_13 yn_X12_noSong (by decide) (Nat.le_of_ble_eq_true rfl) dX12_who_2 rfl ?_
  show PT X 9 0 0 5 [(0, .ref a0), (1, .int a1), (2, .int a2), (3, .int a3), (4, .int a4)] [.int q1.1] q1.2
  refine pt_if_ne C (tgt := 30) (by decide) dX12_who_5 (fun c4 => ?_) (fun c4 => ?_)
  · rw [if_neg c4] at hf
    refine pt_bipush C (v := (-2)) (by decide) dX12_who_30 ?_
    exact pt_iret C (K _ _ (Option.some.inj hf).symm) (by decide) (by decide) dX12_who_32
  · rw [if_pos c4] at hf
    refine pt_iconst C (v := 1) (by decide) dX12_who_8 ?_
    refine pt_iload_n C 2 rfl rfl dX12_who_9 ?_
    refine pt_iload_n C 3 rfl rfl dX12_who_10 ?_
    refine ob hf (fun q5 g6 hf => ?_)
    refine pt_callS C (As := [.int 1, .int a2, .int a3]) (rest := []) (v := (some (.int q5.1))) (fun l => con_X12_isTask l 1 a2 a3 q1.2 _ g6) tw_1134 tw_1132 tw_1133 tw_13 yn_X12_isTask (by decide) (Nat.le_of_ble_eq_true rfl) dX12_who_11 rfl ?_
    show PT X 9 0 0 14 [(0, .ref a0), (1, .int a1), (2, .int a2), (3, .int a3), (4, .int a4)] [.int q5.1] q5.2
    refine pt_if_eq C (tgt := 30) (by decide) dX12_who_14 (fun c7 => ?_) (fun c7 => ?_)
    · rw [if_pos c7] at hf
      refine pt_bipush C (v := (-2)) (by decide) dX12_who_30 ?_
      exact pt_iret C (K _ _ (Option.some.inj hf).symm) (by decide) (by decide) dX12_who_32
    · rw [if_neg c7] at hf
      refine pt_iload C 4 rfl dX12_who_17 ?_
      refine pt_i2l C dX12_who_19 ?_
      refine pt_lconst C (v := 0) (by decide) dX12_who_20 ?_
      refine pt_ldc2 C tw_1189 dX12_who_21 ?_
      refine ob hf (fun q8 g9 hf => ?_)
      refine pt_callS C (As := [.long a4.toInt64, .long 0, .long 2]) (rest := []) (v := (some (.int q8.1))) (fun l => con_X12_in l a4.toInt64 0 2 q5.2 _ g9) tw_1065 tw_1063 tw_1064 tw_13 yn_X12_in (by decide) (Nat.le_of_ble_eq_true rfl) dX12_who_24 rfl ?_
      show PT X 9 0 0 27 [(0, .ref a0), (1, .int a1), (2, .int a2), (3, .int a3), (4, .int a4)] [.int q8.1] q8.2
      refine pt_if_ne C (tgt := 33) (by decide) dX12_who_27 (fun c10 => ?_) (fun c10 => ?_)
      · rw [if_neg c10] at hf
        refine pt_aload_n C 0 rfl rfl dX12_who_33 ?_
        refine pt_iload_n C 1 rfl rfl dX12_who_34 ?_
        refine pt_iload_n C 2 rfl rfl dX12_who_35 ?_
        refine pt_iload_n C 3 rfl rfl dX12_who_36 ?_
        refine pt_iconst C (v := (-1)) (by decide) dX12_who_37 ?_
        refine pt_iconst C (v := 0) (by decide) dX12_who_38 ?_
        refine pt_iconst C (v := (-1)) (by decide) dX12_who_39 ?_
        refine pt_iconst C (v := 0) (by decide) dX12_who_40 ?_
        refine ob hf (fun _ g13 hf => ?_)
        refine ob hf (fun q11 g12 hf => ?_)
        refine pt_callV C (As := [.int a1, .int a2, .int a3, .int (-1), .int 0, .int (-1), .int 0]) (rest := []) (v := (some (.int q11.1))) (fun l => con_X12_sumOf l a0 a1 a2 a3 (-1) 0 (-1) 0 q8.2 _ g12) tw_1253 tw_1250 tw_1252 tp_36 kX12 g13 tw_13 yn_X12_sumOf (by decide) (Nat.le_of_ble_eq_true rfl) dX12_who_41 rfl ?_
        show PT X 9 0 0 44 [(0, .ref a0), (1, .int a1), (2, .int a2), (3, .int a3), (4, .int a4)] [.int q11.1] q11.2
        refine pt_istore C [(5, .int q11.1), (0, .ref a0), (1, .int a1), (2, .int a2), (3, .int a3), (4, .int a4)] (by decide) rfl dX12_who_44 ?_
        refine pt_aload_n C 1 rfl rfl dX12_who_46 ?_
        refine pt_iconst C (v := (-1)) (by decide) dX12_who_47 ?_
        refine ob hf (fun h14 g15 hf => ?_)
        refine pt_put C kX12 39 (by decide) tw_955 (Or.inl rfl) rfl rfl rfl g15 dX12_who_48 ?_
        refine pt_aload_n C 1 rfl rfl dX12_who_51 ?_
        refine pt_iconst C (v := 0) (by decide) dX12_who_52 ?_
        refine ob hf (fun h16 g17 hf => ?_)
        refine pt_put C kX12 41 (by decide) tw_957 (Or.inl rfl) rfl rfl rfl g17 dX12_who_53 ?_
        refine pt_iconst C (v := 0) (by decide) dX12_who_56 ?_
        refine pt_istore C [(6, .int 0), (5, .int q11.1), (0, .ref a0), (1, .int a1), (2, .int a2), (3, .int a3), (4, .int a4)] (by decide) rfl dX12_who_57 ?_
        refine pt_sub C [(0, .ref a0), (1, .int a1), (2, .int a2), (3, .int a3), (4, .int a4), (5, .int q11.1), (6, .int 0)] [2, 3, 4, 5, 6, 1, 0] rfl ?_
        refine ob hf (fun e36 g37 hf => ?_)
        refine l_X12_who_L59 C a0 a1 a2 a3 a4 _ _ _ g37 ?_
        refine pt_iload C 1 rfl dX12_who_136 ?_
        refine pt_if_ne C (tgt := 148) (by decide) dX12_who_138 (fun c38 => ?_) (fun c38 => ?_)
        · rw [if_neg c38] at hf
          refine pt_iload C 1 rfl dX12_who_148 ?_
          refine pt_iconst C (v := 1) (by decide) dX12_who_150 ?_
          refine pt_icmp_ne C (tgt := 161) (by decide) dX12_who_151 (fun c39 => ?_) (fun c39 => ?_)
          · rw [if_neg c39] at hf
            refine pt_iload C 2 rfl dX12_who_161 ?_
            exact pt_iret C (K _ _ (Option.some.inj hf).symm) (by decide) (by decide) dX12_who_163
          · rw [if_pos c39] at hf
            refine pt_aload_n C 0 rfl rfl dX12_who_154 ?_
            refine ob hf (fun v40 g41 hf => ?_)
            refine pt_getI C kX12 41 (by decide) tw_957 (Or.inl rfl) g41 dX12_who_155 ?_
            refine pt_goto C (tgt := 163) (by decide) dX12_who_158 ?_
            exact pt_iret C (K _ _ (Option.some.inj hf).symm) (by decide) (by decide) dX12_who_163
        · rw [if_pos c38] at hf
          refine pt_aload_n C 0 rfl rfl dX12_who_141 ?_
          refine ob hf (fun v42 g43 hf => ?_)
          refine pt_getI C kX12 39 (by decide) tw_955 (Or.inl rfl) g43 dX12_who_142 ?_
          refine pt_goto C (tgt := 163) (by decide) dX12_who_145 ?_
          exact pt_iret C (K _ _ (Option.some.inj hf).symm) (by decide) (by decide) dX12_who_163
      · rw [if_pos c10] at hf
        refine pt_bipush C (v := (-2)) (by decide) dX12_who_30 ?_
        exact pt_iret C (K _ _ (Option.some.inj hf).symm) (by decide) (by decide) dX12_who_32
theorem con_X12_who (l : Launch) (a0 : Nat) (a1 : Int32) (a2 : Int32) (a3 : Int32) (a4 : Int32) (h : AH) (q : Int32 × AH) (hf : f_X12_who a0 a1 a2 a3 a4 h = some q) : Con l yX12_who cX12_who 9 (some .int) rmX12_who [.ref a0, .int a1, .int a2, .int a3, .int a4] h (some (.int q.1)) q.2 := Con.of (by decide +kernel) (Nat.le_of_ble_eq_true rfl) (fun X C I K => w_X12_who_0 C a0 a1 a2 a3 a4 h q hf (fun v h2 e => by cases e; exact K))
