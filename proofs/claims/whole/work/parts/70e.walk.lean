abbrev rmX11_near : Room := { frames := 5, cells := 0, slots := 0, locals := 119 }
theorem yn_X11_near : YN yX11_near 1 := by refine ⟨?_, ?_, ?_⟩ <;> decide +kernel
set_option maxRecDepth 100000 in
set_option maxHeartbeats 4000000 in
theorem w_X11_near_0 {X : MX} (C : CX X cX11_near 3 RX11 (some .int) rmX11_near) (a0 : Nat) (a1 : Int32) (h : AH) (res : Int32 × AH) (hf : f_X11_near a0 a1 h = some res) (K : ∀ (v : Int32) (h2 : AH), res = (v, h2) → PR X rmX11_near (some (.int v)) h2) : PT X 3 0 0 0 [(0, .ref a0), (1, .int a1)] [] h := by
  unfold f_X11_near at hf
  refine pt_aload_n C 0 rfl rfl dX11_near_0 ?_
  refine pt_iload_n C 1 rfl rfl dX11_near_1 ?_
  refine ob hf (fun _ g3 hf => ?_)
  refine ob hf (fun q1 g2 hf => ?_)
  refine pt_callV C (As := [.int a1]) (rest := []) (v := (some (va_rf q1.1))) (fun l => con_X11_songOf l a0 a1 h _ g2) tw_458 tw_455 tw_457 tp_3 kX11 g3 tw_1 yn_X11_songOf (by decide) (Nat.le_of_ble_eq_true rfl) dX11_near_2 rfl ?_
  show PT X 3 0 0 5 [(0, .ref a0), (1, .int a1)] [va_rf q1.1] q1.2
  refine pt_astore_nQ C [(2, va_rf q1.1), (0, .ref a0), (1, .int a1)] rfl (by decide) rfl dX11_near_5 ?_
  refine pt_aload_nQ C 0 rfl rfl dX11_near_6 ?_
  generalize q1.1 = o4 at hf ⊢
  cases o4 with
  | none =>
    dsimp only [Option.elim] at hf
    refine pt_ifnonnull0 C dX11_near_7 ?_
    refine pt_bipush C (v := (-2)) (by decide) dX11_near_10 ?_
    exact pt_iret C (K _ _ (Option.some.inj hf).symm) (by decide) (by decide) dX11_near_12
  | some a5 =>
    dsimp only [Option.elim] at hf
    refine pt_ifnonnull1 C (tgt := 13) (by decide) dX11_near_7 ?_
    refine pt_aload_n C 1 rfl rfl dX11_near_13 ?_
    refine ob hf (fun v6 g7 hf => ?_)
    refine pt_getR C kX11 8 (by decide) tw_315 (Or.inl rfl) g7 dX11_near_14 ?_
    refine pt_aload_n C 0 rfl rfl dX11_near_17 ?_
    refine ob hf (fun v8 g9 hf => ?_)
    refine pt_getR C kX7 0 (by decide) tw_374 (Or.inl rfl) g9 dX11_near_18 ?_
    refine pt_aload_n C 1 rfl rfl dX11_near_21 ?_
    refine ob hf (fun v10 g11 hf => ?_)
    refine pt_getR C kX11 7 (by decide) tw_314 (Or.inl rfl) g11 dX11_near_22 ?_
    refine ob hf (fun _ g14 hf => ?_)
    refine ob hf (fun q12 g13 hf => ?_)
    refine pt_callV C (As := [.ref v8, .ref v10]) (rest := []) (v := (some (.int q12.1))) (fun l => con_X4_fewestWrong l v6 v8 v10 q1.2 _ g13) tw_758 tw_755 tw_756 tw_757 kX4 g14 tw_9 yn_X4_fewestWrong (by decide) (Nat.le_of_ble_eq_true rfl) dX11_near_25 rfl ?_
    show PT X 3 0 0 28 [(2, .ref a5), (0, .ref a0), (1, .int a1)] [.int q12.1] q12.2
    exact pt_iret C (K _ _ (Option.some.inj hf).symm) (by decide) (by decide) dX11_near_28
theorem con_X11_near (l : Launch) (a0 : Nat) (a1 : Int32) (h : AH) (q : Int32 × AH) (hf : f_X11_near a0 a1 h = some q) : Con l yX11_near cX11_near 3 (some .int) rmX11_near [.ref a0, .int a1] h (some (.int q.1)) q.2 := Con.of (by decide +kernel) (Nat.le_of_ble_eq_true rfl) (fun X C I K => w_X11_near_0 C a0 a1 h q hf (fun v h2 e => by cases e; exact K))
abbrev rmX4_makeNearLine : Room := { frames := 5, cells := 0, slots := 0, locals := 120 }
theorem yn_X4_makeNearLine : YN yX4_makeNearLine 2 := by refine ⟨?_, ?_, ?_⟩ <;> decide +kernel
set_option maxRecDepth 100000 in
set_option maxHeartbeats 4000000 in
theorem w_X4_makeNearLine_0 {X : MX} (C : CX X cX4_makeNearLine 3 RX4 none rmX4_makeNearLine) (a0 : Nat) (a1 : Nat) (a2 : Nat) (h : AH) (res : AH) (hf : f_X4_makeNearLine a0 a1 a2 h = some res) (K : PR X rmX4_makeNearLine none res) : PT X 3 0 0 0 [(0, .ref a0), (1, .ref a1), (2, .ref a2)] [] h := by
  unfold f_X4_makeNearLine at hf
  refine pt_aload_n C 0 rfl rfl dX4_makeNearLine_0 ?_
  refine pt_iconst C (v := 0) (by decide) dX4_makeNearLine_1 ?_
  refine ob hf (fun h1 g2 hf => ?_)
  refine pt_put C kX4 3 (by decide) tw_226 (Or.inl rfl) rfl rfl rfl g2 dX4_makeNearLine_2 ?_
  refine pt_aload_n C 0 rfl rfl dX4_makeNearLine_5 ?_
  refine pt_aload_n C 1 rfl rfl dX4_makeNearLine_6 ?_
  refine pt_aload_n C 2 rfl rfl dX4_makeNearLine_7 ?_
  refine ob hf (fun _ g5 hf => ?_)
  refine ob hf (fun q3 g4 hf => ?_)
  refine pt_callV C (As := [.ref a1, .ref a2]) (rest := []) (v := (some (.int q3.1))) (fun l => con_X4_fewestWrong l a0 a1 a2 h1 _ g4) tw_758 tw_771 tw_756 tw_757 kX4 g5 tw_9 yn_X4_fewestWrong (by decide) (Nat.le_of_ble_eq_true rfl) dX4_makeNearLine_8 rfl ?_
  show PT X 3 0 0 11 [(0, .ref a0), (1, .ref a1), (2, .ref a2)] [.int q3.1] q3.2
  refine pt_iconst C (v := (-1)) (by decide) dX4_makeNearLine_11 ?_
  refine pt_icmp_eq C (tgt := 22) (by decide) dX4_makeNearLine_12 (fun c6 => ?_) (fun c6 => ?_)
  · rw [if_pos c6] at hf
    obtain rfl := Option.some.inj hf
    exact pt_vret C K (by decide) (by decide) dX4_makeNearLine_22
  · rw [if_neg c6] at hf
    refine pt_aload_n C 0 rfl rfl dX4_makeNearLine_15 ?_
    refine pt_aload_n C 1 rfl rfl dX4_makeNearLine_16 ?_
    refine pt_aload_n C 2 rfl rfl dX4_makeNearLine_17 ?_
    refine pt_iconst C (v := 1) (by decide) dX4_makeNearLine_18 ?_
    refine ob hf (fun _ g9 hf => ?_)
    refine ob hf (fun q7 g8 hf => ?_)
    refine pt_callV C (As := [.ref a1, .ref a2, .int 1]) (rest := []) (v := none) (fun l => con_X4_lay l a0 a1 a2 1 q3.2 _ g8) tw_733 tw_730 tw_732 tp_13 kX4 g9 tw_9 yn_X4_lay (by decide) (Nat.le_of_ble_eq_true rfl) dX4_makeNearLine_19 rfl ?_
    show PT X 3 0 0 22 [(0, .ref a0), (1, .ref a1), (2, .ref a2)] [] q7
    obtain rfl := Option.some.inj hf
    exact pt_vret C K (by decide) (by decide) dX4_makeNearLine_22
theorem con_X4_makeNearLine (l : Launch) (a0 : Nat) (a1 : Nat) (a2 : Nat) (h : AH) (q : AH) (hf : f_X4_makeNearLine a0 a1 a2 h = some q) : Con l yX4_makeNearLine cX4_makeNearLine 3 none rmX4_makeNearLine [.ref a0, .ref a1, .ref a2] h none q := Con.of (by decide +kernel) (Nat.le_of_ble_eq_true rfl) (fun X C I K => w_X4_makeNearLine_0 C a0 a1 a2 h q hf K)
abbrev rmX11_nearAt : Room := { frames := 6, cells := 0, slots := 0, locals := 142 }
theorem yn_X11_nearAt : YN yX11_nearAt 2 := by refine ⟨?_, ?_, ?_⟩ <;> decide +kernel
set_option maxRecDepth 100000 in
set_option maxHeartbeats 4000000 in
theorem w_X11_nearAt_0 {X : MX} (C : CX X cX11_nearAt 4 RX11 (some .int) rmX11_nearAt) (a0 : Nat) (a1 : Int32) (a2 : Int32) (h : AH) (res : Int32 × AH) (hf : f_X11_nearAt a0 a1 a2 h = some res) (K : ∀ (v : Int32) (h2 : AH), res = (v, h2) → PR X rmX11_nearAt (some (.int v)) h2) : PT X 4 0 0 0 [(0, .ref a0), (1, .int a1), (2, .int a2)] [] h := by
  unfold f_X11_nearAt at hf
  refine pt_aload_n C 0 rfl rfl dX11_nearAt_0 ?_
  refine pt_iload_n C 1 rfl rfl dX11_nearAt_1 ?_
  refine ob hf (fun _ g3 hf => ?_)
  refine ob hf (fun q1 g2 hf => ?_)
  refine pt_callV C (As := [.int a1]) (rest := []) (v := (some (va_rf q1.1))) (fun l => con_X11_songOf l a0 a1 h _ g2) tw_458 tw_455 tw_457 tp_3 kX11 g3 tw_1 yn_X11_songOf (by decide) (Nat.le_of_ble_eq_true rfl) dX11_nearAt_2 rfl ?_
  show PT X 4 0 0 5 [(0, .ref a0), (1, .int a1), (2, .int a2)] [va_rf q1.1] q1.2
  refine pt_astore_nQ C [(3, va_rf q1.1), (0, .ref a0), (1, .int a1), (2, .int a2)] rfl (by decide) rfl dX11_nearAt_5 ?_
  refine pt_aload_nQ C 0 rfl rfl dX11_nearAt_6 ?_
  generalize q1.1 = o4 at hf ⊢
  cases o4 with
  | none =>
    dsimp only [Option.elim] at hf
    refine pt_ifnull0 C (tgt := 14) (by decide) dX11_nearAt_7 ?_
    refine pt_bipush C (v := (-2)) (by decide) dX11_nearAt_14 ?_
    exact pt_iret C (K _ _ (Option.some.inj hf).symm) (by decide) (by decide) dX11_nearAt_16
  | some a5 =>
    dsimp only [Option.elim] at hf
    refine pt_ifnull1 C dX11_nearAt_7 ?_
    refine pt_iload_n C 3 rfl rfl dX11_nearAt_10 ?_
    refine pt_if_ge C (tgt := 17) (by decide) dX11_nearAt_11 (fun c6 => ?_) (fun c6 => ?_)
    · rw [if_pos c6] at hf
      refine pt_aload_n C 1 rfl rfl dX11_nearAt_17 ?_
      refine ob hf (fun v7 g8 hf => ?_)
      refine pt_getR C kX11 8 (by decide) tw_315 (Or.inl rfl) g8 dX11_nearAt_18 ?_
      refine pt_aload_n C 0 rfl rfl dX11_nearAt_21 ?_
      refine ob hf (fun v9 g10 hf => ?_)
      refine pt_getR C kX7 0 (by decide) tw_374 (Or.inl rfl) g10 dX11_nearAt_22 ?_
      refine pt_aload_n C 1 rfl rfl dX11_nearAt_25 ?_
      refine ob hf (fun v11 g12 hf => ?_)
      refine pt_getR C kX11 7 (by decide) tw_314 (Or.inl rfl) g12 dX11_nearAt_26 ?_
      refine ob hf (fun _ g15 hf => ?_)
      refine ob hf (fun q13 g14 hf => ?_)
      refine pt_callV C (As := [.ref v9, .ref v11]) (rest := []) (v := none) (fun l => con_X4_makeNearLine l v7 v9 v11 q1.2 _ g14) tw_770 tw_767 tw_768 tw_769 kX4 g15 tw_9 yn_X4_makeNearLine (by decide) (Nat.le_of_ble_eq_true rfl) dX11_nearAt_29 rfl ?_
      show PT X 4 0 0 32 [(3, .ref a5), (0, .ref a0), (1, .int a1), (2, .int a2)] [] q13
      refine pt_aload_n C 1 rfl rfl dX11_nearAt_32 ?_
      refine ob hf (fun v16 g17 hf => ?_)
      refine pt_getR C kX11 8 (by decide) tw_315 (Or.inl rfl) g17 dX11_nearAt_33 ?_
      refine pt_iload_n C 3 rfl rfl dX11_nearAt_36 ?_
      refine ob hf (fun _ g20 hf => ?_)
      refine ob hf (fun q18 g19 hf => ?_)
      refine pt_callV C (As := [.int a2]) (rest := []) (v := (some (.int q18.1))) (fun l => con_X4_wordAt l v16 a2 q13 _ g19) tw_749 tw_746 tw_747 tw_748 kX4 g20 tw_9 yn_X4_wordAt (by decide) (Nat.le_of_ble_eq_true rfl) dX11_nearAt_37 rfl ?_
      show PT X 4 0 0 40 [(3, .ref a5), (0, .ref a0), (1, .int a1), (2, .int a2)] [.int q18.1] q18.2
      exact pt_iret C (K _ _ (Option.some.inj hf).symm) (by decide) (by decide) dX11_nearAt_40
    · rw [if_neg c6] at hf
      refine pt_bipush C (v := (-2)) (by decide) dX11_nearAt_14 ?_
      exact pt_iret C (K _ _ (Option.some.inj hf).symm) (by decide) (by decide) dX11_nearAt_16
theorem con_X11_nearAt (l : Launch) (a0 : Nat) (a1 : Int32) (a2 : Int32) (h : AH) (q : Int32 × AH) (hf : f_X11_nearAt a0 a1 a2 h = some q) : Con l yX11_nearAt cX11_nearAt 4 (some .int) rmX11_nearAt [.ref a0, .int a1, .int a2] h (some (.int q.1)) q.2 := Con.of (by decide +kernel) (Nat.le_of_ble_eq_true rfl) (fun X C I K => w_X11_nearAt_0 C a0 a1 a2 h q hf (fun v h2 e => by cases e; exact K))
abbrev rmX11_now : Room := { frames := 2, cells := 0, slots := 0, locals := 43 }
theorem yn_X11_now : YN yX11_now 1 := by refine ⟨?_, ?_, ?_⟩ <;> decide +kernel
set_option maxRecDepth 100000 in
set_option maxHeartbeats 4000000 in
theorem w_X11_now_0 {X : MX} (C : CX X cX11_now 2 RX11 (some .int) rmX11_now) (a0 : Nat) (a1 : Int32) (h : AH) (res : Int32 × AH) (hf : f_X11_now a0 a1 h = some res) (K : ∀ (v : Int32) (h2 : AH), res = (v, h2) → PR X rmX11_now (some (.int v)) h2) : PT X 2 0 0 0 [(0, .ref a0), (1, .int a1)] [] h := by
  unfold f_X11_now at hf
  refine pt_aload_n C 0 rfl rfl dX11_now_0 ?_
  refine ob hf (fun v1 g2 hf => ?_)
  refine pt_getR C kX11 2 (by decide) tw_309 (Or.inl rfl) g2 dX11_now_1 ?_
  refine pt_iload_n C 1 rfl rfl dX11_now_4 ?_
  refine ob hf (fun _ g5 hf => ?_)
  refine ob hf (fun q3 g4 hf => ?_)
  refine pt_callV C (As := [.int a1]) (rest := []) (v := (some (.int q3.1))) (fun l => con_X0_has l v1 a1 h _ g4) tw_499 tw_496 tw_497 tw_498 kX0 g5 tw_6 yn_X0_has (by decide) (Nat.le_of_ble_eq_true rfl) dX11_now_5 rfl ?_
  show PT X 2 0 0 8 [(0, .ref a0), (1, .int a1)] [.int q3.1] q3.2
  refine pt_if_eq C (tgt := 23) (by decide) dX11_now_8 (fun c6 => ?_) (fun c6 => ?_)
  · rw [if_pos c6] at hf
    refine pt_bipush C (v := (-2)) (by decide) dX11_now_23 ?_
    exact pt_iret C (K _ _ (Option.some.inj hf).symm) (by decide) (by decide) dX11_now_25
  · rw [if_neg c6] at hf
    refine pt_aload_n C 0 rfl rfl dX11_now_11 ?_
    refine ob hf (fun v7 g8 hf => ?_)
    refine pt_getR C kX11 2 (by decide) tw_309 (Or.inl rfl) g8 dX11_now_12 ?_
    refine ob hf (fun v9 g10 hf => ?_)
    refine pt_getR C kX0 5 (by decide) tw_101 (Or.inl rfl) g10 dX11_now_15 ?_
    refine pt_iload_n C 1 rfl rfl dX11_now_18 ?_
    refine ob hf (fun v11 g12 hf => ?_)
    refine pt_iald C g12 dX11_now_19 ?_
    refine pt_goto C (tgt := 25) (by decide) dX11_now_20 ?_
    exact pt_iret C (K _ _ (Option.some.inj hf).symm) (by decide) (by decide) dX11_now_25
theorem con_X11_now (l : Launch) (a0 : Nat) (a1 : Int32) (h : AH) (q : Int32 × AH) (hf : f_X11_now a0 a1 h = some q) : Con l yX11_now cX11_now 2 (some .int) rmX11_now [.ref a0, .int a1] h (some (.int q.1)) q.2 := Con.of (by decide +kernel) (Nat.le_of_ble_eq_true rfl) (fun X C I K => w_X11_now_0 C a0 a1 h q hf (fun v h2 e => by cases e; exact K))
abbrev rmX11_pause : Room := { frames := 2, cells := 0, slots := 0, locals := 46 }
theorem yn_X11_pause : YN yX11_pause 1 := by refine ⟨?_, ?_, ?_⟩ <;> decide +kernel
set_option maxRecDepth 100000 in
set_option maxHeartbeats 4000000 in
theorem w_X11_pause_0 {X : MX} (C : CX X cX11_pause 2 RX11 (some .int) rmX11_pause) (a0 : Nat) (a1 : Int32) (h : AH) (res : Int32 × AH) (hf : f_X11_pause a0 a1 h = some res) (K : ∀ (v : Int32) (h2 : AH), res = (v, h2) → PR X rmX11_pause (some (.int v)) h2) : PT X 2 0 0 0 [(0, .ref a0), (1, .int a1)] [] h := by
  unfold f_X11_pause at hf
  refine pt_iload_n C 1 rfl rfl dX11_pause_0 ?_
  refine pt_iconst C (v := 0) (by decide) dX11_pause_1 ?_
  refine pt_bipush C (v := 100) (by decide) dX11_pause_2 ?_
  refine ob hf (fun q1 g2 hf => ?_)
  refine pt_callS C (As := [.int a1, .int 0, .int 100]) (rest := []) (v := (some (.int q1.1))) (fun l => con_X11_within l a1 0 100 h _ g2) tw_461 tw_459 tw_460 tw_1 yn_X11_within (by decide) (Nat.le_of_ble_eq_true rfl) dX11_pause_4 rfl ?_
  show PT X 2 0 0 7 [(0, .ref a0), (1, .int a1)] [.int q1.1] q1.2
  refine pt_if_ne C (tgt := 13) (by decide) dX11_pause_7 (fun c3 => ?_) (fun c3 => ?_)
  · rw [if_neg c3] at hf
    refine pt_aload_n C 0 rfl rfl dX11_pause_13 ?_
    refine ob hf (fun v4 g5 hf => ?_)
    refine pt_getR C kX11 2 (by decide) tw_309 (Or.inl rfl) g5 dX11_pause_14 ?_
    refine pt_iload_n C 1 rfl rfl dX11_pause_17 ?_
    refine pt_aload_n C 0 rfl rfl dX11_pause_18 ?_
    refine ob hf (fun v6 g7 hf => ?_)
    refine pt_getR C kX11 2 (by decide) tw_309 (Or.inl rfl) g7 dX11_pause_19 ?_
    refine ob hf (fun v8 g9 hf => ?_)
    refine pt_getR C kX0 5 (by decide) tw_101 (Or.inl rfl) g9 dX11_pause_22 ?_
    refine ob hf (fun _ g12 hf => ?_)
    refine ob hf (fun q10 g11 hf => ?_)
    refine pt_callV C (As := [.int a1, .ref v8]) (rest := []) (v := none) (fun l => con_X0_restFor l v4 a1 v8 q1.2 _ g11) tw_524 tw_521 tw_522 tw_523 kX0 g12 tw_6 yn_X0_restFor (by decide) (Nat.le_of_ble_eq_true rfl) dX11_pause_25 rfl ?_
    show PT X 2 0 0 28 [(0, .ref a0), (1, .int a1)] [] q10
    refine pt_aload_n C 0 rfl rfl dX11_pause_28 ?_
    refine ob hf (fun v13 g14 hf => ?_)
    refine pt_getR C kX11 6 (by decide) tw_313 (Or.inl rfl) g14 dX11_pause_29 ?_
    refine pt_iconst C (v := 0) (by decide) dX11_pause_32 ?_
    refine ob hf (fun h15 g16 hf => ?_)
    refine pt_put C kX9 5 (by decide) tw_191 (Or.inl rfl) rfl (by decide) rfl g16 dX11_pause_33 ?_
    refine pt_aload_n C 0 rfl rfl dX11_pause_36 ?_
    refine ob hf (fun v17 g18 hf => ?_)
    refine pt_getR C kX11 2 (by decide) tw_309 (Or.inl rfl) g18 dX11_pause_37 ?_
    refine ob hf (fun _ g21 hf => ?_)
    refine ob hf (fun q19 g20 hf => ?_)
    refine pt_callV C (As := []) (rest := []) (v := (some (.int q19.1))) (fun l => con_X0_howManyAtStrength l v17 h15 _ g20) tw_529 tw_526 tw_527 tw_528 kX0 g21 tw_6 yn_X0_howManyAtStrength (by decide) (Nat.le_of_ble_eq_true rfl) dX11_pause_40 rfl ?_
    show PT X 2 0 0 43 [(0, .ref a0), (1, .int a1)] [.int q19.1] q19.2
    exact pt_iret C (K _ _ (Option.some.inj hf).symm) (by decide) (by decide) dX11_pause_43
  · rw [if_pos c3] at hf
    refine pt_bipush C (v := (-2)) (by decide) dX11_pause_10 ?_
    exact pt_iret C (K _ _ (Option.some.inj hf).symm) (by decide) (by decide) dX11_pause_12
theorem con_X11_pause (l : Launch) (a0 : Nat) (a1 : Int32) (h : AH) (q : Int32 × AH) (hf : f_X11_pause a0 a1 h = some q) : Con l yX11_pause cX11_pause 2 (some .int) rmX11_pause [.ref a0, .int a1] h (some (.int q.1)) q.2 := Con.of (by decide +kernel) (Nat.le_of_ble_eq_true rfl) (fun X C I K => w_X11_pause_0 C a0 a1 h q hf (fun v h2 e => by cases e; exact K))
theorem yn_X9_tryFrom : YN yX9_tryFrom 6 := by refine ⟨?_, ?_, ?_⟩ <;> decide +kernel
abbrev rmX9_tryFrom_d0 : Room := { frames := 0, cells := 0, slots := 0, locals := 0 }
theorem con_X9_tryFrom_d0 (l : Launch) (a0 : Nat) (a1 : Nat) (a2 : Nat) (a3 : Nat) (a4 : Int32) (a5 : Int32) (a6 : Int32) (h : AH) (q : AH) (hf : f_X9_tryFrom_d0 a0 a1 a2 a3 a4 a5 a6 h = some q) : Con l yX9_tryFrom cX9_tryFrom 10 none rmX9_tryFrom_d0 [.ref a0, .ref a1, .ref a2, .ref a3, .int a4, .int a5, .int a6] h none q := by cases hf
abbrev rmX9_tryFrom_d1 : Room := { frames := 4, cells := 0, slots := 0, locals := 97 }
set_option maxRecDepth 100000 in
set_option maxHeartbeats 4000000 in
theorem w_X9_tryFrom_d1_L24 {X : MX} (C : CX X cX9_tryFrom 10 RX9 none rmX9_tryFrom_d1) (rec : Nat → Nat → Nat → Nat → Int32 → Int32 → Int32 → AH → Option (AH)) (hrec : ∀ (l : Launch) (a0 : Nat) (a1 : Nat) (a2 : Nat) (a3 : Nat) (a4 : Int32) (a5 : Int32) (a6 : Int32) (h : AH) (q : AH), rec a0 a1 a2 a3 a4 a5 a6 h = some q → Con l yX9_tryFrom cX9_tryFrom 10 none rmX9_tryFrom_d0 [.ref a0, .ref a1, .ref a2, .ref a3, .int a4, .int a5, .int a6] h none q) (x0 : Nat) (x1 : Nat) (x2 : Nat) (x3 : Nat) (x4 : Int32) (x5 : Int32) (x6 : Int32) (s : Int32 × AH) (res : (Int32 × AH) ⊕ ((AH))) (hf : f_X9_tryFrom_L24 rec x0 x1 x2 x3 x4 x5 x6 s = some res) (K0 : ∀ (u7 : Int32) (hu : AH), res = .inl (u7, hu) → PT X 10 0 0 24 [(0, .ref x0), (1, .ref x1), (2, .ref x2), (3, .ref x3), (4, .int x4), (5, .int x5), (6, .int x6), (7, .int u7)] [] hu) (K1 : ∀ (hu : AH), res = .inr (hu) → PT X 10 0 0 213 [] [] hu) : PT X 10 0 0 24 [(0, .ref x0), (1, .ref x1), (2, .ref x2), (3, .ref x3), (4, .int x4), (5, .int x5), (6, .int x6), (7, .int s.1)] [] s.2 := by
  unfold f_X9_tryFrom_L24 at hf
  refine pt_iload C 7 rfl dX9_tryFrom_24 ?_
  refine pt_aload_n C 1 rfl rfl dX9_tryFrom_26 ?_
  refine ob hf (fun _ g9 hf => ?_)
  refine ob hf (fun q7 g8 hf => ?_)
  refine pt_callV C (As := []) (rest := [.int s.1]) (v := (some (.int q7.1))) (fun l => con_Jx4a65c_size_8abf5 l x1 s.2 _ g8) tw_363 tw_637 tw_361 tw_362 kJx4a65c g9 tw_5 yn_Jx4a65c_size_8abf5 (by decide) (Nat.le_of_ble_eq_true rfl) dX9_tryFrom_27 rfl ?_
  show PT X 10 0 0 30 [(0, .ref x0), (1, .ref x1), (2, .ref x2), (3, .ref x3), (4, .int x4), (5, .int x5), (6, .int x6), (7, .int s.1)] [.int q7.1, .int s.1] q7.2
  refine pt_icmp_ge C (tgt := 213) (by decide) dX9_tryFrom_30 (fun c10 => ?_) (fun c10 => ?_)
  · rw [if_pos c10] at hf
    refine pt_sub C [] [] rfl ?_
    exact K1 _ (Option.some.inj hf).symm
  · rw [if_neg c10] at hf
    refine pt_aload_n C 0 rfl rfl dX9_tryFrom_33 ?_
    refine ob hf (fun v11 g12 hf => ?_)
    refine pt_getR C kX9 1 (by decide) tw_184 (Or.inl rfl) g12 dX9_tryFrom_34 ?_
    refine pt_iload C 5 rfl dX9_tryFrom_37 ?_
    refine ob hf (fun v13 g14 hf => ?_)
    refine pt_aald4 C g14 dX9_tryFrom_39 ?_
    refine pt_aload_n C 0 rfl rfl dX9_tryFrom_40 ?_
    refine ob hf (fun v15 g16 hf => ?_)
    refine pt_getR C kX9 0 (by decide) tw_183 (Or.inl rfl) g16 dX9_tryFrom_41 ?_
    refine ob hf (fun v17 g18 hf => ?_)
    refine pt_getR C kX1 0 (by decide) tw_139 (Or.inl rfl) g18 dX9_tryFrom_44 ?_
    refine ob hf (fun q19 g20 hf => ?_)
    refine pt_callSN C (As := [.ref v13, .ref v17]) (rest := []) (v := none) (fun l => con_X11_copy l v13 v17 q7.2 _ g20) tw_389 (host := "HeaveSongs") (by decide +kernel) tw_388 tw_1 yn_X11_copy (by decide) (Nat.le_of_ble_eq_true rfl) dX9_tryFrom_47 rfl ?_
    show PT X 10 0 0 50 [(0, .ref x0), (1, .ref x1), (2, .ref x2), (3, .ref x3), (4, .int x4), (5, .int x5), (6, .int x6), (7, .int s.1)] [] q19
    refine pt_aload_n C 0 rfl rfl dX9_tryFrom_50 ?_
    refine ob hf (fun v21 g22 hf => ?_)
    refine pt_getI C kX9 4 (by decide) tw_188 (Or.inl rfl) g22 dX9_tryFrom_51 ?_
    refine pt_iconst C (v := 1) (by decide) dX9_tryFrom_54 ?_
    refine pt_isub C dX9_tryFrom_55 ?_
    refine pt_iload C 6 rfl dX9_tryFrom_56 ?_
    refine pt_isub C dX9_tryFrom_58 ?_
    refine pt_istore C [(8, .int ((v21 - 1) - x6)), (0, .ref x0), (1, .ref x1), (2, .ref x2), (3, .ref x3), (4, .int x4), (5, .int x5), (6, .int x6), (7, .int s.1)] (by decide) rfl dX9_tryFrom_59 ?_
    refine pt_aload_n C 1 rfl rfl dX9_tryFrom_61 ?_
    refine ob hf (fun v23 g24 hf => ?_)
    refine pt_getR C kX9 0 (by decide) tw_183 (Or.inl rfl) g24 dX9_tryFrom_62 ?_
    refine pt_aload_n C 3 rfl rfl dX9_tryFrom_65 ?_
    refine pt_aload_n C 2 rfl rfl dX9_tryFrom_66 ?_
    refine pt_iload C 8 rfl dX9_tryFrom_67 ?_
    refine ob hf (fun _ g27 hf => ?_)
    refine ob hf (fun q25 g26 hf => ?_)
    refine pt_callV C (As := [.int s.1]) (rest := [.ref x2, .ref v23]) (v := (some (.ref q25.1))) (fun l => con_Jx4a65c_get_915e3 l x1 s.1 q19 _ g26) tw_465 tw_638 tw_463 tw_464 kJx4a65c g27 tw_5 yn_Jx4a65c_get_915e3 (by decide) (Nat.le_of_ble_eq_true rfl) dX9_tryFrom_69 rfl ?_
    show PT X 10 0 0 72 [(8, .int ((v21 - 1) - x6)), (0, .ref x0), (1, .ref x1), (2, .ref x2), (3, .ref x3), (4, .int x4), (5, .int x5), (6, .int x6), (7, .int s.1)] [.ref q25.1, .ref x2, .ref v23] q25.2
    refine ob hf (fun _ g28 hf => ?_)
    refine pt_cast C kX7 tw_639 g28 dX9_tryFrom_72 ?_
    refine pt_aload_n C 4 rfl rfl dX9_tryFrom_75 ?_
    refine pt_iload C 6 rfl dX9_tryFrom_76 ?_
    refine ob hf (fun _ g31 hf => ?_)
    refine ob hf (fun q29 g30 hf => ?_)
    refine pt_callV C (As := [.int x5]) (rest := [.ref q25.1, .ref x2, .ref v23]) (v := (some (.ref q29.1))) (fun l => con_Jx4a65c_get_915e3 l x3 x5 q25.2 _ g30) tw_465 tw_638 tw_463 tw_464 kJx4a65c g31 tw_5 yn_Jx4a65c_get_915e3 (by decide) (Nat.le_of_ble_eq_true rfl) dX9_tryFrom_78 rfl ?_
    show PT X 10 0 0 81 [(8, .int ((v21 - 1) - x6)), (0, .ref x0), (1, .ref x1), (2, .ref x2), (3, .ref x3), (4, .int x4), (5, .int x5), (6, .int x6), (7, .int s.1)] [.ref q29.1, .ref q25.1, .ref x2, .ref v23] q29.2
    refine ob hf (fun _ g32 hf => ?_)
    refine pt_cast C kX8 tw_640 g32 dX9_tryFrom_81 ?_
    refine pt_iload C 0 rfl dX9_tryFrom_84 ?_
    refine ob hf (fun _ g35 hf => ?_)
    refine ob hf (fun q33 g34 hf => ?_)
    refine pt_callV C (As := [.ref x2, .ref q25.1, .ref q29.1, .int ((v21 - 1) - x6)]) (rest := []) (v := (some (.int q33.1))) (fun l => con_X1_go l v23 x2 q25.1 q29.1 ((v21 - 1) - x6) q29.2 _ g34) tw_565 tw_641 tw_563 tw_564 kX1 g35 tw_7 yn_X1_go (by decide) (Nat.le_of_ble_eq_true rfl) dX9_tryFrom_86 rfl ?_
    show PT X 10 0 0 89 [(8, .int ((v21 - 1) - x6)), (0, .ref x0), (1, .ref x1), (2, .ref x2), (3, .ref x3), (4, .int x4), (5, .int x5), (6, .int x6), (7, .int s.1)] [.int q33.1] q33.2
    refine pt_if_ne C (tgt := 95) (by decide) dX9_tryFrom_89 (fun c36 => ?_) (fun c36 => ?_)
    · rw [if_neg c36] at hf
      refine pt_aload_n C 1 rfl rfl dX9_tryFrom_95 ?_
      refine ob hf (fun v37 g38 hf => ?_)
      refine pt_getR C kX9 2 (by decide) tw_185 (Or.inl rfl) g38 dX9_tryFrom_96 ?_
      refine pt_iload C 6 rfl dX9_tryFrom_99 ?_
      refine pt_iload C 8 rfl dX9_tryFrom_101 ?_
      refine ob hf (fun h39 g40 hf => ?_)
      refine pt_iast C g40 dX9_tryFrom_103 ?_
      refine pt_iload C 7 rfl dX9_tryFrom_104 ?_
      refine pt_aload_n C 1 rfl rfl dX9_tryFrom_106 ?_
      refine ob hf (fun v41 g42 hf => ?_)
      refine pt_getR C kX9 0 (by decide) tw_183 (Or.inl rfl) g42 dX9_tryFrom_107 ?_
      refine ob hf (fun v43 g44 hf => ?_)
      refine pt_getI C kX1 7 (by decide) tw_152 (Or.inl rfl) g44 dX9_tryFrom_110 ?_
      refine pt_iadd C dX9_tryFrom_113 ?_
      refine pt_istore C [(9, .int (x6 + v43)), (8, .int ((v21 - 1) - x6)), (0, .ref x0), (1, .ref x1), (2, .ref x2), (3, .ref x3), (4, .int x4), (5, .int x5), (6, .int x6), (7, .int s.1)] (by decide) rfl dX9_tryFrom_114 ?_
      refine pt_iload C 7 rfl dX9_tryFrom_116 ?_
      refine pt_aload_n C 5 rfl rfl dX9_tryFrom_118 ?_
      refine ob hf (fun _ g47 hf => ?_)
      refine ob hf (fun q45 g46 hf => ?_)
      refine pt_callV C (As := []) (rest := [.int x5]) (v := (some (.int q45.1))) (fun l => con_Jx4a65c_size_8abf5 l x3 h39 _ g46) tw_363 tw_637 tw_361 tw_362 kJx4a65c g47 tw_5 yn_Jx4a65c_size_8abf5 (by decide) (Nat.le_of_ble_eq_true rfl) dX9_tryFrom_119 rfl ?_
      show PT X 10 0 0 122 [(9, .int (x6 + v43)), (8, .int ((v21 - 1) - x6)), (0, .ref x0), (1, .ref x1), (2, .ref x2), (3, .ref x3), (4, .int x4), (5, .int x5), (6, .int x6), (7, .int s.1)] [.int q45.1, .int x5] q45.2
      refine pt_iconst C (v := 1) (by decide) dX9_tryFrom_122 ?_
      refine pt_isub C dX9_tryFrom_123 ?_
      refine pt_icmp_ne C (tgt := 147) (by decide) dX9_tryFrom_124 (fun c48 => ?_) (fun c48 => ?_)
      · rw [if_neg c48] at hf
        refine pt_iload C 7 rfl dX9_tryFrom_147 ?_
        refine pt_iconst C (v := 1) (by decide) dX9_tryFrom_149 ?_
        refine pt_iadd C dX9_tryFrom_150 ?_
        refine pt_iconst C (v := 4) (by decide) dX9_tryFrom_151 ?_
        refine pt_icmp_ge C (tgt := 207) (by decide) dX9_tryFrom_152 (fun c49 => ?_) (fun c49 => ?_)
        · rw [if_pos c49] at hf
          refine pt_iinc C 9 [(7, .int (s.1 + 1)), (9, .int (x6 + v43)), (8, .int ((v21 - 1) - x6)), (0, .ref x0), (1, .ref x1), (2, .ref x2), (3, .ref x3), (4, .int x4), (5, .int x5), (6, .int x6)] rfl (iinc_eq s.1 (by decide)) (by decide) rfl dX9_tryFrom_207 ?_
          refine pt_goto C (tgt := 24) (by decide) dX9_tryFrom_210 ?_
          refine pt_sub C [(0, .ref x0), (1, .ref x1), (2, .ref x2), (3, .ref x3), (4, .int x4), (5, .int x5), (6, .int x6), (7, .int (s.1 + 1))] [3, 4, 5, 6, 7, 8, 9, 0] rfl ?_
          exact K0 _ _ (Option.some.inj hf).symm
        · rw [if_neg c49] at hf
          refine pt_aload_n C 2 rfl rfl dX9_tryFrom_155 ?_
          refine ob hf (fun v50 g51 hf => ?_)
          refine pt_getR C kX9 0 (by decide) tw_183 (Or.inl rfl) g51 dX9_tryFrom_156 ?_
          refine ob hf (fun v52 g53 hf => ?_)
          refine pt_getR C kX1 0 (by decide) tw_139 (Or.inl rfl) g53 dX9_tryFrom_159 ?_
          refine pt_aload_n C 2 rfl rfl dX9_tryFrom_162 ?_
          refine ob hf (fun v54 g55 hf => ?_)
          refine pt_getR C kX9 1 (by decide) tw_184 (Or.inl rfl) g55 dX9_tryFrom_163 ?_
          refine pt_iload C 7 rfl dX9_tryFrom_166 ?_
          refine pt_iconst C (v := 1) (by decide) dX9_tryFrom_168 ?_
          refine pt_iadd C dX9_tryFrom_169 ?_
          refine ob hf (fun v56 g57 hf => ?_)
          refine pt_aald4 C g57 dX9_tryFrom_170 ?_
          refine ob hf (fun q58 g59 hf => ?_)
          refine pt_callSN C (As := [.ref v52, .ref v56]) (rest := []) (v := none) (fun l => con_X11_copy l v52 v56 q45.2 _ g59) tw_389 (host := "HeaveSongs") (by decide +kernel) tw_388 tw_1 yn_X11_copy (by decide) (Nat.le_of_ble_eq_true rfl) dX9_tryFrom_171 rfl ?_
          show PT X 10 0 0 174 [(9, .int (x6 + v43)), (8, .int ((v21 - 1) - x6)), (0, .ref x0), (1, .ref x1), (2, .ref x2), (3, .ref x3), (4, .int x4), (5, .int x5), (6, .int x6), (7, .int s.1)] [] q58
          refine pt_aload_n C 4 rfl rfl dX9_tryFrom_174 ?_
          refine pt_iload C 6 rfl dX9_tryFrom_175 ?_
          refine pt_aload_n C 2 rfl rfl dX9_tryFrom_177 ?_
          refine ob hf (fun v60 g61 hf => ?_)
          refine pt_getR C kX9 1 (by decide) tw_184 (Or.inl rfl) g61 dX9_tryFrom_178 ?_
          refine pt_iload C 7 rfl dX9_tryFrom_181 ?_
          refine pt_iconst C (v := 1) (by decide) dX9_tryFrom_183 ?_
          refine pt_iadd C dX9_tryFrom_184 ?_
          refine ob hf (fun v62 g63 hf => ?_)
          refine pt_aald4 C g63 dX9_tryFrom_185 ?_
          refine ob hf (fun _ g66 hf => ?_)
          refine ob hf (fun q64 g65 hf => ?_)
          refine pt_callV C (As := [.int x4, .ref v62]) (rest := []) (v := none) (fun l => con_X0_restFor l x2 x4 v62 q58 _ g65) tw_524 tw_642 tw_522 tw_523 kX0 g66 tw_6 yn_X0_restFor (by decide) (Nat.le_of_ble_eq_true rfl) dX9_tryFrom_186 rfl ?_
          show PT X 10 0 0 189 [(9, .int (x6 + v43)), (8, .int ((v21 - 1) - x6)), (0, .ref x0), (1, .ref x1), (2, .ref x2), (3, .ref x3), (4, .int x4), (5, .int x5), (6, .int x6), (7, .int s.1)] [] q64
          refine pt_aload_n C 2 rfl rfl dX9_tryFrom_189 ?_
          refine pt_aload_n C 3 rfl rfl dX9_tryFrom_190 ?_
          refine pt_aload_n C 4 rfl rfl dX9_tryFrom_191 ?_
          refine pt_aload_n C 5 rfl rfl dX9_tryFrom_192 ?_
          refine pt_iload C 6 rfl dX9_tryFrom_193 ?_
          refine pt_iload C 7 rfl dX9_tryFrom_195 ?_
          refine pt_iconst C (v := 1) (by decide) dX9_tryFrom_197 ?_
          refine pt_iadd C dX9_tryFrom_198 ?_
          refine pt_iload C 0 rfl dX9_tryFrom_199 ?_
          refine pt_iload C 6 rfl dX9_tryFrom_201 ?_
          refine pt_iadd C dX9_tryFrom_203 ?_
          refine ob hf (fun _ g69 hf => ?_)
          refine ob hf (fun q67 g68 hf => ?_)
          refine pt_callV C (As := [.ref x1, .ref x2, .ref x3, .int x4, .int (x5 + 1), .int ((x6 + v43) + x4)]) (rest := []) (v := none) (fun l => hrec l x0 x1 x2 x3 x4 (x5 + 1) ((x6 + v43) + x4) q64 _ g68) tw_636 tw_633 tw_635 tp_10 kX9 g69 tw_8 yn_X9_tryFrom (by decide) (Nat.le_of_ble_eq_true rfl) dX9_tryFrom_204 rfl ?_
          show PT X 10 0 0 207 [(9, .int (x6 + v43)), (8, .int ((v21 - 1) - x6)), (0, .ref x0), (1, .ref x1), (2, .ref x2), (3, .ref x3), (4, .int x4), (5, .int x5), (6, .int x6), (7, .int s.1)] [] q67
          refine pt_iinc C 9 [(7, .int (s.1 + 1)), (9, .int (x6 + v43)), (8, .int ((v21 - 1) - x6)), (0, .ref x0), (1, .ref x1), (2, .ref x2), (3, .ref x3), (4, .int x4), (5, .int x5), (6, .int x6)] rfl (iinc_eq s.1 (by decide)) (by decide) rfl dX9_tryFrom_207 ?_
          refine pt_goto C (tgt := 24) (by decide) dX9_tryFrom_210 ?_
          refine pt_sub C [(0, .ref x0), (1, .ref x1), (2, .ref x2), (3, .ref x3), (4, .int x4), (5, .int x5), (6, .int x6), (7, .int (s.1 + 1))] [3, 4, 5, 6, 7, 8, 9, 0] rfl ?_
          exact K0 _ _ (Option.some.inj hf).symm
      · rw [if_pos c48] at hf
        refine pt_aload_n C 2 rfl rfl dX9_tryFrom_127 ?_
        refine pt_iload C 0 rfl dX9_tryFrom_128 ?_
        refine ob hf (fun h70 g71 hf => ?_)
        refine pt_put C kX9 4 (by decide) tw_188 (Or.inl rfl) rfl rfl rfl g71 dX9_tryFrom_130 ?_
        refine pt_aload_n C 2 rfl rfl dX9_tryFrom_133 ?_
        refine ob hf (fun v72 g73 hf => ?_)
        refine pt_getR C kX9 2 (by decide) tw_185 (Or.inl rfl) g73 dX9_tryFrom_134 ?_
        refine pt_aload_n C 2 rfl rfl dX9_tryFrom_137 ?_
        refine ob hf (fun v74 g75 hf => ?_)
        refine pt_getR C kX9 3 (by decide) tw_186 (Or.inl rfl) g75 dX9_tryFrom_138 ?_
        refine ob hf (fun q76 g77 hf => ?_)
        refine pt_callSN C (As := [.ref v72, .ref v74]) (rest := []) (v := none) (fun l => con_X11_copy l v72 v74 h70 _ g77) tw_389 (host := "HeaveSongs") (by decide +kernel) tw_388 tw_1 yn_X11_copy (by decide) (Nat.le_of_ble_eq_true rfl) dX9_tryFrom_141 rfl ?_
        show PT X 10 0 0 144 [(9, .int (x6 + v43)), (8, .int ((v21 - 1) - x6)), (0, .ref x0), (1, .ref x1), (2, .ref x2), (3, .ref x3), (4, .int x4), (5, .int x5), (6, .int x6), (7, .int s.1)] [] q76
        refine pt_goto C (tgt := 207) (by decide) dX9_tryFrom_144 ?_
        refine pt_iinc C 9 [(7, .int (s.1 + 1)), (9, .int (x6 + v43)), (8, .int ((v21 - 1) - x6)), (0, .ref x0), (1, .ref x1), (2, .ref x2), (3, .ref x3), (4, .int x4), (5, .int x5), (6, .int x6)] rfl (iinc_eq s.1 (by decide)) (by decide) rfl dX9_tryFrom_207 ?_
        refine pt_goto C (tgt := 24) (by decide) dX9_tryFrom_210 ?_
        refine pt_sub C [(0, .ref x0), (1, .ref x1), (2, .ref x2), (3, .ref x3), (4, .int x4), (5, .int x5), (6, .int x6), (7, .int (s.1 + 1))] [3, 4, 5, 6, 7, 8, 9, 0] rfl ?_
        exact K0 _ _ (Option.some.inj hf).symm
    · rw [if_pos c36] at hf
      refine pt_goto C (tgt := 207) (by decide) dX9_tryFrom_92 ?_
      refine pt_iinc C 8 [(7, .int (s.1 + 1)), (8, .int ((v21 - 1) - x6)), (0, .ref x0), (1, .ref x1), (2, .ref x2), (3, .ref x3), (4, .int x4), (5, .int x5), (6, .int x6)] rfl (iinc_eq s.1 (by decide)) (by decide) rfl dX9_tryFrom_207 ?_
      refine pt_goto C (tgt := 24) (by decide) dX9_tryFrom_210 ?_
      refine pt_sub C [(0, .ref x0), (1, .ref x1), (2, .ref x2), (3, .ref x3), (4, .int x4), (5, .int x5), (6, .int x6), (7, .int (s.1 + 1))] [2, 3, 4, 5, 6, 7, 8, 0] rfl ?_
      exact K0 _ _ (Option.some.inj hf).symm
theorem l_X9_tryFrom_d1_L24 {X : MX} (C : CX X cX9_tryFrom 10 RX9 none rmX9_tryFrom_d1) (rec : Nat → Nat → Nat → Nat → Int32 → Int32 → Int32 → AH → Option (AH)) (hrec : ∀ (l : Launch) (a0 : Nat) (a1 : Nat) (a2 : Nat) (a3 : Nat) (a4 : Int32) (a5 : Int32) (a6 : Int32) (h : AH) (q : AH), rec a0 a1 a2 a3 a4 a5 a6 h = some q → Con l yX9_tryFrom cX9_tryFrom 10 none rmX9_tryFrom_d0 [.ref a0, .ref a1, .ref a2, .ref a3, .int a4, .int a5, .int a6] h none q) (x0 : Nat) (x1 : Nat) (x2 : Nat) (x3 : Nat) (x4 : Int32) (x5 : Int32) (x6 : Int32) : ∀ (n : Nat) (s : Int32 × AH) (r : (AH)), iter (f_X9_tryFrom_L24 rec x0 x1 x2 x3 x4 x5 x6) n s = some r → (fun r : (AH) => PT X 10 0 0 213 [] [] r) r → PT X 10 0 0 24 [(0, .ref x0), (1, .ref x1), (2, .ref x2), (3, .ref x3), (4, .int x4), (5, .int x5), (6, .int x6), (7, .int s.1)] [] s.2 :=
  iter_W (fun s : Int32 × AH => PT X 10 0 0 24 [(0, .ref x0), (1, .ref x1), (2, .ref x2), (3, .ref x3), (4, .int x4), (5, .int x5), (6, .int x6), (7, .int s.1)] [] s.2) (fun r : (AH) => PT X 10 0 0 213 [] [] r) _ (fun s s2 hf P => w_X9_tryFrom_d1_L24 C rec hrec x0 x1 x2 x3 x4 x5 x6 s _ hf (fun u7 hu e => by cases e; exact P) (fun hu e => by cases e)) (fun s r hf P => w_X9_tryFrom_d1_L24 C rec hrec x0 x1 x2 x3 x4 x5 x6 s _ hf (fun u7 hu e => by cases e) (fun hu e => by cases e; exact P))
set_option maxRecDepth 100000 in
set_option maxHeartbeats 4000000 in
theorem w_X9_tryFrom_d1_0 {X : MX} (C : CX X cX9_tryFrom 10 RX9 none rmX9_tryFrom_d1) (rec : Nat → Nat → Nat → Nat → Int32 → Int32 → Int32 → AH → Option (AH)) (hrec : ∀ (l : Launch) (a0 : Nat) (a1 : Nat) (a2 : Nat) (a3 : Nat) (a4 : Int32) (a5 : Int32) (a6 : Int32) (h : AH) (q : AH), rec a0 a1 a2 a3 a4 a5 a6 h = some q → Con l yX9_tryFrom cX9_tryFrom 10 none rmX9_tryFrom_d0 [.ref a0, .ref a1, .ref a2, .ref a3, .int a4, .int a5, .int a6] h none q) (a0 : Nat) (a1 : Nat) (a2 : Nat) (a3 : Nat) (a4 : Int32) (a5 : Int32) (a6 : Int32) (h : AH) (res : AH) (hf : f_X9_tryFrom rec a0 a1 a2 a3 a4 a5 a6 h = some res) (K : PR X rmX9_tryFrom_d1 none res) : PT X 10 0 0 0 [(0, .ref a0), (1, .ref a1), (2, .ref a2), (3, .ref a3), (4, .int a4), (5, .int a5), (6, .int a6)] [] h := by
  unfold f_X9_tryFrom at hf
  refine pt_iload C 5 rfl dX9_tryFrom_0 ?_
  refine pt_if_lt C (tgt := 20) (by decide) dX9_tryFrom_2 (fun c1 => ?_) (fun c1 => ?_)
  · rw [if_pos c1] at hf
    obtain rfl := Option.some.inj hf
    exact pt_vret C K (by decide) (by decide) dX9_tryFrom_20
  · rw [if_neg c1] at hf
    refine pt_iload C 5 rfl dX9_tryFrom_5 ?_
    refine pt_aload_n C 3 rfl rfl dX9_tryFrom_7 ?_
    refine ob hf (fun _ g4 hf => ?_)
    refine ob hf (fun q2 g3 hf => ?_)
    refine pt_callV C (As := []) (rest := [.int a5]) (v := (some (.int q2.1))) (fun l => con_Jx4a65c_size_8abf5 l a3 h _ g3) tw_363 tw_637 tw_361 tw_362 kJx4a65c g4 tw_5 yn_Jx4a65c_size_8abf5 (by decide) (Nat.le_of_ble_eq_true rfl) dX9_tryFrom_8 rfl ?_
    show PT X 10 0 0 11 [(0, .ref a0), (1, .ref a1), (2, .ref a2), (3, .ref a3), (4, .int a4), (5, .int a5), (6, .int a6)] [.int q2.1, .int a5] q2.2
    refine pt_icmp_ge C (tgt := 20) (by decide) dX9_tryFrom_11 (fun c5 => ?_) (fun c5 => ?_)
    · rw [if_pos c5] at hf
      obtain rfl := Option.some.inj hf
      exact pt_vret C K (by decide) (by decide) dX9_tryFrom_20
    · rw [if_neg c5] at hf
      refine pt_iload C 5 rfl dX9_tryFrom_14 ?_
      refine pt_iconst C (v := 4) (by decide) dX9_tryFrom_16 ?_
      refine pt_icmp_lt C (tgt := 21) (by decide) dX9_tryFrom_17 (fun c6 => ?_) (fun c6 => ?_)
      · rw [if_pos c6] at hf
        refine pt_iconst C (v := 0) (by decide) dX9_tryFrom_21 ?_
        refine pt_istore C [(7, .int 0), (0, .ref a0), (1, .ref a1), (2, .ref a2), (3, .ref a3), (4, .int a4), (5, .int a5), (6, .int a6)] (by decide) rfl dX9_tryFrom_22 ?_
        refine pt_sub C [(0, .ref a0), (1, .ref a1), (2, .ref a2), (3, .ref a3), (4, .int a4), (5, .int a5), (6, .int a6), (7, .int 0)] [1, 2, 3, 4, 5, 6, 7, 0] rfl ?_
        refine ob hf (fun e78 g79 hf => ?_)
        refine l_X9_tryFrom_d1_L24 C rec hrec a0 a1 a2 a3 a4 a5 a6 _ _ _ g79 ?_
        obtain rfl := Option.some.inj hf
        exact pt_vret C K (by decide) (by decide) dX9_tryFrom_213
      · rw [if_neg c6] at hf
        obtain rfl := Option.some.inj hf
        exact pt_vret C K (by decide) (by decide) dX9_tryFrom_20
theorem con_X9_tryFrom_d1 (l : Launch) (a0 : Nat) (a1 : Nat) (a2 : Nat) (a3 : Nat) (a4 : Int32) (a5 : Int32) (a6 : Int32) (h : AH) (q : AH) (hf : f_X9_tryFrom_d1 a0 a1 a2 a3 a4 a5 a6 h = some q) : Con l yX9_tryFrom cX9_tryFrom 10 none rmX9_tryFrom_d1 [.ref a0, .ref a1, .ref a2, .ref a3, .int a4, .int a5, .int a6] h none q := Con.of (by decide +kernel) (Nat.le_of_ble_eq_true rfl) (fun X C I K => w_X9_tryFrom_d1_0 C f_X9_tryFrom_d0 con_X9_tryFrom_d0 a0 a1 a2 a3 a4 a5 a6 h q hf K)
abbrev rmX9_tryFrom_d2 : Room := { frames := 5, cells := 0, slots := 0, locals := 126 }
set_option maxRecDepth 100000 in
set_option maxHeartbeats 4000000 in
theorem w_X9_tryFrom_d2_L24 {X : MX} (C : CX X cX9_tryFrom 10 RX9 none rmX9_tryFrom_d2) (rec : Nat → Nat → Nat → Nat → Int32 → Int32 → Int32 → AH → Option (AH)) (hrec : ∀ (l : Launch) (a0 : Nat) (a1 : Nat) (a2 : Nat) (a3 : Nat) (a4 : Int32) (a5 : Int32) (a6 : Int32) (h : AH) (q : AH), rec a0 a1 a2 a3 a4 a5 a6 h = some q → Con l yX9_tryFrom cX9_tryFrom 10 none rmX9_tryFrom_d1 [.ref a0, .ref a1, .ref a2, .ref a3, .int a4, .int a5, .int a6] h none q) (x0 : Nat) (x1 : Nat) (x2 : Nat) (x3 : Nat) (x4 : Int32) (x5 : Int32) (x6 : Int32) (s : Int32 × AH) (res : (Int32 × AH) ⊕ ((AH))) (hf : f_X9_tryFrom_L24 rec x0 x1 x2 x3 x4 x5 x6 s = some res) (K0 : ∀ (u7 : Int32) (hu : AH), res = .inl (u7, hu) → PT X 10 0 0 24 [(0, .ref x0), (1, .ref x1), (2, .ref x2), (3, .ref x3), (4, .int x4), (5, .int x5), (6, .int x6), (7, .int u7)] [] hu) (K1 : ∀ (hu : AH), res = .inr (hu) → PT X 10 0 0 213 [] [] hu) : PT X 10 0 0 24 [(0, .ref x0), (1, .ref x1), (2, .ref x2), (3, .ref x3), (4, .int x4), (5, .int x5), (6, .int x6), (7, .int s.1)] [] s.2 := by
  unfold f_X9_tryFrom_L24 at hf
  refine pt_iload C 7 rfl dX9_tryFrom_24 ?_
  refine pt_aload_n C 1 rfl rfl dX9_tryFrom_26 ?_
  refine ob hf (fun _ g9 hf => ?_)
  refine ob hf (fun q7 g8 hf => ?_)
  refine pt_callV C (As := []) (rest := [.int s.1]) (v := (some (.int q7.1))) (fun l => con_Jx4a65c_size_8abf5 l x1 s.2 _ g8) tw_363 tw_637 tw_361 tw_362 kJx4a65c g9 tw_5 yn_Jx4a65c_size_8abf5 (by decide) (Nat.le_of_ble_eq_true rfl) dX9_tryFrom_27 rfl ?_
  show PT X 10 0 0 30 [(0, .ref x0), (1, .ref x1), (2, .ref x2), (3, .ref x3), (4, .int x4), (5, .int x5), (6, .int x6), (7, .int s.1)] [.int q7.1, .int s.1] q7.2
  refine pt_icmp_ge C (tgt := 213) (by decide) dX9_tryFrom_30 (fun c10 => ?_) (fun c10 => ?_)
  · rw [if_pos c10] at hf
    refine pt_sub C [] [] rfl ?_
    exact K1 _ (Option.some.inj hf).symm
  · rw [if_neg c10] at hf
    refine pt_aload_n C 0 rfl rfl dX9_tryFrom_33 ?_
    refine ob hf (fun v11 g12 hf => ?_)
    refine pt_getR C kX9 1 (by decide) tw_184 (Or.inl rfl) g12 dX9_tryFrom_34 ?_
    refine pt_iload C 5 rfl dX9_tryFrom_37 ?_
    refine ob hf (fun v13 g14 hf => ?_)
    refine pt_aald4 C g14 dX9_tryFrom_39 ?_
    refine pt_aload_n C 0 rfl rfl dX9_tryFrom_40 ?_
    refine ob hf (fun v15 g16 hf => ?_)
    refine pt_getR C kX9 0 (by decide) tw_183 (Or.inl rfl) g16 dX9_tryFrom_41 ?_
    refine ob hf (fun v17 g18 hf => ?_)
    refine pt_getR C kX1 0 (by decide) tw_139 (Or.inl rfl) g18 dX9_tryFrom_44 ?_
    refine ob hf (fun q19 g20 hf => ?_)
    refine pt_callSN C (As := [.ref v13, .ref v17]) (rest := []) (v := none) (fun l => con_X11_copy l v13 v17 q7.2 _ g20) tw_389 (host := "HeaveSongs") (by decide +kernel) tw_388 tw_1 yn_X11_copy (by decide) (Nat.le_of_ble_eq_true rfl) dX9_tryFrom_47 rfl ?_
    show PT X 10 0 0 50 [(0, .ref x0), (1, .ref x1), (2, .ref x2), (3, .ref x3), (4, .int x4), (5, .int x5), (6, .int x6), (7, .int s.1)] [] q19
    refine pt_aload_n C 0 rfl rfl dX9_tryFrom_50 ?_
    refine ob hf (fun v21 g22 hf => ?_)
    refine pt_getI C kX9 4 (by decide) tw_188 (Or.inl rfl) g22 dX9_tryFrom_51 ?_
    refine pt_iconst C (v := 1) (by decide) dX9_tryFrom_54 ?_
    refine pt_isub C dX9_tryFrom_55 ?_
    refine pt_iload C 6 rfl dX9_tryFrom_56 ?_
    refine pt_isub C dX9_tryFrom_58 ?_
    refine pt_istore C [(8, .int ((v21 - 1) - x6)), (0, .ref x0), (1, .ref x1), (2, .ref x2), (3, .ref x3), (4, .int x4), (5, .int x5), (6, .int x6), (7, .int s.1)] (by decide) rfl dX9_tryFrom_59 ?_
    refine pt_aload_n C 1 rfl rfl dX9_tryFrom_61 ?_
    refine ob hf (fun v23 g24 hf => ?_)
    refine pt_getR C kX9 0 (by decide) tw_183 (Or.inl rfl) g24 dX9_tryFrom_62 ?_
    refine pt_aload_n C 3 rfl rfl dX9_tryFrom_65 ?_
    refine pt_aload_n C 2 rfl rfl dX9_tryFrom_66 ?_
    refine pt_iload C 8 rfl dX9_tryFrom_67 ?_
    refine ob hf (fun _ g27 hf => ?_)
    refine ob hf (fun q25 g26 hf => ?_)
    refine pt_callV C (As := [.int s.1]) (rest := [.ref x2, .ref v23]) (v := (some (.ref q25.1))) (fun l => con_Jx4a65c_get_915e3 l x1 s.1 q19 _ g26) tw_465 tw_638 tw_463 tw_464 kJx4a65c g27 tw_5 yn_Jx4a65c_get_915e3 (by decide) (Nat.le_of_ble_eq_true rfl) dX9_tryFrom_69 rfl ?_
    show PT X 10 0 0 72 [(8, .int ((v21 - 1) - x6)), (0, .ref x0), (1, .ref x1), (2, .ref x2), (3, .ref x3), (4, .int x4), (5, .int x5), (6, .int x6), (7, .int s.1)] [.ref q25.1, .ref x2, .ref v23] q25.2
    refine ob hf (fun _ g28 hf => ?_)
    refine pt_cast C kX7 tw_639 g28 dX9_tryFrom_72 ?_
    refine pt_aload_n C 4 rfl rfl dX9_tryFrom_75 ?_
    refine pt_iload C 6 rfl dX9_tryFrom_76 ?_
    refine ob hf (fun _ g31 hf => ?_)
    refine ob hf (fun q29 g30 hf => ?_)
    refine pt_callV C (As := [.int x5]) (rest := [.ref q25.1, .ref x2, .ref v23]) (v := (some (.ref q29.1))) (fun l => con_Jx4a65c_get_915e3 l x3 x5 q25.2 _ g30) tw_465 tw_638 tw_463 tw_464 kJx4a65c g31 tw_5 yn_Jx4a65c_get_915e3 (by decide) (Nat.le_of_ble_eq_true rfl) dX9_tryFrom_78 rfl ?_
    show PT X 10 0 0 81 [(8, .int ((v21 - 1) - x6)), (0, .ref x0), (1, .ref x1), (2, .ref x2), (3, .ref x3), (4, .int x4), (5, .int x5), (6, .int x6), (7, .int s.1)] [.ref q29.1, .ref q25.1, .ref x2, .ref v23] q29.2
    refine ob hf (fun _ g32 hf => ?_)
    refine pt_cast C kX8 tw_640 g32 dX9_tryFrom_81 ?_
    refine pt_iload C 0 rfl dX9_tryFrom_84 ?_
    refine ob hf (fun _ g35 hf => ?_)
    refine ob hf (fun q33 g34 hf => ?_)
    refine pt_callV C (As := [.ref x2, .ref q25.1, .ref q29.1, .int ((v21 - 1) - x6)]) (rest := []) (v := (some (.int q33.1))) (fun l => con_X1_go l v23 x2 q25.1 q29.1 ((v21 - 1) - x6) q29.2 _ g34) tw_565 tw_641 tw_563 tw_564 kX1 g35 tw_7 yn_X1_go (by decide) (Nat.le_of_ble_eq_true rfl) dX9_tryFrom_86 rfl ?_
    show PT X 10 0 0 89 [(8, .int ((v21 - 1) - x6)), (0, .ref x0), (1, .ref x1), (2, .ref x2), (3, .ref x3), (4, .int x4), (5, .int x5), (6, .int x6), (7, .int s.1)] [.int q33.1] q33.2
    refine pt_if_ne C (tgt := 95) (by decide) dX9_tryFrom_89 (fun c36 => ?_) (fun c36 => ?_)
    · rw [if_neg c36] at hf
      refine pt_aload_n C 1 rfl rfl dX9_tryFrom_95 ?_
      refine ob hf (fun v37 g38 hf => ?_)
      refine pt_getR C kX9 2 (by decide) tw_185 (Or.inl rfl) g38 dX9_tryFrom_96 ?_
      refine pt_iload C 6 rfl dX9_tryFrom_99 ?_
      refine pt_iload C 8 rfl dX9_tryFrom_101 ?_
      refine ob hf (fun h39 g40 hf => ?_)
      refine pt_iast C g40 dX9_tryFrom_103 ?_
      refine pt_iload C 7 rfl dX9_tryFrom_104 ?_
      refine pt_aload_n C 1 rfl rfl dX9_tryFrom_106 ?_
      refine ob hf (fun v41 g42 hf => ?_)
      refine pt_getR C kX9 0 (by decide) tw_183 (Or.inl rfl) g42 dX9_tryFrom_107 ?_
      refine ob hf (fun v43 g44 hf => ?_)
      refine pt_getI C kX1 7 (by decide) tw_152 (Or.inl rfl) g44 dX9_tryFrom_110 ?_
      refine pt_iadd C dX9_tryFrom_113 ?_
      refine pt_istore C [(9, .int (x6 + v43)), (8, .int ((v21 - 1) - x6)), (0, .ref x0), (1, .ref x1), (2, .ref x2), (3, .ref x3), (4, .int x4), (5, .int x5), (6, .int x6), (7, .int s.1)] (by decide) rfl dX9_tryFrom_114 ?_
      refine pt_iload C 7 rfl dX9_tryFrom_116 ?_
      refine pt_aload_n C 5 rfl rfl dX9_tryFrom_118 ?_
      refine ob hf (fun _ g47 hf => ?_)
      refine ob hf (fun q45 g46 hf => ?_)
      refine pt_callV C (As := []) (rest := [.int x5]) (v := (some (.int q45.1))) (fun l => con_Jx4a65c_size_8abf5 l x3 h39 _ g46) tw_363 tw_637 tw_361 tw_362 kJx4a65c g47 tw_5 yn_Jx4a65c_size_8abf5 (by decide) (Nat.le_of_ble_eq_true rfl) dX9_tryFrom_119 rfl ?_
      show PT X 10 0 0 122 [(9, .int (x6 + v43)), (8, .int ((v21 - 1) - x6)), (0, .ref x0), (1, .ref x1), (2, .ref x2), (3, .ref x3), (4, .int x4), (5, .int x5), (6, .int x6), (7, .int s.1)] [.int q45.1, .int x5] q45.2
      refine pt_iconst C (v := 1) (by decide) dX9_tryFrom_122 ?_
      refine pt_isub C dX9_tryFrom_123 ?_
      refine pt_icmp_ne C (tgt := 147) (by decide) dX9_tryFrom_124 (fun c48 => ?_) (fun c48 => ?_)
      · rw [if_neg c48] at hf
        refine pt_iload C 7 rfl dX9_tryFrom_147 ?_
        refine pt_iconst C (v := 1) (by decide) dX9_tryFrom_149 ?_
        refine pt_iadd C dX9_tryFrom_150 ?_
        refine pt_iconst C (v := 4) (by decide) dX9_tryFrom_151 ?_
        refine pt_icmp_ge C (tgt := 207) (by decide) dX9_tryFrom_152 (fun c49 => ?_) (fun c49 => ?_)
        · rw [if_pos c49] at hf
          refine pt_iinc C 9 [(7, .int (s.1 + 1)), (9, .int (x6 + v43)), (8, .int ((v21 - 1) - x6)), (0, .ref x0), (1, .ref x1), (2, .ref x2), (3, .ref x3), (4, .int x4), (5, .int x5), (6, .int x6)] rfl (iinc_eq s.1 (by decide)) (by decide) rfl dX9_tryFrom_207 ?_
          refine pt_goto C (tgt := 24) (by decide) dX9_tryFrom_210 ?_
          refine pt_sub C [(0, .ref x0), (1, .ref x1), (2, .ref x2), (3, .ref x3), (4, .int x4), (5, .int x5), (6, .int x6), (7, .int (s.1 + 1))] [3, 4, 5, 6, 7, 8, 9, 0] rfl ?_
          exact K0 _ _ (Option.some.inj hf).symm
        · rw [if_neg c49] at hf
          refine pt_aload_n C 2 rfl rfl dX9_tryFrom_155 ?_
          refine ob hf (fun v50 g51 hf => ?_)
          refine pt_getR C kX9 0 (by decide) tw_183 (Or.inl rfl) g51 dX9_tryFrom_156 ?_
          refine ob hf (fun v52 g53 hf => ?_)
          refine pt_getR C kX1 0 (by decide) tw_139 (Or.inl rfl) g53 dX9_tryFrom_159 ?_
          refine pt_aload_n C 2 rfl rfl dX9_tryFrom_162 ?_
          refine ob hf (fun v54 g55 hf => ?_)
          refine pt_getR C kX9 1 (by decide) tw_184 (Or.inl rfl) g55 dX9_tryFrom_163 ?_
          refine pt_iload C 7 rfl dX9_tryFrom_166 ?_
          refine pt_iconst C (v := 1) (by decide) dX9_tryFrom_168 ?_
          refine pt_iadd C dX9_tryFrom_169 ?_
          refine ob hf (fun v56 g57 hf => ?_)
          refine pt_aald4 C g57 dX9_tryFrom_170 ?_
          refine ob hf (fun q58 g59 hf => ?_)
          refine pt_callSN C (As := [.ref v52, .ref v56]) (rest := []) (v := none) (fun l => con_X11_copy l v52 v56 q45.2 _ g59) tw_389 (host := "HeaveSongs") (by decide +kernel) tw_388 tw_1 yn_X11_copy (by decide) (Nat.le_of_ble_eq_true rfl) dX9_tryFrom_171 rfl ?_
          show PT X 10 0 0 174 [(9, .int (x6 + v43)), (8, .int ((v21 - 1) - x6)), (0, .ref x0), (1, .ref x1), (2, .ref x2), (3, .ref x3), (4, .int x4), (5, .int x5), (6, .int x6), (7, .int s.1)] [] q58
          refine pt_aload_n C 4 rfl rfl dX9_tryFrom_174 ?_
          refine pt_iload C 6 rfl dX9_tryFrom_175 ?_
          refine pt_aload_n C 2 rfl rfl dX9_tryFrom_177 ?_
          refine ob hf (fun v60 g61 hf => ?_)
          refine pt_getR C kX9 1 (by decide) tw_184 (Or.inl rfl) g61 dX9_tryFrom_178 ?_
          refine pt_iload C 7 rfl dX9_tryFrom_181 ?_
          refine pt_iconst C (v := 1) (by decide) dX9_tryFrom_183 ?_
          refine pt_iadd C dX9_tryFrom_184 ?_
          refine ob hf (fun v62 g63 hf => ?_)
          refine pt_aald4 C g63 dX9_tryFrom_185 ?_
          refine ob hf (fun _ g66 hf => ?_)
          refine ob hf (fun q64 g65 hf => ?_)
          refine pt_callV C (As := [.int x4, .ref v62]) (rest := []) (v := none) (fun l => con_X0_restFor l x2 x4 v62 q58 _ g65) tw_524 tw_642 tw_522 tw_523 kX0 g66 tw_6 yn_X0_restFor (by decide) (Nat.le_of_ble_eq_true rfl) dX9_tryFrom_186 rfl ?_
          show PT X 10 0 0 189 [(9, .int (x6 + v43)), (8, .int ((v21 - 1) - x6)), (0, .ref x0), (1, .ref x1), (2, .ref x2), (3, .ref x3), (4, .int x4), (5, .int x5), (6, .int x6), (7, .int s.1)] [] q64
          refine pt_aload_n C 2 rfl rfl dX9_tryFrom_189 ?_
          refine pt_aload_n C 3 rfl rfl dX9_tryFrom_190 ?_
          refine pt_aload_n C 4 rfl rfl dX9_tryFrom_191 ?_
          refine pt_aload_n C 5 rfl rfl dX9_tryFrom_192 ?_
          refine pt_iload C 6 rfl dX9_tryFrom_193 ?_
          refine pt_iload C 7 rfl dX9_tryFrom_195 ?_
          refine pt_iconst C (v := 1) (by decide) dX9_tryFrom_197 ?_
          refine pt_iadd C dX9_tryFrom_198 ?_
          refine pt_iload C 0 rfl dX9_tryFrom_199 ?_
          refine pt_iload C 6 rfl dX9_tryFrom_201 ?_
          refine pt_iadd C dX9_tryFrom_203 ?_
          refine ob hf (fun _ g69 hf => ?_)
          refine ob hf (fun q67 g68 hf => ?_)
          refine pt_callV C (As := [.ref x1, .ref x2, .ref x3, .int x4, .int (x5 + 1), .int ((x6 + v43) + x4)]) (rest := []) (v := none) (fun l => hrec l x0 x1 x2 x3 x4 (x5 + 1) ((x6 + v43) + x4) q64 _ g68) tw_636 tw_633 tw_635 tp_10 kX9 g69 tw_8 yn_X9_tryFrom (by decide) (Nat.le_of_ble_eq_true rfl) dX9_tryFrom_204 rfl ?_
          show PT X 10 0 0 207 [(9, .int (x6 + v43)), (8, .int ((v21 - 1) - x6)), (0, .ref x0), (1, .ref x1), (2, .ref x2), (3, .ref x3), (4, .int x4), (5, .int x5), (6, .int x6), (7, .int s.1)] [] q67
          refine pt_iinc C 9 [(7, .int (s.1 + 1)), (9, .int (x6 + v43)), (8, .int ((v21 - 1) - x6)), (0, .ref x0), (1, .ref x1), (2, .ref x2), (3, .ref x3), (4, .int x4), (5, .int x5), (6, .int x6)] rfl (iinc_eq s.1 (by decide)) (by decide) rfl dX9_tryFrom_207 ?_
          refine pt_goto C (tgt := 24) (by decide) dX9_tryFrom_210 ?_
          refine pt_sub C [(0, .ref x0), (1, .ref x1), (2, .ref x2), (3, .ref x3), (4, .int x4), (5, .int x5), (6, .int x6), (7, .int (s.1 + 1))] [3, 4, 5, 6, 7, 8, 9, 0] rfl ?_
          exact K0 _ _ (Option.some.inj hf).symm
      · rw [if_pos c48] at hf
        refine pt_aload_n C 2 rfl rfl dX9_tryFrom_127 ?_
        refine pt_iload C 0 rfl dX9_tryFrom_128 ?_
        refine ob hf (fun h70 g71 hf => ?_)
        refine pt_put C kX9 4 (by decide) tw_188 (Or.inl rfl) rfl rfl rfl g71 dX9_tryFrom_130 ?_
        refine pt_aload_n C 2 rfl rfl dX9_tryFrom_133 ?_
        refine ob hf (fun v72 g73 hf => ?_)
        refine pt_getR C kX9 2 (by decide) tw_185 (Or.inl rfl) g73 dX9_tryFrom_134 ?_
        refine pt_aload_n C 2 rfl rfl dX9_tryFrom_137 ?_
        refine ob hf (fun v74 g75 hf => ?_)
        refine pt_getR C kX9 3 (by decide) tw_186 (Or.inl rfl) g75 dX9_tryFrom_138 ?_
        refine ob hf (fun q76 g77 hf => ?_)
        refine pt_callSN C (As := [.ref v72, .ref v74]) (rest := []) (v := none) (fun l => con_X11_copy l v72 v74 h70 _ g77) tw_389 (host := "HeaveSongs") (by decide +kernel) tw_388 tw_1 yn_X11_copy (by decide) (Nat.le_of_ble_eq_true rfl) dX9_tryFrom_141 rfl ?_
        show PT X 10 0 0 144 [(9, .int (x6 + v43)), (8, .int ((v21 - 1) - x6)), (0, .ref x0), (1, .ref x1), (2, .ref x2), (3, .ref x3), (4, .int x4), (5, .int x5), (6, .int x6), (7, .int s.1)] [] q76
        refine pt_goto C (tgt := 207) (by decide) dX9_tryFrom_144 ?_
        refine pt_iinc C 9 [(7, .int (s.1 + 1)), (9, .int (x6 + v43)), (8, .int ((v21 - 1) - x6)), (0, .ref x0), (1, .ref x1), (2, .ref x2), (3, .ref x3), (4, .int x4), (5, .int x5), (6, .int x6)] rfl (iinc_eq s.1 (by decide)) (by decide) rfl dX9_tryFrom_207 ?_
        refine pt_goto C (tgt := 24) (by decide) dX9_tryFrom_210 ?_
        refine pt_sub C [(0, .ref x0), (1, .ref x1), (2, .ref x2), (3, .ref x3), (4, .int x4), (5, .int x5), (6, .int x6), (7, .int (s.1 + 1))] [3, 4, 5, 6, 7, 8, 9, 0] rfl ?_
        exact K0 _ _ (Option.some.inj hf).symm
    · rw [if_pos c36] at hf
      refine pt_goto C (tgt := 207) (by decide) dX9_tryFrom_92 ?_
      refine pt_iinc C 8 [(7, .int (s.1 + 1)), (8, .int ((v21 - 1) - x6)), (0, .ref x0), (1, .ref x1), (2, .ref x2), (3, .ref x3), (4, .int x4), (5, .int x5), (6, .int x6)] rfl (iinc_eq s.1 (by decide)) (by decide) rfl dX9_tryFrom_207 ?_
      refine pt_goto C (tgt := 24) (by decide) dX9_tryFrom_210 ?_
      refine pt_sub C [(0, .ref x0), (1, .ref x1), (2, .ref x2), (3, .ref x3), (4, .int x4), (5, .int x5), (6, .int x6), (7, .int (s.1 + 1))] [2, 3, 4, 5, 6, 7, 8, 0] rfl ?_
      exact K0 _ _ (Option.some.inj hf).symm
theorem l_X9_tryFrom_d2_L24 {X : MX} (C : CX X cX9_tryFrom 10 RX9 none rmX9_tryFrom_d2) (rec : Nat → Nat → Nat → Nat → Int32 → Int32 → Int32 → AH → Option (AH)) (hrec : ∀ (l : Launch) (a0 : Nat) (a1 : Nat) (a2 : Nat) (a3 : Nat) (a4 : Int32) (a5 : Int32) (a6 : Int32) (h : AH) (q : AH), rec a0 a1 a2 a3 a4 a5 a6 h = some q → Con l yX9_tryFrom cX9_tryFrom 10 none rmX9_tryFrom_d1 [.ref a0, .ref a1, .ref a2, .ref a3, .int a4, .int a5, .int a6] h none q) (x0 : Nat) (x1 : Nat) (x2 : Nat) (x3 : Nat) (x4 : Int32) (x5 : Int32) (x6 : Int32) : ∀ (n : Nat) (s : Int32 × AH) (r : (AH)), iter (f_X9_tryFrom_L24 rec x0 x1 x2 x3 x4 x5 x6) n s = some r → (fun r : (AH) => PT X 10 0 0 213 [] [] r) r → PT X 10 0 0 24 [(0, .ref x0), (1, .ref x1), (2, .ref x2), (3, .ref x3), (4, .int x4), (5, .int x5), (6, .int x6), (7, .int s.1)] [] s.2 :=
  iter_W (fun s : Int32 × AH => PT X 10 0 0 24 [(0, .ref x0), (1, .ref x1), (2, .ref x2), (3, .ref x3), (4, .int x4), (5, .int x5), (6, .int x6), (7, .int s.1)] [] s.2) (fun r : (AH) => PT X 10 0 0 213 [] [] r) _ (fun s s2 hf P => w_X9_tryFrom_d2_L24 C rec hrec x0 x1 x2 x3 x4 x5 x6 s _ hf (fun u7 hu e => by cases e; exact P) (fun hu e => by cases e)) (fun s r hf P => w_X9_tryFrom_d2_L24 C rec hrec x0 x1 x2 x3 x4 x5 x6 s _ hf (fun u7 hu e => by cases e) (fun hu e => by cases e; exact P))
set_option maxRecDepth 100000 in
set_option maxHeartbeats 4000000 in
theorem w_X9_tryFrom_d2_0 {X : MX} (C : CX X cX9_tryFrom 10 RX9 none rmX9_tryFrom_d2) (rec : Nat → Nat → Nat → Nat → Int32 → Int32 → Int32 → AH → Option (AH)) (hrec : ∀ (l : Launch) (a0 : Nat) (a1 : Nat) (a2 : Nat) (a3 : Nat) (a4 : Int32) (a5 : Int32) (a6 : Int32) (h : AH) (q : AH), rec a0 a1 a2 a3 a4 a5 a6 h = some q → Con l yX9_tryFrom cX9_tryFrom 10 none rmX9_tryFrom_d1 [.ref a0, .ref a1, .ref a2, .ref a3, .int a4, .int a5, .int a6] h none q) (a0 : Nat) (a1 : Nat) (a2 : Nat) (a3 : Nat) (a4 : Int32) (a5 : Int32) (a6 : Int32) (h : AH) (res : AH) (hf : f_X9_tryFrom rec a0 a1 a2 a3 a4 a5 a6 h = some res) (K : PR X rmX9_tryFrom_d2 none res) : PT X 10 0 0 0 [(0, .ref a0), (1, .ref a1), (2, .ref a2), (3, .ref a3), (4, .int a4), (5, .int a5), (6, .int a6)] [] h := by
  unfold f_X9_tryFrom at hf
  refine pt_iload C 5 rfl dX9_tryFrom_0 ?_
  refine pt_if_lt C (tgt := 20) (by decide) dX9_tryFrom_2 (fun c1 => ?_) (fun c1 => ?_)
  · rw [if_pos c1] at hf
    obtain rfl := Option.some.inj hf
    exact pt_vret C K (by decide) (by decide) dX9_tryFrom_20
  · rw [if_neg c1] at hf
    refine pt_iload C 5 rfl dX9_tryFrom_5 ?_
    refine pt_aload_n C 3 rfl rfl dX9_tryFrom_7 ?_
    refine ob hf (fun _ g4 hf => ?_)
    refine ob hf (fun q2 g3 hf => ?_)
    refine pt_callV C (As := []) (rest := [.int a5]) (v := (some (.int q2.1))) (fun l => con_Jx4a65c_size_8abf5 l a3 h _ g3) tw_363 tw_637 tw_361 tw_362 kJx4a65c g4 tw_5 yn_Jx4a65c_size_8abf5 (by decide) (Nat.le_of_ble_eq_true rfl) dX9_tryFrom_8 rfl ?_
    show PT X 10 0 0 11 [(0, .ref a0), (1, .ref a1), (2, .ref a2), (3, .ref a3), (4, .int a4), (5, .int a5), (6, .int a6)] [.int q2.1, .int a5] q2.2
    refine pt_icmp_ge C (tgt := 20) (by decide) dX9_tryFrom_11 (fun c5 => ?_) (fun c5 => ?_)
    · rw [if_pos c5] at hf
      obtain rfl := Option.some.inj hf
      exact pt_vret C K (by decide) (by decide) dX9_tryFrom_20
    · rw [if_neg c5] at hf
      refine pt_iload C 5 rfl dX9_tryFrom_14 ?_
      refine pt_iconst C (v := 4) (by decide) dX9_tryFrom_16 ?_
      refine pt_icmp_lt C (tgt := 21) (by decide) dX9_tryFrom_17 (fun c6 => ?_) (fun c6 => ?_)
      · rw [if_pos c6] at hf
        refine pt_iconst C (v := 0) (by decide) dX9_tryFrom_21 ?_
        refine pt_istore C [(7, .int 0), (0, .ref a0), (1, .ref a1), (2, .ref a2), (3, .ref a3), (4, .int a4), (5, .int a5), (6, .int a6)] (by decide) rfl dX9_tryFrom_22 ?_
        refine pt_sub C [(0, .ref a0), (1, .ref a1), (2, .ref a2), (3, .ref a3), (4, .int a4), (5, .int a5), (6, .int a6), (7, .int 0)] [1, 2, 3, 4, 5, 6, 7, 0] rfl ?_
        refine ob hf (fun e78 g79 hf => ?_)
        refine l_X9_tryFrom_d2_L24 C rec hrec a0 a1 a2 a3 a4 a5 a6 _ _ _ g79 ?_
        obtain rfl := Option.some.inj hf
        exact pt_vret C K (by decide) (by decide) dX9_tryFrom_213
      · rw [if_neg c6] at hf
        obtain rfl := Option.some.inj hf
        exact pt_vret C K (by decide) (by decide) dX9_tryFrom_20
theorem con_X9_tryFrom_d2 (l : Launch) (a0 : Nat) (a1 : Nat) (a2 : Nat) (a3 : Nat) (a4 : Int32) (a5 : Int32) (a6 : Int32) (h : AH) (q : AH) (hf : f_X9_tryFrom_d2 a0 a1 a2 a3 a4 a5 a6 h = some q) : Con l yX9_tryFrom cX9_tryFrom 10 none rmX9_tryFrom_d2 [.ref a0, .ref a1, .ref a2, .ref a3, .int a4, .int a5, .int a6] h none q := Con.of (by decide +kernel) (Nat.le_of_ble_eq_true rfl) (fun X C I K => w_X9_tryFrom_d2_0 C f_X9_tryFrom_d1 con_X9_tryFrom_d1 a0 a1 a2 a3 a4 a5 a6 h q hf K)
abbrev rmX9_tryFrom_d3 : Room := { frames := 6, cells := 0, slots := 0, locals := 155 }
set_option maxRecDepth 100000 in
set_option maxHeartbeats 4000000 in
theorem w_X9_tryFrom_d3_L24 {X : MX} (C : CX X cX9_tryFrom 10 RX9 none rmX9_tryFrom_d3) (rec : Nat → Nat → Nat → Nat → Int32 → Int32 → Int32 → AH → Option (AH)) (hrec : ∀ (l : Launch) (a0 : Nat) (a1 : Nat) (a2 : Nat) (a3 : Nat) (a4 : Int32) (a5 : Int32) (a6 : Int32) (h : AH) (q : AH), rec a0 a1 a2 a3 a4 a5 a6 h = some q → Con l yX9_tryFrom cX9_tryFrom 10 none rmX9_tryFrom_d2 [.ref a0, .ref a1, .ref a2, .ref a3, .int a4, .int a5, .int a6] h none q) (x0 : Nat) (x1 : Nat) (x2 : Nat) (x3 : Nat) (x4 : Int32) (x5 : Int32) (x6 : Int32) (s : Int32 × AH) (res : (Int32 × AH) ⊕ ((AH))) (hf : f_X9_tryFrom_L24 rec x0 x1 x2 x3 x4 x5 x6 s = some res) (K0 : ∀ (u7 : Int32) (hu : AH), res = .inl (u7, hu) → PT X 10 0 0 24 [(0, .ref x0), (1, .ref x1), (2, .ref x2), (3, .ref x3), (4, .int x4), (5, .int x5), (6, .int x6), (7, .int u7)] [] hu) (K1 : ∀ (hu : AH), res = .inr (hu) → PT X 10 0 0 213 [] [] hu) : PT X 10 0 0 24 [(0, .ref x0), (1, .ref x1), (2, .ref x2), (3, .ref x3), (4, .int x4), (5, .int x5), (6, .int x6), (7, .int s.1)] [] s.2 := by
  unfold f_X9_tryFrom_L24 at hf
  refine pt_iload C 7 rfl dX9_tryFrom_24 ?_
  refine pt_aload_n C 1 rfl rfl dX9_tryFrom_26 ?_
  refine ob hf (fun _ g9 hf => ?_)
  refine ob hf (fun q7 g8 hf => ?_)
  refine pt_callV C (As := []) (rest := [.int s.1]) (v := (some (.int q7.1))) (fun l => con_Jx4a65c_size_8abf5 l x1 s.2 _ g8) tw_363 tw_637 tw_361 tw_362 kJx4a65c g9 tw_5 yn_Jx4a65c_size_8abf5 (by decide) (Nat.le_of_ble_eq_true rfl) dX9_tryFrom_27 rfl ?_
  show PT X 10 0 0 30 [(0, .ref x0), (1, .ref x1), (2, .ref x2), (3, .ref x3), (4, .int x4), (5, .int x5), (6, .int x6), (7, .int s.1)] [.int q7.1, .int s.1] q7.2
  refine pt_icmp_ge C (tgt := 213) (by decide) dX9_tryFrom_30 (fun c10 => ?_) (fun c10 => ?_)
  · rw [if_pos c10] at hf
    refine pt_sub C [] [] rfl ?_
    exact K1 _ (Option.some.inj hf).symm
  · rw [if_neg c10] at hf
    refine pt_aload_n C 0 rfl rfl dX9_tryFrom_33 ?_
    refine ob hf (fun v11 g12 hf => ?_)
    refine pt_getR C kX9 1 (by decide) tw_184 (Or.inl rfl) g12 dX9_tryFrom_34 ?_
    refine pt_iload C 5 rfl dX9_tryFrom_37 ?_
    refine ob hf (fun v13 g14 hf => ?_)
    refine pt_aald4 C g14 dX9_tryFrom_39 ?_
    refine pt_aload_n C 0 rfl rfl dX9_tryFrom_40 ?_
    refine ob hf (fun v15 g16 hf => ?_)
    refine pt_getR C kX9 0 (by decide) tw_183 (Or.inl rfl) g16 dX9_tryFrom_41 ?_
    refine ob hf (fun v17 g18 hf => ?_)
    refine pt_getR C kX1 0 (by decide) tw_139 (Or.inl rfl) g18 dX9_tryFrom_44 ?_
    refine ob hf (fun q19 g20 hf => ?_)
    refine pt_callSN C (As := [.ref v13, .ref v17]) (rest := []) (v := none) (fun l => con_X11_copy l v13 v17 q7.2 _ g20) tw_389 (host := "HeaveSongs") (by decide +kernel) tw_388 tw_1 yn_X11_copy (by decide) (Nat.le_of_ble_eq_true rfl) dX9_tryFrom_47 rfl ?_
    show PT X 10 0 0 50 [(0, .ref x0), (1, .ref x1), (2, .ref x2), (3, .ref x3), (4, .int x4), (5, .int x5), (6, .int x6), (7, .int s.1)] [] q19
    refine pt_aload_n C 0 rfl rfl dX9_tryFrom_50 ?_
    refine ob hf (fun v21 g22 hf => ?_)
    refine pt_getI C kX9 4 (by decide) tw_188 (Or.inl rfl) g22 dX9_tryFrom_51 ?_
    refine pt_iconst C (v := 1) (by decide) dX9_tryFrom_54 ?_
    refine pt_isub C dX9_tryFrom_55 ?_
    refine pt_iload C 6 rfl dX9_tryFrom_56 ?_
    refine pt_isub C dX9_tryFrom_58 ?_
    refine pt_istore C [(8, .int ((v21 - 1) - x6)), (0, .ref x0), (1, .ref x1), (2, .ref x2), (3, .ref x3), (4, .int x4), (5, .int x5), (6, .int x6), (7, .int s.1)] (by decide) rfl dX9_tryFrom_59 ?_
    refine pt_aload_n C 1 rfl rfl dX9_tryFrom_61 ?_
    refine ob hf (fun v23 g24 hf => ?_)
    refine pt_getR C kX9 0 (by decide) tw_183 (Or.inl rfl) g24 dX9_tryFrom_62 ?_
    refine pt_aload_n C 3 rfl rfl dX9_tryFrom_65 ?_
    refine pt_aload_n C 2 rfl rfl dX9_tryFrom_66 ?_
    refine pt_iload C 8 rfl dX9_tryFrom_67 ?_
    refine ob hf (fun _ g27 hf => ?_)
    refine ob hf (fun q25 g26 hf => ?_)
    refine pt_callV C (As := [.int s.1]) (rest := [.ref x2, .ref v23]) (v := (some (.ref q25.1))) (fun l => con_Jx4a65c_get_915e3 l x1 s.1 q19 _ g26) tw_465 tw_638 tw_463 tw_464 kJx4a65c g27 tw_5 yn_Jx4a65c_get_915e3 (by decide) (Nat.le_of_ble_eq_true rfl) dX9_tryFrom_69 rfl ?_
    show PT X 10 0 0 72 [(8, .int ((v21 - 1) - x6)), (0, .ref x0), (1, .ref x1), (2, .ref x2), (3, .ref x3), (4, .int x4), (5, .int x5), (6, .int x6), (7, .int s.1)] [.ref q25.1, .ref x2, .ref v23] q25.2
    refine ob hf (fun _ g28 hf => ?_)
    refine pt_cast C kX7 tw_639 g28 dX9_tryFrom_72 ?_
    refine pt_aload_n C 4 rfl rfl dX9_tryFrom_75 ?_
    refine pt_iload C 6 rfl dX9_tryFrom_76 ?_
    refine ob hf (fun _ g31 hf => ?_)
    refine ob hf (fun q29 g30 hf => ?_)
    refine pt_callV C (As := [.int x5]) (rest := [.ref q25.1, .ref x2, .ref v23]) (v := (some (.ref q29.1))) (fun l => con_Jx4a65c_get_915e3 l x3 x5 q25.2 _ g30) tw_465 tw_638 tw_463 tw_464 kJx4a65c g31 tw_5 yn_Jx4a65c_get_915e3 (by decide) (Nat.le_of_ble_eq_true rfl) dX9_tryFrom_78 rfl ?_
    show PT X 10 0 0 81 [(8, .int ((v21 - 1) - x6)), (0, .ref x0), (1, .ref x1), (2, .ref x2), (3, .ref x3), (4, .int x4), (5, .int x5), (6, .int x6), (7, .int s.1)] [.ref q29.1, .ref q25.1, .ref x2, .ref v23] q29.2
    refine ob hf (fun _ g32 hf => ?_)
    refine pt_cast C kX8 tw_640 g32 dX9_tryFrom_81 ?_
    refine pt_iload C 0 rfl dX9_tryFrom_84 ?_
    refine ob hf (fun _ g35 hf => ?_)
    refine ob hf (fun q33 g34 hf => ?_)
    refine pt_callV C (As := [.ref x2, .ref q25.1, .ref q29.1, .int ((v21 - 1) - x6)]) (rest := []) (v := (some (.int q33.1))) (fun l => con_X1_go l v23 x2 q25.1 q29.1 ((v21 - 1) - x6) q29.2 _ g34) tw_565 tw_641 tw_563 tw_564 kX1 g35 tw_7 yn_X1_go (by decide) (Nat.le_of_ble_eq_true rfl) dX9_tryFrom_86 rfl ?_
    show PT X 10 0 0 89 [(8, .int ((v21 - 1) - x6)), (0, .ref x0), (1, .ref x1), (2, .ref x2), (3, .ref x3), (4, .int x4), (5, .int x5), (6, .int x6), (7, .int s.1)] [.int q33.1] q33.2
    refine pt_if_ne C (tgt := 95) (by decide) dX9_tryFrom_89 (fun c36 => ?_) (fun c36 => ?_)
    · rw [if_neg c36] at hf
      refine pt_aload_n C 1 rfl rfl dX9_tryFrom_95 ?_
      refine ob hf (fun v37 g38 hf => ?_)
      refine pt_getR C kX9 2 (by decide) tw_185 (Or.inl rfl) g38 dX9_tryFrom_96 ?_
      refine pt_iload C 6 rfl dX9_tryFrom_99 ?_
      refine pt_iload C 8 rfl dX9_tryFrom_101 ?_
      refine ob hf (fun h39 g40 hf => ?_)
      refine pt_iast C g40 dX9_tryFrom_103 ?_
      refine pt_iload C 7 rfl dX9_tryFrom_104 ?_
      refine pt_aload_n C 1 rfl rfl dX9_tryFrom_106 ?_
      refine ob hf (fun v41 g42 hf => ?_)
      refine pt_getR C kX9 0 (by decide) tw_183 (Or.inl rfl) g42 dX9_tryFrom_107 ?_
      refine ob hf (fun v43 g44 hf => ?_)
      refine pt_getI C kX1 7 (by decide) tw_152 (Or.inl rfl) g44 dX9_tryFrom_110 ?_
      refine pt_iadd C dX9_tryFrom_113 ?_
      refine pt_istore C [(9, .int (x6 + v43)), (8, .int ((v21 - 1) - x6)), (0, .ref x0), (1, .ref x1), (2, .ref x2), (3, .ref x3), (4, .int x4), (5, .int x5), (6, .int x6), (7, .int s.1)] (by decide) rfl dX9_tryFrom_114 ?_
      refine pt_iload C 7 rfl dX9_tryFrom_116 ?_
      refine pt_aload_n C 5 rfl rfl dX9_tryFrom_118 ?_
      refine ob hf (fun _ g47 hf => ?_)
      refine ob hf (fun q45 g46 hf => ?_)
      refine pt_callV C (As := []) (rest := [.int x5]) (v := (some (.int q45.1))) (fun l => con_Jx4a65c_size_8abf5 l x3 h39 _ g46) tw_363 tw_637 tw_361 tw_362 kJx4a65c g47 tw_5 yn_Jx4a65c_size_8abf5 (by decide) (Nat.le_of_ble_eq_true rfl) dX9_tryFrom_119 rfl ?_
      show PT X 10 0 0 122 [(9, .int (x6 + v43)), (8, .int ((v21 - 1) - x6)), (0, .ref x0), (1, .ref x1), (2, .ref x2), (3, .ref x3), (4, .int x4), (5, .int x5), (6, .int x6), (7, .int s.1)] [.int q45.1, .int x5] q45.2
      refine pt_iconst C (v := 1) (by decide) dX9_tryFrom_122 ?_
      refine pt_isub C dX9_tryFrom_123 ?_
      refine pt_icmp_ne C (tgt := 147) (by decide) dX9_tryFrom_124 (fun c48 => ?_) (fun c48 => ?_)
      · rw [if_neg c48] at hf
        refine pt_iload C 7 rfl dX9_tryFrom_147 ?_
        refine pt_iconst C (v := 1) (by decide) dX9_tryFrom_149 ?_
        refine pt_iadd C dX9_tryFrom_150 ?_
        refine pt_iconst C (v := 4) (by decide) dX9_tryFrom_151 ?_
        refine pt_icmp_ge C (tgt := 207) (by decide) dX9_tryFrom_152 (fun c49 => ?_) (fun c49 => ?_)
        · rw [if_pos c49] at hf
          refine pt_iinc C 9 [(7, .int (s.1 + 1)), (9, .int (x6 + v43)), (8, .int ((v21 - 1) - x6)), (0, .ref x0), (1, .ref x1), (2, .ref x2), (3, .ref x3), (4, .int x4), (5, .int x5), (6, .int x6)] rfl (iinc_eq s.1 (by decide)) (by decide) rfl dX9_tryFrom_207 ?_
          refine pt_goto C (tgt := 24) (by decide) dX9_tryFrom_210 ?_
          refine pt_sub C [(0, .ref x0), (1, .ref x1), (2, .ref x2), (3, .ref x3), (4, .int x4), (5, .int x5), (6, .int x6), (7, .int (s.1 + 1))] [3, 4, 5, 6, 7, 8, 9, 0] rfl ?_
          exact K0 _ _ (Option.some.inj hf).symm
        · rw [if_neg c49] at hf
          refine pt_aload_n C 2 rfl rfl dX9_tryFrom_155 ?_
          refine ob hf (fun v50 g51 hf => ?_)
          refine pt_getR C kX9 0 (by decide) tw_183 (Or.inl rfl) g51 dX9_tryFrom_156 ?_
          refine ob hf (fun v52 g53 hf => ?_)
          refine pt_getR C kX1 0 (by decide) tw_139 (Or.inl rfl) g53 dX9_tryFrom_159 ?_
          refine pt_aload_n C 2 rfl rfl dX9_tryFrom_162 ?_
          refine ob hf (fun v54 g55 hf => ?_)
          refine pt_getR C kX9 1 (by decide) tw_184 (Or.inl rfl) g55 dX9_tryFrom_163 ?_
          refine pt_iload C 7 rfl dX9_tryFrom_166 ?_
          refine pt_iconst C (v := 1) (by decide) dX9_tryFrom_168 ?_
          refine pt_iadd C dX9_tryFrom_169 ?_
          refine ob hf (fun v56 g57 hf => ?_)
          refine pt_aald4 C g57 dX9_tryFrom_170 ?_
          refine ob hf (fun q58 g59 hf => ?_)
          refine pt_callSN C (As := [.ref v52, .ref v56]) (rest := []) (v := none) (fun l => con_X11_copy l v52 v56 q45.2 _ g59) tw_389 (host := "HeaveSongs") (by decide +kernel) tw_388 tw_1 yn_X11_copy (by decide) (Nat.le_of_ble_eq_true rfl) dX9_tryFrom_171 rfl ?_
          show PT X 10 0 0 174 [(9, .int (x6 + v43)), (8, .int ((v21 - 1) - x6)), (0, .ref x0), (1, .ref x1), (2, .ref x2), (3, .ref x3), (4, .int x4), (5, .int x5), (6, .int x6), (7, .int s.1)] [] q58
          refine pt_aload_n C 4 rfl rfl dX9_tryFrom_174 ?_
          refine pt_iload C 6 rfl dX9_tryFrom_175 ?_
          refine pt_aload_n C 2 rfl rfl dX9_tryFrom_177 ?_
          refine ob hf (fun v60 g61 hf => ?_)
          refine pt_getR C kX9 1 (by decide) tw_184 (Or.inl rfl) g61 dX9_tryFrom_178 ?_
          refine pt_iload C 7 rfl dX9_tryFrom_181 ?_
          refine pt_iconst C (v := 1) (by decide) dX9_tryFrom_183 ?_
          refine pt_iadd C dX9_tryFrom_184 ?_
          refine ob hf (fun v62 g63 hf => ?_)
          refine pt_aald4 C g63 dX9_tryFrom_185 ?_
          refine ob hf (fun _ g66 hf => ?_)
          refine ob hf (fun q64 g65 hf => ?_)
          refine pt_callV C (As := [.int x4, .ref v62]) (rest := []) (v := none) (fun l => con_X0_restFor l x2 x4 v62 q58 _ g65) tw_524 tw_642 tw_522 tw_523 kX0 g66 tw_6 yn_X0_restFor (by decide) (Nat.le_of_ble_eq_true rfl) dX9_tryFrom_186 rfl ?_
          show PT X 10 0 0 189 [(9, .int (x6 + v43)), (8, .int ((v21 - 1) - x6)), (0, .ref x0), (1, .ref x1), (2, .ref x2), (3, .ref x3), (4, .int x4), (5, .int x5), (6, .int x6), (7, .int s.1)] [] q64
          refine pt_aload_n C 2 rfl rfl dX9_tryFrom_189 ?_
          refine pt_aload_n C 3 rfl rfl dX9_tryFrom_190 ?_
          refine pt_aload_n C 4 rfl rfl dX9_tryFrom_191 ?_
          refine pt_aload_n C 5 rfl rfl dX9_tryFrom_192 ?_
          refine pt_iload C 6 rfl dX9_tryFrom_193 ?_
          refine pt_iload C 7 rfl dX9_tryFrom_195 ?_
          refine pt_iconst C (v := 1) (by decide) dX9_tryFrom_197 ?_
          refine pt_iadd C dX9_tryFrom_198 ?_
          refine pt_iload C 0 rfl dX9_tryFrom_199 ?_
          refine pt_iload C 6 rfl dX9_tryFrom_201 ?_
          refine pt_iadd C dX9_tryFrom_203 ?_
          refine ob hf (fun _ g69 hf => ?_)
          refine ob hf (fun q67 g68 hf => ?_)
          refine pt_callV C (As := [.ref x1, .ref x2, .ref x3, .int x4, .int (x5 + 1), .int ((x6 + v43) + x4)]) (rest := []) (v := none) (fun l => hrec l x0 x1 x2 x3 x4 (x5 + 1) ((x6 + v43) + x4) q64 _ g68) tw_636 tw_633 tw_635 tp_10 kX9 g69 tw_8 yn_X9_tryFrom (by decide) (Nat.le_of_ble_eq_true rfl) dX9_tryFrom_204 rfl ?_
          show PT X 10 0 0 207 [(9, .int (x6 + v43)), (8, .int ((v21 - 1) - x6)), (0, .ref x0), (1, .ref x1), (2, .ref x2), (3, .ref x3), (4, .int x4), (5, .int x5), (6, .int x6), (7, .int s.1)] [] q67
          refine pt_iinc C 9 [(7, .int (s.1 + 1)), (9, .int (x6 + v43)), (8, .int ((v21 - 1) - x6)), (0, .ref x0), (1, .ref x1), (2, .ref x2), (3, .ref x3), (4, .int x4), (5, .int x5), (6, .int x6)] rfl (iinc_eq s.1 (by decide)) (by decide) rfl dX9_tryFrom_207 ?_
          refine pt_goto C (tgt := 24) (by decide) dX9_tryFrom_210 ?_
          refine pt_sub C [(0, .ref x0), (1, .ref x1), (2, .ref x2), (3, .ref x3), (4, .int x4), (5, .int x5), (6, .int x6), (7, .int (s.1 + 1))] [3, 4, 5, 6, 7, 8, 9, 0] rfl ?_
          exact K0 _ _ (Option.some.inj hf).symm
      · rw [if_pos c48] at hf
        refine pt_aload_n C 2 rfl rfl dX9_tryFrom_127 ?_
        refine pt_iload C 0 rfl dX9_tryFrom_128 ?_
        refine ob hf (fun h70 g71 hf => ?_)
        refine pt_put C kX9 4 (by decide) tw_188 (Or.inl rfl) rfl rfl rfl g71 dX9_tryFrom_130 ?_
        refine pt_aload_n C 2 rfl rfl dX9_tryFrom_133 ?_
        refine ob hf (fun v72 g73 hf => ?_)
        refine pt_getR C kX9 2 (by decide) tw_185 (Or.inl rfl) g73 dX9_tryFrom_134 ?_
        refine pt_aload_n C 2 rfl rfl dX9_tryFrom_137 ?_
        refine ob hf (fun v74 g75 hf => ?_)
        refine pt_getR C kX9 3 (by decide) tw_186 (Or.inl rfl) g75 dX9_tryFrom_138 ?_
        refine ob hf (fun q76 g77 hf => ?_)
        refine pt_callSN C (As := [.ref v72, .ref v74]) (rest := []) (v := none) (fun l => con_X11_copy l v72 v74 h70 _ g77) tw_389 (host := "HeaveSongs") (by decide +kernel) tw_388 tw_1 yn_X11_copy (by decide) (Nat.le_of_ble_eq_true rfl) dX9_tryFrom_141 rfl ?_
        show PT X 10 0 0 144 [(9, .int (x6 + v43)), (8, .int ((v21 - 1) - x6)), (0, .ref x0), (1, .ref x1), (2, .ref x2), (3, .ref x3), (4, .int x4), (5, .int x5), (6, .int x6), (7, .int s.1)] [] q76
        refine pt_goto C (tgt := 207) (by decide) dX9_tryFrom_144 ?_
        refine pt_iinc C 9 [(7, .int (s.1 + 1)), (9, .int (x6 + v43)), (8, .int ((v21 - 1) - x6)), (0, .ref x0), (1, .ref x1), (2, .ref x2), (3, .ref x3), (4, .int x4), (5, .int x5), (6, .int x6)] rfl (iinc_eq s.1 (by decide)) (by decide) rfl dX9_tryFrom_207 ?_
        refine pt_goto C (tgt := 24) (by decide) dX9_tryFrom_210 ?_
        refine pt_sub C [(0, .ref x0), (1, .ref x1), (2, .ref x2), (3, .ref x3), (4, .int x4), (5, .int x5), (6, .int x6), (7, .int (s.1 + 1))] [3, 4, 5, 6, 7, 8, 9, 0] rfl ?_
        exact K0 _ _ (Option.some.inj hf).symm
    · rw [if_pos c36] at hf
      refine pt_goto C (tgt := 207) (by decide) dX9_tryFrom_92 ?_
      refine pt_iinc C 8 [(7, .int (s.1 + 1)), (8, .int ((v21 - 1) - x6)), (0, .ref x0), (1, .ref x1), (2, .ref x2), (3, .ref x3), (4, .int x4), (5, .int x5), (6, .int x6)] rfl (iinc_eq s.1 (by decide)) (by decide) rfl dX9_tryFrom_207 ?_
      refine pt_goto C (tgt := 24) (by decide) dX9_tryFrom_210 ?_
      refine pt_sub C [(0, .ref x0), (1, .ref x1), (2, .ref x2), (3, .ref x3), (4, .int x4), (5, .int x5), (6, .int x6), (7, .int (s.1 + 1))] [2, 3, 4, 5, 6, 7, 8, 0] rfl ?_
      exact K0 _ _ (Option.some.inj hf).symm
theorem l_X9_tryFrom_d3_L24 {X : MX} (C : CX X cX9_tryFrom 10 RX9 none rmX9_tryFrom_d3) (rec : Nat → Nat → Nat → Nat → Int32 → Int32 → Int32 → AH → Option (AH)) (hrec : ∀ (l : Launch) (a0 : Nat) (a1 : Nat) (a2 : Nat) (a3 : Nat) (a4 : Int32) (a5 : Int32) (a6 : Int32) (h : AH) (q : AH), rec a0 a1 a2 a3 a4 a5 a6 h = some q → Con l yX9_tryFrom cX9_tryFrom 10 none rmX9_tryFrom_d2 [.ref a0, .ref a1, .ref a2, .ref a3, .int a4, .int a5, .int a6] h none q) (x0 : Nat) (x1 : Nat) (x2 : Nat) (x3 : Nat) (x4 : Int32) (x5 : Int32) (x6 : Int32) : ∀ (n : Nat) (s : Int32 × AH) (r : (AH)), iter (f_X9_tryFrom_L24 rec x0 x1 x2 x3 x4 x5 x6) n s = some r → (fun r : (AH) => PT X 10 0 0 213 [] [] r) r → PT X 10 0 0 24 [(0, .ref x0), (1, .ref x1), (2, .ref x2), (3, .ref x3), (4, .int x4), (5, .int x5), (6, .int x6), (7, .int s.1)] [] s.2 :=
  iter_W (fun s : Int32 × AH => PT X 10 0 0 24 [(0, .ref x0), (1, .ref x1), (2, .ref x2), (3, .ref x3), (4, .int x4), (5, .int x5), (6, .int x6), (7, .int s.1)] [] s.2) (fun r : (AH) => PT X 10 0 0 213 [] [] r) _ (fun s s2 hf P => w_X9_tryFrom_d3_L24 C rec hrec x0 x1 x2 x3 x4 x5 x6 s _ hf (fun u7 hu e => by cases e; exact P) (fun hu e => by cases e)) (fun s r hf P => w_X9_tryFrom_d3_L24 C rec hrec x0 x1 x2 x3 x4 x5 x6 s _ hf (fun u7 hu e => by cases e) (fun hu e => by cases e; exact P))
set_option maxRecDepth 100000 in
set_option maxHeartbeats 4000000 in
theorem w_X9_tryFrom_d3_0 {X : MX} (C : CX X cX9_tryFrom 10 RX9 none rmX9_tryFrom_d3) (rec : Nat → Nat → Nat → Nat → Int32 → Int32 → Int32 → AH → Option (AH)) (hrec : ∀ (l : Launch) (a0 : Nat) (a1 : Nat) (a2 : Nat) (a3 : Nat) (a4 : Int32) (a5 : Int32) (a6 : Int32) (h : AH) (q : AH), rec a0 a1 a2 a3 a4 a5 a6 h = some q → Con l yX9_tryFrom cX9_tryFrom 10 none rmX9_tryFrom_d2 [.ref a0, .ref a1, .ref a2, .ref a3, .int a4, .int a5, .int a6] h none q) (a0 : Nat) (a1 : Nat) (a2 : Nat) (a3 : Nat) (a4 : Int32) (a5 : Int32) (a6 : Int32) (h : AH) (res : AH) (hf : f_X9_tryFrom rec a0 a1 a2 a3 a4 a5 a6 h = some res) (K : PR X rmX9_tryFrom_d3 none res) : PT X 10 0 0 0 [(0, .ref a0), (1, .ref a1), (2, .ref a2), (3, .ref a3), (4, .int a4), (5, .int a5), (6, .int a6)] [] h := by
  unfold f_X9_tryFrom at hf
  refine pt_iload C 5 rfl dX9_tryFrom_0 ?_
  refine pt_if_lt C (tgt := 20) (by decide) dX9_tryFrom_2 (fun c1 => ?_) (fun c1 => ?_)
  · rw [if_pos c1] at hf
    obtain rfl := Option.some.inj hf
    exact pt_vret C K (by decide) (by decide) dX9_tryFrom_20
  · rw [if_neg c1] at hf
    refine pt_iload C 5 rfl dX9_tryFrom_5 ?_
    refine pt_aload_n C 3 rfl rfl dX9_tryFrom_7 ?_
    refine ob hf (fun _ g4 hf => ?_)
    refine ob hf (fun q2 g3 hf => ?_)
    refine pt_callV C (As := []) (rest := [.int a5]) (v := (some (.int q2.1))) (fun l => con_Jx4a65c_size_8abf5 l a3 h _ g3) tw_363 tw_637 tw_361 tw_362 kJx4a65c g4 tw_5 yn_Jx4a65c_size_8abf5 (by decide) (Nat.le_of_ble_eq_true rfl) dX9_tryFrom_8 rfl ?_
    show PT X 10 0 0 11 [(0, .ref a0), (1, .ref a1), (2, .ref a2), (3, .ref a3), (4, .int a4), (5, .int a5), (6, .int a6)] [.int q2.1, .int a5] q2.2
    refine pt_icmp_ge C (tgt := 20) (by decide) dX9_tryFrom_11 (fun c5 => ?_) (fun c5 => ?_)
    · rw [if_pos c5] at hf
      obtain rfl := Option.some.inj hf
      exact pt_vret C K (by decide) (by decide) dX9_tryFrom_20
    · rw [if_neg c5] at hf
      refine pt_iload C 5 rfl dX9_tryFrom_14 ?_
      refine pt_iconst C (v := 4) (by decide) dX9_tryFrom_16 ?_
      refine pt_icmp_lt C (tgt := 21) (by decide) dX9_tryFrom_17 (fun c6 => ?_) (fun c6 => ?_)
      · rw [if_pos c6] at hf
        refine pt_iconst C (v := 0) (by decide) dX9_tryFrom_21 ?_
        refine pt_istore C [(7, .int 0), (0, .ref a0), (1, .ref a1), (2, .ref a2), (3, .ref a3), (4, .int a4), (5, .int a5), (6, .int a6)] (by decide) rfl dX9_tryFrom_22 ?_
        refine pt_sub C [(0, .ref a0), (1, .ref a1), (2, .ref a2), (3, .ref a3), (4, .int a4), (5, .int a5), (6, .int a6), (7, .int 0)] [1, 2, 3, 4, 5, 6, 7, 0] rfl ?_
        refine ob hf (fun e78 g79 hf => ?_)
        refine l_X9_tryFrom_d3_L24 C rec hrec a0 a1 a2 a3 a4 a5 a6 _ _ _ g79 ?_
        obtain rfl := Option.some.inj hf
        exact pt_vret C K (by decide) (by decide) dX9_tryFrom_213
      · rw [if_neg c6] at hf
        obtain rfl := Option.some.inj hf
        exact pt_vret C K (by decide) (by decide) dX9_tryFrom_20
theorem con_X9_tryFrom_d3 (l : Launch) (a0 : Nat) (a1 : Nat) (a2 : Nat) (a3 : Nat) (a4 : Int32) (a5 : Int32) (a6 : Int32) (h : AH) (q : AH) (hf : f_X9_tryFrom_d3 a0 a1 a2 a3 a4 a5 a6 h = some q) : Con l yX9_tryFrom cX9_tryFrom 10 none rmX9_tryFrom_d3 [.ref a0, .ref a1, .ref a2, .ref a3, .int a4, .int a5, .int a6] h none q := Con.of (by decide +kernel) (Nat.le_of_ble_eq_true rfl) (fun X C I K => w_X9_tryFrom_d3_0 C f_X9_tryFrom_d2 con_X9_tryFrom_d2 a0 a1 a2 a3 a4 a5 a6 h q hf K)
abbrev rmX9_tryFrom_d4 : Room := { frames := 7, cells := 0, slots := 0, locals := 184 }
set_option maxRecDepth 100000 in
set_option maxHeartbeats 4000000 in
theorem w_X9_tryFrom_d4_L24 {X : MX} (C : CX X cX9_tryFrom 10 RX9 none rmX9_tryFrom_d4) (rec : Nat → Nat → Nat → Nat → Int32 → Int32 → Int32 → AH → Option (AH)) (hrec : ∀ (l : Launch) (a0 : Nat) (a1 : Nat) (a2 : Nat) (a3 : Nat) (a4 : Int32) (a5 : Int32) (a6 : Int32) (h : AH) (q : AH), rec a0 a1 a2 a3 a4 a5 a6 h = some q → Con l yX9_tryFrom cX9_tryFrom 10 none rmX9_tryFrom_d3 [.ref a0, .ref a1, .ref a2, .ref a3, .int a4, .int a5, .int a6] h none q) (x0 : Nat) (x1 : Nat) (x2 : Nat) (x3 : Nat) (x4 : Int32) (x5 : Int32) (x6 : Int32) (s : Int32 × AH) (res : (Int32 × AH) ⊕ ((AH))) (hf : f_X9_tryFrom_L24 rec x0 x1 x2 x3 x4 x5 x6 s = some res) (K0 : ∀ (u7 : Int32) (hu : AH), res = .inl (u7, hu) → PT X 10 0 0 24 [(0, .ref x0), (1, .ref x1), (2, .ref x2), (3, .ref x3), (4, .int x4), (5, .int x5), (6, .int x6), (7, .int u7)] [] hu) (K1 : ∀ (hu : AH), res = .inr (hu) → PT X 10 0 0 213 [] [] hu) : PT X 10 0 0 24 [(0, .ref x0), (1, .ref x1), (2, .ref x2), (3, .ref x3), (4, .int x4), (5, .int x5), (6, .int x6), (7, .int s.1)] [] s.2 := by
  unfold f_X9_tryFrom_L24 at hf
  refine pt_iload C 7 rfl dX9_tryFrom_24 ?_
  refine pt_aload_n C 1 rfl rfl dX9_tryFrom_26 ?_
  refine ob hf (fun _ g9 hf => ?_)
  refine ob hf (fun q7 g8 hf => ?_)
  refine pt_callV C (As := []) (rest := [.int s.1]) (v := (some (.int q7.1))) (fun l => con_Jx4a65c_size_8abf5 l x1 s.2 _ g8) tw_363 tw_637 tw_361 tw_362 kJx4a65c g9 tw_5 yn_Jx4a65c_size_8abf5 (by decide) (Nat.le_of_ble_eq_true rfl) dX9_tryFrom_27 rfl ?_
  show PT X 10 0 0 30 [(0, .ref x0), (1, .ref x1), (2, .ref x2), (3, .ref x3), (4, .int x4), (5, .int x5), (6, .int x6), (7, .int s.1)] [.int q7.1, .int s.1] q7.2
  refine pt_icmp_ge C (tgt := 213) (by decide) dX9_tryFrom_30 (fun c10 => ?_) (fun c10 => ?_)
  · rw [if_pos c10] at hf
    refine pt_sub C [] [] rfl ?_
    exact K1 _ (Option.some.inj hf).symm
  · rw [if_neg c10] at hf
    refine pt_aload_n C 0 rfl rfl dX9_tryFrom_33 ?_
    refine ob hf (fun v11 g12 hf => ?_)
    refine pt_getR C kX9 1 (by decide) tw_184 (Or.inl rfl) g12 dX9_tryFrom_34 ?_
    refine pt_iload C 5 rfl dX9_tryFrom_37 ?_
    refine ob hf (fun v13 g14 hf => ?_)
    refine pt_aald4 C g14 dX9_tryFrom_39 ?_
    refine pt_aload_n C 0 rfl rfl dX9_tryFrom_40 ?_
    refine ob hf (fun v15 g16 hf => ?_)
    refine pt_getR C kX9 0 (by decide) tw_183 (Or.inl rfl) g16 dX9_tryFrom_41 ?_
    refine ob hf (fun v17 g18 hf => ?_)
    refine pt_getR C kX1 0 (by decide) tw_139 (Or.inl rfl) g18 dX9_tryFrom_44 ?_
    refine ob hf (fun q19 g20 hf => ?_)
    refine pt_callSN C (As := [.ref v13, .ref v17]) (rest := []) (v := none) (fun l => con_X11_copy l v13 v17 q7.2 _ g20) tw_389 (host := "HeaveSongs") (by decide +kernel) tw_388 tw_1 yn_X11_copy (by decide) (Nat.le_of_ble_eq_true rfl) dX9_tryFrom_47 rfl ?_
    show PT X 10 0 0 50 [(0, .ref x0), (1, .ref x1), (2, .ref x2), (3, .ref x3), (4, .int x4), (5, .int x5), (6, .int x6), (7, .int s.1)] [] q19
    refine pt_aload_n C 0 rfl rfl dX9_tryFrom_50 ?_
    refine ob hf (fun v21 g22 hf => ?_)
    refine pt_getI C kX9 4 (by decide) tw_188 (Or.inl rfl) g22 dX9_tryFrom_51 ?_
    refine pt_iconst C (v := 1) (by decide) dX9_tryFrom_54 ?_
    refine pt_isub C dX9_tryFrom_55 ?_
    refine pt_iload C 6 rfl dX9_tryFrom_56 ?_
    refine pt_isub C dX9_tryFrom_58 ?_
    refine pt_istore C [(8, .int ((v21 - 1) - x6)), (0, .ref x0), (1, .ref x1), (2, .ref x2), (3, .ref x3), (4, .int x4), (5, .int x5), (6, .int x6), (7, .int s.1)] (by decide) rfl dX9_tryFrom_59 ?_
    refine pt_aload_n C 1 rfl rfl dX9_tryFrom_61 ?_
    refine ob hf (fun v23 g24 hf => ?_)
    refine pt_getR C kX9 0 (by decide) tw_183 (Or.inl rfl) g24 dX9_tryFrom_62 ?_
    refine pt_aload_n C 3 rfl rfl dX9_tryFrom_65 ?_
    refine pt_aload_n C 2 rfl rfl dX9_tryFrom_66 ?_
    refine pt_iload C 8 rfl dX9_tryFrom_67 ?_
    refine ob hf (fun _ g27 hf => ?_)
    refine ob hf (fun q25 g26 hf => ?_)
    refine pt_callV C (As := [.int s.1]) (rest := [.ref x2, .ref v23]) (v := (some (.ref q25.1))) (fun l => con_Jx4a65c_get_915e3 l x1 s.1 q19 _ g26) tw_465 tw_638 tw_463 tw_464 kJx4a65c g27 tw_5 yn_Jx4a65c_get_915e3 (by decide) (Nat.le_of_ble_eq_true rfl) dX9_tryFrom_69 rfl ?_
    show PT X 10 0 0 72 [(8, .int ((v21 - 1) - x6)), (0, .ref x0), (1, .ref x1), (2, .ref x2), (3, .ref x3), (4, .int x4), (5, .int x5), (6, .int x6), (7, .int s.1)] [.ref q25.1, .ref x2, .ref v23] q25.2
    refine ob hf (fun _ g28 hf => ?_)
    refine pt_cast C kX7 tw_639 g28 dX9_tryFrom_72 ?_
    refine pt_aload_n C 4 rfl rfl dX9_tryFrom_75 ?_
    refine pt_iload C 6 rfl dX9_tryFrom_76 ?_
    refine ob hf (fun _ g31 hf => ?_)
    refine ob hf (fun q29 g30 hf => ?_)
    refine pt_callV C (As := [.int x5]) (rest := [.ref q25.1, .ref x2, .ref v23]) (v := (some (.ref q29.1))) (fun l => con_Jx4a65c_get_915e3 l x3 x5 q25.2 _ g30) tw_465 tw_638 tw_463 tw_464 kJx4a65c g31 tw_5 yn_Jx4a65c_get_915e3 (by decide) (Nat.le_of_ble_eq_true rfl) dX9_tryFrom_78 rfl ?_
    show PT X 10 0 0 81 [(8, .int ((v21 - 1) - x6)), (0, .ref x0), (1, .ref x1), (2, .ref x2), (3, .ref x3), (4, .int x4), (5, .int x5), (6, .int x6), (7, .int s.1)] [.ref q29.1, .ref q25.1, .ref x2, .ref v23] q29.2
    refine ob hf (fun _ g32 hf => ?_)
    refine pt_cast C kX8 tw_640 g32 dX9_tryFrom_81 ?_
    refine pt_iload C 0 rfl dX9_tryFrom_84 ?_
    refine ob hf (fun _ g35 hf => ?_)
    refine ob hf (fun q33 g34 hf => ?_)
    refine pt_callV C (As := [.ref x2, .ref q25.1, .ref q29.1, .int ((v21 - 1) - x6)]) (rest := []) (v := (some (.int q33.1))) (fun l => con_X1_go l v23 x2 q25.1 q29.1 ((v21 - 1) - x6) q29.2 _ g34) tw_565 tw_641 tw_563 tw_564 kX1 g35 tw_7 yn_X1_go (by decide) (Nat.le_of_ble_eq_true rfl) dX9_tryFrom_86 rfl ?_
    show PT X 10 0 0 89 [(8, .int ((v21 - 1) - x6)), (0, .ref x0), (1, .ref x1), (2, .ref x2), (3, .ref x3), (4, .int x4), (5, .int x5), (6, .int x6), (7, .int s.1)] [.int q33.1] q33.2
    refine pt_if_ne C (tgt := 95) (by decide) dX9_tryFrom_89 (fun c36 => ?_) (fun c36 => ?_)
    · rw [if_neg c36] at hf
      refine pt_aload_n C 1 rfl rfl dX9_tryFrom_95 ?_
      refine ob hf (fun v37 g38 hf => ?_)
      refine pt_getR C kX9 2 (by decide) tw_185 (Or.inl rfl) g38 dX9_tryFrom_96 ?_
      refine pt_iload C 6 rfl dX9_tryFrom_99 ?_
      refine pt_iload C 8 rfl dX9_tryFrom_101 ?_
      refine ob hf (fun h39 g40 hf => ?_)
      refine pt_iast C g40 dX9_tryFrom_103 ?_
      refine pt_iload C 7 rfl dX9_tryFrom_104 ?_
      refine pt_aload_n C 1 rfl rfl dX9_tryFrom_106 ?_
      refine ob hf (fun v41 g42 hf => ?_)
      refine pt_getR C kX9 0 (by decide) tw_183 (Or.inl rfl) g42 dX9_tryFrom_107 ?_
      refine ob hf (fun v43 g44 hf => ?_)
      refine pt_getI C kX1 7 (by decide) tw_152 (Or.inl rfl) g44 dX9_tryFrom_110 ?_
      refine pt_iadd C dX9_tryFrom_113 ?_
      refine pt_istore C [(9, .int (x6 + v43)), (8, .int ((v21 - 1) - x6)), (0, .ref x0), (1, .ref x1), (2, .ref x2), (3, .ref x3), (4, .int x4), (5, .int x5), (6, .int x6), (7, .int s.1)] (by decide) rfl dX9_tryFrom_114 ?_
      refine pt_iload C 7 rfl dX9_tryFrom_116 ?_
      refine pt_aload_n C 5 rfl rfl dX9_tryFrom_118 ?_
      refine ob hf (fun _ g47 hf => ?_)
      refine ob hf (fun q45 g46 hf => ?_)
      refine pt_callV C (As := []) (rest := [.int x5]) (v := (some (.int q45.1))) (fun l => con_Jx4a65c_size_8abf5 l x3 h39 _ g46) tw_363 tw_637 tw_361 tw_362 kJx4a65c g47 tw_5 yn_Jx4a65c_size_8abf5 (by decide) (Nat.le_of_ble_eq_true rfl) dX9_tryFrom_119 rfl ?_
      show PT X 10 0 0 122 [(9, .int (x6 + v43)), (8, .int ((v21 - 1) - x6)), (0, .ref x0), (1, .ref x1), (2, .ref x2), (3, .ref x3), (4, .int x4), (5, .int x5), (6, .int x6), (7, .int s.1)] [.int q45.1, .int x5] q45.2
      refine pt_iconst C (v := 1) (by decide) dX9_tryFrom_122 ?_
      refine pt_isub C dX9_tryFrom_123 ?_
      refine pt_icmp_ne C (tgt := 147) (by decide) dX9_tryFrom_124 (fun c48 => ?_) (fun c48 => ?_)
      · rw [if_neg c48] at hf
        refine pt_iload C 7 rfl dX9_tryFrom_147 ?_
        refine pt_iconst C (v := 1) (by decide) dX9_tryFrom_149 ?_
        refine pt_iadd C dX9_tryFrom_150 ?_
        refine pt_iconst C (v := 4) (by decide) dX9_tryFrom_151 ?_
        refine pt_icmp_ge C (tgt := 207) (by decide) dX9_tryFrom_152 (fun c49 => ?_) (fun c49 => ?_)
        · rw [if_pos c49] at hf
          refine pt_iinc C 9 [(7, .int (s.1 + 1)), (9, .int (x6 + v43)), (8, .int ((v21 - 1) - x6)), (0, .ref x0), (1, .ref x1), (2, .ref x2), (3, .ref x3), (4, .int x4), (5, .int x5), (6, .int x6)] rfl (iinc_eq s.1 (by decide)) (by decide) rfl dX9_tryFrom_207 ?_
          refine pt_goto C (tgt := 24) (by decide) dX9_tryFrom_210 ?_
          refine pt_sub C [(0, .ref x0), (1, .ref x1), (2, .ref x2), (3, .ref x3), (4, .int x4), (5, .int x5), (6, .int x6), (7, .int (s.1 + 1))] [3, 4, 5, 6, 7, 8, 9, 0] rfl ?_
          exact K0 _ _ (Option.some.inj hf).symm
        · rw [if_neg c49] at hf
          refine pt_aload_n C 2 rfl rfl dX9_tryFrom_155 ?_
          refine ob hf (fun v50 g51 hf => ?_)
          refine pt_getR C kX9 0 (by decide) tw_183 (Or.inl rfl) g51 dX9_tryFrom_156 ?_
          refine ob hf (fun v52 g53 hf => ?_)
          refine pt_getR C kX1 0 (by decide) tw_139 (Or.inl rfl) g53 dX9_tryFrom_159 ?_
          refine pt_aload_n C 2 rfl rfl dX9_tryFrom_162 ?_
          refine ob hf (fun v54 g55 hf => ?_)
          refine pt_getR C kX9 1 (by decide) tw_184 (Or.inl rfl) g55 dX9_tryFrom_163 ?_
          refine pt_iload C 7 rfl dX9_tryFrom_166 ?_
          refine pt_iconst C (v := 1) (by decide) dX9_tryFrom_168 ?_
          refine pt_iadd C dX9_tryFrom_169 ?_
          refine ob hf (fun v56 g57 hf => ?_)
          refine pt_aald4 C g57 dX9_tryFrom_170 ?_
          refine ob hf (fun q58 g59 hf => ?_)
          refine pt_callSN C (As := [.ref v52, .ref v56]) (rest := []) (v := none) (fun l => con_X11_copy l v52 v56 q45.2 _ g59) tw_389 (host := "HeaveSongs") (by decide +kernel) tw_388 tw_1 yn_X11_copy (by decide) (Nat.le_of_ble_eq_true rfl) dX9_tryFrom_171 rfl ?_
          show PT X 10 0 0 174 [(9, .int (x6 + v43)), (8, .int ((v21 - 1) - x6)), (0, .ref x0), (1, .ref x1), (2, .ref x2), (3, .ref x3), (4, .int x4), (5, .int x5), (6, .int x6), (7, .int s.1)] [] q58
          refine pt_aload_n C 4 rfl rfl dX9_tryFrom_174 ?_
          refine pt_iload C 6 rfl dX9_tryFrom_175 ?_
          refine pt_aload_n C 2 rfl rfl dX9_tryFrom_177 ?_
          refine ob hf (fun v60 g61 hf => ?_)
          refine pt_getR C kX9 1 (by decide) tw_184 (Or.inl rfl) g61 dX9_tryFrom_178 ?_
          refine pt_iload C 7 rfl dX9_tryFrom_181 ?_
          refine pt_iconst C (v := 1) (by decide) dX9_tryFrom_183 ?_
          refine pt_iadd C dX9_tryFrom_184 ?_
          refine ob hf (fun v62 g63 hf => ?_)
          refine pt_aald4 C g63 dX9_tryFrom_185 ?_
          refine ob hf (fun _ g66 hf => ?_)
          refine ob hf (fun q64 g65 hf => ?_)
          refine pt_callV C (As := [.int x4, .ref v62]) (rest := []) (v := none) (fun l => con_X0_restFor l x2 x4 v62 q58 _ g65) tw_524 tw_642 tw_522 tw_523 kX0 g66 tw_6 yn_X0_restFor (by decide) (Nat.le_of_ble_eq_true rfl) dX9_tryFrom_186 rfl ?_
          show PT X 10 0 0 189 [(9, .int (x6 + v43)), (8, .int ((v21 - 1) - x6)), (0, .ref x0), (1, .ref x1), (2, .ref x2), (3, .ref x3), (4, .int x4), (5, .int x5), (6, .int x6), (7, .int s.1)] [] q64
          refine pt_aload_n C 2 rfl rfl dX9_tryFrom_189 ?_
          refine pt_aload_n C 3 rfl rfl dX9_tryFrom_190 ?_
          refine pt_aload_n C 4 rfl rfl dX9_tryFrom_191 ?_
          refine pt_aload_n C 5 rfl rfl dX9_tryFrom_192 ?_
          refine pt_iload C 6 rfl dX9_tryFrom_193 ?_
          refine pt_iload C 7 rfl dX9_tryFrom_195 ?_
          refine pt_iconst C (v := 1) (by decide) dX9_tryFrom_197 ?_
          refine pt_iadd C dX9_tryFrom_198 ?_
          refine pt_iload C 0 rfl dX9_tryFrom_199 ?_
          refine pt_iload C 6 rfl dX9_tryFrom_201 ?_
          refine pt_iadd C dX9_tryFrom_203 ?_
          refine ob hf (fun _ g69 hf => ?_)
          refine ob hf (fun q67 g68 hf => ?_)
          refine pt_callV C (As := [.ref x1, .ref x2, .ref x3, .int x4, .int (x5 + 1), .int ((x6 + v43) + x4)]) (rest := []) (v := none) (fun l => hrec l x0 x1 x2 x3 x4 (x5 + 1) ((x6 + v43) + x4) q64 _ g68) tw_636 tw_633 tw_635 tp_10 kX9 g69 tw_8 yn_X9_tryFrom (by decide) (Nat.le_of_ble_eq_true rfl) dX9_tryFrom_204 rfl ?_
          show PT X 10 0 0 207 [(9, .int (x6 + v43)), (8, .int ((v21 - 1) - x6)), (0, .ref x0), (1, .ref x1), (2, .ref x2), (3, .ref x3), (4, .int x4), (5, .int x5), (6, .int x6), (7, .int s.1)] [] q67
          refine pt_iinc C 9 [(7, .int (s.1 + 1)), (9, .int (x6 + v43)), (8, .int ((v21 - 1) - x6)), (0, .ref x0), (1, .ref x1), (2, .ref x2), (3, .ref x3), (4, .int x4), (5, .int x5), (6, .int x6)] rfl (iinc_eq s.1 (by decide)) (by decide) rfl dX9_tryFrom_207 ?_
          refine pt_goto C (tgt := 24) (by decide) dX9_tryFrom_210 ?_
          refine pt_sub C [(0, .ref x0), (1, .ref x1), (2, .ref x2), (3, .ref x3), (4, .int x4), (5, .int x5), (6, .int x6), (7, .int (s.1 + 1))] [3, 4, 5, 6, 7, 8, 9, 0] rfl ?_
          exact K0 _ _ (Option.some.inj hf).symm
      · rw [if_pos c48] at hf
        refine pt_aload_n C 2 rfl rfl dX9_tryFrom_127 ?_
        refine pt_iload C 0 rfl dX9_tryFrom_128 ?_
        refine ob hf (fun h70 g71 hf => ?_)
        refine pt_put C kX9 4 (by decide) tw_188 (Or.inl rfl) rfl rfl rfl g71 dX9_tryFrom_130 ?_
        refine pt_aload_n C 2 rfl rfl dX9_tryFrom_133 ?_
        refine ob hf (fun v72 g73 hf => ?_)
        refine pt_getR C kX9 2 (by decide) tw_185 (Or.inl rfl) g73 dX9_tryFrom_134 ?_
        refine pt_aload_n C 2 rfl rfl dX9_tryFrom_137 ?_
        refine ob hf (fun v74 g75 hf => ?_)
        refine pt_getR C kX9 3 (by decide) tw_186 (Or.inl rfl) g75 dX9_tryFrom_138 ?_
        refine ob hf (fun q76 g77 hf => ?_)
        refine pt_callSN C (As := [.ref v72, .ref v74]) (rest := []) (v := none) (fun l => con_X11_copy l v72 v74 h70 _ g77) tw_389 (host := "HeaveSongs") (by decide +kernel) tw_388 tw_1 yn_X11_copy (by decide) (Nat.le_of_ble_eq_true rfl) dX9_tryFrom_141 rfl ?_
        show PT X 10 0 0 144 [(9, .int (x6 + v43)), (8, .int ((v21 - 1) - x6)), (0, .ref x0), (1, .ref x1), (2, .ref x2), (3, .ref x3), (4, .int x4), (5, .int x5), (6, .int x6), (7, .int s.1)] [] q76
        refine pt_goto C (tgt := 207) (by decide) dX9_tryFrom_144 ?_
        refine pt_iinc C 9 [(7, .int (s.1 + 1)), (9, .int (x6 + v43)), (8, .int ((v21 - 1) - x6)), (0, .ref x0), (1, .ref x1), (2, .ref x2), (3, .ref x3), (4, .int x4), (5, .int x5), (6, .int x6)] rfl (iinc_eq s.1 (by decide)) (by decide) rfl dX9_tryFrom_207 ?_
        refine pt_goto C (tgt := 24) (by decide) dX9_tryFrom_210 ?_
        refine pt_sub C [(0, .ref x0), (1, .ref x1), (2, .ref x2), (3, .ref x3), (4, .int x4), (5, .int x5), (6, .int x6), (7, .int (s.1 + 1))] [3, 4, 5, 6, 7, 8, 9, 0] rfl ?_
        exact K0 _ _ (Option.some.inj hf).symm
    · rw [if_pos c36] at hf
      refine pt_goto C (tgt := 207) (by decide) dX9_tryFrom_92 ?_
      refine pt_iinc C 8 [(7, .int (s.1 + 1)), (8, .int ((v21 - 1) - x6)), (0, .ref x0), (1, .ref x1), (2, .ref x2), (3, .ref x3), (4, .int x4), (5, .int x5), (6, .int x6)] rfl (iinc_eq s.1 (by decide)) (by decide) rfl dX9_tryFrom_207 ?_
      refine pt_goto C (tgt := 24) (by decide) dX9_tryFrom_210 ?_
      refine pt_sub C [(0, .ref x0), (1, .ref x1), (2, .ref x2), (3, .ref x3), (4, .int x4), (5, .int x5), (6, .int x6), (7, .int (s.1 + 1))] [2, 3, 4, 5, 6, 7, 8, 0] rfl ?_
      exact K0 _ _ (Option.some.inj hf).symm
theorem l_X9_tryFrom_d4_L24 {X : MX} (C : CX X cX9_tryFrom 10 RX9 none rmX9_tryFrom_d4) (rec : Nat → Nat → Nat → Nat → Int32 → Int32 → Int32 → AH → Option (AH)) (hrec : ∀ (l : Launch) (a0 : Nat) (a1 : Nat) (a2 : Nat) (a3 : Nat) (a4 : Int32) (a5 : Int32) (a6 : Int32) (h : AH) (q : AH), rec a0 a1 a2 a3 a4 a5 a6 h = some q → Con l yX9_tryFrom cX9_tryFrom 10 none rmX9_tryFrom_d3 [.ref a0, .ref a1, .ref a2, .ref a3, .int a4, .int a5, .int a6] h none q) (x0 : Nat) (x1 : Nat) (x2 : Nat) (x3 : Nat) (x4 : Int32) (x5 : Int32) (x6 : Int32) : ∀ (n : Nat) (s : Int32 × AH) (r : (AH)), iter (f_X9_tryFrom_L24 rec x0 x1 x2 x3 x4 x5 x6) n s = some r → (fun r : (AH) => PT X 10 0 0 213 [] [] r) r → PT X 10 0 0 24 [(0, .ref x0), (1, .ref x1), (2, .ref x2), (3, .ref x3), (4, .int x4), (5, .int x5), (6, .int x6), (7, .int s.1)] [] s.2 :=
  iter_W (fun s : Int32 × AH => PT X 10 0 0 24 [(0, .ref x0), (1, .ref x1), (2, .ref x2), (3, .ref x3), (4, .int x4), (5, .int x5), (6, .int x6), (7, .int s.1)] [] s.2) (fun r : (AH) => PT X 10 0 0 213 [] [] r) _ (fun s s2 hf P => w_X9_tryFrom_d4_L24 C rec hrec x0 x1 x2 x3 x4 x5 x6 s _ hf (fun u7 hu e => by cases e; exact P) (fun hu e => by cases e)) (fun s r hf P => w_X9_tryFrom_d4_L24 C rec hrec x0 x1 x2 x3 x4 x5 x6 s _ hf (fun u7 hu e => by cases e) (fun hu e => by cases e; exact P))
set_option maxRecDepth 100000 in
set_option maxHeartbeats 4000000 in
theorem w_X9_tryFrom_d4_0 {X : MX} (C : CX X cX9_tryFrom 10 RX9 none rmX9_tryFrom_d4) (rec : Nat → Nat → Nat → Nat → Int32 → Int32 → Int32 → AH → Option (AH)) (hrec : ∀ (l : Launch) (a0 : Nat) (a1 : Nat) (a2 : Nat) (a3 : Nat) (a4 : Int32) (a5 : Int32) (a6 : Int32) (h : AH) (q : AH), rec a0 a1 a2 a3 a4 a5 a6 h = some q → Con l yX9_tryFrom cX9_tryFrom 10 none rmX9_tryFrom_d3 [.ref a0, .ref a1, .ref a2, .ref a3, .int a4, .int a5, .int a6] h none q) (a0 : Nat) (a1 : Nat) (a2 : Nat) (a3 : Nat) (a4 : Int32) (a5 : Int32) (a6 : Int32) (h : AH) (res : AH) (hf : f_X9_tryFrom rec a0 a1 a2 a3 a4 a5 a6 h = some res) (K : PR X rmX9_tryFrom_d4 none res) : PT X 10 0 0 0 [(0, .ref a0), (1, .ref a1), (2, .ref a2), (3, .ref a3), (4, .int a4), (5, .int a5), (6, .int a6)] [] h := by
  unfold f_X9_tryFrom at hf
  refine pt_iload C 5 rfl dX9_tryFrom_0 ?_
  refine pt_if_lt C (tgt := 20) (by decide) dX9_tryFrom_2 (fun c1 => ?_) (fun c1 => ?_)
  · rw [if_pos c1] at hf
    obtain rfl := Option.some.inj hf
    exact pt_vret C K (by decide) (by decide) dX9_tryFrom_20
  · rw [if_neg c1] at hf
    refine pt_iload C 5 rfl dX9_tryFrom_5 ?_
    refine pt_aload_n C 3 rfl rfl dX9_tryFrom_7 ?_
    refine ob hf (fun _ g4 hf => ?_)
    refine ob hf (fun q2 g3 hf => ?_)
    refine pt_callV C (As := []) (rest := [.int a5]) (v := (some (.int q2.1))) (fun l => con_Jx4a65c_size_8abf5 l a3 h _ g3) tw_363 tw_637 tw_361 tw_362 kJx4a65c g4 tw_5 yn_Jx4a65c_size_8abf5 (by decide) (Nat.le_of_ble_eq_true rfl) dX9_tryFrom_8 rfl ?_
    show PT X 10 0 0 11 [(0, .ref a0), (1, .ref a1), (2, .ref a2), (3, .ref a3), (4, .int a4), (5, .int a5), (6, .int a6)] [.int q2.1, .int a5] q2.2
    refine pt_icmp_ge C (tgt := 20) (by decide) dX9_tryFrom_11 (fun c5 => ?_) (fun c5 => ?_)
    · rw [if_pos c5] at hf
      obtain rfl := Option.some.inj hf
      exact pt_vret C K (by decide) (by decide) dX9_tryFrom_20
    · rw [if_neg c5] at hf
      refine pt_iload C 5 rfl dX9_tryFrom_14 ?_
      refine pt_iconst C (v := 4) (by decide) dX9_tryFrom_16 ?_
      refine pt_icmp_lt C (tgt := 21) (by decide) dX9_tryFrom_17 (fun c6 => ?_) (fun c6 => ?_)
      · rw [if_pos c6] at hf
        refine pt_iconst C (v := 0) (by decide) dX9_tryFrom_21 ?_
        refine pt_istore C [(7, .int 0), (0, .ref a0), (1, .ref a1), (2, .ref a2), (3, .ref a3), (4, .int a4), (5, .int a5), (6, .int a6)] (by decide) rfl dX9_tryFrom_22 ?_
        refine pt_sub C [(0, .ref a0), (1, .ref a1), (2, .ref a2), (3, .ref a3), (4, .int a4), (5, .int a5), (6, .int a6), (7, .int 0)] [1, 2, 3, 4, 5, 6, 7, 0] rfl ?_
        refine ob hf (fun e78 g79 hf => ?_)
        refine l_X9_tryFrom_d4_L24 C rec hrec a0 a1 a2 a3 a4 a5 a6 _ _ _ g79 ?_
        obtain rfl := Option.some.inj hf
        exact pt_vret C K (by decide) (by decide) dX9_tryFrom_213
      · rw [if_neg c6] at hf
        obtain rfl := Option.some.inj hf
        exact pt_vret C K (by decide) (by decide) dX9_tryFrom_20
theorem con_X9_tryFrom_d4 (l : Launch) (a0 : Nat) (a1 : Nat) (a2 : Nat) (a3 : Nat) (a4 : Int32) (a5 : Int32) (a6 : Int32) (h : AH) (q : AH) (hf : f_X9_tryFrom_d4 a0 a1 a2 a3 a4 a5 a6 h = some q) : Con l yX9_tryFrom cX9_tryFrom 10 none rmX9_tryFrom_d4 [.ref a0, .ref a1, .ref a2, .ref a3, .int a4, .int a5, .int a6] h none q := Con.of (by decide +kernel) (Nat.le_of_ble_eq_true rfl) (fun X C I K => w_X9_tryFrom_d4_0 C f_X9_tryFrom_d3 con_X9_tryFrom_d3 a0 a1 a2 a3 a4 a5 a6 h q hf K)
abbrev rmX9_findPlan : Room := { frames := 8, cells := 0, slots := 0, locals := 213 }
theorem yn_X9_findPlan : YN yX9_findPlan 4 := by refine ⟨?_, ?_, ?_⟩ <;> decide +kernel
set_option maxRecDepth 100000 in
set_option maxHeartbeats 4000000 in
theorem w_X9_findPlan_0 {X : MX} (C : CX X cX9_findPlan 5 RX9 none rmX9_findPlan) (a0 : Nat) (a1 : Nat) (a2 : Nat) (a3 : Nat) (a4 : Int32) (h : AH) (res : AH) (hf : f_X9_findPlan a0 a1 a2 a3 a4 h = some res) (K : PR X rmX9_findPlan none res) : PT X 5 0 0 0 [(0, .ref a0), (1, .ref a1), (2, .ref a2), (3, .ref a3), (4, .int a4)] [] h := by
  unfold f_X9_findPlan at hf
  refine pt_aload_n C 0 rfl rfl dX9_findPlan_0 ?_
  refine ob hf (fun v1 g2 hf => ?_)
  refine pt_getI C kX9 5 (by decide) tw_190 (Or.inl rfl) g2 dX9_findPlan_1 ?_
  refine pt_if_eq C (tgt := 8) (by decide) dX9_findPlan_4 (fun c3 => ?_) (fun c3 => ?_)
  · rw [if_pos c3] at hf
    refine pt_aload_n C 0 rfl rfl dX9_findPlan_8 ?_
    refine pt_ldc C tw_182 dX9_findPlan_9 ?_
    refine ob hf (fun h4 g5 hf => ?_)
    refine pt_put C kX9 4 (by decide) tw_188 (Or.inl rfl) rfl rfl rfl g5 dX9_findPlan_11 ?_
    refine pt_aload_n C 0 rfl rfl dX9_findPlan_14 ?_
    refine ob hf (fun v6 g7 hf => ?_)
    refine pt_getR C kX9 0 (by decide) tw_183 (Or.inl rfl) g7 dX9_findPlan_15 ?_
    refine pt_aload_n C 2 rfl rfl dX9_findPlan_18 ?_
    refine ob hf (fun _ g10 hf => ?_)
    refine ob hf (fun q8 g9 hf => ?_)
    refine pt_callV C (As := [.ref a2]) (rest := []) (v := none) (fun l => con_X1_beginAsTold l v6 a2 h4 _ g9) tw_543 tw_631 tw_541 tw_542 kX1 g10 tw_7 yn_X1_beginAsTold (by decide) (Nat.le_of_ble_eq_true rfl) dX9_findPlan_19 rfl ?_
    show PT X 5 0 0 22 [(0, .ref a0), (1, .ref a1), (2, .ref a2), (3, .ref a3), (4, .int a4)] [] q8
    refine pt_aload_n C 2 rfl rfl dX9_findPlan_22 ?_
    refine ob hf (fun v11 g12 hf => ?_)
    refine pt_getR C kX0 5 (by decide) tw_100 (Or.inl rfl) g12 dX9_findPlan_23 ?_
    refine pt_aload_n C 0 rfl rfl dX9_findPlan_26 ?_
    refine ob hf (fun v13 g14 hf => ?_)
    refine pt_getR C kX9 1 (by decide) tw_184 (Or.inl rfl) g14 dX9_findPlan_27 ?_
    refine pt_iconst C (v := 0) (by decide) dX9_findPlan_30 ?_
    refine ob hf (fun v15 g16 hf => ?_)
    refine pt_aald4 C g16 dX9_findPlan_31 ?_
    refine ob hf (fun q17 g18 hf => ?_)
    refine pt_callSN C (As := [.ref v11, .ref v15]) (rest := []) (v := none) (fun l => con_X11_copy l v11 v15 q8 _ g18) tw_389 (host := "HeaveSongs") (by decide +kernel) tw_388 tw_1 yn_X11_copy (by decide) (Nat.le_of_ble_eq_true rfl) dX9_findPlan_32 rfl ?_
    show PT X 5 0 0 35 [(0, .ref a0), (1, .ref a1), (2, .ref a2), (3, .ref a3), (4, .int a4)] [] q17
    refine pt_aload_n C 0 rfl rfl dX9_findPlan_35 ?_
    refine pt_aload_n C 1 rfl rfl dX9_findPlan_36 ?_
    refine pt_aload_n C 2 rfl rfl dX9_findPlan_37 ?_
    refine pt_aload_n C 3 rfl rfl dX9_findPlan_38 ?_
    refine pt_iload C 4 rfl dX9_findPlan_39 ?_
    refine pt_iconst C (v := 0) (by decide) dX9_findPlan_41 ?_
    refine pt_iconst C (v := 0) (by decide) dX9_findPlan_42 ?_
    refine ob hf (fun _ g21 hf => ?_)
    refine ob hf (fun q19 g20 hf => ?_)
    refine pt_callV C (As := [.ref a1, .ref a2, .ref a3, .int a4, .int 0, .int 0]) (rest := []) (v := none) (fun l => con_X9_tryFrom_d4 l a0 a1 a2 a3 a4 0 0 q17 _ g20) tw_636 tw_633 tw_635 tp_10 kX9 g21 tw_8 yn_X9_tryFrom (by decide) (Nat.le_of_ble_eq_true rfl) dX9_findPlan_43 rfl ?_
    show PT X 5 0 0 46 [(0, .ref a0), (1, .ref a1), (2, .ref a2), (3, .ref a3), (4, .int a4)] [] q19
    refine pt_aload_n C 0 rfl rfl dX9_findPlan_46 ?_
    refine pt_iconst C (v := 1) (by decide) dX9_findPlan_47 ?_
    refine ob hf (fun h22 g23 hf => ?_)
    refine pt_put C kX9 5 (by decide) tw_190 (Or.inl rfl) rfl (by decide) rfl g23 dX9_findPlan_48 ?_
    obtain rfl := Option.some.inj hf
    exact pt_vret C K (by decide) (by decide) dX9_findPlan_51
  · rw [if_neg c3] at hf
    obtain rfl := Option.some.inj hf
    exact pt_vret C K (by decide) (by decide) dX9_findPlan_7
theorem con_X9_findPlan (l : Launch) (a0 : Nat) (a1 : Nat) (a2 : Nat) (a3 : Nat) (a4 : Int32) (h : AH) (q : AH) (hf : f_X9_findPlan a0 a1 a2 a3 a4 h = some q) : Con l yX9_findPlan cX9_findPlan 5 none rmX9_findPlan [.ref a0, .ref a1, .ref a2, .ref a3, .int a4] h none q := Con.of (by decide +kernel) (Nat.le_of_ble_eq_true rfl) (fun X C I K => w_X9_findPlan_0 C a0 a1 a2 a3 a4 h q hf K)
abbrev rmX11_plan : Room := { frames := 9, cells := 0, slots := 0, locals := 237 }
theorem yn_X11_plan : YN yX11_plan 0 := by refine ⟨?_, ?_, ?_⟩ <;> decide +kernel
set_option maxRecDepth 100000 in
set_option maxHeartbeats 4000000 in
theorem w_X11_plan_0 {X : MX} (C : CX X cX11_plan 1 RX11 (some .int) rmX11_plan) (a0 : Nat) (h : AH) (res : Int32 × AH) (hf : f_X11_plan a0 h = some res) (K : ∀ (v : Int32) (h2 : AH), res = (v, h2) → PR X rmX11_plan (some (.int v)) h2) : PT X 1 0 0 0 [(0, .ref a0)] [] h := by
  unfold f_X11_plan at hf
  refine pt_aload_n C 0 rfl rfl dX11_plan_0 ?_
  refine ob hf (fun v1 g2 hf => ?_)
  refine pt_getR C kX11 4 (by decide) tw_311 (Or.inl rfl) g2 dX11_plan_1 ?_
  refine ob hf (fun _ g5 hf => ?_)
  refine ob hf (fun q3 g4 hf => ?_)
  refine pt_callV C (As := []) (rest := []) (v := (some (.int q3.1))) (fun l => con_Jx4a65c_isEmpty_aae02 l v1 h _ g4) tw_626 tw_623 tw_624 tw_625 kJx4a65c g5 tw_5 yn_Jx4a65c_isEmpty_aae02 (by decide) (Nat.le_of_ble_eq_true rfl) dX11_plan_4 rfl ?_
  show PT X 1 0 0 7 [(0, .ref a0)] [.int q3.1] q3.2
  refine pt_if_ne C (tgt := 20) (by decide) dX11_plan_7 (fun c6 => ?_) (fun c6 => ?_)
  · rw [if_neg c6] at hf
    refine pt_bipush C (v := (-3)) (by decide) dX11_plan_20 ?_
    exact pt_iret C (K _ _ (Option.some.inj hf).symm) (by decide) (by decide) dX11_plan_22
  · rw [if_pos c6] at hf
    refine pt_aload_n C 0 rfl rfl dX11_plan_10 ?_
    refine ob hf (fun v7 g8 hf => ?_)
    refine pt_getR C kX11 1 (by decide) tw_308 (Or.inl rfl) g8 dX11_plan_11 ?_
    refine ob hf (fun _ g11 hf => ?_)
    refine ob hf (fun q9 g10 hf => ?_)
    refine pt_callV C (As := []) (rest := []) (v := (some (.int q9.1))) (fun l => con_Jx4a65c_isEmpty_aae02 l v7 q3.2 _ g10) tw_626 tw_623 tw_624 tw_625 kJx4a65c g11 tw_5 yn_Jx4a65c_isEmpty_aae02 (by decide) (Nat.le_of_ble_eq_true rfl) dX11_plan_14 rfl ?_
    show PT X 1 0 0 17 [(0, .ref a0)] [.int q9.1] q9.2
    refine pt_if_eq C (tgt := 23) (by decide) dX11_plan_17 (fun c12 => ?_) (fun c12 => ?_)
    · rw [if_pos c12] at hf
      refine pt_aload_n C 0 rfl rfl dX11_plan_23 ?_
      refine ob hf (fun v13 g14 hf => ?_)
      refine pt_getR C kX11 6 (by decide) tw_313 (Or.inl rfl) g14 dX11_plan_24 ?_
      refine pt_aload_n C 0 rfl rfl dX11_plan_27 ?_
      refine ob hf (fun v15 g16 hf => ?_)
      refine pt_getR C kX11 1 (by decide) tw_308 (Or.inl rfl) g16 dX11_plan_28 ?_
      refine pt_aload_n C 0 rfl rfl dX11_plan_31 ?_
      refine ob hf (fun v17 g18 hf => ?_)
      refine pt_getR C kX11 2 (by decide) tw_309 (Or.inl rfl) g18 dX11_plan_32 ?_
      refine pt_aload_n C 0 rfl rfl dX11_plan_35 ?_
      refine ob hf (fun v19 g20 hf => ?_)
      refine pt_getR C kX11 4 (by decide) tw_311 (Or.inl rfl) g20 dX11_plan_36 ?_
      refine pt_aload_n C 0 rfl rfl dX11_plan_39 ?_
      refine ob hf (fun v21 g22 hf => ?_)
      refine pt_getI C kX11 5 (by decide) tw_312 (Or.inl rfl) g22 dX11_plan_40 ?_
      refine ob hf (fun _ g25 hf => ?_)
      refine ob hf (fun q23 g24 hf => ?_)
      refine pt_callV C (As := [.ref v15, .ref v17, .ref v19, .int v21]) (rest := []) (v := none) (fun l => con_X9_findPlan l v13 v15 v17 v19 v21 q9.2 _ g24) tw_630 tw_627 tw_628 tw_629 kX9 g25 tw_8 yn_X9_findPlan (by decide) (Nat.le_of_ble_eq_true rfl) dX11_plan_43 rfl ?_
      show PT X 1 0 0 46 [(0, .ref a0)] [] q23
      refine pt_aload_n C 0 rfl rfl dX11_plan_46 ?_
      refine ob hf (fun v26 g27 hf => ?_)
      refine pt_getR C kX11 6 (by decide) tw_313 (Or.inl rfl) g27 dX11_plan_47 ?_
      refine ob hf (fun v28 g29 hf => ?_)
      refine pt_getI C kX9 4 (by decide) tw_189 (Or.inl rfl) g29 dX11_plan_50 ?_
      refine pt_ldc C tw_643 dX11_plan_53 ?_
      refine pt_icmp_ne C (tgt := 62) (by decide) dX11_plan_55 (fun c30 => ?_) (fun c30 => ?_)
      · rw [if_neg c30] at hf
        refine pt_aload_n C 0 rfl rfl dX11_plan_62 ?_
        refine ob hf (fun v31 g32 hf => ?_)
        refine pt_getR C kX11 6 (by decide) tw_313 (Or.inl rfl) g32 dX11_plan_63 ?_
        refine ob hf (fun v33 g34 hf => ?_)
        refine pt_getI C kX9 4 (by decide) tw_189 (Or.inl rfl) g34 dX11_plan_66 ?_
        exact pt_iret C (K _ _ (Option.some.inj hf).symm) (by decide) (by decide) dX11_plan_69
      · rw [if_pos c30] at hf
        refine pt_iconst C (v := (-1)) (by decide) dX11_plan_58 ?_
        refine pt_goto C (tgt := 69) (by decide) dX11_plan_59 ?_
        exact pt_iret C (K _ _ (Option.some.inj hf).symm) (by decide) (by decide) dX11_plan_69
    · rw [if_neg c12] at hf
      refine pt_bipush C (v := (-3)) (by decide) dX11_plan_20 ?_
      exact pt_iret C (K _ _ (Option.some.inj hf).symm) (by decide) (by decide) dX11_plan_22
theorem con_X11_plan (l : Launch) (a0 : Nat) (h : AH) (q : Int32 × AH) (hf : f_X11_plan a0 h = some q) : Con l yX11_plan cX11_plan 1 (some .int) rmX11_plan [.ref a0] h (some (.int q.1)) q.2 := Con.of (by decide +kernel) (Nat.le_of_ble_eq_true rfl) (fun X C I K => w_X11_plan_0 C a0 h q hf (fun v h2 e => by cases e; exact K))
abbrev rmX11_planAt : Room := { frames := 9, cells := 0, slots := 0, locals := 237 }
theorem yn_X11_planAt : YN yX11_planAt 1 := by refine ⟨?_, ?_, ?_⟩ <;> decide +kernel
set_option maxRecDepth 100000 in
set_option maxHeartbeats 4000000 in
theorem w_X11_planAt_0 {X : MX} (C : CX X cX11_planAt 2 RX11 (some .int) rmX11_planAt) (a0 : Nat) (a1 : Int32) (h : AH) (res : Int32 × AH) (hf : f_X11_planAt a0 a1 h = some res) (K : ∀ (v : Int32) (h2 : AH), res = (v, h2) → PR X rmX11_planAt (some (.int v)) h2) : PT X 2 0 0 0 [(0, .ref a0), (1, .int a1)] [] h := by
  unfold f_X11_planAt at hf
  refine pt_iload_n C 1 rfl rfl dX11_planAt_0 ?_
  refine pt_iconst C (v := 0) (by decide) dX11_planAt_1 ?_
  refine pt_aload_n C 0 rfl rfl dX11_planAt_2 ?_
  refine ob hf (fun v1 g2 hf => ?_)
  refine pt_getR C kX11 4 (by decide) tw_311 (Or.inl rfl) g2 dX11_planAt_3 ?_
  refine ob hf (fun _ g5 hf => ?_)
  refine ob hf (fun q3 g4 hf => ?_)
  refine pt_callV C (As := []) (rest := [.int 0, .int a1]) (v := (some (.int q3.1))) (fun l => con_Jx4a65c_size_8abf5 l v1 h _ g4) tw_363 tw_360 tw_361 tw_362 kJx4a65c g5 tw_5 yn_Jx4a65c_size_8abf5 (by decide) (Nat.le_of_ble_eq_true rfl) dX11_planAt_6 rfl ?_
  show PT X 2 0 0 9 [(0, .ref a0), (1, .int a1)] [.int q3.1, .int 0, .int a1] q3.2
  refine pt_iconst C (v := 1) (by decide) dX11_planAt_9 ?_
  refine pt_isub C dX11_planAt_10 ?_
  refine ob hf (fun q6 g7 hf => ?_)
  refine pt_callS C (As := [.int a1, .int 0, .int (q3.1 - 1)]) (rest := []) (v := (some (.int q6.1))) (fun l => con_X11_within l a1 0 (q3.1 - 1) q3.2 _ g7) tw_461 tw_459 tw_460 tw_1 yn_X11_within (by decide) (Nat.le_of_ble_eq_true rfl) dX11_planAt_11 rfl ?_
  show PT X 2 0 0 14 [(0, .ref a0), (1, .int a1)] [.int q6.1] q6.2
  refine pt_if_ne C (tgt := 20) (by decide) dX11_planAt_14 (fun c8 => ?_) (fun c8 => ?_)
  · rw [if_neg c8] at hf
    refine pt_aload_n C 0 rfl rfl dX11_planAt_20 ?_
    refine ob hf (fun v9 g10 hf => ?_)
    refine pt_getR C kX11 1 (by decide) tw_308 (Or.inl rfl) g10 dX11_planAt_21 ?_
    refine ob hf (fun _ g13 hf => ?_)
    refine ob hf (fun q11 g12 hf => ?_)
    refine pt_callV C (As := []) (rest := []) (v := (some (.int q11.1))) (fun l => con_Jx4a65c_isEmpty_aae02 l v9 q6.2 _ g12) tw_626 tw_623 tw_624 tw_625 kJx4a65c g13 tw_5 yn_Jx4a65c_isEmpty_aae02 (by decide) (Nat.le_of_ble_eq_true rfl) dX11_planAt_24 rfl ?_
    show PT X 2 0 0 27 [(0, .ref a0), (1, .int a1)] [.int q11.1] q11.2
    refine pt_if_eq C (tgt := 33) (by decide) dX11_planAt_27 (fun c14 => ?_) (fun c14 => ?_)
    · rw [if_pos c14] at hf
      refine pt_aload_n C 0 rfl rfl dX11_planAt_33 ?_
      refine ob hf (fun v15 g16 hf => ?_)
      refine pt_getR C kX11 6 (by decide) tw_313 (Or.inl rfl) g16 dX11_planAt_34 ?_
      refine pt_aload_n C 0 rfl rfl dX11_planAt_37 ?_
      refine ob hf (fun v17 g18 hf => ?_)
      refine pt_getR C kX11 1 (by decide) tw_308 (Or.inl rfl) g18 dX11_planAt_38 ?_
      refine pt_aload_n C 0 rfl rfl dX11_planAt_41 ?_
      refine ob hf (fun v19 g20 hf => ?_)
      refine pt_getR C kX11 2 (by decide) tw_309 (Or.inl rfl) g20 dX11_planAt_42 ?_
      refine pt_aload_n C 0 rfl rfl dX11_planAt_45 ?_
      refine ob hf (fun v21 g22 hf => ?_)
      refine pt_getR C kX11 4 (by decide) tw_311 (Or.inl rfl) g22 dX11_planAt_46 ?_
      refine pt_aload_n C 0 rfl rfl dX11_planAt_49 ?_
      refine ob hf (fun v23 g24 hf => ?_)
      refine pt_getI C kX11 5 (by decide) tw_312 (Or.inl rfl) g24 dX11_planAt_50 ?_
      refine ob hf (fun _ g27 hf => ?_)
      refine ob hf (fun q25 g26 hf => ?_)
      refine pt_callV C (As := [.ref v17, .ref v19, .ref v21, .int v23]) (rest := []) (v := none) (fun l => con_X9_findPlan l v15 v17 v19 v21 v23 q11.2 _ g26) tw_630 tw_627 tw_628 tw_629 kX9 g27 tw_8 yn_X9_findPlan (by decide) (Nat.le_of_ble_eq_true rfl) dX11_planAt_53 rfl ?_
      show PT X 2 0 0 56 [(0, .ref a0), (1, .int a1)] [] q25
      refine pt_aload_n C 0 rfl rfl dX11_planAt_56 ?_
      refine ob hf (fun v28 g29 hf => ?_)
      refine pt_getR C kX11 6 (by decide) tw_313 (Or.inl rfl) g29 dX11_planAt_57 ?_
      refine ob hf (fun v30 g31 hf => ?_)
      refine pt_getI C kX9 4 (by decide) tw_189 (Or.inl rfl) g31 dX11_planAt_60 ?_
      refine pt_ldc C tw_643 dX11_planAt_63 ?_
      refine pt_icmp_ne C (tgt := 72) (by decide) dX11_planAt_65 (fun c32 => ?_) (fun c32 => ?_)
      · rw [if_neg c32] at hf
        refine pt_aload_n C 0 rfl rfl dX11_planAt_72 ?_
        refine ob hf (fun v33 g34 hf => ?_)
        refine pt_getR C kX11 6 (by decide) tw_313 (Or.inl rfl) g34 dX11_planAt_73 ?_
        refine ob hf (fun v35 g36 hf => ?_)
        refine pt_getR C kX9 3 (by decide) tw_187 (Or.inl rfl) g36 dX11_planAt_76 ?_
        refine pt_iload_n C 1 rfl rfl dX11_planAt_79 ?_
        refine ob hf (fun v37 g38 hf => ?_)
        refine pt_iald C g38 dX11_planAt_80 ?_
        exact pt_iret C (K _ _ (Option.some.inj hf).symm) (by decide) (by decide) dX11_planAt_81
      · rw [if_pos c32] at hf
        refine pt_iconst C (v := (-1)) (by decide) dX11_planAt_68 ?_
        refine pt_goto C (tgt := 81) (by decide) dX11_planAt_69 ?_
        exact pt_iret C (K _ _ (Option.some.inj hf).symm) (by decide) (by decide) dX11_planAt_81
    · rw [if_neg c14] at hf
      refine pt_bipush C (v := (-3)) (by decide) dX11_planAt_30 ?_
      exact pt_iret C (K _ _ (Option.some.inj hf).symm) (by decide) (by decide) dX11_planAt_32
  · rw [if_pos c8] at hf
    refine pt_bipush C (v := (-2)) (by decide) dX11_planAt_17 ?_
    exact pt_iret C (K _ _ (Option.some.inj hf).symm) (by decide) (by decide) dX11_planAt_19
theorem con_X11_planAt (l : Launch) (a0 : Nat) (a1 : Int32) (h : AH) (q : Int32 × AH) (hf : f_X11_planAt a0 a1 h = some q) : Con l yX11_planAt cX11_planAt 2 (some .int) rmX11_planAt [.ref a0, .int a1] h (some (.int q.1)) q.2 := Con.of (by decide +kernel) (Nat.le_of_ble_eq_true rfl) (fun X C I K => w_X11_planAt_0 C a0 a1 h q hf (fun v h2 e => by cases e; exact K))
