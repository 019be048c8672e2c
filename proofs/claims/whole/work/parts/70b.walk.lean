abbrev rmX2_distance : Room := { frames := 2, cells := 0, slots := 0, locals := 50 }
theorem yn_X2_distance : YN yX2_distance 2 := by refine ⟨?_, ?_, ?_⟩ <;> decide +kernel
set_option maxRecDepth 100000 in
set_option maxHeartbeats 4000000 in
theorem w_X2_distance_0 {X : MX} (C : CX X cX2_distance 3 RX2 (some .int) rmX2_distance) (a0 : Nat) (a1 : Nat) (a2 : Nat) (h : AH) (res : Int32 × AH) (hf : f_X2_distance a0 a1 a2 h = some res) (K : ∀ (v : Int32) (h2 : AH), res = (v, h2) → PR X rmX2_distance (some (.int v)) h2) : PT X 3 0 0 0 [(0, .ref a0), (1, .ref a1), (2, .ref a2)] [] h := by
  unfold f_X2_distance at hf
  refine pt_aload_n C 0 rfl rfl dX2_distance_0 ?_
  refine pt_aload_n C 1 rfl rfl dX2_distance_1 ?_
  refine ob hf (fun v1 g2 hf => ?_)
  refine pt_getR C kX7 0 (by decide) tw_373 (Or.inl rfl) g2 dX2_distance_2 ?_
  refine pt_aload_n C 2 rfl rfl dX2_distance_5 ?_
  refine ob hf (fun v3 g4 hf => ?_)
  refine pt_getR C kX7 0 (by decide) tw_373 (Or.inl rfl) g4 dX2_distance_6 ?_
  refine ob hf (fun _ g7 hf => ?_)
  refine ob hf (fun q5 g6 hf => ?_)
  refine pt_callV C (As := [.ref v1, .ref v3]) (rest := []) (v := (some (.int q5.1))) (fun l => con_X2_changes l a0 v1 v3 h _ g6) tw_840 tw_837 tw_839 tp_20 kX2 g7 tw_12 yn_X2_changes (by decide) (Nat.le_of_ble_eq_true rfl) dX2_distance_9 rfl ?_
  show PT X 3 0 0 12 [(0, .ref a0), (1, .ref a1), (2, .ref a2)] [.int q5.1] q5.2
  refine pt_aload_n C 0 rfl rfl dX2_distance_12 ?_
  refine pt_aload_n C 1 rfl rfl dX2_distance_13 ?_
  refine ob hf (fun v8 g9 hf => ?_)
  refine pt_getR C kX7 1 (by decide) tw_376 (Or.inl rfl) g9 dX2_distance_14 ?_
  refine pt_aload_n C 2 rfl rfl dX2_distance_17 ?_
  refine ob hf (fun v10 g11 hf => ?_)
  refine pt_getR C kX7 1 (by decide) tw_376 (Or.inl rfl) g11 dX2_distance_18 ?_
  refine ob hf (fun _ g14 hf => ?_)
  refine ob hf (fun q12 g13 hf => ?_)
  refine pt_callV C (As := [.ref v8, .ref v10]) (rest := [.int q5.1]) (v := (some (.int q12.1))) (fun l => con_X2_changes l a0 v8 v10 q5.2 _ g13) tw_840 tw_837 tw_839 tp_20 kX2 g14 tw_12 yn_X2_changes (by decide) (Nat.le_of_ble_eq_true rfl) dX2_distance_21 rfl ?_
  show PT X 3 0 0 24 [(0, .ref a0), (1, .ref a1), (2, .ref a2)] [.int q12.1, .int q5.1] q12.2
  refine pt_iadd C dX2_distance_24 ?_
  exact pt_iret C (K _ _ (Option.some.inj hf).symm) (by decide) (by decide) dX2_distance_25
theorem con_X2_distance (l : Launch) (a0 : Nat) (a1 : Nat) (a2 : Nat) (h : AH) (q : Int32 × AH) (hf : f_X2_distance a0 a1 a2 h = some q) : Con l yX2_distance cX2_distance 3 (some .int) rmX2_distance [.ref a0, .ref a1, .ref a2] h (some (.int q.1)) q.2 := Con.of (by decide +kernel) (Nat.le_of_ble_eq_true rfl) (fun X C I K => w_X2_distance_0 C a0 a1 a2 h q hf (fun v h2 e => by cases e; exact K))
abbrev rmX11_apart : Room := { frames := 4, cells := 0, slots := 0, locals := 85 }
theorem yn_X11_apart : YN yX11_apart 2 := by refine ⟨?_, ?_, ?_⟩ <;> decide +kernel
set_option maxRecDepth 100000 in
set_option maxHeartbeats 4000000 in
theorem w_X11_apart_0 {X : MX} (C : CX X cX11_apart 5 RX11 (some .int) rmX11_apart) (a0 : Nat) (a1 : Int32) (a2 : Int32) (h : AH) (res : Int32 × AH) (hf : f_X11_apart a0 a1 a2 h = some res) (K : ∀ (v : Int32) (h2 : AH), res = (v, h2) → PR X rmX11_apart (some (.int v)) h2) : PT X 5 0 0 0 [(0, .ref a0), (1, .int a1), (2, .int a2)] [] h := by
  unfold f_X11_apart at hf
  refine pt_aload_n C 0 rfl rfl dX11_apart_0 ?_
  refine pt_iload_n C 1 rfl rfl dX11_apart_1 ?_
  refine ob hf (fun _ g3 hf => ?_)
  refine ob hf (fun q1 g2 hf => ?_)
  refine pt_callV C (As := [.int a1]) (rest := []) (v := (some (va_rf q1.1))) (fun l => con_X11_songOf l a0 a1 h _ g2) tw_458 tw_455 tw_457 tp_3 kX11 g3 tw_1 yn_X11_songOf (by decide) (Nat.le_of_ble_eq_true rfl) dX11_apart_2 rfl ?_
  show PT X 5 0 0 5 [(0, .ref a0), (1, .int a1), (2, .int a2)] [va_rf q1.1] q1.2
  refine pt_astore_nQ C [(3, va_rf q1.1), (0, .ref a0), (1, .int a1), (2, .int a2)] rfl (by decide) rfl dX11_apart_5 ?_
  refine pt_aload_n C 1 rfl rfl dX11_apart_6 ?_
  refine pt_iload_n C 3 rfl rfl dX11_apart_7 ?_
  refine ob hf (fun _ g6 hf => ?_)
  refine ob hf (fun q4 g5 hf => ?_)
  refine pt_callV C (As := [.int a2]) (rest := []) (v := (some (va_rf q4.1))) (fun l => con_X11_songOf l a0 a2 q1.2 _ g5) tw_458 tw_455 tw_457 tp_3 kX11 g6 tw_1 yn_X11_songOf (by decide) (Nat.le_of_ble_eq_true rfl) dX11_apart_8 rfl ?_
  show PT X 5 0 0 11 [(3, va_rf q1.1), (0, .ref a0), (1, .int a1), (2, .int a2)] [va_rf q4.1] q4.2
  refine pt_astoreQ C [(4, va_rf q4.1), (3, va_rf q1.1), (0, .ref a0), (1, .int a1), (2, .int a2)] (by decide) (by simp [va_rf_cat]) dX11_apart_11 ?_
  refine pt_aload_nQ C 1 rfl rfl dX11_apart_13 ?_
  generalize q1.1 = o7 at hf ⊢
  cases o7 with
  | none =>
    dsimp only [Option.elim] at hf
    refine pt_ifnull0 C (tgt := 22) (by decide) dX11_apart_14 ?_
    refine pt_bipush C (v := (-2)) (by decide) dX11_apart_22 ?_
    exact pt_iret C (K _ _ (Option.some.inj hf).symm) (by decide) (by decide) dX11_apart_24
  | some a8 =>
    dsimp only [Option.elim] at hf
    refine pt_ifnull1 C dX11_apart_14 ?_
    refine pt_aloadQ C 0 rfl dX11_apart_17 ?_
    generalize q4.1 = o9 at hf ⊢
    cases o9 with
    | none =>
      dsimp only [Option.elim] at hf
      refine pt_ifnonnull0 C dX11_apart_19 ?_
      refine pt_bipush C (v := (-2)) (by decide) dX11_apart_22 ?_
      exact pt_iret C (K _ _ (Option.some.inj hf).symm) (by decide) (by decide) dX11_apart_24
    | some a10 =>
      dsimp only [Option.elim] at hf
      refine pt_ifnonnull1 C (tgt := 25) (by decide) dX11_apart_19 ?_
      refine pt_aload_n C 2 rfl rfl dX11_apart_25 ?_
      refine ob hf (fun v11 g12 hf => ?_)
      refine pt_getR C kX11 11 (by decide) tw_318 (Or.inl rfl) g12 dX11_apart_26 ?_
      refine pt_aload_n C 1 rfl rfl dX11_apart_29 ?_
      refine pt_aload C 0 rfl dX11_apart_30 ?_
      refine ob hf (fun _ g15 hf => ?_)
      refine ob hf (fun q13 g14 hf => ?_)
      refine pt_callV C (As := [.ref a8, .ref a10]) (rest := []) (v := (some (.int q13.1))) (fun l => con_X2_distance l v11 a8 a10 q4.2 _ g14) tw_836 tw_833 tw_834 tw_835 kX2 g15 tw_12 yn_X2_distance (by decide) (Nat.le_of_ble_eq_true rfl) dX11_apart_32 rfl ?_
      show PT X 5 0 0 35 [(4, .ref a10), (3, .ref a8), (0, .ref a0), (1, .int a1), (2, .int a2)] [.int q13.1] q13.2
      exact pt_iret C (K _ _ (Option.some.inj hf).symm) (by decide) (by decide) dX11_apart_35
theorem con_X11_apart (l : Launch) (a0 : Nat) (a1 : Int32) (a2 : Int32) (h : AH) (q : Int32 × AH) (hf : f_X11_apart a0 a1 a2 h = some q) : Con l yX11_apart cX11_apart 5 (some .int) rmX11_apart [.ref a0, .int a1, .int a2] h (some (.int q.1)) q.2 := Con.of (by decide +kernel) (Nat.le_of_ble_eq_true rfl) (fun X C I K => w_X11_apart_0 C a0 a1 a2 h q hf (fun v h2 e => by cases e; exact K))
abbrev rmX6_add : Room := { frames := 0, cells := 0, slots := 0, locals := 0 }
theorem yn_X6_add : YN yX6_add 1 := by refine ⟨?_, ?_, ?_⟩ <;> decide +kernel
set_option maxRecDepth 100000 in
set_option maxHeartbeats 4000000 in
theorem w_X6_add_0 {X : MX} (C : CX X cX6_add 2 RX6 (some .boolean) rmX6_add) (a0 : Nat) (a1 : Int32) (h : AH) (res : Int32 × AH) (hf : f_X6_add a0 a1 h = some res) (K : ∀ (v : Int32) (h2 : AH), res = (v, h2) → PR X rmX6_add (some (.int v)) h2) : PT X 2 0 0 0 [(0, .ref a0), (1, .int a1)] [] h := by
  unfold f_X6_add at hf
  refine pt_aload_n C 0 rfl rfl dX6_add_0 ?_
  refine ob hf (fun v1 g2 hf => ?_)
  refine pt_getI C kX6 1 (by decide) tw_43 (Or.inl rfl) g2 dX6_add_1 ?_
  refine pt_aload_n C 0 rfl rfl dX6_add_4 ?_
  refine ob hf (fun v3 g4 hf => ?_)
  refine pt_getR C kX6 0 (by decide) tw_38 (Or.inl rfl) g4 dX6_add_5 ?_
  refine ob hf (fun v5 g6 hf => ?_)
  refine pt_alen C g6 dX6_add_8 ?_
  refine pt_icmp_lt C (tgt := 14) (by decide) dX6_add_9 (fun c7 => ?_) (fun c7 => ?_)
  · rw [if_pos c7] at hf
    refine pt_aload_n C 0 rfl rfl dX6_add_14 ?_
    refine ob hf (fun v8 g9 hf => ?_)
    refine pt_getR C kX6 0 (by decide) tw_38 (Or.inl rfl) g9 dX6_add_15 ?_
    refine pt_aload_n C 0 rfl rfl dX6_add_18 ?_
    refine ob hf (fun v10 g11 hf => ?_)
    refine pt_getI C kX6 1 (by decide) tw_43 (Or.inl rfl) g11 dX6_add_19 ?_
    refine pt_iload_n C 1 rfl rfl dX6_add_22 ?_
    refine ob hf (fun h12 g13 hf => ?_)
    refine pt_iast C g13 dX6_add_23 ?_
    refine pt_aload_n C 0 rfl rfl dX6_add_24 ?_
    refine pt_dup C rfl dX6_add_25 ?_
    refine ob hf (fun v14 g15 hf => ?_)
    refine pt_getI C kX6 1 (by decide) tw_43 (Or.inl rfl) g15 dX6_add_26 ?_
    refine pt_iconst C (v := 1) (by decide) dX6_add_29 ?_
    refine pt_iadd C dX6_add_30 ?_
    refine ob hf (fun h16 g17 hf => ?_)
    refine pt_put C kX6 1 (by decide) tw_43 (Or.inl rfl) rfl rfl rfl g17 dX6_add_31 ?_
    refine pt_iconst C (v := 1) (by decide) dX6_add_34 ?_
    exact pt_zret C (by decide) (K _ _ (Option.some.inj hf).symm) (by decide) (by decide) dX6_add_35
  · rw [if_neg c7] at hf
    refine pt_iconst C (v := 0) (by decide) dX6_add_12 ?_
    exact pt_zret C (by decide) (K _ _ (Option.some.inj hf).symm) (by decide) (by decide) dX6_add_13
theorem con_X6_add (l : Launch) (a0 : Nat) (a1 : Int32) (h : AH) (q : Int32 × AH) (hf : f_X6_add a0 a1 h = some q) : Con l yX6_add cX6_add 2 (some .boolean) rmX6_add [.ref a0, .int a1] h (some (.int q.1)) q.2 := Con.of (by decide +kernel) (Nat.le_of_ble_eq_true rfl) (fun X C I K => w_X6_add_0 C a0 a1 h q hf (fun v h2 e => by cases e; exact K))
abbrev rmX11_beat : Room := { frames := 1, cells := 0, slots := 0, locals := 21 }
theorem yn_X11_beat : YN yX11_beat 1 := by refine ⟨?_, ?_, ?_⟩ <;> decide +kernel
set_option maxRecDepth 100000 in
set_option maxHeartbeats 4000000 in
theorem w_X11_beat_0 {X : MX} (C : CX X cX11_beat 2 RX11 (some .int) rmX11_beat) (a0 : Nat) (a1 : Int32) (h : AH) (res : Int32 × AH) (hf : f_X11_beat a0 a1 h = some res) (K : ∀ (v : Int32) (h2 : AH), res = (v, h2) → PR X rmX11_beat (some (.int v)) h2) : PT X 2 0 0 0 [(0, .ref a0), (1, .int a1)] [] h := by
  unfold f_X11_beat at hf
  refine pt_iload_n C 1 rfl rfl dX11_beat_0 ?_
  refine pt_if_lt C (tgt := 9) (by decide) dX11_beat_1 (fun c1 => ?_) (fun c1 => ?_)
  · rw [if_pos c1] at hf
    refine pt_bipush C (v := (-2)) (by decide) dX11_beat_9 ?_
    exact pt_iret C (K _ _ (Option.some.inj hf).symm) (by decide) (by decide) dX11_beat_11
  · rw [if_neg c1] at hf
    refine pt_iload_n C 1 rfl rfl dX11_beat_4 ?_
    refine pt_iconst C (v := 3) (by decide) dX11_beat_5 ?_
    refine pt_icmp_le C (tgt := 12) (by decide) dX11_beat_6 (fun c2 => ?_) (fun c2 => ?_)
    · rw [if_pos c2] at hf
      refine pt_aload_n C 0 rfl rfl dX11_beat_12 ?_
      refine ob hf (fun v3 g4 hf => ?_)
      refine pt_getR C kX11 0 (by decide) tw_307 (Or.inl rfl) g4 dX11_beat_13 ?_
      refine pt_iload_n C 1 rfl rfl dX11_beat_16 ?_
      refine ob hf (fun _ g7 hf => ?_)
      refine ob hf (fun q5 g6 hf => ?_)
      refine pt_callV C (As := [.int a1]) (rest := []) (v := (some (.int q5.1))) (fun l => con_X6_add l v3 a1 h _ g6) tw_351 tw_348 tw_349 tw_350 kX6 g7 tw_2 yn_X6_add (by decide) (Nat.le_of_ble_eq_true rfl) dX11_beat_17 rfl ?_
      show PT X 2 0 0 20 [(0, .ref a0), (1, .int a1)] [.int q5.1] q5.2
      refine pt_if_eq C (tgt := 33) (by decide) dX11_beat_20 (fun c8 => ?_) (fun c8 => ?_)
      · rw [if_pos c8] at hf
        refine pt_bipush C (v := (-4)) (by decide) dX11_beat_33 ?_
        exact pt_iret C (K _ _ (Option.some.inj hf).symm) (by decide) (by decide) dX11_beat_35
      · rw [if_neg c8] at hf
        refine pt_aload_n C 0 rfl rfl dX11_beat_23 ?_
        refine ob hf (fun v9 g10 hf => ?_)
        refine pt_getR C kX11 0 (by decide) tw_307 (Or.inl rfl) g10 dX11_beat_24 ?_
        refine ob hf (fun v11 g12 hf => ?_)
        refine pt_getI C kX6 1 (by decide) tw_46 (Or.inl rfl) g12 dX11_beat_27 ?_
        refine pt_goto C (tgt := 35) (by decide) dX11_beat_30 ?_
        exact pt_iret C (K _ _ (Option.some.inj hf).symm) (by decide) (by decide) dX11_beat_35
    · rw [if_neg c2] at hf
      refine pt_bipush C (v := (-2)) (by decide) dX11_beat_9 ?_
      exact pt_iret C (K _ _ (Option.some.inj hf).symm) (by decide) (by decide) dX11_beat_11
theorem con_X11_beat (l : Launch) (a0 : Nat) (a1 : Int32) (h : AH) (q : Int32 × AH) (hf : f_X11_beat a0 a1 h = some q) : Con l yX11_beat cX11_beat 2 (some .int) rmX11_beat [.ref a0, .int a1] h (some (.int q.1)) q.2 := Con.of (by decide +kernel) (Nat.le_of_ble_eq_true rfl) (fun X C I K => w_X11_beat_0 C a0 a1 h q hf (fun v h2 e => by cases e; exact K))
abbrev rmX7_sungAt : Room := { frames := 0, cells := 0, slots := 0, locals := 0 }
theorem yn_X7_sungAt : YN yX7_sungAt 1 := by refine ⟨?_, ?_, ?_⟩ <;> decide +kernel
set_option maxRecDepth 100000 in
set_option maxHeartbeats 4000000 in
theorem w_X7_sungAt_0 {X : MX} (C : CX X cX7_sungAt 4 RX7 (some .int) rmX7_sungAt) (a0 : Nat) (a1 : Int32) (h : AH) (res : Int32 × AH) (hf : f_X7_sungAt a0 a1 h = some res) (K : ∀ (v : Int32) (h2 : AH), res = (v, h2) → PR X rmX7_sungAt (some (.int v)) h2) : PT X 4 0 0 0 [(0, .ref a0), (1, .int a1)] [] h := by
  unfold f_X7_sungAt at hf
  refine pt_aload_n C 0 rfl rfl dX7_sungAt_0 ?_
  refine ob hf (fun v1 g2 hf => ?_)
  refine pt_getR C kX7 0 (by decide) tw_372 (Or.inl rfl) g2 dX7_sungAt_1 ?_
  refine ob hf (fun v3 g4 hf => ?_)
  refine pt_getI C kX6 1 (by decide) tw_44 (Or.inl rfl) g4 dX7_sungAt_4 ?_
  refine pt_aload_n C 0 rfl rfl dX7_sungAt_7 ?_
  refine ob hf (fun v5 g6 hf => ?_)
  refine pt_getR C kX7 1 (by decide) tw_375 (Or.inl rfl) g6 dX7_sungAt_8 ?_
  refine ob hf (fun v7 g8 hf => ?_)
  refine pt_getI C kX6 1 (by decide) tw_44 (Or.inl rfl) g8 dX7_sungAt_11 ?_
  refine pt_iadd C dX7_sungAt_14 ?_
  refine pt_istore_n C [(2, .int (v3 + v7)), (0, .ref a0), (1, .int a1)] rfl (by decide) rfl dX7_sungAt_15 ?_
  refine pt_iload_n C 2 rfl rfl dX7_sungAt_16 ?_
  refine pt_if_lt C (tgt := 24) (by decide) dX7_sungAt_17 (fun c9 => ?_) (fun c9 => ?_)
  · rw [if_pos c9] at hf
    refine pt_iconst C (v := 0) (by decide) dX7_sungAt_24 ?_
    exact pt_iret C (K _ _ (Option.some.inj hf).symm) (by decide) (by decide) dX7_sungAt_25
  · rw [if_neg c9] at hf
    refine pt_iload_n C 0 rfl rfl dX7_sungAt_20 ?_
    refine pt_if_gt C (tgt := 26) (by decide) dX7_sungAt_21 (fun c10 => ?_) (fun c10 => ?_)
    · rw [if_pos c10] at hf
      refine pt_iload_n C 2 rfl rfl dX7_sungAt_26 ?_
      refine pt_iload_n C 0 rfl rfl dX7_sungAt_27 ?_
      refine ob hf (fun _ g11 hf => ?_)
      refine pt_irem C (hdv_spec g11) dX7_sungAt_28 ?_
      refine pt_istore_n C [(3, .int (a1 - a1 / (v3 + v7) * (v3 + v7))), (2, .int (v3 + v7)), (0, .ref a0), (1, .int a1)] rfl (by decide) rfl dX7_sungAt_29 ?_
      refine pt_iload_n C 0 rfl rfl dX7_sungAt_30 ?_
      refine pt_aload_n C 2 rfl rfl dX7_sungAt_31 ?_
      refine ob hf (fun v12 g13 hf => ?_)
      refine pt_getR C kX7 0 (by decide) tw_372 (Or.inl rfl) g13 dX7_sungAt_32 ?_
      refine ob hf (fun v14 g15 hf => ?_)
      refine pt_getI C kX6 1 (by decide) tw_44 (Or.inl rfl) g15 dX7_sungAt_35 ?_
      refine pt_icmp_ge C (tgt := 53) (by decide) dX7_sungAt_38 (fun c16 => ?_) (fun c16 => ?_)
      · rw [if_pos c16] at hf
        refine pt_aload_n C 2 rfl rfl dX7_sungAt_53 ?_
        refine ob hf (fun v17 g18 hf => ?_)
        refine pt_getR C kX7 1 (by decide) tw_375 (Or.inl rfl) g18 dX7_sungAt_54 ?_
        refine ob hf (fun v19 g20 hf => ?_)
        refine pt_getR C kX6 0 (by decide) tw_40 (Or.inl rfl) g20 dX7_sungAt_57 ?_
        refine pt_iload_n C 0 rfl rfl dX7_sungAt_60 ?_
        refine pt_aload_n C 2 rfl rfl dX7_sungAt_61 ?_
        refine ob hf (fun v21 g22 hf => ?_)
        refine pt_getR C kX7 0 (by decide) tw_372 (Or.inl rfl) g22 dX7_sungAt_62 ?_
        refine ob hf (fun v23 g24 hf => ?_)
        refine pt_getI C kX6 1 (by decide) tw_44 (Or.inl rfl) g24 dX7_sungAt_65 ?_
        refine pt_isub C dX7_sungAt_68 ?_
        refine ob hf (fun v25 g26 hf => ?_)
        refine pt_iald C g26 dX7_sungAt_69 ?_
        exact pt_iret C (K _ _ (Option.some.inj hf).symm) (by decide) (by decide) dX7_sungAt_70
      · rw [if_neg c16] at hf
        refine pt_aload_n C 2 rfl rfl dX7_sungAt_41 ?_
        refine ob hf (fun v27 g28 hf => ?_)
        refine pt_getR C kX7 0 (by decide) tw_372 (Or.inl rfl) g28 dX7_sungAt_42 ?_
        refine ob hf (fun v29 g30 hf => ?_)
        refine pt_getR C kX6 0 (by decide) tw_40 (Or.inl rfl) g30 dX7_sungAt_45 ?_
        refine pt_iload_n C 0 rfl rfl dX7_sungAt_48 ?_
        refine ob hf (fun v31 g32 hf => ?_)
        refine pt_iald C g32 dX7_sungAt_49 ?_
        refine pt_goto C (tgt := 70) (by decide) dX7_sungAt_50 ?_
        exact pt_iret C (K _ _ (Option.some.inj hf).symm) (by decide) (by decide) dX7_sungAt_70
    · rw [if_neg c10] at hf
      refine pt_iconst C (v := 0) (by decide) dX7_sungAt_24 ?_
      exact pt_iret C (K _ _ (Option.some.inj hf).symm) (by decide) (by decide) dX7_sungAt_25
theorem con_X7_sungAt (l : Launch) (a0 : Nat) (a1 : Int32) (h : AH) (q : Int32 × AH) (hf : f_X7_sungAt a0 a1 h = some q) : Con l yX7_sungAt cX7_sungAt 4 (some .int) rmX7_sungAt [.ref a0, .int a1] h (some (.int q.1)) q.2 := Con.of (by decide +kernel) (Nat.le_of_ble_eq_true rfl) (fun X C I K => w_X7_sungAt_0 C a0 a1 h q hf (fun v h2 e => by cases e; exact K))
abbrev rmX11_beatAt : Room := { frames := 4, cells := 0, slots := 0, locals := 85 }
theorem yn_X11_beatAt : YN yX11_beatAt 2 := by refine ⟨?_, ?_, ?_⟩ <;> decide +kernel
set_option maxRecDepth 100000 in
set_option maxHeartbeats 4000000 in
theorem w_X11_beatAt_0 {X : MX} (C : CX X cX11_beatAt 4 RX11 (some .int) rmX11_beatAt) (a0 : Nat) (a1 : Int32) (a2 : Int32) (h : AH) (res : Int32 × AH) (hf : f_X11_beatAt a0 a1 a2 h = some res) (K : ∀ (v : Int32) (h2 : AH), res = (v, h2) → PR X rmX11_beatAt (some (.int v)) h2) : PT X 4 0 0 0 [(0, .ref a0), (1, .int a1), (2, .int a2)] [] h := by
  unfold f_X11_beatAt at hf
  refine pt_aload_n C 0 rfl rfl dX11_beatAt_0 ?_
  refine pt_iload_n C 1 rfl rfl dX11_beatAt_1 ?_
  refine ob hf (fun _ g3 hf => ?_)
  refine ob hf (fun q1 g2 hf => ?_)
  refine pt_callV C (As := [.int a1]) (rest := []) (v := (some (va_rf q1.1))) (fun l => con_X11_songOf l a0 a1 h _ g2) tw_458 tw_455 tw_457 tp_3 kX11 g3 tw_1 yn_X11_songOf (by decide) (Nat.le_of_ble_eq_true rfl) dX11_beatAt_2 rfl ?_
  show PT X 4 0 0 5 [(0, .ref a0), (1, .int a1), (2, .int a2)] [va_rf q1.1] q1.2
  refine pt_astore_nQ C [(3, va_rf q1.1), (0, .ref a0), (1, .int a1), (2, .int a2)] rfl (by decide) rfl dX11_beatAt_5 ?_
  refine pt_aload_nQ C 0 rfl rfl dX11_beatAt_6 ?_
  generalize q1.1 = o4 at hf ⊢
  cases o4 with
  | none =>
    dsimp only [Option.elim] at hf
    refine pt_ifnull0 C (tgt := 21) (by decide) dX11_beatAt_7 ?_
    refine pt_bipush C (v := (-2)) (by decide) dX11_beatAt_21 ?_
    exact pt_iret C (K _ _ (Option.some.inj hf).symm) (by decide) (by decide) dX11_beatAt_23
  | some a5 =>
    dsimp only [Option.elim] at hf
    refine pt_ifnull1 C dX11_beatAt_7 ?_
    refine pt_iload_n C 3 rfl rfl dX11_beatAt_10 ?_
    refine pt_iconst C (v := 0) (by decide) dX11_beatAt_11 ?_
    refine pt_sipush C (v := 1000) (by decide) dX11_beatAt_12 ?_
    refine ob hf (fun q6 g7 hf => ?_)
    refine pt_callS C (As := [.int a2, .int 0, .int 1000]) (rest := []) (v := (some (.int q6.1))) (fun l => con_X11_within l a2 0 1000 q1.2 _ g7) tw_461 tw_459 tw_460 tw_1 yn_X11_within (by decide) (Nat.le_of_ble_eq_true rfl) dX11_beatAt_15 rfl ?_
    show PT X 4 0 0 18 [(3, .ref a5), (0, .ref a0), (1, .int a1), (2, .int a2)] [.int q6.1] q6.2
    refine pt_if_ne C (tgt := 24) (by decide) dX11_beatAt_18 (fun c8 => ?_) (fun c8 => ?_)
    · rw [if_neg c8] at hf
      refine pt_aload_n C 0 rfl rfl dX11_beatAt_24 ?_
      refine pt_iload_n C 3 rfl rfl dX11_beatAt_25 ?_
      refine ob hf (fun _ g11 hf => ?_)
      refine ob hf (fun q9 g10 hf => ?_)
      refine pt_callV C (As := [.int a2]) (rest := []) (v := (some (.int q9.1))) (fun l => con_X7_sungAt l a5 a2 q6.2 _ g10) tw_483 tw_480 tw_481 tw_482 kX7 g11 tw_14 yn_X7_sungAt (by decide) (Nat.le_of_ble_eq_true rfl) dX11_beatAt_26 rfl ?_
      show PT X 4 0 0 29 [(3, .ref a5), (0, .ref a0), (1, .int a1), (2, .int a2)] [.int q9.1] q9.2
      exact pt_iret C (K _ _ (Option.some.inj hf).symm) (by decide) (by decide) dX11_beatAt_29
    · rw [if_pos c8] at hf
      refine pt_bipush C (v := (-2)) (by decide) dX11_beatAt_21 ?_
      exact pt_iret C (K _ _ (Option.some.inj hf).symm) (by decide) (by decide) dX11_beatAt_23
theorem con_X11_beatAt (l : Launch) (a0 : Nat) (a1 : Int32) (a2 : Int32) (h : AH) (q : Int32 × AH) (hf : f_X11_beatAt a0 a1 a2 h = some q) : Con l yX11_beatAt cX11_beatAt 4 (some .int) rmX11_beatAt [.ref a0, .int a1, .int a2] h (some (.int q.1)) q.2 := Con.of (by decide +kernel) (Nat.le_of_ble_eq_true rfl) (fun X C I K => w_X11_beatAt_0 C a0 a1 a2 h q hf (fun v h2 e => by cases e; exact K))
abbrev rmX11_copy : Room := { frames := 0, cells := 0, slots := 0, locals := 0 }
theorem yn_X11_copy : YN yX11_copy 2 := by refine ⟨?_, ?_, ?_⟩ <;> decide +kernel
set_option maxRecDepth 100000 in
set_option maxHeartbeats 4000000 in
theorem w_X11_copy_L2 {X : MX} (C : CX X cX11_copy 3 RX11 none rmX11_copy) (x0 : Nat) (x1 : Nat) (s : Int32 × AH) (res : (Int32 × AH) ⊕ ((AH))) (hf : f_X11_copy_L2 x0 x1 s = some res) (K0 : ∀ (u2 : Int32) (hu : AH), res = .inl (u2, hu) → PT X 3 0 0 2 [(0, .ref x0), (1, .ref x1), (2, .int u2)] [] hu) (K1 : ∀ (hu : AH), res = .inr (hu) → PT X 3 0 0 26 [] [] hu) : PT X 3 0 0 2 [(0, .ref x0), (1, .ref x1), (2, .int s.1)] [] s.2 := by
  unfold f_X11_copy_L2 at hf
  refine pt_iload_n C 2 rfl rfl dX11_copy_2 ?_
  refine pt_aload_n C 0 rfl rfl dX11_copy_3 ?_
  refine ob hf (fun v1 g2 hf => ?_)
  refine pt_alen C g2 dX11_copy_4 ?_
  refine pt_icmp_ge C (tgt := 26) (by decide) dX11_copy_5 (fun c3 => ?_) (fun c3 => ?_)
  · rw [if_pos c3] at hf
    refine pt_sub C [] [] rfl ?_
    exact K1 _ (Option.some.inj hf).symm
  · rw [if_neg c3] at hf
    refine pt_iload_n C 2 rfl rfl dX11_copy_8 ?_
    refine pt_aload_n C 1 rfl rfl dX11_copy_9 ?_
    refine ob hf (fun v4 g5 hf => ?_)
    refine pt_alen C g5 dX11_copy_10 ?_
    refine pt_icmp_ge C (tgt := 26) (by decide) dX11_copy_11 (fun c6 => ?_) (fun c6 => ?_)
    · rw [if_pos c6] at hf
      refine pt_sub C [] [] rfl ?_
      exact K1 _ (Option.some.inj hf).symm
    · rw [if_neg c6] at hf
      refine pt_aload_n C 1 rfl rfl dX11_copy_14 ?_
      refine pt_iload_n C 2 rfl rfl dX11_copy_15 ?_
      refine pt_aload_n C 0 rfl rfl dX11_copy_16 ?_
      refine pt_iload_n C 2 rfl rfl dX11_copy_17 ?_
      refine ob hf (fun v7 g8 hf => ?_)
      refine pt_iald C g8 dX11_copy_18 ?_
      refine ob hf (fun h9 g10 hf => ?_)
      refine pt_iast C g10 dX11_copy_19 ?_
      refine pt_iinc C 2 [(2, .int (s.1 + 1)), (0, .ref x0), (1, .ref x1)] rfl (iinc_eq s.1 (by decide)) (by decide) rfl dX11_copy_20 ?_
      refine pt_goto C (tgt := 2) (by decide) dX11_copy_23 ?_
      refine pt_sub C [(0, .ref x0), (1, .ref x1), (2, .int (s.1 + 1))] [1, 2, 0] rfl ?_
      exact K0 _ _ (Option.some.inj hf).symm
theorem l_X11_copy_L2 {X : MX} (C : CX X cX11_copy 3 RX11 none rmX11_copy) (x0 : Nat) (x1 : Nat) : ∀ (n : Nat) (s : Int32 × AH) (r : (AH)), iter (f_X11_copy_L2 x0 x1) n s = some r → (fun r : (AH) => PT X 3 0 0 26 [] [] r) r → PT X 3 0 0 2 [(0, .ref x0), (1, .ref x1), (2, .int s.1)] [] s.2 :=
  iter_W (fun s : Int32 × AH => PT X 3 0 0 2 [(0, .ref x0), (1, .ref x1), (2, .int s.1)] [] s.2) (fun r : (AH) => PT X 3 0 0 26 [] [] r) _ (fun s s2 hf P => w_X11_copy_L2 C x0 x1 s _ hf (fun u2 hu e => by cases e; exact P) (fun hu e => by cases e)) (fun s r hf P => w_X11_copy_L2 C x0 x1 s _ hf (fun u2 hu e => by cases e) (fun hu e => by cases e; exact P))
set_option maxRecDepth 100000 in
set_option maxHeartbeats 4000000 in
theorem w_X11_copy_0 {X : MX} (C : CX X cX11_copy 3 RX11 none rmX11_copy) (a0 : Nat) (a1 : Nat) (h : AH) (res : AH) (hf : f_X11_copy a0 a1 h = some res) (K : PR X rmX11_copy none res) : PT X 3 0 0 0 [(0, .ref a0), (1, .ref a1)] [] h := by
  unfold f_X11_copy at hf
  refine pt_iconst C (v := 0) (by decide) dX11_copy_0 ?_
  refine pt_istore_n C [(2, .int 0), (0, .ref a0), (1, .ref a1)] rfl (by decide) rfl dX11_copy_1 ?_
  refine pt_sub C [(0, .ref a0), (1, .ref a1), (2, .int 0)] [1, 2, 0] rfl ?_
  refine ob hf (fun e11 g12 hf => ?_)
  refine l_X11_copy_L2 C a0 a1 _ _ _ g12 ?_
  obtain rfl := Option.some.inj hf
  exact pt_vret C K (by decide) (by decide) dX11_copy_26
theorem con_X11_copy (l : Launch) (a0 : Nat) (a1 : Nat) (h : AH) (q : AH) (hf : f_X11_copy a0 a1 h = some q) : Con l yX11_copy cX11_copy 3 none rmX11_copy [.ref a0, .ref a1] h none q := Con.of (by decide +kernel) (Nat.le_of_ble_eq_true rfl) (fun X C I K => w_X11_copy_0 C a0 a1 h q hf K)
abbrev rmX1_beginAsTold : Room := { frames := 1, cells := 0, slots := 0, locals := 22 }
theorem yn_X1_beginAsTold : YN yX1_beginAsTold 1 := by refine ⟨?_, ?_, ?_⟩ <;> decide +kernel
set_option maxRecDepth 100000 in
set_option maxHeartbeats 4000000 in
theorem w_X1_beginAsTold_0 {X : MX} (C : CX X cX1_beginAsTold 2 RX1 none rmX1_beginAsTold) (a0 : Nat) (a1 : Nat) (h : AH) (res : AH) (hf : f_X1_beginAsTold a0 a1 h = some res) (K : PR X rmX1_beginAsTold none res) : PT X 2 0 0 0 [(0, .ref a0), (1, .ref a1)] [] h := by
  unfold f_X1_beginAsTold at hf
  refine pt_aload_n C 1 rfl rfl dX1_beginAsTold_0 ?_
  refine ob hf (fun v1 g2 hf => ?_)
  refine pt_getR C kX0 5 (by decide) tw_99 (Or.inl rfl) g2 dX1_beginAsTold_1 ?_
  refine pt_aload_n C 0 rfl rfl dX1_beginAsTold_4 ?_
  refine ob hf (fun v3 g4 hf => ?_)
  refine pt_getR C kX1 0 (by decide) tw_138 (Or.inl rfl) g4 dX1_beginAsTold_5 ?_
  refine ob hf (fun q5 g6 hf => ?_)
  refine pt_callSN C (As := [.ref v1, .ref v3]) (rest := []) (v := none) (fun l => con_X11_copy l v1 v3 h _ g6) tw_389 (host := "HeaveSongs") (by decide +kernel) tw_388 tw_1 yn_X11_copy (by decide) (Nat.le_of_ble_eq_true rfl) dX1_beginAsTold_8 rfl ?_
  show PT X 2 0 0 11 [(0, .ref a0), (1, .ref a1)] [] q5
  refine pt_aload_n C 1 rfl rfl dX1_beginAsTold_11 ?_
  refine ob hf (fun v7 g8 hf => ?_)
  refine pt_getR C kX0 4 (by decide) tw_96 (Or.inl rfl) g8 dX1_beginAsTold_12 ?_
  refine pt_aload_n C 0 rfl rfl dX1_beginAsTold_15 ?_
  refine ob hf (fun v9 g10 hf => ?_)
  refine pt_getR C kX1 1 (by decide) tw_141 (Or.inl rfl) g10 dX1_beginAsTold_16 ?_
  refine ob hf (fun q11 g12 hf => ?_)
  refine pt_callSN C (As := [.ref v7, .ref v9]) (rest := []) (v := none) (fun l => con_X11_copy l v7 v9 q5 _ g12) tw_389 (host := "HeaveSongs") (by decide +kernel) tw_388 tw_1 yn_X11_copy (by decide) (Nat.le_of_ble_eq_true rfl) dX1_beginAsTold_19 rfl ?_
  show PT X 2 0 0 22 [(0, .ref a0), (1, .ref a1)] [] q11
  refine pt_aload_n C 0 rfl rfl dX1_beginAsTold_22 ?_
  refine pt_aload_n C 1 rfl rfl dX1_beginAsTold_23 ?_
  refine ob hf (fun v13 g14 hf => ?_)
  refine pt_getI C kX0 7 (by decide) tw_107 (Or.inl rfl) g14 dX1_beginAsTold_24 ?_
  refine ob hf (fun h15 g16 hf => ?_)
  refine pt_put C kX1 5 (by decide) tw_149 (Or.inl rfl) rfl rfl rfl g16 dX1_beginAsTold_27 ?_
  refine pt_aload_n C 0 rfl rfl dX1_beginAsTold_30 ?_
  refine pt_aload_n C 1 rfl rfl dX1_beginAsTold_31 ?_
  refine ob hf (fun v17 g18 hf => ?_)
  refine pt_getI C kX0 8 (by decide) tw_111 (Or.inl rfl) g18 dX1_beginAsTold_32 ?_
  refine ob hf (fun h19 g20 hf => ?_)
  refine pt_put C kX1 6 (by decide) tw_151 (Or.inl rfl) rfl rfl rfl g20 dX1_beginAsTold_35 ?_
  obtain rfl := Option.some.inj hf
  exact pt_vret C K (by decide) (by decide) dX1_beginAsTold_38
theorem con_X1_beginAsTold (l : Launch) (a0 : Nat) (a1 : Nat) (h : AH) (q : AH) (hf : f_X1_beginAsTold a0 a1 h = some q) : Con l yX1_beginAsTold cX1_beginAsTold 2 none rmX1_beginAsTold [.ref a0, .ref a1] h none q := Con.of (by decide +kernel) (Nat.le_of_ble_eq_true rfl) (fun X C I K => w_X1_beginAsTold_0 C a0 a1 h q hf K)
abbrev rmX11_isIn : Room := { frames := 0, cells := 0, slots := 0, locals := 0 }
theorem yn_X11_isIn : YN yX11_isIn 2 := by refine ⟨?_, ?_, ?_⟩ <;> decide +kernel
set_option maxRecDepth 100000 in
set_option maxHeartbeats 4000000 in
theorem w_X11_isIn_0 {X : MX} (C : CX X cX11_isIn 2 RX11 (some .boolean) rmX11_isIn) (a0 : Int32) (a1 : Int32) (h : AH) (res : Int32 × AH) (hf : f_X11_isIn a0 a1 h = some res) (K : ∀ (v : Int32) (h2 : AH), res = (v, h2) → PR X rmX11_isIn (some (.int v)) h2) : PT X 2 0 0 0 [(0, .int a0), (1, .int a1)] [] h := by
  unfold f_X11_isIn at hf
  refine pt_iload_n C 0 rfl rfl dX11_isIn_0 ?_
  refine pt_iload_n C 1 rfl rfl dX11_isIn_1 ?_
  refine pt_ishr C dX11_isIn_2 ?_
  refine pt_iconst C (v := 1) (by decide) dX11_isIn_3 ?_
  refine pt_iand C dX11_isIn_4 ?_
  refine pt_iconst C (v := 1) (by decide) dX11_isIn_5 ?_
  refine pt_icmp_ne C (tgt := 13) (by decide) dX11_isIn_6 (fun c1 => ?_) (fun c1 => ?_)
  · rw [if_neg c1] at hf
    refine pt_iconst C (v := 0) (by decide) dX11_isIn_13 ?_
    exact pt_zret C (by decide) (K _ _ (Option.some.inj hf).symm) (by decide) (by decide) dX11_isIn_14
  · rw [if_pos c1] at hf
    refine pt_iconst C (v := 1) (by decide) dX11_isIn_9 ?_
    refine pt_goto C (tgt := 14) (by decide) dX11_isIn_10 ?_
    exact pt_zret C (by decide) (K _ _ (Option.some.inj hf).symm) (by decide) (by decide) dX11_isIn_14
theorem con_X11_isIn (l : Launch) (a0 : Int32) (a1 : Int32) (h : AH) (q : Int32 × AH) (hf : f_X11_isIn a0 a1 h = some q) : Con l yX11_isIn cX11_isIn 2 (some .boolean) rmX11_isIn [.int a0, .int a1] h (some (.int q.1)) q.2 := Con.of (by decide +kernel) (Nat.le_of_ble_eq_true rfl) (fun X C I K => w_X11_isIn_0 C a0 a1 h q hf (fun v h2 e => by cases e; exact K))
abbrev rmX1_gatherByLate : Room := { frames := 1, cells := 0, slots := 0, locals := 22 }
theorem yn_X1_gatherByLate : YN yX1_gatherByLate 1 := by refine ⟨?_, ?_, ?_⟩ <;> decide +kernel
set_option maxRecDepth 100000 in
set_option maxHeartbeats 4000000 in
theorem w_X1_gatherByLate_L2 {X : MX} (C : CX X cX1_gatherByLate 3 RX1 none rmX1_gatherByLate) (x0 : Nat) (x1 : Int32) (s : Int32 × AH) (res : (Int32 × AH) ⊕ ((AH))) (hf : f_X1_gatherByLate_L2 x0 x1 s = some res) (K0 : ∀ (u2 : Int32) (hu : AH), res = .inl (u2, hu) → PT X 3 0 0 2 [(0, .ref x0), (1, .int x1), (2, .int u2)] [] hu) (K1 : ∀ (hu : AH), res = .inr (hu) → PT X 3 0 0 20 [(0, .ref x0), (1, .int x1)] [] hu) : PT X 3 0 0 2 [(0, .ref x0), (1, .int x1), (2, .int s.1)] [] s.2 := by
  unfold f_X1_gatherByLate_L2 at hf
  refine pt_iload_n C 2 rfl rfl dX1_gatherByLate_2 ?_
  refine pt_iconst C (v := 3) (by decide) dX1_gatherByLate_3 ?_
  refine pt_icmp_gt C (tgt := 20) (by decide) dX1_gatherByLate_4 (fun c1 => ?_) (fun c1 => ?_)
  · rw [if_pos c1] at hf
    refine pt_sub C [(0, .ref x0), (1, .int x1)] [0, 1] rfl ?_
    exact K1 _ (Option.some.inj hf).symm
  · rw [if_neg c1] at hf
    refine pt_aload_n C 0 rfl rfl dX1_gatherByLate_7 ?_
    refine ob hf (fun v2 g3 hf => ?_)
    refine pt_getR C kX1 4 (by decide) tw_148 (Or.inl rfl) g3 dX1_gatherByLate_8 ?_
    refine pt_iload_n C 2 rfl rfl dX1_gatherByLate_11 ?_
    refine pt_iconst C (v := 0) (by decide) dX1_gatherByLate_12 ?_
    refine ob hf (fun h4 g5 hf => ?_)
    refine pt_iast C g5 dX1_gatherByLate_13 ?_
    refine pt_iinc C 2 [(2, .int (s.1 + 1)), (0, .ref x0), (1, .int x1)] rfl (iinc_eq s.1 (by decide)) (by decide) rfl dX1_gatherByLate_14 ?_
    refine pt_goto C (tgt := 2) (by decide) dX1_gatherByLate_17 ?_
    refine pt_sub C [(0, .ref x0), (1, .int x1), (2, .int (s.1 + 1))] [1, 2, 0] rfl ?_
    exact K0 _ _ (Option.some.inj hf).symm
theorem l_X1_gatherByLate_L2 {X : MX} (C : CX X cX1_gatherByLate 3 RX1 none rmX1_gatherByLate) (x0 : Nat) (x1 : Int32) : ∀ (n : Nat) (s : Int32 × AH) (r : (AH)), iter (f_X1_gatherByLate_L2 x0 x1) n s = some r → (fun r : (AH) => PT X 3 0 0 20 [(0, .ref x0), (1, .int x1)] [] r) r → PT X 3 0 0 2 [(0, .ref x0), (1, .int x1), (2, .int s.1)] [] s.2 :=
  iter_W (fun s : Int32 × AH => PT X 3 0 0 2 [(0, .ref x0), (1, .int x1), (2, .int s.1)] [] s.2) (fun r : (AH) => PT X 3 0 0 20 [(0, .ref x0), (1, .int x1)] [] r) _ (fun s s2 hf P => w_X1_gatherByLate_L2 C x0 x1 s _ hf (fun u2 hu e => by cases e; exact P) (fun hu e => by cases e)) (fun s r hf P => w_X1_gatherByLate_L2 C x0 x1 s _ hf (fun u2 hu e => by cases e) (fun hu e => by cases e; exact P))
set_option maxRecDepth 100000 in
set_option maxHeartbeats 4000000 in
theorem w_X1_gatherByLate_L22 {X : MX} (C : CX X cX1_gatherByLate 3 RX1 none rmX1_gatherByLate) (x0 : Nat) (x1 : Int32) (s : Int32 × AH) (res : (Int32 × AH) ⊕ ((AH))) (hf : f_X1_gatherByLate_L22 x0 x1 s = some res) (K0 : ∀ (u2 : Int32) (hu : AH), res = .inl (u2, hu) → PT X 3 0 0 22 [(0, .ref x0), (1, .int x1), (2, .int u2)] [] hu) (K1 : ∀ (hu : AH), res = .inr (hu) → PT X 3 0 0 75 [] [] hu) : PT X 3 0 0 22 [(0, .ref x0), (1, .int x1), (2, .int s.1)] [] s.2 := by
  unfold f_X1_gatherByLate_L22 at hf
  refine pt_iload_n C 2 rfl rfl dX1_gatherByLate_22 ?_
  refine pt_iload_n C 1 rfl rfl dX1_gatherByLate_23 ?_
  refine pt_icmp_ge C (tgt := 75) (by decide) dX1_gatherByLate_24 (fun c8 => ?_) (fun c8 => ?_)
  · rw [if_pos c8] at hf
    refine pt_sub C [] [] rfl ?_
    exact K1 _ (Option.some.inj hf).symm
  · rw [if_neg c8] at hf
    refine pt_aload_n C 0 rfl rfl dX1_gatherByLate_27 ?_
    refine ob hf (fun v9 g10 hf => ?_)
    refine pt_getI C kX1 5 (by decide) tw_149 (Or.inl rfl) g10 dX1_gatherByLate_28 ?_
    refine pt_iload_n C 2 rfl rfl dX1_gatherByLate_31 ?_
    refine ob hf (fun q11 g12 hf => ?_)
    refine pt_callSN C (As := [.int v9, .int s.1]) (rest := []) (v := (some (.int q11.1))) (fun l => con_X11_isIn l v9 s.1 s.2 _ g12) tw_572 (host := "HeaveSongs") (by decide +kernel) tw_571 tw_1 yn_X11_isIn (by decide) (Nat.le_of_ble_eq_true rfl) dX1_gatherByLate_32 rfl ?_
    show PT X 3 0 0 35 [(0, .ref x0), (1, .int x1), (2, .int s.1)] [.int q11.1] q11.2
    refine pt_if_eq C (tgt := 69) (by decide) dX1_gatherByLate_35 (fun c13 => ?_) (fun c13 => ?_)
    · rw [if_pos c13] at hf
      refine pt_iinc C 2 [(2, .int (s.1 + 1)), (0, .ref x0), (1, .int x1)] rfl (iinc_eq s.1 (by decide)) (by decide) rfl dX1_gatherByLate_69 ?_
      refine pt_goto C (tgt := 22) (by decide) dX1_gatherByLate_72 ?_
      refine pt_sub C [(0, .ref x0), (1, .int x1), (2, .int (s.1 + 1))] [1, 2, 0] rfl ?_
      exact K0 _ _ (Option.some.inj hf).symm
    · rw [if_neg c13] at hf
      refine pt_aload_n C 0 rfl rfl dX1_gatherByLate_38 ?_
      refine ob hf (fun v14 g15 hf => ?_)
      refine pt_getR C kX1 1 (by decide) tw_141 (Or.inl rfl) g15 dX1_gatherByLate_39 ?_
      refine pt_iload_n C 2 rfl rfl dX1_gatherByLate_42 ?_
      refine ob hf (fun v16 g17 hf => ?_)
      refine pt_iald C g17 dX1_gatherByLate_43 ?_
      refine pt_iconst C (v := 0) (by decide) dX1_gatherByLate_44 ?_
      refine pt_iconst C (v := 3) (by decide) dX1_gatherByLate_45 ?_
      refine ob hf (fun q18 g19 hf => ?_)
      refine pt_callSN C (As := [.int v16, .int 0, .int 3]) (rest := []) (v := (some (.int q18.1))) (fun l => con_X11_within l v16 0 3 q11.2 _ g19) tw_461 (host := "HeaveSongs") (by decide +kernel) tw_460 tw_1 yn_X11_within (by decide) (Nat.le_of_ble_eq_true rfl) dX1_gatherByLate_46 rfl ?_
      show PT X 3 0 0 49 [(0, .ref x0), (1, .int x1), (2, .int s.1)] [.int q18.1] q18.2
      refine pt_if_eq C (tgt := 69) (by decide) dX1_gatherByLate_49 (fun c20 => ?_) (fun c20 => ?_)
      · rw [if_pos c20] at hf
        refine pt_iinc C 2 [(2, .int (s.1 + 1)), (0, .ref x0), (1, .int x1)] rfl (iinc_eq s.1 (by decide)) (by decide) rfl dX1_gatherByLate_69 ?_
        refine pt_goto C (tgt := 22) (by decide) dX1_gatherByLate_72 ?_
        refine pt_sub C [(0, .ref x0), (1, .int x1), (2, .int (s.1 + 1))] [1, 2, 0] rfl ?_
        exact K0 _ _ (Option.some.inj hf).symm
      · rw [if_neg c20] at hf
        refine pt_aload_n C 0 rfl rfl dX1_gatherByLate_52 ?_
        refine ob hf (fun v21 g22 hf => ?_)
        refine pt_getR C kX1 4 (by decide) tw_148 (Or.inl rfl) g22 dX1_gatherByLate_53 ?_
        refine pt_aload_n C 0 rfl rfl dX1_gatherByLate_56 ?_
        refine ob hf (fun v23 g24 hf => ?_)
        refine pt_getR C kX1 1 (by decide) tw_141 (Or.inl rfl) g24 dX1_gatherByLate_57 ?_
        refine pt_iload_n C 2 rfl rfl dX1_gatherByLate_60 ?_
        refine ob hf (fun v25 g26 hf => ?_)
        refine pt_iald C g26 dX1_gatherByLate_61 ?_
        refine pt_dup2 C rfl rfl dX1_gatherByLate_62 ?_
        refine ob hf (fun v27 g28 hf => ?_)
        refine pt_iald C g28 dX1_gatherByLate_63 ?_
        refine pt_iconst C (v := 1) (by decide) dX1_gatherByLate_64 ?_
        refine pt_iload_n C 2 rfl rfl dX1_gatherByLate_65 ?_
        refine pt_ishl C dX1_gatherByLate_66 ?_
        refine pt_ior C dX1_gatherByLate_67 ?_
        refine ob hf (fun h29 g30 hf => ?_)
        refine pt_iast C g30 dX1_gatherByLate_68 ?_
        refine pt_iinc C 2 [(2, .int (s.1 + 1)), (0, .ref x0), (1, .int x1)] rfl (iinc_eq s.1 (by decide)) (by decide) rfl dX1_gatherByLate_69 ?_
        refine pt_goto C (tgt := 22) (by decide) dX1_gatherByLate_72 ?_
        refine pt_sub C [(0, .ref x0), (1, .int x1), (2, .int (s.1 + 1))] [1, 2, 0] rfl ?_
        exact K0 _ _ (Option.some.inj hf).symm
theorem l_X1_gatherByLate_L22 {X : MX} (C : CX X cX1_gatherByLate 3 RX1 none rmX1_gatherByLate) (x0 : Nat) (x1 : Int32) : ∀ (n : Nat) (s : Int32 × AH) (r : (AH)), iter (f_X1_gatherByLate_L22 x0 x1) n s = some r → (fun r : (AH) => PT X 3 0 0 75 [] [] r) r → PT X 3 0 0 22 [(0, .ref x0), (1, .int x1), (2, .int s.1)] [] s.2 :=
  iter_W (fun s : Int32 × AH => PT X 3 0 0 22 [(0, .ref x0), (1, .int x1), (2, .int s.1)] [] s.2) (fun r : (AH) => PT X 3 0 0 75 [] [] r) _ (fun s s2 hf P => w_X1_gatherByLate_L22 C x0 x1 s _ hf (fun u2 hu e => by cases e; exact P) (fun hu e => by cases e)) (fun s r hf P => w_X1_gatherByLate_L22 C x0 x1 s _ hf (fun u2 hu e => by cases e) (fun hu e => by cases e; exact P))
set_option maxRecDepth 100000 in
set_option maxHeartbeats 4000000 in
theorem w_X1_gatherByLate_0 {X : MX} (C : CX X cX1_gatherByLate 3 RX1 none rmX1_gatherByLate) (a0 : Nat) (a1 : Int32) (h : AH) (res : AH) (hf : f_X1_gatherByLate a0 a1 h = some res) (K : PR X rmX1_gatherByLate none res) : PT X 3 0 0 0 [(0, .ref a0), (1, .int a1)] [] h := by
  unfold f_X1_gatherByLate at hf
  refine pt_iconst C (v := 0) (by decide) dX1_gatherByLate_0 ?_
  refine pt_istore_n C [(2, .int 0), (0, .ref a0), (1, .int a1)] rfl (by decide) rfl dX1_gatherByLate_1 ?_
  refine pt_sub C [(0, .ref a0), (1, .int a1), (2, .int 0)] [1, 2, 0] rfl ?_
  refine ob hf (fun e6 g7 hf => ?_)
  refine l_X1_gatherByLate_L2 C a0 a1 _ _ _ g7 ?_
  refine pt_iconst C (v := 0) (by decide) dX1_gatherByLate_20 ?_
  refine pt_istore_n C [(2, .int 0), (0, .ref a0), (1, .int a1)] rfl (by decide) rfl dX1_gatherByLate_21 ?_
  refine pt_sub C [(0, .ref a0), (1, .int a1), (2, .int 0)] [1, 2, 0] rfl ?_
  refine ob hf (fun e31 g32 hf => ?_)
  refine l_X1_gatherByLate_L22 C a0 a1 _ _ _ g32 ?_
  obtain rfl := Option.some.inj hf
  exact pt_vret C K (by decide) (by decide) dX1_gatherByLate_75
theorem con_X1_gatherByLate (l : Launch) (a0 : Nat) (a1 : Int32) (h : AH) (q : AH) (hf : f_X1_gatherByLate a0 a1 h = some q) : Con l yX1_gatherByLate cX1_gatherByLate 3 none rmX1_gatherByLate [.ref a0, .int a1] h none q := Con.of (by decide +kernel) (Nat.le_of_ble_eq_true rfl) (fun X C I K => w_X1_gatherByLate_0 C a0 a1 h q hf K)
abbrev rmX1_pullersAt : Room := { frames := 1, cells := 0, slots := 0, locals := 23 }
theorem yn_X1_pullersAt : YN yX1_pullersAt 2 := by refine ⟨?_, ?_, ?_⟩ <;> decide +kernel
set_option maxRecDepth 100000 in
set_option maxHeartbeats 4000000 in
theorem w_X1_pullersAt_L5 {X : MX} (C : CX X cX1_pullersAt 5 RX1 (some .int) rmX1_pullersAt) (x0 : Nat) (x1 : Nat) (x2 : Int32) (s : Int32 × Int32 × AH) (res : (Int32 × Int32 × AH) ⊕ ((Int32 × AH))) (hf : f_X1_pullersAt_L5 x0 x1 x2 s = some res) (K0 : ∀ (u3 : Int32) (u4 : Int32) (hu : AH), res = .inl (u3, u4, hu) → PT X 5 0 0 5 [(0, .ref x0), (1, .ref x1), (2, .int x2), (3, .int u3), (4, .int u4)] [] hu) (K1 : ∀ (u3 : Int32) (hu : AH), res = .inr ((u3, hu)) → PT X 5 0 0 55 [(3, .int u3)] [] hu) : PT X 5 0 0 5 [(0, .ref x0), (1, .ref x1), (2, .int x2), (3, .int s.1), (4, .int s.2.1)] [] s.2.2 := by
  unfold f_X1_pullersAt_L5 at hf
  refine pt_iload C 4 rfl dX1_pullersAt_5 ?_
  refine pt_iconst C (v := 3) (by decide) dX1_pullersAt_7 ?_
  refine pt_icmp_gt C (tgt := 55) (by decide) dX1_pullersAt_8 (fun c1 => ?_) (fun c1 => ?_)
  · rw [if_pos c1] at hf
    refine pt_sub C [(3, .int s.1)] [3] rfl ?_
    exact K1 _ _ (Option.some.inj hf).symm
  · rw [if_neg c1] at hf
    refine pt_iload C 4 rfl dX1_pullersAt_11 ?_
    refine pt_iload_n C 2 rfl rfl dX1_pullersAt_13 ?_
    refine pt_icmp_gt C (tgt := 55) (by decide) dX1_pullersAt_14 (fun c2 => ?_) (fun c2 => ?_)
    · rw [if_pos c2] at hf
      refine pt_sub C [(3, .int s.1)] [3] rfl ?_
      exact K1 _ _ (Option.some.inj hf).symm
    · rw [if_neg c2] at hf
      refine pt_aload_n C 0 rfl rfl dX1_pullersAt_17 ?_
      refine ob hf (fun v3 g4 hf => ?_)
      refine pt_getR C kX1 4 (by decide) tw_148 (Or.inl rfl) g4 dX1_pullersAt_18 ?_
      refine pt_iload C 4 rfl dX1_pullersAt_21 ?_
      refine ob hf (fun v5 g6 hf => ?_)
      refine pt_iald C g6 dX1_pullersAt_23 ?_
      refine pt_if_eq C (tgt := 49) (by decide) dX1_pullersAt_24 (fun c7 => ?_) (fun c7 => ?_)
      · rw [if_pos c7] at hf
        refine pt_iinc C 4 [(4, .int (s.2.1 + 1)), (0, .ref x0), (1, .ref x1), (2, .int x2), (3, .int s.1)] rfl (iinc_eq s.2.1 (by decide)) (by decide) rfl dX1_pullersAt_49 ?_
        refine pt_goto C (tgt := 5) (by decide) dX1_pullersAt_52 ?_
        refine pt_sub C [(0, .ref x0), (1, .ref x1), (2, .int x2), (3, .int s.1), (4, .int (s.2.1 + 1))] [1, 2, 3, 4, 0] rfl ?_
        exact K0 _ _ _ (Option.some.inj hf).symm
      · rw [if_neg c7] at hf
        refine pt_aload_n C 1 rfl rfl dX1_pullersAt_27 ?_
        refine pt_iload_n C 2 rfl rfl dX1_pullersAt_28 ?_
        refine pt_iload C 4 rfl dX1_pullersAt_29 ?_
        refine pt_isub C dX1_pullersAt_31 ?_
        refine ob hf (fun _ g10 hf => ?_)
        refine ob hf (fun q8 g9 hf => ?_)
        refine pt_callV C (As := [.int (x2 - s.2.1)]) (rest := []) (v := (some (.int q8.1))) (fun l => con_X7_sungAt l x1 (x2 - s.2.1) s.2.2 _ g9) tw_483 tw_578 tw_481 tw_482 kX7 g10 tw_14 yn_X7_sungAt (by decide) (Nat.le_of_ble_eq_true rfl) dX1_pullersAt_32 rfl ?_
        show PT X 5 0 0 35 [(0, .ref x0), (1, .ref x1), (2, .int x2), (3, .int s.1), (4, .int s.2.1)] [.int q8.1] q8.2
        refine pt_iconst C (v := 2) (by decide) dX1_pullersAt_35 ?_
        refine pt_icmp_ne C (tgt := 49) (by decide) dX1_pullersAt_36 (fun c11 => ?_) (fun c11 => ?_)
        · rw [if_neg c11] at hf
          refine pt_iinc C 4 [(4, .int (s.2.1 + 1)), (0, .ref x0), (1, .ref x1), (2, .int x2), (3, .int s.1)] rfl (iinc_eq s.2.1 (by decide)) (by decide) rfl dX1_pullersAt_49 ?_
          refine pt_goto C (tgt := 5) (by decide) dX1_pullersAt_52 ?_
          refine pt_sub C [(0, .ref x0), (1, .ref x1), (2, .int x2), (3, .int s.1), (4, .int (s.2.1 + 1))] [1, 2, 3, 4, 0] rfl ?_
          exact K0 _ _ _ (Option.some.inj hf).symm
        · rw [if_pos c11] at hf
          refine pt_iload_n C 3 rfl rfl dX1_pullersAt_39 ?_
          refine pt_aload_n C 0 rfl rfl dX1_pullersAt_40 ?_
          refine ob hf (fun v12 g13 hf => ?_)
          refine pt_getR C kX1 4 (by decide) tw_148 (Or.inl rfl) g13 dX1_pullersAt_41 ?_
          refine pt_iload C 4 rfl dX1_pullersAt_44 ?_
          refine ob hf (fun v14 g15 hf => ?_)
          refine pt_iald C g15 dX1_pullersAt_46 ?_
          refine pt_ior C dX1_pullersAt_47 ?_
          refine pt_istore_n C [(3, .int (s.1 ||| v14)), (0, .ref x0), (1, .ref x1), (2, .int x2), (4, .int s.2.1)] rfl (by decide) rfl dX1_pullersAt_48 ?_
          refine pt_iinc C 4 [(4, .int (s.2.1 + 1)), (3, .int (s.1 ||| v14)), (0, .ref x0), (1, .ref x1), (2, .int x2)] rfl (iinc_eq s.2.1 (by decide)) (by decide) rfl dX1_pullersAt_49 ?_
          refine pt_goto C (tgt := 5) (by decide) dX1_pullersAt_52 ?_
          refine pt_sub C [(0, .ref x0), (1, .ref x1), (2, .int x2), (3, .int (s.1 ||| v14)), (4, .int (s.2.1 + 1))] [2, 3, 4, 1, 0] rfl ?_
          exact K0 _ _ _ (Option.some.inj hf).symm
theorem l_X1_pullersAt_L5 {X : MX} (C : CX X cX1_pullersAt 5 RX1 (some .int) rmX1_pullersAt) (x0 : Nat) (x1 : Nat) (x2 : Int32) : ∀ (n : Nat) (s : Int32 × Int32 × AH) (r : (Int32 × AH)), iter (f_X1_pullersAt_L5 x0 x1 x2) n s = some r → (fun r : (Int32 × AH) => PT X 5 0 0 55 [(3, .int r.1)] [] r.2) r → PT X 5 0 0 5 [(0, .ref x0), (1, .ref x1), (2, .int x2), (3, .int s.1), (4, .int s.2.1)] [] s.2.2 :=
  iter_W (fun s : Int32 × Int32 × AH => PT X 5 0 0 5 [(0, .ref x0), (1, .ref x1), (2, .int x2), (3, .int s.1), (4, .int s.2.1)] [] s.2.2) (fun r : (Int32 × AH) => PT X 5 0 0 55 [(3, .int r.1)] [] r.2) _ (fun s s2 hf P => w_X1_pullersAt_L5 C x0 x1 x2 s _ hf (fun u3 u4 hu e => by cases e; exact P) (fun u3 hu e => by cases e)) (fun s r hf P => w_X1_pullersAt_L5 C x0 x1 x2 s _ hf (fun u3 u4 hu e => by cases e) (fun u3 hu e => by cases e; exact P))
set_option maxRecDepth 100000 in
set_option maxHeartbeats 4000000 in
theorem w_X1_pullersAt_0 {X : MX} (C : CX X cX1_pullersAt 5 RX1 (some .int) rmX1_pullersAt) (a0 : Nat) (a1 : Nat) (a2 : Int32) (h : AH) (res : Int32 × AH) (hf : f_X1_pullersAt a0 a1 a2 h = some res) (K : ∀ (v : Int32) (h2 : AH), res = (v, h2) → PR X rmX1_pullersAt (some (.int v)) h2) : PT X 5 0 0 0 [(0, .ref a0), (1, .ref a1), (2, .int a2)] [] h := by
  unfold f_X1_pullersAt at hf
  refine pt_iconst C (v := 0) (by decide) dX1_pullersAt_0 ?_
  refine pt_istore_n C [(3, .int 0), (0, .ref a0), (1, .ref a1), (2, .int a2)] rfl (by decide) rfl dX1_pullersAt_1 ?_
  refine pt_iconst C (v := 0) (by decide) dX1_pullersAt_2 ?_
  refine pt_istore C [(4, .int 0), (3, .int 0), (0, .ref a0), (1, .ref a1), (2, .int a2)] (by decide) rfl dX1_pullersAt_3 ?_
  refine pt_sub C [(0, .ref a0), (1, .ref a1), (2, .int a2), (3, .int 0), (4, .int 0)] [2, 3, 4, 1, 0] rfl ?_
  refine ob hf (fun e16 g17 hf => ?_)
  refine l_X1_pullersAt_L5 C a0 a1 a2 _ _ _ g17 ?_
  refine pt_iload_n C 0 rfl rfl dX1_pullersAt_55 ?_
  exact pt_iret C (K _ _ (Option.some.inj hf).symm) (by decide) (by decide) dX1_pullersAt_56
theorem con_X1_pullersAt (l : Launch) (a0 : Nat) (a1 : Nat) (a2 : Int32) (h : AH) (q : Int32 × AH) (hf : f_X1_pullersAt a0 a1 a2 h = some q) : Con l yX1_pullersAt cX1_pullersAt 5 (some .int) rmX1_pullersAt [.ref a0, .ref a1, .int a2] h (some (.int q.1)) q.2 := Con.of (by decide +kernel) (Nat.le_of_ble_eq_true rfl) (fun X C I K => w_X1_pullersAt_0 C a0 a1 a2 h q hf (fun v h2 e => by cases e; exact K))
abbrev rmX1_comesBack : Room := { frames := 1, cells := 0, slots := 0, locals := 21 }
theorem yn_X1_comesBack : YN yX1_comesBack 3 := by refine ⟨?_, ?_, ?_⟩ <;> decide +kernel
set_option maxRecDepth 100000 in
set_option maxHeartbeats 4000000 in
theorem w_X1_comesBack_J15 {X : MX} (C : CX X cX1_comesBack 4 RX1 (some .int) rmX1_comesBack) (a0 : Nat) (a1 : Nat) (a2 : Int32) (a3 : Int32) (h : AH) (res : Int32 × AH) (hf : f_X1_comesBack_J15 a0 a1 a2 a3 h = some res) (K : ∀ (v : Int32) (h2 : AH), res = (v, h2) → PR X rmX1_comesBack (some (.int v)) h2) : PT X 4 0 0 15 [(1, .ref a1), (2, .int a2)] [] h := by
  unfold f_X1_comesBack_J15 at hf
  refine pt_aload_n C 0 rfl rfl dX1_comesBack_15 ?_
  refine ob hf (fun v2 g3 hf => ?_)
  refine pt_getR C kX0 2 (by decide) tw_92 (Or.inl rfl) g3 dX1_comesBack_16 ?_
  refine pt_iload_n C 1 rfl rfl dX1_comesBack_19 ?_
  refine ob hf (fun v4 g5 hf => ?_)
  refine pt_iald C g5 dX1_comesBack_20 ?_
  exact pt_iret C (K _ _ (Option.some.inj hf).symm) (by decide) (by decide) dX1_comesBack_21
set_option maxRecDepth 100000 in
set_option maxHeartbeats 4000000 in
theorem w_X1_comesBack_0 {X : MX} (C : CX X cX1_comesBack 4 RX1 (some .int) rmX1_comesBack) (a0 : Nat) (a1 : Nat) (a2 : Int32) (a3 : Int32) (h : AH) (res : Int32 × AH) (hf : f_X1_comesBack a0 a1 a2 a3 h = some res) (K : ∀ (v : Int32) (h2 : AH), res = (v, h2) → PR X rmX1_comesBack (some (.int v)) h2) : PT X 4 0 0 0 [(0, .ref a0), (1, .ref a1), (2, .int a2), (3, .int a3)] [] h := by
  unfold f_X1_comesBack at hf
  refine pt_iload_n C 3 rfl rfl dX1_comesBack_0 ?_
  refine pt_if_eq C (tgt := 15) (by decide) dX1_comesBack_1 (fun c1 => ?_) (fun c1 => ?_)
  · rw [if_pos c1] at hf
    refine pt_sub C [(1, .ref a1), (2, .int a2)] [1, 2] rfl ?_
    exact w_X1_comesBack_J15 C a0 a1 a2 a3 h _ hf K
  · rw [if_neg c1] at hf
    refine pt_aload_n C 0 rfl rfl dX1_comesBack_4 ?_
    refine ob hf (fun v6 g7 hf => ?_)
    refine pt_getI C kX1 5 (by decide) tw_149 (Or.inl rfl) g7 dX1_comesBack_5 ?_
    refine pt_iload_n C 2 rfl rfl dX1_comesBack_8 ?_
    refine ob hf (fun q8 g9 hf => ?_)
    refine pt_callSN C (As := [.int v6, .int a2]) (rest := []) (v := (some (.int q8.1))) (fun l => con_X11_isIn l v6 a2 h _ g9) tw_572 (host := "HeaveSongs") (by decide +kernel) tw_571 tw_1 yn_X11_isIn (by decide) (Nat.le_of_ble_eq_true rfl) dX1_comesBack_9 rfl ?_
    show PT X 4 0 0 12 [(0, .ref a0), (1, .ref a1), (2, .int a2), (3, .int a3)] [.int q8.1] q8.2
    refine pt_if_ne C (tgt := 22) (by decide) dX1_comesBack_12 (fun c10 => ?_) (fun c10 => ?_)
    · rw [if_neg c10] at hf
      refine pt_iload_n C 3 rfl rfl dX1_comesBack_22 ?_
      refine pt_iconst C (v := 3) (by decide) dX1_comesBack_23 ?_
      refine pt_icmp_ne C (tgt := 36) (by decide) dX1_comesBack_24 (fun c11 => ?_) (fun c11 => ?_)
      · rw [if_neg c11] at hf
        refine pt_iconst C (v := 0) (by decide) dX1_comesBack_36 ?_
        exact pt_iret C (K _ _ (Option.some.inj hf).symm) (by decide) (by decide) dX1_comesBack_37
      · rw [if_pos c11] at hf
        refine pt_aload_n C 1 rfl rfl dX1_comesBack_27 ?_
        refine ob hf (fun v12 g13 hf => ?_)
        refine pt_getR C kX0 3 (by decide) tw_94 (Or.inl rfl) g13 dX1_comesBack_28 ?_
        refine pt_iload_n C 2 rfl rfl dX1_comesBack_31 ?_
        refine ob hf (fun v14 g15 hf => ?_)
        refine pt_iald C g15 dX1_comesBack_32 ?_
        refine pt_goto C (tgt := 37) (by decide) dX1_comesBack_33 ?_
        exact pt_iret C (K _ _ (Option.some.inj hf).symm) (by decide) (by decide) dX1_comesBack_37
    · rw [if_pos c10] at hf
      refine pt_sub C [(1, .ref a1), (2, .int a2)] [1, 2] rfl ?_
      exact w_X1_comesBack_J15 C a0 a1 a2 a3 q8.2 _ hf K
theorem con_X1_comesBack (l : Launch) (a0 : Nat) (a1 : Nat) (a2 : Int32) (a3 : Int32) (h : AH) (q : Int32 × AH) (hf : f_X1_comesBack a0 a1 a2 a3 h = some q) : Con l yX1_comesBack cX1_comesBack 4 (some .int) rmX1_comesBack [.ref a0, .ref a1, .int a2, .int a3] h (some (.int q.1)) q.2 := Con.of (by decide +kernel) (Nat.le_of_ble_eq_true rfl) (fun X C I K => w_X1_comesBack_0 C a0 a1 a2 a3 h q hf (fun v h2 e => by cases e; exact K))
abbrev rmX1_pull : Room := { frames := 2, cells := 0, slots := 0, locals := 44 }
theorem yn_X1_pull : YN yX1_pull 3 := by refine ⟨?_, ?_, ?_⟩ <;> decide +kernel
set_option maxRecDepth 100000 in
set_option maxHeartbeats 4000000 in
theorem w_X1_pull_L6 {X : MX} (C : CX X cX1_pull 7 RX1 (some .int) rmX1_pull) (x0 : Nat) (x1 : Nat) (x2 : Int32) (x3 : Int32) (s : Int32 × Int32 × AH) (res : (Int32 × Int32 × AH) ⊕ ((Int32 × AH))) (hf : f_X1_pull_L6 x0 x1 x2 x3 s = some res) (K0 : ∀ (u4 : Int32) (u5 : Int32) (hu : AH), res = .inl (u4, u5, hu) → PT X 7 0 0 6 [(0, .ref x0), (1, .ref x1), (2, .int x2), (3, .int x3), (4, .int u4), (5, .int u5)] [] hu) (K1 : ∀ (u4 : Int32) (hu : AH), res = .inr ((u4, hu)) → PT X 7 0 0 110 [(4, .int u4)] [] hu) : PT X 7 0 0 6 [(0, .ref x0), (1, .ref x1), (2, .int x2), (3, .int x3), (4, .int s.1), (5, .int s.2.1)] [] s.2.2 := by
  unfold f_X1_pull_L6 at hf
  refine pt_iload C 5 rfl dX1_pull_6 ?_
  refine pt_aload_n C 1 rfl rfl dX1_pull_8 ?_
  refine ob hf (fun v1 g2 hf => ?_)
  refine pt_getI C kX0 6 (by decide) tw_104 (Or.inl rfl) g2 dX1_pull_9 ?_
  refine pt_icmp_ge C (tgt := 110) (by decide) dX1_pull_12 (fun c3 => ?_) (fun c3 => ?_)
  · rw [if_pos c3] at hf
    refine pt_sub C [(4, .int s.1)] [4] rfl ?_
    exact K1 _ _ (Option.some.inj hf).symm
  · rw [if_neg c3] at hf
    refine pt_aload_n C 0 rfl rfl dX1_pull_15 ?_
    refine ob hf (fun v4 g5 hf => ?_)
    refine pt_getR C kX1 0 (by decide) tw_138 (Or.inl rfl) g5 dX1_pull_16 ?_
    refine pt_iload C 5 rfl dX1_pull_19 ?_
    refine ob hf (fun v6 g7 hf => ?_)
    refine pt_iald C g7 dX1_pull_21 ?_
    refine pt_istore C [(6, .int v6), (0, .ref x0), (1, .ref x1), (2, .int x2), (3, .int x3), (4, .int s.1), (5, .int s.2.1)] (by decide) rfl dX1_pull_22 ?_
    refine pt_iload_n C 3 rfl rfl dX1_pull_24 ?_
    refine pt_iload C 6 rfl dX1_pull_25 ?_
    refine ob hf (fun q8 g9 hf => ?_)
    refine pt_callSN C (As := [.int x2, .int s.2.1]) (rest := []) (v := (some (.int q8.1))) (fun l => con_X11_isIn l x2 s.2.1 s.2.2 _ g9) tw_572 (host := "HeaveSongs") (by decide +kernel) tw_571 tw_1 yn_X11_isIn (by decide) (Nat.le_of_ble_eq_true rfl) dX1_pull_27 rfl ?_
    show PT X 7 0 0 30 [(6, .int v6), (0, .ref x0), (1, .ref x1), (2, .int x2), (3, .int x3), (4, .int s.1), (5, .int s.2.1)] [.int q8.1] q8.2
    refine pt_if_eq C (tgt := 64) (by decide) dX1_pull_30 (fun c10 => ?_) (fun c10 => ?_)
    · rw [if_pos c10] at hf
      refine pt_iload C 0 rfl dX1_pull_64 ?_
      refine pt_aload_n C 2 rfl rfl dX1_pull_66 ?_
      refine ob hf (fun v11 g12 hf => ?_)
      refine pt_getR C kX0 0 (by decide) tw_88 (Or.inl rfl) g12 dX1_pull_67 ?_
      refine pt_iload C 6 rfl dX1_pull_70 ?_
      refine ob hf (fun v13 g14 hf => ?_)
      refine pt_iald C g14 dX1_pull_72 ?_
      refine pt_icmp_ge C (tgt := 104) (by decide) dX1_pull_73 (fun c15 => ?_) (fun c15 => ?_)
      · rw [if_pos c15] at hf
        refine pt_iinc C 6 [(5, .int (s.2.1 + 1)), (6, .int v6), (0, .ref x0), (1, .ref x1), (2, .int x2), (3, .int x3), (4, .int s.1)] rfl (iinc_eq s.2.1 (by decide)) (by decide) rfl dX1_pull_104 ?_
        refine pt_goto C (tgt := 6) (by decide) dX1_pull_107 ?_
        refine pt_sub C [(0, .ref x0), (1, .ref x1), (2, .int x2), (3, .int x3), (4, .int s.1), (5, .int (s.2.1 + 1))] [2, 3, 4, 5, 6, 0] rfl ?_
        exact K0 _ _ _ (Option.some.inj hf).symm
      · rw [if_neg c15] at hf
        refine pt_aload_n C 1 rfl rfl dX1_pull_76 ?_
        refine ob hf (fun v16 g17 hf => ?_)
        refine pt_getR C kX1 0 (by decide) tw_138 (Or.inl rfl) g17 dX1_pull_77 ?_
        refine pt_iload C 6 rfl dX1_pull_80 ?_
        refine pt_aload_n C 2 rfl rfl dX1_pull_82 ?_
        refine ob hf (fun v18 g19 hf => ?_)
        refine pt_getR C kX0 0 (by decide) tw_88 (Or.inl rfl) g19 dX1_pull_83 ?_
        refine pt_iload C 6 rfl dX1_pull_86 ?_
        refine ob hf (fun v20 g21 hf => ?_)
        refine pt_iald C g21 dX1_pull_88 ?_
        refine pt_iload C 0 rfl dX1_pull_89 ?_
        refine pt_aload_n C 1 rfl rfl dX1_pull_91 ?_
        refine pt_aload_n C 2 rfl rfl dX1_pull_92 ?_
        refine pt_iload C 6 rfl dX1_pull_93 ?_
        refine pt_iload_n C 4 rfl rfl dX1_pull_95 ?_
        refine ob hf (fun _ g24 hf => ?_)
        refine ob hf (fun q22 g23 hf => ?_)
        refine pt_callV C (As := [.ref x1, .int s.2.1, .int x3]) (rest := [.int v6, .int v20, .int s.2.1, .ref v16]) (v := (some (.int q22.1))) (fun l => con_X1_comesBack l x0 x1 s.2.1 x3 q8.2 _ g23) tw_587 tw_584 tw_586 tp_7 kX1 g24 tw_7 yn_X1_comesBack (by decide) (Nat.le_of_ble_eq_true rfl) dX1_pull_96 rfl ?_
        show PT X 7 0 0 99 [(6, .int v6), (0, .ref x0), (1, .ref x1), (2, .int x2), (3, .int x3), (4, .int s.1), (5, .int s.2.1)] [.int q22.1, .int v6, .int v20, .int s.2.1, .ref v16] q22.2
        refine pt_iadd C dX1_pull_99 ?_
        refine pt_mmin C tw_588 tw_444 tw_16 tw_445 (by decide) (Nat.le_of_ble_eq_true rfl) (by decide) (by decide) dX1_pull_100 ?_
        refine ob hf (fun h25 g26 hf => ?_)
        refine pt_iast C g26 dX1_pull_103 ?_
        refine pt_iinc C 6 [(5, .int (s.2.1 + 1)), (6, .int v6), (0, .ref x0), (1, .ref x1), (2, .int x2), (3, .int x3), (4, .int s.1)] rfl (iinc_eq s.2.1 (by decide)) (by decide) rfl dX1_pull_104 ?_
        refine pt_goto C (tgt := 6) (by decide) dX1_pull_107 ?_
        refine pt_sub C [(0, .ref x0), (1, .ref x1), (2, .int x2), (3, .int x3), (4, .int s.1), (5, .int (s.2.1 + 1))] [2, 3, 4, 5, 6, 0] rfl ?_
        exact K0 _ _ _ (Option.some.inj hf).symm
    · rw [if_neg c10] at hf
      refine pt_iload C 5 rfl dX1_pull_33 ?_
      refine pt_iload C 0 rfl dX1_pull_35 ?_
      refine pt_iadd C dX1_pull_37 ?_
      refine pt_istore C [(4, .int (s.1 + v6)), (6, .int v6), (0, .ref x0), (1, .ref x1), (2, .int x2), (3, .int x3), (5, .int s.2.1)] (by decide) rfl dX1_pull_38 ?_
      refine pt_aload_n C 2 rfl rfl dX1_pull_40 ?_
      refine ob hf (fun v27 g28 hf => ?_)
      refine pt_getR C kX1 0 (by decide) tw_138 (Or.inl rfl) g28 dX1_pull_41 ?_
      refine pt_iload C 6 rfl dX1_pull_44 ?_
      refine pt_iconst C (v := 0) (by decide) dX1_pull_46 ?_
      refine pt_iload C 1 rfl dX1_pull_47 ?_
      refine pt_aload_n C 3 rfl rfl dX1_pull_49 ?_
      refine ob hf (fun v29 g30 hf => ?_)
      refine pt_getR C kX0 1 (by decide) tw_90 (Or.inl rfl) g30 dX1_pull_50 ?_
      refine pt_iload C 6 rfl dX1_pull_53 ?_
      refine ob hf (fun v31 g32 hf => ?_)
      refine pt_iald C g32 dX1_pull_55 ?_
      refine pt_isub C dX1_pull_56 ?_
      refine pt_mmax C tw_583 tw_410 tw_16 tw_411 (by decide) (Nat.le_of_ble_eq_true rfl) (by decide) (by decide) dX1_pull_57 ?_
      refine ob hf (fun h33 g34 hf => ?_)
      refine pt_iast C g34 dX1_pull_60 ?_
      refine pt_goto C (tgt := 104) (by decide) dX1_pull_61 ?_
      refine pt_iinc C 6 [(5, .int (s.2.1 + 1)), (4, .int (s.1 + v6)), (6, .int v6), (0, .ref x0), (1, .ref x1), (2, .int x2), (3, .int x3)] rfl (iinc_eq s.2.1 (by decide)) (by decide) rfl dX1_pull_104 ?_
      refine pt_goto C (tgt := 6) (by decide) dX1_pull_107 ?_
      refine pt_sub C [(0, .ref x0), (1, .ref x1), (2, .int x2), (3, .int x3), (4, .int (s.1 + v6)), (5, .int (s.2.1 + 1))] [3, 4, 5, 6, 1, 0] rfl ?_
      exact K0 _ _ _ (Option.some.inj hf).symm
theorem l_X1_pull_L6 {X : MX} (C : CX X cX1_pull 7 RX1 (some .int) rmX1_pull) (x0 : Nat) (x1 : Nat) (x2 : Int32) (x3 : Int32) : ∀ (n : Nat) (s : Int32 × Int32 × AH) (r : (Int32 × AH)), iter (f_X1_pull_L6 x0 x1 x2 x3) n s = some r → (fun r : (Int32 × AH) => PT X 7 0 0 110 [(4, .int r.1)] [] r.2) r → PT X 7 0 0 6 [(0, .ref x0), (1, .ref x1), (2, .int x2), (3, .int x3), (4, .int s.1), (5, .int s.2.1)] [] s.2.2 :=
  iter_W (fun s : Int32 × Int32 × AH => PT X 7 0 0 6 [(0, .ref x0), (1, .ref x1), (2, .int x2), (3, .int x3), (4, .int s.1), (5, .int s.2.1)] [] s.2.2) (fun r : (Int32 × AH) => PT X 7 0 0 110 [(4, .int r.1)] [] r.2) _ (fun s s2 hf P => w_X1_pull_L6 C x0 x1 x2 x3 s _ hf (fun u4 u5 hu e => by cases e; exact P) (fun u4 hu e => by cases e)) (fun s r hf P => w_X1_pull_L6 C x0 x1 x2 x3 s _ hf (fun u4 u5 hu e => by cases e) (fun u4 hu e => by cases e; exact P))
set_option maxRecDepth 100000 in
set_option maxHeartbeats 4000000 in
theorem w_X1_pull_0 {X : MX} (C : CX X cX1_pull 7 RX1 (some .int) rmX1_pull) (a0 : Nat) (a1 : Nat) (a2 : Int32) (a3 : Int32) (h : AH) (res : Int32 × AH) (hf : f_X1_pull a0 a1 a2 a3 h = some res) (K : ∀ (v : Int32) (h2 : AH), res = (v, h2) → PR X rmX1_pull (some (.int v)) h2) : PT X 7 0 0 0 [(0, .ref a0), (1, .ref a1), (2, .int a2), (3, .int a3)] [] h := by
  unfold f_X1_pull at hf
  refine pt_iconst C (v := 0) (by decide) dX1_pull_0 ?_
  refine pt_istore C [(4, .int 0), (0, .ref a0), (1, .ref a1), (2, .int a2), (3, .int a3)] (by decide) rfl dX1_pull_1 ?_
  refine pt_iconst C (v := 0) (by decide) dX1_pull_3 ?_
  refine pt_istore C [(5, .int 0), (4, .int 0), (0, .ref a0), (1, .ref a1), (2, .int a2), (3, .int a3)] (by decide) rfl dX1_pull_4 ?_
  refine pt_sub C [(0, .ref a0), (1, .ref a1), (2, .int a2), (3, .int a3), (4, .int 0), (5, .int 0)] [2, 3, 4, 5, 1, 0] rfl ?_
  refine ob hf (fun e35 g36 hf => ?_)
  refine l_X1_pull_L6 C a0 a1 a2 a3 _ _ _ g36 ?_
  refine pt_iload C 0 rfl dX1_pull_110 ?_
  exact pt_iret C (K _ _ (Option.some.inj hf).symm) (by decide) (by decide) dX1_pull_112
theorem con_X1_pull (l : Launch) (a0 : Nat) (a1 : Nat) (a2 : Int32) (a3 : Int32) (h : AH) (q : Int32 × AH) (hf : f_X1_pull a0 a1 a2 a3 h = some q) : Con l yX1_pull cX1_pull 7 (some .int) rmX1_pull [.ref a0, .ref a1, .int a2, .int a3] h (some (.int q.1)) q.2 := Con.of (by decide +kernel) (Nat.le_of_ble_eq_true rfl) (fun X C I K => w_X1_pull_0 C a0 a1 a2 a3 h q hf (fun v h2 e => by cases e; exact K))
abbrev rmX8_wonBehind : Room := { frames := 1, cells := 0, slots := 0, locals := 23 }
theorem yn_X8_wonBehind : YN yX8_wonBehind 2 := by refine ⟨?_, ?_, ?_⟩ <;> decide +kernel
set_option maxRecDepth 100000 in
set_option maxHeartbeats 4000000 in
theorem w_X8_wonBehind_0 {X : MX} (C : CX X cX8_wonBehind 3 RX8 (some .int) rmX8_wonBehind) (a0 : Nat) (a1 : Int32) (a2 : Int32) (h : AH) (res : Int32 × AH) (hf : f_X8_wonBehind a0 a1 a2 h = some res) (K : ∀ (v : Int32) (h2 : AH), res = (v, h2) → PR X rmX8_wonBehind (some (.int v)) h2) : PT X 3 0 0 0 [(0, .ref a0), (1, .int a1), (2, .int a2)] [] h := by
  unfold f_X8_wonBehind at hf
  refine pt_iload_n C 2 rfl rfl dX8_wonBehind_0 ?_
  refine pt_aload_n C 0 rfl rfl dX8_wonBehind_1 ?_
  refine ob hf (fun v1 g2 hf => ?_)
  refine pt_getI C kX8 1 (by decide) tw_553 (Or.inl rfl) g2 dX8_wonBehind_2 ?_
  refine pt_icmp_le C (tgt := 22) (by decide) dX8_wonBehind_5 (fun c3 => ?_) (fun c3 => ?_)
  · rw [if_pos c3] at hf
    refine pt_iconst C (v := 0) (by decide) dX8_wonBehind_22 ?_
    refine pt_iload_n C 1 rfl rfl dX8_wonBehind_23 ?_
    refine pt_aload_n C 0 rfl rfl dX8_wonBehind_24 ?_
    refine ob hf (fun v4 g5 hf => ?_)
    refine pt_getI C kX8 2 (by decide) tw_554 (Or.inl rfl) g5 dX8_wonBehind_25 ?_
    refine pt_isub C dX8_wonBehind_28 ?_
    refine pt_mmax C tw_593 tw_410 tw_16 tw_411 (by decide) (Nat.le_of_ble_eq_true rfl) (by decide) (by decide) dX8_wonBehind_29 ?_
    exact pt_iret C (K _ _ (Option.some.inj hf).symm) (by decide) (by decide) dX8_wonBehind_32
  · rw [if_neg c3] at hf
    refine pt_iload_n C 1 rfl rfl dX8_wonBehind_8 ?_
    refine pt_iload_n C 2 rfl rfl dX8_wonBehind_9 ?_
    refine pt_aload_n C 0 rfl rfl dX8_wonBehind_10 ?_
    refine ob hf (fun v6 g7 hf => ?_)
    refine pt_getI C kX8 1 (by decide) tw_553 (Or.inl rfl) g7 dX8_wonBehind_11 ?_
    refine pt_isub C dX8_wonBehind_14 ?_
    refine pt_bipush C (v := 10) (by decide) dX8_wonBehind_15 ?_
    refine pt_idiv C (by decide) dX8_wonBehind_17 ?_
    refine pt_iadd C dX8_wonBehind_18 ?_
    refine pt_goto C (tgt := 32) (by decide) dX8_wonBehind_19 ?_
    exact pt_iret C (K _ _ (Option.some.inj hf).symm) (by decide) (by decide) dX8_wonBehind_32
theorem con_X8_wonBehind (l : Launch) (a0 : Nat) (a1 : Int32) (a2 : Int32) (h : AH) (q : Int32 × AH) (hf : f_X8_wonBehind a0 a1 a2 h = some q) : Con l yX8_wonBehind cX8_wonBehind 3 (some .int) rmX8_wonBehind [.ref a0, .int a1, .int a2] h (some (.int q.1)) q.2 := Con.of (by decide +kernel) (Nat.le_of_ble_eq_true rfl) (fun X C I K => w_X8_wonBehind_0 C a0 a1 a2 h q hf (fun v h2 e => by cases e; exact K))
abbrev rmX1_isBelowFloor : Room := { frames := 1, cells := 0, slots := 0, locals := 21 }
theorem yn_X1_isBelowFloor : YN yX1_isBelowFloor 1 := by refine ⟨?_, ?_, ?_⟩ <;> decide +kernel
set_option maxRecDepth 100000 in
set_option maxHeartbeats 4000000 in
theorem w_X1_isBelowFloor_L11 {X : MX} (C : CX X cX1_isBelowFloor 3 RX1 (some .boolean) rmX1_isBelowFloor) (x0 : Nat) (x1 : Int32) (s : Int32 × AH) (res : (Int32 × AH) ⊕ ((AH) ⊕ (AH))) (hf : f_X1_isBelowFloor_L11 x0 x1 s = some res) (K0 : ∀ (u2 : Int32) (hu : AH), res = .inl (u2, hu) → PT X 3 0 0 11 [(0, .ref x0), (1, .int x1), (2, .int u2)] [] hu) (K1 : ∀ (hu : AH), res = .inr (.inl (hu)) → PT X 3 0 0 48 [] [] hu) (K2 : ∀ (hu : AH), res = .inr (.inr (hu)) → PT X 3 0 0 40 [] [] hu) : PT X 3 0 0 11 [(0, .ref x0), (1, .int x1), (2, .int s.1)] [] s.2 := by
  unfold f_X1_isBelowFloor_L11 at hf
  refine pt_iload_n C 2 rfl rfl dX1_isBelowFloor_11 ?_
  refine pt_iload_n C 1 rfl rfl dX1_isBelowFloor_12 ?_
  refine pt_icmp_ge C (tgt := 48) (by decide) dX1_isBelowFloor_13 (fun c4 => ?_) (fun c4 => ?_)
  · rw [if_pos c4] at hf
    refine pt_sub C [] [] rfl ?_
    exact K1 _ (Option.some.inj hf).symm
  · rw [if_neg c4] at hf
    refine pt_aload_n C 0 rfl rfl dX1_isBelowFloor_16 ?_
    refine ob hf (fun v5 g6 hf => ?_)
    refine pt_getI C kX1 5 (by decide) tw_149 (Or.inl rfl) g6 dX1_isBelowFloor_17 ?_
    refine pt_iload_n C 2 rfl rfl dX1_isBelowFloor_20 ?_
    refine ob hf (fun q7 g8 hf => ?_)
    refine pt_callSN C (As := [.int v5, .int s.1]) (rest := []) (v := (some (.int q7.1))) (fun l => con_X11_isIn l v5 s.1 s.2 _ g8) tw_572 (host := "HeaveSongs") (by decide +kernel) tw_571 tw_1 yn_X11_isIn (by decide) (Nat.le_of_ble_eq_true rfl) dX1_isBelowFloor_21 rfl ?_
    show PT X 3 0 0 24 [(0, .ref x0), (1, .int x1), (2, .int s.1)] [.int q7.1] q7.2
    refine pt_if_eq C (tgt := 42) (by decide) dX1_isBelowFloor_24 (fun c9 => ?_) (fun c9 => ?_)
    · rw [if_pos c9] at hf
      refine pt_iinc C 2 [(2, .int (s.1 + 1)), (0, .ref x0), (1, .int x1)] rfl (iinc_eq s.1 (by decide)) (by decide) rfl dX1_isBelowFloor_42 ?_
      refine pt_goto C (tgt := 11) (by decide) dX1_isBelowFloor_45 ?_
      refine pt_sub C [(0, .ref x0), (1, .int x1), (2, .int (s.1 + 1))] [1, 2, 0] rfl ?_
      exact K0 _ _ (Option.some.inj hf).symm
    · rw [if_neg c9] at hf
      refine pt_aload_n C 0 rfl rfl dX1_isBelowFloor_27 ?_
      refine ob hf (fun v10 g11 hf => ?_)
      refine pt_getR C kX1 0 (by decide) tw_138 (Or.inl rfl) g11 dX1_isBelowFloor_28 ?_
      refine pt_iload_n C 2 rfl rfl dX1_isBelowFloor_31 ?_
      refine ob hf (fun v12 g13 hf => ?_)
      refine pt_iald C g13 dX1_isBelowFloor_32 ?_
      refine pt_aload_n C 0 rfl rfl dX1_isBelowFloor_33 ?_
      refine ob hf (fun v14 g15 hf => ?_)
      refine pt_getI C kX1 6 (by decide) tw_151 (Or.inl rfl) g15 dX1_isBelowFloor_34 ?_
      refine pt_icmp_ge C (tgt := 42) (by decide) dX1_isBelowFloor_37 (fun c16 => ?_) (fun c16 => ?_)
      · rw [if_pos c16] at hf
        refine pt_iinc C 2 [(2, .int (s.1 + 1)), (0, .ref x0), (1, .int x1)] rfl (iinc_eq s.1 (by decide)) (by decide) rfl dX1_isBelowFloor_42 ?_
        refine pt_goto C (tgt := 11) (by decide) dX1_isBelowFloor_45 ?_
        refine pt_sub C [(0, .ref x0), (1, .int x1), (2, .int (s.1 + 1))] [1, 2, 0] rfl ?_
        exact K0 _ _ (Option.some.inj hf).symm
      · rw [if_neg c16] at hf
        refine pt_sub C [] [] rfl ?_
        exact K2 _ (Option.some.inj hf).symm
theorem l_X1_isBelowFloor_L11 {X : MX} (C : CX X cX1_isBelowFloor 3 RX1 (some .boolean) rmX1_isBelowFloor) (x0 : Nat) (x1 : Int32) : ∀ (n : Nat) (s : Int32 × AH) (r : (AH) ⊕ (AH)), iter (f_X1_isBelowFloor_L11 x0 x1) n s = some r → (Sum.elim (fun r : (AH) => PT X 3 0 0 48 [] [] r) (fun r : (AH) => PT X 3 0 0 40 [] [] r)) r → PT X 3 0 0 11 [(0, .ref x0), (1, .int x1), (2, .int s.1)] [] s.2 :=
  iter_W (fun s : Int32 × AH => PT X 3 0 0 11 [(0, .ref x0), (1, .int x1), (2, .int s.1)] [] s.2) (Sum.elim (fun r : (AH) => PT X 3 0 0 48 [] [] r) (fun r : (AH) => PT X 3 0 0 40 [] [] r)) _ (fun s s2 hf P => w_X1_isBelowFloor_L11 C x0 x1 s _ hf (fun u2 hu e => by cases e; exact P) (fun hu e => by cases e) (fun hu e => by cases e)) (fun s r hf P => w_X1_isBelowFloor_L11 C x0 x1 s _ hf (fun u2 hu e => by cases e) (fun hu e => by cases e; exact P) (fun hu e => by cases e; exact P))
set_option maxRecDepth 100000 in
set_option maxHeartbeats 4000000 in
theorem w_X1_isBelowFloor_0 {X : MX} (C : CX X cX1_isBelowFloor 3 RX1 (some .boolean) rmX1_isBelowFloor) (a0 : Nat) (a1 : Int32) (h : AH) (res : Int32 × AH) (hf : f_X1_isBelowFloor a0 a1 h = some res) (K : ∀ (v : Int32) (h2 : AH), res = (v, h2) → PR X rmX1_isBelowFloor (some (.int v)) h2) : PT X 3 0 0 0 [(0, .ref a0), (1, .int a1)] [] h := by
  unfold f_X1_isBelowFloor at hf
  refine pt_aload_n C 0 rfl rfl dX1_isBelowFloor_0 ?_
  refine ob hf (fun v1 g2 hf => ?_)
  refine pt_getI C kX1 6 (by decide) tw_151 (Or.inl rfl) g2 dX1_isBelowFloor_1 ?_
  refine pt_if_gt C (tgt := 9) (by decide) dX1_isBelowFloor_4 (fun c3 => ?_) (fun c3 => ?_)
  · rw [if_pos c3] at hf
    refine pt_iconst C (v := 0) (by decide) dX1_isBelowFloor_9 ?_
    refine pt_istore_n C [(2, .int 0), (0, .ref a0), (1, .int a1)] rfl (by decide) rfl dX1_isBelowFloor_10 ?_
    refine pt_sub C [(0, .ref a0), (1, .int a1), (2, .int 0)] [1, 2, 0] rfl ?_
    refine ob hf (fun e17 g18 hf => ?_)
    refine l_X1_isBelowFloor_L11 C a0 a1 _ _ _ g18 ?_
    cases e17 with
    | inl e19 =>
      simp only [Sum.elim_inl] at hf ⊢
      refine pt_iconst C (v := 0) (by decide) dX1_isBelowFloor_48 ?_
      exact pt_zret C (by decide) (K _ _ (Option.some.inj hf).symm) (by decide) (by decide) dX1_isBelowFloor_49
    | inr e20 =>
      simp only [Sum.elim_inr] at hf ⊢
      refine pt_iconst C (v := 1) (by decide) dX1_isBelowFloor_40 ?_
      exact pt_zret C (by decide) (K _ _ (Option.some.inj hf).symm) (by decide) (by decide) dX1_isBelowFloor_41
  · rw [if_neg c3] at hf
    refine pt_iconst C (v := 0) (by decide) dX1_isBelowFloor_7 ?_
    exact pt_zret C (by decide) (K _ _ (Option.some.inj hf).symm) (by decide) (by decide) dX1_isBelowFloor_8
theorem con_X1_isBelowFloor (l : Launch) (a0 : Nat) (a1 : Int32) (h : AH) (q : Int32 × AH) (hf : f_X1_isBelowFloor a0 a1 h = some q) : Con l yX1_isBelowFloor cX1_isBelowFloor 3 (some .boolean) rmX1_isBelowFloor [.ref a0, .int a1] h (some (.int q.1)) q.2 := Con.of (by decide +kernel) (Nat.le_of_ble_eq_true rfl) (fun X C I K => w_X1_isBelowFloor_0 C a0 a1 h q hf (fun v h2 e => by cases e; exact K))
abbrev rmX1_go : Room := { frames := 3, cells := 0, slots := 0, locals := 70 }
theorem yn_X1_go : YN yX1_go 4 := by refine ⟨?_, ?_, ?_⟩ <;> decide +kernel
set_option maxRecDepth 100000 in
set_option maxHeartbeats 4000000 in
theorem w_X1_go_L19 {X : MX} (C : CX X cX1_go 8 RX1 (some .boolean) rmX1_go) (x0 : Nat) (x1 : Nat) (x2 : Nat) (x3 : Nat) (x4 : Int32) (s : Int32 × Int32 × AH) (res : (Int32 × Int32 × AH) ⊕ ((AH) ⊕ (AH) ⊕ (AH))) (hf : f_X1_go_L19 x0 x1 x2 x3 x4 s = some res) (K0 : ∀ (u5 : Int32) (u6 : Int32) (hu : AH), res = .inl (u5, u6, hu) → PT X 8 0 0 19 [(0, .ref x0), (1, .ref x1), (2, .ref x2), (3, .ref x3), (4, .int x4), (5, .int u5), (6, .int u6)] [] hu) (K1 : ∀ (hu : AH), res = .inr (.inl (hu)) → PT X 8 0 0 120 [] [] hu) (K2 : ∀ (hu : AH), res = .inr (.inr (.inl (hu))) → PT X 8 0 0 112 [] [] hu) (K3 : ∀ (hu : AH), res = .inr (.inr (.inr (hu))) → PT X 8 0 0 101 [] [] hu) : PT X 8 0 0 19 [(0, .ref x0), (1, .ref x1), (2, .ref x2), (3, .ref x3), (4, .int x4), (5, .int s.1), (6, .int s.2.1)] [] s.2.2 := by
  unfold f_X1_go_L19 at hf
  refine pt_iload C 6 rfl dX1_go_19 ?_
  refine pt_iload C 4 rfl dX1_go_21 ?_
  refine pt_icmp_ge C (tgt := 120) (by decide) dX1_go_23 (fun c8 => ?_) (fun c8 => ?_)
  · rw [if_pos c8] at hf
    refine pt_sub C [] [] rfl ?_
    exact K1 _ (Option.some.inj hf).symm
  · rw [if_neg c8] at hf
    refine pt_iload C 6 rfl dX1_go_26 ?_
    refine pt_sipush C (v := 300) (by decide) dX1_go_28 ?_
    refine pt_icmp_ge C (tgt := 120) (by decide) dX1_go_31 (fun c9 => ?_) (fun c9 => ?_)
    · rw [if_pos c9] at hf
      refine pt_sub C [] [] rfl ?_
      exact K1 _ (Option.some.inj hf).symm
    · rw [if_neg c9] at hf
      refine pt_aload_n C 0 rfl rfl dX1_go_34 ?_
      refine pt_aload_n C 1 rfl rfl dX1_go_35 ?_
      refine pt_aload_n C 0 rfl rfl dX1_go_36 ?_
      refine pt_aload_n C 2 rfl rfl dX1_go_37 ?_
      refine pt_iload C 6 rfl dX1_go_38 ?_
      refine ob hf (fun _ g12 hf => ?_)
      refine ob hf (fun q10 g11 hf => ?_)
      refine pt_callV C (As := [.ref x2, .int s.2.1]) (rest := [.ref x1, .ref x0]) (v := (some (.int q10.1))) (fun l => con_X1_pullersAt l x0 x2 s.2.1 s.2.2 _ g11) tw_577 tw_574 tw_576 tp_5 kX1 g12 tw_7 yn_X1_pullersAt (by decide) (Nat.le_of_ble_eq_true rfl) dX1_go_40 rfl ?_
      show PT X 8 0 0 43 [(0, .ref x0), (1, .ref x1), (2, .ref x2), (3, .ref x3), (4, .int x4), (5, .int s.1), (6, .int s.2.1)] [.int q10.1, .ref x1, .ref x0] q10.2
      refine pt_aload_n C 2 rfl rfl dX1_go_43 ?_
      refine pt_iload C 6 rfl dX1_go_44 ?_
      refine ob hf (fun _ g15 hf => ?_)
      refine ob hf (fun q13 g14 hf => ?_)
      refine pt_callV C (As := [.int s.2.1]) (rest := [.int q10.1, .ref x1, .ref x0]) (v := (some (.int q13.1))) (fun l => con_X7_sungAt l x2 s.2.1 q10.2 _ g14) tw_483 tw_578 tw_481 tw_482 kX7 g15 tw_14 yn_X7_sungAt (by decide) (Nat.le_of_ble_eq_true rfl) dX1_go_46 rfl ?_
      show PT X 8 0 0 49 [(0, .ref x0), (1, .ref x1), (2, .ref x2), (3, .ref x3), (4, .int x4), (5, .int s.1), (6, .int s.2.1)] [.int q13.1, .int q10.1, .ref x1, .ref x0] q13.2
      refine ob hf (fun _ g18 hf => ?_)
      refine ob hf (fun q16 g17 hf => ?_)
      refine pt_callV C (As := [.ref x1, .int q10.1, .int q13.1]) (rest := []) (v := (some (.int q16.1))) (fun l => con_X1_pull l x0 x1 q10.1 q13.1 q13.2 _ g17) tw_582 tw_579 tw_581 tp_6 kX1 g18 tw_7 yn_X1_pull (by decide) (Nat.le_of_ble_eq_true rfl) dX1_go_49 rfl ?_
      show PT X 8 0 0 52 [(0, .ref x0), (1, .ref x1), (2, .ref x2), (3, .ref x3), (4, .int x4), (5, .int s.1), (6, .int s.2.1)] [.int q16.1] q16.2
      refine pt_istore C [(7, .int q16.1), (0, .ref x0), (1, .ref x1), (2, .ref x2), (3, .ref x3), (4, .int x4), (5, .int s.1), (6, .int s.2.1)] (by decide) rfl dX1_go_52 ?_
      refine pt_aload_n C 4 rfl rfl dX1_go_54 ?_
      refine pt_iload C 6 rfl dX1_go_55 ?_
      refine pt_iload C 0 rfl dX1_go_57 ?_
      refine ob hf (fun _ g21 hf => ?_)
      refine ob hf (fun q19 g20 hf => ?_)
      refine pt_callV C (As := [.int s.1, .int q16.1]) (rest := []) (v := (some (.int q19.1))) (fun l => con_X8_wonBehind l x3 s.1 q16.1 q16.2 _ g20) tw_592 tw_589 tw_590 tw_591 kX8 g21 tw_21 yn_X8_wonBehind (by decide) (Nat.le_of_ble_eq_true rfl) dX1_go_59 rfl ?_
      show PT X 8 0 0 62 [(7, .int q16.1), (0, .ref x0), (1, .ref x1), (2, .ref x2), (3, .ref x3), (4, .int x4), (5, .int s.1), (6, .int s.2.1)] [.int q19.1] q19.2
      refine pt_istore C [(5, .int q19.1), (7, .int q16.1), (0, .ref x0), (1, .ref x1), (2, .ref x2), (3, .ref x3), (4, .int x4), (6, .int s.2.1)] (by decide) rfl dX1_go_62 ?_
      refine pt_aload_n C 2 rfl rfl dX1_go_64 ?_
      refine ob hf (fun v22 g23 hf => ?_)
      refine pt_getR C kX1 2 (by decide) tw_143 (Or.inl rfl) g23 dX1_go_65 ?_
      refine pt_iload C 7 rfl dX1_go_68 ?_
      refine pt_iload C 0 rfl dX1_go_70 ?_
      refine ob hf (fun h24 g25 hf => ?_)
      refine pt_iast C g25 dX1_go_72 ?_
      refine pt_aload_n C 2 rfl rfl dX1_go_73 ?_
      refine ob hf (fun v26 g27 hf => ?_)
      refine pt_getR C kX1 3 (by decide) tw_146 (Or.inl rfl) g27 dX1_go_74 ?_
      refine pt_iload C 7 rfl dX1_go_77 ?_
      refine pt_iload C 1 rfl dX1_go_79 ?_
      refine ob hf (fun h28 g29 hf => ?_)
      refine pt_iast C g29 dX1_go_81 ?_
      refine pt_aload_n C 2 rfl rfl dX1_go_82 ?_
      refine pt_iload C 7 rfl dX1_go_83 ?_
      refine pt_iconst C (v := 1) (by decide) dX1_go_85 ?_
      refine pt_iadd C dX1_go_86 ?_
      refine ob hf (fun h30 g31 hf => ?_)
      refine pt_put C kX1 7 (by decide) tw_153 (Or.inl rfl) rfl rfl rfl g31 dX1_go_87 ?_
      refine pt_aload_n C 2 rfl rfl dX1_go_90 ?_
      refine pt_aload_n C 3 rfl rfl dX1_go_91 ?_
      refine ob hf (fun v32 g33 hf => ?_)
      refine pt_getI C kX0 6 (by decide) tw_104 (Or.inl rfl) g33 dX1_go_92 ?_
      refine ob hf (fun _ g36 hf => ?_)
      refine ob hf (fun q34 g35 hf => ?_)
      refine pt_callV C (As := [.int v32]) (rest := []) (v := (some (.int q34.1))) (fun l => con_X1_isBelowFloor l x0 v32 h30 _ g35) tw_597 tw_594 tw_596 tp_8 kX1 g36 tw_7 yn_X1_isBelowFloor (by decide) (Nat.le_of_ble_eq_true rfl) dX1_go_95 rfl ?_
      show PT X 8 0 0 98 [(5, .int q19.1), (7, .int q16.1), (0, .ref x0), (1, .ref x1), (2, .ref x2), (3, .ref x3), (4, .int x4), (6, .int s.2.1)] [.int q34.1] q34.2
      refine pt_if_eq C (tgt := 103) (by decide) dX1_go_98 (fun c37 => ?_) (fun c37 => ?_)
      · rw [if_pos c37] at hf
        refine pt_iload C 0 rfl dX1_go_103 ?_
        refine pt_aload_n C 5 rfl rfl dX1_go_105 ?_
        refine ob hf (fun v38 g39 hf => ?_)
        refine pt_getI C kX8 0 (by decide) tw_552 (Or.inl rfl) g39 dX1_go_106 ?_
        refine pt_icmp_lt C (tgt := 114) (by decide) dX1_go_109 (fun c40 => ?_) (fun c40 => ?_)
        · rw [if_pos c40] at hf
          refine pt_iinc C 7 [(6, .int (s.2.1 + 1)), (5, .int q19.1), (7, .int q16.1), (0, .ref x0), (1, .ref x1), (2, .ref x2), (3, .ref x3), (4, .int x4)] rfl (iinc_eq s.2.1 (by decide)) (by decide) rfl dX1_go_114 ?_
          refine pt_goto C (tgt := 19) (by decide) dX1_go_117 ?_
          refine pt_sub C [(0, .ref x0), (1, .ref x1), (2, .ref x2), (3, .ref x3), (4, .int x4), (5, .int q19.1), (6, .int (s.2.1 + 1))] [3, 4, 5, 6, 7, 1, 0] rfl ?_
          exact K0 _ _ _ (Option.some.inj hf).symm
        · rw [if_neg c40] at hf
          refine pt_sub C [] [] rfl ?_
          exact K2 _ (Option.some.inj hf).symm
      · rw [if_neg c37] at hf
        refine pt_sub C [] [] rfl ?_
        exact K3 _ (Option.some.inj hf).symm
theorem l_X1_go_L19 {X : MX} (C : CX X cX1_go 8 RX1 (some .boolean) rmX1_go) (x0 : Nat) (x1 : Nat) (x2 : Nat) (x3 : Nat) (x4 : Int32) : ∀ (n : Nat) (s : Int32 × Int32 × AH) (r : (AH) ⊕ (AH) ⊕ (AH)), iter (f_X1_go_L19 x0 x1 x2 x3 x4) n s = some r → (Sum.elim (fun r : (AH) => PT X 8 0 0 120 [] [] r) (Sum.elim (fun r : (AH) => PT X 8 0 0 112 [] [] r) (fun r : (AH) => PT X 8 0 0 101 [] [] r))) r → PT X 8 0 0 19 [(0, .ref x0), (1, .ref x1), (2, .ref x2), (3, .ref x3), (4, .int x4), (5, .int s.1), (6, .int s.2.1)] [] s.2.2 :=
  iter_W (fun s : Int32 × Int32 × AH => PT X 8 0 0 19 [(0, .ref x0), (1, .ref x1), (2, .ref x2), (3, .ref x3), (4, .int x4), (5, .int s.1), (6, .int s.2.1)] [] s.2.2) (Sum.elim (fun r : (AH) => PT X 8 0 0 120 [] [] r) (Sum.elim (fun r : (AH) => PT X 8 0 0 112 [] [] r) (fun r : (AH) => PT X 8 0 0 101 [] [] r))) _ (fun s s2 hf P => w_X1_go_L19 C x0 x1 x2 x3 x4 s _ hf (fun u5 u6 hu e => by cases e; exact P) (fun hu e => by cases e) (fun hu e => by cases e) (fun hu e => by cases e)) (fun s r hf P => w_X1_go_L19 C x0 x1 x2 x3 x4 s _ hf (fun u5 u6 hu e => by cases e) (fun hu e => by cases e; exact P) (fun hu e => by cases e; exact P) (fun hu e => by cases e; exact P))
set_option maxRecDepth 100000 in
set_option maxHeartbeats 4000000 in
theorem w_X1_go_0 {X : MX} (C : CX X cX1_go 8 RX1 (some .boolean) rmX1_go) (a0 : Nat) (a1 : Nat) (a2 : Nat) (a3 : Nat) (a4 : Int32) (h : AH) (res : Int32 × AH) (hf : f_X1_go a0 a1 a2 a3 a4 h = some res) (K : ∀ (v : Int32) (h2 : AH), res = (v, h2) → PR X rmX1_go (some (.int v)) h2) : PT X 8 0 0 0 [(0, .ref a0), (1, .ref a1), (2, .ref a2), (3, .ref a3), (4, .int a4)] [] h := by
  unfold f_X1_go at hf
  refine pt_iconst C (v := 0) (by decide) dX1_go_0 ?_
  refine pt_istore C [(5, .int 0), (0, .ref a0), (1, .ref a1), (2, .ref a2), (3, .ref a3), (4, .int a4)] (by decide) rfl dX1_go_1 ?_
  refine pt_aload_n C 1 rfl rfl dX1_go_3 ?_
  refine pt_iconst C (v := 0) (by decide) dX1_go_4 ?_
  refine ob hf (fun h1 g2 hf => ?_)
  refine pt_put C kX1 7 (by decide) tw_153 (Or.inl rfl) rfl rfl rfl g2 dX1_go_5 ?_
  refine pt_aload_n C 1 rfl rfl dX1_go_8 ?_
  refine pt_aload_n C 2 rfl rfl dX1_go_9 ?_
  refine ob hf (fun v3 g4 hf => ?_)
  refine pt_getI C kX0 6 (by decide) tw_104 (Or.inl rfl) g4 dX1_go_10 ?_
  refine ob hf (fun _ g7 hf => ?_)
  refine ob hf (fun q5 g6 hf => ?_)
  refine pt_callV C (As := [.int v3]) (rest := []) (v := none) (fun l => con_X1_gatherByLate l a0 v3 h1 _ g6) tw_569 tw_566 tw_568 tp_4 kX1 g7 tw_7 yn_X1_gatherByLate (by decide) (Nat.le_of_ble_eq_true rfl) dX1_go_13 rfl ?_
  show PT X 8 0 0 16 [(5, .int 0), (0, .ref a0), (1, .ref a1), (2, .ref a2), (3, .ref a3), (4, .int a4)] [] q5
  refine pt_iconst C (v := 0) (by decide) dX1_go_16 ?_
  refine pt_istore C [(6, .int 0), (5, .int 0), (0, .ref a0), (1, .ref a1), (2, .ref a2), (3, .ref a3), (4, .int a4)] (by decide) rfl dX1_go_17 ?_
  refine pt_sub C [(0, .ref a0), (1, .ref a1), (2, .ref a2), (3, .ref a3), (4, .int a4), (5, .int 0), (6, .int 0)] [2, 3, 4, 5, 6, 1, 0] rfl ?_
  refine ob hf (fun e41 g42 hf => ?_)
  refine l_X1_go_L19 C a0 a1 a2 a3 a4 _ _ _ g42 ?_
  cases e41 with
  | inl e43 =>
    simp only [Sum.elim_inl] at hf ⊢
    refine pt_iconst C (v := 0) (by decide) dX1_go_120 ?_
    exact pt_zret C (by decide) (K _ _ (Option.some.inj hf).symm) (by decide) (by decide) dX1_go_121
  | inr e44 =>
    simp only [Sum.elim_inr] at hf ⊢
    cases e44 with
    | inl e45 =>
      simp only [Sum.elim_inl] at hf ⊢
      refine pt_iconst C (v := 1) (by decide) dX1_go_112 ?_
      exact pt_zret C (by decide) (K _ _ (Option.some.inj hf).symm) (by decide) (by decide) dX1_go_113
    | inr e46 =>
      simp only [Sum.elim_inr] at hf ⊢
      refine pt_iconst C (v := 0) (by decide) dX1_go_101 ?_
      exact pt_zret C (by decide) (K _ _ (Option.some.inj hf).symm) (by decide) (by decide) dX1_go_102
theorem con_X1_go (l : Launch) (a0 : Nat) (a1 : Nat) (a2 : Nat) (a3 : Nat) (a4 : Int32) (h : AH) (q : Int32 × AH) (hf : f_X1_go a0 a1 a2 a3 a4 h = some q) : Con l yX1_go cX1_go 8 (some .boolean) rmX1_go [.ref a0, .ref a1, .ref a2, .ref a3, .int a4] h (some (.int q.1)) q.2 := Con.of (by decide +kernel) (Nat.le_of_ble_eq_true rfl) (fun X C I K => w_X1_go_0 C a0 a1 a2 a3 a4 h q hf (fun v h2 e => by cases e; exact K))
abbrev rmX1_leastNow : Room := { frames := 1, cells := 0, slots := 0, locals := 23 }
theorem yn_X1_leastNow : YN yX1_leastNow 1 := by refine ⟨?_, ?_, ?_⟩ <;> decide +kernel
set_option maxRecDepth 100000 in
set_option maxHeartbeats 4000000 in
theorem w_X1_leastNow_L5 {X : MX} (C : CX X cX1_leastNow 4 RX1 (some .int) rmX1_leastNow) (x0 : Nat) (x1 : Int32) (s : Int32 × Int32 × AH) (res : (Int32 × Int32 × AH) ⊕ ((Int32 × AH))) (hf : f_X1_leastNow_L5 x0 x1 s = some res) (K0 : ∀ (u2 : Int32) (u3 : Int32) (hu : AH), res = .inl (u2, u3, hu) → PT X 4 0 0 5 [(0, .ref x0), (1, .int x1), (2, .int u2), (3, .int u3)] [] hu) (K1 : ∀ (u2 : Int32) (hu : AH), res = .inr ((u2, hu)) → PT X 4 0 0 27 [(2, .int u2)] [] hu) : PT X 4 0 0 5 [(0, .ref x0), (1, .int x1), (2, .int s.1), (3, .int s.2.1)] [] s.2.2 := by
  unfold f_X1_leastNow_L5 at hf
  refine pt_iload_n C 3 rfl rfl dX1_leastNow_5 ?_
  refine pt_iload_n C 1 rfl rfl dX1_leastNow_6 ?_
  refine pt_icmp_ge C (tgt := 27) (by decide) dX1_leastNow_7 (fun c1 => ?_) (fun c1 => ?_)
  · rw [if_pos c1] at hf
    refine pt_sub C [(2, .int s.1)] [2] rfl ?_
    exact K1 _ _ (Option.some.inj hf).symm
  · rw [if_neg c1] at hf
    refine pt_iload_n C 2 rfl rfl dX1_leastNow_10 ?_
    refine pt_aload_n C 0 rfl rfl dX1_leastNow_11 ?_
    refine ob hf (fun v2 g3 hf => ?_)
    refine pt_getR C kX1 0 (by decide) tw_138 (Or.inl rfl) g3 dX1_leastNow_12 ?_
    refine pt_iload_n C 3 rfl rfl dX1_leastNow_15 ?_
    refine ob hf (fun v4 g5 hf => ?_)
    refine pt_iald C g5 dX1_leastNow_16 ?_
    refine pt_mmin C tw_588 tw_444 tw_16 tw_445 (by decide) (Nat.le_of_ble_eq_true rfl) (by decide) (by decide) dX1_leastNow_17 ?_
    refine pt_istore_n C [(2, .int (if v4 < s.1 then v4 else s.1)), (0, .ref x0), (1, .int x1), (3, .int s.2.1)] rfl (by decide) rfl dX1_leastNow_20 ?_
    refine pt_iinc C 3 [(3, .int (s.2.1 + 1)), (2, .int (if v4 < s.1 then v4 else s.1)), (0, .ref x0), (1, .int x1)] rfl (iinc_eq s.2.1 (by decide)) (by decide) rfl dX1_leastNow_21 ?_
    refine pt_goto C (tgt := 5) (by decide) dX1_leastNow_24 ?_
    refine pt_sub C [(0, .ref x0), (1, .int x1), (2, .int (if v4 < s.1 then v4 else s.1)), (3, .int (s.2.1 + 1))] [2, 3, 1, 0] rfl ?_
    exact K0 _ _ _ (Option.some.inj hf).symm
theorem l_X1_leastNow_L5 {X : MX} (C : CX X cX1_leastNow 4 RX1 (some .int) rmX1_leastNow) (x0 : Nat) (x1 : Int32) : ∀ (n : Nat) (s : Int32 × Int32 × AH) (r : (Int32 × AH)), iter (f_X1_leastNow_L5 x0 x1) n s = some r → (fun r : (Int32 × AH) => PT X 4 0 0 27 [(2, .int r.1)] [] r.2) r → PT X 4 0 0 5 [(0, .ref x0), (1, .int x1), (2, .int s.1), (3, .int s.2.1)] [] s.2.2 :=
  iter_W (fun s : Int32 × Int32 × AH => PT X 4 0 0 5 [(0, .ref x0), (1, .int x1), (2, .int s.1), (3, .int s.2.1)] [] s.2.2) (fun r : (Int32 × AH) => PT X 4 0 0 27 [(2, .int r.1)] [] r.2) _ (fun s s2 hf P => w_X1_leastNow_L5 C x0 x1 s _ hf (fun u2 u3 hu e => by cases e; exact P) (fun u2 hu e => by cases e)) (fun s r hf P => w_X1_leastNow_L5 C x0 x1 s _ hf (fun u2 u3 hu e => by cases e) (fun u2 hu e => by cases e; exact P))
set_option maxRecDepth 100000 in
set_option maxHeartbeats 4000000 in
theorem w_X1_leastNow_0 {X : MX} (C : CX X cX1_leastNow 4 RX1 (some .int) rmX1_leastNow) (a0 : Nat) (a1 : Int32) (h : AH) (res : Int32 × AH) (hf : f_X1_leastNow a0 a1 h = some res) (K : ∀ (v : Int32) (h2 : AH), res = (v, h2) → PR X rmX1_leastNow (some (.int v)) h2) : PT X 4 0 0 0 [(0, .ref a0), (1, .int a1)] [] h := by
  unfold f_X1_leastNow at hf
  refine pt_bipush C (v := 100) (by decide) dX1_leastNow_0 ?_
  refine pt_istore_n C [(2, .int 100), (0, .ref a0), (1, .int a1)] rfl (by decide) rfl dX1_leastNow_2 ?_
  refine pt_iconst C (v := 0) (by decide) dX1_leastNow_3 ?_
  refine pt_istore_n C [(3, .int 0), (2, .int 100), (0, .ref a0), (1, .int a1)] rfl (by decide) rfl dX1_leastNow_4 ?_
  refine pt_sub C [(0, .ref a0), (1, .int a1), (2, .int 100), (3, .int 0)] [2, 3, 1, 0] rfl ?_
  refine ob hf (fun e6 g7 hf => ?_)
  refine l_X1_leastNow_L5 C a0 a1 _ _ _ g7 ?_
  refine pt_iload_n C 0 rfl rfl dX1_leastNow_27 ?_
  exact pt_iret C (K _ _ (Option.some.inj hf).symm) (by decide) (by decide) dX1_leastNow_28
theorem con_X1_leastNow (l : Launch) (a0 : Nat) (a1 : Int32) (h : AH) (q : Int32 × AH) (hf : f_X1_leastNow a0 a1 h = some q) : Con l yX1_leastNow cX1_leastNow 4 (some .int) rmX1_leastNow [.ref a0, .int a1] h (some (.int q.1)) q.2 := Con.of (by decide +kernel) (Nat.le_of_ble_eq_true rfl) (fun X C I K => w_X1_leastNow_0 C a0 a1 h q hf (fun v h2 e => by cases e; exact K))
abbrev rmX9_tryCrew : Room := { frames := 4, cells := 0, slots := 0, locals := 97 }
theorem yn_X9_tryCrew : YN yX9_tryCrew 4 := by refine ⟨?_, ?_, ?_⟩ <;> decide +kernel
set_option maxRecDepth 100000 in
set_option maxHeartbeats 4000000 in
theorem w_X9_tryCrew_J71 {X : MX} (C : CX X cX9_tryCrew 6 RX9 none rmX9_tryCrew) (a0 : Nat) (a1 : Nat) (a2 : Nat) (a3 : Nat) (a4 : Int32) (y5 : Int32) (h : AH) (res : AH) (hf : f_X9_tryCrew_J71 a0 a1 a2 a3 a4 y5 h = some res) (K : PR X rmX9_tryCrew none res) : PT X 6 0 0 71 [(0, .ref a0), (4, .int a4), (5, .int y5)] [] h := by
  unfold f_X9_tryCrew_J71 at hf
  refine pt_aload_n C 0 rfl rfl dX9_tryCrew_71 ?_
  refine pt_iload C 1 rfl dX9_tryCrew_72 ?_
  refine ob hf (fun h32 g33 hf => ?_)
  refine pt_put C kX9 6 (by decide) tw_192 (Or.inl rfl) rfl rfl rfl g33 dX9_tryCrew_74 ?_
  refine pt_aload_n C 0 rfl rfl dX9_tryCrew_77 ?_
  refine pt_aload_n C 0 rfl rfl dX9_tryCrew_78 ?_
  refine ob hf (fun v34 g35 hf => ?_)
  refine pt_getR C kX9 0 (by decide) tw_183 (Or.inl rfl) g35 dX9_tryCrew_79 ?_
  refine ob hf (fun v36 g37 hf => ?_)
  refine pt_getI C kX1 7 (by decide) tw_152 (Or.inl rfl) g37 dX9_tryCrew_82 ?_
  refine ob hf (fun h38 g39 hf => ?_)
  refine pt_put C kX9 7 (by decide) tw_194 (Or.inl rfl) rfl rfl rfl g39 dX9_tryCrew_85 ?_
  refine pt_aload_n C 0 rfl rfl dX9_tryCrew_88 ?_
  refine pt_iload C 2 rfl dX9_tryCrew_89 ?_
  refine ob hf (fun h40 g41 hf => ?_)
  refine pt_put C kX9 8 (by decide) tw_196 (Or.inl rfl) rfl rfl rfl g41 dX9_tryCrew_91 ?_
  obtain rfl := Option.some.inj hf
  exact pt_vret C K (by decide) (by decide) dX9_tryCrew_94
set_option maxRecDepth 100000 in
set_option maxHeartbeats 4000000 in
theorem w_X9_tryCrew_0 {X : MX} (C : CX X cX9_tryCrew 6 RX9 none rmX9_tryCrew) (a0 : Nat) (a1 : Nat) (a2 : Nat) (a3 : Nat) (a4 : Int32) (h : AH) (res : AH) (hf : f_X9_tryCrew a0 a1 a2 a3 a4 h = some res) (K : PR X rmX9_tryCrew none res) : PT X 6 0 0 0 [(0, .ref a0), (1, .ref a1), (2, .ref a2), (3, .ref a3), (4, .int a4)] [] h := by
  unfold f_X9_tryCrew at hf
  refine pt_aload_n C 0 rfl rfl dX9_tryCrew_0 ?_
  refine ob hf (fun v1 g2 hf => ?_)
  refine pt_getR C kX9 0 (by decide) tw_183 (Or.inl rfl) g2 dX9_tryCrew_1 ?_
  refine pt_aload_n C 1 rfl rfl dX9_tryCrew_4 ?_
  refine ob hf (fun _ g5 hf => ?_)
  refine ob hf (fun q3 g4 hf => ?_)
  refine pt_callV C (As := [.ref a1]) (rest := []) (v := none) (fun l => con_X1_beginAsTold l v1 a1 h _ g4) tw_543 tw_631 tw_541 tw_542 kX1 g5 tw_7 yn_X1_beginAsTold (by decide) (Nat.le_of_ble_eq_true rfl) dX9_tryCrew_5 rfl ?_
  show PT X 6 0 0 8 [(0, .ref a0), (1, .ref a1), (2, .ref a2), (3, .ref a3), (4, .int a4)] [] q3
  refine pt_aload_n C 0 rfl rfl dX9_tryCrew_8 ?_
  refine ob hf (fun v6 g7 hf => ?_)
  refine pt_getR C kX9 0 (by decide) tw_183 (Or.inl rfl) g7 dX9_tryCrew_9 ?_
  refine pt_iload C 4 rfl dX9_tryCrew_12 ?_
  refine ob hf (fun h8 g9 hf => ?_)
  refine pt_put C kX1 5 (by decide) tw_150 (Or.inl rfl) rfl rfl rfl g9 dX9_tryCrew_14 ?_
  refine pt_aload_n C 0 rfl rfl dX9_tryCrew_17 ?_
  refine ob hf (fun v10 g11 hf => ?_)
  refine pt_getR C kX9 0 (by decide) tw_183 (Or.inl rfl) g11 dX9_tryCrew_18 ?_
  refine pt_aload_n C 1 rfl rfl dX9_tryCrew_21 ?_
  refine pt_aload_n C 2 rfl rfl dX9_tryCrew_22 ?_
  refine pt_aload_n C 3 rfl rfl dX9_tryCrew_23 ?_
  refine pt_aload_n C 0 rfl rfl dX9_tryCrew_24 ?_
  refine ob hf (fun v12 g13 hf => ?_)
  refine pt_getI C kX9 7 (by decide) tw_194 (Or.inl rfl) g13 dX9_tryCrew_25 ?_
  refine ob hf (fun _ g16 hf => ?_)
  refine ob hf (fun q14 g15 hf => ?_)
  refine pt_callV C (As := [.ref a1, .ref a2, .ref a3, .int v12]) (rest := []) (v := (some (.int q14.1))) (fun l => con_X1_go l v10 a1 a2 a3 v12 h8 _ g15) tw_565 tw_641 tw_563 tw_564 kX1 g16 tw_7 yn_X1_go (by decide) (Nat.le_of_ble_eq_true rfl) dX9_tryCrew_28 rfl ?_
  show PT X 6 0 0 31 [(0, .ref a0), (1, .ref a1), (2, .ref a2), (3, .ref a3), (4, .int a4)] [.int q14.1] q14.2
  refine pt_if_ne C (tgt := 35) (by decide) dX9_tryCrew_31 (fun c17 => ?_) (fun c17 => ?_)
  · rw [if_neg c17] at hf
    refine pt_aload_n C 0 rfl rfl dX9_tryCrew_35 ?_
    refine ob hf (fun v18 g19 hf => ?_)
    refine pt_getR C kX9 0 (by decide) tw_183 (Or.inl rfl) g19 dX9_tryCrew_36 ?_
    refine pt_aload_n C 1 rfl rfl dX9_tryCrew_39 ?_
    refine ob hf (fun v20 g21 hf => ?_)
    refine pt_getI C kX0 6 (by decide) tw_105 (Or.inl rfl) g21 dX9_tryCrew_40 ?_
    refine ob hf (fun _ g24 hf => ?_)
    refine ob hf (fun q22 g23 hf => ?_)
    refine pt_callV C (As := [.int v20]) (rest := []) (v := (some (.int q22.1))) (fun l => con_X1_leastNow l v18 v20 q14.2 _ g23) tw_670 tw_667 tw_668 tw_669 kX1 g24 tw_7 yn_X1_leastNow (by decide) (Nat.le_of_ble_eq_true rfl) dX9_tryCrew_43 rfl ?_
    show PT X 6 0 0 46 [(0, .ref a0), (1, .ref a1), (2, .ref a2), (3, .ref a3), (4, .int a4)] [.int q22.1] q22.2
    refine pt_istore C [(5, .int q22.1), (0, .ref a0), (1, .ref a1), (2, .ref a2), (3, .ref a3), (4, .int a4)] (by decide) rfl dX9_tryCrew_46 ?_
    refine pt_aload_n C 1 rfl rfl dX9_tryCrew_48 ?_
    refine ob hf (fun v25 g26 hf => ?_)
    refine pt_getR C kX9 0 (by decide) tw_183 (Or.inl rfl) g26 dX9_tryCrew_49 ?_
    refine ob hf (fun v27 g28 hf => ?_)
    refine pt_getI C kX1 7 (by decide) tw_152 (Or.inl rfl) g28 dX9_tryCrew_52 ?_
    refine pt_aload_n C 1 rfl rfl dX9_tryCrew_55 ?_
    refine ob hf (fun v29 g30 hf => ?_)
    refine pt_getI C kX9 7 (by decide) tw_194 (Or.inl rfl) g30 dX9_tryCrew_56 ?_
    refine pt_icmp_lt C (tgt := 71) (by decide) dX9_tryCrew_59 (fun c31 => ?_) (fun c31 => ?_)
    · rw [if_pos c31] at hf
      refine pt_sub C [(0, .ref a0), (4, .int a4), (5, .int q22.1)] [1, 5, 0] rfl ?_
      exact w_X9_tryCrew_J71 C a0 a1 a2 a3 a4 q22.1 q22.2 _ hf K
    · rw [if_neg c31] at hf
      refine pt_iload C 0 rfl dX9_tryCrew_62 ?_
      refine pt_aload_n C 1 rfl rfl dX9_tryCrew_64 ?_
      refine ob hf (fun v42 g43 hf => ?_)
      refine pt_getI C kX9 8 (by decide) tw_196 (Or.inl rfl) g43 dX9_tryCrew_65 ?_
      refine pt_icmp_le C (tgt := 94) (by decide) dX9_tryCrew_68 (fun c44 => ?_) (fun c44 => ?_)
      · rw [if_pos c44] at hf
        obtain rfl := Option.some.inj hf
        exact pt_vret C K (by decide) (by decide) dX9_tryCrew_94
      · rw [if_neg c44] at hf
        refine pt_sub C [(0, .ref a0), (4, .int a4), (5, .int q22.1)] [1, 5, 0] rfl ?_
        exact w_X9_tryCrew_J71 C a0 a1 a2 a3 a4 q22.1 q22.2 _ hf K
  · rw [if_pos c17] at hf
    obtain rfl := Option.some.inj hf
    exact pt_vret C K (by decide) (by decide) dX9_tryCrew_34
theorem con_X9_tryCrew (l : Launch) (a0 : Nat) (a1 : Nat) (a2 : Nat) (a3 : Nat) (a4 : Int32) (h : AH) (q : AH) (hf : f_X9_tryCrew a0 a1 a2 a3 a4 h = some q) : Con l yX9_tryCrew cX9_tryCrew 6 none rmX9_tryCrew [.ref a0, .ref a1, .ref a2, .ref a3, .int a4] h none q := Con.of (by decide +kernel) (Nat.le_of_ble_eq_true rfl) (fun X C I K => w_X9_tryCrew_0 C a0 a1 a2 a3 a4 h q hf K)
abbrev rmX9_findCrew : Room := { frames := 5, cells := 0, slots := 0, locals := 122 }
theorem yn_X9_findCrew : YN yX9_findCrew 4 := by refine ⟨?_, ?_, ?_⟩ <;> decide +kernel
set_option maxRecDepth 100000 in
set_option maxHeartbeats 4000000 in
theorem w_X9_findCrew_L9 {X : MX} (C : CX X cX9_findCrew 6 RX9 none rmX9_findCrew) (x0 : Nat) (x1 : Nat) (x2 : Nat) (x3 : Nat) (x4 : Int32) (s : Int32 × AH) (res : (Int32 × AH) ⊕ ((AH))) (hf : f_X9_findCrew_L9 x0 x1 x2 x3 x4 s = some res) (K0 : ∀ (u5 : Int32) (hu : AH), res = .inl (u5, hu) → PT X 6 0 0 9 [(0, .ref x0), (1, .ref x1), (2, .ref x2), (3, .ref x3), (4, .int x4), (5, .int u5)] [] hu) (K1 : ∀ (hu : AH), res = .inr (hu) → PT X 6 0 0 43 [] [] hu) : PT X 6 0 0 9 [(0, .ref x0), (1, .ref x1), (2, .ref x2), (3, .ref x3), (4, .int x4), (5, .int s.1)] [] s.2 := by
  unfold f_X9_findCrew_L9 at hf
  refine pt_iload C 5 rfl dX9_findCrew_9 ?_
  refine pt_aload_n C 1 rfl rfl dX9_findCrew_11 ?_
  refine ob hf (fun _ g5 hf => ?_)
  refine ob hf (fun q3 g4 hf => ?_)
  refine pt_callV C (As := []) (rest := [.int s.1]) (v := (some (.int q3.1))) (fun l => con_X0_allSet l x1 s.2 _ g4) tw_508 tw_656 tw_506 tw_507 kX0 g5 tw_6 yn_X0_allSet (by decide) (Nat.le_of_ble_eq_true rfl) dX9_findCrew_12 rfl ?_
  show PT X 6 0 0 15 [(0, .ref x0), (1, .ref x1), (2, .ref x2), (3, .ref x3), (4, .int x4), (5, .int s.1)] [.int q3.1, .int s.1] q3.2
  refine pt_icmp_gt C (tgt := 43) (by decide) dX9_findCrew_15 (fun c6 => ?_) (fun c6 => ?_)
  · rw [if_pos c6] at hf
    refine pt_sub C [] [] rfl ?_
    exact K1 _ (Option.some.inj hf).symm
  · rw [if_neg c6] at hf
    refine pt_iload C 5 rfl dX9_findCrew_18 ?_
    refine ob hf (fun q7 g8 hf => ?_)
    refine pt_callS C (As := [.int s.1]) (rest := []) (v := (some (.int q7.1))) (fun l => con_J6_bitCount_0f7a4 l s.1 q3.2 _ g8) tw_659 tw_657 tw_658 tw_22 yn_J6_bitCount_0f7a4 (by decide) (Nat.le_of_ble_eq_true rfl) dX9_findCrew_20 rfl ?_
    show PT X 6 0 0 23 [(0, .ref x0), (1, .ref x1), (2, .ref x2), (3, .ref x3), (4, .int x4), (5, .int s.1)] [.int q7.1] q7.2
    refine pt_iload C 4 rfl dX9_findCrew_23 ?_
    refine pt_icmp_ne C (tgt := 37) (by decide) dX9_findCrew_25 (fun c9 => ?_) (fun c9 => ?_)
    · rw [if_neg c9] at hf
      refine pt_iinc C 5 [(5, .int (s.1 + 1)), (0, .ref x0), (1, .ref x1), (2, .ref x2), (3, .ref x3), (4, .int x4)] rfl (iinc_eq s.1 (by decide)) (by decide) rfl dX9_findCrew_37 ?_
      refine pt_goto C (tgt := 9) (by decide) dX9_findCrew_40 ?_
      refine pt_sub C [(0, .ref x0), (1, .ref x1), (2, .ref x2), (3, .ref x3), (4, .int x4), (5, .int (s.1 + 1))] [1, 2, 3, 4, 5, 0] rfl ?_
      exact K0 _ _ (Option.some.inj hf).symm
    · rw [if_pos c9] at hf
      refine pt_aload_n C 0 rfl rfl dX9_findCrew_28 ?_
      refine pt_aload_n C 1 rfl rfl dX9_findCrew_29 ?_
      refine pt_aload_n C 2 rfl rfl dX9_findCrew_30 ?_
      refine pt_aload_n C 3 rfl rfl dX9_findCrew_31 ?_
      refine pt_iload C 5 rfl dX9_findCrew_32 ?_
      refine ob hf (fun _ g12 hf => ?_)
      refine ob hf (fun q10 g11 hf => ?_)
      refine pt_callV C (As := [.ref x1, .ref x2, .ref x3, .int s.1]) (rest := []) (v := none) (fun l => con_X9_tryCrew l x0 x1 x2 x3 s.1 q7.2 _ g11) tw_666 tw_663 tw_665 tp_11 kX9 g12 tw_8 yn_X9_tryCrew (by decide) (Nat.le_of_ble_eq_true rfl) dX9_findCrew_34 rfl ?_
      show PT X 6 0 0 37 [(0, .ref x0), (1, .ref x1), (2, .ref x2), (3, .ref x3), (4, .int x4), (5, .int s.1)] [] q10
      refine pt_iinc C 5 [(5, .int (s.1 + 1)), (0, .ref x0), (1, .ref x1), (2, .ref x2), (3, .ref x3), (4, .int x4)] rfl (iinc_eq s.1 (by decide)) (by decide) rfl dX9_findCrew_37 ?_
      refine pt_goto C (tgt := 9) (by decide) dX9_findCrew_40 ?_
      refine pt_sub C [(0, .ref x0), (1, .ref x1), (2, .ref x2), (3, .ref x3), (4, .int x4), (5, .int (s.1 + 1))] [1, 2, 3, 4, 5, 0] rfl ?_
      exact K0 _ _ (Option.some.inj hf).symm
theorem l_X9_findCrew_L9 {X : MX} (C : CX X cX9_findCrew 6 RX9 none rmX9_findCrew) (x0 : Nat) (x1 : Nat) (x2 : Nat) (x3 : Nat) (x4 : Int32) : ∀ (n : Nat) (s : Int32 × AH) (r : (AH)), iter (f_X9_findCrew_L9 x0 x1 x2 x3 x4) n s = some r → (fun r : (AH) => PT X 6 0 0 43 [] [] r) r → PT X 6 0 0 9 [(0, .ref x0), (1, .ref x1), (2, .ref x2), (3, .ref x3), (4, .int x4), (5, .int s.1)] [] s.2 :=
  iter_W (fun s : Int32 × AH => PT X 6 0 0 9 [(0, .ref x0), (1, .ref x1), (2, .ref x2), (3, .ref x3), (4, .int x4), (5, .int s.1)] [] s.2) (fun r : (AH) => PT X 6 0 0 43 [] [] r) _ (fun s s2 hf P => w_X9_findCrew_L9 C x0 x1 x2 x3 x4 s _ hf (fun u5 hu e => by cases e; exact P) (fun hu e => by cases e)) (fun s r hf P => w_X9_findCrew_L9 C x0 x1 x2 x3 x4 s _ hf (fun u5 hu e => by cases e) (fun hu e => by cases e; exact P))
set_option maxRecDepth 100000 in
set_option maxHeartbeats 4000000 in
theorem w_X9_findCrew_0 {X : MX} (C : CX X cX9_findCrew 6 RX9 none rmX9_findCrew) (a0 : Nat) (a1 : Nat) (a2 : Nat) (a3 : Nat) (a4 : Int32) (h : AH) (res : AH) (hf : f_X9_findCrew a0 a1 a2 a3 a4 h = some res) (K : PR X rmX9_findCrew none res) : PT X 6 0 0 0 [(0, .ref a0), (1, .ref a1), (2, .ref a2), (3, .ref a3), (4, .int a4)] [] h := by
  unfold f_X9_findCrew at hf
  refine pt_aload_n C 0 rfl rfl dX9_findCrew_0 ?_
  refine pt_ldc C tw_182 dX9_findCrew_1 ?_
  refine ob hf (fun h1 g2 hf => ?_)
  refine pt_put C kX9 7 (by decide) tw_194 (Or.inl rfl) rfl rfl rfl g2 dX9_findCrew_3 ?_
  refine pt_iconst C (v := 1) (by decide) dX9_findCrew_6 ?_
  refine pt_istore C [(5, .int 1), (0, .ref a0), (1, .ref a1), (2, .ref a2), (3, .ref a3), (4, .int a4)] (by decide) rfl dX9_findCrew_7 ?_
  refine pt_sub C [(0, .ref a0), (1, .ref a1), (2, .ref a2), (3, .ref a3), (4, .int a4), (5, .int 1)] [1, 2, 3, 4, 5, 0] rfl ?_
  refine ob hf (fun e13 g14 hf => ?_)
  refine l_X9_findCrew_L9 C a0 a1 a2 a3 a4 _ _ _ g14 ?_
  obtain rfl := Option.some.inj hf
  exact pt_vret C K (by decide) (by decide) dX9_findCrew_43
theorem con_X9_findCrew (l : Launch) (a0 : Nat) (a1 : Nat) (a2 : Nat) (a3 : Nat) (a4 : Int32) (h : AH) (q : AH) (hf : f_X9_findCrew a0 a1 a2 a3 a4 h = some q) : Con l yX9_findCrew cX9_findCrew 6 none rmX9_findCrew [.ref a0, .ref a1, .ref a2, .ref a3, .int a4] h none q := Con.of (by decide +kernel) (Nat.le_of_ble_eq_true rfl) (fun X C I K => w_X9_findCrew_0 C a0 a1 a2 a3 a4 h q hf K)
abbrev rmX11_best : Room := { frames := 6, cells := 0, slots := 0, locals := 147 }
theorem yn_X11_best : YN yX11_best 4 := by refine ⟨?_, ?_, ?_⟩ <;> decide +kernel
set_option maxRecDepth 100000 in
set_option maxHeartbeats 4000000 in
theorem w_X11_best_0 {X : MX} (C : CX X cX11_best 6 RX11 (some .int) rmX11_best) (a0 : Nat) (a1 : Int32) (a2 : Int32) (a3 : Int32) (a4 : Int32) (h : AH) (res : Int32 × AH) (hf : f_X11_best a0 a1 a2 a3 a4 h = some res) (K : ∀ (v : Int32) (h2 : AH), res = (v, h2) → PR X rmX11_best (some (.int v)) h2) : PT X 6 0 0 0 [(0, .ref a0), (1, .int a1), (2, .int a2), (3, .int a3), (4, .int a4)] [] h := by
  unfold f_X11_best at hf
  refine pt_aload_n C 0 rfl rfl dX11_best_0 ?_
  refine pt_iload_n C 1 rfl rfl dX11_best_1 ?_
  refine ob hf (fun _ g3 hf => ?_)
  refine ob hf (fun q1 g2 hf => ?_)
  refine pt_callV C (As := [.int a1]) (rest := []) (v := (some (va_rf q1.1))) (fun l => con_X11_songOf l a0 a1 h _ g2) tw_458 tw_455 tw_457 tp_3 kX11 g3 tw_1 yn_X11_songOf (by decide) (Nat.le_of_ble_eq_true rfl) dX11_best_2 rfl ?_
  show PT X 6 0 0 5 [(0, .ref a0), (1, .int a1), (2, .int a2), (3, .int a3), (4, .int a4)] [va_rf q1.1] q1.2
  refine pt_astoreQ C [(5, va_rf q1.1), (0, .ref a0), (1, .int a1), (2, .int a2), (3, .int a3), (4, .int a4)] (by decide) rfl dX11_best_5 ?_
  refine pt_aloadQ C 0 rfl dX11_best_7 ?_
  generalize q1.1 = o4 at hf ⊢
  cases o4 with
  | none =>
    dsimp only [Option.elim] at hf
    refine pt_ifnull0 C (tgt := 54) (by decide) dX11_best_9 ?_
    refine pt_bipush C (v := (-2)) (by decide) dX11_best_54 ?_
    exact pt_iret C (K _ _ (Option.some.inj hf).symm) (by decide) (by decide) dX11_best_56
  | some a5 =>
    dsimp only [Option.elim] at hf
    refine pt_ifnull1 C dX11_best_9 ?_
    refine pt_iload_n C 3 rfl rfl dX11_best_12 ?_
    refine pt_iconst C (v := 0) (by decide) dX11_best_13 ?_
    refine pt_aload_n C 1 rfl rfl dX11_best_14 ?_
    refine ob hf (fun v6 g7 hf => ?_)
    refine pt_getR C kX11 4 (by decide) tw_311 (Or.inl rfl) g7 dX11_best_15 ?_
    refine ob hf (fun _ g10 hf => ?_)
    refine ob hf (fun q8 g9 hf => ?_)
    refine pt_callV C (As := []) (rest := [.int 0, .int a2]) (v := (some (.int q8.1))) (fun l => con_Jx4a65c_size_8abf5 l v6 q1.2 _ g9) tw_363 tw_360 tw_361 tw_362 kJx4a65c g10 tw_5 yn_Jx4a65c_size_8abf5 (by decide) (Nat.le_of_ble_eq_true rfl) dX11_best_18 rfl ?_
    show PT X 6 0 0 21 [(5, .ref a5), (0, .ref a0), (1, .int a1), (2, .int a2), (3, .int a3), (4, .int a4)] [.int q8.1, .int 0, .int a2] q8.2
    refine pt_iconst C (v := 1) (by decide) dX11_best_21 ?_
    refine pt_isub C dX11_best_22 ?_
    refine ob hf (fun q11 g12 hf => ?_)
    refine pt_callS C (As := [.int a2, .int 0, .int (q8.1 - 1)]) (rest := []) (v := (some (.int q11.1))) (fun l => con_X11_within l a2 0 (q8.1 - 1) q8.2 _ g12) tw_461 tw_459 tw_460 tw_1 yn_X11_within (by decide) (Nat.le_of_ble_eq_true rfl) dX11_best_23 rfl ?_
    show PT X 6 0 0 26 [(5, .ref a5), (0, .ref a0), (1, .int a1), (2, .int a2), (3, .int a3), (4, .int a4)] [.int q11.1] q11.2
    refine pt_if_eq C (tgt := 54) (by decide) dX11_best_26 (fun c13 => ?_) (fun c13 => ?_)
    · rw [if_pos c13] at hf
      refine pt_bipush C (v := (-2)) (by decide) dX11_best_54 ?_
      exact pt_iret C (K _ _ (Option.some.inj hf).symm) (by decide) (by decide) dX11_best_56
    · rw [if_neg c13] at hf
      refine pt_iload_n C 4 rfl rfl dX11_best_29 ?_
      refine pt_iconst C (v := 1) (by decide) dX11_best_30 ?_
      refine pt_aload_n C 1 rfl rfl dX11_best_31 ?_
      refine ob hf (fun v14 g15 hf => ?_)
      refine pt_getR C kX11 2 (by decide) tw_309 (Or.inl rfl) g15 dX11_best_32 ?_
      refine ob hf (fun v16 g17 hf => ?_)
      refine pt_getI C kX0 6 (by decide) tw_106 (Or.inl rfl) g17 dX11_best_35 ?_
      refine ob hf (fun q18 g19 hf => ?_)
      refine pt_callS C (As := [.int a3, .int 1, .int v16]) (rest := []) (v := (some (.int q18.1))) (fun l => con_X11_within l a3 1 v16 q11.2 _ g19) tw_461 tw_459 tw_460 tw_1 yn_X11_within (by decide) (Nat.le_of_ble_eq_true rfl) dX11_best_38 rfl ?_
      show PT X 6 0 0 41 [(5, .ref a5), (0, .ref a0), (1, .int a1), (2, .int a2), (3, .int a3), (4, .int a4)] [.int q18.1] q18.2
      refine pt_if_eq C (tgt := 54) (by decide) dX11_best_41 (fun c20 => ?_) (fun c20 => ?_)
      · rw [if_pos c20] at hf
        refine pt_bipush C (v := (-2)) (by decide) dX11_best_54 ?_
        exact pt_iret C (K _ _ (Option.some.inj hf).symm) (by decide) (by decide) dX11_best_56
      · rw [if_neg c20] at hf
        refine pt_iload C 5 rfl dX11_best_44 ?_
        refine pt_iconst C (v := 0) (by decide) dX11_best_46 ?_
        refine pt_iconst C (v := 2) (by decide) dX11_best_47 ?_
        refine ob hf (fun q21 g22 hf => ?_)
        refine pt_callS C (As := [.int a4, .int 0, .int 2]) (rest := []) (v := (some (.int q21.1))) (fun l => con_X11_within l a4 0 2 q18.2 _ g22) tw_461 tw_459 tw_460 tw_1 yn_X11_within (by decide) (Nat.le_of_ble_eq_true rfl) dX11_best_48 rfl ?_
        show PT X 6 0 0 51 [(5, .ref a5), (0, .ref a0), (1, .int a1), (2, .int a2), (3, .int a3), (4, .int a4)] [.int q21.1] q21.2
        refine pt_if_ne C (tgt := 57) (by decide) dX11_best_51 (fun c23 => ?_) (fun c23 => ?_)
        · rw [if_neg c23] at hf
          refine pt_aload_n C 1 rfl rfl dX11_best_57 ?_
          refine ob hf (fun v24 g25 hf => ?_)
          refine pt_getR C kX11 6 (by decide) tw_313 (Or.inl rfl) g25 dX11_best_58 ?_
          refine pt_aload_n C 1 rfl rfl dX11_best_61 ?_
          refine ob hf (fun v26 g27 hf => ?_)
          refine pt_getR C kX11 2 (by decide) tw_309 (Or.inl rfl) g27 dX11_best_62 ?_
          refine pt_aload C 0 rfl dX11_best_65 ?_
          refine pt_aload_n C 1 rfl rfl dX11_best_67 ?_
          refine ob hf (fun v28 g29 hf => ?_)
          refine pt_getR C kX11 4 (by decide) tw_311 (Or.inl rfl) g29 dX11_best_68 ?_
          refine pt_iload_n C 3 rfl rfl dX11_best_71 ?_
          refine ob hf (fun _ g32 hf => ?_)
          refine ob hf (fun q30 g31 hf => ?_)
          refine pt_callV C (As := [.int a2]) (rest := [.ref a5, .ref v26, .ref v24]) (v := (some (.ref q30.1))) (fun l => con_Jx4a65c_get_915e3 l v28 a2 q21.2 _ g31) tw_465 tw_462 tw_463 tw_464 kJx4a65c g32 tw_5 yn_Jx4a65c_get_915e3 (by decide) (Nat.le_of_ble_eq_true rfl) dX11_best_72 rfl ?_
          show PT X 6 0 0 75 [(5, .ref a5), (0, .ref a0), (1, .int a1), (2, .int a2), (3, .int a3), (4, .int a4)] [.ref q30.1, .ref a5, .ref v26, .ref v24] q30.2
          refine ob hf (fun _ g33 hf => ?_)
          refine pt_cast C kX8 tw_545 g33 dX11_best_75 ?_
          refine pt_iload_n C 4 rfl rfl dX11_best_78 ?_
          refine ob hf (fun _ g36 hf => ?_)
          refine ob hf (fun q34 g35 hf => ?_)
          refine pt_callV C (As := [.ref v26, .ref a5, .ref q30.1, .int a3]) (rest := []) (v := none) (fun l => con_X9_findCrew l v24 v26 a5 q30.1 a3 q30.2 _ g35) tw_655 tw_652 tw_653 tw_654 kX9 g36 tw_8 yn_X9_findCrew (by decide) (Nat.le_of_ble_eq_true rfl) dX11_best_79 rfl ?_
          show PT X 6 0 0 82 [(5, .ref a5), (0, .ref a0), (1, .int a1), (2, .int a2), (3, .int a3), (4, .int a4)] [] q34
          refine pt_aload_n C 1 rfl rfl dX11_best_82 ?_
          refine ob hf (fun v37 g38 hf => ?_)
          refine pt_getR C kX11 6 (by decide) tw_313 (Or.inl rfl) g38 dX11_best_83 ?_
          refine ob hf (fun v39 g40 hf => ?_)
          refine pt_getI C kX9 7 (by decide) tw_195 (Or.inl rfl) g40 dX11_best_86 ?_
          refine pt_ldc C tw_643 dX11_best_89 ?_
          refine pt_icmp_ne C (tgt := 96) (by decide) dX11_best_91 (fun c41 => ?_) (fun c41 => ?_)
          · rw [if_neg c41] at hf
            refine pt_iload C 5 rfl dX11_best_96 ?_
            by_cases c42 : a4 = 0
            · rw [if_pos c42] at hf
              refine pt_look C (tgt := 124) (off := 26) (by decide) (by rw [c42]; decide) (by decide) dX11_best_98 ?_
              refine pt_aload_n C 1 rfl rfl dX11_best_124 ?_
              refine ob hf (fun v43 g44 hf => ?_)
              refine pt_getR C kX11 6 (by decide) tw_313 (Or.inl rfl) g44 dX11_best_125 ?_
              refine ob hf (fun v45 g46 hf => ?_)
              refine pt_getI C kX9 6 (by decide) tw_193 (Or.inl rfl) g46 dX11_best_128 ?_
              exact pt_iret C (K _ _ (Option.some.inj hf).symm) (by decide) (by decide) dX11_best_131
            · rw [if_neg c42] at hf
              by_cases c47 : a4 = 1
              · rw [if_pos c47] at hf
                refine pt_look C (tgt := 132) (off := 34) (by decide) (by rw [c47]; decide) (by decide) dX11_best_98 ?_
                refine pt_aload_n C 1 rfl rfl dX11_best_132 ?_
                refine ob hf (fun v48 g49 hf => ?_)
                refine pt_getR C kX11 6 (by decide) tw_313 (Or.inl rfl) g49 dX11_best_133 ?_
                refine ob hf (fun v50 g51 hf => ?_)
                refine pt_getI C kX9 7 (by decide) tw_195 (Or.inl rfl) g51 dX11_best_136 ?_
                exact pt_iret C (K _ _ (Option.some.inj hf).symm) (by decide) (by decide) dX11_best_139
              · rw [if_neg c47] at hf
                refine pt_look C (tgt := 140) (off := 42) (by decide) (look_out2 c42 c47) (by decide) dX11_best_98 ?_
                refine pt_aload_n C 1 rfl rfl dX11_best_140 ?_
                refine ob hf (fun v52 g53 hf => ?_)
                refine pt_getR C kX11 6 (by decide) tw_313 (Or.inl rfl) g53 dX11_best_141 ?_
                refine ob hf (fun v54 g55 hf => ?_)
                refine pt_getI C kX9 8 (by decide) tw_197 (Or.inl rfl) g55 dX11_best_144 ?_
                exact pt_iret C (K _ _ (Option.some.inj hf).symm) (by decide) (by decide) dX11_best_147
          · rw [if_pos c41] at hf
            refine pt_iconst C (v := (-1)) (by decide) dX11_best_94 ?_
            exact pt_iret C (K _ _ (Option.some.inj hf).symm) (by decide) (by decide) dX11_best_95
        · rw [if_pos c23] at hf
          refine pt_bipush C (v := (-2)) (by decide) dX11_best_54 ?_
          exact pt_iret C (K _ _ (Option.some.inj hf).symm) (by decide) (by decide) dX11_best_56
theorem con_X11_best (l : Launch) (a0 : Nat) (a1 : Int32) (a2 : Int32) (a3 : Int32) (a4 : Int32) (h : AH) (q : Int32 × AH) (hf : f_X11_best a0 a1 a2 a3 a4 h = some q) : Con l yX11_best cX11_best 6 (some .int) rmX11_best [.ref a0, .int a1, .int a2, .int a3, .int a4] h (some (.int q.1)) q.2 := Con.of (by decide +kernel) (Nat.le_of_ble_eq_true rfl) (fun X C I K => w_X11_best_0 C a0 a1 a2 a3 a4 h q hf (fun v h2 e => by cases e; exact K))
abbrev rmX11_between : Room := { frames := 1, cells := 0, slots := 0, locals := 22 }
theorem yn_X11_between : YN yX11_between 1 := by refine ⟨?_, ?_, ?_⟩ <;> decide +kernel
set_option maxRecDepth 100000 in
set_option maxHeartbeats 4000000 in
theorem w_X11_between_0 {X : MX} (C : CX X cX11_between 3 RX11 (some .int) rmX11_between) (a0 : Nat) (a1 : Int32) (h : AH) (res : Int32 × AH) (hf : f_X11_between a0 a1 h = some res) (K : ∀ (v : Int32) (h2 : AH), res = (v, h2) → PR X rmX11_between (some (.int v)) h2) : PT X 3 0 0 0 [(0, .ref a0), (1, .int a1)] [] h := by
  unfold f_X11_between at hf
  refine pt_iload_n C 1 rfl rfl dX11_between_0 ?_
  refine pt_iconst C (v := 0) (by decide) dX11_between_1 ?_
  refine pt_bipush C (v := 50) (by decide) dX11_between_2 ?_
  refine ob hf (fun q1 g2 hf => ?_)
  refine pt_callS C (As := [.int a1, .int 0, .int 50]) (rest := []) (v := (some (.int q1.1))) (fun l => con_X11_within l a1 0 50 h _ g2) tw_461 tw_459 tw_460 tw_1 yn_X11_within (by decide) (Nat.le_of_ble_eq_true rfl) dX11_between_4 rfl ?_
  show PT X 3 0 0 7 [(0, .ref a0), (1, .int a1)] [.int q1.1] q1.2
  refine pt_if_ne C (tgt := 13) (by decide) dX11_between_7 (fun c3 => ?_) (fun c3 => ?_)
  · rw [if_neg c3] at hf
    refine pt_aload_n C 0 rfl rfl dX11_between_13 ?_
    refine ob hf (fun v4 g5 hf => ?_)
    refine pt_getI C kX11 5 (by decide) tw_312 (Or.inl rfl) g5 dX11_between_14 ?_
    refine pt_istore_n C [(2, .int v4), (0, .ref a0), (1, .int a1)] rfl (by decide) rfl dX11_between_17 ?_
    refine pt_aload_n C 1 rfl rfl dX11_between_18 ?_
    refine pt_iload_n C 2 rfl rfl dX11_between_19 ?_
    refine ob hf (fun h6 g7 hf => ?_)
    refine pt_put C kX11 5 (by decide) tw_312 (Or.inl rfl) rfl rfl rfl g7 dX11_between_20 ?_
    refine pt_aload_n C 1 rfl rfl dX11_between_23 ?_
    refine ob hf (fun v8 g9 hf => ?_)
    refine pt_getR C kX11 6 (by decide) tw_313 (Or.inl rfl) g9 dX11_between_24 ?_
    refine pt_iconst C (v := 0) (by decide) dX11_between_27 ?_
    refine ob hf (fun h10 g11 hf => ?_)
    refine pt_put C kX9 5 (by decide) tw_191 (Or.inl rfl) rfl (by decide) rfl g11 dX11_between_28 ?_
    refine pt_iload_n C 0 rfl rfl dX11_between_31 ?_
    exact pt_iret C (K _ _ (Option.some.inj hf).symm) (by decide) (by decide) dX11_between_32
  · rw [if_pos c3] at hf
    refine pt_bipush C (v := (-2)) (by decide) dX11_between_10 ?_
    exact pt_iret C (K _ _ (Option.some.inj hf).symm) (by decide) (by decide) dX11_between_12
theorem con_X11_between (l : Launch) (a0 : Nat) (a1 : Int32) (h : AH) (q : Int32 × AH) (hf : f_X11_between a0 a1 h = some q) : Con l yX11_between cX11_between 3 (some .int) rmX11_between [.ref a0, .int a1] h (some (.int q.1)) q.2 := Con.of (by decide +kernel) (Nat.le_of_ble_eq_true rfl) (fun X C I K => w_X11_between_0 C a0 a1 h q hf (fun v h2 e => by cases e; exact K))
