abbrev rmX6_take : Room := { frames := 1, cells := 0, slots := 0, locals := 22 }
theorem yn_X6_take : YN yX6_take 1 := by refine ⟨?_, ?_, ?_⟩ <;> decide +kernel
set_option maxRecDepth 100000 in
set_option maxHeartbeats 4000000 in
theorem w_X6_take_0 {X : MX} (C : CX X cX6_take 2 RX6 none rmX6_take) (a0 : Nat) (a1 : Nat) (h : AH) (res : AH) (hf : f_X6_take a0 a1 h = some res) (K : PR X rmX6_take none res) : PT X 2 0 0 0 [(0, .ref a0), (1, .ref a1)] [] h := by
  unfold f_X6_take at hf
  refine pt_aload_n C 1 rfl rfl dX6_take_0 ?_
  refine ob hf (fun v1 g2 hf => ?_)
  refine pt_getR C kX6 0 (by decide) tw_38 (Or.inl rfl) g2 dX6_take_1 ?_
  refine pt_aload_n C 0 rfl rfl dX6_take_4 ?_
  refine ob hf (fun v3 g4 hf => ?_)
  refine pt_getR C kX6 0 (by decide) tw_38 (Or.inl rfl) g4 dX6_take_5 ?_
  refine ob hf (fun q5 g6 hf => ?_)
  refine pt_callSN C (As := [.ref v1, .ref v3]) (rest := []) (v := none) (fun l => con_X11_copy l v1 v3 h _ g6) tw_389 (host := "HeaveSongs") (by decide +kernel) tw_388 tw_1 yn_X11_copy (by decide) (Nat.le_of_ble_eq_true rfl) dX6_take_8 rfl ?_
  show PT X 2 0 0 11 [(0, .ref a0), (1, .ref a1)] [] q5
  refine pt_aload_n C 0 rfl rfl dX6_take_11 ?_
  refine pt_aload_n C 1 rfl rfl dX6_take_12 ?_
  refine ob hf (fun v7 g8 hf => ?_)
  refine pt_getI C kX6 1 (by decide) tw_43 (Or.inl rfl) g8 dX6_take_13 ?_
  refine ob hf (fun h9 g10 hf => ?_)
  refine pt_put C kX6 1 (by decide) tw_43 (Or.inl rfl) rfl rfl rfl g10 dX6_take_16 ?_
  refine pt_aload_n C 1 rfl rfl dX6_take_19 ?_
  refine pt_iconst C (v := 0) (by decide) dX6_take_20 ?_
  refine ob hf (fun h11 g12 hf => ?_)
  refine pt_put C kX6 1 (by decide) tw_43 (Or.inl rfl) rfl rfl rfl g12 dX6_take_21 ?_
  obtain rfl := Option.some.inj hf
  exact pt_vret C K (by decide) (by decide) dX6_take_24
theorem con_X6_take (l : Launch) (a0 : Nat) (a1 : Nat) (h : AH) (q : AH) (hf : f_X6_take a0 a1 h = some q) : Con l yX6_take cX6_take 2 none rmX6_take [.ref a0, .ref a1] h none q := Con.of (by decide +kernel) (Nat.le_of_ble_eq_true rfl) (fun X C I K => w_X6_take_0 C a0 a1 h q hf K)
abbrev rmX11_refrain : Room := { frames := 4, cells := 0, slots := 0, locals := 85 }
theorem yn_X11_refrain : YN yX11_refrain 1 := by refine ⟨?_, ?_, ?_⟩ <;> decide +kernel
set_option maxRecDepth 100000 in
set_option maxHeartbeats 4000000 in
theorem w_X11_refrain_0 {X : MX} (C : CX X cX11_refrain 3 RX11 (some .int) rmX11_refrain) (a0 : Nat) (a1 : Int32) (h : AH) (res : Int32 × AH) (hf : f_X11_refrain a0 a1 h = some res) (K : ∀ (v : Int32) (h2 : AH), res = (v, h2) → PR X rmX11_refrain (some (.int v)) h2) : PT X 3 0 0 0 [(0, .ref a0), (1, .int a1)] [] h := by
  unfold f_X11_refrain at hf
  refine pt_aload_n C 0 rfl rfl dX11_refrain_0 ?_
  refine pt_iload_n C 1 rfl rfl dX11_refrain_1 ?_
  refine ob hf (fun _ g3 hf => ?_)
  refine ob hf (fun q1 g2 hf => ?_)
  refine pt_callV C (As := [.int a1]) (rest := []) (v := (some (va_rf q1.1))) (fun l => con_X11_songOf l a0 a1 h _ g2) tw_458 tw_455 tw_457 tp_3 kX11 g3 tw_1 yn_X11_songOf (by decide) (Nat.le_of_ble_eq_true rfl) dX11_refrain_2 rfl ?_
  show PT X 3 0 0 5 [(0, .ref a0), (1, .int a1)] [va_rf q1.1] q1.2
  refine pt_astore_nQ C [(2, va_rf q1.1), (0, .ref a0), (1, .int a1)] rfl (by decide) rfl dX11_refrain_5 ?_
  refine pt_aload_nQ C 0 rfl rfl dX11_refrain_6 ?_
  generalize q1.1 = o4 at hf ⊢
  cases o4 with
  | none =>
    dsimp only [Option.elim] at hf
    refine pt_ifnonnull0 C dX11_refrain_7 ?_
    refine pt_bipush C (v := (-2)) (by decide) dX11_refrain_10 ?_
    exact pt_iret C (K _ _ (Option.some.inj hf).symm) (by decide) (by decide) dX11_refrain_12
  | some a5 =>
    dsimp only [Option.elim] at hf
    refine pt_ifnonnull1 C (tgt := 13) (by decide) dX11_refrain_7 ?_
    refine pt_aload_n C 1 rfl rfl dX11_refrain_13 ?_
    refine ob hf (fun v6 g7 hf => ?_)
    refine pt_getR C kX11 0 (by decide) tw_307 (Or.inl rfl) g7 dX11_refrain_14 ?_
    refine ob hf (fun v8 g9 hf => ?_)
    refine pt_getI C kX6 1 (by decide) tw_46 (Or.inl rfl) g9 dX11_refrain_17 ?_
    refine pt_bipush C (v := 12) (by decide) dX11_refrain_20 ?_
    refine pt_icmp_le C (tgt := 28) (by decide) dX11_refrain_22 (fun c10 => ?_) (fun c10 => ?_)
    · rw [if_pos c10] at hf
      refine pt_aload_n C 0 rfl rfl dX11_refrain_28 ?_
      refine ob hf (fun v11 g12 hf => ?_)
      refine pt_getR C kX7 1 (by decide) tw_377 (Or.inl rfl) g12 dX11_refrain_29 ?_
      refine pt_aload_n C 1 rfl rfl dX11_refrain_32 ?_
      refine ob hf (fun v13 g14 hf => ?_)
      refine pt_getR C kX11 0 (by decide) tw_307 (Or.inl rfl) g14 dX11_refrain_33 ?_
      refine ob hf (fun _ g17 hf => ?_)
      refine ob hf (fun q15 g16 hf => ?_)
      refine pt_callV C (As := [.ref v13]) (rest := []) (v := none) (fun l => con_X6_take l v11 v13 q1.2 _ g16) tw_386 tw_383 tw_384 tw_385 kX6 g17 tw_2 yn_X6_take (by decide) (Nat.le_of_ble_eq_true rfl) dX11_refrain_36 rfl ?_
      show PT X 3 0 0 39 [(2, .ref a5), (0, .ref a0), (1, .int a1)] [] q15
      refine pt_aload_n C 1 rfl rfl dX11_refrain_39 ?_
      refine ob hf (fun v18 g19 hf => ?_)
      refine pt_getR C kX11 6 (by decide) tw_313 (Or.inl rfl) g19 dX11_refrain_40 ?_
      refine pt_iconst C (v := 0) (by decide) dX11_refrain_43 ?_
      refine ob hf (fun h20 g21 hf => ?_)
      refine pt_put C kX9 5 (by decide) tw_191 (Or.inl rfl) rfl (by decide) rfl g21 dX11_refrain_44 ?_
      refine pt_aload_n C 0 rfl rfl dX11_refrain_47 ?_
      refine ob hf (fun v22 g23 hf => ?_)
      refine pt_getR C kX7 1 (by decide) tw_377 (Or.inl rfl) g23 dX11_refrain_48 ?_
      refine ob hf (fun v24 g25 hf => ?_)
      refine pt_getI C kX6 1 (by decide) tw_46 (Or.inl rfl) g25 dX11_refrain_51 ?_
      exact pt_iret C (K _ _ (Option.some.inj hf).symm) (by decide) (by decide) dX11_refrain_54
    · rw [if_neg c10] at hf
      refine pt_bipush C (v := (-3)) (by decide) dX11_refrain_25 ?_
      exact pt_iret C (K _ _ (Option.some.inj hf).symm) (by decide) (by decide) dX11_refrain_27
theorem con_X11_refrain (l : Launch) (a0 : Nat) (a1 : Int32) (h : AH) (q : Int32 × AH) (hf : f_X11_refrain a0 a1 h = some q) : Con l yX11_refrain cX11_refrain 3 (some .int) rmX11_refrain [.ref a0, .int a1] h (some (.int q.1)) q.2 := Con.of (by decide +kernel) (Nat.le_of_ble_eq_true rfl) (fun X C I K => w_X11_refrain_0 C a0 a1 h q hf (fun v h2 e => by cases e; exact K))
abbrev rmX11_rest : Room := { frames := 0, cells := 0, slots := 0, locals := 0 }
theorem yn_X11_rest : YN yX11_rest 0 := by refine ⟨?_, ?_, ?_⟩ <;> decide +kernel
set_option maxRecDepth 100000 in
set_option maxHeartbeats 4000000 in
theorem w_X11_rest_0 {X : MX} (C : CX X cX11_rest 2 RX11 (some .int) rmX11_rest) (a0 : Nat) (h : AH) (res : Int32 × AH) (hf : f_X11_rest a0 h = some res) (K : ∀ (v : Int32) (h2 : AH), res = (v, h2) → PR X rmX11_rest (some (.int v)) h2) : PT X 2 0 0 0 [(0, .ref a0)] [] h := by
  unfold f_X11_rest at hf
  refine pt_aload_n C 0 rfl rfl dX11_rest_0 ?_
  refine ob hf (fun v1 g2 hf => ?_)
  refine pt_getR C kX11 0 (by decide) tw_307 (Or.inl rfl) g2 dX11_rest_1 ?_
  refine ob hf (fun v3 g4 hf => ?_)
  refine pt_getI C kX6 1 (by decide) tw_46 (Or.inl rfl) g4 dX11_rest_4 ?_
  refine pt_istore_n C [(1, .int v3), (0, .ref a0)] rfl (by decide) rfl dX11_rest_7 ?_
  refine pt_aload_n C 1 rfl rfl dX11_rest_8 ?_
  refine ob hf (fun v5 g6 hf => ?_)
  refine pt_getR C kX11 0 (by decide) tw_307 (Or.inl rfl) g6 dX11_rest_9 ?_
  refine pt_iconst C (v := 0) (by decide) dX11_rest_12 ?_
  refine ob hf (fun h7 g8 hf => ?_)
  refine pt_put C kX6 1 (by decide) tw_46 (Or.inl rfl) rfl rfl rfl g8 dX11_rest_13 ?_
  refine pt_iload_n C 0 rfl rfl dX11_rest_16 ?_
  exact pt_iret C (K _ _ (Option.some.inj hf).symm) (by decide) (by decide) dX11_rest_17
theorem con_X11_rest (l : Launch) (a0 : Nat) (h : AH) (q : Int32 × AH) (hf : f_X11_rest a0 h = some q) : Con l yX11_rest cX11_rest 2 (some .int) rmX11_rest [.ref a0] h (some (.int q.1)) q.2 := Con.of (by decide +kernel) (Nat.le_of_ble_eq_true rfl) (fun X C I K => w_X11_rest_0 C a0 h q hf (fun v h2 e => by cases e; exact K))
abbrev rmX7_init : Room := { frames := 2, cells := 4, slots := 52, locals := 40 }
theorem yn_X7_init : YN yX7_init 0 := by refine ⟨?_, ?_, ?_⟩ <;> decide +kernel
set_option maxRecDepth 100000 in
set_option maxHeartbeats 4000000 in
theorem w_X7_init_0 {X : MX} (C : CX X cX7_init 1 RX7 none rmX7_init) (I : IN X) (a0 : Nat) (h : AH) (res : AH) (hf : f_X7_init a0 h = some res) (K : PR X rmX7_init none res) : PT X 1 0 0 0 [(0, .ref a0)] [] h := by
  unfold f_X7_init at hf
  refine pt_aload_n C 0 rfl rfl dX7_init_0 ?_
  refine pt_objInit C tw_369 tw_30 tw_31 (by decide) (Nat.le_of_ble_eq_true rfl) dX7_init_1 ?_
  refine pt_aload_n C 0 rfl rfl dX7_init_4 ?_
  refine pt_new C kX6 tw_370 tw_33 tw_2 [.null, .int 0] (fun j hj => match j, hj with | 0, _ => rfl | 1, _ => rfl) (by decide) (by decide) dX7_init_5 ?_
  refine pt_dup C rfl dX7_init_8 ?_
  refine ob hf (fun q1 g2 hf => ?_)
  refine pt_callIN C (As := []) (rest := [.ref h.1, .ref a0]) (v := none) (fun l => con_X6_init l h.1 (hnew h (.inr (7, [.null, .int 0]))) _ g2) tw_36 (host := "HeaveSongs") (by decide +kernel) tw_35 rfl tw_2 yn_X6_init (by decide) (Nat.le_of_ble_eq_true rfl) dX7_init_9 rfl ?_
  show PT X 1 2 26 12 [(0, .ref a0)] [.ref h.1, .ref a0] q1
  refine ob hf (fun h3 g4 hf => ?_)
  refine pt_putF C I kX7 0 (by decide) tw_372 (Or.inl rfl) rfl rfl rfl rfl g4 dX7_init_12 ?_
  refine pt_aload_n C 0 rfl rfl dX7_init_15 ?_
  refine pt_new C kX6 tw_370 tw_33 tw_2 [.null, .int 0] (fun j hj => match j, hj with | 0, _ => rfl | 1, _ => rfl) (by decide) (by decide) dX7_init_16 ?_
  refine pt_dup C rfl dX7_init_19 ?_
  refine ob hf (fun q5 g6 hf => ?_)
  refine pt_callIN C (As := []) (rest := [.ref h3.1, .ref a0]) (v := none) (fun l => con_X6_init l h3.1 (hnew h3 (.inr (7, [.null, .int 0]))) _ g6) tw_36 (host := "HeaveSongs") (by decide +kernel) tw_35 rfl tw_2 yn_X6_init (by decide) (Nat.le_of_ble_eq_true rfl) dX7_init_20 rfl ?_
  show PT X 1 4 52 23 [(0, .ref a0)] [.ref h3.1, .ref a0] q5
  refine ob hf (fun h7 g8 hf => ?_)
  refine pt_putF C I kX7 1 (by decide) tw_375 (Or.inl rfl) rfl rfl rfl rfl g8 dX7_init_23 ?_
  obtain rfl := Option.some.inj hf
  exact pt_vret C K (by decide) (by decide) dX7_init_26
theorem con_X7_init (l : Launch) (a0 : Nat) (h : AH) (q : AH) (hf : f_X7_init a0 h = some q) : Con l yX7_init cX7_init 1 none rmX7_init [.ref a0] h none q := Con.of (by decide +kernel) (Nat.le_of_ble_eq_true rfl) (fun X C I K => w_X7_init_0 C (I rfl) a0 h q hf K)
abbrev rmX11_song : Room := { frames := 7, cells := 6, slots := 70, locals := 191 }
theorem yn_X11_song : YN yX11_song 0 := by refine ⟨?_, ?_, ?_⟩ <;> decide +kernel
set_option maxRecDepth 100000 in
set_option maxHeartbeats 4000000 in
theorem w_X11_song_0 {X : MX} (C : CX X cX11_song 2 RX11 (some .int) rmX11_song) (a0 : Nat) (h : AH) (res : Int32 × AH) (hf : f_X11_song a0 h = some res) (K : ∀ (v : Int32) (h2 : AH), res = (v, h2) → PR X rmX11_song (some (.int v)) h2) : PT X 2 0 0 0 [(0, .ref a0)] [] h := by
  unfold f_X11_song at hf
  refine pt_aload_n C 0 rfl rfl dX11_song_0 ?_
  refine ob hf (fun v1 g2 hf => ?_)
  refine pt_getR C kX11 0 (by decide) tw_307 (Or.inl rfl) g2 dX11_song_1 ?_
  refine ob hf (fun v3 g4 hf => ?_)
  refine pt_getI C kX6 1 (by decide) tw_46 (Or.inl rfl) g4 dX11_song_4 ?_
  refine pt_if_ne C (tgt := 13) (by decide) dX11_song_7 (fun c5 => ?_) (fun c5 => ?_)
  · rw [if_neg c5] at hf
    refine pt_aload_n C 0 rfl rfl dX11_song_13 ?_
    refine ob hf (fun v6 g7 hf => ?_)
    refine pt_getR C kX11 1 (by decide) tw_308 (Or.inl rfl) g7 dX11_song_14 ?_
    refine ob hf (fun _ g10 hf => ?_)
    refine ob hf (fun q8 g9 hf => ?_)
    refine pt_callV C (As := []) (rest := []) (v := (some (.int q8.1))) (fun l => con_Jx4a65c_size_8abf5 l v6 h _ g9) tw_363 tw_360 tw_361 tw_362 kJx4a65c g10 tw_5 yn_Jx4a65c_size_8abf5 (by decide) (Nat.le_of_ble_eq_true rfl) dX11_song_17 rfl ?_
    show PT X 2 0 0 20 [(0, .ref a0)] [.int q8.1] q8.2
    refine pt_bipush C (v := 6) (by decide) dX11_song_20 ?_
    refine pt_icmp_lt C (tgt := 28) (by decide) dX11_song_22 (fun c11 => ?_) (fun c11 => ?_)
    · rw [if_pos c11] at hf
      refine pt_new C kX7 tw_364 tw_365 tw_14 [.null, .null] (fun j hj => match j, hj with | 0, _ => rfl | 1, _ => rfl) (by decide) (by decide) dX11_song_28 ?_
      refine pt_dup C rfl dX11_song_31 ?_
      refine ob hf (fun q12 g13 hf => ?_)
      refine pt_callIN C (As := []) (rest := [.ref q8.2.1]) (v := none) (fun l => con_X7_init l q8.2.1 (hnew q8.2 (.inr (8, [.null, .null]))) _ g13) tw_368 (host := "HeaveSongs") (by decide +kernel) tw_367 rfl tw_14 yn_X7_init (by decide) (Nat.le_of_ble_eq_true rfl) dX11_song_32 rfl ?_
      show PT X 2 5 54 35 [(0, .ref a0)] [.ref q8.2.1] q12
      refine pt_astore_n C [(1, .ref q8.2.1), (0, .ref a0)] rfl (by decide) rfl dX11_song_35 ?_
      refine pt_aload_n C 0 rfl rfl dX11_song_36 ?_
      refine ob hf (fun v14 g15 hf => ?_)
      refine pt_getR C kX7 0 (by decide) tw_374 (Or.inl rfl) g15 dX11_song_37 ?_
      refine pt_aload_n C 1 rfl rfl dX11_song_40 ?_
      refine ob hf (fun v16 g17 hf => ?_)
      refine pt_getR C kX11 0 (by decide) tw_307 (Or.inl rfl) g17 dX11_song_41 ?_
      refine ob hf (fun _ g20 hf => ?_)
      refine ob hf (fun q18 g19 hf => ?_)
      refine pt_callV C (As := [.ref v16]) (rest := []) (v := none) (fun l => con_X6_take l v14 v16 q12 _ g19) tw_386 tw_383 tw_384 tw_385 kX6 g20 tw_2 yn_X6_take (by decide) (Nat.le_of_ble_eq_true rfl) dX11_song_44 rfl ?_
      show PT X 2 5 54 47 [(1, .ref q8.2.1), (0, .ref a0)] [] q18
      refine pt_aload_n C 1 rfl rfl dX11_song_47 ?_
      refine ob hf (fun v21 g22 hf => ?_)
      refine pt_getR C kX11 1 (by decide) tw_308 (Or.inl rfl) g22 dX11_song_48 ?_
      refine pt_aload_n C 0 rfl rfl dX11_song_51 ?_
      refine ob hf (fun _ g25 hf => ?_)
      refine ob hf (fun q23 g24 hf => ?_)
      refine pt_callV C (As := [.ref q8.2.1]) (rest := []) (v := (some (.int q23.1))) (fun l => con_Jx4a65c_add_9ea2d l v21 q8.2.1 q18 _ g24) tw_393 tw_390 tw_391 tw_392 kJx4a65c g25 tw_5 yn_Jx4a65c_add_9ea2d (by decide) (Nat.le_of_ble_eq_true rfl) dX11_song_52 rfl ?_
      show PT X 2 6 70 55 [(1, .ref q8.2.1), (0, .ref a0)] [.int q23.1] q23.2
      refine pt_pop C rfl dX11_song_55 ?_
      refine pt_aload_n C 1 rfl rfl dX11_song_56 ?_
      refine ob hf (fun v26 g27 hf => ?_)
      refine pt_getR C kX11 6 (by decide) tw_313 (Or.inl rfl) g27 dX11_song_57 ?_
      refine pt_iconst C (v := 0) (by decide) dX11_song_60 ?_
      refine ob hf (fun h28 g29 hf => ?_)
      refine pt_put C kX9 5 (by decide) tw_191 (Or.inl rfl) rfl (by decide) rfl g29 dX11_song_61 ?_
      refine pt_aload_n C 1 rfl rfl dX11_song_64 ?_
      refine ob hf (fun v30 g31 hf => ?_)
      refine pt_getR C kX11 1 (by decide) tw_308 (Or.inl rfl) g31 dX11_song_65 ?_
      refine ob hf (fun _ g34 hf => ?_)
      refine ob hf (fun q32 g33 hf => ?_)
      refine pt_callV C (As := []) (rest := []) (v := (some (.int q32.1))) (fun l => con_Jx4a65c_size_8abf5 l v30 h28 _ g33) tw_363 tw_360 tw_361 tw_362 kJx4a65c g34 tw_5 yn_Jx4a65c_size_8abf5 (by decide) (Nat.le_of_ble_eq_true rfl) dX11_song_68 rfl ?_
      show PT X 2 6 70 71 [(1, .ref q8.2.1), (0, .ref a0)] [.int q32.1] q32.2
      refine pt_iconst C (v := 1) (by decide) dX11_song_71 ?_
      refine pt_isub C dX11_song_72 ?_
      exact pt_iret C (K _ _ (Option.some.inj hf).symm) (by decide) (by decide) dX11_song_73
    · rw [if_neg c11] at hf
      refine pt_bipush C (v := (-4)) (by decide) dX11_song_25 ?_
      exact pt_iret C (K _ _ (Option.some.inj hf).symm) (by decide) (by decide) dX11_song_27
  · rw [if_pos c5] at hf
    refine pt_bipush C (v := (-3)) (by decide) dX11_song_10 ?_
    exact pt_iret C (K _ _ (Option.some.inj hf).symm) (by decide) (by decide) dX11_song_12
theorem con_X11_song (l : Launch) (a0 : Nat) (h : AH) (q : Int32 × AH) (hf : f_X11_song a0 h = some q) : Con l yX11_song cX11_song 2 (some .int) rmX11_song [.ref a0] h (some (.int q.1)) q.2 := Con.of (by decide +kernel) (Nat.le_of_ble_eq_true rfl) (fun X C I K => w_X11_song_0 C a0 h q hf (fun v h2 e => by cases e; exact K))
abbrev rmX11_task : Room := { frames := 7, cells := 2, slots := 19, locals := 191 }
theorem yn_X11_task : YN yX11_task 3 := by refine ⟨?_, ?_, ?_⟩ <;> decide +kernel
set_option maxRecDepth 100000 in
set_option maxHeartbeats 4000000 in
theorem w_X11_task_0 {X : MX} (C : CX X cX11_task 4 RX11 (some .int) rmX11_task) (a0 : Nat) (a1 : Int32) (a2 : Int32) (a3 : Int32) (h : AH) (res : Int32 × AH) (hf : f_X11_task a0 a1 a2 a3 h = some res) (K : ∀ (v : Int32) (h2 : AH), res = (v, h2) → PR X rmX11_task (some (.int v)) h2) : PT X 4 0 0 0 [(0, .ref a0), (1, .int a1), (2, .int a2), (3, .int a3)] [] h := by
  unfold f_X11_task at hf
  refine pt_iload_n C 1 rfl rfl dX11_task_0 ?_
  refine pt_iload_n C 2 rfl rfl dX11_task_1 ?_
  refine pt_iload_n C 3 rfl rfl dX11_task_2 ?_
  refine ob hf (fun q1 g2 hf => ?_)
  refine pt_callS C (As := [.int a1, .int a2, .int a3]) (rest := []) (v := (some (.int q1.1))) (fun l => con_X11_isTask l a1 a2 a3 h _ g2) tw_536 tw_534 tw_535 tw_1 yn_X11_isTask (by decide) (Nat.le_of_ble_eq_true rfl) dX11_task_3 rfl ?_
  show PT X 4 0 0 6 [(0, .ref a0), (1, .int a1), (2, .int a2), (3, .int a3)] [.int q1.1] q1.2
  refine pt_if_ne C (tgt := 12) (by decide) dX11_task_6 (fun c3 => ?_) (fun c3 => ?_)
  · rw [if_neg c3] at hf
    refine pt_aload_n C 0 rfl rfl dX11_task_12 ?_
    refine ob hf (fun v4 g5 hf => ?_)
    refine pt_getR C kX11 4 (by decide) tw_311 (Or.inl rfl) g5 dX11_task_13 ?_
    refine ob hf (fun _ g8 hf => ?_)
    refine ob hf (fun q6 g7 hf => ?_)
    refine pt_callV C (As := []) (rest := []) (v := (some (.int q6.1))) (fun l => con_Jx4a65c_size_8abf5 l v4 q1.2 _ g7) tw_363 tw_360 tw_361 tw_362 kJx4a65c g8 tw_5 yn_Jx4a65c_size_8abf5 (by decide) (Nat.le_of_ble_eq_true rfl) dX11_task_16 rfl ?_
    show PT X 4 0 0 19 [(0, .ref a0), (1, .int a1), (2, .int a2), (3, .int a3)] [.int q6.1] q6.2
    refine pt_iconst C (v := 4) (by decide) dX11_task_19 ?_
    refine pt_icmp_lt C (tgt := 26) (by decide) dX11_task_20 (fun c9 => ?_) (fun c9 => ?_)
    · rw [if_pos c9] at hf
      refine pt_aload_n C 0 rfl rfl dX11_task_26 ?_
      refine ob hf (fun v10 g11 hf => ?_)
      refine pt_getR C kX11 4 (by decide) tw_311 (Or.inl rfl) g11 dX11_task_27 ?_
      refine pt_new C kX8 tw_545 tw_546 tw_21 [.int 0, .int 0, .int 0] (fun j hj => match j, hj with | 0, _ => rfl | 1, _ => rfl | 2, _ => rfl) (by decide) (by decide) dX11_task_30 ?_
      refine pt_dup C rfl dX11_task_33 ?_
      refine pt_iload_n C 1 rfl rfl dX11_task_34 ?_
      refine pt_iload_n C 2 rfl rfl dX11_task_35 ?_
      refine pt_iload_n C 3 rfl rfl dX11_task_36 ?_
      refine ob hf (fun q12 g13 hf => ?_)
      refine pt_callI C (As := [.int a1, .int a2, .int a3]) (rest := [.ref q6.2.1, .ref v10]) (v := none) (fun l => con_X8_init l q6.2.1 a1 a2 a3 (hnew q6.2 (.inr (9, [.int 0, .int 0, .int 0]))) _ g13) tw_549 tw_547 tw_548 rfl tw_21 yn_X8_init (by decide) (Nat.le_of_ble_eq_true rfl) dX11_task_37 rfl ?_
      show PT X 4 1 3 40 [(0, .ref a0), (1, .int a1), (2, .int a2), (3, .int a3)] [.ref q6.2.1, .ref v10] q12
      refine ob hf (fun _ g16 hf => ?_)
      refine ob hf (fun q14 g15 hf => ?_)
      refine pt_callV C (As := [.ref q6.2.1]) (rest := []) (v := (some (.int q14.1))) (fun l => con_Jx4a65c_add_9ea2d l v10 q6.2.1 q12 _ g15) tw_393 tw_390 tw_391 tw_392 kJx4a65c g16 tw_5 yn_Jx4a65c_add_9ea2d (by decide) (Nat.le_of_ble_eq_true rfl) dX11_task_40 rfl ?_
      show PT X 4 2 19 43 [(0, .ref a0), (1, .int a1), (2, .int a2), (3, .int a3)] [.int q14.1] q14.2
      refine pt_pop C rfl dX11_task_43 ?_
      refine pt_aload_n C 0 rfl rfl dX11_task_44 ?_
      refine ob hf (fun v17 g18 hf => ?_)
      refine pt_getR C kX11 6 (by decide) tw_313 (Or.inl rfl) g18 dX11_task_45 ?_
      refine pt_iconst C (v := 0) (by decide) dX11_task_48 ?_
      refine ob hf (fun h19 g20 hf => ?_)
      refine pt_put C kX9 5 (by decide) tw_191 (Or.inl rfl) rfl (by decide) rfl g20 dX11_task_49 ?_
      refine pt_aload_n C 0 rfl rfl dX11_task_52 ?_
      refine ob hf (fun v21 g22 hf => ?_)
      refine pt_getR C kX11 4 (by decide) tw_311 (Or.inl rfl) g22 dX11_task_53 ?_
      refine ob hf (fun _ g25 hf => ?_)
      refine ob hf (fun q23 g24 hf => ?_)
      refine pt_callV C (As := []) (rest := []) (v := (some (.int q23.1))) (fun l => con_Jx4a65c_size_8abf5 l v21 h19 _ g24) tw_363 tw_360 tw_361 tw_362 kJx4a65c g25 tw_5 yn_Jx4a65c_size_8abf5 (by decide) (Nat.le_of_ble_eq_true rfl) dX11_task_56 rfl ?_
      show PT X 4 2 19 59 [(0, .ref a0), (1, .int a1), (2, .int a2), (3, .int a3)] [.int q23.1] q23.2
      refine pt_iconst C (v := 1) (by decide) dX11_task_59 ?_
      refine pt_isub C dX11_task_60 ?_
      exact pt_iret C (K _ _ (Option.some.inj hf).symm) (by decide) (by decide) dX11_task_61
    · rw [if_neg c9] at hf
      refine pt_bipush C (v := (-4)) (by decide) dX11_task_23 ?_
      exact pt_iret C (K _ _ (Option.some.inj hf).symm) (by decide) (by decide) dX11_task_25
  · rw [if_pos c3] at hf
    refine pt_bipush C (v := (-2)) (by decide) dX11_task_9 ?_
    exact pt_iret C (K _ _ (Option.some.inj hf).symm) (by decide) (by decide) dX11_task_11
theorem con_X11_task (l : Launch) (a0 : Nat) (a1 : Int32) (a2 : Int32) (a3 : Int32) (h : AH) (q : Int32 × AH) (hf : f_X11_task a0 a1 a2 a3 h = some q) : Con l yX11_task cX11_task 4 (some .int) rmX11_task [.ref a0, .int a1, .int a2, .int a3] h (some (.int q.1)) q.2 := Con.of (by decide +kernel) (Nat.le_of_ble_eq_true rfl) (fun X C I K => w_X11_task_0 C a0 a1 a2 a3 h q hf (fun v h2 e => by cases e; exact K))
abbrev rmX11_tree : Room := { frames := 5, cells := 0, slots := 0, locals := 122 }
theorem yn_X11_tree : YN yX11_tree 0 := by refine ⟨?_, ?_, ?_⟩ <;> decide +kernel
set_option maxRecDepth 100000 in
set_option maxHeartbeats 4000000 in
theorem w_X11_tree_0 {X : MX} (C : CX X cX11_tree 1 RX11 (some .int) rmX11_tree) (a0 : Nat) (h : AH) (res : Int32 × AH) (hf : f_X11_tree a0 h = some res) (K : ∀ (v : Int32) (h2 : AH), res = (v, h2) → PR X rmX11_tree (some (.int v)) h2) : PT X 1 0 0 0 [(0, .ref a0)] [] h := by
  unfold f_X11_tree at hf
  refine pt_aload_n C 0 rfl rfl dX11_tree_0 ?_
  refine ob hf (fun v1 g2 hf => ?_)
  refine pt_getR C kX11 11 (by decide) tw_318 (Or.inl rfl) g2 dX11_tree_1 ?_
  refine pt_aload_n C 0 rfl rfl dX11_tree_4 ?_
  refine ob hf (fun v3 g4 hf => ?_)
  refine pt_getR C kX11 1 (by decide) tw_308 (Or.inl rfl) g4 dX11_tree_5 ?_
  refine ob hf (fun _ g7 hf => ?_)
  refine ob hf (fun q5 g6 hf => ?_)
  refine pt_callV C (As := [.ref v3]) (rest := []) (v := (some (.int q5.1))) (fun l => con_X2_growTree l v1 v3 h _ g6) tw_849 tw_846 tw_847 tw_848 kX2 g7 tw_12 yn_X2_growTree (by decide) (Nat.le_of_ble_eq_true rfl) dX11_tree_8 rfl ?_
  show PT X 1 0 0 11 [(0, .ref a0)] [.int q5.1] q5.2
  exact pt_iret C (K _ _ (Option.some.inj hf).symm) (by decide) (by decide) dX11_tree_11
theorem con_X11_tree (l : Launch) (a0 : Nat) (h : AH) (q : Int32 × AH) (hf : f_X11_tree a0 h = some q) : Con l yX11_tree cX11_tree 1 (some .int) rmX11_tree [.ref a0] h (some (.int q.1)) q.2 := Con.of (by decide +kernel) (Nat.le_of_ble_eq_true rfl) (fun X C I K => w_X11_tree_0 C a0 h q hf (fun v h2 e => by cases e; exact K))
abbrev rmX1_beginFresh : Room := { frames := 1, cells := 0, slots := 0, locals := 22 }
theorem yn_X1_beginFresh : YN yX1_beginFresh 1 := by refine ⟨?_, ?_, ?_⟩ <;> decide +kernel
set_option maxRecDepth 100000 in
set_option maxHeartbeats 4000000 in
theorem w_X1_beginFresh_L13 {X : MX} (C : CX X cX1_beginFresh 3 RX1 none rmX1_beginFresh) (x0 : Nat) (x1 : Nat) (s : Int32 × AH) (res : (Int32 × AH) ⊕ ((AH))) (hf : f_X1_beginFresh_L13 x0 x1 s = some res) (K0 : ∀ (u2 : Int32) (hu : AH), res = .inl (u2, hu) → PT X 3 0 0 13 [(0, .ref x0), (1, .ref x1), (2, .int u2)] [] hu) (K1 : ∀ (hu : AH), res = .inr (hu) → PT X 3 0 0 32 [(0, .ref x0), (1, .ref x1)] [] hu) : PT X 3 0 0 13 [(0, .ref x0), (1, .ref x1), (2, .int s.1)] [] s.2 := by
  unfold f_X1_beginFresh_L13 at hf
  refine pt_iload_n C 2 rfl rfl dX1_beginFresh_13 ?_
  refine pt_bipush C (v := 10) (by decide) dX1_beginFresh_14 ?_
  refine pt_icmp_ge C (tgt := 32) (by decide) dX1_beginFresh_16 (fun c7 => ?_) (fun c7 => ?_)
  · rw [if_pos c7] at hf
    refine pt_sub C [(0, .ref x0), (1, .ref x1)] [0, 1] rfl ?_
    exact K1 _ (Option.some.inj hf).symm
  · rw [if_neg c7] at hf
    refine pt_aload_n C 0 rfl rfl dX1_beginFresh_19 ?_
    refine ob hf (fun v8 g9 hf => ?_)
    refine pt_getR C kX1 1 (by decide) tw_141 (Or.inl rfl) g9 dX1_beginFresh_20 ?_
    refine pt_iload_n C 2 rfl rfl dX1_beginFresh_23 ?_
    refine pt_iconst C (v := 0) (by decide) dX1_beginFresh_24 ?_
    refine ob hf (fun h10 g11 hf => ?_)
    refine pt_iast C g11 dX1_beginFresh_25 ?_
    refine pt_iinc C 2 [(2, .int (s.1 + 1)), (0, .ref x0), (1, .ref x1)] rfl (iinc_eq s.1 (by decide)) (by decide) rfl dX1_beginFresh_26 ?_
    refine pt_goto C (tgt := 13) (by decide) dX1_beginFresh_29 ?_
    refine pt_sub C [(0, .ref x0), (1, .ref x1), (2, .int (s.1 + 1))] [1, 2, 0] rfl ?_
    exact K0 _ _ (Option.some.inj hf).symm
theorem l_X1_beginFresh_L13 {X : MX} (C : CX X cX1_beginFresh 3 RX1 none rmX1_beginFresh) (x0 : Nat) (x1 : Nat) : ∀ (n : Nat) (s : Int32 × AH) (r : (AH)), iter (f_X1_beginFresh_L13 x0 x1) n s = some r → (fun r : (AH) => PT X 3 0 0 32 [(0, .ref x0), (1, .ref x1)] [] r) r → PT X 3 0 0 13 [(0, .ref x0), (1, .ref x1), (2, .int s.1)] [] s.2 :=
  iter_W (fun s : Int32 × AH => PT X 3 0 0 13 [(0, .ref x0), (1, .ref x1), (2, .int s.1)] [] s.2) (fun r : (AH) => PT X 3 0 0 32 [(0, .ref x0), (1, .ref x1)] [] r) _ (fun s s2 hf P => w_X1_beginFresh_L13 C x0 x1 s _ hf (fun u2 hu e => by cases e; exact P) (fun hu e => by cases e)) (fun s r hf P => w_X1_beginFresh_L13 C x0 x1 s _ hf (fun u2 hu e => by cases e) (fun hu e => by cases e; exact P))
set_option maxRecDepth 100000 in
set_option maxHeartbeats 4000000 in
theorem w_X1_beginFresh_0 {X : MX} (C : CX X cX1_beginFresh 3 RX1 none rmX1_beginFresh) (a0 : Nat) (a1 : Nat) (h : AH) (res : AH) (hf : f_X1_beginFresh a0 a1 h = some res) (K : PR X rmX1_beginFresh none res) : PT X 3 0 0 0 [(0, .ref a0), (1, .ref a1)] [] h := by
  unfold f_X1_beginFresh at hf
  refine pt_aload_n C 1 rfl rfl dX1_beginFresh_0 ?_
  refine ob hf (fun v1 g2 hf => ?_)
  refine pt_getR C kX0 0 (by decide) tw_88 (Or.inl rfl) g2 dX1_beginFresh_1 ?_
  refine pt_aload_n C 0 rfl rfl dX1_beginFresh_4 ?_
  refine ob hf (fun v3 g4 hf => ?_)
  refine pt_getR C kX1 0 (by decide) tw_138 (Or.inl rfl) g4 dX1_beginFresh_5 ?_
  refine ob hf (fun q5 g6 hf => ?_)
  refine pt_callSN C (As := [.ref v1, .ref v3]) (rest := []) (v := none) (fun l => con_X11_copy l v1 v3 h _ g6) tw_389 (host := "HeaveSongs") (by decide +kernel) tw_388 tw_1 yn_X11_copy (by decide) (Nat.le_of_ble_eq_true rfl) dX1_beginFresh_8 rfl ?_
  show PT X 3 0 0 11 [(0, .ref a0), (1, .ref a1)] [] q5
  refine pt_iconst C (v := 0) (by decide) dX1_beginFresh_11 ?_
  refine pt_istore_n C [(2, .int 0), (0, .ref a0), (1, .ref a1)] rfl (by decide) rfl dX1_beginFresh_12 ?_
  refine pt_sub C [(0, .ref a0), (1, .ref a1), (2, .int 0)] [1, 2, 0] rfl ?_
  refine ob hf (fun e12 g13 hf => ?_)
  refine l_X1_beginFresh_L13 C a0 a1 _ _ _ g13 ?_
  refine pt_aload_n C 0 rfl rfl dX1_beginFresh_32 ?_
  refine pt_aload_n C 1 rfl rfl dX1_beginFresh_33 ?_
  refine ob hf (fun v14 g15 hf => ?_)
  refine pt_getI C kX0 7 (by decide) tw_107 (Or.inl rfl) g15 dX1_beginFresh_34 ?_
  refine ob hf (fun h16 g17 hf => ?_)
  refine pt_put C kX1 5 (by decide) tw_149 (Or.inl rfl) rfl rfl rfl g17 dX1_beginFresh_37 ?_
  refine pt_aload_n C 0 rfl rfl dX1_beginFresh_40 ?_
  refine pt_iconst C (v := 0) (by decide) dX1_beginFresh_41 ?_
  refine ob hf (fun h18 g19 hf => ?_)
  refine pt_put C kX1 6 (by decide) tw_151 (Or.inl rfl) rfl rfl rfl g19 dX1_beginFresh_42 ?_
  obtain rfl := Option.some.inj hf
  exact pt_vret C K (by decide) (by decide) dX1_beginFresh_45
theorem con_X1_beginFresh (l : Launch) (a0 : Nat) (a1 : Nat) (h : AH) (q : AH) (hf : f_X1_beginFresh a0 a1 h = some q) : Con l yX1_beginFresh cX1_beginFresh 3 none rmX1_beginFresh [.ref a0, .ref a1] h none q := Con.of (by decide +kernel) (Nat.le_of_ble_eq_true rfl) (fun X C I K => w_X1_beginFresh_0 C a0 a1 h q hf K)
abbrev rmX5_span : Room := { frames := 1, cells := 0, slots := 0, locals := 23 }
theorem yn_X5_span : YN yX5_span 0 := by refine ⟨?_, ?_, ?_⟩ <;> decide +kernel
set_option maxRecDepth 100000 in
set_option maxHeartbeats 4000000 in
theorem w_X5_span_L4 {X : MX} (C : CX X cX5_span 3 RX5 (some .int) rmX5_span) (x0 : Nat) (s : Int32 × Int32 × AH) (res : (Int32 × Int32 × AH) ⊕ ((Int32 × AH))) (hf : f_X5_span_L4 x0 s = some res) (K0 : ∀ (u1 : Int32) (u2 : Int32) (hu : AH), res = .inl (u1, u2, hu) → PT X 3 0 0 4 [(0, .ref x0), (1, .int u1), (2, .int u2)] [] hu) (K1 : ∀ (u1 : Int32) (hu : AH), res = .inr ((u1, hu)) → PT X 3 0 0 31 [(1, .int u1)] [] hu) : PT X 3 0 0 4 [(0, .ref x0), (1, .int s.1), (2, .int s.2.1)] [] s.2.2 := by
  unfold f_X5_span_L4 at hf
  refine pt_iload_n C 2 rfl rfl dX5_span_4 ?_
  refine pt_aload_n C 0 rfl rfl dX5_span_5 ?_
  refine ob hf (fun v1 g2 hf => ?_)
  refine pt_getI C kX5 2 (by decide) tw_248 (Or.inl rfl) g2 dX5_span_6 ?_
  refine pt_icmp_ge C (tgt := 31) (by decide) dX5_span_9 (fun c3 => ?_) (fun c3 => ?_)
  · rw [if_pos c3] at hf
    refine pt_sub C [(1, .int s.1)] [1] rfl ?_
    exact K1 _ _ (Option.some.inj hf).symm
  · rw [if_neg c3] at hf
    refine pt_iload_n C 1 rfl rfl dX5_span_12 ?_
    refine pt_aload_n C 0 rfl rfl dX5_span_13 ?_
    refine ob hf (fun v4 g5 hf => ?_)
    refine pt_getR C kX5 0 (by decide) tw_246 (Or.inl rfl) g5 dX5_span_14 ?_
    refine pt_iload_n C 2 rfl rfl dX5_span_17 ?_
    refine ob hf (fun v6 g7 hf => ?_)
    refine pt_iald C g7 dX5_span_18 ?_
    refine pt_iconst C (v := 1) (by decide) dX5_span_19 ?_
    refine pt_iadd C dX5_span_20 ?_
    refine pt_mmax C tw_804 tw_410 tw_16 tw_411 (by decide) (Nat.le_of_ble_eq_true rfl) (by decide) (by decide) dX5_span_21 ?_
    refine pt_istore_n C [(1, .int (if s.1 < (v6 + 1) then (v6 + 1) else s.1)), (0, .ref x0), (2, .int s.2.1)] rfl (by decide) rfl dX5_span_24 ?_
    refine pt_iinc C 2 [(2, .int (s.2.1 + 1)), (1, .int (if s.1 < (v6 + 1) then (v6 + 1) else s.1)), (0, .ref x0)] rfl (iinc_eq s.2.1 (by decide)) (by decide) rfl dX5_span_25 ?_
    refine pt_goto C (tgt := 4) (by decide) dX5_span_28 ?_
    refine pt_sub C [(0, .ref x0), (1, .int (if s.1 < (v6 + 1) then (v6 + 1) else s.1)), (2, .int (s.2.1 + 1))] [2, 1, 0] rfl ?_
    exact K0 _ _ _ (Option.some.inj hf).symm
theorem l_X5_span_L4 {X : MX} (C : CX X cX5_span 3 RX5 (some .int) rmX5_span) (x0 : Nat) : ∀ (n : Nat) (s : Int32 × Int32 × AH) (r : (Int32 × AH)), iter (f_X5_span_L4 x0) n s = some r → (fun r : (Int32 × AH) => PT X 3 0 0 31 [(1, .int r.1)] [] r.2) r → PT X 3 0 0 4 [(0, .ref x0), (1, .int s.1), (2, .int s.2.1)] [] s.2.2 :=
  iter_W (fun s : Int32 × Int32 × AH => PT X 3 0 0 4 [(0, .ref x0), (1, .int s.1), (2, .int s.2.1)] [] s.2.2) (fun r : (Int32 × AH) => PT X 3 0 0 31 [(1, .int r.1)] [] r.2) _ (fun s s2 hf P => w_X5_span_L4 C x0 s _ hf (fun u1 u2 hu e => by cases e; exact P) (fun u1 hu e => by cases e)) (fun s r hf P => w_X5_span_L4 C x0 s _ hf (fun u1 u2 hu e => by cases e) (fun u1 hu e => by cases e; exact P))
set_option maxRecDepth 100000 in
set_option maxHeartbeats 4000000 in
theorem w_X5_span_0 {X : MX} (C : CX X cX5_span 3 RX5 (some .int) rmX5_span) (a0 : Nat) (h : AH) (res : Int32 × AH) (hf : f_X5_span a0 h = some res) (K : ∀ (v : Int32) (h2 : AH), res = (v, h2) → PR X rmX5_span (some (.int v)) h2) : PT X 3 0 0 0 [(0, .ref a0)] [] h := by
  unfold f_X5_span at hf
  refine pt_iconst C (v := 0) (by decide) dX5_span_0 ?_
  refine pt_istore_n C [(1, .int 0), (0, .ref a0)] rfl (by decide) rfl dX5_span_1 ?_
  refine pt_iconst C (v := 0) (by decide) dX5_span_2 ?_
  refine pt_istore_n C [(2, .int 0), (1, .int 0), (0, .ref a0)] rfl (by decide) rfl dX5_span_3 ?_
  refine pt_sub C [(0, .ref a0), (1, .int 0), (2, .int 0)] [2, 1, 0] rfl ?_
  refine ob hf (fun e8 g9 hf => ?_)
  refine l_X5_span_L4 C a0 _ _ _ g9 ?_
  refine pt_iload_n C 0 rfl rfl dX5_span_31 ?_
  exact pt_iret C (K _ _ (Option.some.inj hf).symm) (by decide) (by decide) dX5_span_32
theorem con_X5_span (l : Launch) (a0 : Nat) (h : AH) (q : Int32 × AH) (hf : f_X5_span a0 h = some q) : Con l yX5_span cX5_span 3 (some .int) rmX5_span [.ref a0] h (some (.int q.1)) q.2 := Con.of (by decide +kernel) (Nat.le_of_ble_eq_true rfl) (fun X C I K => w_X5_span_0 C a0 h q hf (fun v h2 e => by cases e; exact K))
abbrev rmX5_differenceTo : Room := { frames := 1, cells := 0, slots := 0, locals := 23 }
theorem yn_X5_differenceTo : YN yX5_differenceTo 1 := by refine ⟨?_, ?_, ?_⟩ <;> decide +kernel
set_option maxRecDepth 100000 in
set_option maxHeartbeats 4000000 in
theorem w_X5_differenceTo_L4 {X : MX} (C : CX X cX5_differenceTo 4 RX5 (some .int) rmX5_differenceTo) (x0 : Nat) (x1 : Nat) (s : Int32 × Int32 × AH) (res : (Int32 × Int32 × AH) ⊕ ((Int32 × AH))) (hf : f_X5_differenceTo_L4 x0 x1 s = some res) (K0 : ∀ (u2 : Int32) (u3 : Int32) (hu : AH), res = .inl (u2, u3, hu) → PT X 4 0 0 4 [(0, .ref x0), (1, .ref x1), (2, .int u2), (3, .int u3)] [] hu) (K1 : ∀ (u2 : Int32) (hu : AH), res = .inr ((u2, hu)) → PT X 4 0 0 56 [(2, .int u2)] [] hu) : PT X 4 0 0 4 [(0, .ref x0), (1, .ref x1), (2, .int s.1), (3, .int s.2.1)] [] s.2.2 := by
  unfold f_X5_differenceTo_L4 at hf
  refine pt_iload_n C 3 rfl rfl dX5_differenceTo_4 ?_
  refine pt_aload_n C 0 rfl rfl dX5_differenceTo_5 ?_
  refine ob hf (fun v1 g2 hf => ?_)
  refine pt_getI C kX5 2 (by decide) tw_248 (Or.inl rfl) g2 dX5_differenceTo_6 ?_
  refine pt_icmp_ge C (tgt := 56) (by decide) dX5_differenceTo_9 (fun c3 => ?_) (fun c3 => ?_)
  · rw [if_pos c3] at hf
    refine pt_sub C [(2, .int s.1)] [2] rfl ?_
    exact K1 _ _ (Option.some.inj hf).symm
  · rw [if_neg c3] at hf
    refine pt_aload_n C 0 rfl rfl dX5_differenceTo_12 ?_
    refine ob hf (fun v4 g5 hf => ?_)
    refine pt_getR C kX5 0 (by decide) tw_246 (Or.inl rfl) g5 dX5_differenceTo_13 ?_
    refine pt_iload_n C 3 rfl rfl dX5_differenceTo_16 ?_
    refine ob hf (fun v6 g7 hf => ?_)
    refine pt_iald C g7 dX5_differenceTo_17 ?_
    refine pt_iconst C (v := 0) (by decide) dX5_differenceTo_18 ?_
    refine pt_aload_n C 1 rfl rfl dX5_differenceTo_19 ?_
    refine ob hf (fun v8 g9 hf => ?_)
    refine pt_alen C g9 dX5_differenceTo_20 ?_
    refine pt_iconst C (v := 1) (by decide) dX5_differenceTo_21 ?_
    refine pt_isub C dX5_differenceTo_22 ?_
    refine ob hf (fun q10 g11 hf => ?_)
    refine pt_callSN C (As := [.int v6, .int 0, .int (v8 - 1)]) (rest := []) (v := (some (.int q10.1))) (fun l => con_X11_within l v6 0 (v8 - 1) s.2.2 _ g11) tw_461 (host := "HeaveSongs") (by decide +kernel) tw_460 tw_1 yn_X11_within (by decide) (Nat.le_of_ble_eq_true rfl) dX5_differenceTo_23 rfl ?_
    show PT X 4 0 0 26 [(0, .ref x0), (1, .ref x1), (2, .int s.1), (3, .int s.2.1)] [.int q10.1] q10.2
    refine pt_if_eq C (tgt := 50) (by decide) dX5_differenceTo_26 (fun c12 => ?_) (fun c12 => ?_)
    · rw [if_pos c12] at hf
      refine pt_iinc C 3 [(3, .int (s.2.1 + 1)), (0, .ref x0), (1, .ref x1), (2, .int s.1)] rfl (iinc_eq s.2.1 (by decide)) (by decide) rfl dX5_differenceTo_50 ?_
      refine pt_goto C (tgt := 4) (by decide) dX5_differenceTo_53 ?_
      refine pt_sub C [(0, .ref x0), (1, .ref x1), (2, .int s.1), (3, .int (s.2.1 + 1))] [1, 2, 3, 0] rfl ?_
      exact K0 _ _ _ (Option.some.inj hf).symm
    · rw [if_neg c12] at hf
      refine pt_iload_n C 2 rfl rfl dX5_differenceTo_29 ?_
      refine pt_aload_n C 1 rfl rfl dX5_differenceTo_30 ?_
      refine pt_aload_n C 0 rfl rfl dX5_differenceTo_31 ?_
      refine ob hf (fun v13 g14 hf => ?_)
      refine pt_getR C kX5 0 (by decide) tw_246 (Or.inl rfl) g14 dX5_differenceTo_32 ?_
      refine pt_iload_n C 3 rfl rfl dX5_differenceTo_35 ?_
      refine ob hf (fun v15 g16 hf => ?_)
      refine pt_iald C g16 dX5_differenceTo_36 ?_
      refine ob hf (fun v17 g18 hf => ?_)
      refine pt_iald C g18 dX5_differenceTo_37 ?_
      refine pt_aload_n C 0 rfl rfl dX5_differenceTo_38 ?_
      refine ob hf (fun v19 g20 hf => ?_)
      refine pt_getR C kX5 1 (by decide) tw_247 (Or.inl rfl) g20 dX5_differenceTo_39 ?_
      refine pt_iload_n C 3 rfl rfl dX5_differenceTo_42 ?_
      refine ob hf (fun v21 g22 hf => ?_)
      refine pt_iald C g22 dX5_differenceTo_43 ?_
      refine pt_isub C dX5_differenceTo_44 ?_
      refine pt_mabs C tw_811 tw_812 tw_16 tw_813 (by decide) (Nat.le_of_ble_eq_true rfl) (by decide) (by decide) dX5_differenceTo_45 ?_
      refine pt_iadd C dX5_differenceTo_48 ?_
      refine pt_istore_n C [(2, .int (s.1 + (if 0 ≤ (v17 - v21) then (v17 - v21) else -(v17 - v21)))), (0, .ref x0), (1, .ref x1), (3, .int s.2.1)] rfl (by decide) rfl dX5_differenceTo_49 ?_
      refine pt_iinc C 3 [(3, .int (s.2.1 + 1)), (2, .int (s.1 + (if 0 ≤ (v17 - v21) then (v17 - v21) else -(v17 - v21)))), (0, .ref x0), (1, .ref x1)] rfl (iinc_eq s.2.1 (by decide)) (by decide) rfl dX5_differenceTo_50 ?_
      refine pt_goto C (tgt := 4) (by decide) dX5_differenceTo_53 ?_
      refine pt_sub C [(0, .ref x0), (1, .ref x1), (2, .int (s.1 + (if 0 ≤ (v17 - v21) then (v17 - v21) else -(v17 - v21)))), (3, .int (s.2.1 + 1))] [2, 3, 1, 0] rfl ?_
      exact K0 _ _ _ (Option.some.inj hf).symm
theorem l_X5_differenceTo_L4 {X : MX} (C : CX X cX5_differenceTo 4 RX5 (some .int) rmX5_differenceTo) (x0 : Nat) (x1 : Nat) : ∀ (n : Nat) (s : Int32 × Int32 × AH) (r : (Int32 × AH)), iter (f_X5_differenceTo_L4 x0 x1) n s = some r → (fun r : (Int32 × AH) => PT X 4 0 0 56 [(2, .int r.1)] [] r.2) r → PT X 4 0 0 4 [(0, .ref x0), (1, .ref x1), (2, .int s.1), (3, .int s.2.1)] [] s.2.2 :=
  iter_W (fun s : Int32 × Int32 × AH => PT X 4 0 0 4 [(0, .ref x0), (1, .ref x1), (2, .int s.1), (3, .int s.2.1)] [] s.2.2) (fun r : (Int32 × AH) => PT X 4 0 0 56 [(2, .int r.1)] [] r.2) _ (fun s s2 hf P => w_X5_differenceTo_L4 C x0 x1 s _ hf (fun u2 u3 hu e => by cases e; exact P) (fun u2 hu e => by cases e)) (fun s r hf P => w_X5_differenceTo_L4 C x0 x1 s _ hf (fun u2 u3 hu e => by cases e) (fun u2 hu e => by cases e; exact P))
set_option maxRecDepth 100000 in
set_option maxHeartbeats 4000000 in
theorem w_X5_differenceTo_0 {X : MX} (C : CX X cX5_differenceTo 4 RX5 (some .int) rmX5_differenceTo) (a0 : Nat) (a1 : Nat) (h : AH) (res : Int32 × AH) (hf : f_X5_differenceTo a0 a1 h = some res) (K : ∀ (v : Int32) (h2 : AH), res = (v, h2) → PR X rmX5_differenceTo (some (.int v)) h2) : PT X 4 0 0 0 [(0, .ref a0), (1, .ref a1)] [] h := by
  unfold f_X5_differenceTo at hf
  refine pt_iconst C (v := 0) (by decide) dX5_differenceTo_0 ?_
  refine pt_istore_n C [(2, .int 0), (0, .ref a0), (1, .ref a1)] rfl (by decide) rfl dX5_differenceTo_1 ?_
  refine pt_iconst C (v := 0) (by decide) dX5_differenceTo_2 ?_
  refine pt_istore_n C [(3, .int 0), (2, .int 0), (0, .ref a0), (1, .ref a1)] rfl (by decide) rfl dX5_differenceTo_3 ?_
  refine pt_sub C [(0, .ref a0), (1, .ref a1), (2, .int 0), (3, .int 0)] [2, 3, 1, 0] rfl ?_
  refine ob hf (fun e23 g24 hf => ?_)
  refine l_X5_differenceTo_L4 C a0 a1 _ _ _ g24 ?_
  refine pt_iload_n C 0 rfl rfl dX5_differenceTo_56 ?_
  exact pt_iret C (K _ _ (Option.some.inj hf).symm) (by decide) (by decide) dX5_differenceTo_57
theorem con_X5_differenceTo (l : Launch) (a0 : Nat) (a1 : Nat) (h : AH) (q : Int32 × AH) (hf : f_X5_differenceTo a0 a1 h = some q) : Con l yX5_differenceTo cX5_differenceTo 4 (some .int) rmX5_differenceTo [.ref a0, .ref a1] h (some (.int q.1)) q.2 := Con.of (by decide +kernel) (Nat.le_of_ble_eq_true rfl) (fun X C I K => w_X5_differenceTo_0 C a0 a1 h q hf (fun v h2 e => by cases e; exact K))
abbrev rmX3_sumOfTrial : Room := { frames := 4, cells := 0, slots := 0, locals := 97 }
theorem yn_X3_sumOfTrial : YN yX3_sumOfTrial 4 := by refine ⟨?_, ?_, ?_⟩ <;> decide +kernel
set_option maxRecDepth 100000 in
set_option maxHeartbeats 4000000 in
theorem w_X3_sumOfTrial_0 {X : MX} (C : CX X cX3_sumOfTrial 5 RX3 (some .int) rmX3_sumOfTrial) (a0 : Nat) (a1 : Nat) (a2 : Nat) (a3 : Nat) (a4 : Nat) (h : AH) (res : Int32 × AH) (hf : f_X3_sumOfTrial a0 a1 a2 a3 a4 h = some res) (K : ∀ (v : Int32) (h2 : AH), res = (v, h2) → PR X rmX3_sumOfTrial (some (.int v)) h2) : PT X 5 0 0 0 [(0, .ref a0), (1, .ref a1), (2, .ref a2), (3, .ref a3), (4, .ref a4)] [] h := by
  unfold f_X3_sumOfTrial at hf
  refine pt_aload_n C 0 rfl rfl dX3_sumOfTrial_0 ?_
  refine ob hf (fun v1 g2 hf => ?_)
  refine pt_getR C kX3 0 (by decide) tw_265 (Or.inl rfl) g2 dX3_sumOfTrial_1 ?_
  refine pt_aload_n C 1 rfl rfl dX3_sumOfTrial_4 ?_
  refine pt_aload_n C 2 rfl rfl dX3_sumOfTrial_5 ?_
  refine pt_aload_n C 3 rfl rfl dX3_sumOfTrial_6 ?_
  refine pt_aload C 4 rfl dX3_sumOfTrial_7 ?_
  refine ob hf (fun _ g5 hf => ?_)
  refine ob hf (fun q3 g4 hf => ?_)
  refine pt_callV C (As := []) (rest := [.ref a3, .ref a2, .ref a1, .ref v1]) (v := (some (.int q3.1))) (fun l => con_X5_span l a4 h _ g4) tw_803 tw_800 tw_801 tw_802 kX5 g5 tw_10 yn_X5_span (by decide) (Nat.le_of_ble_eq_true rfl) dX3_sumOfTrial_9 rfl ?_
  show PT X 5 0 0 12 [(0, .ref a0), (1, .ref a1), (2, .ref a2), (3, .ref a3), (4, .ref a4)] [.int q3.1, .ref a3, .ref a2, .ref a1, .ref v1] q3.2
  refine ob hf (fun _ g8 hf => ?_)
  refine ob hf (fun q6 g7 hf => ?_)
  refine pt_callV C (As := [.ref a1, .ref a2, .ref a3, .int q3.1]) (rest := []) (v := (some (.int q6.1))) (fun l => con_X1_go l v1 a1 a2 a3 q3.1 q3.2 _ g7) tw_565 tw_805 tw_563 tw_564 kX1 g8 tw_7 yn_X1_go (by decide) (Nat.le_of_ble_eq_true rfl) dX3_sumOfTrial_12 rfl ?_
  show PT X 5 0 0 15 [(0, .ref a0), (1, .ref a1), (2, .ref a2), (3, .ref a3), (4, .ref a4)] [.int q6.1] q6.2
  refine pt_pop C rfl dX3_sumOfTrial_15 ?_
  refine pt_aload C 4 rfl dX3_sumOfTrial_16 ?_
  refine pt_aload_n C 0 rfl rfl dX3_sumOfTrial_18 ?_
  refine ob hf (fun v9 g10 hf => ?_)
  refine pt_getR C kX3 0 (by decide) tw_265 (Or.inl rfl) g10 dX3_sumOfTrial_19 ?_
  refine ob hf (fun v11 g12 hf => ?_)
  refine pt_getR C kX1 2 (by decide) tw_144 (Or.inl rfl) g12 dX3_sumOfTrial_22 ?_
  refine ob hf (fun _ g15 hf => ?_)
  refine ob hf (fun q13 g14 hf => ?_)
  refine pt_callV C (As := [.ref v11]) (rest := []) (v := (some (.int q13.1))) (fun l => con_X5_differenceTo l a4 v11 q6.2 _ g14) tw_809 tw_806 tw_807 tw_808 kX5 g15 tw_10 yn_X5_differenceTo (by decide) (Nat.le_of_ble_eq_true rfl) dX3_sumOfTrial_25 rfl ?_
  show PT X 5 0 0 28 [(0, .ref a0), (1, .ref a1), (2, .ref a2), (3, .ref a3), (4, .ref a4)] [.int q13.1] q13.2
  exact pt_iret C (K _ _ (Option.some.inj hf).symm) (by decide) (by decide) dX3_sumOfTrial_28
theorem con_X3_sumOfTrial (l : Launch) (a0 : Nat) (a1 : Nat) (a2 : Nat) (a3 : Nat) (a4 : Nat) (h : AH) (q : Int32 × AH) (hf : f_X3_sumOfTrial a0 a1 a2 a3 a4 h = some q) : Con l yX3_sumOfTrial cX3_sumOfTrial 5 (some .int) rmX3_sumOfTrial [.ref a0, .ref a1, .ref a2, .ref a3, .ref a4] h (some (.int q.1)) q.2 := Con.of (by decide +kernel) (Nat.le_of_ble_eq_true rfl) (fun X C I K => w_X3_sumOfTrial_0 C a0 a1 a2 a3 a4 h q hf (fun v h2 e => by cases e; exact K))
abbrev rmX3_tryPair : Room := { frames := 5, cells := 0, slots := 0, locals := 121 }
theorem yn_X3_tryPair : YN yX3_tryPair 6 := by refine ⟨?_, ?_, ?_⟩ <;> decide +kernel
set_option maxRecDepth 100000 in
set_option maxHeartbeats 4000000 in
theorem w_X3_tryPair_L12 {X : MX} (C : CX X cX3_tryPair 10 RX3 none rmX3_tryPair) (x0 : Nat) (x1 : Nat) (x2 : Nat) (x3 : Nat) (x4 : Nat) (x5 : Int32) (x6 : Int32) (x7 : Int32) (s : Int32 × AH) (res : (Int32 × AH) ⊕ ((AH))) (hf : f_X3_tryPair_L12 x0 x1 x2 x3 x4 x5 x6 x7 s = some res) (K0 : ∀ (u8 : Int32) (hu : AH), res = .inl (u8, hu) → PT X 10 0 0 12 [(0, .ref x0), (1, .ref x1), (2, .ref x2), (3, .ref x3), (4, .ref x4), (5, .int x5), (6, .int x6), (7, .int x7), (8, .int u8)] [] hu) (K1 : ∀ (hu : AH), res = .inr (hu) → PT X 10 0 0 106 [(0, .ref x0), (1, .ref x1), (2, .ref x2), (3, .ref x3), (4, .ref x4), (5, .int x5), (6, .int x6), (7, .int x7)] [] hu) : PT X 10 0 0 12 [(0, .ref x0), (1, .ref x1), (2, .ref x2), (3, .ref x3), (4, .ref x4), (5, .int x5), (6, .int x6), (7, .int x7), (8, .int s.1)] [] s.2 := by
  unfold f_X3_tryPair_L12 at hf
  refine pt_iload C 8 rfl dX3_tryPair_12 ?_
  refine pt_iconst C (v := 3) (by decide) dX3_tryPair_14 ?_
  refine pt_icmp_gt C (tgt := 106) (by decide) dX3_tryPair_15 (fun c2 => ?_) (fun c2 => ?_)
  · rw [if_pos c2] at hf
    refine pt_sub C [(0, .ref x0), (1, .ref x1), (2, .ref x2), (3, .ref x3), (4, .ref x4), (5, .int x5), (6, .int x6), (7, .int x7)] [0, 1, 2, 3, 4, 5, 6, 7] rfl ?_
    exact K1 _ (Option.some.inj hf).symm
  · rw [if_neg c2] at hf
    refine pt_aload_n C 0 rfl rfl dX3_tryPair_18 ?_
    refine ob hf (fun v3 g4 hf => ?_)
    refine pt_getR C kX3 0 (by decide) tw_265 (Or.inl rfl) g4 dX3_tryPair_19 ?_
    refine pt_aload_n C 1 rfl rfl dX3_tryPair_22 ?_
    refine ob hf (fun _ g7 hf => ?_)
    refine ob hf (fun q5 g6 hf => ?_)
    refine pt_callV C (As := [.ref x1]) (rest := []) (v := none) (fun l => con_X1_beginFresh l v3 x1 s.2 _ g6) tw_795 tw_792 tw_793 tw_794 kX1 g7 tw_7 yn_X1_beginFresh (by decide) (Nat.le_of_ble_eq_true rfl) dX3_tryPair_23 rfl ?_
    show PT X 10 0 0 26 [(0, .ref x0), (1, .ref x1), (2, .ref x2), (3, .ref x3), (4, .ref x4), (5, .int x5), (6, .int x6), (7, .int x7), (8, .int s.1)] [] q5
    refine pt_aload_n C 0 rfl rfl dX3_tryPair_26 ?_
    refine ob hf (fun v8 g9 hf => ?_)
    refine pt_getR C kX3 0 (by decide) tw_265 (Or.inl rfl) g9 dX3_tryPair_27 ?_
    refine ob hf (fun v10 g11 hf => ?_)
    refine pt_getR C kX1 1 (by decide) tw_142 (Or.inl rfl) g11 dX3_tryPair_30 ?_
    refine pt_iload C 5 rfl dX3_tryPair_33 ?_
    refine pt_iload C 7 rfl dX3_tryPair_35 ?_
    refine ob hf (fun h12 g13 hf => ?_)
    refine pt_iast C g13 dX3_tryPair_37 ?_
    refine pt_aload_n C 0 rfl rfl dX3_tryPair_38 ?_
    refine ob hf (fun v14 g15 hf => ?_)
    refine pt_getR C kX3 0 (by decide) tw_265 (Or.inl rfl) g15 dX3_tryPair_39 ?_
    refine ob hf (fun v16 g17 hf => ?_)
    refine pt_getR C kX1 1 (by decide) tw_142 (Or.inl rfl) g17 dX3_tryPair_42 ?_
    refine pt_iload C 6 rfl dX3_tryPair_45 ?_
    refine pt_iload C 8 rfl dX3_tryPair_47 ?_
    refine ob hf (fun h18 g19 hf => ?_)
    refine pt_iast C g19 dX3_tryPair_49 ?_
    refine pt_aload_n C 0 rfl rfl dX3_tryPair_50 ?_
    refine pt_aload_n C 1 rfl rfl dX3_tryPair_51 ?_
    refine pt_aload_n C 2 rfl rfl dX3_tryPair_52 ?_
    refine pt_aload_n C 3 rfl rfl dX3_tryPair_53 ?_
    refine pt_aload C 4 rfl dX3_tryPair_54 ?_
    refine ob hf (fun _ g22 hf => ?_)
    refine ob hf (fun q20 g21 hf => ?_)
    refine pt_callV C (As := [.ref x1, .ref x2, .ref x3, .ref x4]) (rest := []) (v := (some (.int q20.1))) (fun l => con_X3_sumOfTrial l x0 x1 x2 x3 x4 h18 _ g21) tw_799 tw_796 tw_798 tp_18 kX3 g22 tw_11 yn_X3_sumOfTrial (by decide) (Nat.le_of_ble_eq_true rfl) dX3_tryPair_56 rfl ?_
    show PT X 10 0 0 59 [(0, .ref x0), (1, .ref x1), (2, .ref x2), (3, .ref x3), (4, .ref x4), (5, .int x5), (6, .int x6), (7, .int x7), (8, .int s.1)] [.int q20.1] q20.2
    refine pt_istore C [(9, .int q20.1), (0, .ref x0), (1, .ref x1), (2, .ref x2), (3, .ref x3), (4, .ref x4), (5, .int x5), (6, .int x6), (7, .int x7), (8, .int s.1)] (by decide) rfl dX3_tryPair_59 ?_
    refine pt_iload C 0 rfl dX3_tryPair_61 ?_
    refine pt_aload_n C 1 rfl rfl dX3_tryPair_63 ?_
    refine ob hf (fun v23 g24 hf => ?_)
    refine pt_getI C kX3 5 (by decide) tw_274 (Or.inl rfl) g24 dX3_tryPair_64 ?_
    refine pt_icmp_ge C (tgt := 100) (by decide) dX3_tryPair_67 (fun c25 => ?_) (fun c25 => ?_)
    · rw [if_pos c25] at hf
      refine pt_iinc C 9 [(8, .int (s.1 + 1)), (9, .int q20.1), (0, .ref x0), (1, .ref x1), (2, .ref x2), (3, .ref x3), (4, .ref x4), (5, .int x5), (6, .int x6), (7, .int x7)] rfl (iinc_eq s.1 (by decide)) (by decide) rfl dX3_tryPair_100 ?_
      refine pt_goto C (tgt := 12) (by decide) dX3_tryPair_103 ?_
      refine pt_sub C [(0, .ref x0), (1, .ref x1), (2, .ref x2), (3, .ref x3), (4, .ref x4), (5, .int x5), (6, .int x6), (7, .int x7), (8, .int (s.1 + 1))] [2, 3, 4, 5, 6, 7, 8, 9, 0] rfl ?_
      exact K0 _ _ (Option.some.inj hf).symm
    · rw [if_neg c25] at hf
      refine pt_aload_n C 1 rfl rfl dX3_tryPair_70 ?_
      refine pt_iload C 0 rfl dX3_tryPair_71 ?_
      refine ob hf (fun h26 g27 hf => ?_)
      refine pt_put C kX3 5 (by decide) tw_274 (Or.inl rfl) rfl rfl rfl g27 dX3_tryPair_73 ?_
      refine pt_aload_n C 1 rfl rfl dX3_tryPair_76 ?_
      refine pt_iload C 6 rfl dX3_tryPair_77 ?_
      refine ob hf (fun h28 g29 hf => ?_)
      refine pt_put C kX3 1 (by decide) tw_266 (Or.inl rfl) rfl rfl rfl g29 dX3_tryPair_79 ?_
      refine pt_aload_n C 1 rfl rfl dX3_tryPair_82 ?_
      refine pt_iload C 7 rfl dX3_tryPair_83 ?_
      refine ob hf (fun h30 g31 hf => ?_)
      refine pt_put C kX3 2 (by decide) tw_268 (Or.inl rfl) rfl rfl rfl g31 dX3_tryPair_85 ?_
      refine pt_aload_n C 1 rfl rfl dX3_tryPair_88 ?_
      refine pt_iload C 8 rfl dX3_tryPair_89 ?_
      refine ob hf (fun h32 g33 hf => ?_)
      refine pt_put C kX3 3 (by decide) tw_270 (Or.inl rfl) rfl rfl rfl g33 dX3_tryPair_91 ?_
      refine pt_aload_n C 1 rfl rfl dX3_tryPair_94 ?_
      refine pt_iload C 9 rfl dX3_tryPair_95 ?_
      refine ob hf (fun h34 g35 hf => ?_)
      refine pt_put C kX3 4 (by decide) tw_272 (Or.inl rfl) rfl rfl rfl g35 dX3_tryPair_97 ?_
      refine pt_iinc C 9 [(8, .int (s.1 + 1)), (9, .int q20.1), (0, .ref x0), (1, .ref x1), (2, .ref x2), (3, .ref x3), (4, .ref x4), (5, .int x5), (6, .int x6), (7, .int x7)] rfl (iinc_eq s.1 (by decide)) (by decide) rfl dX3_tryPair_100 ?_
      refine pt_goto C (tgt := 12) (by decide) dX3_tryPair_103 ?_
      refine pt_sub C [(0, .ref x0), (1, .ref x1), (2, .ref x2), (3, .ref x3), (4, .ref x4), (5, .int x5), (6, .int x6), (7, .int x7), (8, .int (s.1 + 1))] [2, 3, 4, 5, 6, 7, 8, 9, 0] rfl ?_
      exact K0 _ _ (Option.some.inj hf).symm
theorem l_X3_tryPair_L12 {X : MX} (C : CX X cX3_tryPair 10 RX3 none rmX3_tryPair) (x0 : Nat) (x1 : Nat) (x2 : Nat) (x3 : Nat) (x4 : Nat) (x5 : Int32) (x6 : Int32) (x7 : Int32) : ∀ (n : Nat) (s : Int32 × AH) (r : (AH)), iter (f_X3_tryPair_L12 x0 x1 x2 x3 x4 x5 x6 x7) n s = some r → (fun r : (AH) => PT X 10 0 0 106 [(0, .ref x0), (1, .ref x1), (2, .ref x2), (3, .ref x3), (4, .ref x4), (5, .int x5), (6, .int x6), (7, .int x7)] [] r) r → PT X 10 0 0 12 [(0, .ref x0), (1, .ref x1), (2, .ref x2), (3, .ref x3), (4, .ref x4), (5, .int x5), (6, .int x6), (7, .int x7), (8, .int s.1)] [] s.2 :=
  iter_W (fun s : Int32 × AH => PT X 10 0 0 12 [(0, .ref x0), (1, .ref x1), (2, .ref x2), (3, .ref x3), (4, .ref x4), (5, .int x5), (6, .int x6), (7, .int x7), (8, .int s.1)] [] s.2) (fun r : (AH) => PT X 10 0 0 106 [(0, .ref x0), (1, .ref x1), (2, .ref x2), (3, .ref x3), (4, .ref x4), (5, .int x5), (6, .int x6), (7, .int x7)] [] r) _ (fun s s2 hf P => w_X3_tryPair_L12 C x0 x1 x2 x3 x4 x5 x6 x7 s _ hf (fun u8 hu e => by cases e; exact P) (fun hu e => by cases e)) (fun s r hf P => w_X3_tryPair_L12 C x0 x1 x2 x3 x4 x5 x6 x7 s _ hf (fun u8 hu e => by cases e) (fun hu e => by cases e; exact P))
set_option maxRecDepth 100000 in
set_option maxHeartbeats 4000000 in
theorem w_X3_tryPair_L3 {X : MX} (C : CX X cX3_tryPair 10 RX3 none rmX3_tryPair) (x0 : Nat) (x1 : Nat) (x2 : Nat) (x3 : Nat) (x4 : Nat) (x5 : Int32) (x6 : Int32) (s : Int32 × AH) (res : (Int32 × AH) ⊕ ((AH))) (hf : f_X3_tryPair_L3 x0 x1 x2 x3 x4 x5 x6 s = some res) (K0 : ∀ (u7 : Int32) (hu : AH), res = .inl (u7, hu) → PT X 10 0 0 3 [(0, .ref x0), (1, .ref x1), (2, .ref x2), (3, .ref x3), (4, .ref x4), (5, .int x5), (6, .int x6), (7, .int u7)] [] hu) (K1 : ∀ (hu : AH), res = .inr (hu) → PT X 10 0 0 112 [] [] hu) : PT X 10 0 0 3 [(0, .ref x0), (1, .ref x1), (2, .ref x2), (3, .ref x3), (4, .ref x4), (5, .int x5), (6, .int x6), (7, .int s.1)] [] s.2 := by
  unfold f_X3_tryPair_L3 at hf
  refine pt_iload C 7 rfl dX3_tryPair_3 ?_
  refine pt_iconst C (v := 3) (by decide) dX3_tryPair_5 ?_
  refine pt_icmp_gt C (tgt := 112) (by decide) dX3_tryPair_6 (fun c1 => ?_) (fun c1 => ?_)
  · rw [if_pos c1] at hf
    refine pt_sub C [] [] rfl ?_
    exact K1 _ (Option.some.inj hf).symm
  · rw [if_neg c1] at hf
    refine pt_iconst C (v := 1) (by decide) dX3_tryPair_9 ?_
    refine pt_istore C [(8, .int 1), (0, .ref x0), (1, .ref x1), (2, .ref x2), (3, .ref x3), (4, .ref x4), (5, .int x5), (6, .int x6), (7, .int s.1)] (by decide) rfl dX3_tryPair_10 ?_
    refine pt_sub C [(0, .ref x0), (1, .ref x1), (2, .ref x2), (3, .ref x3), (4, .ref x4), (5, .int x5), (6, .int x6), (7, .int s.1), (8, .int 1)] [1, 2, 3, 4, 5, 6, 7, 8, 0] rfl ?_
    refine ob hf (fun e36 g37 hf => ?_)
    refine l_X3_tryPair_L12 C x0 x1 x2 x3 x4 x5 x6 s.1 _ _ _ g37 ?_
    refine pt_iinc C 7 [(7, .int (s.1 + 1)), (0, .ref x0), (1, .ref x1), (2, .ref x2), (3, .ref x3), (4, .ref x4), (5, .int x5), (6, .int x6)] rfl (iinc_eq s.1 (by decide)) (by decide) rfl dX3_tryPair_106 ?_
    refine pt_goto C (tgt := 3) (by decide) dX3_tryPair_109 ?_
    refine pt_sub C [(0, .ref x0), (1, .ref x1), (2, .ref x2), (3, .ref x3), (4, .ref x4), (5, .int x5), (6, .int x6), (7, .int (s.1 + 1))] [1, 2, 3, 4, 5, 6, 7, 0] rfl ?_
    exact K0 _ _ (Option.some.inj hf).symm
theorem l_X3_tryPair_L3 {X : MX} (C : CX X cX3_tryPair 10 RX3 none rmX3_tryPair) (x0 : Nat) (x1 : Nat) (x2 : Nat) (x3 : Nat) (x4 : Nat) (x5 : Int32) (x6 : Int32) : ∀ (n : Nat) (s : Int32 × AH) (r : (AH)), iter (f_X3_tryPair_L3 x0 x1 x2 x3 x4 x5 x6) n s = some r → (fun r : (AH) => PT X 10 0 0 112 [] [] r) r → PT X 10 0 0 3 [(0, .ref x0), (1, .ref x1), (2, .ref x2), (3, .ref x3), (4, .ref x4), (5, .int x5), (6, .int x6), (7, .int s.1)] [] s.2 :=
  iter_W (fun s : Int32 × AH => PT X 10 0 0 3 [(0, .ref x0), (1, .ref x1), (2, .ref x2), (3, .ref x3), (4, .ref x4), (5, .int x5), (6, .int x6), (7, .int s.1)] [] s.2) (fun r : (AH) => PT X 10 0 0 112 [] [] r) _ (fun s s2 hf P => w_X3_tryPair_L3 C x0 x1 x2 x3 x4 x5 x6 s _ hf (fun u7 hu e => by cases e; exact P) (fun hu e => by cases e)) (fun s r hf P => w_X3_tryPair_L3 C x0 x1 x2 x3 x4 x5 x6 s _ hf (fun u7 hu e => by cases e) (fun hu e => by cases e; exact P))
set_option maxRecDepth 100000 in
set_option maxHeartbeats 4000000 in
theorem w_X3_tryPair_0 {X : MX} (C : CX X cX3_tryPair 10 RX3 none rmX3_tryPair) (a0 : Nat) (a1 : Nat) (a2 : Nat) (a3 : Nat) (a4 : Nat) (a5 : Int32) (a6 : Int32) (h : AH) (res : AH) (hf : f_X3_tryPair a0 a1 a2 a3 a4 a5 a6 h = some res) (K : PR X rmX3_tryPair none res) : PT X 10 0 0 0 [(0, .ref a0), (1, .ref a1), (2, .ref a2), (3, .ref a3), (4, .ref a4), (5, .int a5), (6, .int a6)] [] h := by
  unfold f_X3_tryPair at hf
  refine pt_iconst C (v := 1) (by decide) dX3_tryPair_0 ?_
  refine pt_istore C [(7, .int 1), (0, .ref a0), (1, .ref a1), (2, .ref a2), (3, .ref a3), (4, .ref a4), (5, .int a5), (6, .int a6)] (by decide) rfl dX3_tryPair_1 ?_
  refine pt_sub C [(0, .ref a0), (1, .ref a1), (2, .ref a2), (3, .ref a3), (4, .ref a4), (5, .int a5), (6, .int a6), (7, .int 1)] [1, 2, 3, 4, 5, 6, 7, 0] rfl ?_
  refine ob hf (fun e38 g39 hf => ?_)
  refine l_X3_tryPair_L3 C a0 a1 a2 a3 a4 a5 a6 _ _ _ g39 ?_
  obtain rfl := Option.some.inj hf
  exact pt_vret C K (by decide) (by decide) dX3_tryPair_112
theorem con_X3_tryPair (l : Launch) (a0 : Nat) (a1 : Nat) (a2 : Nat) (a3 : Nat) (a4 : Nat) (a5 : Int32) (a6 : Int32) (h : AH) (q : AH) (hf : f_X3_tryPair a0 a1 a2 a3 a4 a5 a6 h = some q) : Con l yX3_tryPair cX3_tryPair 10 none rmX3_tryPair [.ref a0, .ref a1, .ref a2, .ref a3, .ref a4, .int a5, .int a6] h none q := Con.of (by decide +kernel) (Nat.le_of_ble_eq_true rfl) (fun X C I K => w_X3_tryPair_0 C a0 a1 a2 a3 a4 a5 a6 h q hf K)
abbrev rmX3_findTwo : Room := { frames := 6, cells := 0, slots := 0, locals := 150 }
theorem yn_X3_findTwo : YN yX3_findTwo 4 := by refine ⟨?_, ?_, ?_⟩ <;> decide +kernel
set_option maxRecDepth 100000 in
set_option maxHeartbeats 4000000 in
theorem w_X3_findTwo_L24 {X : MX} (C : CX X cX3_findTwo 7 RX3 none rmX3_findTwo) (x0 : Nat) (x1 : Nat) (x2 : Nat) (x3 : Nat) (x4 : Nat) (x5 : Int32) (s : Int32 × AH) (res : (Int32 × AH) ⊕ ((AH))) (hf : f_X3_findTwo_L24 x0 x1 x2 x3 x4 x5 s = some res) (K0 : ∀ (u6 : Int32) (hu : AH), res = .inl (u6, hu) → PT X 7 0 0 24 [(0, .ref x0), (1, .ref x1), (2, .ref x2), (3, .ref x3), (4, .ref x4), (5, .int x5), (6, .int u6)] [] hu) (K1 : ∀ (hu : AH), res = .inr (hu) → PT X 7 0 0 76 [(0, .ref x0), (1, .ref x1), (2, .ref x2), (3, .ref x3), (4, .ref x4), (5, .int x5)] [] hu) : PT X 7 0 0 24 [(0, .ref x0), (1, .ref x1), (2, .ref x2), (3, .ref x3), (4, .ref x4), (5, .int x5), (6, .int s.1)] [] s.2 := by
  unfold f_X3_findTwo_L24 at hf
  refine pt_iload C 6 rfl dX3_findTwo_24 ?_
  refine pt_aload_n C 1 rfl rfl dX3_findTwo_26 ?_
  refine ob hf (fun v6 g7 hf => ?_)
  refine pt_getI C kX0 6 (by decide) tw_103 (Or.inl rfl) g7 dX3_findTwo_27 ?_
  refine pt_icmp_ge C (tgt := 76) (by decide) dX3_findTwo_30 (fun c8 => ?_) (fun c8 => ?_)
  · rw [if_pos c8] at hf
    refine pt_sub C [(0, .ref x0), (1, .ref x1), (2, .ref x2), (3, .ref x3), (4, .ref x4), (5, .int x5)] [0, 1, 2, 3, 4, 5] rfl ?_
    exact K1 _ (Option.some.inj hf).symm
  · rw [if_neg c8] at hf
    refine pt_aload_n C 1 rfl rfl dX3_findTwo_33 ?_
    refine ob hf (fun v9 g10 hf => ?_)
    refine pt_getI C kX0 7 (by decide) tw_108 (Or.inl rfl) g10 dX3_findTwo_34 ?_
    refine pt_iload C 5 rfl dX3_findTwo_37 ?_
    refine ob hf (fun q11 g12 hf => ?_)
    refine pt_callSN C (As := [.int v9, .int x5]) (rest := []) (v := (some (.int q11.1))) (fun l => con_X11_isIn l v9 x5 s.2 _ g12) tw_572 (host := "HeaveSongs") (by decide +kernel) tw_571 tw_1 yn_X11_isIn (by decide) (Nat.le_of_ble_eq_true rfl) dX3_findTwo_39 rfl ?_
    show PT X 7 0 0 42 [(0, .ref x0), (1, .ref x1), (2, .ref x2), (3, .ref x3), (4, .ref x4), (5, .int x5), (6, .int s.1)] [.int q11.1] q11.2
    refine pt_if_eq C (tgt := 70) (by decide) dX3_findTwo_42 (fun c13 => ?_) (fun c13 => ?_)
    · rw [if_pos c13] at hf
      refine pt_iinc C 6 [(6, .int (s.1 + 1)), (0, .ref x0), (1, .ref x1), (2, .ref x2), (3, .ref x3), (4, .ref x4), (5, .int x5)] rfl (iinc_eq s.1 (by decide)) (by decide) rfl dX3_findTwo_70 ?_
      refine pt_goto C (tgt := 24) (by decide) dX3_findTwo_73 ?_
      refine pt_sub C [(0, .ref x0), (1, .ref x1), (2, .ref x2), (3, .ref x3), (4, .ref x4), (5, .int x5), (6, .int (s.1 + 1))] [1, 2, 3, 4, 5, 6, 0] rfl ?_
      exact K0 _ _ (Option.some.inj hf).symm
    · rw [if_neg c13] at hf
      refine pt_aload_n C 1 rfl rfl dX3_findTwo_45 ?_
      refine ob hf (fun v14 g15 hf => ?_)
      refine pt_getI C kX0 7 (by decide) tw_108 (Or.inl rfl) g15 dX3_findTwo_46 ?_
      refine pt_iload C 6 rfl dX3_findTwo_49 ?_
      refine ob hf (fun q16 g17 hf => ?_)
      refine pt_callSN C (As := [.int v14, .int s.1]) (rest := []) (v := (some (.int q16.1))) (fun l => con_X11_isIn l v14 s.1 q11.2 _ g17) tw_572 (host := "HeaveSongs") (by decide +kernel) tw_571 tw_1 yn_X11_isIn (by decide) (Nat.le_of_ble_eq_true rfl) dX3_findTwo_51 rfl ?_
      show PT X 7 0 0 54 [(0, .ref x0), (1, .ref x1), (2, .ref x2), (3, .ref x3), (4, .ref x4), (5, .int x5), (6, .int s.1)] [.int q16.1] q16.2
      refine pt_if_eq C (tgt := 70) (by decide) dX3_findTwo_54 (fun c18 => ?_) (fun c18 => ?_)
      · rw [if_pos c18] at hf
        refine pt_iinc C 6 [(6, .int (s.1 + 1)), (0, .ref x0), (1, .ref x1), (2, .ref x2), (3, .ref x3), (4, .ref x4), (5, .int x5)] rfl (iinc_eq s.1 (by decide)) (by decide) rfl dX3_findTwo_70 ?_
        refine pt_goto C (tgt := 24) (by decide) dX3_findTwo_73 ?_
        refine pt_sub C [(0, .ref x0), (1, .ref x1), (2, .ref x2), (3, .ref x3), (4, .ref x4), (5, .int x5), (6, .int (s.1 + 1))] [1, 2, 3, 4, 5, 6, 0] rfl ?_
        exact K0 _ _ (Option.some.inj hf).symm
      · rw [if_neg c18] at hf
        refine pt_aload_n C 0 rfl rfl dX3_findTwo_57 ?_
        refine pt_aload_n C 1 rfl rfl dX3_findTwo_58 ?_
        refine pt_aload_n C 2 rfl rfl dX3_findTwo_59 ?_
        refine pt_aload_n C 3 rfl rfl dX3_findTwo_60 ?_
        refine pt_aload C 4 rfl dX3_findTwo_61 ?_
        refine pt_iload C 5 rfl dX3_findTwo_63 ?_
        refine pt_iload C 6 rfl dX3_findTwo_65 ?_
        refine ob hf (fun _ g21 hf => ?_)
        refine ob hf (fun q19 g20 hf => ?_)
        refine pt_callV C (As := [.ref x1, .ref x2, .ref x3, .ref x4, .int x5, .int s.1]) (rest := []) (v := none) (fun l => con_X3_tryPair l x0 x1 x2 x3 x4 x5 s.1 q16.2 _ g20) tw_828 tw_825 tw_827 tp_19 kX3 g21 tw_11 yn_X3_tryPair (by decide) (Nat.le_of_ble_eq_true rfl) dX3_findTwo_67 rfl ?_
        show PT X 7 0 0 70 [(0, .ref x0), (1, .ref x1), (2, .ref x2), (3, .ref x3), (4, .ref x4), (5, .int x5), (6, .int s.1)] [] q19
        refine pt_iinc C 6 [(6, .int (s.1 + 1)), (0, .ref x0), (1, .ref x1), (2, .ref x2), (3, .ref x3), (4, .ref x4), (5, .int x5)] rfl (iinc_eq s.1 (by decide)) (by decide) rfl dX3_findTwo_70 ?_
        refine pt_goto C (tgt := 24) (by decide) dX3_findTwo_73 ?_
        refine pt_sub C [(0, .ref x0), (1, .ref x1), (2, .ref x2), (3, .ref x3), (4, .ref x4), (5, .int x5), (6, .int (s.1 + 1))] [1, 2, 3, 4, 5, 6, 0] rfl ?_
        exact K0 _ _ (Option.some.inj hf).symm
theorem l_X3_findTwo_L24 {X : MX} (C : CX X cX3_findTwo 7 RX3 none rmX3_findTwo) (x0 : Nat) (x1 : Nat) (x2 : Nat) (x3 : Nat) (x4 : Nat) (x5 : Int32) : ∀ (n : Nat) (s : Int32 × AH) (r : (AH)), iter (f_X3_findTwo_L24 x0 x1 x2 x3 x4 x5) n s = some r → (fun r : (AH) => PT X 7 0 0 76 [(0, .ref x0), (1, .ref x1), (2, .ref x2), (3, .ref x3), (4, .ref x4), (5, .int x5)] [] r) r → PT X 7 0 0 24 [(0, .ref x0), (1, .ref x1), (2, .ref x2), (3, .ref x3), (4, .ref x4), (5, .int x5), (6, .int s.1)] [] s.2 :=
  iter_W (fun s : Int32 × AH => PT X 7 0 0 24 [(0, .ref x0), (1, .ref x1), (2, .ref x2), (3, .ref x3), (4, .ref x4), (5, .int x5), (6, .int s.1)] [] s.2) (fun r : (AH) => PT X 7 0 0 76 [(0, .ref x0), (1, .ref x1), (2, .ref x2), (3, .ref x3), (4, .ref x4), (5, .int x5)] [] r) _ (fun s s2 hf P => w_X3_findTwo_L24 C x0 x1 x2 x3 x4 x5 s _ hf (fun u6 hu e => by cases e; exact P) (fun hu e => by cases e)) (fun s r hf P => w_X3_findTwo_L24 C x0 x1 x2 x3 x4 x5 s _ hf (fun u6 hu e => by cases e) (fun hu e => by cases e; exact P))
set_option maxRecDepth 100000 in
set_option maxHeartbeats 4000000 in
theorem w_X3_findTwo_L9 {X : MX} (C : CX X cX3_findTwo 7 RX3 none rmX3_findTwo) (x0 : Nat) (x1 : Nat) (x2 : Nat) (x3 : Nat) (x4 : Nat) (s : Int32 × AH) (res : (Int32 × AH) ⊕ ((AH))) (hf : f_X3_findTwo_L9 x0 x1 x2 x3 x4 s = some res) (K0 : ∀ (u5 : Int32) (hu : AH), res = .inl (u5, hu) → PT X 7 0 0 9 [(0, .ref x0), (1, .ref x1), (2, .ref x2), (3, .ref x3), (4, .ref x4), (5, .int u5)] [] hu) (K1 : ∀ (hu : AH), res = .inr (hu) → PT X 7 0 0 82 [] [] hu) : PT X 7 0 0 9 [(0, .ref x0), (1, .ref x1), (2, .ref x2), (3, .ref x3), (4, .ref x4), (5, .int s.1)] [] s.2 := by
  unfold f_X3_findTwo_L9 at hf
  refine pt_iload C 5 rfl dX3_findTwo_9 ?_
  refine pt_aload_n C 1 rfl rfl dX3_findTwo_11 ?_
  refine ob hf (fun v3 g4 hf => ?_)
  refine pt_getI C kX0 6 (by decide) tw_103 (Or.inl rfl) g4 dX3_findTwo_12 ?_
  refine pt_icmp_ge C (tgt := 82) (by decide) dX3_findTwo_15 (fun c5 => ?_) (fun c5 => ?_)
  · rw [if_pos c5] at hf
    refine pt_sub C [] [] rfl ?_
    exact K1 _ (Option.some.inj hf).symm
  · rw [if_neg c5] at hf
    refine pt_iload C 5 rfl dX3_findTwo_18 ?_
    refine pt_iconst C (v := 1) (by decide) dX3_findTwo_20 ?_
    refine pt_iadd C dX3_findTwo_21 ?_
    refine pt_istore C [(6, .int (s.1 + 1)), (0, .ref x0), (1, .ref x1), (2, .ref x2), (3, .ref x3), (4, .ref x4), (5, .int s.1)] (by decide) rfl dX3_findTwo_22 ?_
    refine pt_sub C [(0, .ref x0), (1, .ref x1), (2, .ref x2), (3, .ref x3), (4, .ref x4), (5, .int s.1), (6, .int (s.1 + 1))] [1, 2, 3, 4, 5, 6, 0] rfl ?_
    refine ob hf (fun e22 g23 hf => ?_)
    refine l_X3_findTwo_L24 C x0 x1 x2 x3 x4 s.1 _ _ _ g23 ?_
    refine pt_iinc C 5 [(5, .int (s.1 + 1)), (0, .ref x0), (1, .ref x1), (2, .ref x2), (3, .ref x3), (4, .ref x4)] rfl (iinc_eq s.1 (by decide)) (by decide) rfl dX3_findTwo_76 ?_
    refine pt_goto C (tgt := 9) (by decide) dX3_findTwo_79 ?_
    refine pt_sub C [(0, .ref x0), (1, .ref x1), (2, .ref x2), (3, .ref x3), (4, .ref x4), (5, .int (s.1 + 1))] [1, 2, 3, 4, 5, 0] rfl ?_
    exact K0 _ _ (Option.some.inj hf).symm
theorem l_X3_findTwo_L9 {X : MX} (C : CX X cX3_findTwo 7 RX3 none rmX3_findTwo) (x0 : Nat) (x1 : Nat) (x2 : Nat) (x3 : Nat) (x4 : Nat) : ∀ (n : Nat) (s : Int32 × AH) (r : (AH)), iter (f_X3_findTwo_L9 x0 x1 x2 x3 x4) n s = some r → (fun r : (AH) => PT X 7 0 0 82 [] [] r) r → PT X 7 0 0 9 [(0, .ref x0), (1, .ref x1), (2, .ref x2), (3, .ref x3), (4, .ref x4), (5, .int s.1)] [] s.2 :=
  iter_W (fun s : Int32 × AH => PT X 7 0 0 9 [(0, .ref x0), (1, .ref x1), (2, .ref x2), (3, .ref x3), (4, .ref x4), (5, .int s.1)] [] s.2) (fun r : (AH) => PT X 7 0 0 82 [] [] r) _ (fun s s2 hf P => w_X3_findTwo_L9 C x0 x1 x2 x3 x4 s _ hf (fun u5 hu e => by cases e; exact P) (fun hu e => by cases e)) (fun s r hf P => w_X3_findTwo_L9 C x0 x1 x2 x3 x4 s _ hf (fun u5 hu e => by cases e) (fun hu e => by cases e; exact P))
set_option maxRecDepth 100000 in
set_option maxHeartbeats 4000000 in
theorem w_X3_findTwo_0 {X : MX} (C : CX X cX3_findTwo 7 RX3 none rmX3_findTwo) (a0 : Nat) (a1 : Nat) (a2 : Nat) (a3 : Nat) (a4 : Nat) (h : AH) (res : AH) (hf : f_X3_findTwo a0 a1 a2 a3 a4 h = some res) (K : PR X rmX3_findTwo none res) : PT X 7 0 0 0 [(0, .ref a0), (1, .ref a1), (2, .ref a2), (3, .ref a3), (4, .ref a4)] [] h := by
  unfold f_X3_findTwo at hf
  refine pt_aload_n C 0 rfl rfl dX3_findTwo_0 ?_
  refine pt_ldc C tw_824 dX3_findTwo_1 ?_
  refine ob hf (fun h1 g2 hf => ?_)
  refine pt_put C kX3 5 (by decide) tw_274 (Or.inl rfl) rfl rfl rfl g2 dX3_findTwo_3 ?_
  refine pt_iconst C (v := 0) (by decide) dX3_findTwo_6 ?_
  refine pt_istore C [(5, .int 0), (0, .ref a0), (1, .ref a1), (2, .ref a2), (3, .ref a3), (4, .ref a4)] (by decide) rfl dX3_findTwo_7 ?_
  refine pt_sub C [(0, .ref a0), (1, .ref a1), (2, .ref a2), (3, .ref a3), (4, .ref a4), (5, .int 0)] [1, 2, 3, 4, 5, 0] rfl ?_
  refine ob hf (fun e24 g25 hf => ?_)
  refine l_X3_findTwo_L9 C a0 a1 a2 a3 a4 _ _ _ g25 ?_
  obtain rfl := Option.some.inj hf
  exact pt_vret C K (by decide) (by decide) dX3_findTwo_82
theorem con_X3_findTwo (l : Launch) (a0 : Nat) (a1 : Nat) (a2 : Nat) (a3 : Nat) (a4 : Nat) (h : AH) (q : AH) (hf : f_X3_findTwo a0 a1 a2 a3 a4 h = some q) : Con l yX3_findTwo cX3_findTwo 7 none rmX3_findTwo [.ref a0, .ref a1, .ref a2, .ref a3, .ref a4] h none q := Con.of (by decide +kernel) (Nat.le_of_ble_eq_true rfl) (fun X C I K => w_X3_findTwo_0 C a0 a1 a2 a3 a4 h q hf K)
abbrev rmX11_two : Room := { frames := 7, cells := 1, slots := 3, locals := 176 }
theorem yn_X11_two : YN yX11_two 4 := by refine ⟨?_, ?_, ?_⟩ <;> decide +kernel
set_option maxRecDepth 100000 in
set_option maxHeartbeats 4000000 in
theorem w_X11_two_0 {X : MX} (C : CX X cX11_two 6 RX11 (some .int) rmX11_two) (a0 : Nat) (a1 : Int32) (a2 : Int32) (a3 : Int32) (a4 : Int32) (h : AH) (res : Int32 × AH) (hf : f_X11_two a0 a1 a2 a3 a4 h = some res) (K : ∀ (v : Int32) (h2 : AH), res = (v, h2) → PR X rmX11_two (some (.int v)) h2) : PT X 6 0 0 0 [(0, .ref a0), (1, .int a1), (2, .int a2), (3, .int a3), (4, .int a4)] [] h := by
  unfold f_X11_two at hf
  refine pt_aload_n C 0 rfl rfl dX11_two_0 ?_
  refine pt_iload_n C 1 rfl rfl dX11_two_1 ?_
  refine ob hf (fun _ g3 hf => ?_)
  refine ob hf (fun q1 g2 hf => ?_)
  refine pt_callV C (As := [.int a1]) (rest := []) (v := (some (va_rf q1.1))) (fun l => con_X11_songOf l a0 a1 h _ g2) tw_458 tw_455 tw_457 tp_3 kX11 g3 tw_1 yn_X11_songOf (by decide) (Nat.le_of_ble_eq_true rfl) dX11_two_2 rfl ?_
  show PT X 6 0 0 5 [(0, .ref a0), (1, .int a1), (2, .int a2), (3, .int a3), (4, .int a4)] [va_rf q1.1] q1.2
  refine pt_astoreQ C [(5, va_rf q1.1), (0, .ref a0), (1, .int a1), (2, .int a2), (3, .int a3), (4, .int a4)] (by decide) rfl dX11_two_5 ?_
  refine pt_aloadQ C 0 rfl dX11_two_7 ?_
  generalize q1.1 = o4 at hf ⊢
  cases o4 with
  | none =>
    dsimp only [Option.elim] at hf
    refine pt_ifnull0 C (tgt := 30) (by decide) dX11_two_9 ?_
    refine pt_bipush C (v := (-2)) (by decide) dX11_two_30 ?_
    exact pt_iret C (K _ _ (Option.some.inj hf).symm) (by decide) (by decide) dX11_two_32
  | some a5 =>
    dsimp only [Option.elim] at hf
    refine pt_ifnull1 C dX11_two_9 ?_
    refine pt_iload_n C 3 rfl rfl dX11_two_12 ?_
    refine pt_iload_n C 4 rfl rfl dX11_two_13 ?_
    refine ob hf (fun q6 g7 hf => ?_)
    refine pt_callS C (As := [.int a2, .int a3]) (rest := []) (v := (some (.int q6.1))) (fun l => con_X11_isWeight l a2 a3 q1.2 _ g7) tw_539 tw_537 tw_538 tw_1 yn_X11_isWeight (by decide) (Nat.le_of_ble_eq_true rfl) dX11_two_14 rfl ?_
    show PT X 6 0 0 17 [(5, .ref a5), (0, .ref a0), (1, .int a1), (2, .int a2), (3, .int a3), (4, .int a4)] [.int q6.1] q6.2
    refine pt_if_eq C (tgt := 30) (by decide) dX11_two_17 (fun c8 => ?_) (fun c8 => ?_)
    · rw [if_pos c8] at hf
      refine pt_bipush C (v := (-2)) (by decide) dX11_two_30 ?_
      exact pt_iret C (K _ _ (Option.some.inj hf).symm) (by decide) (by decide) dX11_two_32
    · rw [if_neg c8] at hf
      refine pt_iload C 5 rfl dX11_two_20 ?_
      refine pt_iconst C (v := 0) (by decide) dX11_two_22 ?_
      refine pt_iconst C (v := 4) (by decide) dX11_two_23 ?_
      refine ob hf (fun q9 g10 hf => ?_)
      refine pt_callS C (As := [.int a4, .int 0, .int 4]) (rest := []) (v := (some (.int q9.1))) (fun l => con_X11_within l a4 0 4 q6.2 _ g10) tw_461 tw_459 tw_460 tw_1 yn_X11_within (by decide) (Nat.le_of_ble_eq_true rfl) dX11_two_24 rfl ?_
      show PT X 6 0 0 27 [(5, .ref a5), (0, .ref a0), (1, .int a1), (2, .int a2), (3, .int a3), (4, .int a4)] [.int q9.1] q9.2
      refine pt_if_ne C (tgt := 33) (by decide) dX11_two_27 (fun c11 => ?_) (fun c11 => ?_)
      · rw [if_neg c11] at hf
        refine pt_aload_n C 1 rfl rfl dX11_two_33 ?_
        refine ob hf (fun v12 g13 hf => ?_)
        refine pt_getR C kX11 2 (by decide) tw_309 (Or.inl rfl) g13 dX11_two_34 ?_
        refine ob hf (fun v14 g15 hf => ?_)
        refine pt_getI C kX0 7 (by decide) tw_110 (Or.inl rfl) g15 dX11_two_37 ?_
        refine ob hf (fun q16 g17 hf => ?_)
        refine pt_callS C (As := [.int v14]) (rest := []) (v := (some (.int q16.1))) (fun l => con_J6_bitCount_0f7a4 l v14 q9.2 _ g17) tw_659 tw_819 tw_658 tw_22 yn_J6_bitCount_0f7a4 (by decide) (Nat.le_of_ble_eq_true rfl) dX11_two_40 rfl ?_
        show PT X 6 0 0 43 [(5, .ref a5), (0, .ref a0), (1, .int a1), (2, .int a2), (3, .int a3), (4, .int a4)] [.int q16.1] q16.2
        refine pt_iconst C (v := 2) (by decide) dX11_two_43 ?_
        refine pt_icmp_ge C (tgt := 49) (by decide) dX11_two_44 (fun c18 => ?_) (fun c18 => ?_)
        · rw [if_pos c18] at hf
          refine pt_aload_n C 1 rfl rfl dX11_two_49 ?_
          refine ob hf (fun v19 g20 hf => ?_)
          refine pt_getR C kX11 10 (by decide) tw_317 (Or.inl rfl) g20 dX11_two_50 ?_
          refine pt_aload_n C 1 rfl rfl dX11_two_53 ?_
          refine ob hf (fun v21 g22 hf => ?_)
          refine pt_getR C kX11 2 (by decide) tw_309 (Or.inl rfl) g22 dX11_two_54 ?_
          refine pt_aload C 0 rfl dX11_two_57 ?_
          refine pt_new C kX8 tw_545 tw_546 tw_21 [.int 0, .int 0, .int 0] (fun j hj => match j, hj with | 0, _ => rfl | 1, _ => rfl | 2, _ => rfl) (by decide) (by decide) dX11_two_59 ?_
          refine pt_dup C rfl dX11_two_62 ?_
          refine pt_ldc C tw_643 dX11_two_63 ?_
          refine pt_iload_n C 3 rfl rfl dX11_two_65 ?_
          refine pt_iload_n C 4 rfl rfl dX11_two_66 ?_
          refine ob hf (fun q23 g24 hf => ?_)
          refine pt_callI C (As := [.int 1000000000, .int a2, .int a3]) (rest := [.ref q16.2.1, .ref a5, .ref v21, .ref v19]) (v := none) (fun l => con_X8_init l q16.2.1 1000000000 a2 a3 (hnew q16.2 (.inr (9, [.int 0, .int 0, .int 0]))) _ g24) tw_549 tw_547 tw_548 rfl tw_21 yn_X8_init (by decide) (Nat.le_of_ble_eq_true rfl) dX11_two_67 rfl ?_
          show PT X 6 1 3 70 [(5, .ref a5), (0, .ref a0), (1, .int a1), (2, .int a2), (3, .int a3), (4, .int a4)] [.ref q16.2.1, .ref a5, .ref v21, .ref v19] q23
          refine pt_aload_n C 1 rfl rfl dX11_two_70 ?_
          refine ob hf (fun v25 g26 hf => ?_)
          refine pt_getR C kX11 9 (by decide) tw_316 (Or.inl rfl) g26 dX11_two_71 ?_
          refine ob hf (fun _ g29 hf => ?_)
          refine ob hf (fun q27 g28 hf => ?_)
          refine pt_callV C (As := [.ref v21, .ref a5, .ref q16.2.1, .ref v25]) (rest := []) (v := none) (fun l => con_X3_findTwo l v19 v21 a5 q16.2.1 v25 q23 _ g28) tw_823 tw_820 tw_821 tw_822 kX3 g29 tw_11 yn_X3_findTwo (by decide) (Nat.le_of_ble_eq_true rfl) dX11_two_74 rfl ?_
          show PT X 6 1 3 77 [(5, .ref a5), (0, .ref a0), (1, .int a1), (2, .int a2), (3, .int a3), (4, .int a4)] [] q27
          refine pt_iload C 5 rfl dX11_two_77 ?_
          by_cases c30 : a4 = 0
          · rw [if_pos c30] at hf
            refine pt_tabIn C (tgt := 108) (off := 29) (by rw [c30]; decide) (by rw [c30]; decide) (by rw [c30]; decide) (by decide) dX11_two_79 ?_
            refine pt_aload_n C 1 rfl rfl dX11_two_108 ?_
            refine ob hf (fun v31 g32 hf => ?_)
            refine pt_getR C kX11 10 (by decide) tw_317 (Or.inl rfl) g32 dX11_two_109 ?_
            refine ob hf (fun v33 g34 hf => ?_)
            refine pt_getI C kX3 1 (by decide) tw_267 (Or.inl rfl) g34 dX11_two_112 ?_
            exact pt_iret C (K _ _ (Option.some.inj hf).symm) (by decide) (by decide) dX11_two_115
          · rw [if_neg c30] at hf
            by_cases c35 : a4 = 1
            · rw [if_pos c35] at hf
              refine pt_tabIn C (tgt := 116) (off := 37) (by rw [c35]; decide) (by rw [c35]; decide) (by rw [c35]; decide) (by decide) dX11_two_79 ?_
              refine pt_aload_n C 1 rfl rfl dX11_two_116 ?_
              refine ob hf (fun v36 g37 hf => ?_)
              refine pt_getR C kX11 10 (by decide) tw_317 (Or.inl rfl) g37 dX11_two_117 ?_
              refine ob hf (fun v38 g39 hf => ?_)
              refine pt_getI C kX3 2 (by decide) tw_269 (Or.inl rfl) g39 dX11_two_120 ?_
              exact pt_iret C (K _ _ (Option.some.inj hf).symm) (by decide) (by decide) dX11_two_123
            · rw [if_neg c35] at hf
              by_cases c40 : a4 = 2
              · rw [if_pos c40] at hf
                refine pt_tabIn C (tgt := 124) (off := 45) (by rw [c40]; decide) (by rw [c40]; decide) (by rw [c40]; decide) (by decide) dX11_two_79 ?_
                refine pt_aload_n C 1 rfl rfl dX11_two_124 ?_
                refine ob hf (fun v41 g42 hf => ?_)
                refine pt_getR C kX11 10 (by decide) tw_317 (Or.inl rfl) g42 dX11_two_125 ?_
                refine ob hf (fun v43 g44 hf => ?_)
                refine pt_getI C kX3 3 (by decide) tw_271 (Or.inl rfl) g44 dX11_two_128 ?_
                exact pt_iret C (K _ _ (Option.some.inj hf).symm) (by decide) (by decide) dX11_two_131
              · rw [if_neg c40] at hf
                by_cases c45 : a4 = 3
                · rw [if_pos c45] at hf
                  refine pt_tabIn C (tgt := 132) (off := 53) (by rw [c45]; decide) (by rw [c45]; decide) (by rw [c45]; decide) (by decide) dX11_two_79 ?_
                  refine pt_aload_n C 1 rfl rfl dX11_two_132 ?_
                  refine ob hf (fun v46 g47 hf => ?_)
                  refine pt_getR C kX11 10 (by decide) tw_317 (Or.inl rfl) g47 dX11_two_133 ?_
                  refine ob hf (fun v48 g49 hf => ?_)
                  refine pt_getI C kX3 4 (by decide) tw_273 (Or.inl rfl) g49 dX11_two_136 ?_
                  exact pt_iret C (K _ _ (Option.some.inj hf).symm) (by decide) (by decide) dX11_two_139
                · rw [if_neg c45] at hf
                  refine pt_tabOut C (tgt := 140) (tab_out 4 (fun j hj => by match j, hj with | 0, _ => exact c30 | 1, _ => exact c35 | 2, _ => exact c40 | 3, _ => exact c45)) (by decide) dX11_two_79 ?_
                  refine pt_aload_n C 1 rfl rfl dX11_two_140 ?_
                  refine ob hf (fun v50 g51 hf => ?_)
                  refine pt_getR C kX11 10 (by decide) tw_317 (Or.inl rfl) g51 dX11_two_141 ?_
                  refine ob hf (fun v52 g53 hf => ?_)
                  refine pt_getI C kX3 5 (by decide) tw_275 (Or.inl rfl) g53 dX11_two_144 ?_
                  exact pt_iret C (K _ _ (Option.some.inj hf).symm) (by decide) (by decide) dX11_two_147
        · rw [if_neg c18] at hf
          refine pt_iconst C (v := (-1)) (by decide) dX11_two_47 ?_
          exact pt_iret C (K _ _ (Option.some.inj hf).symm) (by decide) (by decide) dX11_two_48
      · rw [if_pos c11] at hf
        refine pt_bipush C (v := (-2)) (by decide) dX11_two_30 ?_
        exact pt_iret C (K _ _ (Option.some.inj hf).symm) (by decide) (by decide) dX11_two_32
theorem con_X11_two (l : Launch) (a0 : Nat) (a1 : Int32) (a2 : Int32) (a3 : Int32) (a4 : Int32) (h : AH) (q : Int32 × AH) (hf : f_X11_two a0 a1 a2 a3 a4 h = some q) : Con l yX11_two cX11_two 6 (some .int) rmX11_two [.ref a0, .int a1, .int a2, .int a3, .int a4] h (some (.int q.1)) q.2 := Con.of (by decide +kernel) (Nat.le_of_ble_eq_true rfl) (fun X C I K => w_X11_two_0 C a0 a1 a2 a3 a4 h q hf (fun v h2 e => by cases e; exact K))
abbrev rmX3_findOne : Room := { frames := 5, cells := 0, slots := 0, locals := 121 }
theorem yn_X3_findOne : YN yX3_findOne 4 := by refine ⟨?_, ?_, ?_⟩ <;> decide +kernel
set_option maxRecDepth 100000 in
set_option maxHeartbeats 4000000 in
theorem w_X3_findOne_L46 {X : MX} (C : CX X cX3_findOne 8 RX3 none rmX3_findOne) (x0 : Nat) (x1 : Nat) (x2 : Nat) (x3 : Nat) (x4 : Nat) (x5 : Int32) (s : Int32 × AH) (res : (Int32 × AH) ⊕ ((AH))) (hf : f_X3_findOne_L46 x0 x1 x2 x3 x4 x5 s = some res) (K0 : ∀ (u6 : Int32) (hu : AH), res = .inl (u6, hu) → PT X 8 0 0 46 [(0, .ref x0), (1, .ref x1), (2, .ref x2), (3, .ref x3), (4, .ref x4), (5, .int x5), (6, .int u6)] [] hu) (K1 : ∀ (hu : AH), res = .inr (hu) → PT X 8 0 0 128 [(0, .ref x0), (1, .ref x1), (2, .ref x2), (3, .ref x3), (4, .ref x4), (5, .int x5)] [] hu) : PT X 8 0 0 46 [(0, .ref x0), (1, .ref x1), (2, .ref x2), (3, .ref x3), (4, .ref x4), (5, .int x5), (6, .int s.1)] [] s.2 := by
  unfold f_X3_findOne_L46 at hf
  refine pt_iload C 6 rfl dX3_findOne_46 ?_
  refine pt_iconst C (v := 3) (by decide) dX3_findOne_48 ?_
  refine pt_icmp_gt C (tgt := 128) (by decide) dX3_findOne_49 (fun c18 => ?_) (fun c18 => ?_)
  · rw [if_pos c18] at hf
    refine pt_sub C [(0, .ref x0), (1, .ref x1), (2, .ref x2), (3, .ref x3), (4, .ref x4), (5, .int x5)] [0, 1, 2, 3, 4, 5] rfl ?_
    exact K1 _ (Option.some.inj hf).symm
  · rw [if_neg c18] at hf
    refine pt_aload_n C 1 rfl rfl dX3_findOne_52 ?_
    refine ob hf (fun v19 g20 hf => ?_)
    refine pt_getI C kX0 7 (by decide) tw_108 (Or.inl rfl) g20 dX3_findOne_53 ?_
    refine pt_iload C 5 rfl dX3_findOne_56 ?_
    refine ob hf (fun q21 g22 hf => ?_)
    refine pt_callSN C (As := [.int v19, .int x5]) (rest := []) (v := (some (.int q21.1))) (fun l => con_X11_isIn l v19 x5 s.2 _ g22) tw_572 (host := "HeaveSongs") (by decide +kernel) tw_571 tw_1 yn_X11_isIn (by decide) (Nat.le_of_ble_eq_true rfl) dX3_findOne_58 rfl ?_
    show PT X 8 0 0 61 [(0, .ref x0), (1, .ref x1), (2, .ref x2), (3, .ref x3), (4, .ref x4), (5, .int x5), (6, .int s.1)] [.int q21.1] q21.2
    refine pt_if_eq C (tgt := 128) (by decide) dX3_findOne_61 (fun c23 => ?_) (fun c23 => ?_)
    · rw [if_pos c23] at hf
      refine pt_sub C [(0, .ref x0), (1, .ref x1), (2, .ref x2), (3, .ref x3), (4, .ref x4), (5, .int x5)] [0, 1, 2, 3, 4, 5] rfl ?_
      exact K1 _ (Option.some.inj hf).symm
    · rw [if_neg c23] at hf
      refine pt_aload_n C 0 rfl rfl dX3_findOne_64 ?_
      refine ob hf (fun v24 g25 hf => ?_)
      refine pt_getR C kX3 0 (by decide) tw_265 (Or.inl rfl) g25 dX3_findOne_65 ?_
      refine pt_aload_n C 1 rfl rfl dX3_findOne_68 ?_
      refine ob hf (fun _ g28 hf => ?_)
      refine ob hf (fun q26 g27 hf => ?_)
      refine pt_callV C (As := [.ref x1]) (rest := []) (v := none) (fun l => con_X1_beginFresh l v24 x1 q21.2 _ g27) tw_795 tw_792 tw_793 tw_794 kX1 g28 tw_7 yn_X1_beginFresh (by decide) (Nat.le_of_ble_eq_true rfl) dX3_findOne_69 rfl ?_
      show PT X 8 0 0 72 [(0, .ref x0), (1, .ref x1), (2, .ref x2), (3, .ref x3), (4, .ref x4), (5, .int x5), (6, .int s.1)] [] q26
      refine pt_aload_n C 0 rfl rfl dX3_findOne_72 ?_
      refine ob hf (fun v29 g30 hf => ?_)
      refine pt_getR C kX3 0 (by decide) tw_265 (Or.inl rfl) g30 dX3_findOne_73 ?_
      refine ob hf (fun v31 g32 hf => ?_)
      refine pt_getR C kX1 1 (by decide) tw_142 (Or.inl rfl) g32 dX3_findOne_76 ?_
      refine pt_iload C 5 rfl dX3_findOne_79 ?_
      refine pt_iload C 6 rfl dX3_findOne_81 ?_
      refine ob hf (fun h33 g34 hf => ?_)
      refine pt_iast C g34 dX3_findOne_83 ?_
      refine pt_aload_n C 0 rfl rfl dX3_findOne_84 ?_
      refine pt_aload_n C 1 rfl rfl dX3_findOne_85 ?_
      refine pt_aload_n C 2 rfl rfl dX3_findOne_86 ?_
      refine pt_aload_n C 3 rfl rfl dX3_findOne_87 ?_
      refine pt_aload C 4 rfl dX3_findOne_88 ?_
      refine ob hf (fun _ g37 hf => ?_)
      refine ob hf (fun q35 g36 hf => ?_)
      refine pt_callV C (As := [.ref x1, .ref x2, .ref x3, .ref x4]) (rest := []) (v := (some (.int q35.1))) (fun l => con_X3_sumOfTrial l x0 x1 x2 x3 x4 h33 _ g36) tw_799 tw_796 tw_798 tp_18 kX3 g37 tw_11 yn_X3_sumOfTrial (by decide) (Nat.le_of_ble_eq_true rfl) dX3_findOne_90 rfl ?_
      show PT X 8 0 0 93 [(0, .ref x0), (1, .ref x1), (2, .ref x2), (3, .ref x3), (4, .ref x4), (5, .int x5), (6, .int s.1)] [.int q35.1] q35.2
      refine pt_istore C [(7, .int q35.1), (0, .ref x0), (1, .ref x1), (2, .ref x2), (3, .ref x3), (4, .ref x4), (5, .int x5), (6, .int s.1)] (by decide) rfl dX3_findOne_93 ?_
      refine pt_iload C 0 rfl dX3_findOne_95 ?_
      refine pt_aload_n C 1 rfl rfl dX3_findOne_97 ?_
      refine ob hf (fun v38 g39 hf => ?_)
      refine pt_getI C kX3 5 (by decide) tw_274 (Or.inl rfl) g39 dX3_findOne_98 ?_
      refine pt_icmp_ge C (tgt := 122) (by decide) dX3_findOne_101 (fun c40 => ?_) (fun c40 => ?_)
      · rw [if_pos c40] at hf
        refine pt_iinc C 7 [(6, .int (s.1 + 1)), (7, .int q35.1), (0, .ref x0), (1, .ref x1), (2, .ref x2), (3, .ref x3), (4, .ref x4), (5, .int x5)] rfl (iinc_eq s.1 (by decide)) (by decide) rfl dX3_findOne_122 ?_
        refine pt_goto C (tgt := 46) (by decide) dX3_findOne_125 ?_
        refine pt_sub C [(0, .ref x0), (1, .ref x1), (2, .ref x2), (3, .ref x3), (4, .ref x4), (5, .int x5), (6, .int (s.1 + 1))] [2, 3, 4, 5, 6, 7, 0] rfl ?_
        exact K0 _ _ (Option.some.inj hf).symm
      · rw [if_neg c40] at hf
        refine pt_aload_n C 1 rfl rfl dX3_findOne_104 ?_
        refine pt_iload C 0 rfl dX3_findOne_105 ?_
        refine ob hf (fun h41 g42 hf => ?_)
        refine pt_put C kX3 5 (by decide) tw_274 (Or.inl rfl) rfl rfl rfl g42 dX3_findOne_107 ?_
        refine pt_aload_n C 1 rfl rfl dX3_findOne_110 ?_
        refine pt_iload C 6 rfl dX3_findOne_111 ?_
        refine ob hf (fun h43 g44 hf => ?_)
        refine pt_put C kX3 1 (by decide) tw_266 (Or.inl rfl) rfl rfl rfl g44 dX3_findOne_113 ?_
        refine pt_aload_n C 1 rfl rfl dX3_findOne_116 ?_
        refine pt_iload C 7 rfl dX3_findOne_117 ?_
        refine ob hf (fun h45 g46 hf => ?_)
        refine pt_put C kX3 3 (by decide) tw_270 (Or.inl rfl) rfl rfl rfl g46 dX3_findOne_119 ?_
        refine pt_iinc C 7 [(6, .int (s.1 + 1)), (7, .int q35.1), (0, .ref x0), (1, .ref x1), (2, .ref x2), (3, .ref x3), (4, .ref x4), (5, .int x5)] rfl (iinc_eq s.1 (by decide)) (by decide) rfl dX3_findOne_122 ?_
        refine pt_goto C (tgt := 46) (by decide) dX3_findOne_125 ?_
        refine pt_sub C [(0, .ref x0), (1, .ref x1), (2, .ref x2), (3, .ref x3), (4, .ref x4), (5, .int x5), (6, .int (s.1 + 1))] [2, 3, 4, 5, 6, 7, 0] rfl ?_
        exact K0 _ _ (Option.some.inj hf).symm
theorem l_X3_findOne_L46 {X : MX} (C : CX X cX3_findOne 8 RX3 none rmX3_findOne) (x0 : Nat) (x1 : Nat) (x2 : Nat) (x3 : Nat) (x4 : Nat) (x5 : Int32) : ∀ (n : Nat) (s : Int32 × AH) (r : (AH)), iter (f_X3_findOne_L46 x0 x1 x2 x3 x4 x5) n s = some r → (fun r : (AH) => PT X 8 0 0 128 [(0, .ref x0), (1, .ref x1), (2, .ref x2), (3, .ref x3), (4, .ref x4), (5, .int x5)] [] r) r → PT X 8 0 0 46 [(0, .ref x0), (1, .ref x1), (2, .ref x2), (3, .ref x3), (4, .ref x4), (5, .int x5), (6, .int s.1)] [] s.2 :=
  iter_W (fun s : Int32 × AH => PT X 8 0 0 46 [(0, .ref x0), (1, .ref x1), (2, .ref x2), (3, .ref x3), (4, .ref x4), (5, .int x5), (6, .int s.1)] [] s.2) (fun r : (AH) => PT X 8 0 0 128 [(0, .ref x0), (1, .ref x1), (2, .ref x2), (3, .ref x3), (4, .ref x4), (5, .int x5)] [] r) _ (fun s s2 hf P => w_X3_findOne_L46 C x0 x1 x2 x3 x4 x5 s _ hf (fun u6 hu e => by cases e; exact P) (fun hu e => by cases e)) (fun s r hf P => w_X3_findOne_L46 C x0 x1 x2 x3 x4 x5 s _ hf (fun u6 hu e => by cases e) (fun hu e => by cases e; exact P))
set_option maxRecDepth 100000 in
set_option maxHeartbeats 4000000 in
theorem w_X3_findOne_L34 {X : MX} (C : CX X cX3_findOne 8 RX3 none rmX3_findOne) (x0 : Nat) (x1 : Nat) (x2 : Nat) (x3 : Nat) (x4 : Nat) (s : Int32 × AH) (res : (Int32 × AH) ⊕ ((AH))) (hf : f_X3_findOne_L34 x0 x1 x2 x3 x4 s = some res) (K0 : ∀ (u5 : Int32) (hu : AH), res = .inl (u5, hu) → PT X 8 0 0 34 [(0, .ref x0), (1, .ref x1), (2, .ref x2), (3, .ref x3), (4, .ref x4), (5, .int u5)] [] hu) (K1 : ∀ (hu : AH), res = .inr (hu) → PT X 8 0 0 134 [] [] hu) : PT X 8 0 0 34 [(0, .ref x0), (1, .ref x1), (2, .ref x2), (3, .ref x3), (4, .ref x4), (5, .int s.1)] [] s.2 := by
  unfold f_X3_findOne_L34 at hf
  refine pt_iload C 5 rfl dX3_findOne_34 ?_
  refine pt_aload_n C 1 rfl rfl dX3_findOne_36 ?_
  refine ob hf (fun v15 g16 hf => ?_)
  refine pt_getI C kX0 6 (by decide) tw_103 (Or.inl rfl) g16 dX3_findOne_37 ?_
  refine pt_icmp_ge C (tgt := 134) (by decide) dX3_findOne_40 (fun c17 => ?_) (fun c17 => ?_)
  · rw [if_pos c17] at hf
    refine pt_sub C [] [] rfl ?_
    exact K1 _ (Option.some.inj hf).symm
  · rw [if_neg c17] at hf
    refine pt_iconst C (v := 1) (by decide) dX3_findOne_43 ?_
    refine pt_istore C [(6, .int 1), (0, .ref x0), (1, .ref x1), (2, .ref x2), (3, .ref x3), (4, .ref x4), (5, .int s.1)] (by decide) rfl dX3_findOne_44 ?_
    refine pt_sub C [(0, .ref x0), (1, .ref x1), (2, .ref x2), (3, .ref x3), (4, .ref x4), (5, .int s.1), (6, .int 1)] [1, 2, 3, 4, 5, 6, 0] rfl ?_
    refine ob hf (fun e47 g48 hf => ?_)
    refine l_X3_findOne_L46 C x0 x1 x2 x3 x4 s.1 _ _ _ g48 ?_
    refine pt_iinc C 5 [(5, .int (s.1 + 1)), (0, .ref x0), (1, .ref x1), (2, .ref x2), (3, .ref x3), (4, .ref x4)] rfl (iinc_eq s.1 (by decide)) (by decide) rfl dX3_findOne_128 ?_
    refine pt_goto C (tgt := 34) (by decide) dX3_findOne_131 ?_
    refine pt_sub C [(0, .ref x0), (1, .ref x1), (2, .ref x2), (3, .ref x3), (4, .ref x4), (5, .int (s.1 + 1))] [1, 2, 3, 4, 5, 0] rfl ?_
    exact K0 _ _ (Option.some.inj hf).symm
theorem l_X3_findOne_L34 {X : MX} (C : CX X cX3_findOne 8 RX3 none rmX3_findOne) (x0 : Nat) (x1 : Nat) (x2 : Nat) (x3 : Nat) (x4 : Nat) : ∀ (n : Nat) (s : Int32 × AH) (r : (AH)), iter (f_X3_findOne_L34 x0 x1 x2 x3 x4) n s = some r → (fun r : (AH) => PT X 8 0 0 134 [] [] r) r → PT X 8 0 0 34 [(0, .ref x0), (1, .ref x1), (2, .ref x2), (3, .ref x3), (4, .ref x4), (5, .int s.1)] [] s.2 :=
  iter_W (fun s : Int32 × AH => PT X 8 0 0 34 [(0, .ref x0), (1, .ref x1), (2, .ref x2), (3, .ref x3), (4, .ref x4), (5, .int s.1)] [] s.2) (fun r : (AH) => PT X 8 0 0 134 [] [] r) _ (fun s s2 hf P => w_X3_findOne_L34 C x0 x1 x2 x3 x4 s _ hf (fun u5 hu e => by cases e; exact P) (fun hu e => by cases e)) (fun s r hf P => w_X3_findOne_L34 C x0 x1 x2 x3 x4 s _ hf (fun u5 hu e => by cases e) (fun hu e => by cases e; exact P))
set_option maxRecDepth 100000 in
set_option maxHeartbeats 4000000 in
theorem w_X3_findOne_0 {X : MX} (C : CX X cX3_findOne 8 RX3 none rmX3_findOne) (a0 : Nat) (a1 : Nat) (a2 : Nat) (a3 : Nat) (a4 : Nat) (h : AH) (res : AH) (hf : f_X3_findOne a0 a1 a2 a3 a4 h = some res) (K : PR X rmX3_findOne none res) : PT X 8 0 0 0 [(0, .ref a0), (1, .ref a1), (2, .ref a2), (3, .ref a3), (4, .ref a4)] [] h := by
  unfold f_X3_findOne at hf
  refine pt_aload_n C 0 rfl rfl dX3_findOne_0 ?_
  refine pt_iconst C (v := (-1)) (by decide) dX3_findOne_1 ?_
  refine ob hf (fun h1 g2 hf => ?_)
  refine pt_put C kX3 1 (by decide) tw_266 (Or.inl rfl) rfl rfl rfl g2 dX3_findOne_2 ?_
  refine pt_aload_n C 0 rfl rfl dX3_findOne_5 ?_
  refine pt_iconst C (v := 0) (by decide) dX3_findOne_6 ?_
  refine ob hf (fun h3 g4 hf => ?_)
  refine pt_put C kX3 3 (by decide) tw_270 (Or.inl rfl) rfl rfl rfl g4 dX3_findOne_7 ?_
  refine pt_aload_n C 0 rfl rfl dX3_findOne_10 ?_
  refine ob hf (fun v5 g6 hf => ?_)
  refine pt_getR C kX3 0 (by decide) tw_265 (Or.inl rfl) g6 dX3_findOne_11 ?_
  refine pt_aload_n C 1 rfl rfl dX3_findOne_14 ?_
  refine ob hf (fun _ g9 hf => ?_)
  refine ob hf (fun q7 g8 hf => ?_)
  refine pt_callV C (As := [.ref a1]) (rest := []) (v := none) (fun l => con_X1_beginFresh l v5 a1 h3 _ g8) tw_795 tw_792 tw_793 tw_794 kX1 g9 tw_7 yn_X1_beginFresh (by decide) (Nat.le_of_ble_eq_true rfl) dX3_findOne_15 rfl ?_
  show PT X 8 0 0 18 [(0, .ref a0), (1, .ref a1), (2, .ref a2), (3, .ref a3), (4, .ref a4)] [] q7
  refine pt_aload_n C 0 rfl rfl dX3_findOne_18 ?_
  refine pt_aload_n C 0 rfl rfl dX3_findOne_19 ?_
  refine pt_aload_n C 1 rfl rfl dX3_findOne_20 ?_
  refine pt_aload_n C 2 rfl rfl dX3_findOne_21 ?_
  refine pt_aload_n C 3 rfl rfl dX3_findOne_22 ?_
  refine pt_aload C 4 rfl dX3_findOne_23 ?_
  refine ob hf (fun _ g12 hf => ?_)
  refine ob hf (fun q10 g11 hf => ?_)
  refine pt_callV C (As := [.ref a1, .ref a2, .ref a3, .ref a4]) (rest := [.ref a0]) (v := (some (.int q10.1))) (fun l => con_X3_sumOfTrial l a0 a1 a2 a3 a4 q7 _ g11) tw_799 tw_796 tw_798 tp_18 kX3 g12 tw_11 yn_X3_sumOfTrial (by decide) (Nat.le_of_ble_eq_true rfl) dX3_findOne_25 rfl ?_
  show PT X 8 0 0 28 [(0, .ref a0), (1, .ref a1), (2, .ref a2), (3, .ref a3), (4, .ref a4)] [.int q10.1, .ref a0] q10.2
  refine ob hf (fun h13 g14 hf => ?_)
  refine pt_put C kX3 5 (by decide) tw_274 (Or.inl rfl) rfl rfl rfl g14 dX3_findOne_28 ?_
  refine pt_iconst C (v := 0) (by decide) dX3_findOne_31 ?_
  refine pt_istore C [(5, .int 0), (0, .ref a0), (1, .ref a1), (2, .ref a2), (3, .ref a3), (4, .ref a4)] (by decide) rfl dX3_findOne_32 ?_
  refine pt_sub C [(0, .ref a0), (1, .ref a1), (2, .ref a2), (3, .ref a3), (4, .ref a4), (5, .int 0)] [1, 2, 3, 4, 5, 0] rfl ?_
  refine ob hf (fun e49 g50 hf => ?_)
  refine l_X3_findOne_L34 C a0 a1 a2 a3 a4 _ _ _ g50 ?_
  obtain rfl := Option.some.inj hf
  exact pt_vret C K (by decide) (by decide) dX3_findOne_134
theorem con_X3_findOne (l : Launch) (a0 : Nat) (a1 : Nat) (a2 : Nat) (a3 : Nat) (a4 : Nat) (h : AH) (q : AH) (hf : f_X3_findOne a0 a1 a2 a3 a4 h = some q) : Con l yX3_findOne cX3_findOne 8 none rmX3_findOne [.ref a0, .ref a1, .ref a2, .ref a3, .ref a4] h none q := Con.of (by decide +kernel) (Nat.le_of_ble_eq_true rfl) (fun X C I K => w_X3_findOne_0 C a0 a1 a2 a3 a4 h q hf K)
abbrev rmX11_who : Room := { frames := 6, cells := 1, slots := 3, locals := 148 }
theorem yn_X11_who : YN yX11_who 4 := by refine ⟨?_, ?_, ?_⟩ <;> decide +kernel
set_option maxRecDepth 100000 in
set_option maxHeartbeats 4000000 in
theorem w_X11_who_0 {X : MX} (C : CX X cX11_who 6 RX11 (some .int) rmX11_who) (a0 : Nat) (a1 : Int32) (a2 : Int32) (a3 : Int32) (a4 : Int32) (h : AH) (res : Int32 × AH) (hf : f_X11_who a0 a1 a2 a3 a4 h = some res) (K : ∀ (v : Int32) (h2 : AH), res = (v, h2) → PR X rmX11_who (some (.int v)) h2) : PT X 6 0 0 0 [(0, .ref a0), (1, .int a1), (2, .int a2), (3, .int a3), (4, .int a4)] [] h := by
  unfold f_X11_who at hf
  refine pt_aload_n C 0 rfl rfl dX11_who_0 ?_
  refine pt_iload_n C 1 rfl rfl dX11_who_1 ?_
  refine ob hf (fun _ g3 hf => ?_)
  refine ob hf (fun q1 g2 hf => ?_)
  refine pt_callV C (As := [.int a1]) (rest := []) (v := (some (va_rf q1.1))) (fun l => con_X11_songOf l a0 a1 h _ g2) tw_458 tw_455 tw_457 tp_3 kX11 g3 tw_1 yn_X11_songOf (by decide) (Nat.le_of_ble_eq_true rfl) dX11_who_2 rfl ?_
  show PT X 6 0 0 5 [(0, .ref a0), (1, .int a1), (2, .int a2), (3, .int a3), (4, .int a4)] [va_rf q1.1] q1.2
  refine pt_astoreQ C [(5, va_rf q1.1), (0, .ref a0), (1, .int a1), (2, .int a2), (3, .int a3), (4, .int a4)] (by decide) rfl dX11_who_5 ?_
  refine pt_aloadQ C 0 rfl dX11_who_7 ?_
  generalize q1.1 = o4 at hf ⊢
  cases o4 with
  | none =>
    dsimp only [Option.elim] at hf
    refine pt_ifnull0 C (tgt := 30) (by decide) dX11_who_9 ?_
    refine pt_bipush C (v := (-2)) (by decide) dX11_who_30 ?_
    exact pt_iret C (K _ _ (Option.some.inj hf).symm) (by decide) (by decide) dX11_who_32
  | some a5 =>
    dsimp only [Option.elim] at hf
    refine pt_ifnull1 C dX11_who_9 ?_
    refine pt_iload_n C 3 rfl rfl dX11_who_12 ?_
    refine pt_iload_n C 4 rfl rfl dX11_who_13 ?_
    refine ob hf (fun q6 g7 hf => ?_)
    refine pt_callS C (As := [.int a2, .int a3]) (rest := []) (v := (some (.int q6.1))) (fun l => con_X11_isWeight l a2 a3 q1.2 _ g7) tw_539 tw_537 tw_538 tw_1 yn_X11_isWeight (by decide) (Nat.le_of_ble_eq_true rfl) dX11_who_14 rfl ?_
    show PT X 6 0 0 17 [(5, .ref a5), (0, .ref a0), (1, .int a1), (2, .int a2), (3, .int a3), (4, .int a4)] [.int q6.1] q6.2
    refine pt_if_eq C (tgt := 30) (by decide) dX11_who_17 (fun c8 => ?_) (fun c8 => ?_)
    · rw [if_pos c8] at hf
      refine pt_bipush C (v := (-2)) (by decide) dX11_who_30 ?_
      exact pt_iret C (K _ _ (Option.some.inj hf).symm) (by decide) (by decide) dX11_who_32
    · rw [if_neg c8] at hf
      refine pt_iload C 5 rfl dX11_who_20 ?_
      refine pt_iconst C (v := 0) (by decide) dX11_who_22 ?_
      refine pt_iconst C (v := 2) (by decide) dX11_who_23 ?_
      refine ob hf (fun q9 g10 hf => ?_)
      refine pt_callS C (As := [.int a4, .int 0, .int 2]) (rest := []) (v := (some (.int q9.1))) (fun l => con_X11_within l a4 0 2 q6.2 _ g10) tw_461 tw_459 tw_460 tw_1 yn_X11_within (by decide) (Nat.le_of_ble_eq_true rfl) dX11_who_24 rfl ?_
      show PT X 6 0 0 27 [(5, .ref a5), (0, .ref a0), (1, .int a1), (2, .int a2), (3, .int a3), (4, .int a4)] [.int q9.1] q9.2
      refine pt_if_ne C (tgt := 33) (by decide) dX11_who_27 (fun c11 => ?_) (fun c11 => ?_)
      · rw [if_neg c11] at hf
        refine pt_aload_n C 1 rfl rfl dX11_who_33 ?_
        refine ob hf (fun v12 g13 hf => ?_)
        refine pt_getR C kX11 10 (by decide) tw_317 (Or.inl rfl) g13 dX11_who_34 ?_
        refine pt_aload_n C 1 rfl rfl dX11_who_37 ?_
        refine ob hf (fun v14 g15 hf => ?_)
        refine pt_getR C kX11 2 (by decide) tw_309 (Or.inl rfl) g15 dX11_who_38 ?_
        refine pt_aload C 0 rfl dX11_who_41 ?_
        refine pt_new C kX8 tw_545 tw_546 tw_21 [.int 0, .int 0, .int 0] (fun j hj => match j, hj with | 0, _ => rfl | 1, _ => rfl | 2, _ => rfl) (by decide) (by decide) dX11_who_43 ?_
        refine pt_dup C rfl dX11_who_46 ?_
        refine pt_ldc C tw_643 dX11_who_47 ?_
        refine pt_iload_n C 3 rfl rfl dX11_who_49 ?_
        refine pt_iload_n C 4 rfl rfl dX11_who_50 ?_
        refine ob hf (fun q16 g17 hf => ?_)
        refine pt_callI C (As := [.int 1000000000, .int a2, .int a3]) (rest := [.ref q9.2.1, .ref a5, .ref v14, .ref v12]) (v := none) (fun l => con_X8_init l q9.2.1 1000000000 a2 a3 (hnew q9.2 (.inr (9, [.int 0, .int 0, .int 0]))) _ g17) tw_549 tw_547 tw_548 rfl tw_21 yn_X8_init (by decide) (Nat.le_of_ble_eq_true rfl) dX11_who_51 rfl ?_
        show PT X 6 1 3 54 [(5, .ref a5), (0, .ref a0), (1, .int a1), (2, .int a2), (3, .int a3), (4, .int a4)] [.ref q9.2.1, .ref a5, .ref v14, .ref v12] q16
        refine pt_aload_n C 1 rfl rfl dX11_who_54 ?_
        refine ob hf (fun v18 g19 hf => ?_)
        refine pt_getR C kX11 9 (by decide) tw_316 (Or.inl rfl) g19 dX11_who_55 ?_
        refine ob hf (fun _ g22 hf => ?_)
        refine ob hf (fun q20 g21 hf => ?_)
        refine pt_callV C (As := [.ref v14, .ref a5, .ref q9.2.1, .ref v18]) (rest := []) (v := none) (fun l => con_X3_findOne l v12 v14 a5 q9.2.1 v18 q16 _ g21) tw_791 tw_788 tw_789 tw_790 kX3 g22 tw_11 yn_X3_findOne (by decide) (Nat.le_of_ble_eq_true rfl) dX11_who_58 rfl ?_
        show PT X 6 1 3 61 [(5, .ref a5), (0, .ref a0), (1, .int a1), (2, .int a2), (3, .int a3), (4, .int a4)] [] q20
        refine pt_iload C 5 rfl dX11_who_61 ?_
        by_cases c23 : a4 = 0
        · rw [if_pos c23] at hf
          refine pt_look C (tgt := 88) (off := 25) (by decide) (by rw [c23]; decide) (by decide) dX11_who_63 ?_
          refine pt_aload_n C 1 rfl rfl dX11_who_88 ?_
          refine ob hf (fun v24 g25 hf => ?_)
          refine pt_getR C kX11 10 (by decide) tw_317 (Or.inl rfl) g25 dX11_who_89 ?_
          refine ob hf (fun v26 g27 hf => ?_)
          refine pt_getI C kX3 1 (by decide) tw_267 (Or.inl rfl) g27 dX11_who_92 ?_
          exact pt_iret C (K _ _ (Option.some.inj hf).symm) (by decide) (by decide) dX11_who_95
        · rw [if_neg c23] at hf
          by_cases c28 : a4 = 1
          · rw [if_pos c28] at hf
            refine pt_look C (tgt := 96) (off := 33) (by decide) (by rw [c28]; decide) (by decide) dX11_who_63 ?_
            refine pt_aload_n C 1 rfl rfl dX11_who_96 ?_
            refine ob hf (fun v29 g30 hf => ?_)
            refine pt_getR C kX11 10 (by decide) tw_317 (Or.inl rfl) g30 dX11_who_97 ?_
            refine ob hf (fun v31 g32 hf => ?_)
            refine pt_getI C kX3 3 (by decide) tw_271 (Or.inl rfl) g32 dX11_who_100 ?_
            exact pt_iret C (K _ _ (Option.some.inj hf).symm) (by decide) (by decide) dX11_who_103
          · rw [if_neg c28] at hf
            refine pt_look C (tgt := 104) (off := 41) (by decide) (look_out2 c23 c28) (by decide) dX11_who_63 ?_
            refine pt_aload_n C 1 rfl rfl dX11_who_104 ?_
            refine ob hf (fun v33 g34 hf => ?_)
            refine pt_getR C kX11 10 (by decide) tw_317 (Or.inl rfl) g34 dX11_who_105 ?_
            refine ob hf (fun v35 g36 hf => ?_)
            refine pt_getI C kX3 5 (by decide) tw_275 (Or.inl rfl) g36 dX11_who_108 ?_
            exact pt_iret C (K _ _ (Option.some.inj hf).symm) (by decide) (by decide) dX11_who_111
      · rw [if_pos c11] at hf
        refine pt_bipush C (v := (-2)) (by decide) dX11_who_30 ?_
        exact pt_iret C (K _ _ (Option.some.inj hf).symm) (by decide) (by decide) dX11_who_32
theorem con_X11_who (l : Launch) (a0 : Nat) (a1 : Int32) (a2 : Int32) (a3 : Int32) (a4 : Int32) (h : AH) (q : Int32 × AH) (hf : f_X11_who a0 a1 a2 a3 a4 h = some q) : Con l yX11_who cX11_who 6 (some .int) rmX11_who [.ref a0, .int a1, .int a2, .int a3, .int a4] h (some (.int q.1)) q.2 := Con.of (by decide +kernel) (Nat.le_of_ble_eq_true rfl) (fun X C I K => w_X11_who_0 C a0 a1 a2 a3 a4 h q hf (fun v h2 e => by cases e; exact K))
abbrev rmX11_wipe : Room := { frames := 0, cells := 0, slots := 0, locals := 0 }
theorem yn_X11_wipe : YN yX11_wipe 0 := by refine ⟨?_, ?_, ?_⟩ <;> decide +kernel
set_option maxRecDepth 100000 in
set_option maxHeartbeats 4000000 in
theorem w_X11_wipe_0 {X : MX} (C : CX X cX11_wipe 2 RX11 (some .int) rmX11_wipe) (a0 : Nat) (h : AH) (res : Int32 × AH) (hf : f_X11_wipe a0 h = some res) (K : ∀ (v : Int32) (h2 : AH), res = (v, h2) → PR X rmX11_wipe (some (.int v)) h2) : PT X 2 0 0 0 [(0, .ref a0)] [] h := by
  unfold f_X11_wipe at hf
  refine pt_aload_n C 0 rfl rfl dX11_wipe_0 ?_
  refine ob hf (fun v1 g2 hf => ?_)
  refine pt_getR C kX11 9 (by decide) tw_316 (Or.inl rfl) g2 dX11_wipe_1 ?_
  refine ob hf (fun v3 g4 hf => ?_)
  refine pt_getI C kX5 2 (by decide) tw_249 (Or.inl rfl) g4 dX11_wipe_4 ?_
  refine pt_istore_n C [(1, .int v3), (0, .ref a0)] rfl (by decide) rfl dX11_wipe_7 ?_
  refine pt_aload_n C 1 rfl rfl dX11_wipe_8 ?_
  refine ob hf (fun v5 g6 hf => ?_)
  refine pt_getR C kX11 9 (by decide) tw_316 (Or.inl rfl) g6 dX11_wipe_9 ?_
  refine pt_iconst C (v := 0) (by decide) dX11_wipe_12 ?_
  refine ob hf (fun h7 g8 hf => ?_)
  refine pt_put C kX5 2 (by decide) tw_249 (Or.inl rfl) rfl rfl rfl g8 dX11_wipe_13 ?_
  refine pt_iload_n C 0 rfl rfl dX11_wipe_16 ?_
  exact pt_iret C (K _ _ (Option.some.inj hf).symm) (by decide) (by decide) dX11_wipe_17
theorem con_X11_wipe (l : Launch) (a0 : Nat) (h : AH) (q : Int32 × AH) (hf : f_X11_wipe a0 h = some q) : Con l yX11_wipe cX11_wipe 2 (some .int) rmX11_wipe [.ref a0] h (some (.int q.1)) q.2 := Con.of (by decide +kernel) (Nat.le_of_ble_eq_true rfl) (fun X C I K => w_X11_wipe_0 C a0 h q hf (fun v h2 e => by cases e; exact K))
abbrev rmX11_won : Room := { frames := 1, cells := 0, slots := 0, locals := 22 }
theorem yn_X11_won : YN yX11_won 1 := by refine ⟨?_, ?_, ?_⟩ <;> decide +kernel
set_option maxRecDepth 100000 in
set_option maxHeartbeats 4000000 in
theorem w_X11_won_0 {X : MX} (C : CX X cX11_won 2 RX11 (some .int) rmX11_won) (a0 : Nat) (a1 : Int32) (h : AH) (res : Int32 × AH) (hf : f_X11_won a0 a1 h = some res) (K : ∀ (v : Int32) (h2 : AH), res = (v, h2) → PR X rmX11_won (some (.int v)) h2) : PT X 2 0 0 0 [(0, .ref a0), (1, .int a1)] [] h := by
  unfold f_X11_won at hf
  refine pt_aload_n C 0 rfl rfl dX11_won_0 ?_
  refine pt_aload_n C 0 rfl rfl dX11_won_1 ?_
  refine ob hf (fun v1 g2 hf => ?_)
  refine pt_getR C kX11 3 (by decide) tw_310 (Or.inl rfl) g2 dX11_won_2 ?_
  refine ob hf (fun v3 g4 hf => ?_)
  refine pt_getR C kX1 2 (by decide) tw_145 (Or.inl rfl) g4 dX11_won_5 ?_
  refine pt_iload_n C 1 rfl rfl dX11_won_8 ?_
  refine ob hf (fun _ g7 hf => ?_)
  refine ob hf (fun q5 g6 hf => ?_)
  refine pt_callV C (As := [.ref v3, .int a1]) (rest := []) (v := (some (.int q5.1))) (fun l => con_X11_ofLatest l a0 v3 a1 h _ g6) tw_606 tw_603 tw_605 tp_9 kX11 g7 tw_1 yn_X11_ofLatest (by decide) (Nat.le_of_ble_eq_true rfl) dX11_won_9 rfl ?_
  show PT X 2 0 0 12 [(0, .ref a0), (1, .int a1)] [.int q5.1] q5.2
  exact pt_iret C (K _ _ (Option.some.inj hf).symm) (by decide) (by decide) dX11_won_12
theorem con_X11_won (l : Launch) (a0 : Nat) (a1 : Int32) (h : AH) (q : Int32 × AH) (hf : f_X11_won a0 a1 h = some q) : Con l yX11_won cX11_won 2 (some .int) rmX11_won [.ref a0, .int a1] h (some (.int q.1)) q.2 := Con.of (by decide +kernel) (Nat.le_of_ble_eq_true rfl) (fun X C I K => w_X11_won_0 C a0 a1 h q hf (fun v h2 e => by cases e; exact K))
abbrev rmX11_word : Room := { frames := 7, cells := 2, slots := 18, locals := 191 }
theorem yn_X11_word : YN yX11_word 2 := by refine ⟨?_, ?_, ?_⟩ <;> decide +kernel
set_option maxRecDepth 100000 in
set_option maxHeartbeats 4000000 in
theorem w_X11_word_0 {X : MX} (C : CX X cX11_word 3 RX11 (some .int) rmX11_word) (a0 : Nat) (a1 : Int32) (a2 : Int32) (h : AH) (res : Int32 × AH) (hf : f_X11_word a0 a1 a2 h = some res) (K : ∀ (v : Int32) (h2 : AH), res = (v, h2) → PR X rmX11_word (some (.int v)) h2) : PT X 3 0 0 0 [(0, .ref a0), (1, .int a1), (2, .int a2)] [] h := by
  unfold f_X11_word at hf
  refine pt_iload_n C 1 rfl rfl dX11_word_0 ?_
  refine pt_iconst C (v := 1) (by decide) dX11_word_1 ?_
  refine pt_iconst C (v := 5) (by decide) dX11_word_2 ?_
  refine ob hf (fun q1 g2 hf => ?_)
  refine pt_callS C (As := [.int a1, .int 1, .int 5]) (rest := []) (v := (some (.int q1.1))) (fun l => con_X11_within l a1 1 5 h _ g2) tw_461 tw_459 tw_460 tw_1 yn_X11_within (by decide) (Nat.le_of_ble_eq_true rfl) dX11_word_3 rfl ?_
  show PT X 3 0 0 6 [(0, .ref a0), (1, .int a1), (2, .int a2)] [.int q1.1] q1.2
  refine pt_if_eq C (tgt := 22) (by decide) dX11_word_6 (fun c3 => ?_) (fun c3 => ?_)
  · rw [if_pos c3] at hf
    refine pt_bipush C (v := (-2)) (by decide) dX11_word_22 ?_
    exact pt_iret C (K _ _ (Option.some.inj hf).symm) (by decide) (by decide) dX11_word_24
  · rw [if_neg c3] at hf
    refine pt_iload_n C 2 rfl rfl dX11_word_9 ?_
    refine pt_iconst C (v := 0) (by decide) dX11_word_10 ?_
    refine pt_iconst C (v := 1) (by decide) dX11_word_11 ?_
    refine pt_iload_n C 1 rfl rfl dX11_word_12 ?_
    refine pt_ishl C dX11_word_13 ?_
    refine pt_iconst C (v := 1) (by decide) dX11_word_14 ?_
    refine pt_isub C dX11_word_15 ?_
    refine ob hf (fun q4 g5 hf => ?_)
    refine pt_callS C (As := [.int a2, .int 0, .int ((1 <<< (a1 &&& 31)) - 1)]) (rest := []) (v := (some (.int q4.1))) (fun l => con_X11_within l a2 0 ((1 <<< (a1 &&& 31)) - 1) q1.2 _ g5) tw_461 tw_459 tw_460 tw_1 yn_X11_within (by decide) (Nat.le_of_ble_eq_true rfl) dX11_word_16 rfl ?_
    show PT X 3 0 0 19 [(0, .ref a0), (1, .int a1), (2, .int a2)] [.int q4.1] q4.2
    refine pt_if_ne C (tgt := 25) (by decide) dX11_word_19 (fun c6 => ?_) (fun c6 => ?_)
    · rw [if_neg c6] at hf
      refine pt_aload_n C 0 rfl rfl dX11_word_25 ?_
      refine ob hf (fun v7 g8 hf => ?_)
      refine pt_getR C kX11 7 (by decide) tw_314 (Or.inl rfl) g8 dX11_word_26 ?_
      refine ob hf (fun _ g11 hf => ?_)
      refine ob hf (fun q9 g10 hf => ?_)
      refine pt_callV C (As := []) (rest := []) (v := (some (.int q9.1))) (fun l => con_Jx4a65c_size_8abf5 l v7 q4.2 _ g10) tw_363 tw_360 tw_361 tw_362 kJx4a65c g11 tw_5 yn_Jx4a65c_size_8abf5 (by decide) (Nat.le_of_ble_eq_true rfl) dX11_word_29 rfl ?_
      show PT X 3 0 0 32 [(0, .ref a0), (1, .int a1), (2, .int a2)] [.int q9.1] q9.2
      refine pt_bipush C (v := 12) (by decide) dX11_word_32 ?_
      refine pt_icmp_lt C (tgt := 40) (by decide) dX11_word_34 (fun c12 => ?_) (fun c12 => ?_)
      · rw [if_pos c12] at hf
        refine pt_aload_n C 0 rfl rfl dX11_word_40 ?_
        refine ob hf (fun v13 g14 hf => ?_)
        refine pt_getR C kX11 7 (by decide) tw_314 (Or.inl rfl) g14 dX11_word_41 ?_
        refine pt_new C kX10 tw_675 tw_676 tw_23 [.int 0, .int 0] (fun j hj => match j, hj with | 0, _ => rfl | 1, _ => rfl) (by decide) (by decide) dX11_word_44 ?_
        refine pt_dup C rfl dX11_word_47 ?_
        refine pt_iload_n C 1 rfl rfl dX11_word_48 ?_
        refine pt_iload_n C 2 rfl rfl dX11_word_49 ?_
        refine ob hf (fun q15 g16 hf => ?_)
        refine pt_callI C (As := [.int a1, .int a2]) (rest := [.ref q9.2.1, .ref v13]) (v := none) (fun l => con_X10_init l q9.2.1 a1 a2 (hnew q9.2 (.inr (11, [.int 0, .int 0]))) _ g16) tw_679 tw_677 tw_678 rfl tw_23 yn_X10_init (by decide) (Nat.le_of_ble_eq_true rfl) dX11_word_50 rfl ?_
        show PT X 3 1 2 53 [(0, .ref a0), (1, .int a1), (2, .int a2)] [.ref q9.2.1, .ref v13] q15
        refine ob hf (fun _ g19 hf => ?_)
        refine ob hf (fun q17 g18 hf => ?_)
        refine pt_callV C (As := [.ref q9.2.1]) (rest := []) (v := (some (.int q17.1))) (fun l => con_Jx4a65c_add_9ea2d l v13 q9.2.1 q15 _ g18) tw_393 tw_390 tw_391 tw_392 kJx4a65c g19 tw_5 yn_Jx4a65c_add_9ea2d (by decide) (Nat.le_of_ble_eq_true rfl) dX11_word_53 rfl ?_
        show PT X 3 2 18 56 [(0, .ref a0), (1, .int a1), (2, .int a2)] [.int q17.1] q17.2
        refine pt_pop C rfl dX11_word_56 ?_
        refine pt_aload_n C 0 rfl rfl dX11_word_57 ?_
        refine ob hf (fun v20 g21 hf => ?_)
        refine pt_getR C kX11 7 (by decide) tw_314 (Or.inl rfl) g21 dX11_word_58 ?_
        refine ob hf (fun _ g24 hf => ?_)
        refine ob hf (fun q22 g23 hf => ?_)
        refine pt_callV C (As := []) (rest := []) (v := (some (.int q22.1))) (fun l => con_Jx4a65c_size_8abf5 l v20 q17.2 _ g23) tw_363 tw_360 tw_361 tw_362 kJx4a65c g24 tw_5 yn_Jx4a65c_size_8abf5 (by decide) (Nat.le_of_ble_eq_true rfl) dX11_word_61 rfl ?_
        show PT X 3 2 18 64 [(0, .ref a0), (1, .int a1), (2, .int a2)] [.int q22.1] q22.2
        refine pt_iconst C (v := 1) (by decide) dX11_word_64 ?_
        refine pt_isub C dX11_word_65 ?_
        exact pt_iret C (K _ _ (Option.some.inj hf).symm) (by decide) (by decide) dX11_word_66
      · rw [if_neg c12] at hf
        refine pt_bipush C (v := (-4)) (by decide) dX11_word_37 ?_
        exact pt_iret C (K _ _ (Option.some.inj hf).symm) (by decide) (by decide) dX11_word_39
    · rw [if_pos c6] at hf
      refine pt_bipush C (v := (-2)) (by decide) dX11_word_22 ?_
      exact pt_iret C (K _ _ (Option.some.inj hf).symm) (by decide) (by decide) dX11_word_24
theorem con_X11_word (l : Launch) (a0 : Nat) (a1 : Int32) (a2 : Int32) (h : AH) (q : Int32 × AH) (hf : f_X11_word a0 a1 a2 h = some q) : Con l yX11_word cX11_word 3 (some .int) rmX11_word [.ref a0, .int a1, .int a2] h (some (.int q.1)) q.2 := Con.of (by decide +kernel) (Nat.le_of_ble_eq_true rfl) (fun X C I K => w_X11_word_0 C a0 a1 a2 h q hf (fun v h2 e => by cases e; exact K))
abbrev rmX12_in : Room := { frames := 0, cells := 0, slots := 0, locals := 0 }
theorem yn_X12_in : YN yX12_in 3 := by refine ⟨?_, ?_, ?_⟩ <;> decide +kernel
set_option maxRecDepth 100000 in
set_option maxHeartbeats 4000000 in
theorem w_X12_in_0 {X : MX} (C : CX X cX12_in 6 RX12 (some .boolean) rmX12_in) (a0 : Int64) (a2 : Int64) (a4 : Int64) (h : AH) (res : Int32 × AH) (hf : f_X12_in a0 a2 a4 h = some res) (K : ∀ (v : Int32) (h2 : AH), res = (v, h2) → PR X rmX12_in (some (.int v)) h2) : PT X 6 0 0 0 [(0, .long a0), (2, .long a2), (4, .long a4)] [] h := by
  unfold f_X12_in at hf
  refine pt_lload_n C 0 rfl rfl dX12_in_0 ?_
  refine pt_lload_n C 1 rfl rfl dX12_in_1 ?_
  refine pt_lcmp C dX12_in_2 ?_
  refine pt_if_lt C (tgt := 17) (by decide) dX12_in_3 (fun c1 => ?_) (fun c1 => ?_)
  · rw [if_pos c1] at hf
    refine pt_iconst C (v := 0) (by decide) dX12_in_17 ?_
    exact pt_zret C (by decide) (K _ _ (Option.some.inj hf).symm) (by decide) (by decide) dX12_in_18
  · rw [if_neg c1] at hf
    refine pt_lload_n C 0 rfl rfl dX12_in_6 ?_
    refine pt_lload C 2 rfl dX12_in_7 ?_
    refine pt_lcmp C dX12_in_9 ?_
    refine pt_if_gt C (tgt := 17) (by decide) dX12_in_10 (fun c2 => ?_) (fun c2 => ?_)
    · rw [if_pos c2] at hf
      refine pt_iconst C (v := 0) (by decide) dX12_in_17 ?_
      exact pt_zret C (by decide) (K _ _ (Option.some.inj hf).symm) (by decide) (by decide) dX12_in_18
    · rw [if_neg c2] at hf
      refine pt_iconst C (v := 1) (by decide) dX12_in_13 ?_
      refine pt_goto C (tgt := 18) (by decide) dX12_in_14 ?_
      exact pt_zret C (by decide) (K _ _ (Option.some.inj hf).symm) (by decide) (by decide) dX12_in_18
theorem con_X12_in (l : Launch) (a0 : Int64) (a2 : Int64) (a4 : Int64) (h : AH) (q : Int32 × AH) (hf : f_X12_in a0 a2 a4 h = some q) : Con l yX12_in cX12_in 6 (some .boolean) rmX12_in [.long a0, .long a2, .long a4] h (some (.int q.1)) q.2 := Con.of (by decide +kernel) (Nat.le_of_ble_eq_true rfl) (fun X C I K => w_X12_in_0 C a0 a2 a4 h q hf (fun v h2 e => by cases e; exact K))
abbrev rmX12_noSong : Room := { frames := 1, cells := 0, slots := 0, locals := 25 }
theorem yn_X12_noSong : YN yX12_noSong 1 := by refine ⟨?_, ?_, ?_⟩ <;> decide +kernel
set_option maxRecDepth 100000 in
set_option maxHeartbeats 4000000 in
theorem w_X12_noSong_0 {X : MX} (C : CX X cX12_noSong 2 RX12 (some .boolean) rmX12_noSong) (a0 : Nat) (a1 : Int32) (h : AH) (res : Int32 × AH) (hf : f_X12_noSong a0 a1 h = some res) (K : ∀ (v : Int32) (h2 : AH), res = (v, h2) → PR X rmX12_noSong (some (.int v)) h2) : PT X 2 0 0 0 [(0, .ref a0), (1, .int a1)] [] h := by
  unfold f_X12_noSong at hf
  refine pt_iload_n C 1 rfl rfl dX12_noSong_0 ?_
  refine pt_i2l C dX12_noSong_1 ?_
  refine pt_lconst C (v := 0) (by decide) dX12_noSong_2 ?_
  refine pt_aload_n C 0 rfl rfl dX12_noSong_3 ?_
  refine ob hf (fun v1 g2 hf => ?_)
  refine pt_getI C kX12 0 (by decide) tw_916 (Or.inl rfl) g2 dX12_noSong_4 ?_
  refine pt_iconst C (v := 1) (by decide) dX12_noSong_7 ?_
  refine pt_isub C dX12_noSong_8 ?_
  refine pt_i2l C dX12_noSong_9 ?_
  refine ob hf (fun q3 g4 hf => ?_)
  refine pt_callS C (As := [.long a1.toInt64, .long 0, .long ((v1 - 1).toInt64)]) (rest := []) (v := (some (.int q3.1))) (fun l => con_X12_in l a1.toInt64 0 ((v1 - 1).toInt64) h _ g4) tw_1065 tw_1063 tw_1064 tw_13 yn_X12_in (by decide) (Nat.le_of_ble_eq_true rfl) dX12_noSong_10 rfl ?_
  show PT X 2 0 0 13 [(0, .ref a0), (1, .int a1)] [.int q3.1] q3.2
  refine pt_if_ne C (tgt := 20) (by decide) dX12_noSong_13 (fun c5 => ?_) (fun c5 => ?_)
  · rw [if_neg c5] at hf
    refine pt_iconst C (v := 0) (by decide) dX12_noSong_20 ?_
    exact pt_zret C (by decide) (K _ _ (Option.some.inj hf).symm) (by decide) (by decide) dX12_noSong_21
  · rw [if_pos c5] at hf
    refine pt_iconst C (v := 1) (by decide) dX12_noSong_16 ?_
    refine pt_goto C (tgt := 21) (by decide) dX12_noSong_17 ?_
    exact pt_zret C (by decide) (K _ _ (Option.some.inj hf).symm) (by decide) (by decide) dX12_noSong_21
theorem con_X12_noSong (l : Launch) (a0 : Nat) (a1 : Int32) (h : AH) (q : Int32 × AH) (hf : f_X12_noSong a0 a1 h = some q) : Con l yX12_noSong cX12_noSong 2 (some .boolean) rmX12_noSong [.ref a0, .int a1] h (some (.int q.1)) q.2 := Con.of (by decide +kernel) (Nat.le_of_ble_eq_true rfl) (fun X C I K => w_X12_noSong_0 C a0 a1 h q hf (fun v h2 e => by cases e; exact K))
