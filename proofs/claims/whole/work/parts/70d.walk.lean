abbrev rmX6_init : Room := { frames := 1, cells := 1, slots := 24, locals := 20 }
theorem yn_X6_init : YN yX6_init 0 := by refine ⟨?_, ?_, ?_⟩ <;> decide +kernel
set_option maxRecDepth 100000 in
set_option maxHeartbeats 4000000 in
theorem w_X6_init_0 {X : MX} (C : CX X cX6_init 1 RX6 none rmX6_init) (I : IN X) (a0 : Nat) (h : AH) (res : AH) (hf : f_X6_init a0 h = some res) (K : PR X rmX6_init none res) : PT X 1 0 0 0 [(0, .ref a0)] [] h := by
  unfold f_X6_init at hf
  refine pt_aload_n C 0 rfl rfl dX6_init_0 ?_
  refine pt_objInit C tw_37 tw_30 tw_31 (by decide) (Nat.le_of_ble_eq_true rfl) dX6_init_1 ?_
  refine pt_aload_n C 0 rfl rfl dX6_init_4 ?_
  refine pt_bipush C (v := 24) (by decide) dX6_init_5 ?_
  refine pt_newI C 24 tw_54 (by decide) (by decide) (by decide) (by decide) (by decide) dX6_init_7 ?_
  refine ob hf (fun h1 g2 hf => ?_)
  refine pt_putF C I kX6 0 (by decide) tw_38 (Or.inl rfl) rfl rfl rfl rfl g2 dX6_init_9 ?_
  obtain rfl := Option.some.inj hf
  exact pt_vret C K (by decide) (by decide) dX6_init_12
theorem con_X6_init (l : Launch) (a0 : Nat) (h : AH) (q : AH) (hf : f_X6_init a0 h = some q) : Con l yX6_init cX6_init 1 none rmX6_init [.ref a0] h none q := Con.of (by decide +kernel) (Nat.le_of_ble_eq_true rfl) (fun X C I K => w_X6_init_0 C (I rfl) a0 h q hf K)
abbrev rmX1_init : Room := { frames := 1, cells := 5, slots := 624, locals := 20 }
theorem yn_X1_init : YN yX1_init 0 := by refine ⟨?_, ?_, ?_⟩ <;> decide +kernel
set_option maxRecDepth 100000 in
set_option maxHeartbeats 4000000 in
theorem w_X1_init_0 {X : MX} (C : CX X cX1_init 1 RX1 none rmX1_init) (I : IN X) (a0 : Nat) (h : AH) (res : AH) (hf : f_X1_init a0 h = some res) (K : PR X rmX1_init none res) : PT X 1 0 0 0 [(0, .ref a0)] [] h := by
  unfold f_X1_init at hf
  refine pt_aload_n C 0 rfl rfl dX1_init_0 ?_
  refine pt_objInit C tw_137 tw_30 tw_31 (by decide) (Nat.le_of_ble_eq_true rfl) dX1_init_1 ?_
  refine pt_aload_n C 0 rfl rfl dX1_init_4 ?_
  refine pt_bipush C (v := 10) (by decide) dX1_init_5 ?_
  refine pt_newI C 10 tw_54 (by decide) (by decide) (by decide) (by decide) (by decide) dX1_init_7 ?_
  refine ob hf (fun h1 g2 hf => ?_)
  refine pt_putF C I kX1 0 (by decide) tw_138 (Or.inl rfl) rfl rfl rfl rfl g2 dX1_init_9 ?_
  refine pt_aload_n C 0 rfl rfl dX1_init_12 ?_
  refine pt_bipush C (v := 10) (by decide) dX1_init_13 ?_
  refine pt_newI C 10 tw_54 (by decide) (by decide) (by decide) (by decide) (by decide) dX1_init_15 ?_
  refine ob hf (fun h3 g4 hf => ?_)
  refine pt_putF C I kX1 1 (by decide) tw_141 (Or.inl rfl) rfl rfl rfl rfl g4 dX1_init_17 ?_
  refine pt_aload_n C 0 rfl rfl dX1_init_20 ?_
  refine pt_sipush C (v := 300) (by decide) dX1_init_21 ?_
  refine pt_newI C 300 tw_54 (by decide) (by decide) (by decide) (by decide) (by decide) dX1_init_24 ?_
  refine ob hf (fun h5 g6 hf => ?_)
  refine pt_putF C I kX1 2 (by decide) tw_143 (Or.inl rfl) rfl rfl rfl rfl g6 dX1_init_26 ?_
  refine pt_aload_n C 0 rfl rfl dX1_init_29 ?_
  refine pt_sipush C (v := 300) (by decide) dX1_init_30 ?_
  refine pt_newI C 300 tw_54 (by decide) (by decide) (by decide) (by decide) (by decide) dX1_init_33 ?_
  refine ob hf (fun h7 g8 hf => ?_)
  refine pt_putF C I kX1 3 (by decide) tw_146 (Or.inl rfl) rfl rfl rfl rfl g8 dX1_init_35 ?_
  refine pt_aload_n C 0 rfl rfl dX1_init_38 ?_
  refine pt_iconst C (v := 4) (by decide) dX1_init_39 ?_
  refine pt_newI C 4 tw_54 (by decide) (by decide) (by decide) (by decide) (by decide) dX1_init_40 ?_
  refine ob hf (fun h9 g10 hf => ?_)
  refine pt_putF C I kX1 4 (by decide) tw_148 (Or.inl rfl) rfl rfl rfl rfl g10 dX1_init_42 ?_
  obtain rfl := Option.some.inj hf
  exact pt_vret C K (by decide) (by decide) dX1_init_45
theorem con_X1_init (l : Launch) (a0 : Nat) (h : AH) (q : AH) (hf : f_X1_init a0 h = some q) : Con l yX1_init cX1_init 1 none rmX1_init [.ref a0] h none q := Con.of (by decide +kernel) (Nat.le_of_ble_eq_true rfl) (fun X C I K => w_X1_init_0 C (I rfl) a0 h q hf K)
abbrev rmX9_init : Room := { frames := 2, cells := 13, slots := 684, locals := 40 }
theorem yn_X9_init : YN yX9_init 0 := by refine ⟨?_, ?_, ?_⟩ <;> decide +kernel
set_option maxRecDepth 100000 in
set_option maxHeartbeats 4000000 in
theorem w_X9_init_0 {X : MX} (C : CX X cX9_init 1 RX9 none rmX9_init) (I : IN X) (a0 : Nat) (h : AH) (res : AH) (hf : f_X9_init a0 h = some res) (K : PR X rmX9_init none res) : PT X 1 0 0 0 [(0, .ref a0)] [] h := by
  unfold f_X9_init at hf
  refine pt_aload_n C 0 rfl rfl dX9_init_0 ?_
  refine pt_objInit C tw_177 tw_30 tw_31 (by decide) (Nat.le_of_ble_eq_true rfl) dX9_init_1 ?_
  refine pt_aload_n C 0 rfl rfl dX9_init_4 ?_
  refine pt_new C kX1 tw_178 tw_133 tw_7 [.null, .null, .null, .null, .null, .int 0, .int 0, .int 0] (fun j hj => match j, hj with | 0, _ => rfl | 1, _ => rfl | 2, _ => rfl | 3, _ => rfl | 4, _ => rfl | 5, _ => rfl | 6, _ => rfl | 7, _ => rfl) (by decide) (by decide) dX9_init_5 ?_
  refine pt_dup C rfl dX9_init_8 ?_
  refine ob hf (fun q1 g2 hf => ?_)
  refine pt_callIN C (As := []) (rest := [.ref h.1, .ref a0]) (v := none) (fun l => con_X1_init l h.1 (hnew h (.inr (2, [.null, .null, .null, .null, .null, .int 0, .int 0, .int 0]))) _ g2) tw_136 (host := "HeaveSongs") (by decide +kernel) tw_135 rfl tw_7 yn_X1_init (by decide) (Nat.le_of_ble_eq_true rfl) dX9_init_9 rfl ?_
  show PT X 1 6 632 12 [(0, .ref a0)] [.ref h.1, .ref a0] q1
  refine ob hf (fun h3 g4 hf => ?_)
  refine pt_putF C I kX9 0 (by decide) tw_183 (Or.inl rfl) rfl rfl rfl rfl g4 dX9_init_12 ?_
  refine pt_aload_n C 0 rfl rfl dX9_init_15 ?_
  refine pt_iconst C (v := 4) (by decide) dX9_init_16 ?_
  refine pt_bipush C (v := 10) (by decide) dX9_init_17 ?_
  refine pt_multi C tw_180 tw_54 (N' := 4) (K' := 10) (by decide) (by decide) (by decide) (by decide) (by decide) (by decide) (by decide) (by decide) (by decide) dX9_init_19 ?_
  refine ob hf (fun h5 g6 hf => ?_)
  refine pt_putF C I kX9 1 (by decide) tw_184 (Or.inl rfl) rfl rfl rfl rfl g6 dX9_init_23 ?_
  refine pt_aload_n C 0 rfl rfl dX9_init_26 ?_
  refine pt_iconst C (v := 4) (by decide) dX9_init_27 ?_
  refine pt_newI C 4 tw_54 (by decide) (by decide) (by decide) (by decide) (by decide) dX9_init_28 ?_
  refine ob hf (fun h7 g8 hf => ?_)
  refine pt_putF C I kX9 2 (by decide) tw_185 (Or.inl rfl) rfl rfl rfl rfl g8 dX9_init_30 ?_
  refine pt_aload_n C 0 rfl rfl dX9_init_33 ?_
  refine pt_iconst C (v := 4) (by decide) dX9_init_34 ?_
  refine pt_newI C 4 tw_54 (by decide) (by decide) (by decide) (by decide) (by decide) dX9_init_35 ?_
  refine ob hf (fun h9 g10 hf => ?_)
  refine pt_putF C I kX9 3 (by decide) tw_186 (Or.inl rfl) rfl rfl rfl rfl g10 dX9_init_37 ?_
  refine pt_aload_n C 0 rfl rfl dX9_init_40 ?_
  refine pt_ldc C tw_182 dX9_init_41 ?_
  refine ob hf (fun h11 g12 hf => ?_)
  refine pt_put C kX9 4 (by decide) tw_188 (Or.inl rfl) rfl rfl rfl g12 dX9_init_43 ?_
  refine pt_aload_n C 0 rfl rfl dX9_init_46 ?_
  refine pt_ldc C tw_182 dX9_init_47 ?_
  refine ob hf (fun h13 g14 hf => ?_)
  refine pt_put C kX9 7 (by decide) tw_194 (Or.inl rfl) rfl rfl rfl g14 dX9_init_49 ?_
  obtain rfl := Option.some.inj hf
  exact pt_vret C K (by decide) (by decide) dX9_init_52
theorem con_X9_init (l : Launch) (a0 : Nat) (h : AH) (q : AH) (hf : f_X9_init a0 h = some q) : Con l yX9_init cX9_init 1 none rmX9_init [.ref a0] h none q := Con.of (by decide +kernel) (Nat.le_of_ble_eq_true rfl) (fun X C I K => w_X9_init_0 C (I rfl) a0 h q hf K)
abbrev rmX4_init : Room := { frames := 1, cells := 3, slots := 74, locals := 20 }
theorem yn_X4_init : YN yX4_init 0 := by refine ⟨?_, ?_, ?_⟩ <;> decide +kernel
set_option maxRecDepth 100000 in
set_option maxHeartbeats 4000000 in
theorem w_X4_init_0 {X : MX} (C : CX X cX4_init 1 RX4 none rmX4_init) (I : IN X) (a0 : Nat) (h : AH) (res : AH) (hf : f_X4_init a0 h = some res) (K : PR X rmX4_init none res) : PT X 1 0 0 0 [(0, .ref a0)] [] h := by
  unfold f_X4_init at hf
  refine pt_aload_n C 0 rfl rfl dX4_init_0 ?_
  refine pt_objInit C tw_222 tw_30 tw_31 (by decide) (Nat.le_of_ble_eq_true rfl) dX4_init_1 ?_
  refine pt_aload_n C 0 rfl rfl dX4_init_4 ?_
  refine pt_bipush C (v := 25) (by decide) dX4_init_5 ?_
  refine pt_newJ C 25 tw_239 (by decide) (by decide) (by decide) (by decide) (by decide) dX4_init_7 ?_
  refine ob hf (fun h1 g2 hf => ?_)
  refine pt_putF C I kX4 0 (by decide) tw_223 (Or.inl rfl) rfl rfl rfl rfl g2 dX4_init_9 ?_
  refine pt_aload_n C 0 rfl rfl dX4_init_12 ?_
  refine pt_bipush C (v := 25) (by decide) dX4_init_13 ?_
  refine pt_newI C 25 tw_54 (by decide) (by decide) (by decide) (by decide) (by decide) dX4_init_15 ?_
  refine ob hf (fun h3 g4 hf => ?_)
  refine pt_putF C I kX4 1 (by decide) tw_224 (Or.inl rfl) rfl rfl rfl rfl g4 dX4_init_17 ?_
  refine pt_aload_n C 0 rfl rfl dX4_init_20 ?_
  refine pt_bipush C (v := 24) (by decide) dX4_init_21 ?_
  refine pt_newI C 24 tw_54 (by decide) (by decide) (by decide) (by decide) (by decide) dX4_init_23 ?_
  refine ob hf (fun h5 g6 hf => ?_)
  refine pt_putF C I kX4 2 (by decide) tw_225 (Or.inl rfl) rfl rfl rfl rfl g6 dX4_init_25 ?_
  obtain rfl := Option.some.inj hf
  exact pt_vret C K (by decide) (by decide) dX4_init_28
theorem con_X4_init (l : Launch) (a0 : Nat) (h : AH) (q : AH) (hf : f_X4_init a0 h = some q) : Con l yX4_init cX4_init 1 none rmX4_init [.ref a0] h none q := Con.of (by decide +kernel) (Nat.le_of_ble_eq_true rfl) (fun X C I K => w_X4_init_0 C (I rfl) a0 h q hf K)
abbrev rmX5_init : Room := { frames := 1, cells := 2, slots := 120, locals := 20 }
theorem yn_X5_init : YN yX5_init 0 := by refine ⟨?_, ?_, ?_⟩ <;> decide +kernel
set_option maxRecDepth 100000 in
set_option maxHeartbeats 4000000 in
theorem w_X5_init_0 {X : MX} (C : CX X cX5_init 1 RX5 none rmX5_init) (I : IN X) (a0 : Nat) (h : AH) (res : AH) (hf : f_X5_init a0 h = some res) (K : PR X rmX5_init none res) : PT X 1 0 0 0 [(0, .ref a0)] [] h := by
  unfold f_X5_init at hf
  refine pt_aload_n C 0 rfl rfl dX5_init_0 ?_
  refine pt_objInit C tw_245 tw_30 tw_31 (by decide) (Nat.le_of_ble_eq_true rfl) dX5_init_1 ?_
  refine pt_aload_n C 0 rfl rfl dX5_init_4 ?_
  refine pt_bipush C (v := 60) (by decide) dX5_init_5 ?_
  refine pt_newI C 60 tw_54 (by decide) (by decide) (by decide) (by decide) (by decide) dX5_init_7 ?_
  refine ob hf (fun h1 g2 hf => ?_)
  refine pt_putF C I kX5 0 (by decide) tw_246 (Or.inl rfl) rfl rfl rfl rfl g2 dX5_init_9 ?_
  refine pt_aload_n C 0 rfl rfl dX5_init_12 ?_
  refine pt_bipush C (v := 60) (by decide) dX5_init_13 ?_
  refine pt_newI C 60 tw_54 (by decide) (by decide) (by decide) (by decide) (by decide) dX5_init_15 ?_
  refine ob hf (fun h3 g4 hf => ?_)
  refine pt_putF C I kX5 1 (by decide) tw_247 (Or.inl rfl) rfl rfl rfl rfl g4 dX5_init_17 ?_
  obtain rfl := Option.some.inj hf
  exact pt_vret C K (by decide) (by decide) dX5_init_20
theorem con_X5_init (l : Launch) (a0 : Nat) (h : AH) (q : AH) (hf : f_X5_init a0 h = some q) : Con l yX5_init cX5_init 1 none rmX5_init [.ref a0] h none q := Con.of (by decide +kernel) (Nat.le_of_ble_eq_true rfl) (fun X C I K => w_X5_init_0 C (I rfl) a0 h q hf K)
abbrev rmX3_init : Room := { frames := 2, cells := 6, slots := 632, locals := 40 }
theorem yn_X3_init : YN yX3_init 0 := by refine ⟨?_, ?_, ?_⟩ <;> decide +kernel
set_option maxRecDepth 100000 in
set_option maxHeartbeats 4000000 in
theorem w_X3_init_0 {X : MX} (C : CX X cX3_init 1 RX3 none rmX3_init) (I : IN X) (a0 : Nat) (h : AH) (res : AH) (hf : f_X3_init a0 h = some res) (K : PR X rmX3_init none res) : PT X 1 0 0 0 [(0, .ref a0)] [] h := by
  unfold f_X3_init at hf
  refine pt_aload_n C 0 rfl rfl dX3_init_0 ?_
  refine pt_objInit C tw_262 tw_30 tw_31 (by decide) (Nat.le_of_ble_eq_true rfl) dX3_init_1 ?_
  refine pt_aload_n C 0 rfl rfl dX3_init_4 ?_
  refine pt_new C kX1 tw_263 tw_133 tw_7 [.null, .null, .null, .null, .null, .int 0, .int 0, .int 0] (fun j hj => match j, hj with | 0, _ => rfl | 1, _ => rfl | 2, _ => rfl | 3, _ => rfl | 4, _ => rfl | 5, _ => rfl | 6, _ => rfl | 7, _ => rfl) (by decide) (by decide) dX3_init_5 ?_
  refine pt_dup C rfl dX3_init_8 ?_
  refine ob hf (fun q1 g2 hf => ?_)
  refine pt_callIN C (As := []) (rest := [.ref h.1, .ref a0]) (v := none) (fun l => con_X1_init l h.1 (hnew h (.inr (2, [.null, .null, .null, .null, .null, .int 0, .int 0, .int 0]))) _ g2) tw_136 (host := "HeaveSongs") (by decide +kernel) tw_135 rfl tw_7 yn_X1_init (by decide) (Nat.le_of_ble_eq_true rfl) dX3_init_9 rfl ?_
  show PT X 1 6 632 12 [(0, .ref a0)] [.ref h.1, .ref a0] q1
  refine ob hf (fun h3 g4 hf => ?_)
  refine pt_putF C I kX3 0 (by decide) tw_265 (Or.inl rfl) rfl rfl rfl rfl g4 dX3_init_12 ?_
  obtain rfl := Option.some.inj hf
  exact pt_vret C K (by decide) (by decide) dX3_init_15
theorem con_X3_init (l : Launch) (a0 : Nat) (h : AH) (q : AH) (hf : f_X3_init a0 h = some q) : Con l yX3_init cX3_init 1 none rmX3_init [.ref a0] h none q := Con.of (by decide +kernel) (Nat.le_of_ble_eq_true rfl) (fun X C I K => w_X3_init_0 C (I rfl) a0 h q hf K)
abbrev rmX2_init : Room := { frames := 1, cells := 3, slots := 37, locals := 20 }
theorem yn_X2_init : YN yX2_init 0 := by refine ⟨?_, ?_, ?_⟩ <;> decide +kernel
set_option maxRecDepth 100000 in
set_option maxHeartbeats 4000000 in
theorem w_X2_init_0 {X : MX} (C : CX X cX2_init 1 RX2 none rmX2_init) (I : IN X) (a0 : Nat) (h : AH) (res : AH) (hf : f_X2_init a0 h = some res) (K : PR X rmX2_init none res) : PT X 1 0 0 0 [(0, .ref a0)] [] h := by
  unfold f_X2_init at hf
  refine pt_aload_n C 0 rfl rfl dX2_init_0 ?_
  refine pt_objInit C tw_294 tw_30 tw_31 (by decide) (Nat.le_of_ble_eq_true rfl) dX2_init_1 ?_
  refine pt_aload_n C 0 rfl rfl dX2_init_4 ?_
  refine pt_bipush C (v := 25) (by decide) dX2_init_5 ?_
  refine pt_newI C 25 tw_54 (by decide) (by decide) (by decide) (by decide) (by decide) dX2_init_7 ?_
  refine ob hf (fun h1 g2 hf => ?_)
  refine pt_putF C I kX2 0 (by decide) tw_295 (Or.inl rfl) rfl rfl rfl rfl g2 dX2_init_9 ?_
  refine pt_aload_n C 0 rfl rfl dX2_init_12 ?_
  refine pt_bipush C (v := 6) (by decide) dX2_init_13 ?_
  refine pt_newI C 6 tw_54 (by decide) (by decide) (by decide) (by decide) (by decide) dX2_init_15 ?_
  refine ob hf (fun h3 g4 hf => ?_)
  refine pt_putF C I kX2 1 (by decide) tw_296 (Or.inl rfl) rfl rfl rfl rfl g4 dX2_init_17 ?_
  refine pt_aload_n C 0 rfl rfl dX2_init_20 ?_
  refine pt_bipush C (v := 6) (by decide) dX2_init_21 ?_
  refine pt_newZ C 6 tw_306 (by decide) (by decide) (by decide) (by decide) (by decide) dX2_init_23 ?_
  refine ob hf (fun h5 g6 hf => ?_)
  refine pt_putF C I kX2 2 (by decide) tw_298 (Or.inl rfl) rfl rfl rfl rfl g6 dX2_init_25 ?_
  obtain rfl := Option.some.inj hf
  exact pt_vret C K (by decide) (by decide) dX2_init_28
theorem con_X2_init (l : Launch) (a0 : Nat) (h : AH) (q : AH) (hf : f_X2_init a0 h = some q) : Con l yX2_init cX2_init 1 none rmX2_init [.ref a0] h none q := Con.of (by decide +kernel) (Nat.le_of_ble_eq_true rfl) (fun X C I K => w_X2_init_0 C (I rfl) a0 h q hf K)
abbrev rmX11_init : Room := { frames := 4, cells := 50, slots := 2309, locals := 80 }
theorem yn_X11_init : YN yX11_init 0 := by refine ⟨?_, ?_, ?_⟩ <;> decide +kernel
set_option maxRecDepth 100000 in
set_option maxHeartbeats 4000000 in
theorem w_X11_init_0 {X : MX} (C : CX X cX11_init 1 RX11 none rmX11_init) (I : IN X) (a0 : Nat) (h : AH) (res : AH) (hf : f_X11_init a0 h = some res) (K : PR X rmX11_init none res) : PT X 1 0 0 0 [(0, .ref a0)] [] h := by
  unfold f_X11_init at hf
  refine pt_aload_n C 0 rfl rfl dX11_init_0 ?_
  refine pt_objInit C tw_29 tw_30 tw_31 (by decide) (Nat.le_of_ble_eq_true rfl) dX11_init_1 ?_
  refine pt_aload_n C 0 rfl rfl dX11_init_4 ?_
  refine pt_new C kX6 tw_32 tw_33 tw_2 [.null, .int 0] (fun j hj => match j, hj with | 0, _ => rfl | 1, _ => rfl) (by decide) (by decide) dX11_init_5 ?_
  refine pt_dup C rfl dX11_init_8 ?_
  refine ob hf (fun q1 g2 hf => ?_)
  refine pt_callIN C (As := []) (rest := [.ref h.1, .ref a0]) (v := none) (fun l => con_X6_init l h.1 (hnew h (.inr (7, [.null, .int 0]))) _ g2) tw_36 (host := "HeaveSongs") (by decide +kernel) tw_35 rfl tw_2 yn_X6_init (by decide) (Nat.le_of_ble_eq_true rfl) dX11_init_9 rfl ?_
  show PT X 1 2 26 12 [(0, .ref a0)] [.ref h.1, .ref a0] q1
  refine ob hf (fun h3 g4 hf => ?_)
  refine pt_putF C I kX11 0 (by decide) tw_307 (Or.inl rfl) rfl rfl rfl rfl g4 dX11_init_12 ?_
  refine pt_aload_n C 0 rfl rfl dX11_init_15 ?_
  refine pt_new C kJx4a65c tw_55 tw_56 tw_5 [.int 0, .null, .int 0] (fun j hj => match j, hj with | 0, _ => rfl | 1, _ => rfl | 2, _ => rfl) (by decide) (by decide) dX11_init_16 ?_
  refine pt_dup C rfl dX11_init_19 ?_
  refine ob hf (fun q5 g6 hf => ?_)
  refine pt_callI C (As := []) (rest := [.ref h3.1, .ref a0]) (v := none) (fun l => con_Jx4a65c_init_da8c8 l h3.1 (hnew h3 (.inr (0, [.int 0, .null, .int 0]))) _ g6) tw_59 tw_57 tw_58 rfl tw_5 yn_Jx4a65c_init_da8c8 (by decide) (Nat.le_of_ble_eq_true rfl) dX11_init_20 rfl ?_
  show PT X 1 3 29 23 [(0, .ref a0)] [.ref h3.1, .ref a0] q5
  refine ob hf (fun h7 g8 hf => ?_)
  refine pt_putF C I kX11 1 (by decide) tw_308 (Or.inl rfl) rfl rfl rfl rfl g8 dX11_init_23 ?_
  refine pt_aload_n C 0 rfl rfl dX11_init_26 ?_
  refine pt_new C kX0 tw_81 tw_82 tw_6 [.null, .null, .null, .null, .null, .null, .int 0, .int 0, .int 0] (fun j hj => match j, hj with | 0, _ => rfl | 1, _ => rfl | 2, _ => rfl | 3, _ => rfl | 4, _ => rfl | 5, _ => rfl | 6, _ => rfl | 7, _ => rfl | 8, _ => rfl) (by decide) (by decide) dX11_init_27 ?_
  refine pt_dup C rfl dX11_init_30 ?_
  refine ob hf (fun q9 g10 hf => ?_)
  refine pt_callIN C (As := []) (rest := [.ref h7.1, .ref a0]) (v := none) (fun l => con_X0_init l h7.1 (hnew h7 (.inr (1, [.null, .null, .null, .null, .null, .null, .int 0, .int 0, .int 0]))) _ g10) tw_85 (host := "HeaveSongs") (by decide +kernel) tw_84 rfl tw_6 yn_X0_init (by decide) (Nat.le_of_ble_eq_true rfl) dX11_init_31 rfl ?_
  show PT X 1 10 98 34 [(0, .ref a0)] [.ref h7.1, .ref a0] q9
  refine ob hf (fun h11 g12 hf => ?_)
  refine pt_putF C I kX11 2 (by decide) tw_309 (Or.inl rfl) rfl rfl rfl rfl g12 dX11_init_34 ?_
  refine pt_aload_n C 0 rfl rfl dX11_init_37 ?_
  refine pt_new C kX1 tw_132 tw_133 tw_7 [.null, .null, .null, .null, .null, .int 0, .int 0, .int 0] (fun j hj => match j, hj with | 0, _ => rfl | 1, _ => rfl | 2, _ => rfl | 3, _ => rfl | 4, _ => rfl | 5, _ => rfl | 6, _ => rfl | 7, _ => rfl) (by decide) (by decide) dX11_init_38 ?_
  refine pt_dup C rfl dX11_init_41 ?_
  refine ob hf (fun q13 g14 hf => ?_)
  refine pt_callIN C (As := []) (rest := [.ref h11.1, .ref a0]) (v := none) (fun l => con_X1_init l h11.1 (hnew h11 (.inr (2, [.null, .null, .null, .null, .null, .int 0, .int 0, .int 0]))) _ g14) tw_136 (host := "HeaveSongs") (by decide +kernel) tw_135 rfl tw_7 yn_X1_init (by decide) (Nat.le_of_ble_eq_true rfl) dX11_init_42 rfl ?_
  show PT X 1 16 730 45 [(0, .ref a0)] [.ref h11.1, .ref a0] q13
  refine ob hf (fun h15 g16 hf => ?_)
  refine pt_putF C I kX11 3 (by decide) tw_310 (Or.inl rfl) rfl rfl rfl rfl g16 dX11_init_45 ?_
  refine pt_aload_n C 0 rfl rfl dX11_init_48 ?_
  refine pt_new C kJx4a65c tw_55 tw_56 tw_5 [.int 0, .null, .int 0] (fun j hj => match j, hj with | 0, _ => rfl | 1, _ => rfl | 2, _ => rfl) (by decide) (by decide) dX11_init_49 ?_
  refine pt_dup C rfl dX11_init_52 ?_
  refine ob hf (fun q17 g18 hf => ?_)
  refine pt_callI C (As := []) (rest := [.ref h15.1, .ref a0]) (v := none) (fun l => con_Jx4a65c_init_da8c8 l h15.1 (hnew h15 (.inr (0, [.int 0, .null, .int 0]))) _ g18) tw_59 tw_57 tw_58 rfl tw_5 yn_Jx4a65c_init_da8c8 (by decide) (Nat.le_of_ble_eq_true rfl) dX11_init_53 rfl ?_
  show PT X 1 17 733 56 [(0, .ref a0)] [.ref h15.1, .ref a0] q17
  refine ob hf (fun h19 g20 hf => ?_)
  refine pt_putF C I kX11 4 (by decide) tw_311 (Or.inl rfl) rfl rfl rfl rfl g20 dX11_init_56 ?_
  refine pt_aload_n C 0 rfl rfl dX11_init_59 ?_
  refine pt_new C kX9 tw_172 tw_173 tw_8 [.null, .null, .null, .null, .int 0, .int 0, .int 0, .int 0, .int 0] (fun j hj => match j, hj with | 0, _ => rfl | 1, _ => rfl | 2, _ => rfl | 3, _ => rfl | 4, _ => rfl | 5, _ => rfl | 6, _ => rfl | 7, _ => rfl | 8, _ => rfl) (by decide) (by decide) dX11_init_60 ?_
  refine pt_dup C rfl dX11_init_63 ?_
  refine ob hf (fun q21 g22 hf => ?_)
  refine pt_callIN C (As := []) (rest := [.ref h19.1, .ref a0]) (v := none) (fun l => con_X9_init l h19.1 (hnew h19 (.inr (10, [.null, .null, .null, .null, .int 0, .int 0, .int 0, .int 0, .int 0]))) _ g22) tw_176 (host := "HeaveSongs") (by decide +kernel) tw_175 rfl tw_8 yn_X9_init (by decide) (Nat.le_of_ble_eq_true rfl) dX11_init_64 rfl ?_
  show PT X 1 31 1426 67 [(0, .ref a0)] [.ref h19.1, .ref a0] q21
  refine ob hf (fun h23 g24 hf => ?_)
  refine pt_putF C I kX11 6 (by decide) tw_313 (Or.inl rfl) rfl rfl rfl rfl g24 dX11_init_67 ?_
  refine pt_aload_n C 0 rfl rfl dX11_init_70 ?_
  refine pt_new C kJx4a65c tw_55 tw_56 tw_5 [.int 0, .null, .int 0] (fun j hj => match j, hj with | 0, _ => rfl | 1, _ => rfl | 2, _ => rfl) (by decide) (by decide) dX11_init_71 ?_
  refine pt_dup C rfl dX11_init_74 ?_
  refine ob hf (fun q25 g26 hf => ?_)
  refine pt_callI C (As := []) (rest := [.ref h23.1, .ref a0]) (v := none) (fun l => con_Jx4a65c_init_da8c8 l h23.1 (hnew h23 (.inr (0, [.int 0, .null, .int 0]))) _ g26) tw_59 tw_57 tw_58 rfl tw_5 yn_Jx4a65c_init_da8c8 (by decide) (Nat.le_of_ble_eq_true rfl) dX11_init_75 rfl ?_
  show PT X 1 32 1429 78 [(0, .ref a0)] [.ref h23.1, .ref a0] q25
  refine ob hf (fun h27 g28 hf => ?_)
  refine pt_putF C I kX11 7 (by decide) tw_314 (Or.inl rfl) rfl rfl rfl rfl g28 dX11_init_78 ?_
  refine pt_aload_n C 0 rfl rfl dX11_init_81 ?_
  refine pt_new C kX4 tw_217 tw_218 tw_9 [.null, .null, .null, .int 0, .long 0] (fun j hj => match j, hj with | 0, _ => rfl | 1, _ => rfl | 2, _ => rfl | 3, _ => rfl | 4, _ => rfl) (by decide) (by decide) dX11_init_82 ?_
  refine pt_dup C rfl dX11_init_85 ?_
  refine ob hf (fun q29 g30 hf => ?_)
  refine pt_callIN C (As := []) (rest := [.ref h27.1, .ref a0]) (v := none) (fun l => con_X4_init l h27.1 (hnew h27 (.inr (5, [.null, .null, .null, .int 0, .long 0]))) _ g30) tw_221 (host := "HeaveSongs") (by decide +kernel) tw_220 rfl tw_9 yn_X4_init (by decide) (Nat.le_of_ble_eq_true rfl) dX11_init_86 rfl ?_
  show PT X 1 36 1508 89 [(0, .ref a0)] [.ref h27.1, .ref a0] q29
  refine ob hf (fun h31 g32 hf => ?_)
  refine pt_putF C I kX11 8 (by decide) tw_315 (Or.inl rfl) rfl rfl rfl rfl g32 dX11_init_89 ?_
  refine pt_aload_n C 0 rfl rfl dX11_init_92 ?_
  refine pt_new C kX5 tw_240 tw_241 tw_10 [.null, .null, .int 0] (fun j hj => match j, hj with | 0, _ => rfl | 1, _ => rfl | 2, _ => rfl) (by decide) (by decide) dX11_init_93 ?_
  refine pt_dup C rfl dX11_init_96 ?_
  refine ob hf (fun q33 g34 hf => ?_)
  refine pt_callIN C (As := []) (rest := [.ref h31.1, .ref a0]) (v := none) (fun l => con_X5_init l h31.1 (hnew h31 (.inr (6, [.null, .null, .int 0]))) _ g34) tw_244 (host := "HeaveSongs") (by decide +kernel) tw_243 rfl tw_10 yn_X5_init (by decide) (Nat.le_of_ble_eq_true rfl) dX11_init_97 rfl ?_
  show PT X 1 39 1631 100 [(0, .ref a0)] [.ref h31.1, .ref a0] q33
  refine ob hf (fun h35 g36 hf => ?_)
  refine pt_putF C I kX11 9 (by decide) tw_316 (Or.inl rfl) rfl rfl rfl rfl g36 dX11_init_100 ?_
  refine pt_aload_n C 0 rfl rfl dX11_init_103 ?_
  refine pt_new C kX3 tw_257 tw_258 tw_11 [.null, .int 0, .int 0, .int 0, .int 0, .int 0] (fun j hj => match j, hj with | 0, _ => rfl | 1, _ => rfl | 2, _ => rfl | 3, _ => rfl | 4, _ => rfl | 5, _ => rfl) (by decide) (by decide) dX11_init_104 ?_
  refine pt_dup C rfl dX11_init_107 ?_
  refine ob hf (fun q37 g38 hf => ?_)
  refine pt_callIN C (As := []) (rest := [.ref h35.1, .ref a0]) (v := none) (fun l => con_X3_init l h35.1 (hnew h35 (.inr (4, [.null, .int 0, .int 0, .int 0, .int 0, .int 0]))) _ g38) tw_261 (host := "HeaveSongs") (by decide +kernel) tw_260 rfl tw_11 yn_X3_init (by decide) (Nat.le_of_ble_eq_true rfl) dX11_init_108 rfl ?_
  show PT X 1 46 2269 111 [(0, .ref a0)] [.ref h35.1, .ref a0] q37
  refine ob hf (fun h39 g40 hf => ?_)
  refine pt_putF C I kX11 10 (by decide) tw_317 (Or.inl rfl) rfl rfl rfl rfl g40 dX11_init_111 ?_
  refine pt_aload_n C 0 rfl rfl dX11_init_114 ?_
  refine pt_new C kX2 tw_289 tw_290 tw_12 [.null, .null, .null] (fun j hj => match j, hj with | 0, _ => rfl | 1, _ => rfl | 2, _ => rfl) (by decide) (by decide) dX11_init_115 ?_
  refine pt_dup C rfl dX11_init_118 ?_
  refine ob hf (fun q41 g42 hf => ?_)
  refine pt_callIN C (As := []) (rest := [.ref h39.1, .ref a0]) (v := none) (fun l => con_X2_init l h39.1 (hnew h39 (.inr (3, [.null, .null, .null]))) _ g42) tw_293 (host := "HeaveSongs") (by decide +kernel) tw_292 rfl tw_12 yn_X2_init (by decide) (Nat.le_of_ble_eq_true rfl) dX11_init_119 rfl ?_
  show PT X 1 50 2309 122 [(0, .ref a0)] [.ref h39.1, .ref a0] q41
  refine ob hf (fun h43 g44 hf => ?_)
  refine pt_putF C I kX11 11 (by decide) tw_318 (Or.inl rfl) rfl rfl rfl rfl g44 dX11_init_122 ?_
  obtain rfl := Option.some.inj hf
  exact pt_vret C K (by decide) (by decide) dX11_init_125
theorem con_X11_init (l : Launch) (a0 : Nat) (h : AH) (q : AH) (hf : f_X11_init a0 h = some q) : Con l yX11_init cX11_init 1 none rmX11_init [.ref a0] h none q := Con.of (by decide +kernel) (Nat.le_of_ble_eq_true rfl) (fun X C I K => w_X11_init_0 C (I rfl) a0 h q hf K)
abbrev rmX11_late : Room := { frames := 2, cells := 0, slots := 0, locals := 43 }
theorem yn_X11_late : YN yX11_late 2 := by refine ⟨?_, ?_, ?_⟩ <;> decide +kernel
set_option maxRecDepth 100000 in
set_option maxHeartbeats 4000000 in
theorem w_X11_late_0 {X : MX} (C : CX X cX11_late 4 RX11 (some .int) rmX11_late) (a0 : Nat) (a1 : Int32) (a2 : Int32) (h : AH) (res : Int32 × AH) (hf : f_X11_late a0 a1 a2 h = some res) (K : ∀ (v : Int32) (h2 : AH), res = (v, h2) → PR X rmX11_late (some (.int v)) h2) : PT X 4 0 0 0 [(0, .ref a0), (1, .int a1), (2, .int a2)] [] h := by
  unfold f_X11_late at hf
  refine pt_aload_n C 0 rfl rfl dX11_late_0 ?_
  refine ob hf (fun v1 g2 hf => ?_)
  refine pt_getR C kX11 2 (by decide) tw_309 (Or.inl rfl) g2 dX11_late_1 ?_
  refine pt_iload_n C 1 rfl rfl dX11_late_4 ?_
  refine ob hf (fun _ g5 hf => ?_)
  refine ob hf (fun q3 g4 hf => ?_)
  refine pt_callV C (As := [.int a1]) (rest := []) (v := (some (.int q3.1))) (fun l => con_X0_has l v1 a1 h _ g4) tw_499 tw_496 tw_497 tw_498 kX0 g5 tw_6 yn_X0_has (by decide) (Nat.le_of_ble_eq_true rfl) dX11_late_5 rfl ?_
  show PT X 4 0 0 8 [(0, .ref a0), (1, .int a1), (2, .int a2)] [.int q3.1] q3.2
  refine pt_if_eq C (tgt := 20) (by decide) dX11_late_8 (fun c6 => ?_) (fun c6 => ?_)
  · rw [if_pos c6] at hf
    refine pt_bipush C (v := (-2)) (by decide) dX11_late_20 ?_
    exact pt_iret C (K _ _ (Option.some.inj hf).symm) (by decide) (by decide) dX11_late_22
  · rw [if_neg c6] at hf
    refine pt_iload_n C 2 rfl rfl dX11_late_11 ?_
    refine pt_iconst C (v := 0) (by decide) dX11_late_12 ?_
    refine pt_iconst C (v := 3) (by decide) dX11_late_13 ?_
    refine ob hf (fun q7 g8 hf => ?_)
    refine pt_callS C (As := [.int a2, .int 0, .int 3]) (rest := []) (v := (some (.int q7.1))) (fun l => con_X11_within l a2 0 3 q3.2 _ g8) tw_461 tw_459 tw_460 tw_1 yn_X11_within (by decide) (Nat.le_of_ble_eq_true rfl) dX11_late_14 rfl ?_
    show PT X 4 0 0 17 [(0, .ref a0), (1, .int a1), (2, .int a2)] [.int q7.1] q7.2
    refine pt_if_ne C (tgt := 23) (by decide) dX11_late_17 (fun c9 => ?_) (fun c9 => ?_)
    · rw [if_neg c9] at hf
      refine pt_aload_n C 0 rfl rfl dX11_late_23 ?_
      refine ob hf (fun v10 g11 hf => ?_)
      refine pt_getR C kX11 2 (by decide) tw_309 (Or.inl rfl) g11 dX11_late_24 ?_
      refine ob hf (fun v12 g13 hf => ?_)
      refine pt_getR C kX0 4 (by decide) tw_97 (Or.inl rfl) g13 dX11_late_27 ?_
      refine pt_iload_n C 1 rfl rfl dX11_late_30 ?_
      refine ob hf (fun v14 g15 hf => ?_)
      refine pt_iald C g15 dX11_late_31 ?_
      refine pt_istore_n C [(3, .int v14), (0, .ref a0), (1, .int a1), (2, .int a2)] rfl (by decide) rfl dX11_late_32 ?_
      refine pt_aload_n C 1 rfl rfl dX11_late_33 ?_
      refine ob hf (fun v16 g17 hf => ?_)
      refine pt_getR C kX11 2 (by decide) tw_309 (Or.inl rfl) g17 dX11_late_34 ?_
      refine ob hf (fun v18 g19 hf => ?_)
      refine pt_getR C kX0 4 (by decide) tw_97 (Or.inl rfl) g19 dX11_late_37 ?_
      refine pt_iload_n C 2 rfl rfl dX11_late_40 ?_
      refine pt_iload_n C 3 rfl rfl dX11_late_41 ?_
      refine ob hf (fun h20 g21 hf => ?_)
      refine pt_iast C g21 dX11_late_42 ?_
      refine pt_aload_n C 1 rfl rfl dX11_late_43 ?_
      refine ob hf (fun v22 g23 hf => ?_)
      refine pt_getR C kX11 6 (by decide) tw_313 (Or.inl rfl) g23 dX11_late_44 ?_
      refine pt_iconst C (v := 0) (by decide) dX11_late_47 ?_
      refine ob hf (fun h24 g25 hf => ?_)
      refine pt_put C kX9 5 (by decide) tw_191 (Or.inl rfl) rfl (by decide) rfl g25 dX11_late_48 ?_
      refine pt_iload_n C 0 rfl rfl dX11_late_51 ?_
      exact pt_iret C (K _ _ (Option.some.inj hf).symm) (by decide) (by decide) dX11_late_52
    · rw [if_pos c9] at hf
      refine pt_bipush C (v := (-2)) (by decide) dX11_late_20 ?_
      exact pt_iret C (K _ _ (Option.some.inj hf).symm) (by decide) (by decide) dX11_late_22
theorem con_X11_late (l : Launch) (a0 : Nat) (a1 : Int32) (a2 : Int32) (h : AH) (q : Int32 × AH) (hf : f_X11_late a0 a1 a2 h = some q) : Con l yX11_late cX11_late 4 (some .int) rmX11_late [.ref a0, .int a1, .int a2] h (some (.int q.1)) q.2 := Con.of (by decide +kernel) (Nat.le_of_ble_eq_true rfl) (fun X C I K => w_X11_late_0 C a0 a1 a2 h q hf (fun v h2 e => by cases e; exact K))
abbrev rmX4_countWays : Room := { frames := 3, cells := 0, slots := 0, locals := 64 }
theorem yn_X4_countWays : YN yX4_countWays 3 := by refine ⟨?_, ?_, ?_⟩ <;> decide +kernel
set_option maxRecDepth 100000 in
set_option maxHeartbeats 4000000 in
theorem w_X4_countWays_L6 {X : MX} (C : CX X cX4_countWays 8 RX4 (some .long) rmX4_countWays) (x0 : Nat) (x1 : Nat) (x2 : Nat) (x3 : Int32) (s : Int64 × Int32 × AH) (res : (Int64 × Int32 × AH) ⊕ ((Int64 × AH))) (hf : f_X4_countWays_L6 x0 x1 x2 x3 s = some res) (K0 : ∀ (u4 : Int64) (u6 : Int32) (hu : AH), res = .inl (u4, u6, hu) → PT X 8 0 0 6 [(0, .ref x0), (1, .ref x1), (2, .ref x2), (3, .int x3), (4, .long u4), (6, .int u6)] [] hu) (K1 : ∀ (u4 : Int64) (hu : AH), res = .inr ((u4, hu)) → PT X 8 0 0 65 [(4, .long u4)] [] hu) : PT X 8 0 0 6 [(0, .ref x0), (1, .ref x1), (2, .ref x2), (3, .int x3), (4, .long s.1), (6, .int s.2.1)] [] s.2.2 := by
  unfold f_X4_countWays_L6 at hf
  refine pt_iload C 5 rfl dX4_countWays_6 ?_
  refine pt_aload_n C 2 rfl rfl dX4_countWays_8 ?_
  refine ob hf (fun _ g3 hf => ?_)
  refine ob hf (fun q1 g2 hf => ?_)
  refine pt_callV C (As := []) (rest := [.int s.2.1]) (v := (some (.int q1.1))) (fun l => con_Jx4a65c_size_8abf5 l x2 s.2.2 _ g2) tw_363 tw_705 tw_361 tw_362 kJx4a65c g3 tw_5 yn_Jx4a65c_size_8abf5 (by decide) (Nat.le_of_ble_eq_true rfl) dX4_countWays_9 rfl ?_
  show PT X 8 0 0 12 [(0, .ref x0), (1, .ref x1), (2, .ref x2), (3, .int x3), (4, .long s.1), (6, .int s.2.1)] [.int q1.1, .int s.2.1] q1.2
  refine pt_icmp_ge C (tgt := 65) (by decide) dX4_countWays_12 (fun c4 => ?_) (fun c4 => ?_)
  · rw [if_pos c4] at hf
    refine pt_sub C [(4, .long s.1)] [4] rfl ?_
    exact K1 _ _ (Option.some.inj hf).symm
  · rw [if_neg c4] at hf
    refine pt_aload_n C 2 rfl rfl dX4_countWays_15 ?_
    refine pt_iload C 5 rfl dX4_countWays_16 ?_
    refine ob hf (fun _ g7 hf => ?_)
    refine ob hf (fun q5 g6 hf => ?_)
    refine pt_callV C (As := [.int s.2.1]) (rest := []) (v := (some (.ref q5.1))) (fun l => con_Jx4a65c_get_915e3 l x2 s.2.1 q1.2 _ g6) tw_465 tw_706 tw_463 tw_464 kJx4a65c g7 tw_5 yn_Jx4a65c_get_915e3 (by decide) (Nat.le_of_ble_eq_true rfl) dX4_countWays_18 rfl ?_
    show PT X 8 0 0 21 [(0, .ref x0), (1, .ref x1), (2, .ref x2), (3, .int x3), (4, .long s.1), (6, .int s.2.1)] [.ref q5.1] q5.2
    refine ob hf (fun _ g8 hf => ?_)
    refine pt_cast C kX10 tw_707 g8 dX4_countWays_21 ?_
    refine pt_astore C [(7, .ref q5.1), (0, .ref x0), (1, .ref x1), (2, .ref x2), (3, .int x3), (4, .long s.1), (6, .int s.2.1)] (by decide) rfl dX4_countWays_24 ?_
    refine pt_aload C 0 rfl dX4_countWays_26 ?_
    refine pt_aload_n C 2 rfl rfl dX4_countWays_28 ?_
    refine pt_iload_n C 4 rfl rfl dX4_countWays_29 ?_
    refine ob hf (fun _ g11 hf => ?_)
    refine ob hf (fun q9 g10 hf => ?_)
    refine pt_callV C (As := [.ref x1, .int x3]) (rest := []) (v := (some (.int q9.1))) (fun l => con_X10_wrongIfSungFrom l q5.1 x1 x3 q5.2 _ g10) tw_711 tw_708 tw_709 tw_710 kX10 g11 tw_23 yn_X10_wrongIfSungFrom (by decide) (Nat.le_of_ble_eq_true rfl) dX4_countWays_30 rfl ?_
    show PT X 8 0 0 33 [(7, .ref q5.1), (0, .ref x0), (1, .ref x1), (2, .ref x2), (3, .int x3), (4, .long s.1), (6, .int s.2.1)] [.int q9.1] q9.2
    refine pt_if_ne C (tgt := 59) (by decide) dX4_countWays_33 (fun c12 => ?_) (fun c12 => ?_)
    · rw [if_neg c12] at hf
      refine pt_iinc C 6 [(6, .int (s.2.1 + 1)), (7, .ref q5.1), (0, .ref x0), (1, .ref x1), (2, .ref x2), (3, .int x3), (4, .long s.1)] rfl (iinc_eq s.2.1 (by decide)) (by decide) rfl dX4_countWays_59 ?_
      refine pt_goto C (tgt := 6) (by decide) dX4_countWays_62 ?_
      refine pt_sub C [(0, .ref x0), (1, .ref x1), (2, .ref x2), (3, .int x3), (4, .long s.1), (6, .int (s.2.1 + 1))] [2, 3, 4, 5, 6, 0] rfl ?_
      exact K0 _ _ _ (Option.some.inj hf).symm
    · rw [if_pos c12] at hf
      refine pt_ldc2 C tw_717 dX4_countWays_36 ?_
      refine pt_lload C 5 rfl dX4_countWays_39 ?_
      refine pt_aload_n C 1 rfl rfl dX4_countWays_41 ?_
      refine ob hf (fun v13 g14 hf => ?_)
      refine pt_getR C kX4 0 (by decide) tw_223 (Or.inl rfl) g14 dX4_countWays_42 ?_
      refine pt_iload_n C 4 rfl rfl dX4_countWays_45 ?_
      refine pt_aload C 0 rfl dX4_countWays_46 ?_
      refine ob hf (fun v15 g16 hf => ?_)
      refine pt_getI C kX10 0 (by decide) tw_682 (Or.inl rfl) g16 dX4_countWays_48 ?_
      refine pt_iadd C dX4_countWays_51 ?_
      refine ob hf (fun v17 g18 hf => ?_)
      refine pt_lald C g18 dX4_countWays_52 ?_
      refine pt_ladd C dX4_countWays_53 ?_
      refine pt_mminL C tw_718 tw_719 tw_16 tw_720 (by decide) (Nat.le_of_ble_eq_true rfl) (by decide) (by decide) dX4_countWays_54 ?_
      refine pt_lstore C [(4, .long (if (s.1 + v17) < 1000000000000000 then (s.1 + v17) else 1000000000000000)), (7, .ref q5.1), (0, .ref x0), (1, .ref x1), (2, .ref x2), (3, .int x3), (6, .int s.2.1)] (by decide) rfl dX4_countWays_57 ?_
      refine pt_iinc C 6 [(6, .int (s.2.1 + 1)), (4, .long (if (s.1 + v17) < 1000000000000000 then (s.1 + v17) else 1000000000000000)), (7, .ref q5.1), (0, .ref x0), (1, .ref x1), (2, .ref x2), (3, .int x3)] rfl (iinc_eq s.2.1 (by decide)) (by decide) rfl dX4_countWays_59 ?_
      refine pt_goto C (tgt := 6) (by decide) dX4_countWays_62 ?_
      refine pt_sub C [(0, .ref x0), (1, .ref x1), (2, .ref x2), (3, .int x3), (4, .long (if (s.1 + v17) < 1000000000000000 then (s.1 + v17) else 1000000000000000)), (6, .int (s.2.1 + 1))] [3, 4, 5, 6, 1, 0] rfl ?_
      exact K0 _ _ _ (Option.some.inj hf).symm
theorem l_X4_countWays_L6 {X : MX} (C : CX X cX4_countWays 8 RX4 (some .long) rmX4_countWays) (x0 : Nat) (x1 : Nat) (x2 : Nat) (x3 : Int32) : ∀ (n : Nat) (s : Int64 × Int32 × AH) (r : (Int64 × AH)), iter (f_X4_countWays_L6 x0 x1 x2 x3) n s = some r → (fun r : (Int64 × AH) => PT X 8 0 0 65 [(4, .long r.1)] [] r.2) r → PT X 8 0 0 6 [(0, .ref x0), (1, .ref x1), (2, .ref x2), (3, .int x3), (4, .long s.1), (6, .int s.2.1)] [] s.2.2 :=
  iter_W (fun s : Int64 × Int32 × AH => PT X 8 0 0 6 [(0, .ref x0), (1, .ref x1), (2, .ref x2), (3, .int x3), (4, .long s.1), (6, .int s.2.1)] [] s.2.2) (fun r : (Int64 × AH) => PT X 8 0 0 65 [(4, .long r.1)] [] r.2) _ (fun s s2 hf P => w_X4_countWays_L6 C x0 x1 x2 x3 s _ hf (fun u4 u6 hu e => by cases e; exact P) (fun u4 hu e => by cases e)) (fun s r hf P => w_X4_countWays_L6 C x0 x1 x2 x3 s _ hf (fun u4 u6 hu e => by cases e) (fun u4 hu e => by cases e; exact P))
set_option maxRecDepth 100000 in
set_option maxHeartbeats 4000000 in
theorem w_X4_countWays_0 {X : MX} (C : CX X cX4_countWays 8 RX4 (some .long) rmX4_countWays) (a0 : Nat) (a1 : Nat) (a2 : Nat) (a3 : Int32) (h : AH) (res : Int64 × AH) (hf : f_X4_countWays a0 a1 a2 a3 h = some res) (K : ∀ (v : Int64) (h2 : AH), res = (v, h2) → PR X rmX4_countWays (some (.long v)) h2) : PT X 8 0 0 0 [(0, .ref a0), (1, .ref a1), (2, .ref a2), (3, .int a3)] [] h := by
  unfold f_X4_countWays at hf
  refine pt_lconst C (v := 0) (by decide) dX4_countWays_0 ?_
  refine pt_lstore C [(4, .long 0), (0, .ref a0), (1, .ref a1), (2, .ref a2), (3, .int a3)] (by decide) rfl dX4_countWays_1 ?_
  refine pt_iconst C (v := 0) (by decide) dX4_countWays_3 ?_
  refine pt_istore C [(6, .int 0), (4, .long 0), (0, .ref a0), (1, .ref a1), (2, .ref a2), (3, .int a3)] (by decide) rfl dX4_countWays_4 ?_
  refine pt_sub C [(0, .ref a0), (1, .ref a1), (2, .ref a2), (3, .int a3), (4, .long 0), (6, .int 0)] [2, 3, 4, 5, 1, 0] rfl ?_
  refine ob hf (fun e19 g20 hf => ?_)
  refine l_X4_countWays_L6 C a0 a1 a2 a3 _ _ _ g20 ?_
  refine pt_lload C 0 rfl dX4_countWays_65 ?_
  exact pt_lret C (K _ _ (Option.some.inj hf).symm) (by decide) (by decide) dX4_countWays_67
theorem con_X4_countWays (l : Launch) (a0 : Nat) (a1 : Nat) (a2 : Nat) (a3 : Int32) (h : AH) (q : Int64 × AH) (hf : f_X4_countWays a0 a1 a2 a3 h = some q) : Con l yX4_countWays cX4_countWays 8 (some .long) rmX4_countWays [.ref a0, .ref a1, .ref a2, .int a3] h (some (.long q.1)) q.2 := Con.of (by decide +kernel) (Nat.le_of_ble_eq_true rfl) (fun X C I K => w_X4_countWays_0 C a0 a1 a2 a3 h q hf (fun v h2 e => by cases e; exact K))
abbrev rmX4_howMany : Room := { frames := 4, cells := 0, slots := 0, locals := 91 }
theorem yn_X4_howMany : YN yX4_howMany 2 := by refine ⟨?_, ?_, ?_⟩ <;> decide +kernel
set_option maxRecDepth 100000 in
set_option maxHeartbeats 4000000 in
theorem w_X4_howMany_L17 {X : MX} (C : CX X cX4_howMany 4 RX4 (some .long) rmX4_howMany) (x0 : Nat) (x1 : Nat) (x2 : Nat) (s : Int32 × AH) (res : (Int32 × AH) ⊕ ((AH))) (hf : f_X4_howMany_L17 x0 x1 x2 s = some res) (K0 : ∀ (u3 : Int32) (hu : AH), res = .inl (u3, hu) → PT X 4 0 0 17 [(0, .ref x0), (1, .ref x1), (2, .ref x2), (3, .int u3)] [] hu) (K1 : ∀ (hu : AH), res = .inr (hu) → PT X 4 0 0 63 [(0, .ref x0)] [] hu) : PT X 4 0 0 17 [(0, .ref x0), (1, .ref x1), (2, .ref x2), (3, .int s.1)] [] s.2 := by
  unfold f_X4_howMany_L17 at hf
  refine pt_iload_n C 3 rfl rfl dX4_howMany_17 ?_
  refine pt_if_lt C (tgt := 63) (by decide) dX4_howMany_18 (fun c9 => ?_) (fun c9 => ?_)
  · rw [if_pos c9] at hf
    refine pt_sub C [(0, .ref x0)] [0] rfl ?_
    exact K1 _ (Option.some.inj hf).symm
  · rw [if_neg c9] at hf
    refine pt_aload_n C 0 rfl rfl dX4_howMany_21 ?_
    refine ob hf (fun v10 g11 hf => ?_)
    refine pt_getR C kX4 0 (by decide) tw_223 (Or.inl rfl) g11 dX4_howMany_22 ?_
    refine pt_iload_n C 3 rfl rfl dX4_howMany_25 ?_
    refine pt_aload_n C 1 rfl rfl dX4_howMany_26 ?_
    refine ob hf (fun v12 g13 hf => ?_)
    refine pt_getR C kX6 0 (by decide) tw_39 (Or.inl rfl) g13 dX4_howMany_27 ?_
    refine pt_iload_n C 3 rfl rfl dX4_howMany_30 ?_
    refine ob hf (fun v14 g15 hf => ?_)
    refine pt_iald C g15 dX4_howMany_31 ?_
    refine ob hf (fun q16 g17 hf => ?_)
    refine pt_callSN C (As := [.int v14]) (rest := [.int s.1, .ref v10]) (v := (some (.int q16.1))) (fun l => con_X11_isSilent l v14 s.2 _ g17) tw_700 (host := "HeaveSongs") (by decide +kernel) tw_699 tw_1 yn_X11_isSilent (by decide) (Nat.le_of_ble_eq_true rfl) dX4_howMany_32 rfl ?_
    show PT X 4 0 0 35 [(0, .ref x0), (1, .ref x1), (2, .ref x2), (3, .int s.1)] [.int q16.1, .int s.1, .ref v10] q16.2
    refine pt_if_eq C (tgt := 49) (by decide) dX4_howMany_35 (fun c18 => ?_) (fun c18 => ?_)
    · rw [if_pos c18] at hf
      refine pt_aload_n C 0 rfl rfl dX4_howMany_49 ?_
      refine pt_aload_n C 1 rfl rfl dX4_howMany_50 ?_
      refine pt_aload_n C 2 rfl rfl dX4_howMany_51 ?_
      refine pt_iload_n C 3 rfl rfl dX4_howMany_52 ?_
      refine ob hf (fun _ g21 hf => ?_)
      refine ob hf (fun q19 g20 hf => ?_)
      refine pt_callV C (As := [.ref x1, .ref x2, .int s.1]) (rest := [.int s.1, .ref v10]) (v := (some (.long q19.1))) (fun l => con_X4_countWays l x0 x1 x2 s.1 q16.2 _ g20) tw_704 tw_701 tw_703 tp_12 kX4 g21 tw_9 yn_X4_countWays (by decide) (Nat.le_of_ble_eq_true rfl) dX4_howMany_53 rfl ?_
      show PT X 4 0 0 56 [(0, .ref x0), (1, .ref x1), (2, .ref x2), (3, .int s.1)] [.long q19.1, .int s.1, .ref v10] q19.2
      refine ob hf (fun h22 g23 hf => ?_)
      refine pt_last C g23 dX4_howMany_56 ?_
      refine pt_iinc C 3 [(3, .int (s.1 + (-1))), (0, .ref x0), (1, .ref x1), (2, .ref x2)] rfl (iinc_eq s.1 (by decide)) (by decide) rfl dX4_howMany_57 ?_
      refine pt_goto C (tgt := 17) (by decide) dX4_howMany_60 ?_
      refine pt_sub C [(0, .ref x0), (1, .ref x1), (2, .ref x2), (3, .int (s.1 + (-1)))] [1, 2, 3, 0] rfl ?_
      exact K0 _ _ (Option.some.inj hf).symm
    · rw [if_neg c18] at hf
      refine pt_aload_n C 0 rfl rfl dX4_howMany_38 ?_
      refine ob hf (fun v24 g25 hf => ?_)
      refine pt_getR C kX4 0 (by decide) tw_223 (Or.inl rfl) g25 dX4_howMany_39 ?_
      refine pt_iload_n C 3 rfl rfl dX4_howMany_42 ?_
      refine pt_iconst C (v := 1) (by decide) dX4_howMany_43 ?_
      refine pt_iadd C dX4_howMany_44 ?_
      refine ob hf (fun v26 g27 hf => ?_)
      refine pt_lald C g27 dX4_howMany_45 ?_
      refine pt_goto C (tgt := 56) (by decide) dX4_howMany_46 ?_
      refine ob hf (fun h28 g29 hf => ?_)
      refine pt_last C g29 dX4_howMany_56 ?_
      refine pt_iinc C 3 [(3, .int (s.1 + (-1))), (0, .ref x0), (1, .ref x1), (2, .ref x2)] rfl (iinc_eq s.1 (by decide)) (by decide) rfl dX4_howMany_57 ?_
      refine pt_goto C (tgt := 17) (by decide) dX4_howMany_60 ?_
      refine pt_sub C [(0, .ref x0), (1, .ref x1), (2, .ref x2), (3, .int (s.1 + (-1)))] [1, 2, 3, 0] rfl ?_
      exact K0 _ _ (Option.some.inj hf).symm
theorem l_X4_howMany_L17 {X : MX} (C : CX X cX4_howMany 4 RX4 (some .long) rmX4_howMany) (x0 : Nat) (x1 : Nat) (x2 : Nat) : ∀ (n : Nat) (s : Int32 × AH) (r : (AH)), iter (f_X4_howMany_L17 x0 x1 x2) n s = some r → (fun r : (AH) => PT X 4 0 0 63 [(0, .ref x0)] [] r) r → PT X 4 0 0 17 [(0, .ref x0), (1, .ref x1), (2, .ref x2), (3, .int s.1)] [] s.2 :=
  iter_W (fun s : Int32 × AH => PT X 4 0 0 17 [(0, .ref x0), (1, .ref x1), (2, .ref x2), (3, .int s.1)] [] s.2) (fun r : (AH) => PT X 4 0 0 63 [(0, .ref x0)] [] r) _ (fun s s2 hf P => w_X4_howMany_L17 C x0 x1 x2 s _ hf (fun u3 hu e => by cases e; exact P) (fun hu e => by cases e)) (fun s r hf P => w_X4_howMany_L17 C x0 x1 x2 s _ hf (fun u3 hu e => by cases e) (fun hu e => by cases e; exact P))
set_option maxRecDepth 100000 in
set_option maxHeartbeats 4000000 in
theorem w_X4_howMany_0 {X : MX} (C : CX X cX4_howMany 4 RX4 (some .long) rmX4_howMany) (a0 : Nat) (a1 : Nat) (a2 : Nat) (h : AH) (res : Int64 × AH) (hf : f_X4_howMany a0 a1 a2 h = some res) (K : ∀ (v : Int64) (h2 : AH), res = (v, h2) → PR X rmX4_howMany (some (.long v)) h2) : PT X 4 0 0 0 [(0, .ref a0), (1, .ref a1), (2, .ref a2)] [] h := by
  unfold f_X4_howMany at hf
  refine pt_aload_n C 0 rfl rfl dX4_howMany_0 ?_
  refine ob hf (fun v1 g2 hf => ?_)
  refine pt_getR C kX4 0 (by decide) tw_223 (Or.inl rfl) g2 dX4_howMany_1 ?_
  refine pt_aload_n C 1 rfl rfl dX4_howMany_4 ?_
  refine ob hf (fun v3 g4 hf => ?_)
  refine pt_getI C kX6 1 (by decide) tw_45 (Or.inl rfl) g4 dX4_howMany_5 ?_
  refine pt_lconst C (v := 1) (by decide) dX4_howMany_8 ?_
  refine ob hf (fun h5 g6 hf => ?_)
  refine pt_last C g6 dX4_howMany_9 ?_
  refine pt_aload_n C 1 rfl rfl dX4_howMany_10 ?_
  refine ob hf (fun v7 g8 hf => ?_)
  refine pt_getI C kX6 1 (by decide) tw_45 (Or.inl rfl) g8 dX4_howMany_11 ?_
  refine pt_iconst C (v := 1) (by decide) dX4_howMany_14 ?_
  refine pt_isub C dX4_howMany_15 ?_
  refine pt_istore_n C [(3, .int (v7 - 1)), (0, .ref a0), (1, .ref a1), (2, .ref a2)] rfl (by decide) rfl dX4_howMany_16 ?_
  refine pt_sub C [(0, .ref a0), (1, .ref a1), (2, .ref a2), (3, .int (v7 - 1))] [1, 2, 3, 0] rfl ?_
  refine ob hf (fun e30 g31 hf => ?_)
  refine l_X4_howMany_L17 C a0 a1 a2 _ _ _ g31 ?_
  refine pt_aload_n C 0 rfl rfl dX4_howMany_63 ?_
  refine ob hf (fun v32 g33 hf => ?_)
  refine pt_getR C kX4 0 (by decide) tw_223 (Or.inl rfl) g33 dX4_howMany_64 ?_
  refine pt_iconst C (v := 0) (by decide) dX4_howMany_67 ?_
  refine ob hf (fun v34 g35 hf => ?_)
  refine pt_lald C g35 dX4_howMany_68 ?_
  exact pt_lret C (K _ _ (Option.some.inj hf).symm) (by decide) (by decide) dX4_howMany_69
theorem con_X4_howMany (l : Launch) (a0 : Nat) (a1 : Nat) (a2 : Nat) (h : AH) (q : Int64 × AH) (hf : f_X4_howMany a0 a1 a2 h = some q) : Con l yX4_howMany cX4_howMany 4 (some .long) rmX4_howMany [.ref a0, .ref a1, .ref a2] h (some (.long q.1)) q.2 := Con.of (by decide +kernel) (Nat.le_of_ble_eq_true rfl) (fun X C I K => w_X4_howMany_0 C a0 a1 a2 h q hf (fun v h2 e => by cases e; exact K))
abbrev rmX4_wrongWith : Room := { frames := 2, cells := 0, slots := 0, locals := 46 }
theorem yn_X4_wrongWith : YN yX4_wrongWith 3 := by refine ⟨?_, ?_, ?_⟩ <;> decide +kernel
set_option maxRecDepth 100000 in
set_option maxHeartbeats 4000000 in
theorem w_X4_wrongWith_0 {X : MX} (C : CX X cX4_wrongWith 5 RX4 (some .int) rmX4_wrongWith) (a0 : Nat) (a1 : Nat) (a2 : Nat) (a3 : Int32) (h : AH) (res : Int32 × AH) (hf : f_X4_wrongWith a0 a1 a2 a3 h = some res) (K : ∀ (v : Int32) (h2 : AH), res = (v, h2) → PR X rmX4_wrongWith (some (.int v)) h2) : PT X 5 0 0 0 [(0, .ref a0), (1, .ref a1), (2, .ref a2), (3, .int a3)] [] h := by
  unfold f_X4_wrongWith at hf
  refine pt_aload_n C 1 rfl rfl dX4_wrongWith_0 ?_
  refine pt_aload_n C 2 rfl rfl dX4_wrongWith_1 ?_
  refine pt_iload_n C 3 rfl rfl dX4_wrongWith_2 ?_
  refine ob hf (fun _ g3 hf => ?_)
  refine ob hf (fun q1 g2 hf => ?_)
  refine pt_callV C (As := [.ref a2, .int a3]) (rest := []) (v := (some (.int q1.1))) (fun l => con_X10_wrongIfSungFrom l a1 a2 a3 h _ g2) tw_711 tw_708 tw_709 tw_710 kX10 g3 tw_23 yn_X10_wrongIfSungFrom (by decide) (Nat.le_of_ble_eq_true rfl) dX4_wrongWith_3 rfl ?_
  show PT X 5 0 0 6 [(0, .ref a0), (1, .ref a1), (2, .ref a2), (3, .int a3)] [.int q1.1] q1.2
  refine pt_istore C [(4, .int q1.1), (0, .ref a0), (1, .ref a1), (2, .ref a2), (3, .int a3)] (by decide) rfl dX4_wrongWith_6 ?_
  refine pt_iload C 0 rfl dX4_wrongWith_8 ?_
  refine pt_iconst C (v := (-1)) (by decide) dX4_wrongWith_10 ?_
  refine pt_icmp_eq C (tgt := 29) (by decide) dX4_wrongWith_11 (fun c4 => ?_) (fun c4 => ?_)
  · rw [if_pos c4] at hf
    refine pt_iconst C (v := (-1)) (by decide) dX4_wrongWith_29 ?_
    exact pt_iret C (K _ _ (Option.some.inj hf).symm) (by decide) (by decide) dX4_wrongWith_30
  · rw [if_neg c4] at hf
    refine pt_aload_n C 1 rfl rfl dX4_wrongWith_14 ?_
    refine ob hf (fun v5 g6 hf => ?_)
    refine pt_getR C kX4 1 (by decide) tw_224 (Or.inl rfl) g6 dX4_wrongWith_15 ?_
    refine pt_iload_n C 4 rfl rfl dX4_wrongWith_18 ?_
    refine pt_aload_n C 2 rfl rfl dX4_wrongWith_19 ?_
    refine ob hf (fun v7 g8 hf => ?_)
    refine pt_getI C kX10 0 (by decide) tw_682 (Or.inl rfl) g8 dX4_wrongWith_20 ?_
    refine pt_iadd C dX4_wrongWith_23 ?_
    refine ob hf (fun v9 g10 hf => ?_)
    refine pt_iald C g10 dX4_wrongWith_24 ?_
    refine pt_iconst C (v := (-1)) (by decide) dX4_wrongWith_25 ?_
    refine pt_icmp_ne C (tgt := 31) (by decide) dX4_wrongWith_26 (fun c11 => ?_) (fun c11 => ?_)
    · rw [if_neg c11] at hf
      refine pt_iload C 0 rfl dX4_wrongWith_31 ?_
      refine pt_aload_n C 1 rfl rfl dX4_wrongWith_33 ?_
      refine ob hf (fun v12 g13 hf => ?_)
      refine pt_getR C kX4 1 (by decide) tw_224 (Or.inl rfl) g13 dX4_wrongWith_34 ?_
      refine pt_iload_n C 4 rfl rfl dX4_wrongWith_37 ?_
      refine pt_aload_n C 2 rfl rfl dX4_wrongWith_38 ?_
      refine ob hf (fun v14 g15 hf => ?_)
      refine pt_getI C kX10 0 (by decide) tw_682 (Or.inl rfl) g15 dX4_wrongWith_39 ?_
      refine pt_iadd C dX4_wrongWith_42 ?_
      refine ob hf (fun v16 g17 hf => ?_)
      refine pt_iald C g17 dX4_wrongWith_43 ?_
      refine pt_iadd C dX4_wrongWith_44 ?_
      exact pt_iret C (K _ _ (Option.some.inj hf).symm) (by decide) (by decide) dX4_wrongWith_45
    · rw [if_pos c11] at hf
      refine pt_iconst C (v := (-1)) (by decide) dX4_wrongWith_29 ?_
      exact pt_iret C (K _ _ (Option.some.inj hf).symm) (by decide) (by decide) dX4_wrongWith_30
theorem con_X4_wrongWith (l : Launch) (a0 : Nat) (a1 : Nat) (a2 : Nat) (a3 : Int32) (h : AH) (q : Int32 × AH) (hf : f_X4_wrongWith a0 a1 a2 a3 h = some q) : Con l yX4_wrongWith cX4_wrongWith 5 (some .int) rmX4_wrongWith [.ref a0, .ref a1, .ref a2, .int a3] h (some (.int q.1)) q.2 := Con.of (by decide +kernel) (Nat.le_of_ble_eq_true rfl) (fun X C I K => w_X4_wrongWith_0 C a0 a1 a2 a3 h q hf (fun v h2 e => by cases e; exact K))
abbrev rmX4_nearWord : Room := { frames := 3, cells := 0, slots := 0, locals := 70 }
theorem yn_X4_nearWord : YN yX4_nearWord 3 := by refine ⟨?_, ?_, ?_⟩ <;> decide +kernel
set_option maxRecDepth 100000 in
set_option maxHeartbeats 4000000 in
theorem w_X4_nearWord_L3 {X : MX} (C : CX X cX4_nearWord 5 RX4 (some .int) rmX4_nearWord) (x0 : Nat) (x1 : Nat) (x2 : Nat) (x3 : Int32) (s : Int32 × AH) (res : (Int32 × AH) ⊕ ((AH) ⊕ (Int32 × AH))) (hf : f_X4_nearWord_L3 x0 x1 x2 x3 s = some res) (K0 : ∀ (u4 : Int32) (hu : AH), res = .inl (u4, hu) → PT X 5 0 0 3 [(0, .ref x0), (1, .ref x1), (2, .ref x2), (3, .int x3), (4, .int u4)] [] hu) (K1 : ∀ (hu : AH), res = .inr (.inl (hu)) → PT X 5 0 0 45 [] [] hu) (K2 : ∀ (u4 : Int32) (hu : AH), res = .inr (.inr ((u4, hu))) → PT X 5 0 0 36 [(4, .int u4)] [] hu) : PT X 5 0 0 3 [(0, .ref x0), (1, .ref x1), (2, .ref x2), (3, .int x3), (4, .int s.1)] [] s.2 := by
  unfold f_X4_nearWord_L3 at hf
  refine pt_iload C 4 rfl dX4_nearWord_3 ?_
  refine pt_aload_n C 2 rfl rfl dX4_nearWord_5 ?_
  refine ob hf (fun _ g3 hf => ?_)
  refine ob hf (fun q1 g2 hf => ?_)
  refine pt_callV C (As := []) (rest := [.int s.1]) (v := (some (.int q1.1))) (fun l => con_Jx4a65c_size_8abf5 l x2 s.2 _ g2) tw_363 tw_705 tw_361 tw_362 kJx4a65c g3 tw_5 yn_Jx4a65c_size_8abf5 (by decide) (Nat.le_of_ble_eq_true rfl) dX4_nearWord_6 rfl ?_
  show PT X 5 0 0 9 [(0, .ref x0), (1, .ref x1), (2, .ref x2), (3, .int x3), (4, .int s.1)] [.int q1.1, .int s.1] q1.2
  refine pt_icmp_ge C (tgt := 45) (by decide) dX4_nearWord_9 (fun c4 => ?_) (fun c4 => ?_)
  · rw [if_pos c4] at hf
    refine pt_sub C [] [] rfl ?_
    exact K1 _ (Option.some.inj hf).symm
  · rw [if_neg c4] at hf
    refine pt_aload_n C 0 rfl rfl dX4_nearWord_12 ?_
    refine pt_aload_n C 2 rfl rfl dX4_nearWord_13 ?_
    refine pt_iload C 4 rfl dX4_nearWord_14 ?_
    refine ob hf (fun _ g7 hf => ?_)
    refine ob hf (fun q5 g6 hf => ?_)
    refine pt_callV C (As := [.int s.1]) (rest := [.ref x0]) (v := (some (.ref q5.1))) (fun l => con_Jx4a65c_get_915e3 l x2 s.1 q1.2 _ g6) tw_465 tw_706 tw_463 tw_464 kJx4a65c g7 tw_5 yn_Jx4a65c_get_915e3 (by decide) (Nat.le_of_ble_eq_true rfl) dX4_nearWord_16 rfl ?_
    show PT X 5 0 0 19 [(0, .ref x0), (1, .ref x1), (2, .ref x2), (3, .int x3), (4, .int s.1)] [.ref q5.1, .ref x0] q5.2
    refine ob hf (fun _ g8 hf => ?_)
    refine pt_cast C kX10 tw_707 g8 dX4_nearWord_19 ?_
    refine pt_aload_n C 1 rfl rfl dX4_nearWord_22 ?_
    refine pt_iload_n C 3 rfl rfl dX4_nearWord_23 ?_
    refine ob hf (fun _ g11 hf => ?_)
    refine ob hf (fun q9 g10 hf => ?_)
    refine pt_callV C (As := [.ref q5.1, .ref x1, .int x3]) (rest := []) (v := (some (.int q9.1))) (fun l => con_X4_wrongWith l x0 q5.1 x1 x3 q5.2 _ g10) tw_741 tw_738 tw_740 tp_15 kX4 g11 tw_9 yn_X4_wrongWith (by decide) (Nat.le_of_ble_eq_true rfl) dX4_nearWord_24 rfl ?_
    show PT X 5 0 0 27 [(0, .ref x0), (1, .ref x1), (2, .ref x2), (3, .int x3), (4, .int s.1)] [.int q9.1] q9.2
    refine pt_aload_n C 0 rfl rfl dX4_nearWord_27 ?_
    refine ob hf (fun v12 g13 hf => ?_)
    refine pt_getR C kX4 1 (by decide) tw_224 (Or.inl rfl) g13 dX4_nearWord_28 ?_
    refine pt_iload_n C 3 rfl rfl dX4_nearWord_31 ?_
    refine ob hf (fun v14 g15 hf => ?_)
    refine pt_iald C g15 dX4_nearWord_32 ?_
    refine pt_icmp_ne C (tgt := 39) (by decide) dX4_nearWord_33 (fun c16 => ?_) (fun c16 => ?_)
    · rw [if_neg c16] at hf
      refine pt_iinc C 4 [(4, .int (s.1 + 1)), (0, .ref x0), (1, .ref x1), (2, .ref x2), (3, .int x3)] rfl (iinc_eq s.1 (by decide)) (by decide) rfl dX4_nearWord_39 ?_
      refine pt_goto C (tgt := 3) (by decide) dX4_nearWord_42 ?_
      refine pt_sub C [(0, .ref x0), (1, .ref x1), (2, .ref x2), (3, .int x3), (4, .int (s.1 + 1))] [1, 2, 3, 4, 0] rfl ?_
      exact K0 _ _ (Option.some.inj hf).symm
    · rw [if_pos c16] at hf
      refine pt_sub C [(4, .int s.1)] [4] rfl ?_
      exact K2 _ _ (Option.some.inj hf).symm
theorem l_X4_nearWord_L3 {X : MX} (C : CX X cX4_nearWord 5 RX4 (some .int) rmX4_nearWord) (x0 : Nat) (x1 : Nat) (x2 : Nat) (x3 : Int32) : ∀ (n : Nat) (s : Int32 × AH) (r : (AH) ⊕ (Int32 × AH)), iter (f_X4_nearWord_L3 x0 x1 x2 x3) n s = some r → (Sum.elim (fun r : (AH) => PT X 5 0 0 45 [] [] r) (fun r : (Int32 × AH) => PT X 5 0 0 36 [(4, .int r.1)] [] r.2)) r → PT X 5 0 0 3 [(0, .ref x0), (1, .ref x1), (2, .ref x2), (3, .int x3), (4, .int s.1)] [] s.2 :=
  iter_W (fun s : Int32 × AH => PT X 5 0 0 3 [(0, .ref x0), (1, .ref x1), (2, .ref x2), (3, .int x3), (4, .int s.1)] [] s.2) (Sum.elim (fun r : (AH) => PT X 5 0 0 45 [] [] r) (fun r : (Int32 × AH) => PT X 5 0 0 36 [(4, .int r.1)] [] r.2)) _ (fun s s2 hf P => w_X4_nearWord_L3 C x0 x1 x2 x3 s _ hf (fun u4 hu e => by cases e; exact P) (fun hu e => by cases e) (fun u4 hu e => by cases e)) (fun s r hf P => w_X4_nearWord_L3 C x0 x1 x2 x3 s _ hf (fun u4 hu e => by cases e) (fun hu e => by cases e; exact P) (fun u4 hu e => by cases e; exact P))
set_option maxRecDepth 100000 in
set_option maxHeartbeats 4000000 in
theorem w_X4_nearWord_0 {X : MX} (C : CX X cX4_nearWord 5 RX4 (some .int) rmX4_nearWord) (a0 : Nat) (a1 : Nat) (a2 : Nat) (a3 : Int32) (h : AH) (res : Int32 × AH) (hf : f_X4_nearWord a0 a1 a2 a3 h = some res) (K : ∀ (v : Int32) (h2 : AH), res = (v, h2) → PR X rmX4_nearWord (some (.int v)) h2) : PT X 5 0 0 0 [(0, .ref a0), (1, .ref a1), (2, .ref a2), (3, .int a3)] [] h := by
  unfold f_X4_nearWord at hf
  refine pt_iconst C (v := 0) (by decide) dX4_nearWord_0 ?_
  refine pt_istore C [(4, .int 0), (0, .ref a0), (1, .ref a1), (2, .ref a2), (3, .int a3)] (by decide) rfl dX4_nearWord_1 ?_
  refine pt_sub C [(0, .ref a0), (1, .ref a1), (2, .ref a2), (3, .int a3), (4, .int 0)] [1, 2, 3, 4, 0] rfl ?_
  refine ob hf (fun e17 g18 hf => ?_)
  refine l_X4_nearWord_L3 C a0 a1 a2 a3 _ _ _ g18 ?_
  cases e17 with
  | inl e19 =>
    simp only [Sum.elim_inl] at hf ⊢
    refine pt_iconst C (v := (-1)) (by decide) dX4_nearWord_45 ?_
    exact pt_iret C (K _ _ (Option.some.inj hf).symm) (by decide) (by decide) dX4_nearWord_46
  | inr e20 =>
    simp only [Sum.elim_inr] at hf ⊢
    refine pt_iload C 0 rfl dX4_nearWord_36 ?_
    exact pt_iret C (K _ _ (Option.some.inj hf).symm) (by decide) (by decide) dX4_nearWord_38
theorem con_X4_nearWord (l : Launch) (a0 : Nat) (a1 : Nat) (a2 : Nat) (a3 : Int32) (h : AH) (q : Int32 × AH) (hf : f_X4_nearWord a0 a1 a2 a3 h = some q) : Con l yX4_nearWord cX4_nearWord 5 (some .int) rmX4_nearWord [.ref a0, .ref a1, .ref a2, .int a3] h (some (.int q.1)) q.2 := Con.of (by decide +kernel) (Nat.le_of_ble_eq_true rfl) (fun X C I K => w_X4_nearWord_0 C a0 a1 a2 a3 h q hf (fun v h2 e => by cases e; exact K))
abbrev rmX4_countedWord : Room := { frames := 3, cells := 0, slots := 0, locals := 64 }
theorem yn_X4_countedWord : YN yX4_countedWord 3 := by refine ⟨?_, ?_, ?_⟩ <;> decide +kernel
set_option maxRecDepth 100000 in
set_option maxHeartbeats 4000000 in
theorem w_X4_countedWord_L3 {X : MX} (C : CX X cX4_countedWord 8 RX4 (some .int) rmX4_countedWord) (x0 : Nat) (x1 : Nat) (x2 : Nat) (x3 : Int32) (s : Int32 × AH) (res : (Int32 × AH) ⊕ ((AH) ⊕ (Int32 × AH))) (hf : f_X4_countedWord_L3 x0 x1 x2 x3 s = some res) (K0 : ∀ (u4 : Int32) (hu : AH), res = .inl (u4, hu) → PT X 8 0 0 3 [(0, .ref x0), (1, .ref x1), (2, .ref x2), (3, .int x3), (4, .int u4)] [] hu) (K1 : ∀ (hu : AH), res = .inr (.inl (hu)) → PT X 8 0 0 77 [] [] hu) (K2 : ∀ (u4 : Int32) (hu : AH), res = .inr (.inr ((u4, hu))) → PT X 8 0 0 57 [(4, .int u4)] [] hu) : PT X 8 0 0 3 [(0, .ref x0), (1, .ref x1), (2, .ref x2), (3, .int x3), (4, .int s.1)] [] s.2 := by
  unfold f_X4_countedWord_L3 at hf
  refine pt_iload C 4 rfl dX4_countedWord_3 ?_
  refine pt_aload_n C 2 rfl rfl dX4_countedWord_5 ?_
  refine ob hf (fun _ g3 hf => ?_)
  refine ob hf (fun q1 g2 hf => ?_)
  refine pt_callV C (As := []) (rest := [.int s.1]) (v := (some (.int q1.1))) (fun l => con_Jx4a65c_size_8abf5 l x2 s.2 _ g2) tw_363 tw_705 tw_361 tw_362 kJx4a65c g3 tw_5 yn_Jx4a65c_size_8abf5 (by decide) (Nat.le_of_ble_eq_true rfl) dX4_countedWord_6 rfl ?_
  show PT X 8 0 0 9 [(0, .ref x0), (1, .ref x1), (2, .ref x2), (3, .int x3), (4, .int s.1)] [.int q1.1, .int s.1] q1.2
  refine pt_icmp_ge C (tgt := 77) (by decide) dX4_countedWord_9 (fun c4 => ?_) (fun c4 => ?_)
  · rw [if_pos c4] at hf
    refine pt_sub C [] [] rfl ?_
    exact K1 _ (Option.some.inj hf).symm
  · rw [if_neg c4] at hf
    refine pt_aload_n C 2 rfl rfl dX4_countedWord_12 ?_
    refine pt_iload C 4 rfl dX4_countedWord_13 ?_
    refine ob hf (fun _ g7 hf => ?_)
    refine ob hf (fun q5 g6 hf => ?_)
    refine pt_callV C (As := [.int s.1]) (rest := []) (v := (some (.ref q5.1))) (fun l => con_Jx4a65c_get_915e3 l x2 s.1 q1.2 _ g6) tw_465 tw_706 tw_463 tw_464 kJx4a65c g7 tw_5 yn_Jx4a65c_get_915e3 (by decide) (Nat.le_of_ble_eq_true rfl) dX4_countedWord_15 rfl ?_
    show PT X 8 0 0 18 [(0, .ref x0), (1, .ref x1), (2, .ref x2), (3, .int x3), (4, .int s.1)] [.ref q5.1] q5.2
    refine ob hf (fun _ g8 hf => ?_)
    refine pt_cast C kX10 tw_707 g8 dX4_countedWord_18 ?_
    refine pt_astore C [(5, .ref q5.1), (0, .ref x0), (1, .ref x1), (2, .ref x2), (3, .int x3), (4, .int s.1)] (by decide) rfl dX4_countedWord_21 ?_
    refine pt_aload C 0 rfl dX4_countedWord_23 ?_
    refine pt_aload_n C 2 rfl rfl dX4_countedWord_25 ?_
    refine pt_iload_n C 4 rfl rfl dX4_countedWord_26 ?_
    refine ob hf (fun _ g11 hf => ?_)
    refine ob hf (fun q9 g10 hf => ?_)
    refine pt_callV C (As := [.ref x1, .int x3]) (rest := []) (v := (some (.int q9.1))) (fun l => con_X10_wrongIfSungFrom l q5.1 x1 x3 q5.2 _ g10) tw_711 tw_708 tw_709 tw_710 kX10 g11 tw_23 yn_X10_wrongIfSungFrom (by decide) (Nat.le_of_ble_eq_true rfl) dX4_countedWord_27 rfl ?_
    show PT X 8 0 0 30 [(5, .ref q5.1), (0, .ref x0), (1, .ref x1), (2, .ref x2), (3, .int x3), (4, .int s.1)] [.int q9.1] q9.2
    refine pt_if_ne C (tgt := 71) (by decide) dX4_countedWord_30 (fun c12 => ?_) (fun c12 => ?_)
    · rw [if_neg c12] at hf
      refine pt_iinc C 5 [(4, .int (s.1 + 1)), (5, .ref q5.1), (0, .ref x0), (1, .ref x1), (2, .ref x2), (3, .int x3)] rfl (iinc_eq s.1 (by decide)) (by decide) rfl dX4_countedWord_71 ?_
      refine pt_goto C (tgt := 3) (by decide) dX4_countedWord_74 ?_
      refine pt_sub C [(0, .ref x0), (1, .ref x1), (2, .ref x2), (3, .int x3), (4, .int (s.1 + 1))] [2, 3, 4, 5, 0] rfl ?_
      exact K0 _ _ (Option.some.inj hf).symm
    · rw [if_pos c12] at hf
      refine pt_aload_n C 1 rfl rfl dX4_countedWord_33 ?_
      refine ob hf (fun v13 g14 hf => ?_)
      refine pt_getR C kX4 0 (by decide) tw_223 (Or.inl rfl) g14 dX4_countedWord_34 ?_
      refine pt_iload_n C 4 rfl rfl dX4_countedWord_37 ?_
      refine pt_aload C 0 rfl dX4_countedWord_38 ?_
      refine ob hf (fun v15 g16 hf => ?_)
      refine pt_getI C kX10 0 (by decide) tw_682 (Or.inl rfl) g16 dX4_countedWord_40 ?_
      refine pt_iadd C dX4_countedWord_43 ?_
      refine ob hf (fun v17 g18 hf => ?_)
      refine pt_lald C g18 dX4_countedWord_44 ?_
      refine pt_lstore C [(6, .long v17), (5, .ref q5.1), (0, .ref x0), (1, .ref x1), (2, .ref x2), (3, .int x3), (4, .int s.1)] (by decide) rfl dX4_countedWord_45 ?_
      refine pt_aload_n C 2 rfl rfl dX4_countedWord_47 ?_
      refine ob hf (fun v19 g20 hf => ?_)
      refine pt_getJ C kX4 4 (by decide) tw_227 (Or.inl rfl) g20 dX4_countedWord_48 ?_
      refine pt_lload C 0 rfl dX4_countedWord_51 ?_
      refine pt_lcmp C dX4_countedWord_53 ?_
      refine pt_if_ge C (tgt := 60) (by decide) dX4_countedWord_54 (fun c21 => ?_) (fun c21 => ?_)
      · rw [if_pos c21] at hf
        refine pt_aload_n C 2 rfl rfl dX4_countedWord_60 ?_
        refine pt_dup C rfl dX4_countedWord_61 ?_
        refine ob hf (fun v22 g23 hf => ?_)
        refine pt_getJ C kX4 4 (by decide) tw_227 (Or.inl rfl) g23 dX4_countedWord_62 ?_
        refine pt_lload C 0 rfl dX4_countedWord_65 ?_
        refine pt_lsub C dX4_countedWord_67 ?_
        refine ob hf (fun h24 g25 hf => ?_)
        refine pt_put C kX4 4 (by decide) tw_227 (Or.inl rfl) rfl rfl rfl g25 dX4_countedWord_68 ?_
        refine pt_iinc C 6 [(4, .int (s.1 + 1)), (6, .long v17), (5, .ref q5.1), (0, .ref x0), (1, .ref x1), (2, .ref x2), (3, .int x3)] rfl (iinc_eq s.1 (by decide)) (by decide) rfl dX4_countedWord_71 ?_
        refine pt_goto C (tgt := 3) (by decide) dX4_countedWord_74 ?_
        refine pt_sub C [(0, .ref x0), (1, .ref x1), (2, .ref x2), (3, .int x3), (4, .int (s.1 + 1))] [3, 4, 5, 6, 0] rfl ?_
        exact K0 _ _ (Option.some.inj hf).symm
      · rw [if_neg c21] at hf
        refine pt_sub C [(4, .int s.1)] [6] rfl ?_
        exact K2 _ _ (Option.some.inj hf).symm
theorem l_X4_countedWord_L3 {X : MX} (C : CX X cX4_countedWord 8 RX4 (some .int) rmX4_countedWord) (x0 : Nat) (x1 : Nat) (x2 : Nat) (x3 : Int32) : ∀ (n : Nat) (s : Int32 × AH) (r : (AH) ⊕ (Int32 × AH)), iter (f_X4_countedWord_L3 x0 x1 x2 x3) n s = some r → (Sum.elim (fun r : (AH) => PT X 8 0 0 77 [] [] r) (fun r : (Int32 × AH) => PT X 8 0 0 57 [(4, .int r.1)] [] r.2)) r → PT X 8 0 0 3 [(0, .ref x0), (1, .ref x1), (2, .ref x2), (3, .int x3), (4, .int s.1)] [] s.2 :=
  iter_W (fun s : Int32 × AH => PT X 8 0 0 3 [(0, .ref x0), (1, .ref x1), (2, .ref x2), (3, .int x3), (4, .int s.1)] [] s.2) (Sum.elim (fun r : (AH) => PT X 8 0 0 77 [] [] r) (fun r : (Int32 × AH) => PT X 8 0 0 57 [(4, .int r.1)] [] r.2)) _ (fun s s2 hf P => w_X4_countedWord_L3 C x0 x1 x2 x3 s _ hf (fun u4 hu e => by cases e; exact P) (fun hu e => by cases e) (fun u4 hu e => by cases e)) (fun s r hf P => w_X4_countedWord_L3 C x0 x1 x2 x3 s _ hf (fun u4 hu e => by cases e) (fun hu e => by cases e; exact P) (fun u4 hu e => by cases e; exact P))
set_option maxRecDepth 100000 in
set_option maxHeartbeats 4000000 in
theorem w_X4_countedWord_0 {X : MX} (C : CX X cX4_countedWord 8 RX4 (some .int) rmX4_countedWord) (a0 : Nat) (a1 : Nat) (a2 : Nat) (a3 : Int32) (h : AH) (res : Int32 × AH) (hf : f_X4_countedWord a0 a1 a2 a3 h = some res) (K : ∀ (v : Int32) (h2 : AH), res = (v, h2) → PR X rmX4_countedWord (some (.int v)) h2) : PT X 8 0 0 0 [(0, .ref a0), (1, .ref a1), (2, .ref a2), (3, .int a3)] [] h := by
  unfold f_X4_countedWord at hf
  refine pt_iconst C (v := 0) (by decide) dX4_countedWord_0 ?_
  refine pt_istore C [(4, .int 0), (0, .ref a0), (1, .ref a1), (2, .ref a2), (3, .int a3)] (by decide) rfl dX4_countedWord_1 ?_
  refine pt_sub C [(0, .ref a0), (1, .ref a1), (2, .ref a2), (3, .int a3), (4, .int 0)] [1, 2, 3, 4, 0] rfl ?_
  refine ob hf (fun e26 g27 hf => ?_)
  refine l_X4_countedWord_L3 C a0 a1 a2 a3 _ _ _ g27 ?_
  cases e26 with
  | inl e28 =>
    simp only [Sum.elim_inl] at hf ⊢
    refine pt_iconst C (v := (-1)) (by decide) dX4_countedWord_77 ?_
    exact pt_iret C (K _ _ (Option.some.inj hf).symm) (by decide) (by decide) dX4_countedWord_78
  | inr e29 =>
    simp only [Sum.elim_inr] at hf ⊢
    refine pt_iload C 0 rfl dX4_countedWord_57 ?_
    exact pt_iret C (K _ _ (Option.some.inj hf).symm) (by decide) (by decide) dX4_countedWord_59
theorem con_X4_countedWord (l : Launch) (a0 : Nat) (a1 : Nat) (a2 : Nat) (a3 : Int32) (h : AH) (q : Int32 × AH) (hf : f_X4_countedWord a0 a1 a2 a3 h = some q) : Con l yX4_countedWord cX4_countedWord 8 (some .int) rmX4_countedWord [.ref a0, .ref a1, .ref a2, .int a3] h (some (.int q.1)) q.2 := Con.of (by decide +kernel) (Nat.le_of_ble_eq_true rfl) (fun X C I K => w_X4_countedWord_0 C a0 a1 a2 a3 h q hf (fun v h2 e => by cases e; exact K))
abbrev rmX4_lay : Room := { frames := 4, cells := 0, slots := 0, locals := 94 }
theorem yn_X4_lay : YN yX4_lay 3 := by refine ⟨?_, ?_, ?_⟩ <;> decide +kernel
set_option maxRecDepth 100000 in
set_option maxHeartbeats 4000000 in
theorem w_X4_lay_L6_J73 {X : MX} (C : CX X cX4_lay 7 RX4 none rmX4_lay) (x0 : Nat) (x1 : Nat) (x2 : Nat) (x3 : Int32) (y5 : Int32) (z0 : Int32) (h : AH) (res : (Int32 × Int32 × AH) ⊕ ((AH) ⊕ (AH))) (hf : f_X4_lay_L6_J73 x0 x1 x2 x3 y5 z0 h = some res) (K0 : ∀ (u4 : Int32) (u5 : Int32) (hu : AH), res = .inl (u4, u5, hu) → PT X 7 0 0 6 [(0, .ref x0), (1, .ref x1), (2, .ref x2), (3, .int x3), (4, .int u4), (5, .int u5)] [] hu) (K1 : ∀ (hu : AH), res = .inr (.inl (hu)) → PT X 7 0 0 126 [] [] hu) (K2 : ∀ (hu : AH), res = .inr (.inr (hu)) → PT X 7 0 0 81 [] [] hu) : PT X 7 0 0 73 [(0, .ref x0), (1, .ref x1), (2, .ref x2), (3, .int x3), (5, .int y5)] [.int z0] h := by
  unfold f_X4_lay_L6_J73 at hf
  refine pt_istore C [(6, .int z0), (0, .ref x0), (1, .ref x1), (2, .ref x2), (3, .int x3), (5, .int y5)] (by decide) rfl dX4_lay_73 ?_
  refine pt_iload C 0 rfl dX4_lay_75 ?_
  refine pt_iconst C (v := (-1)) (by decide) dX4_lay_77 ?_
  refine pt_icmp_ne C (tgt := 82) (by decide) dX4_lay_78 (fun c23 => ?_) (fun c23 => ?_)
  · rw [if_neg c23] at hf
    refine pt_aload_n C 1 rfl rfl dX4_lay_82 ?_
    refine ob hf (fun v24 g25 hf => ?_)
    refine pt_getR C kX4 2 (by decide) tw_225 (Or.inl rfl) g25 dX4_lay_83 ?_
    refine pt_aload_n C 1 rfl rfl dX4_lay_86 ?_
    refine ob hf (fun v26 g27 hf => ?_)
    refine pt_getI C kX4 3 (by decide) tw_226 (Or.inl rfl) g27 dX4_lay_87 ?_
    refine pt_iload C 0 rfl dX4_lay_90 ?_
    refine ob hf (fun h28 g29 hf => ?_)
    refine pt_iast C g29 dX4_lay_92 ?_
    refine pt_aload_n C 1 rfl rfl dX4_lay_93 ?_
    refine pt_dup C rfl dX4_lay_94 ?_
    refine ob hf (fun v30 g31 hf => ?_)
    refine pt_getI C kX4 3 (by decide) tw_226 (Or.inl rfl) g31 dX4_lay_95 ?_
    refine pt_iconst C (v := 1) (by decide) dX4_lay_98 ?_
    refine pt_iadd C dX4_lay_99 ?_
    refine ob hf (fun h32 g33 hf => ?_)
    refine pt_put C kX4 3 (by decide) tw_226 (Or.inl rfl) rfl rfl rfl g33 dX4_lay_100 ?_
    refine pt_iload C 5 rfl dX4_lay_103 ?_
    refine pt_aload_n C 3 rfl rfl dX4_lay_105 ?_
    refine pt_iload C 0 rfl dX4_lay_106 ?_
    refine ob hf (fun _ g36 hf => ?_)
    refine ob hf (fun q34 g35 hf => ?_)
    refine pt_callV C (As := [.int z0]) (rest := [.int y5]) (v := (some (.ref q34.1))) (fun l => con_Jx4a65c_get_915e3 l x2 z0 h32 _ g35) tw_465 tw_706 tw_463 tw_464 kJx4a65c g36 tw_5 yn_Jx4a65c_get_915e3 (by decide) (Nat.le_of_ble_eq_true rfl) dX4_lay_108 rfl ?_
    show PT X 7 0 0 111 [(6, .int z0), (0, .ref x0), (1, .ref x1), (2, .ref x2), (3, .int x3), (5, .int y5)] [.ref q34.1, .int y5] q34.2
    refine ob hf (fun _ g37 hf => ?_)
    refine pt_cast C kX10 tw_707 g37 dX4_lay_111 ?_
    refine ob hf (fun v38 g39 hf => ?_)
    refine pt_getI C kX10 0 (by decide) tw_682 (Or.inl rfl) g39 dX4_lay_114 ?_
    refine pt_iadd C dX4_lay_117 ?_
    refine pt_istore C [(4, .int (y5 + v38)), (6, .int z0), (0, .ref x0), (1, .ref x1), (2, .ref x2), (3, .int x3), (5, .int y5)] (by decide) rfl dX4_lay_118 ?_
    refine pt_iinc C 6 [(5, .int (y5 + 1)), (4, .int (y5 + v38)), (6, .int z0), (0, .ref x0), (1, .ref x1), (2, .ref x2), (3, .int x3)] rfl (iinc_eq y5 (by decide)) (by decide) rfl dX4_lay_120 ?_
    refine pt_goto C (tgt := 6) (by decide) dX4_lay_123 ?_
    refine pt_sub C [(0, .ref x0), (1, .ref x1), (2, .ref x2), (3, .int x3), (4, .int (y5 + v38)), (5, .int (y5 + 1))] [3, 4, 5, 6, 1, 0] rfl ?_
    exact K0 _ _ _ (Option.some.inj hf).symm
  · rw [if_pos c23] at hf
    refine pt_sub C [] [] rfl ?_
    exact K2 _ (Option.some.inj hf).symm
set_option maxRecDepth 100000 in
set_option maxHeartbeats 4000000 in
theorem w_X4_lay_L6 {X : MX} (C : CX X cX4_lay 7 RX4 none rmX4_lay) (x0 : Nat) (x1 : Nat) (x2 : Nat) (x3 : Int32) (s : Int32 × Int32 × AH) (res : (Int32 × Int32 × AH) ⊕ ((AH) ⊕ (AH))) (hf : f_X4_lay_L6 x0 x1 x2 x3 s = some res) (K0 : ∀ (u4 : Int32) (u5 : Int32) (hu : AH), res = .inl (u4, u5, hu) → PT X 7 0 0 6 [(0, .ref x0), (1, .ref x1), (2, .ref x2), (3, .int x3), (4, .int u4), (5, .int u5)] [] hu) (K1 : ∀ (hu : AH), res = .inr (.inl (hu)) → PT X 7 0 0 126 [] [] hu) (K2 : ∀ (hu : AH), res = .inr (.inr (hu)) → PT X 7 0 0 81 [] [] hu) : PT X 7 0 0 6 [(0, .ref x0), (1, .ref x1), (2, .ref x2), (3, .int x3), (4, .int s.1), (5, .int s.2.1)] [] s.2.2 := by
  unfold f_X4_lay_L6 at hf
  refine pt_iload C 5 rfl dX4_lay_6 ?_
  refine pt_aload_n C 1 rfl rfl dX4_lay_8 ?_
  refine ob hf (fun v1 g2 hf => ?_)
  refine pt_getI C kX6 1 (by decide) tw_45 (Or.inl rfl) g2 dX4_lay_9 ?_
  refine pt_icmp_ge C (tgt := 126) (by decide) dX4_lay_12 (fun c3 => ?_) (fun c3 => ?_)
  · rw [if_pos c3] at hf
    refine pt_sub C [] [] rfl ?_
    exact K1 _ (Option.some.inj hf).symm
  · rw [if_neg c3] at hf
    refine pt_aload_n C 0 rfl rfl dX4_lay_15 ?_
    refine ob hf (fun v4 g5 hf => ?_)
    refine pt_getI C kX4 3 (by decide) tw_226 (Or.inl rfl) g5 dX4_lay_16 ?_
    refine pt_aload_n C 0 rfl rfl dX4_lay_19 ?_
    refine ob hf (fun v6 g7 hf => ?_)
    refine pt_getR C kX4 2 (by decide) tw_225 (Or.inl rfl) g7 dX4_lay_20 ?_
    refine ob hf (fun v8 g9 hf => ?_)
    refine pt_alen C g9 dX4_lay_23 ?_
    refine pt_icmp_ge C (tgt := 126) (by decide) dX4_lay_24 (fun c10 => ?_) (fun c10 => ?_)
    · rw [if_pos c10] at hf
      refine pt_sub C [] [] rfl ?_
      exact K1 _ (Option.some.inj hf).symm
    · rw [if_neg c10] at hf
      refine pt_iload C 5 rfl dX4_lay_27 ?_
      refine pt_iload C 4 rfl dX4_lay_29 ?_
      refine pt_icmp_lt C (tgt := 120) (by decide) dX4_lay_31 (fun c11 => ?_) (fun c11 => ?_)
      · rw [if_pos c11] at hf
        refine pt_iinc C 5 [(5, .int (s.2.1 + 1)), (0, .ref x0), (1, .ref x1), (2, .ref x2), (3, .int x3), (4, .int s.1)] rfl (iinc_eq s.2.1 (by decide)) (by decide) rfl dX4_lay_120 ?_
        refine pt_goto C (tgt := 6) (by decide) dX4_lay_123 ?_
        refine pt_sub C [(0, .ref x0), (1, .ref x1), (2, .ref x2), (3, .int x3), (4, .int s.1), (5, .int (s.2.1 + 1))] [1, 2, 3, 4, 5, 0] rfl ?_
        exact K0 _ _ _ (Option.some.inj hf).symm
      · rw [if_neg c11] at hf
        refine pt_aload_n C 1 rfl rfl dX4_lay_34 ?_
        refine ob hf (fun v12 g13 hf => ?_)
        refine pt_getR C kX6 0 (by decide) tw_39 (Or.inl rfl) g13 dX4_lay_35 ?_
        refine pt_iload C 5 rfl dX4_lay_38 ?_
        refine ob hf (fun v14 g15 hf => ?_)
        refine pt_iald C g15 dX4_lay_40 ?_
        refine ob hf (fun q16 g17 hf => ?_)
        refine pt_callSN C (As := [.int v14]) (rest := []) (v := (some (.int q16.1))) (fun l => con_X11_isSilent l v14 s.2.2 _ g17) tw_700 (host := "HeaveSongs") (by decide +kernel) tw_699 tw_1 yn_X11_isSilent (by decide) (Nat.le_of_ble_eq_true rfl) dX4_lay_41 rfl ?_
        show PT X 7 0 0 44 [(0, .ref x0), (1, .ref x1), (2, .ref x2), (3, .int x3), (4, .int s.1), (5, .int s.2.1)] [.int q16.1] q16.2
        refine pt_if_eq C (tgt := 50) (by decide) dX4_lay_44 (fun c18 => ?_) (fun c18 => ?_)
        · rw [if_pos c18] at hf
          refine pt_iload_n C 3 rfl rfl dX4_lay_50 ?_
          refine pt_if_eq C (tgt := 65) (by decide) dX4_lay_51 (fun c19 => ?_) (fun c19 => ?_)
          · rw [if_pos c19] at hf
            refine pt_aload_n C 0 rfl rfl dX4_lay_65 ?_
            refine pt_aload_n C 1 rfl rfl dX4_lay_66 ?_
            refine pt_aload_n C 2 rfl rfl dX4_lay_67 ?_
            refine pt_iload C 5 rfl dX4_lay_68 ?_
            refine ob hf (fun _ g22 hf => ?_)
            refine ob hf (fun q20 g21 hf => ?_)
            refine pt_callV C (As := [.ref x1, .ref x2, .int s.2.1]) (rest := []) (v := (some (.int q20.1))) (fun l => con_X4_countedWord l x0 x1 x2 s.2.1 q16.2 _ g21) tw_745 tw_742 tw_744 tp_16 kX4 g22 tw_9 yn_X4_countedWord (by decide) (Nat.le_of_ble_eq_true rfl) dX4_lay_70 rfl ?_
            show PT X 7 0 0 73 [(0, .ref x0), (1, .ref x1), (2, .ref x2), (3, .int x3), (4, .int s.1), (5, .int s.2.1)] [.int q20.1] q20.2
            refine pt_sub C [(0, .ref x0), (1, .ref x1), (2, .ref x2), (3, .int x3), (5, .int s.2.1)] [0, 1, 2, 3, 5] rfl ?_
            exact w_X4_lay_L6_J73 C x0 x1 x2 x3 s.2.1 q20.1 q20.2 _ hf K0 K1 K2
          · rw [if_neg c19] at hf
            refine pt_aload_n C 0 rfl rfl dX4_lay_54 ?_
            refine pt_aload_n C 1 rfl rfl dX4_lay_55 ?_
            refine pt_aload_n C 2 rfl rfl dX4_lay_56 ?_
            refine pt_iload C 5 rfl dX4_lay_57 ?_
            refine ob hf (fun _ g42 hf => ?_)
            refine ob hf (fun q40 g41 hf => ?_)
            refine pt_callV C (As := [.ref x1, .ref x2, .int s.2.1]) (rest := []) (v := (some (.int q40.1))) (fun l => con_X4_nearWord l x0 x1 x2 s.2.1 q16.2 _ g41) tw_737 tw_734 tw_736 tp_14 kX4 g42 tw_9 yn_X4_nearWord (by decide) (Nat.le_of_ble_eq_true rfl) dX4_lay_59 rfl ?_
            show PT X 7 0 0 62 [(0, .ref x0), (1, .ref x1), (2, .ref x2), (3, .int x3), (4, .int s.1), (5, .int s.2.1)] [.int q40.1] q40.2
            refine pt_goto C (tgt := 73) (by decide) dX4_lay_62 ?_
            refine pt_sub C [(0, .ref x0), (1, .ref x1), (2, .ref x2), (3, .int x3), (5, .int s.2.1)] [0, 1, 2, 3, 5] rfl ?_
            exact w_X4_lay_L6_J73 C x0 x1 x2 x3 s.2.1 q40.1 q40.2 _ hf K0 K1 K2
        · rw [if_neg c18] at hf
          refine pt_goto C (tgt := 120) (by decide) dX4_lay_47 ?_
          refine pt_iinc C 5 [(5, .int (s.2.1 + 1)), (0, .ref x0), (1, .ref x1), (2, .ref x2), (3, .int x3), (4, .int s.1)] rfl (iinc_eq s.2.1 (by decide)) (by decide) rfl dX4_lay_120 ?_
          refine pt_goto C (tgt := 6) (by decide) dX4_lay_123 ?_
          refine pt_sub C [(0, .ref x0), (1, .ref x1), (2, .ref x2), (3, .int x3), (4, .int s.1), (5, .int (s.2.1 + 1))] [1, 2, 3, 4, 5, 0] rfl ?_
          exact K0 _ _ _ (Option.some.inj hf).symm
theorem l_X4_lay_L6 {X : MX} (C : CX X cX4_lay 7 RX4 none rmX4_lay) (x0 : Nat) (x1 : Nat) (x2 : Nat) (x3 : Int32) : ∀ (n : Nat) (s : Int32 × Int32 × AH) (r : (AH) ⊕ (AH)), iter (f_X4_lay_L6 x0 x1 x2 x3) n s = some r → (Sum.elim (fun r : (AH) => PT X 7 0 0 126 [] [] r) (fun r : (AH) => PT X 7 0 0 81 [] [] r)) r → PT X 7 0 0 6 [(0, .ref x0), (1, .ref x1), (2, .ref x2), (3, .int x3), (4, .int s.1), (5, .int s.2.1)] [] s.2.2 :=
  iter_W (fun s : Int32 × Int32 × AH => PT X 7 0 0 6 [(0, .ref x0), (1, .ref x1), (2, .ref x2), (3, .int x3), (4, .int s.1), (5, .int s.2.1)] [] s.2.2) (Sum.elim (fun r : (AH) => PT X 7 0 0 126 [] [] r) (fun r : (AH) => PT X 7 0 0 81 [] [] r)) _ (fun s s2 hf P => w_X4_lay_L6 C x0 x1 x2 x3 s _ hf (fun u4 u5 hu e => by cases e; exact P) (fun hu e => by cases e) (fun hu e => by cases e)) (fun s r hf P => w_X4_lay_L6 C x0 x1 x2 x3 s _ hf (fun u4 u5 hu e => by cases e) (fun hu e => by cases e; exact P) (fun hu e => by cases e; exact P))
set_option maxRecDepth 100000 in
set_option maxHeartbeats 4000000 in
theorem w_X4_lay_0 {X : MX} (C : CX X cX4_lay 7 RX4 none rmX4_lay) (a0 : Nat) (a1 : Nat) (a2 : Nat) (a3 : Int32) (h : AH) (res : AH) (hf : f_X4_lay a0 a1 a2 a3 h = some res) (K : PR X rmX4_lay none res) : PT X 7 0 0 0 [(0, .ref a0), (1, .ref a1), (2, .ref a2), (3, .int a3)] [] h := by
  unfold f_X4_lay at hf
  refine pt_iconst C (v := 0) (by decide) dX4_lay_0 ?_
  refine pt_istore C [(4, .int 0), (0, .ref a0), (1, .ref a1), (2, .ref a2), (3, .int a3)] (by decide) rfl dX4_lay_1 ?_
  refine pt_iconst C (v := 0) (by decide) dX4_lay_3 ?_
  refine pt_istore C [(5, .int 0), (4, .int 0), (0, .ref a0), (1, .ref a1), (2, .ref a2), (3, .int a3)] (by decide) rfl dX4_lay_4 ?_
  refine pt_sub C [(0, .ref a0), (1, .ref a1), (2, .ref a2), (3, .int a3), (4, .int 0), (5, .int 0)] [2, 3, 4, 5, 1, 0] rfl ?_
  refine ob hf (fun e43 g44 hf => ?_)
  refine l_X4_lay_L6 C a0 a1 a2 a3 _ _ _ g44 ?_
  cases e43 with
  | inl e45 =>
    simp only [Sum.elim_inl] at hf ⊢
    obtain rfl := Option.some.inj hf
    exact pt_vret C K (by decide) (by decide) dX4_lay_126
  | inr e46 =>
    simp only [Sum.elim_inr] at hf ⊢
    obtain rfl := Option.some.inj hf
    exact pt_vret C K (by decide) (by decide) dX4_lay_81
theorem con_X4_lay (l : Launch) (a0 : Nat) (a1 : Nat) (a2 : Nat) (a3 : Int32) (h : AH) (q : AH) (hf : f_X4_lay a0 a1 a2 a3 h = some q) : Con l yX4_lay cX4_lay 7 none rmX4_lay [.ref a0, .ref a1, .ref a2, .int a3] h none q := Con.of (by decide +kernel) (Nat.le_of_ble_eq_true rfl) (fun X C I K => w_X4_lay_0 C a0 a1 a2 a3 h q hf K)
abbrev rmX4_makeLine : Room := { frames := 5, cells := 0, slots := 0, locals := 120 }
theorem yn_X4_makeLine : YN yX4_makeLine 3 := by refine ⟨?_, ?_, ?_⟩ <;> decide +kernel
set_option maxRecDepth 100000 in
set_option maxHeartbeats 4000000 in
theorem w_X4_makeLine_0 {X : MX} (C : CX X cX4_makeLine 5 RX4 none rmX4_makeLine) (a0 : Nat) (a1 : Nat) (a2 : Nat) (a3 : Int64) (h : AH) (res : AH) (hf : f_X4_makeLine a0 a1 a2 a3 h = some res) (K : PR X rmX4_makeLine none res) : PT X 5 0 0 0 [(0, .ref a0), (1, .ref a1), (2, .ref a2), (3, .long a3)] [] h := by
  unfold f_X4_makeLine at hf
  refine pt_aload_n C 0 rfl rfl dX4_makeLine_0 ?_
  refine pt_iconst C (v := 0) (by decide) dX4_makeLine_1 ?_
  refine ob hf (fun h1 g2 hf => ?_)
  refine pt_put C kX4 3 (by decide) tw_226 (Or.inl rfl) rfl rfl rfl g2 dX4_makeLine_2 ?_
  refine pt_lload_n C 3 rfl rfl dX4_makeLine_5 ?_
  refine pt_lconst C (v := 0) (by decide) dX4_makeLine_6 ?_
  refine pt_lcmp C dX4_makeLine_7 ?_
  refine pt_if_lt C (tgt := 34) (by decide) dX4_makeLine_8 (fun c3 => ?_) (fun c3 => ?_)
  · rw [if_pos c3] at hf
    obtain rfl := Option.some.inj hf
    exact pt_vret C K (by decide) (by decide) dX4_makeLine_34
  · rw [if_neg c3] at hf
    refine pt_lload_n C 3 rfl rfl dX4_makeLine_11 ?_
    refine pt_aload_n C 0 rfl rfl dX4_makeLine_12 ?_
    refine pt_aload_n C 1 rfl rfl dX4_makeLine_13 ?_
    refine pt_aload_n C 2 rfl rfl dX4_makeLine_14 ?_
    refine ob hf (fun _ g6 hf => ?_)
    refine ob hf (fun q4 g5 hf => ?_)
    refine pt_callV C (As := [.ref a1, .ref a2]) (rest := [.long a3]) (v := (some (.long q4.1))) (fun l => con_X4_howMany l a0 a1 a2 h1 _ g5) tw_697 tw_729 tw_695 tw_696 kX4 g6 tw_9 yn_X4_howMany (by decide) (Nat.le_of_ble_eq_true rfl) dX4_makeLine_15 rfl ?_
    show PT X 5 0 0 18 [(0, .ref a0), (1, .ref a1), (2, .ref a2), (3, .long a3)] [.long q4.1, .long a3] q4.2
    refine pt_lcmp C dX4_makeLine_18 ?_
    refine pt_if_ge C (tgt := 34) (by decide) dX4_makeLine_19 (fun c7 => ?_) (fun c7 => ?_)
    · rw [if_pos c7] at hf
      obtain rfl := Option.some.inj hf
      exact pt_vret C K (by decide) (by decide) dX4_makeLine_34
    · rw [if_neg c7] at hf
      refine pt_aload_n C 0 rfl rfl dX4_makeLine_22 ?_
      refine pt_lload_n C 3 rfl rfl dX4_makeLine_23 ?_
      refine ob hf (fun h8 g9 hf => ?_)
      refine pt_put C kX4 4 (by decide) tw_227 (Or.inl rfl) rfl rfl rfl g9 dX4_makeLine_24 ?_
      refine pt_aload_n C 0 rfl rfl dX4_makeLine_27 ?_
      refine pt_aload_n C 1 rfl rfl dX4_makeLine_28 ?_
      refine pt_aload_n C 2 rfl rfl dX4_makeLine_29 ?_
      refine pt_iconst C (v := 0) (by decide) dX4_makeLine_30 ?_
      refine ob hf (fun _ g12 hf => ?_)
      refine ob hf (fun q10 g11 hf => ?_)
      refine pt_callV C (As := [.ref a1, .ref a2, .int 0]) (rest := []) (v := none) (fun l => con_X4_lay l a0 a1 a2 0 h8 _ g11) tw_733 tw_730 tw_732 tp_13 kX4 g12 tw_9 yn_X4_lay (by decide) (Nat.le_of_ble_eq_true rfl) dX4_makeLine_31 rfl ?_
      show PT X 5 0 0 34 [(0, .ref a0), (1, .ref a1), (2, .ref a2), (3, .long a3)] [] q10
      obtain rfl := Option.some.inj hf
      exact pt_vret C K (by decide) (by decide) dX4_makeLine_34
theorem con_X4_makeLine (l : Launch) (a0 : Nat) (a1 : Nat) (a2 : Nat) (a3 : Int64) (h : AH) (q : AH) (hf : f_X4_makeLine a0 a1 a2 a3 h = some q) : Con l yX4_makeLine cX4_makeLine 5 none rmX4_makeLine [.ref a0, .ref a1, .ref a2, .long a3] h none q := Con.of (by decide +kernel) (Nat.le_of_ble_eq_true rfl) (fun X C I K => w_X4_makeLine_0 C a0 a1 a2 a3 h q hf K)
abbrev rmX4_wordAt : Room := { frames := 1, cells := 0, slots := 0, locals := 22 }
theorem yn_X4_wordAt : YN yX4_wordAt 1 := by refine ⟨?_, ?_, ?_⟩ <;> decide +kernel
set_option maxRecDepth 100000 in
set_option maxHeartbeats 4000000 in
theorem w_X4_wordAt_0 {X : MX} (C : CX X cX4_wordAt 2 RX4 (some .int) rmX4_wordAt) (a0 : Nat) (a1 : Int32) (h : AH) (res : Int32 × AH) (hf : f_X4_wordAt a0 a1 h = some res) (K : ∀ (v : Int32) (h2 : AH), res = (v, h2) → PR X rmX4_wordAt (some (.int v)) h2) : PT X 2 0 0 0 [(0, .ref a0), (1, .int a1)] [] h := by
  unfold f_X4_wordAt at hf
  refine pt_iload_n C 1 rfl rfl dX4_wordAt_0 ?_
  refine pt_iconst C (v := 0) (by decide) dX4_wordAt_1 ?_
  refine pt_aload_n C 0 rfl rfl dX4_wordAt_2 ?_
  refine ob hf (fun v1 g2 hf => ?_)
  refine pt_getI C kX4 3 (by decide) tw_226 (Or.inl rfl) g2 dX4_wordAt_3 ?_
  refine pt_iconst C (v := 1) (by decide) dX4_wordAt_6 ?_
  refine pt_isub C dX4_wordAt_7 ?_
  refine ob hf (fun q3 g4 hf => ?_)
  refine pt_callSN C (As := [.int a1, .int 0, .int (v1 - 1)]) (rest := []) (v := (some (.int q3.1))) (fun l => con_X11_within l a1 0 (v1 - 1) h _ g4) tw_461 (host := "HeaveSongs") (by decide +kernel) tw_460 tw_1 yn_X11_within (by decide) (Nat.le_of_ble_eq_true rfl) dX4_wordAt_8 rfl ?_
  show PT X 2 0 0 11 [(0, .ref a0), (1, .int a1)] [.int q3.1] q3.2
  refine pt_if_eq C (tgt := 23) (by decide) dX4_wordAt_11 (fun c5 => ?_) (fun c5 => ?_)
  · rw [if_pos c5] at hf
    refine pt_iconst C (v := (-1)) (by decide) dX4_wordAt_23 ?_
    exact pt_iret C (K _ _ (Option.some.inj hf).symm) (by decide) (by decide) dX4_wordAt_24
  · rw [if_neg c5] at hf
    refine pt_aload_n C 0 rfl rfl dX4_wordAt_14 ?_
    refine ob hf (fun v6 g7 hf => ?_)
    refine pt_getR C kX4 2 (by decide) tw_225 (Or.inl rfl) g7 dX4_wordAt_15 ?_
    refine pt_iload_n C 1 rfl rfl dX4_wordAt_18 ?_
    refine ob hf (fun v8 g9 hf => ?_)
    refine pt_iald C g9 dX4_wordAt_19 ?_
    refine pt_goto C (tgt := 24) (by decide) dX4_wordAt_20 ?_
    exact pt_iret C (K _ _ (Option.some.inj hf).symm) (by decide) (by decide) dX4_wordAt_24
theorem con_X4_wordAt (l : Launch) (a0 : Nat) (a1 : Int32) (h : AH) (q : Int32 × AH) (hf : f_X4_wordAt a0 a1 h = some q) : Con l yX4_wordAt cX4_wordAt 2 (some .int) rmX4_wordAt [.ref a0, .int a1] h (some (.int q.1)) q.2 := Con.of (by decide +kernel) (Nat.le_of_ble_eq_true rfl) (fun X C I K => w_X4_wordAt_0 C a0 a1 h q hf (fun v h2 e => by cases e; exact K))
abbrev rmX11_lineAt : Room := { frames := 6, cells := 0, slots := 0, locals := 144 }
theorem yn_X11_lineAt : YN yX11_lineAt 3 := by refine ⟨?_, ?_, ?_⟩ <;> decide +kernel
set_option maxRecDepth 100000 in
set_option maxHeartbeats 4000000 in
theorem w_X11_lineAt_0 {X : MX} (C : CX X cX11_lineAt 6 RX11 (some .int) rmX11_lineAt) (a0 : Nat) (a1 : Int32) (a2 : Int64) (a4 : Int32) (h : AH) (res : Int32 × AH) (hf : f_X11_lineAt a0 a1 a2 a4 h = some res) (K : ∀ (v : Int32) (h2 : AH), res = (v, h2) → PR X rmX11_lineAt (some (.int v)) h2) : PT X 6 0 0 0 [(0, .ref a0), (1, .int a1), (2, .long a2), (4, .int a4)] [] h := by
  unfold f_X11_lineAt at hf
  refine pt_aload_n C 0 rfl rfl dX11_lineAt_0 ?_
  refine pt_iload_n C 1 rfl rfl dX11_lineAt_1 ?_
  refine ob hf (fun _ g3 hf => ?_)
  refine ob hf (fun q1 g2 hf => ?_)
  refine pt_callV C (As := [.int a1]) (rest := []) (v := (some (va_rf q1.1))) (fun l => con_X11_songOf l a0 a1 h _ g2) tw_458 tw_455 tw_457 tp_3 kX11 g3 tw_1 yn_X11_songOf (by decide) (Nat.le_of_ble_eq_true rfl) dX11_lineAt_2 rfl ?_
  show PT X 6 0 0 5 [(0, .ref a0), (1, .int a1), (2, .long a2), (4, .int a4)] [va_rf q1.1] q1.2
  refine pt_astoreQ C [(5, va_rf q1.1), (0, .ref a0), (1, .int a1), (2, .long a2), (4, .int a4)] (by decide) rfl dX11_lineAt_5 ?_
  refine pt_aloadQ C 0 rfl dX11_lineAt_7 ?_
  generalize q1.1 = o4 at hf ⊢
  cases o4 with
  | none =>
    dsimp only [Option.elim] at hf
    refine pt_ifnull0 C (tgt := 23) (by decide) dX11_lineAt_9 ?_
    refine pt_bipush C (v := (-2)) (by decide) dX11_lineAt_23 ?_
    exact pt_iret C (K _ _ (Option.some.inj hf).symm) (by decide) (by decide) dX11_lineAt_25
  | some a5 =>
    dsimp only [Option.elim] at hf
    refine pt_ifnull1 C dX11_lineAt_9 ?_
    refine pt_lload_n C 3 rfl rfl dX11_lineAt_12 ?_
    refine pt_lconst C (v := 0) (by decide) dX11_lineAt_13 ?_
    refine pt_lcmp C dX11_lineAt_14 ?_
    refine pt_if_lt C (tgt := 23) (by decide) dX11_lineAt_15 (fun c6 => ?_) (fun c6 => ?_)
    · rw [if_pos c6] at hf
      refine pt_bipush C (v := (-2)) (by decide) dX11_lineAt_23 ?_
      exact pt_iret C (K _ _ (Option.some.inj hf).symm) (by decide) (by decide) dX11_lineAt_25
    · rw [if_neg c6] at hf
      refine pt_iload C 4 rfl dX11_lineAt_18 ?_
      refine pt_if_ge C (tgt := 26) (by decide) dX11_lineAt_20 (fun c7 => ?_) (fun c7 => ?_)
      · rw [if_pos c7] at hf
        refine pt_aload_n C 1 rfl rfl dX11_lineAt_26 ?_
        refine ob hf (fun v8 g9 hf => ?_)
        refine pt_getR C kX11 8 (by decide) tw_315 (Or.inl rfl) g9 dX11_lineAt_27 ?_
        refine pt_aload C 0 rfl dX11_lineAt_30 ?_
        refine ob hf (fun v10 g11 hf => ?_)
        refine pt_getR C kX7 0 (by decide) tw_374 (Or.inl rfl) g11 dX11_lineAt_32 ?_
        refine pt_aload_n C 1 rfl rfl dX11_lineAt_35 ?_
        refine ob hf (fun v12 g13 hf => ?_)
        refine pt_getR C kX11 7 (by decide) tw_314 (Or.inl rfl) g13 dX11_lineAt_36 ?_
        refine pt_lload_n C 3 rfl rfl dX11_lineAt_39 ?_
        refine ob hf (fun _ g16 hf => ?_)
        refine ob hf (fun q14 g15 hf => ?_)
        refine pt_callV C (As := [.ref v10, .ref v12, .long a2]) (rest := []) (v := none) (fun l => con_X4_makeLine l v8 v10 v12 a2 q1.2 _ g15) tw_728 tw_725 tw_726 tw_727 kX4 g16 tw_9 yn_X4_makeLine (by decide) (Nat.le_of_ble_eq_true rfl) dX11_lineAt_40 rfl ?_
        show PT X 6 0 0 43 [(5, .ref a5), (0, .ref a0), (1, .int a1), (2, .long a2), (4, .int a4)] [] q14
        refine pt_aload_n C 1 rfl rfl dX11_lineAt_43 ?_
        refine ob hf (fun v17 g18 hf => ?_)
        refine pt_getR C kX11 8 (by decide) tw_315 (Or.inl rfl) g18 dX11_lineAt_44 ?_
        refine pt_iload C 4 rfl dX11_lineAt_47 ?_
        refine ob hf (fun _ g21 hf => ?_)
        refine ob hf (fun q19 g20 hf => ?_)
        refine pt_callV C (As := [.int a4]) (rest := []) (v := (some (.int q19.1))) (fun l => con_X4_wordAt l v17 a4 q14 _ g20) tw_749 tw_746 tw_747 tw_748 kX4 g21 tw_9 yn_X4_wordAt (by decide) (Nat.le_of_ble_eq_true rfl) dX11_lineAt_49 rfl ?_
        show PT X 6 0 0 52 [(5, .ref a5), (0, .ref a0), (1, .int a1), (2, .long a2), (4, .int a4)] [.int q19.1] q19.2
        exact pt_iret C (K _ _ (Option.some.inj hf).symm) (by decide) (by decide) dX11_lineAt_52
      · rw [if_neg c7] at hf
        refine pt_bipush C (v := (-2)) (by decide) dX11_lineAt_23 ?_
        exact pt_iret C (K _ _ (Option.some.inj hf).symm) (by decide) (by decide) dX11_lineAt_25
theorem con_X11_lineAt (l : Launch) (a0 : Nat) (a1 : Int32) (a2 : Int64) (a4 : Int32) (h : AH) (q : Int32 × AH) (hf : f_X11_lineAt a0 a1 a2 a4 h = some q) : Con l yX11_lineAt cX11_lineAt 6 (some .int) rmX11_lineAt [.ref a0, .int a1, .long a2, .int a4] h (some (.int q.1)) q.2 := Con.of (by decide +kernel) (Nat.le_of_ble_eq_true rfl) (fun X C I K => w_X11_lineAt_0 C a0 a1 a2 a4 h q hf (fun v h2 e => by cases e; exact K))
abbrev rmX11_lines : Room := { frames := 5, cells := 0, slots := 0, locals := 114 }
theorem yn_X11_lines : YN yX11_lines 1 := by refine ⟨?_, ?_, ?_⟩ <;> decide +kernel
set_option maxRecDepth 100000 in
set_option maxHeartbeats 4000000 in
theorem w_X11_lines_0 {X : MX} (C : CX X cX11_lines 3 RX11 (some .long) rmX11_lines) (a0 : Nat) (a1 : Int32) (h : AH) (res : Int64 × AH) (hf : f_X11_lines a0 a1 h = some res) (K : ∀ (v : Int64) (h2 : AH), res = (v, h2) → PR X rmX11_lines (some (.long v)) h2) : PT X 3 0 0 0 [(0, .ref a0), (1, .int a1)] [] h := by
  unfold f_X11_lines at hf
  refine pt_aload_n C 0 rfl rfl dX11_lines_0 ?_
  refine pt_iload_n C 1 rfl rfl dX11_lines_1 ?_
  refine ob hf (fun _ g3 hf => ?_)
  refine ob hf (fun q1 g2 hf => ?_)
  refine pt_callV C (As := [.int a1]) (rest := []) (v := (some (va_rf q1.1))) (fun l => con_X11_songOf l a0 a1 h _ g2) tw_458 tw_455 tw_457 tp_3 kX11 g3 tw_1 yn_X11_songOf (by decide) (Nat.le_of_ble_eq_true rfl) dX11_lines_2 rfl ?_
  show PT X 3 0 0 5 [(0, .ref a0), (1, .int a1)] [va_rf q1.1] q1.2
  refine pt_astore_nQ C [(2, va_rf q1.1), (0, .ref a0), (1, .int a1)] rfl (by decide) rfl dX11_lines_5 ?_
  refine pt_aload_nQ C 0 rfl rfl dX11_lines_6 ?_
  generalize q1.1 = o4 at hf ⊢
  cases o4 with
  | none =>
    dsimp only [Option.elim] at hf
    refine pt_ifnonnull0 C dX11_lines_7 ?_
    refine pt_ldc2 C tw_693 dX11_lines_10 ?_
    exact pt_lret C (K _ _ (Option.some.inj hf).symm) (by decide) (by decide) dX11_lines_13
  | some a5 =>
    dsimp only [Option.elim] at hf
    refine pt_ifnonnull1 C (tgt := 14) (by decide) dX11_lines_7 ?_
    refine pt_aload_n C 1 rfl rfl dX11_lines_14 ?_
    refine ob hf (fun v6 g7 hf => ?_)
    refine pt_getR C kX11 8 (by decide) tw_315 (Or.inl rfl) g7 dX11_lines_15 ?_
    refine pt_aload_n C 0 rfl rfl dX11_lines_18 ?_
    refine ob hf (fun v8 g9 hf => ?_)
    refine pt_getR C kX7 0 (by decide) tw_374 (Or.inl rfl) g9 dX11_lines_19 ?_
    refine pt_aload_n C 1 rfl rfl dX11_lines_22 ?_
    refine ob hf (fun v10 g11 hf => ?_)
    refine pt_getR C kX11 7 (by decide) tw_314 (Or.inl rfl) g11 dX11_lines_23 ?_
    refine ob hf (fun _ g14 hf => ?_)
    refine ob hf (fun q12 g13 hf => ?_)
    refine pt_callV C (As := [.ref v8, .ref v10]) (rest := []) (v := (some (.long q12.1))) (fun l => con_X4_howMany l v6 v8 v10 q1.2 _ g13) tw_697 tw_694 tw_695 tw_696 kX4 g14 tw_9 yn_X4_howMany (by decide) (Nat.le_of_ble_eq_true rfl) dX11_lines_26 rfl ?_
    show PT X 3 0 0 29 [(2, .ref a5), (0, .ref a0), (1, .int a1)] [.long q12.1] q12.2
    exact pt_lret C (K _ _ (Option.some.inj hf).symm) (by decide) (by decide) dX11_lines_29
theorem con_X11_lines (l : Launch) (a0 : Nat) (a1 : Int32) (h : AH) (q : Int64 × AH) (hf : f_X11_lines a0 a1 h = some q) : Con l yX11_lines cX11_lines 3 (some .long) rmX11_lines [.ref a0, .int a1] h (some (.long q.1)) q.2 := Con.of (by decide +kernel) (Nat.le_of_ble_eq_true rfl) (fun X C I K => w_X11_lines_0 C a0 a1 h q hf (fun v h2 e => by cases e; exact K))
abbrev rmX5_add : Room := { frames := 0, cells := 0, slots := 0, locals := 0 }
theorem yn_X5_add : YN yX5_add 2 := by refine ⟨?_, ?_, ?_⟩ <;> decide +kernel
set_option maxRecDepth 100000 in
set_option maxHeartbeats 4000000 in
theorem w_X5_add_0 {X : MX} (C : CX X cX5_add 3 RX5 (some .boolean) rmX5_add) (a0 : Nat) (a1 : Int32) (a2 : Int32) (h : AH) (res : Int32 × AH) (hf : f_X5_add a0 a1 a2 h = some res) (K : ∀ (v : Int32) (h2 : AH), res = (v, h2) → PR X rmX5_add (some (.int v)) h2) : PT X 3 0 0 0 [(0, .ref a0), (1, .int a1), (2, .int a2)] [] h := by
  unfold f_X5_add at hf
  refine pt_aload_n C 0 rfl rfl dX5_add_0 ?_
  refine ob hf (fun v1 g2 hf => ?_)
  refine pt_getI C kX5 2 (by decide) tw_248 (Or.inl rfl) g2 dX5_add_1 ?_
  refine pt_bipush C (v := 60) (by decide) dX5_add_4 ?_
  refine pt_icmp_lt C (tgt := 11) (by decide) dX5_add_6 (fun c3 => ?_) (fun c3 => ?_)
  · rw [if_pos c3] at hf
    refine pt_aload_n C 0 rfl rfl dX5_add_11 ?_
    refine ob hf (fun v4 g5 hf => ?_)
    refine pt_getR C kX5 0 (by decide) tw_246 (Or.inl rfl) g5 dX5_add_12 ?_
    refine pt_aload_n C 0 rfl rfl dX5_add_15 ?_
    refine ob hf (fun v6 g7 hf => ?_)
    refine pt_getI C kX5 2 (by decide) tw_248 (Or.inl rfl) g7 dX5_add_16 ?_
    refine pt_iload_n C 1 rfl rfl dX5_add_19 ?_
    refine ob hf (fun h8 g9 hf => ?_)
    refine pt_iast C g9 dX5_add_20 ?_
    refine pt_aload_n C 0 rfl rfl dX5_add_21 ?_
    refine ob hf (fun v10 g11 hf => ?_)
    refine pt_getR C kX5 1 (by decide) tw_247 (Or.inl rfl) g11 dX5_add_22 ?_
    refine pt_aload_n C 0 rfl rfl dX5_add_25 ?_
    refine ob hf (fun v12 g13 hf => ?_)
    refine pt_getI C kX5 2 (by decide) tw_248 (Or.inl rfl) g13 dX5_add_26 ?_
    refine pt_iload_n C 2 rfl rfl dX5_add_29 ?_
    refine ob hf (fun h14 g15 hf => ?_)
    refine pt_iast C g15 dX5_add_30 ?_
    refine pt_aload_n C 0 rfl rfl dX5_add_31 ?_
    refine pt_dup C rfl dX5_add_32 ?_
    refine ob hf (fun v16 g17 hf => ?_)
    refine pt_getI C kX5 2 (by decide) tw_248 (Or.inl rfl) g17 dX5_add_33 ?_
    refine pt_iconst C (v := 1) (by decide) dX5_add_36 ?_
    refine pt_iadd C dX5_add_37 ?_
    refine ob hf (fun h18 g19 hf => ?_)
    refine pt_put C kX5 2 (by decide) tw_248 (Or.inl rfl) rfl rfl rfl g19 dX5_add_38 ?_
    refine pt_iconst C (v := 1) (by decide) dX5_add_41 ?_
    exact pt_zret C (by decide) (K _ _ (Option.some.inj hf).symm) (by decide) (by decide) dX5_add_42
  · rw [if_neg c3] at hf
    refine pt_iconst C (v := 0) (by decide) dX5_add_9 ?_
    exact pt_zret C (by decide) (K _ _ (Option.some.inj hf).symm) (by decide) (by decide) dX5_add_10
theorem con_X5_add (l : Launch) (a0 : Nat) (a1 : Int32) (a2 : Int32) (h : AH) (q : Int32 × AH) (hf : f_X5_add a0 a1 a2 h = some q) : Con l yX5_add cX5_add 3 (some .boolean) rmX5_add [.ref a0, .int a1, .int a2] h (some (.int q.1)) q.2 := Con.of (by decide +kernel) (Nat.le_of_ble_eq_true rfl) (fun X C I K => w_X5_add_0 C a0 a1 a2 h q hf (fun v h2 e => by cases e; exact K))
abbrev rmX11_mark : Room := { frames := 1, cells := 0, slots := 0, locals := 22 }
theorem yn_X11_mark : YN yX11_mark 2 := by refine ⟨?_, ?_, ?_⟩ <;> decide +kernel
set_option maxRecDepth 100000 in
set_option maxHeartbeats 4000000 in
theorem w_X11_mark_0 {X : MX} (C : CX X cX11_mark 3 RX11 (some .int) rmX11_mark) (a0 : Nat) (a1 : Int32) (a2 : Int32) (h : AH) (res : Int32 × AH) (hf : f_X11_mark a0 a1 a2 h = some res) (K : ∀ (v : Int32) (h2 : AH), res = (v, h2) → PR X rmX11_mark (some (.int v)) h2) : PT X 3 0 0 0 [(0, .ref a0), (1, .int a1), (2, .int a2)] [] h := by
  unfold f_X11_mark at hf
  refine pt_iload_n C 1 rfl rfl dX11_mark_0 ?_
  refine pt_iconst C (v := 0) (by decide) dX11_mark_1 ?_
  refine pt_sipush C (v := 299) (by decide) dX11_mark_2 ?_
  refine ob hf (fun q1 g2 hf => ?_)
  refine pt_callS C (As := [.int a1, .int 0, .int 299]) (rest := []) (v := (some (.int q1.1))) (fun l => con_X11_within l a1 0 299 h _ g2) tw_461 tw_459 tw_460 tw_1 yn_X11_within (by decide) (Nat.le_of_ble_eq_true rfl) dX11_mark_5 rfl ?_
  show PT X 3 0 0 8 [(0, .ref a0), (1, .int a1), (2, .int a2)] [.int q1.1] q1.2
  refine pt_if_eq C (tgt := 22) (by decide) dX11_mark_8 (fun c3 => ?_) (fun c3 => ?_)
  · rw [if_pos c3] at hf
    refine pt_bipush C (v := (-2)) (by decide) dX11_mark_22 ?_
    exact pt_iret C (K _ _ (Option.some.inj hf).symm) (by decide) (by decide) dX11_mark_24
  · rw [if_neg c3] at hf
    refine pt_iload_n C 2 rfl rfl dX11_mark_11 ?_
    refine pt_iconst C (v := 0) (by decide) dX11_mark_12 ?_
    refine pt_sipush C (v := 5000) (by decide) dX11_mark_13 ?_
    refine ob hf (fun q4 g5 hf => ?_)
    refine pt_callS C (As := [.int a2, .int 0, .int 5000]) (rest := []) (v := (some (.int q4.1))) (fun l => con_X11_within l a2 0 5000 q1.2 _ g5) tw_461 tw_459 tw_460 tw_1 yn_X11_within (by decide) (Nat.le_of_ble_eq_true rfl) dX11_mark_16 rfl ?_
    show PT X 3 0 0 19 [(0, .ref a0), (1, .int a1), (2, .int a2)] [.int q4.1] q4.2
    refine pt_if_ne C (tgt := 25) (by decide) dX11_mark_19 (fun c6 => ?_) (fun c6 => ?_)
    · rw [if_neg c6] at hf
      refine pt_aload_n C 0 rfl rfl dX11_mark_25 ?_
      refine ob hf (fun v7 g8 hf => ?_)
      refine pt_getR C kX11 9 (by decide) tw_316 (Or.inl rfl) g8 dX11_mark_26 ?_
      refine pt_iload_n C 1 rfl rfl dX11_mark_29 ?_
      refine pt_iload_n C 2 rfl rfl dX11_mark_30 ?_
      refine ob hf (fun _ g11 hf => ?_)
      refine ob hf (fun q9 g10 hf => ?_)
      refine pt_callV C (As := [.int a1, .int a2]) (rest := []) (v := (some (.int q9.1))) (fun l => con_X5_add l v7 a1 a2 q4.2 _ g10) tw_779 tw_776 tw_777 tw_778 kX5 g11 tw_10 yn_X5_add (by decide) (Nat.le_of_ble_eq_true rfl) dX11_mark_31 rfl ?_
      show PT X 3 0 0 34 [(0, .ref a0), (1, .int a1), (2, .int a2)] [.int q9.1] q9.2
      refine pt_if_eq C (tgt := 47) (by decide) dX11_mark_34 (fun c12 => ?_) (fun c12 => ?_)
      · rw [if_pos c12] at hf
        refine pt_bipush C (v := (-4)) (by decide) dX11_mark_47 ?_
        exact pt_iret C (K _ _ (Option.some.inj hf).symm) (by decide) (by decide) dX11_mark_49
      · rw [if_neg c12] at hf
        refine pt_aload_n C 0 rfl rfl dX11_mark_37 ?_
        refine ob hf (fun v13 g14 hf => ?_)
        refine pt_getR C kX11 9 (by decide) tw_316 (Or.inl rfl) g14 dX11_mark_38 ?_
        refine ob hf (fun v15 g16 hf => ?_)
        refine pt_getI C kX5 2 (by decide) tw_249 (Or.inl rfl) g16 dX11_mark_41 ?_
        refine pt_goto C (tgt := 49) (by decide) dX11_mark_44 ?_
        exact pt_iret C (K _ _ (Option.some.inj hf).symm) (by decide) (by decide) dX11_mark_49
    · rw [if_pos c6] at hf
      refine pt_bipush C (v := (-2)) (by decide) dX11_mark_22 ?_
      exact pt_iret C (K _ _ (Option.some.inj hf).symm) (by decide) (by decide) dX11_mark_24
theorem con_X11_mark (l : Launch) (a0 : Nat) (a1 : Int32) (a2 : Int32) (h : AH) (q : Int32 × AH) (hf : f_X11_mark a0 a1 a2 h = some q) : Con l yX11_mark cX11_mark 3 (some .int) rmX11_mark [.ref a0, .int a1, .int a2] h (some (.int q.1)) q.2 := Con.of (by decide +kernel) (Nat.le_of_ble_eq_true rfl) (fun X C I K => w_X11_mark_0 C a0 a1 a2 h q hf (fun v h2 e => by cases e; exact K))
abbrev rmX4_leastWrong : Room := { frames := 3, cells := 0, slots := 0, locals := 70 }
theorem yn_X4_leastWrong : YN yX4_leastWrong 3 := by refine ⟨?_, ?_, ?_⟩ <;> decide +kernel
set_option maxRecDepth 100000 in
set_option maxHeartbeats 4000000 in
theorem w_X4_leastWrong_L6 {X : MX} (C : CX X cX4_leastWrong 7 RX4 (some .int) rmX4_leastWrong) (x0 : Nat) (x1 : Nat) (x2 : Nat) (x3 : Int32) (s : Int32 × Int32 × AH) (res : (Int32 × Int32 × AH) ⊕ ((Int32 × AH))) (hf : f_X4_leastWrong_L6 x0 x1 x2 x3 s = some res) (K0 : ∀ (u4 : Int32) (u5 : Int32) (hu : AH), res = .inl (u4, u5, hu) → PT X 7 0 0 6 [(0, .ref x0), (1, .ref x1), (2, .ref x2), (3, .int x3), (4, .int u4), (5, .int u5)] [] hu) (K1 : ∀ (u4 : Int32) (hu : AH), res = .inr ((u4, hu)) → PT X 7 0 0 61 [(4, .int u4)] [] hu) : PT X 7 0 0 6 [(0, .ref x0), (1, .ref x1), (2, .ref x2), (3, .int x3), (4, .int s.1), (5, .int s.2.1)] [] s.2.2 := by
  unfold f_X4_leastWrong_L6 at hf
  refine pt_iload C 5 rfl dX4_leastWrong_6 ?_
  refine pt_aload_n C 2 rfl rfl dX4_leastWrong_8 ?_
  refine ob hf (fun _ g3 hf => ?_)
  refine ob hf (fun q1 g2 hf => ?_)
  refine pt_callV C (As := []) (rest := [.int s.2.1]) (v := (some (.int q1.1))) (fun l => con_Jx4a65c_size_8abf5 l x2 s.2.2 _ g2) tw_363 tw_705 tw_361 tw_362 kJx4a65c g3 tw_5 yn_Jx4a65c_size_8abf5 (by decide) (Nat.le_of_ble_eq_true rfl) dX4_leastWrong_9 rfl ?_
  show PT X 7 0 0 12 [(0, .ref x0), (1, .ref x1), (2, .ref x2), (3, .int x3), (4, .int s.1), (5, .int s.2.1)] [.int q1.1, .int s.2.1] q1.2
  refine pt_icmp_ge C (tgt := 61) (by decide) dX4_leastWrong_12 (fun c4 => ?_) (fun c4 => ?_)
  · rw [if_pos c4] at hf
    refine pt_sub C [(4, .int s.1)] [4] rfl ?_
    exact K1 _ _ (Option.some.inj hf).symm
  · rw [if_neg c4] at hf
    refine pt_aload_n C 0 rfl rfl dX4_leastWrong_15 ?_
    refine pt_aload_n C 2 rfl rfl dX4_leastWrong_16 ?_
    refine pt_iload C 5 rfl dX4_leastWrong_17 ?_
    refine ob hf (fun _ g7 hf => ?_)
    refine ob hf (fun q5 g6 hf => ?_)
    refine pt_callV C (As := [.int s.2.1]) (rest := [.ref x0]) (v := (some (.ref q5.1))) (fun l => con_Jx4a65c_get_915e3 l x2 s.2.1 q1.2 _ g6) tw_465 tw_706 tw_463 tw_464 kJx4a65c g7 tw_5 yn_Jx4a65c_get_915e3 (by decide) (Nat.le_of_ble_eq_true rfl) dX4_leastWrong_19 rfl ?_
    show PT X 7 0 0 22 [(0, .ref x0), (1, .ref x1), (2, .ref x2), (3, .int x3), (4, .int s.1), (5, .int s.2.1)] [.ref q5.1, .ref x0] q5.2
    refine ob hf (fun _ g8 hf => ?_)
    refine pt_cast C kX10 tw_707 g8 dX4_leastWrong_22 ?_
    refine pt_aload_n C 1 rfl rfl dX4_leastWrong_25 ?_
    refine pt_iload_n C 3 rfl rfl dX4_leastWrong_26 ?_
    refine ob hf (fun _ g11 hf => ?_)
    refine ob hf (fun q9 g10 hf => ?_)
    refine pt_callV C (As := [.ref q5.1, .ref x1, .int x3]) (rest := []) (v := (some (.int q9.1))) (fun l => con_X4_wrongWith l x0 q5.1 x1 x3 q5.2 _ g10) tw_741 tw_738 tw_740 tp_15 kX4 g11 tw_9 yn_X4_wrongWith (by decide) (Nat.le_of_ble_eq_true rfl) dX4_leastWrong_27 rfl ?_
    show PT X 7 0 0 30 [(0, .ref x0), (1, .ref x1), (2, .ref x2), (3, .int x3), (4, .int s.1), (5, .int s.2.1)] [.int q9.1] q9.2
    refine pt_istore C [(6, .int q9.1), (0, .ref x0), (1, .ref x1), (2, .ref x2), (3, .int x3), (4, .int s.1), (5, .int s.2.1)] (by decide) rfl dX4_leastWrong_30 ?_
    refine pt_iload C 0 rfl dX4_leastWrong_32 ?_
    refine pt_iconst C (v := (-1)) (by decide) dX4_leastWrong_34 ?_
    refine pt_icmp_eq C (tgt := 55) (by decide) dX4_leastWrong_35 (fun c12 => ?_) (fun c12 => ?_)
    · rw [if_pos c12] at hf
      refine pt_iinc C 6 [(5, .int (s.2.1 + 1)), (6, .int q9.1), (0, .ref x0), (1, .ref x1), (2, .ref x2), (3, .int x3), (4, .int s.1)] rfl (iinc_eq s.2.1 (by decide)) (by decide) rfl dX4_leastWrong_55 ?_
      refine pt_goto C (tgt := 6) (by decide) dX4_leastWrong_58 ?_
      refine pt_sub C [(0, .ref x0), (1, .ref x1), (2, .ref x2), (3, .int x3), (4, .int s.1), (5, .int (s.2.1 + 1))] [2, 3, 4, 5, 6, 0] rfl ?_
      exact K0 _ _ _ (Option.some.inj hf).symm
    · rw [if_neg c12] at hf
      refine pt_iload C 5 rfl dX4_leastWrong_38 ?_
      refine pt_iconst C (v := (-1)) (by decide) dX4_leastWrong_40 ?_
      refine pt_icmp_eq C (tgt := 51) (by decide) dX4_leastWrong_41 (fun c13 => ?_) (fun c13 => ?_)
      · rw [if_pos c13] at hf
        refine pt_iload C 0 rfl dX4_leastWrong_51 ?_
        refine pt_istore C [(4, .int q9.1), (6, .int q9.1), (0, .ref x0), (1, .ref x1), (2, .ref x2), (3, .int x3), (5, .int s.2.1)] (by decide) rfl dX4_leastWrong_53 ?_
        refine pt_iinc C 6 [(5, .int (s.2.1 + 1)), (4, .int q9.1), (6, .int q9.1), (0, .ref x0), (1, .ref x1), (2, .ref x2), (3, .int x3)] rfl (iinc_eq s.2.1 (by decide)) (by decide) rfl dX4_leastWrong_55 ?_
        refine pt_goto C (tgt := 6) (by decide) dX4_leastWrong_58 ?_
        refine pt_sub C [(0, .ref x0), (1, .ref x1), (2, .ref x2), (3, .int x3), (4, .int q9.1), (5, .int (s.2.1 + 1))] [3, 4, 5, 6, 1, 0] rfl ?_
        exact K0 _ _ _ (Option.some.inj hf).symm
      · rw [if_neg c13] at hf
        refine pt_iload C 0 rfl dX4_leastWrong_44 ?_
        refine pt_iload C 5 rfl dX4_leastWrong_46 ?_
        refine pt_icmp_ge C (tgt := 55) (by decide) dX4_leastWrong_48 (fun c14 => ?_) (fun c14 => ?_)
        · rw [if_pos c14] at hf
          refine pt_iinc C 6 [(5, .int (s.2.1 + 1)), (6, .int q9.1), (0, .ref x0), (1, .ref x1), (2, .ref x2), (3, .int x3), (4, .int s.1)] rfl (iinc_eq s.2.1 (by decide)) (by decide) rfl dX4_leastWrong_55 ?_
          refine pt_goto C (tgt := 6) (by decide) dX4_leastWrong_58 ?_
          refine pt_sub C [(0, .ref x0), (1, .ref x1), (2, .ref x2), (3, .int x3), (4, .int s.1), (5, .int (s.2.1 + 1))] [2, 3, 4, 5, 6, 0] rfl ?_
          exact K0 _ _ _ (Option.some.inj hf).symm
        · rw [if_neg c14] at hf
          refine pt_iload C 0 rfl dX4_leastWrong_51 ?_
          refine pt_istore C [(4, .int q9.1), (6, .int q9.1), (0, .ref x0), (1, .ref x1), (2, .ref x2), (3, .int x3), (5, .int s.2.1)] (by decide) rfl dX4_leastWrong_53 ?_
          refine pt_iinc C 6 [(5, .int (s.2.1 + 1)), (4, .int q9.1), (6, .int q9.1), (0, .ref x0), (1, .ref x1), (2, .ref x2), (3, .int x3)] rfl (iinc_eq s.2.1 (by decide)) (by decide) rfl dX4_leastWrong_55 ?_
          refine pt_goto C (tgt := 6) (by decide) dX4_leastWrong_58 ?_
          refine pt_sub C [(0, .ref x0), (1, .ref x1), (2, .ref x2), (3, .int x3), (4, .int q9.1), (5, .int (s.2.1 + 1))] [3, 4, 5, 6, 1, 0] rfl ?_
          exact K0 _ _ _ (Option.some.inj hf).symm
theorem l_X4_leastWrong_L6 {X : MX} (C : CX X cX4_leastWrong 7 RX4 (some .int) rmX4_leastWrong) (x0 : Nat) (x1 : Nat) (x2 : Nat) (x3 : Int32) : ∀ (n : Nat) (s : Int32 × Int32 × AH) (r : (Int32 × AH)), iter (f_X4_leastWrong_L6 x0 x1 x2 x3) n s = some r → (fun r : (Int32 × AH) => PT X 7 0 0 61 [(4, .int r.1)] [] r.2) r → PT X 7 0 0 6 [(0, .ref x0), (1, .ref x1), (2, .ref x2), (3, .int x3), (4, .int s.1), (5, .int s.2.1)] [] s.2.2 :=
  iter_W (fun s : Int32 × Int32 × AH => PT X 7 0 0 6 [(0, .ref x0), (1, .ref x1), (2, .ref x2), (3, .int x3), (4, .int s.1), (5, .int s.2.1)] [] s.2.2) (fun r : (Int32 × AH) => PT X 7 0 0 61 [(4, .int r.1)] [] r.2) _ (fun s s2 hf P => w_X4_leastWrong_L6 C x0 x1 x2 x3 s _ hf (fun u4 u5 hu e => by cases e; exact P) (fun u4 hu e => by cases e)) (fun s r hf P => w_X4_leastWrong_L6 C x0 x1 x2 x3 s _ hf (fun u4 u5 hu e => by cases e) (fun u4 hu e => by cases e; exact P))
set_option maxRecDepth 100000 in
set_option maxHeartbeats 4000000 in
theorem w_X4_leastWrong_0 {X : MX} (C : CX X cX4_leastWrong 7 RX4 (some .int) rmX4_leastWrong) (a0 : Nat) (a1 : Nat) (a2 : Nat) (a3 : Int32) (h : AH) (res : Int32 × AH) (hf : f_X4_leastWrong a0 a1 a2 a3 h = some res) (K : ∀ (v : Int32) (h2 : AH), res = (v, h2) → PR X rmX4_leastWrong (some (.int v)) h2) : PT X 7 0 0 0 [(0, .ref a0), (1, .ref a1), (2, .ref a2), (3, .int a3)] [] h := by
  unfold f_X4_leastWrong at hf
  refine pt_iconst C (v := (-1)) (by decide) dX4_leastWrong_0 ?_
  refine pt_istore C [(4, .int (-1)), (0, .ref a0), (1, .ref a1), (2, .ref a2), (3, .int a3)] (by decide) rfl dX4_leastWrong_1 ?_
  refine pt_iconst C (v := 0) (by decide) dX4_leastWrong_3 ?_
  refine pt_istore C [(5, .int 0), (4, .int (-1)), (0, .ref a0), (1, .ref a1), (2, .ref a2), (3, .int a3)] (by decide) rfl dX4_leastWrong_4 ?_
  refine pt_sub C [(0, .ref a0), (1, .ref a1), (2, .ref a2), (3, .int a3), (4, .int (-1)), (5, .int 0)] [2, 3, 4, 5, 1, 0] rfl ?_
  refine ob hf (fun e15 g16 hf => ?_)
  refine l_X4_leastWrong_L6 C a0 a1 a2 a3 _ _ _ g16 ?_
  refine pt_iload C 0 rfl dX4_leastWrong_61 ?_
  exact pt_iret C (K _ _ (Option.some.inj hf).symm) (by decide) (by decide) dX4_leastWrong_63
theorem con_X4_leastWrong (l : Launch) (a0 : Nat) (a1 : Nat) (a2 : Nat) (a3 : Int32) (h : AH) (q : Int32 × AH) (hf : f_X4_leastWrong a0 a1 a2 a3 h = some q) : Con l yX4_leastWrong cX4_leastWrong 7 (some .int) rmX4_leastWrong [.ref a0, .ref a1, .ref a2, .int a3] h (some (.int q.1)) q.2 := Con.of (by decide +kernel) (Nat.le_of_ble_eq_true rfl) (fun X C I K => w_X4_leastWrong_0 C a0 a1 a2 a3 h q hf (fun v h2 e => by cases e; exact K))
abbrev rmX4_fewestWrong : Room := { frames := 4, cells := 0, slots := 0, locals := 96 }
theorem yn_X4_fewestWrong : YN yX4_fewestWrong 2 := by refine ⟨?_, ?_, ?_⟩ <;> decide +kernel
set_option maxRecDepth 100000 in
set_option maxHeartbeats 4000000 in
theorem w_X4_fewestWrong_L17 {X : MX} (C : CX X cX4_fewestWrong 4 RX4 (some .int) rmX4_fewestWrong) (x0 : Nat) (x1 : Nat) (x2 : Nat) (s : Int32 × AH) (res : (Int32 × AH) ⊕ ((AH))) (hf : f_X4_fewestWrong_L17 x0 x1 x2 s = some res) (K0 : ∀ (u3 : Int32) (hu : AH), res = .inl (u3, hu) → PT X 4 0 0 17 [(0, .ref x0), (1, .ref x1), (2, .ref x2), (3, .int u3)] [] hu) (K1 : ∀ (hu : AH), res = .inr (hu) → PT X 4 0 0 63 [(0, .ref x0)] [] hu) : PT X 4 0 0 17 [(0, .ref x0), (1, .ref x1), (2, .ref x2), (3, .int s.1)] [] s.2 := by
  unfold f_X4_fewestWrong_L17 at hf
  refine pt_iload_n C 3 rfl rfl dX4_fewestWrong_17 ?_
  refine pt_if_lt C (tgt := 63) (by decide) dX4_fewestWrong_18 (fun c9 => ?_) (fun c9 => ?_)
  · rw [if_pos c9] at hf
    refine pt_sub C [(0, .ref x0)] [0] rfl ?_
    exact K1 _ (Option.some.inj hf).symm
  · rw [if_neg c9] at hf
    refine pt_aload_n C 0 rfl rfl dX4_fewestWrong_21 ?_
    refine ob hf (fun v10 g11 hf => ?_)
    refine pt_getR C kX4 1 (by decide) tw_224 (Or.inl rfl) g11 dX4_fewestWrong_22 ?_
    refine pt_iload_n C 3 rfl rfl dX4_fewestWrong_25 ?_
    refine pt_aload_n C 1 rfl rfl dX4_fewestWrong_26 ?_
    refine ob hf (fun v12 g13 hf => ?_)
    refine pt_getR C kX6 0 (by decide) tw_39 (Or.inl rfl) g13 dX4_fewestWrong_27 ?_
    refine pt_iload_n C 3 rfl rfl dX4_fewestWrong_30 ?_
    refine ob hf (fun v14 g15 hf => ?_)
    refine pt_iald C g15 dX4_fewestWrong_31 ?_
    refine ob hf (fun q16 g17 hf => ?_)
    refine pt_callSN C (As := [.int v14]) (rest := [.int s.1, .ref v10]) (v := (some (.int q16.1))) (fun l => con_X11_isSilent l v14 s.2 _ g17) tw_700 (host := "HeaveSongs") (by decide +kernel) tw_699 tw_1 yn_X11_isSilent (by decide) (Nat.le_of_ble_eq_true rfl) dX4_fewestWrong_32 rfl ?_
    show PT X 4 0 0 35 [(0, .ref x0), (1, .ref x1), (2, .ref x2), (3, .int s.1)] [.int q16.1, .int s.1, .ref v10] q16.2
    refine pt_if_eq C (tgt := 49) (by decide) dX4_fewestWrong_35 (fun c18 => ?_) (fun c18 => ?_)
    · rw [if_pos c18] at hf
      refine pt_aload_n C 0 rfl rfl dX4_fewestWrong_49 ?_
      refine pt_aload_n C 1 rfl rfl dX4_fewestWrong_50 ?_
      refine pt_aload_n C 2 rfl rfl dX4_fewestWrong_51 ?_
      refine pt_iload_n C 3 rfl rfl dX4_fewestWrong_52 ?_
      refine ob hf (fun _ g21 hf => ?_)
      refine ob hf (fun q19 g20 hf => ?_)
      refine pt_callV C (As := [.ref x1, .ref x2, .int s.1]) (rest := [.int s.1, .ref v10]) (v := (some (.int q19.1))) (fun l => con_X4_leastWrong l x0 x1 x2 s.1 q16.2 _ g20) tw_762 tw_759 tw_761 tp_17 kX4 g21 tw_9 yn_X4_leastWrong (by decide) (Nat.le_of_ble_eq_true rfl) dX4_fewestWrong_53 rfl ?_
      show PT X 4 0 0 56 [(0, .ref x0), (1, .ref x1), (2, .ref x2), (3, .int s.1)] [.int q19.1, .int s.1, .ref v10] q19.2
      refine ob hf (fun h22 g23 hf => ?_)
      refine pt_iast C g23 dX4_fewestWrong_56 ?_
      refine pt_iinc C 3 [(3, .int (s.1 + (-1))), (0, .ref x0), (1, .ref x1), (2, .ref x2)] rfl (iinc_eq s.1 (by decide)) (by decide) rfl dX4_fewestWrong_57 ?_
      refine pt_goto C (tgt := 17) (by decide) dX4_fewestWrong_60 ?_
      refine pt_sub C [(0, .ref x0), (1, .ref x1), (2, .ref x2), (3, .int (s.1 + (-1)))] [1, 2, 3, 0] rfl ?_
      exact K0 _ _ (Option.some.inj hf).symm
    · rw [if_neg c18] at hf
      refine pt_aload_n C 0 rfl rfl dX4_fewestWrong_38 ?_
      refine ob hf (fun v24 g25 hf => ?_)
      refine pt_getR C kX4 1 (by decide) tw_224 (Or.inl rfl) g25 dX4_fewestWrong_39 ?_
      refine pt_iload_n C 3 rfl rfl dX4_fewestWrong_42 ?_
      refine pt_iconst C (v := 1) (by decide) dX4_fewestWrong_43 ?_
      refine pt_iadd C dX4_fewestWrong_44 ?_
      refine ob hf (fun v26 g27 hf => ?_)
      refine pt_iald C g27 dX4_fewestWrong_45 ?_
      refine pt_goto C (tgt := 56) (by decide) dX4_fewestWrong_46 ?_
      refine ob hf (fun h28 g29 hf => ?_)
      refine pt_iast C g29 dX4_fewestWrong_56 ?_
      refine pt_iinc C 3 [(3, .int (s.1 + (-1))), (0, .ref x0), (1, .ref x1), (2, .ref x2)] rfl (iinc_eq s.1 (by decide)) (by decide) rfl dX4_fewestWrong_57 ?_
      refine pt_goto C (tgt := 17) (by decide) dX4_fewestWrong_60 ?_
      refine pt_sub C [(0, .ref x0), (1, .ref x1), (2, .ref x2), (3, .int (s.1 + (-1)))] [1, 2, 3, 0] rfl ?_
      exact K0 _ _ (Option.some.inj hf).symm
theorem l_X4_fewestWrong_L17 {X : MX} (C : CX X cX4_fewestWrong 4 RX4 (some .int) rmX4_fewestWrong) (x0 : Nat) (x1 : Nat) (x2 : Nat) : ∀ (n : Nat) (s : Int32 × AH) (r : (AH)), iter (f_X4_fewestWrong_L17 x0 x1 x2) n s = some r → (fun r : (AH) => PT X 4 0 0 63 [(0, .ref x0)] [] r) r → PT X 4 0 0 17 [(0, .ref x0), (1, .ref x1), (2, .ref x2), (3, .int s.1)] [] s.2 :=
  iter_W (fun s : Int32 × AH => PT X 4 0 0 17 [(0, .ref x0), (1, .ref x1), (2, .ref x2), (3, .int s.1)] [] s.2) (fun r : (AH) => PT X 4 0 0 63 [(0, .ref x0)] [] r) _ (fun s s2 hf P => w_X4_fewestWrong_L17 C x0 x1 x2 s _ hf (fun u3 hu e => by cases e; exact P) (fun hu e => by cases e)) (fun s r hf P => w_X4_fewestWrong_L17 C x0 x1 x2 s _ hf (fun u3 hu e => by cases e) (fun hu e => by cases e; exact P))
set_option maxRecDepth 100000 in
set_option maxHeartbeats 4000000 in
theorem w_X4_fewestWrong_0 {X : MX} (C : CX X cX4_fewestWrong 4 RX4 (some .int) rmX4_fewestWrong) (a0 : Nat) (a1 : Nat) (a2 : Nat) (h : AH) (res : Int32 × AH) (hf : f_X4_fewestWrong a0 a1 a2 h = some res) (K : ∀ (v : Int32) (h2 : AH), res = (v, h2) → PR X rmX4_fewestWrong (some (.int v)) h2) : PT X 4 0 0 0 [(0, .ref a0), (1, .ref a1), (2, .ref a2)] [] h := by
  unfold f_X4_fewestWrong at hf
  refine pt_aload_n C 0 rfl rfl dX4_fewestWrong_0 ?_
  refine ob hf (fun v1 g2 hf => ?_)
  refine pt_getR C kX4 1 (by decide) tw_224 (Or.inl rfl) g2 dX4_fewestWrong_1 ?_
  refine pt_aload_n C 1 rfl rfl dX4_fewestWrong_4 ?_
  refine ob hf (fun v3 g4 hf => ?_)
  refine pt_getI C kX6 1 (by decide) tw_45 (Or.inl rfl) g4 dX4_fewestWrong_5 ?_
  refine pt_iconst C (v := 0) (by decide) dX4_fewestWrong_8 ?_
  refine ob hf (fun h5 g6 hf => ?_)
  refine pt_iast C g6 dX4_fewestWrong_9 ?_
  refine pt_aload_n C 1 rfl rfl dX4_fewestWrong_10 ?_
  refine ob hf (fun v7 g8 hf => ?_)
  refine pt_getI C kX6 1 (by decide) tw_45 (Or.inl rfl) g8 dX4_fewestWrong_11 ?_
  refine pt_iconst C (v := 1) (by decide) dX4_fewestWrong_14 ?_
  refine pt_isub C dX4_fewestWrong_15 ?_
  refine pt_istore_n C [(3, .int (v7 - 1)), (0, .ref a0), (1, .ref a1), (2, .ref a2)] rfl (by decide) rfl dX4_fewestWrong_16 ?_
  refine pt_sub C [(0, .ref a0), (1, .ref a1), (2, .ref a2), (3, .int (v7 - 1))] [1, 2, 3, 0] rfl ?_
  refine ob hf (fun e30 g31 hf => ?_)
  refine l_X4_fewestWrong_L17 C a0 a1 a2 _ _ _ g31 ?_
  refine pt_aload_n C 0 rfl rfl dX4_fewestWrong_63 ?_
  refine ob hf (fun v32 g33 hf => ?_)
  refine pt_getR C kX4 1 (by decide) tw_224 (Or.inl rfl) g33 dX4_fewestWrong_64 ?_
  refine pt_iconst C (v := 0) (by decide) dX4_fewestWrong_67 ?_
  refine ob hf (fun v34 g35 hf => ?_)
  refine pt_iald C g35 dX4_fewestWrong_68 ?_
  exact pt_iret C (K _ _ (Option.some.inj hf).symm) (by decide) (by decide) dX4_fewestWrong_69
theorem con_X4_fewestWrong (l : Launch) (a0 : Nat) (a1 : Nat) (a2 : Nat) (h : AH) (q : Int32 × AH) (hf : f_X4_fewestWrong a0 a1 a2 h = some q) : Con l yX4_fewestWrong cX4_fewestWrong 4 (some .int) rmX4_fewestWrong [.ref a0, .ref a1, .ref a2] h (some (.int q.1)) q.2 := Con.of (by decide +kernel) (Nat.le_of_ble_eq_true rfl) (fun X C I K => w_X4_fewestWrong_0 C a0 a1 a2 h q hf (fun v h2 e => by cases e; exact K))
