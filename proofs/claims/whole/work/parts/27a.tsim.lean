set_option maxRecDepth 100000 in
set_option maxHeartbeats 4000000 in
theorem simt_J3_checkIndex_8e157_J9 {h0 h : AH} {C : CH} (a0 : Int32) (a1 : Int32) (a2 : Option Nat) (I : CK h0 C h) : OS (fun (a : Int32 × AH) (c : Int32 × CH) => a.1 = c.1 ∧ CK h0 c.2 a.2) (f_J3_checkIndex_8e157_J9 a0 a1 a2 h) (t_J3_checkIndex_8e157_J9 a0 a1 a2 C) := by
  unfold f_J3_checkIndex_8e157_J9 t_J3_checkIndex_8e157_J9
  exact OS.none
set_option maxRecDepth 100000 in
set_option maxHeartbeats 4000000 in
theorem simt_J3_checkIndex_8e157 {h0 h : AH} {C : CH} (a0 : Int32) (a1 : Int32) (a2 : Option Nat) (I : CK h0 C h) : OS (fun (a : Int32 × AH) (c : Int32 × CH) => a.1 = c.1 ∧ CK h0 c.2 a.2) (f_J3_checkIndex_8e157 a0 a1 a2 h) (t_J3_checkIndex_8e157 a0 a1 a2 C) := by
  unfold f_J3_checkIndex_8e157 t_J3_checkIndex_8e157
  refine OS.i (fun _ => ?_) (fun _ => ?_)
  · exact simt_J3_checkIndex_8e157_J9 _ _ _ I
  · refine OS.i (fun _ => ?_) (fun _ => ?_)
    · exact OS.ret (⟨rfl, I⟩)
    · exact simt_J3_checkIndex_8e157_J9 _ _ _ I
set_option maxRecDepth 100000 in
set_option maxHeartbeats 4000000 in
theorem simt_J15_checkIndex_7cf53 {h0 h : AH} {C : CH} (a0 : Int32) (a1 : Int32) (I : CK h0 C h) : OS (fun (a : Int32 × AH) (c : Int32 × CH) => a.1 = c.1 ∧ CK h0 c.2 a.2) (f_J15_checkIndex_7cf53 a0 a1 h) (t_J15_checkIndex_7cf53 a0 a1 C) := by
  unfold f_J15_checkIndex_7cf53 t_J15_checkIndex_7cf53
  refine OS.bP (simt_J3_checkIndex_8e157 _ _ _ I) (fun _ _ _ I => ?_)
  try dsimp only
  exact OS.ret (⟨rfl, I⟩)
set_option maxRecDepth 100000 in
set_option maxHeartbeats 4000000 in
theorem simt_J6_bitCount_0f7a4 {h0 h : AH} {C : CH} (a0 : Int32) (I : CK h0 C h) : OS (fun (a : Int32 × AH) (c : Int32 × CH) => a.1 = c.1 ∧ CK h0 c.2 a.2) (f_J6_bitCount_0f7a4 a0 h) (t_J6_bitCount_0f7a4 a0 C) := by
  unfold f_J6_bitCount_0f7a4 t_J6_bitCount_0f7a4
  exact OS.ret (⟨rfl, I⟩)
set_option maxRecDepth 100000 in
set_option maxHeartbeats 4000000 in
theorem simt_J7_copyOf_6403c {h0 h : AH} {C : CH} (a0 : Nat) (a1 : Int32) (a2 : Nat) (I : CK h0 C h) : OS (fun (a : Nat × AH) (c : Nat × CH) => a.1 = c.1 ∧ CK h0 c.2 a.2) (f_J7_copyOf_6403c a0 a1 a2 h) (t_J7_copyOf_6403c a0 a1 a2 C) := by
  unfold f_J7_copyOf_6403c t_J7_copyOf_6403c
  rw [I.1.2.1]
  refine OS.i (fun _ => ?_) (fun _ => ?_)
  · refine OS.bEq (OS.rfl' _) (fun _ => ?_)
    have I1 := I.new (.inl (3, a1.toNatClampNeg, .inr (.inr (.inr (.inr fun _ => none))))) (cell_R _ _)
    try rw [I.1.1]
    refine OS.bEq (I1.len _) (fun v3 => ?_)
    have I1 := I.new (.inl (3, a1.toNatClampNeg, .inr (.inr (.inr (.inr fun _ => none))))) (cell_R _ _)
    try rw [I.1.1]
    refine OS.b (I1.cpy _ _ _) (fun _ _ I => ?_)
    exact OS.ret (⟨rfl, I⟩)
  · exact OS.none
set_option maxRecDepth 100000 in
set_option maxHeartbeats 4000000 in
theorem simt_J7_copyOf_1904c {h0 h : AH} {C : CH} (a0 : Nat) (a1 : Int32) (I : CK h0 C h) : OS (fun (a : Nat × AH) (c : Nat × CH) => a.1 = c.1 ∧ CK h0 c.2 a.2) (f_J7_copyOf_1904c a0 a1 h) (t_J7_copyOf_1904c a0 a1 C) := by
  unfold f_J7_copyOf_1904c t_J7_copyOf_1904c
  refine OS.bEq (I.oa _) (fun _ => ?_)
  rw [I.1.2.1]
  refine OS.bP (simt_J7_copyOf_6403c _ _ _ I) (fun _ _ _ I => ?_)
  try dsimp only
  exact OS.ret (⟨rfl, I⟩)
set_option maxRecDepth 100000 in
set_option maxHeartbeats 4000000 in
theorem simt_J8_newLength_cabcc_J21 {h0 h : AH} {C : CH} (a0 : Int32) (a1 : Int32) (a2 : Int32) (I : CK h0 C h) : OS (fun (a : Int32 × AH) (c : Int32 × CH) => a.1 = c.1 ∧ CK h0 c.2 a.2) (f_J8_newLength_cabcc_J21 a0 a1 a2 h) (t_J8_newLength_cabcc_J21 a0 a1 a2 C) := by
  unfold f_J8_newLength_cabcc_J21 t_J8_newLength_cabcc_J21
  exact OS.none
set_option maxRecDepth 100000 in
set_option maxHeartbeats 4000000 in
theorem simt_J8_newLength_cabcc {h0 h : AH} {C : CH} (a0 : Int32) (a1 : Int32) (a2 : Int32) (I : CK h0 C h) : OS (fun (a : Int32 × AH) (c : Int32 × CH) => a.1 = c.1 ∧ CK h0 c.2 a.2) (f_J8_newLength_cabcc a0 a1 a2 h) (t_J8_newLength_cabcc a0 a1 a2 C) := by
  unfold f_J8_newLength_cabcc t_J8_newLength_cabcc
  refine OS.i (fun _ => ?_) (fun _ => ?_)
  · exact simt_J8_newLength_cabcc_J21 _ _ _ I
  · refine OS.i (fun _ => ?_) (fun _ => ?_)
    · exact simt_J8_newLength_cabcc_J21 _ _ _ I
    · exact OS.ret (⟨rfl, I⟩)
set_option maxRecDepth 100000 in
set_option maxHeartbeats 4000000 in
theorem simt_Jx4a65c_grow_92f84_J20 {h0 h : AH} {C : CH} (a0 : Nat) (a1 : Int32) (y2 : Int32) (I : CK h0 C h) : OS (fun (a : Nat × AH) (c : Nat × CH) => a.1 = c.1 ∧ CK h0 c.2 a.2) (f_Jx4a65c_grow_92f84_J20 a0 a1 y2 h) (t_Jx4a65c_grow_92f84_J20 a0 a1 y2 C) := by
  unfold f_Jx4a65c_grow_92f84_J20 t_Jx4a65c_grow_92f84_J20
  refine OS.bP (simt_J8_newLength_cabcc _ _ _ I) (fun _ _ _ I => ?_)
  try dsimp only
  refine OS.bEq (I.gR _ _ _) (fun v8 => ?_)
  refine OS.bP (simt_J7_copyOf_1904c _ _ I) (fun _ _ _ I => ?_)
  try dsimp only
  refine OS.b (I.pF _ _ _ _) (fun _ _ I => ?_)
  exact OS.ret (⟨rfl, I⟩)
set_option maxRecDepth 100000 in
set_option maxHeartbeats 4000000 in
theorem simt_Jx4a65c_grow_92f84 {h0 h : AH} {C : CH} (a0 : Nat) (a1 : Int32) (I : CK h0 C h) : OS (fun (a : Nat × AH) (c : Nat × CH) => a.1 = c.1 ∧ CK h0 c.2 a.2) (f_Jx4a65c_grow_92f84 a0 a1 h) (t_Jx4a65c_grow_92f84 a0 a1 C) := by
  unfold f_Jx4a65c_grow_92f84 t_Jx4a65c_grow_92f84
  refine OS.bEq (I.gR _ _ _) (fun v1 => ?_)
  refine OS.bEq (I.len _) (fun v3 => ?_)
  refine OS.i (fun _ => ?_) (fun _ => ?_)
  · exact simt_Jx4a65c_grow_92f84_J20 _ _ _ I
  · refine OS.bEq (I.gR _ _ _) (fun v14 => ?_)
    rw [I.1.2.1]
    refine OS.i (fun _ => ?_) (fun _ => ?_)
    · refine OS.bEq (OS.rfl' _) (fun _ => ?_)
      have I1 := I.new (.inl (3, (if 10 < a1 then a1 else 10).toNatClampNeg, .inr (.inr (.inr (.inr fun _ => none))))) (cell_R _ _)
      try rw [I.1.1]
      refine OS.b (I1.pF _ _ _ _) (fun _ _ I => ?_)
      exact OS.ret (⟨rfl, I⟩)
    · exact simt_Jx4a65c_grow_92f84_J20 _ _ _ I
set_option maxRecDepth 100000 in
set_option maxHeartbeats 4000000 in
theorem simt_Jx4a65c_grow_d5877 {h0 h : AH} {C : CH} (a0 : Nat) (I : CK h0 C h) : OS (fun (a : Nat × AH) (c : Nat × CH) => a.1 = c.1 ∧ CK h0 c.2 a.2) (f_Jx4a65c_grow_d5877 a0 h) (t_Jx4a65c_grow_d5877 a0 C) := by
  unfold f_Jx4a65c_grow_d5877 t_Jx4a65c_grow_d5877
  refine OS.bEq (I.gI _ _ _) (fun v1 => ?_)
  refine OS.bEq (I.cl _ _) (fun _ => ?_)
  refine OS.bP (simt_Jx4a65c_grow_92f84 _ _ I) (fun _ _ _ I => ?_)
  try dsimp only
  exact OS.ret (⟨rfl, I⟩)
set_option maxRecDepth 100000 in
set_option maxHeartbeats 4000000 in
theorem simt_Jx4a65c_add_72be8_J11 {h0 h : AH} {C : CH} (a0 : Nat) (a1 : Nat) (a3 : Int32) (y2 : Nat) (I : CK h0 C h) : OS (fun (a : AH) (c : CH) => CK h0 c a) (f_Jx4a65c_add_72be8_J11 a0 a1 a3 y2 h) (t_Jx4a65c_add_72be8_J11 a0 a1 a3 y2 C) := by
  unfold f_Jx4a65c_add_72be8_J11 t_Jx4a65c_add_72be8_J11
  refine OS.b (I.stR _ _ _) (fun _ _ I => ?_)
  refine OS.b (I.pF _ _ _ _) (fun _ _ I => ?_)
  exact OS.ret (I)
set_option maxRecDepth 100000 in
set_option maxHeartbeats 4000000 in
theorem simt_Jx4a65c_add_72be8 {h0 h : AH} {C : CH} (a0 : Nat) (a1 : Nat) (a2 : Nat) (a3 : Int32) (I : CK h0 C h) : OS (fun (a : AH) (c : CH) => CK h0 c a) (f_Jx4a65c_add_72be8 a0 a1 a2 a3 h) (t_Jx4a65c_add_72be8 a0 a1 a2 a3 C) := by
  unfold f_Jx4a65c_add_72be8 t_Jx4a65c_add_72be8
  refine OS.bEq (I.len _) (fun v1 => ?_)
  refine OS.i (fun _ => ?_) (fun _ => ?_)
  · refine OS.bEq (I.cl _ _) (fun _ => ?_)
    refine OS.bP (simt_Jx4a65c_grow_d5877 _ I) (fun _ _ _ I => ?_)
    try dsimp only
    exact simt_Jx4a65c_add_72be8_J11 _ _ _ _ I
  · exact simt_Jx4a65c_add_72be8_J11 _ _ _ _ I
set_option maxRecDepth 100000 in
set_option maxHeartbeats 4000000 in
theorem simt_Jx4a65c_add_9ea2d {h0 h : AH} {C : CH} (a0 : Nat) (a1 : Nat) (I : CK h0 C h) : OS (fun (a : Int32 × AH) (c : Int32 × CH) => a.1 = c.1 ∧ CK h0 c.2 a.2) (f_Jx4a65c_add_9ea2d a0 a1 h) (t_Jx4a65c_add_9ea2d a0 a1 C) := by
  unfold f_Jx4a65c_add_9ea2d t_Jx4a65c_add_9ea2d
  refine OS.bEq (I.gI _ _ _) (fun v1 => ?_)
  refine OS.b (I.pF _ _ _ _) (fun _ _ I => ?_)
  refine OS.bEq (I.gR _ _ _) (fun v5 => ?_)
  refine OS.bEq (I.gI _ _ _) (fun v7 => ?_)
  refine OS.bEq (I.cl _ _) (fun _ => ?_)
  refine OS.bV (simt_Jx4a65c_add_72be8 _ _ _ _ I) (fun _ _ I => ?_)
  exact OS.ret (⟨rfl, I⟩)
set_option maxRecDepth 100000 in
set_option maxHeartbeats 4000000 in
theorem simt_Jx4a65c_elementData_915e3 {h0 h : AH} {C : CH} (a0 : Nat) (a1 : Int32) (I : CK h0 C h) : OS (fun (a : Nat × AH) (c : Nat × CH) => a.1 = c.1 ∧ CK h0 c.2 a.2) (f_Jx4a65c_elementData_915e3 a0 a1 h) (t_Jx4a65c_elementData_915e3 a0 a1 C) := by
  unfold f_Jx4a65c_elementData_915e3 t_Jx4a65c_elementData_915e3
  refine OS.bEq (I.gR _ _ _) (fun v1 => ?_)
  refine OS.bEq (I.ldR _ _ _) (fun v3 => ?_)
  exact OS.ret (⟨rfl, I⟩)
set_option maxRecDepth 100000 in
set_option maxHeartbeats 4000000 in
theorem simt_Jx4a65c_get_915e3 {h0 h : AH} {C : CH} (a0 : Nat) (a1 : Int32) (I : CK h0 C h) : OS (fun (a : Nat × AH) (c : Nat × CH) => a.1 = c.1 ∧ CK h0 c.2 a.2) (f_Jx4a65c_get_915e3 a0 a1 h) (t_Jx4a65c_get_915e3 a0 a1 C) := by
  unfold f_Jx4a65c_get_915e3 t_Jx4a65c_get_915e3
  refine OS.bEq (I.gI _ _ _) (fun v1 => ?_)
  refine OS.bP (simt_J15_checkIndex_7cf53 _ _ I) (fun _ _ _ I => ?_)
  try dsimp only
  refine OS.bEq (I.cl _ _) (fun _ => ?_)
  refine OS.bP (simt_Jx4a65c_elementData_915e3 _ _ I) (fun _ _ _ I => ?_)
  try dsimp only
  exact OS.ret (⟨rfl, I⟩)
set_option maxRecDepth 100000 in
set_option maxHeartbeats 4000000 in
theorem simt_Jxa1e45_init_da8c8 {h0 h : AH} {C : CH} (a0 : Nat) (I : CK h0 C h) : OS (fun (a : AH) (c : CH) => CK h0 c a) (f_Jxa1e45_init_da8c8 a0 h) (t_Jxa1e45_init_da8c8 a0 C) := by
  unfold f_Jxa1e45_init_da8c8 t_Jxa1e45_init_da8c8
  exact OS.ret (I)
set_option maxRecDepth 100000 in
set_option maxHeartbeats 4000000 in
theorem simt_Jxc12de_init_da8c8 {h0 h : AH} {C : CH} (a0 : Nat) (I : CK h0 C h) : OS (fun (a : AH) (c : CH) => CK h0 c a) (f_Jxc12de_init_da8c8 a0 h) (t_Jxc12de_init_da8c8 a0 C) := by
  unfold f_Jxc12de_init_da8c8 t_Jxc12de_init_da8c8
  refine OS.bV (simt_Jxa1e45_init_da8c8 _ I) (fun _ _ I => ?_)
  refine OS.b (I.pF _ _ _ _) (fun _ _ I => ?_)
  exact OS.ret (I)
set_option maxRecDepth 100000 in
set_option maxHeartbeats 4000000 in
theorem simt_Jx4a65c_init_da8c8 {h0 h : AH} {C : CH} (a0 : Nat) (I : CK h0 C h) : OS (fun (a : AH) (c : CH) => CK h0 c a) (f_Jx4a65c_init_da8c8 a0 h) (t_Jx4a65c_init_da8c8 a0 C) := by
  unfold f_Jx4a65c_init_da8c8 t_Jx4a65c_init_da8c8
  refine OS.bV (simt_Jxc12de_init_da8c8 _ I) (fun _ _ I => ?_)
  rw [I.1.2.1]
  refine OS.b (I.pF _ _ _ _) (fun _ _ I => ?_)
  exact OS.ret (I)
set_option maxRecDepth 100000 in
set_option maxHeartbeats 4000000 in
theorem simt_Jx4a65c_isEmpty_aae02 {h0 h : AH} {C : CH} (a0 : Nat) (I : CK h0 C h) : OS (fun (a : Int32 × AH) (c : Int32 × CH) => a.1 = c.1 ∧ CK h0 c.2 a.2) (f_Jx4a65c_isEmpty_aae02 a0 h) (t_Jx4a65c_isEmpty_aae02 a0 C) := by
  unfold f_Jx4a65c_isEmpty_aae02 t_Jx4a65c_isEmpty_aae02
  refine OS.bEq (I.gI _ _ _) (fun v1 => ?_)
  refine OS.i (fun _ => ?_) (fun _ => ?_)
  · exact OS.ret (⟨rfl, I⟩)
  · exact OS.ret (⟨rfl, I⟩)
set_option maxRecDepth 100000 in
set_option maxHeartbeats 4000000 in
theorem simt_Jx4a65c_size_8abf5 {h0 h : AH} {C : CH} (a0 : Nat) (I : CK h0 C h) : OS (fun (a : Int32 × AH) (c : Int32 × CH) => a.1 = c.1 ∧ CK h0 c.2 a.2) (f_Jx4a65c_size_8abf5 a0 h) (t_Jx4a65c_size_8abf5 a0 C) := by
  unfold f_Jx4a65c_size_8abf5 t_Jx4a65c_size_8abf5
  refine OS.bEq (I.gI _ _ _) (fun v1 => ?_)
  exact OS.ret (⟨rfl, I⟩)
set_option maxRecDepth 100000 in
set_option maxHeartbeats 4000000 in
theorem simt_X0_add {h0 h : AH} {C : CH} (a0 : Nat) (a1 : Int32) (a2 : Int32) (a3 : Int32) (a4 : Int32) (I : CK h0 C h) : OS (fun (a : Int32 × AH) (c : Int32 × CH) => a.1 = c.1 ∧ CK h0 c.2 a.2) (f_X0_add a0 a1 a2 a3 a4 h) (t_X0_add a0 a1 a2 a3 a4 C) := by
  unfold f_X0_add t_X0_add
  refine OS.bEq (I.gI _ _ _) (fun v1 => ?_)
  refine OS.i (fun _ => ?_) (fun _ => ?_)
  · refine OS.bEq (I.gR _ _ _) (fun v4 => ?_)
    refine OS.bEq (I.gI _ _ _) (fun v6 => ?_)
    refine OS.b (I.st _ _ _ _) (fun _ _ I => ?_)
    refine OS.bEq (I.gR _ _ _) (fun v10 => ?_)
    refine OS.bEq (I.gI _ _ _) (fun v12 => ?_)
    refine OS.b (I.st _ _ _ _) (fun _ _ I => ?_)
    refine OS.bEq (I.gR _ _ _) (fun v16 => ?_)
    refine OS.bEq (I.gI _ _ _) (fun v18 => ?_)
    refine OS.b (I.st _ _ _ _) (fun _ _ I => ?_)
    refine OS.bEq (I.gR _ _ _) (fun v22 => ?_)
    refine OS.bEq (I.gI _ _ _) (fun v24 => ?_)
    refine OS.b (I.st _ _ _ _) (fun _ _ I => ?_)
    refine OS.bEq (I.gR _ _ _) (fun v28 => ?_)
    refine OS.bEq (I.gI _ _ _) (fun v30 => ?_)
    refine OS.b (I.st _ _ _ _) (fun _ _ I => ?_)
    refine OS.bEq (I.gI _ _ _) (fun v34 => ?_)
    refine OS.bEq (I.gI _ _ _) (fun v36 => ?_)
    refine OS.b (I.pF _ _ _ _) (fun _ _ I => ?_)
    refine OS.bEq (I.gI _ _ _) (fun v40 => ?_)
    refine OS.b (I.pF _ _ _ _) (fun _ _ I => ?_)
    exact OS.ret (⟨rfl, I⟩)
  · exact OS.ret (⟨rfl, I⟩)
set_option maxRecDepth 100000 in
set_option maxHeartbeats 4000000 in
theorem simt_X0_allSet {h0 h : AH} {C : CH} (a0 : Nat) (I : CK h0 C h) : OS (fun (a : Int32 × AH) (c : Int32 × CH) => a.1 = c.1 ∧ CK h0 c.2 a.2) (f_X0_allSet a0 h) (t_X0_allSet a0 C) := by
  unfold f_X0_allSet t_X0_allSet
  refine OS.bEq (I.gI _ _ _) (fun v1 => ?_)
  exact OS.ret (⟨rfl, I⟩)
set_option maxRecDepth 100000 in
set_option maxHeartbeats 4000000 in
theorem simt_X11_within {h0 h : AH} {C : CH} (a0 : Int32) (a1 : Int32) (a2 : Int32) (I : CK h0 C h) : OS (fun (a : Int32 × AH) (c : Int32 × CH) => a.1 = c.1 ∧ CK h0 c.2 a.2) (f_X11_within a0 a1 a2 h) (t_X11_within a0 a1 a2 C) := by
  unfold f_X11_within t_X11_within
  refine OS.i (fun _ => ?_) (fun _ => ?_)
  · exact OS.ret (⟨rfl, I⟩)
  · refine OS.i (fun _ => ?_) (fun _ => ?_)
    · exact OS.ret (⟨rfl, I⟩)
    · exact OS.ret (⟨rfl, I⟩)
set_option maxRecDepth 100000 in
set_option maxHeartbeats 4000000 in
theorem simt_X0_has {h0 h : AH} {C : CH} (a0 : Nat) (a1 : Int32) (I : CK h0 C h) : OS (fun (a : Int32 × AH) (c : Int32 × CH) => a.1 = c.1 ∧ CK h0 c.2 a.2) (f_X0_has a0 a1 h) (t_X0_has a0 a1 C) := by
  unfold f_X0_has t_X0_has
  refine OS.bEq (I.gI _ _ _) (fun v1 => ?_)
  refine OS.bP (simt_X11_within _ _ _ I) (fun _ _ _ I => ?_)
  try dsimp only
  refine OS.bEq (OS.rfl' _) (fun _ => ?_)
  exact OS.ret (⟨rfl, I⟩)
set_option maxRecDepth 100000 in
set_option maxHeartbeats 4000000 in
theorem simt_X0_howManyAtStrength_L4 {h0 : AH} (x0 : Nat) (a : Int32 × Int32 × AH) (c : Int32 × Int32 × CH) (r : (fun (a : Int32 × Int32 × AH) (c : Int32 × Int32 × CH) => a.1 = c.1 ∧ a.2.1 = c.2.1 ∧ CK h0 c.2.2 a.2.2) a c) : OS (SR (fun (a : Int32 × Int32 × AH) (c : Int32 × Int32 × CH) => a.1 = c.1 ∧ a.2.1 = c.2.1 ∧ CK h0 c.2.2 a.2.2) (fun (a : Int32 × AH) (c : Int32 × CH) => a.1 = c.1 ∧ CK h0 c.2 a.2)) (f_X0_howManyAtStrength_L4 x0 a) (t_X0_howManyAtStrength_L4 x0 c) := by
  obtain ⟨s0, s1, hs⟩ := a
  obtain ⟨zs0, zs1, Cs⟩ := c
  obtain ⟨es0, es1, I⟩ := r
  dsimp only at es0 es1 I
  subst es0
  subst es1
  unfold f_X0_howManyAtStrength_L4 t_X0_howManyAtStrength_L4
  try dsimp only
  refine OS.bEq (I.gI _ _ _) (fun v1 => ?_)
  refine OS.i (fun _ => ?_) (fun _ => ?_)
  · exact OS.ret (SR.r (⟨rfl, I⟩))
  · refine OS.bEq (I.gR _ _ _) (fun v4 => ?_)
    refine OS.bEq (I.ld _ _ _) (fun v6 => ?_)
    refine OS.bEq (I.gR _ _ _) (fun v8 => ?_)
    refine OS.bEq (I.ld _ _ _) (fun v10 => ?_)
    refine OS.i (fun _ => ?_) (fun _ => ?_)
    · exact OS.ret (SR.l (⟨rfl, rfl, I⟩))
    · exact OS.ret (SR.l (⟨rfl, rfl, I⟩))
theorem bL_X0_howManyAtStrength_L4 {α β : Type} {R : α → β → Prop} {h0 : AH} (x0 : Nat) {n : Nat} {h : AH} {C : CH} {s0 : Int32} {s1 : Int32} {k : (Int32 × AH) → Option α} {l : (Int32 × CH) → Option β} (I : CK h0 C h) (k0 : ∀ (w0 : Int32) (h' : AH) (C' : CH), CK h0 C' h' → OS R (k ((w0, h'))) (l ((w0, C')))) : OS R ((iter (f_X0_howManyAtStrength_L4 x0) n (s0, s1, h)).bind k) ((iter (t_X0_howManyAtStrength_L4 x0) n (s0, s1, C)).bind l) := by
  refine OS.b (OS.it (simt_X0_howManyAtStrength_L4 x0) n _ _ ⟨rfl, rfl, I⟩) (fun a c r => ?_)
  obtain ⟨x0, h'⟩ := a
  obtain ⟨zx0, C'⟩ := c
  obtain ⟨ex0, I2⟩ := r
  dsimp only at ex0 I2
  subst ex0
  exact k0 x0 h' C' I2
set_option maxRecDepth 100000 in
set_option maxHeartbeats 4000000 in
theorem simt_X0_howManyAtStrength {h0 h : AH} {C : CH} (a0 : Nat) (I : CK h0 C h) : OS (fun (a : Int32 × AH) (c : Int32 × CH) => a.1 = c.1 ∧ CK h0 c.2 a.2) (f_X0_howManyAtStrength a0 h) (t_X0_howManyAtStrength a0 C) := by
  unfold f_X0_howManyAtStrength t_X0_howManyAtStrength
  refine bL_X0_howManyAtStrength_L4 _ I (fun _ _ _ I => ?_)
  try dsimp only [Sum.elim_inl, Sum.elim_inr]
  exact OS.ret (⟨rfl, I⟩)
set_option maxRecDepth 100000 in
set_option maxHeartbeats 4000000 in
theorem simt_X0_init {h0 h : AH} {C : CH} (a0 : Nat) (I : CK h0 C h) : OS (fun (a : AH) (c : CH) => CK h0 c a) (f_X0_init a0 h) (t_X0_init a0 C) := by
  unfold f_X0_init t_X0_init
  have I1 := I.new (.inl (0, 10, .inl fun _ => 0)) (cell_I _ _)
  try rw [I.1.1]
  refine OS.b (I1.pF _ _ _ _) (fun _ _ I => ?_)
  have I1 := I.new (.inl (0, 10, .inl fun _ => 0)) (cell_I _ _)
  try rw [I.1.1]
  refine OS.b (I1.pF _ _ _ _) (fun _ _ I => ?_)
  have I1 := I.new (.inl (0, 10, .inl fun _ => 0)) (cell_I _ _)
  try rw [I.1.1]
  refine OS.b (I1.pF _ _ _ _) (fun _ _ I => ?_)
  have I1 := I.new (.inl (0, 10, .inl fun _ => 0)) (cell_I _ _)
  try rw [I.1.1]
  refine OS.b (I1.pF _ _ _ _) (fun _ _ I => ?_)
  have I1 := I.new (.inl (0, 10, .inl fun _ => 0)) (cell_I _ _)
  try rw [I.1.1]
  refine OS.b (I1.pF _ _ _ _) (fun _ _ I => ?_)
  have I1 := I.new (.inl (0, 10, .inl fun _ => 0)) (cell_I _ _)
  try rw [I.1.1]
  refine OS.b (I1.pF _ _ _ _) (fun _ _ I => ?_)
  exact OS.ret (I)
set_option maxRecDepth 100000 in
set_option maxHeartbeats 4000000 in
theorem simt_X0_mixedInto_L5 {h0 : AH} (x0 : Nat) (a : Int64 × Int32 × AH) (c : Int64 × Int32 × CH) (r : (fun (a : Int64 × Int32 × AH) (c : Int64 × Int32 × CH) => a.1 = c.1 ∧ a.2.1 = c.2.1 ∧ CK h0 c.2.2 a.2.2) a c) : OS (SR (fun (a : Int64 × Int32 × AH) (c : Int64 × Int32 × CH) => a.1 = c.1 ∧ a.2.1 = c.2.1 ∧ CK h0 c.2.2 a.2.2) (fun (a : Int64 × AH) (c : Int64 × CH) => a.1 = c.1 ∧ CK h0 c.2 a.2)) (f_X0_mixedInto_L5 x0 a) (t_X0_mixedInto_L5 x0 c) := by
  obtain ⟨s0, s1, hs⟩ := a
  obtain ⟨zs0, zs1, Cs⟩ := c
  obtain ⟨es0, es1, I⟩ := r
  dsimp only at es0 es1 I
  subst es0
  subst es1
  unfold f_X0_mixedInto_L5 t_X0_mixedInto_L5
  try dsimp only
  refine OS.bEq (I.gI _ _ _) (fun v1 => ?_)
  refine OS.i (fun _ => ?_) (fun _ => ?_)
  · exact OS.ret (SR.r (⟨rfl, I⟩))
  · refine OS.bEq (I.gR _ _ _) (fun v4 => ?_)
    refine OS.bEq (I.ld _ _ _) (fun v6 => ?_)
    refine OS.bEq (I.gR _ _ _) (fun v8 => ?_)
    refine OS.bEq (I.ld _ _ _) (fun v10 => ?_)
    refine OS.bEq (I.gR _ _ _) (fun v12 => ?_)
    refine OS.bEq (I.ld _ _ _) (fun v14 => ?_)
    refine OS.bEq (I.gR _ _ _) (fun v16 => ?_)
    refine OS.bEq (I.ld _ _ _) (fun v18 => ?_)
    refine OS.bEq (I.gR _ _ _) (fun v20 => ?_)
    refine OS.bEq (I.ld _ _ _) (fun v22 => ?_)
    refine OS.bEq (I.gR _ _ _) (fun v24 => ?_)
    refine OS.bEq (I.ld _ _ _) (fun v26 => ?_)
    exact OS.ret (SR.l (⟨rfl, rfl, I⟩))
theorem bL_X0_mixedInto_L5 {α β : Type} {R : α → β → Prop} {h0 : AH} (x0 : Nat) {n : Nat} {h : AH} {C : CH} {s0 : Int64} {s1 : Int32} {k : (Int64 × AH) → Option α} {l : (Int64 × CH) → Option β} (I : CK h0 C h) (k0 : ∀ (w0 : Int64) (h' : AH) (C' : CH), CK h0 C' h' → OS R (k ((w0, h'))) (l ((w0, C')))) : OS R ((iter (f_X0_mixedInto_L5 x0) n (s0, s1, h)).bind k) ((iter (t_X0_mixedInto_L5 x0) n (s0, s1, C)).bind l) := by
  refine OS.b (OS.it (simt_X0_mixedInto_L5 x0) n _ _ ⟨rfl, rfl, I⟩) (fun a c r => ?_)
  obtain ⟨x0, h'⟩ := a
  obtain ⟨zx0, C'⟩ := c
  obtain ⟨ex0, I2⟩ := r
  dsimp only at ex0 I2
  subst ex0
  exact k0 x0 h' C' I2
set_option maxRecDepth 100000 in
set_option maxHeartbeats 4000000 in
theorem simt_X0_mixedInto {h0 h : AH} {C : CH} (a0 : Nat) (a1 : Int64) (I : CK h0 C h) : OS (fun (a : Int64 × AH) (c : Int64 × CH) => a.1 = c.1 ∧ CK h0 c.2 a.2) (f_X0_mixedInto a0 a1 h) (t_X0_mixedInto a0 a1 C) := by
  unfold f_X0_mixedInto t_X0_mixedInto
  refine bL_X0_mixedInto_L5 _ I (fun _ _ _ I => ?_)
  try dsimp only [Sum.elim_inl, Sum.elim_inr]
  exact OS.ret (⟨rfl, I⟩)
set_option maxRecDepth 100000 in
set_option maxHeartbeats 4000000 in
theorem simt_X0_restFor_L2 {h0 : AH} (x0 : Nat) (x1 : Int32) (x2 : Nat) (a : Int32 × AH) (c : Int32 × CH) (r : (fun (a : Int32 × AH) (c : Int32 × CH) => a.1 = c.1 ∧ CK h0 c.2 a.2) a c) : OS (SR (fun (a : Int32 × AH) (c : Int32 × CH) => a.1 = c.1 ∧ CK h0 c.2 a.2) (fun (a : AH) (c : CH) => CK h0 c a)) (f_X0_restFor_L2 x0 x1 x2 a) (t_X0_restFor_L2 x0 x1 x2 c) := by
  obtain ⟨s0, hs⟩ := a
  obtain ⟨zs0, Cs⟩ := c
  obtain ⟨es0, I⟩ := r
  dsimp only at es0 I
  subst es0
  unfold f_X0_restFor_L2 t_X0_restFor_L2
  try dsimp only
  refine OS.bEq (I.gI _ _ _) (fun v1 => ?_)
  refine OS.i (fun _ => ?_) (fun _ => ?_)
  · exact OS.ret (SR.r (I))
  · refine OS.bEq (I.len _) (fun v4 => ?_)
    refine OS.i (fun _ => ?_) (fun _ => ?_)
    · exact OS.ret (SR.r (I))
    · refine OS.bEq (I.gR _ _ _) (fun v7 => ?_)
      refine OS.bEq (I.ld _ _ _) (fun v9 => ?_)
      refine OS.bEq (I.ld _ _ _) (fun v11 => ?_)
      refine OS.bEq (I.gR _ _ _) (fun v13 => ?_)
      refine OS.bEq (I.ld _ _ _) (fun v15 => ?_)
      refine OS.b (I.st _ _ _ _) (fun _ _ I => ?_)
      exact OS.ret (SR.l (⟨rfl, I⟩))
theorem bL_X0_restFor_L2 {α β : Type} {R : α → β → Prop} {h0 : AH} (x0 : Nat) (x1 : Int32) (x2 : Nat) {n : Nat} {h : AH} {C : CH} {s0 : Int32} {k : (AH) → Option α} {l : (CH) → Option β} (I : CK h0 C h) (k0 : ∀ (h' : AH) (C' : CH), CK h0 C' h' → OS R (k (h')) (l (C'))) : OS R ((iter (f_X0_restFor_L2 x0 x1 x2) n (s0, h)).bind k) ((iter (t_X0_restFor_L2 x0 x1 x2) n (s0, C)).bind l) := by
  refine OS.b (OS.it (simt_X0_restFor_L2 x0 x1 x2) n _ _ ⟨rfl, I⟩) (fun a c r => ?_)
  exact k0 a c r
set_option maxRecDepth 100000 in
set_option maxHeartbeats 4000000 in
theorem simt_X0_restFor {h0 h : AH} {C : CH} (a0 : Nat) (a1 : Int32) (a2 : Nat) (I : CK h0 C h) : OS (fun (a : AH) (c : CH) => CK h0 c a) (f_X0_restFor a0 a1 a2 h) (t_X0_restFor a0 a1 a2 C) := by
  unfold f_X0_restFor t_X0_restFor
  refine bL_X0_restFor_L2 _ _ _ I (fun _ _ I => ?_)
  try dsimp only [Sum.elim_inl, Sum.elim_inr]
  exact OS.ret (I)
set_option maxRecDepth 100000 in
set_option maxHeartbeats 4000000 in
theorem simt_X10_init {h0 h : AH} {C : CH} (a0 : Nat) (a1 : Int32) (a2 : Int32) (I : CK h0 C h) : OS (fun (a : AH) (c : CH) => CK h0 c a) (f_X10_init a0 a1 a2 h) (t_X10_init a0 a1 a2 C) := by
  unfold f_X10_init t_X10_init
  refine OS.b (I.pF _ _ _ _) (fun _ _ I => ?_)
  refine OS.b (I.pF _ _ _ _) (fun _ _ I => ?_)
  exact OS.ret (I)
set_option maxRecDepth 100000 in
set_option maxHeartbeats 4000000 in
theorem simt_X10_isStrong {h0 h : AH} {C : CH} (a0 : Nat) (a1 : Int32) (I : CK h0 C h) : OS (fun (a : Int32 × AH) (c : Int32 × CH) => a.1 = c.1 ∧ CK h0 c.2 a.2) (f_X10_isStrong a0 a1 h) (t_X10_isStrong a0 a1 C) := by
  unfold f_X10_isStrong t_X10_isStrong
  refine OS.bEq (I.gI _ _ _) (fun v1 => ?_)
  refine OS.bEq (I.gI _ _ _) (fun v3 => ?_)
  refine OS.i (fun _ => ?_) (fun _ => ?_)
  · exact OS.ret (⟨rfl, I⟩)
  · exact OS.ret (⟨rfl, I⟩)
set_option maxRecDepth 100000 in
set_option maxHeartbeats 4000000 in
theorem simt_X10_mixedInto {h0 h : AH} {C : CH} (a0 : Nat) (a1 : Int64) (I : CK h0 C h) : OS (fun (a : Int64 × AH) (c : Int64 × CH) => a.1 = c.1 ∧ CK h0 c.2 a.2) (f_X10_mixedInto a0 a1 h) (t_X10_mixedInto a0 a1 C) := by
  unfold f_X10_mixedInto t_X10_mixedInto
  refine OS.bEq (I.gI _ _ _) (fun v1 => ?_)
  refine OS.bEq (I.gI _ _ _) (fun v3 => ?_)
  exact OS.ret (⟨rfl, I⟩)
set_option maxRecDepth 100000 in
set_option maxHeartbeats 4000000 in
theorem simt_X11_isSilent {h0 h : AH} {C : CH} (a0 : Int32) (I : CK h0 C h) : OS (fun (a : Int32 × AH) (c : Int32 × CH) => a.1 = c.1 ∧ CK h0 c.2 a.2) (f_X11_isSilent a0 h) (t_X11_isSilent a0 C) := by
  unfold f_X11_isSilent t_X11_isSilent
  refine OS.i (fun _ => ?_) (fun _ => ?_)
  · exact OS.ret (⟨rfl, I⟩)
  · refine OS.i (fun _ => ?_) (fun _ => ?_)
    · exact OS.ret (⟨rfl, I⟩)
    · exact OS.ret (⟨rfl, I⟩)
set_option maxRecDepth 100000 in
set_option maxHeartbeats 4000000 in
theorem simt_X10_wrongIfSungFrom_L24_J71 {h0 h : AH} {C : CH} (x0 : Nat) (x1 : Nat) (x2 : Int32) (y3 : Int32) (y4 : Int32) (z0 : Int32) (z1 : Int32) (I : CK h0 C h) : OS (SR (fun (a : Int32 × Int32 × AH) (c : Int32 × Int32 × CH) => a.1 = c.1 ∧ a.2.1 = c.2.1 ∧ CK h0 c.2.2 a.2.2) (SR (fun (a : Int32 × AH) (c : Int32 × CH) => a.1 = c.1 ∧ CK h0 c.2 a.2) (fun (a : AH) (c : CH) => CK h0 c a))) (f_X10_wrongIfSungFrom_L24_J71 x0 x1 x2 y3 y4 z0 z1 h) (t_X10_wrongIfSungFrom_L24_J71 x0 x1 x2 y3 y4 z0 z1 C) := by
  unfold f_X10_wrongIfSungFrom_L24_J71 t_X10_wrongIfSungFrom_L24_J71
  refine OS.i (fun _ => ?_) (fun _ => ?_)
  · exact OS.ret (SR.l (⟨rfl, rfl, I⟩))
  · exact OS.ret (SR.l (⟨rfl, rfl, I⟩))
set_option maxRecDepth 100000 in
set_option maxHeartbeats 4000000 in
theorem simt_X10_wrongIfSungFrom_L24 {h0 : AH} (x0 : Nat) (x1 : Nat) (x2 : Int32) (a : Int32 × Int32 × AH) (c : Int32 × Int32 × CH) (r : (fun (a : Int32 × Int32 × AH) (c : Int32 × Int32 × CH) => a.1 = c.1 ∧ a.2.1 = c.2.1 ∧ CK h0 c.2.2 a.2.2) a c) : OS (SR (fun (a : Int32 × Int32 × AH) (c : Int32 × Int32 × CH) => a.1 = c.1 ∧ a.2.1 = c.2.1 ∧ CK h0 c.2.2 a.2.2) (SR (fun (a : Int32 × AH) (c : Int32 × CH) => a.1 = c.1 ∧ CK h0 c.2 a.2) (fun (a : AH) (c : CH) => CK h0 c a))) (f_X10_wrongIfSungFrom_L24 x0 x1 x2 a) (t_X10_wrongIfSungFrom_L24 x0 x1 x2 c) := by
  obtain ⟨s0, s1, hs⟩ := a
  obtain ⟨zs0, zs1, Cs⟩ := c
  obtain ⟨es0, es1, I⟩ := r
  dsimp only at es0 es1 I
  subst es0
  subst es1
  unfold f_X10_wrongIfSungFrom_L24 t_X10_wrongIfSungFrom_L24
  try dsimp only
  refine OS.bEq (I.gI _ _ _) (fun v7 => ?_)
  refine OS.i (fun _ => ?_) (fun _ => ?_)
  · exact OS.ret (SR.r (SR.l (⟨rfl, I⟩)))
  · refine OS.bEq (I.gR _ _ _) (fun v10 => ?_)
    refine OS.bEq (I.ld _ _ _) (fun v12 => ?_)
    refine OS.bP (simt_X11_isSilent _ I) (fun _ _ _ I => ?_)
    try dsimp only
    refine OS.i (fun _ => ?_) (fun _ => ?_)
    · refine OS.bEq (I.cl _ _) (fun _ => ?_)
      refine OS.bP (simt_X10_isStrong _ _ I) (fun _ _ _ I => ?_)
      try dsimp only
      refine OS.i (fun _ => ?_) (fun _ => ?_)
      · exact simt_X10_wrongIfSungFrom_L24_J71 _ _ _ _ _ _ _ I
      · exact simt_X10_wrongIfSungFrom_L24_J71 _ _ _ _ _ _ _ I
    · exact OS.ret (SR.r (SR.r (I)))
theorem bL_X10_wrongIfSungFrom_L24 {α β : Type} {R : α → β → Prop} {h0 : AH} (x0 : Nat) (x1 : Nat) (x2 : Int32) {n : Nat} {h : AH} {C : CH} {s0 : Int32} {s1 : Int32} {k : (Int32 × AH) ⊕ (AH) → Option α} {l : (Int32 × CH) ⊕ (CH) → Option β} (I : CK h0 C h) (k0 : ∀ (w0 : Int32) (h' : AH) (C' : CH), CK h0 C' h' → OS R (k (.inl (w0, h'))) (l (.inl (w0, C')))) (k1 : ∀ (h' : AH) (C' : CH), CK h0 C' h' → OS R (k (.inr (h'))) (l (.inr (C')))) : OS R ((iter (f_X10_wrongIfSungFrom_L24 x0 x1 x2) n (s0, s1, h)).bind k) ((iter (t_X10_wrongIfSungFrom_L24 x0 x1 x2) n (s0, s1, C)).bind l) := by
  refine OS.b (OS.it (simt_X10_wrongIfSungFrom_L24 x0 x1 x2) n _ _ ⟨rfl, rfl, I⟩) (fun a c r => ?_)
  cases a with
  | inl a0 =>
    cases c with
    | inl c0 =>
      obtain ⟨x0, h'⟩ := a0
      obtain ⟨zx0, C'⟩ := c0
      obtain ⟨ex0, I2⟩ := r
      dsimp only at ex0 I2
      subst ex0
      exact k0 x0 h' C' I2
    | inr d0 => exact r.elim
  | inr b0 =>
    cases c with
    | inl c0 => exact r.elim
    | inr d0 =>
      exact k1 b0 d0 r
set_option maxRecDepth 100000 in
set_option maxHeartbeats 4000000 in
theorem simt_X10_wrongIfSungFrom {h0 h : AH} {C : CH} (a0 : Nat) (a1 : Nat) (a2 : Int32) (I : CK h0 C h) : OS (fun (a : Int32 × AH) (c : Int32 × CH) => a.1 = c.1 ∧ CK h0 c.2 a.2) (f_X10_wrongIfSungFrom a0 a1 a2 h) (t_X10_wrongIfSungFrom a0 a1 a2 C) := by
  unfold f_X10_wrongIfSungFrom t_X10_wrongIfSungFrom
  refine OS.i (fun _ => ?_) (fun _ => ?_)
  · exact OS.ret (⟨rfl, I⟩)
  · refine OS.bEq (I.gI _ _ _) (fun v2 => ?_)
    refine OS.bEq (I.gI _ _ _) (fun v4 => ?_)
    refine OS.i (fun _ => ?_) (fun _ => ?_)
    · refine bL_X10_wrongIfSungFrom_L24 _ _ _ I (fun _ _ _ I => ?_) (fun _ _ I => ?_)
      · try dsimp only [Sum.elim_inl, Sum.elim_inr]
        exact OS.ret (⟨rfl, I⟩)
      · try dsimp only [Sum.elim_inl, Sum.elim_inr]
        exact OS.ret (⟨rfl, I⟩)
    · exact OS.ret (⟨rfl, I⟩)
set_option maxRecDepth 100000 in
set_option maxHeartbeats 4000000 in
theorem simt_X11_songOf {h0 h : AH} {C : CH} (a0 : Nat) (a1 : Int32) (I : CK h0 C h) : OS (fun (a : Option Nat × AH) (c : Option Nat × CH) => a.1 = c.1 ∧ CK h0 c.2 a.2) (f_X11_songOf a0 a1 h) (t_X11_songOf a0 a1 C) := by
  unfold f_X11_songOf t_X11_songOf
  refine OS.bEq (I.gR _ _ _) (fun v1 => ?_)
  refine OS.bEq (I.cl _ _) (fun _ => ?_)
  refine OS.bP (simt_Jx4a65c_size_8abf5 _ I) (fun _ _ _ I => ?_)
  try dsimp only
  refine OS.bP (simt_X11_within _ _ _ I) (fun _ _ _ I => ?_)
  try dsimp only
  refine OS.i (fun _ => ?_) (fun _ => ?_)
  · exact OS.ret (⟨rfl, I⟩)
  · refine OS.bEq (I.gR _ _ _) (fun v9 => ?_)
    refine OS.bEq (I.cl _ _) (fun _ => ?_)
    refine OS.bP (simt_Jx4a65c_get_915e3 _ _ I) (fun _ _ _ I => ?_)
    try dsimp only
    refine OS.bEq (I.cl _ _) (fun _ => ?_)
    exact OS.ret (⟨rfl, I⟩)
set_option maxRecDepth 100000 in
set_option maxHeartbeats 4000000 in
theorem simt_X2_changes_L2 {h0 : AH} (x0 : Nat) (x1 : Nat) (x2 : Nat) (a : Int32 × AH) (c : Int32 × CH) (r : (fun (a : Int32 × AH) (c : Int32 × CH) => a.1 = c.1 ∧ CK h0 c.2 a.2) a c) : OS (SR (fun (a : Int32 × AH) (c : Int32 × CH) => a.1 = c.1 ∧ CK h0 c.2 a.2) (fun (a : AH) (c : CH) => CK h0 c a)) (f_X2_changes_L2 x0 x1 x2 a) (t_X2_changes_L2 x0 x1 x2 c) := by
  obtain ⟨s0, hs⟩ := a
  obtain ⟨zs0, Cs⟩ := c
  obtain ⟨es0, I⟩ := r
  dsimp only at es0 I
  subst es0
  unfold f_X2_changes_L2 t_X2_changes_L2
  try dsimp only
  refine OS.bEq (I.gI _ _ _) (fun v1 => ?_)
  refine OS.i (fun _ => ?_) (fun _ => ?_)
  · exact OS.ret (SR.r (I))
  · refine OS.bEq (I.gR _ _ _) (fun v4 => ?_)
    refine OS.b (I.st _ _ _ _) (fun _ _ I => ?_)
    exact OS.ret (SR.l (⟨rfl, I⟩))
theorem bL_X2_changes_L2 {α β : Type} {R : α → β → Prop} {h0 : AH} (x0 : Nat) (x1 : Nat) (x2 : Nat) {n : Nat} {h : AH} {C : CH} {s0 : Int32} {k : (AH) → Option α} {l : (CH) → Option β} (I : CK h0 C h) (k0 : ∀ (h' : AH) (C' : CH), CK h0 C' h' → OS R (k (h')) (l (C'))) : OS R ((iter (f_X2_changes_L2 x0 x1 x2) n (s0, h)).bind k) ((iter (t_X2_changes_L2 x0 x1 x2) n (s0, C)).bind l) := by
  refine OS.b (OS.it (simt_X2_changes_L2 x0 x1 x2) n _ _ ⟨rfl, I⟩) (fun a c r => ?_)
  exact k0 a c r
set_option maxRecDepth 100000 in
set_option maxHeartbeats 4000000 in
theorem simt_X2_changes_L53_J96 {h0 h : AH} {C : CH} (x0 : Nat) (x1 : Nat) (x2 : Nat) (x3 : Int32) (y5 : Int32) (y6 : Int32) (z0 : Int32) (z1 : Int32) (I : CK h0 C h) : OS (SR (fun (a : Int32 × Int32 × AH) (c : Int32 × Int32 × CH) => a.1 = c.1 ∧ a.2.1 = c.2.1 ∧ CK h0 c.2.2 a.2.2) (fun (a : AH) (c : CH) => CK h0 c a)) (f_X2_changes_L53_J96 x0 x1 x2 x3 y5 y6 z0 z1 h) (t_X2_changes_L53_J96 x0 x1 x2 x3 y5 y6 z0 z1 C) := by
  unfold f_X2_changes_L53_J96 t_X2_changes_L53_J96
  refine OS.bEq (I.gR _ _ _) (fun v37 => ?_)
  refine OS.bEq (I.gR _ _ _) (fun v39 => ?_)
  refine OS.bEq (I.ld _ _ _) (fun v41 => ?_)
  refine OS.b (I.st _ _ _ _) (fun _ _ I => ?_)
  exact OS.ret (SR.l (⟨rfl, rfl, I⟩))
set_option maxRecDepth 100000 in
set_option maxHeartbeats 4000000 in
theorem simt_X2_changes_L53 {h0 : AH} (x0 : Nat) (x1 : Nat) (x2 : Nat) (x3 : Int32) (a : Int32 × Int32 × AH) (c : Int32 × Int32 × CH) (r : (fun (a : Int32 × Int32 × AH) (c : Int32 × Int32 × CH) => a.1 = c.1 ∧ a.2.1 = c.2.1 ∧ CK h0 c.2.2 a.2.2) a c) : OS (SR (fun (a : Int32 × Int32 × AH) (c : Int32 × Int32 × CH) => a.1 = c.1 ∧ a.2.1 = c.2.1 ∧ CK h0 c.2.2 a.2.2) (fun (a : AH) (c : CH) => CK h0 c a)) (f_X2_changes_L53 x0 x1 x2 x3 a) (t_X2_changes_L53 x0 x1 x2 x3 c) := by
  obtain ⟨s0, s1, hs⟩ := a
  obtain ⟨zs0, zs1, Cs⟩ := c
  obtain ⟨es0, es1, I⟩ := r
  dsimp only at es0 es1 I
  subst es0
  subst es1
  unfold f_X2_changes_L53 t_X2_changes_L53
  try dsimp only
  refine OS.bEq (I.gI _ _ _) (fun v21 => ?_)
  refine OS.i (fun _ => ?_) (fun _ => ?_)
  · exact OS.ret (SR.r (I))
  · refine OS.bEq (I.gR _ _ _) (fun v24 => ?_)
    refine OS.bEq (I.ld _ _ _) (fun v26 => ?_)
    refine OS.bEq (I.gR _ _ _) (fun v28 => ?_)
    refine OS.bEq (I.ld _ _ _) (fun v30 => ?_)
    refine OS.bEq (I.gR _ _ _) (fun v32 => ?_)
    refine OS.bEq (I.ld _ _ _) (fun v34 => ?_)
    refine OS.i (fun _ => ?_) (fun _ => ?_)
    · exact simt_X2_changes_L53_J96 _ _ _ _ _ _ _ _ I
    · exact simt_X2_changes_L53_J96 _ _ _ _ _ _ _ _ I
theorem bL_X2_changes_L53 {α β : Type} {R : α → β → Prop} {h0 : AH} (x0 : Nat) (x1 : Nat) (x2 : Nat) (x3 : Int32) {n : Nat} {h : AH} {C : CH} {s0 : Int32} {s1 : Int32} {k : (AH) → Option α} {l : (CH) → Option β} (I : CK h0 C h) (k0 : ∀ (h' : AH) (C' : CH), CK h0 C' h' → OS R (k (h')) (l (C'))) : OS R ((iter (f_X2_changes_L53 x0 x1 x2 x3) n (s0, s1, h)).bind k) ((iter (t_X2_changes_L53 x0 x1 x2 x3) n (s0, s1, C)).bind l) := by
  refine OS.b (OS.it (simt_X2_changes_L53 x0 x1 x2 x3) n _ _ ⟨rfl, rfl, I⟩) (fun a c r => ?_)
  exact k0 a c r
set_option maxRecDepth 100000 in
set_option maxHeartbeats 4000000 in
theorem simt_X2_changes_L25 {h0 : AH} (x0 : Nat) (x1 : Nat) (x2 : Nat) (a : Int32 × AH) (c : Int32 × CH) (r : (fun (a : Int32 × AH) (c : Int32 × CH) => a.1 = c.1 ∧ CK h0 c.2 a.2) a c) : OS (SR (fun (a : Int32 × AH) (c : Int32 × CH) => a.1 = c.1 ∧ CK h0 c.2 a.2) (fun (a : AH) (c : CH) => CK h0 c a)) (f_X2_changes_L25 x0 x1 x2 a) (t_X2_changes_L25 x0 x1 x2 c) := by
  obtain ⟨s0, hs⟩ := a
  obtain ⟨zs0, Cs⟩ := c
  obtain ⟨es0, I⟩ := r
  dsimp only at es0 I
  subst es0
  unfold f_X2_changes_L25 t_X2_changes_L25
  try dsimp only
  refine OS.bEq (I.gI _ _ _) (fun v10 => ?_)
  refine OS.i (fun _ => ?_) (fun _ => ?_)
  · exact OS.ret (SR.r (I))
  · refine OS.bEq (I.gR _ _ _) (fun v13 => ?_)
    refine OS.bEq (I.ld _ _ _) (fun v15 => ?_)
    refine OS.bEq (I.gR _ _ _) (fun v17 => ?_)
    refine OS.b (I.st _ _ _ _) (fun _ _ I => ?_)
    refine bL_X2_changes_L53 _ _ _ _ I (fun _ _ I => ?_)
    try dsimp only [Sum.elim_inl, Sum.elim_inr]
    exact OS.ret (SR.l (⟨rfl, I⟩))
theorem bL_X2_changes_L25 {α β : Type} {R : α → β → Prop} {h0 : AH} (x0 : Nat) (x1 : Nat) (x2 : Nat) {n : Nat} {h : AH} {C : CH} {s0 : Int32} {k : (AH) → Option α} {l : (CH) → Option β} (I : CK h0 C h) (k0 : ∀ (h' : AH) (C' : CH), CK h0 C' h' → OS R (k (h')) (l (C'))) : OS R ((iter (f_X2_changes_L25 x0 x1 x2) n (s0, h)).bind k) ((iter (t_X2_changes_L25 x0 x1 x2) n (s0, C)).bind l) := by
  refine OS.b (OS.it (simt_X2_changes_L25 x0 x1 x2) n _ _ ⟨rfl, I⟩) (fun a c r => ?_)
  exact k0 a c r
set_option maxRecDepth 100000 in
set_option maxHeartbeats 4000000 in
theorem simt_X2_changes {h0 h : AH} {C : CH} (a0 : Nat) (a1 : Nat) (a2 : Nat) (I : CK h0 C h) : OS (fun (a : Int32 × AH) (c : Int32 × CH) => a.1 = c.1 ∧ CK h0 c.2 a.2) (f_X2_changes a0 a1 a2 h) (t_X2_changes a0 a1 a2 C) := by
  unfold f_X2_changes t_X2_changes
  refine bL_X2_changes_L2 _ _ _ I (fun _ _ I => ?_)
  try dsimp only [Sum.elim_inl, Sum.elim_inr]
  refine bL_X2_changes_L25 _ _ _ I (fun _ _ I => ?_)
  try dsimp only [Sum.elim_inl, Sum.elim_inr]
  refine OS.bEq (I.gR _ _ _) (fun v49 => ?_)
  refine OS.bEq (I.gI _ _ _) (fun v51 => ?_)
  refine OS.bEq (I.ld _ _ _) (fun v53 => ?_)
  exact OS.ret (⟨rfl, I⟩)
set_option maxRecDepth 100000 in
set_option maxHeartbeats 4000000 in
theorem simt_X2_distance {h0 h : AH} {C : CH} (a0 : Nat) (a1 : Nat) (a2 : Nat) (I : CK h0 C h) : OS (fun (a : Int32 × AH) (c : Int32 × CH) => a.1 = c.1 ∧ CK h0 c.2 a.2) (f_X2_distance a0 a1 a2 h) (t_X2_distance a0 a1 a2 C) := by
  unfold f_X2_distance t_X2_distance
  refine OS.bEq (I.gR _ _ _) (fun v1 => ?_)
  refine OS.bEq (I.gR _ _ _) (fun v3 => ?_)
  refine OS.bEq (I.cl _ _) (fun _ => ?_)
  refine OS.bP (simt_X2_changes _ _ _ I) (fun _ _ _ I => ?_)
  try dsimp only
  refine OS.bEq (I.gR _ _ _) (fun v8 => ?_)
  refine OS.bEq (I.gR _ _ _) (fun v10 => ?_)
  refine OS.bEq (I.cl _ _) (fun _ => ?_)
  refine OS.bP (simt_X2_changes _ _ _ I) (fun _ _ _ I => ?_)
  try dsimp only
  exact OS.ret (⟨rfl, I⟩)
set_option maxRecDepth 100000 in
set_option maxHeartbeats 4000000 in
theorem simt_X11_apart {h0 h : AH} {C : CH} (a0 : Nat) (a1 : Int32) (a2 : Int32) (I : CK h0 C h) : OS (fun (a : Int32 × AH) (c : Int32 × CH) => a.1 = c.1 ∧ CK h0 c.2 a.2) (f_X11_apart a0 a1 a2 h) (t_X11_apart a0 a1 a2 C) := by
  unfold f_X11_apart t_X11_apart
  refine OS.bEq (I.cl _ _) (fun _ => ?_)
  refine OS.bP (simt_X11_songOf _ _ I) (fun _ _ _ I => ?_)
  try dsimp only
  refine OS.bEq (I.cl _ _) (fun _ => ?_)
  refine OS.bP (simt_X11_songOf _ _ I) (fun _ _ _ I => ?_)
  try dsimp only
  refine OS.e _ ?_ (fun a8 => ?_)
  · exact OS.ret (⟨rfl, I⟩)
  · refine OS.e _ ?_ (fun a10 => ?_)
    · exact OS.ret (⟨rfl, I⟩)
    · refine OS.bEq (I.gR _ _ _) (fun v11 => ?_)
      refine OS.bEq (I.cl _ _) (fun _ => ?_)
      refine OS.bP (simt_X2_distance _ _ _ I) (fun _ _ _ I => ?_)
      try dsimp only
      exact OS.ret (⟨rfl, I⟩)
set_option maxRecDepth 100000 in
set_option maxHeartbeats 4000000 in
theorem simt_X6_add {h0 h : AH} {C : CH} (a0 : Nat) (a1 : Int32) (I : CK h0 C h) : OS (fun (a : Int32 × AH) (c : Int32 × CH) => a.1 = c.1 ∧ CK h0 c.2 a.2) (f_X6_add a0 a1 h) (t_X6_add a0 a1 C) := by
  unfold f_X6_add t_X6_add
  refine OS.bEq (I.gI _ _ _) (fun v1 => ?_)
  refine OS.bEq (I.gR _ _ _) (fun v3 => ?_)
  refine OS.bEq (I.len _) (fun v5 => ?_)
  refine OS.i (fun _ => ?_) (fun _ => ?_)
  · refine OS.bEq (I.gR _ _ _) (fun v8 => ?_)
    refine OS.bEq (I.gI _ _ _) (fun v10 => ?_)
    refine OS.b (I.st _ _ _ _) (fun _ _ I => ?_)
    refine OS.bEq (I.gI _ _ _) (fun v14 => ?_)
    refine OS.b (I.pF _ _ _ _) (fun _ _ I => ?_)
    exact OS.ret (⟨rfl, I⟩)
  · exact OS.ret (⟨rfl, I⟩)
set_option maxRecDepth 100000 in
set_option maxHeartbeats 4000000 in
theorem simt_X11_beat {h0 h : AH} {C : CH} (a0 : Nat) (a1 : Int32) (I : CK h0 C h) : OS (fun (a : Int32 × AH) (c : Int32 × CH) => a.1 = c.1 ∧ CK h0 c.2 a.2) (f_X11_beat a0 a1 h) (t_X11_beat a0 a1 C) := by
  unfold f_X11_beat t_X11_beat
  refine OS.i (fun _ => ?_) (fun _ => ?_)
  · exact OS.ret (⟨rfl, I⟩)
  · refine OS.i (fun _ => ?_) (fun _ => ?_)
    · refine OS.bEq (I.gR _ _ _) (fun v3 => ?_)
      refine OS.bEq (I.cl _ _) (fun _ => ?_)
      refine OS.bP (simt_X6_add _ _ I) (fun _ _ _ I => ?_)
      try dsimp only
      refine OS.i (fun _ => ?_) (fun _ => ?_)
      · exact OS.ret (⟨rfl, I⟩)
      · refine OS.bEq (I.gR _ _ _) (fun v9 => ?_)
        refine OS.bEq (I.gI _ _ _) (fun v11 => ?_)
        exact OS.ret (⟨rfl, I⟩)
    · exact OS.ret (⟨rfl, I⟩)
set_option maxRecDepth 100000 in
set_option maxHeartbeats 4000000 in
theorem simt_X7_sungAt {h0 h : AH} {C : CH} (a0 : Nat) (a1 : Int32) (I : CK h0 C h) : OS (fun (a : Int32 × AH) (c : Int32 × CH) => a.1 = c.1 ∧ CK h0 c.2 a.2) (f_X7_sungAt a0 a1 h) (t_X7_sungAt a0 a1 C) := by
  unfold f_X7_sungAt t_X7_sungAt
  refine OS.bEq (I.gR _ _ _) (fun v1 => ?_)
  refine OS.bEq (I.gI _ _ _) (fun v3 => ?_)
  refine OS.bEq (I.gR _ _ _) (fun v5 => ?_)
  refine OS.bEq (I.gI _ _ _) (fun v7 => ?_)
  refine OS.i (fun _ => ?_) (fun _ => ?_)
  · exact OS.ret (⟨rfl, I⟩)
  · refine OS.i (fun _ => ?_) (fun _ => ?_)
    · refine OS.bEq (OS.rfl' _) (fun _ => ?_)
      refine OS.bEq (I.gR _ _ _) (fun v12 => ?_)
      refine OS.bEq (I.gI _ _ _) (fun v14 => ?_)
      refine OS.i (fun _ => ?_) (fun _ => ?_)
      · refine OS.bEq (I.gR _ _ _) (fun v17 => ?_)
        refine OS.bEq (I.gR _ _ _) (fun v19 => ?_)
        refine OS.bEq (I.gR _ _ _) (fun v21 => ?_)
        refine OS.bEq (I.gI _ _ _) (fun v23 => ?_)
        refine OS.bEq (I.ld _ _ _) (fun v25 => ?_)
        exact OS.ret (⟨rfl, I⟩)
      · refine OS.bEq (I.gR _ _ _) (fun v27 => ?_)
        refine OS.bEq (I.gR _ _ _) (fun v29 => ?_)
        refine OS.bEq (I.ld _ _ _) (fun v31 => ?_)
        exact OS.ret (⟨rfl, I⟩)
    · exact OS.ret (⟨rfl, I⟩)
set_option maxRecDepth 100000 in
set_option maxHeartbeats 4000000 in
theorem simt_X11_beatAt {h0 h : AH} {C : CH} (a0 : Nat) (a1 : Int32) (a2 : Int32) (I : CK h0 C h) : OS (fun (a : Int32 × AH) (c : Int32 × CH) => a.1 = c.1 ∧ CK h0 c.2 a.2) (f_X11_beatAt a0 a1 a2 h) (t_X11_beatAt a0 a1 a2 C) := by
  unfold f_X11_beatAt t_X11_beatAt
  refine OS.bEq (I.cl _ _) (fun _ => ?_)
  refine OS.bP (simt_X11_songOf _ _ I) (fun _ _ _ I => ?_)
  try dsimp only
  refine OS.e _ ?_ (fun a5 => ?_)
  · exact OS.ret (⟨rfl, I⟩)
  · refine OS.bP (simt_X11_within _ _ _ I) (fun _ _ _ I => ?_)
    try dsimp only
    refine OS.i (fun _ => ?_) (fun _ => ?_)
    · exact OS.ret (⟨rfl, I⟩)
    · refine OS.bEq (I.cl _ _) (fun _ => ?_)
      refine OS.bP (simt_X7_sungAt _ _ I) (fun _ _ _ I => ?_)
      try dsimp only
      exact OS.ret (⟨rfl, I⟩)
set_option maxRecDepth 100000 in
set_option maxHeartbeats 4000000 in
theorem simt_X11_copy_L2 {h0 : AH} (x0 : Nat) (x1 : Nat) (a : Int32 × AH) (c : Int32 × CH) (r : (fun (a : Int32 × AH) (c : Int32 × CH) => a.1 = c.1 ∧ CK h0 c.2 a.2) a c) : OS (SR (fun (a : Int32 × AH) (c : Int32 × CH) => a.1 = c.1 ∧ CK h0 c.2 a.2) (fun (a : AH) (c : CH) => CK h0 c a)) (f_X11_copy_L2 x0 x1 a) (t_X11_copy_L2 x0 x1 c) := by
  obtain ⟨s0, hs⟩ := a
  obtain ⟨zs0, Cs⟩ := c
  obtain ⟨es0, I⟩ := r
  dsimp only at es0 I
  subst es0
  unfold f_X11_copy_L2 t_X11_copy_L2
  try dsimp only
  refine OS.bEq (I.len _) (fun v1 => ?_)
  refine OS.i (fun _ => ?_) (fun _ => ?_)
  · exact OS.ret (SR.r (I))
  · refine OS.bEq (I.len _) (fun v4 => ?_)
    refine OS.i (fun _ => ?_) (fun _ => ?_)
    · exact OS.ret (SR.r (I))
    · refine OS.bEq (I.ld _ _ _) (fun v7 => ?_)
      refine OS.b (I.st _ _ _ _) (fun _ _ I => ?_)
      exact OS.ret (SR.l (⟨rfl, I⟩))
theorem bL_X11_copy_L2 {α β : Type} {R : α → β → Prop} {h0 : AH} (x0 : Nat) (x1 : Nat) {n : Nat} {h : AH} {C : CH} {s0 : Int32} {k : (AH) → Option α} {l : (CH) → Option β} (I : CK h0 C h) (k0 : ∀ (h' : AH) (C' : CH), CK h0 C' h' → OS R (k (h')) (l (C'))) : OS R ((iter (f_X11_copy_L2 x0 x1) n (s0, h)).bind k) ((iter (t_X11_copy_L2 x0 x1) n (s0, C)).bind l) := by
  refine OS.b (OS.it (simt_X11_copy_L2 x0 x1) n _ _ ⟨rfl, I⟩) (fun a c r => ?_)
  exact k0 a c r
set_option maxRecDepth 100000 in
set_option maxHeartbeats 4000000 in
theorem simt_X11_copy {h0 h : AH} {C : CH} (a0 : Nat) (a1 : Nat) (I : CK h0 C h) : OS (fun (a : AH) (c : CH) => CK h0 c a) (f_X11_copy a0 a1 h) (t_X11_copy a0 a1 C) := by
  unfold f_X11_copy t_X11_copy
  refine bL_X11_copy_L2 _ _ I (fun _ _ I => ?_)
  try dsimp only [Sum.elim_inl, Sum.elim_inr]
  exact OS.ret (I)
set_option maxRecDepth 100000 in
set_option maxHeartbeats 4000000 in
theorem simt_X1_beginAsTold {h0 h : AH} {C : CH} (a0 : Nat) (a1 : Nat) (I : CK h0 C h) : OS (fun (a : AH) (c : CH) => CK h0 c a) (f_X1_beginAsTold a0 a1 h) (t_X1_beginAsTold a0 a1 C) := by
  unfold f_X1_beginAsTold t_X1_beginAsTold
  refine OS.bEq (I.gR _ _ _) (fun v1 => ?_)
  refine OS.bEq (I.gR _ _ _) (fun v3 => ?_)
  refine OS.bV (simt_X11_copy _ _ I) (fun _ _ I => ?_)
  refine OS.bEq (I.gR _ _ _) (fun v7 => ?_)
  refine OS.bEq (I.gR _ _ _) (fun v9 => ?_)
  refine OS.bV (simt_X11_copy _ _ I) (fun _ _ I => ?_)
  refine OS.bEq (I.gI _ _ _) (fun v13 => ?_)
  refine OS.b (I.pF _ _ _ _) (fun _ _ I => ?_)
  refine OS.bEq (I.gI _ _ _) (fun v17 => ?_)
  refine OS.b (I.pF _ _ _ _) (fun _ _ I => ?_)
  exact OS.ret (I)
set_option maxRecDepth 100000 in
set_option maxHeartbeats 4000000 in
theorem simt_X11_isIn {h0 h : AH} {C : CH} (a0 : Int32) (a1 : Int32) (I : CK h0 C h) : OS (fun (a : Int32 × AH) (c : Int32 × CH) => a.1 = c.1 ∧ CK h0 c.2 a.2) (f_X11_isIn a0 a1 h) (t_X11_isIn a0 a1 C) := by
  unfold f_X11_isIn t_X11_isIn
  refine OS.i (fun _ => ?_) (fun _ => ?_)
  · exact OS.ret (⟨rfl, I⟩)
  · exact OS.ret (⟨rfl, I⟩)
set_option maxRecDepth 100000 in
set_option maxHeartbeats 4000000 in
theorem simt_X1_gatherByLate_L2 {h0 : AH} (x0 : Nat) (x1 : Int32) (a : Int32 × AH) (c : Int32 × CH) (r : (fun (a : Int32 × AH) (c : Int32 × CH) => a.1 = c.1 ∧ CK h0 c.2 a.2) a c) : OS (SR (fun (a : Int32 × AH) (c : Int32 × CH) => a.1 = c.1 ∧ CK h0 c.2 a.2) (fun (a : AH) (c : CH) => CK h0 c a)) (f_X1_gatherByLate_L2 x0 x1 a) (t_X1_gatherByLate_L2 x0 x1 c) := by
  obtain ⟨s0, hs⟩ := a
  obtain ⟨zs0, Cs⟩ := c
  obtain ⟨es0, I⟩ := r
  dsimp only at es0 I
  subst es0
  unfold f_X1_gatherByLate_L2 t_X1_gatherByLate_L2
  try dsimp only
  refine OS.i (fun _ => ?_) (fun _ => ?_)
  · exact OS.ret (SR.r (I))
  · refine OS.bEq (I.gR _ _ _) (fun v2 => ?_)
    refine OS.b (I.st _ _ _ _) (fun _ _ I => ?_)
    exact OS.ret (SR.l (⟨rfl, I⟩))
theorem bL_X1_gatherByLate_L2 {α β : Type} {R : α → β → Prop} {h0 : AH} (x0 : Nat) (x1 : Int32) {n : Nat} {h : AH} {C : CH} {s0 : Int32} {k : (AH) → Option α} {l : (CH) → Option β} (I : CK h0 C h) (k0 : ∀ (h' : AH) (C' : CH), CK h0 C' h' → OS R (k (h')) (l (C'))) : OS R ((iter (f_X1_gatherByLate_L2 x0 x1) n (s0, h)).bind k) ((iter (t_X1_gatherByLate_L2 x0 x1) n (s0, C)).bind l) := by
  refine OS.b (OS.it (simt_X1_gatherByLate_L2 x0 x1) n _ _ ⟨rfl, I⟩) (fun a c r => ?_)
  exact k0 a c r
set_option maxRecDepth 100000 in
set_option maxHeartbeats 4000000 in
theorem simt_X1_gatherByLate_L22 {h0 : AH} (x0 : Nat) (x1 : Int32) (a : Int32 × AH) (c : Int32 × CH) (r : (fun (a : Int32 × AH) (c : Int32 × CH) => a.1 = c.1 ∧ CK h0 c.2 a.2) a c) : OS (SR (fun (a : Int32 × AH) (c : Int32 × CH) => a.1 = c.1 ∧ CK h0 c.2 a.2) (fun (a : AH) (c : CH) => CK h0 c a)) (f_X1_gatherByLate_L22 x0 x1 a) (t_X1_gatherByLate_L22 x0 x1 c) := by
  obtain ⟨s0, hs⟩ := a
  obtain ⟨zs0, Cs⟩ := c
  obtain ⟨es0, I⟩ := r
  dsimp only at es0 I
  subst es0
  unfold f_X1_gatherByLate_L22 t_X1_gatherByLate_L22
  try dsimp only
  refine OS.i (fun _ => ?_) (fun _ => ?_)
  · exact OS.ret (SR.r (I))
  · refine OS.bEq (I.gI _ _ _) (fun v9 => ?_)
    refine OS.bP (simt_X11_isIn _ _ I) (fun _ _ _ I => ?_)
    try dsimp only
    refine OS.i (fun _ => ?_) (fun _ => ?_)
    · exact OS.ret (SR.l (⟨rfl, I⟩))
    · refine OS.bEq (I.gR _ _ _) (fun v14 => ?_)
      refine OS.bEq (I.ld _ _ _) (fun v16 => ?_)
      refine OS.bP (simt_X11_within _ _ _ I) (fun _ _ _ I => ?_)
      try dsimp only
      refine OS.i (fun _ => ?_) (fun _ => ?_)
      · exact OS.ret (SR.l (⟨rfl, I⟩))
      · refine OS.bEq (I.gR _ _ _) (fun v21 => ?_)
        refine OS.bEq (I.gR _ _ _) (fun v23 => ?_)
        refine OS.bEq (I.ld _ _ _) (fun v25 => ?_)
        refine OS.bEq (I.ld _ _ _) (fun v27 => ?_)
        refine OS.b (I.st _ _ _ _) (fun _ _ I => ?_)
        exact OS.ret (SR.l (⟨rfl, I⟩))
theorem bL_X1_gatherByLate_L22 {α β : Type} {R : α → β → Prop} {h0 : AH} (x0 : Nat) (x1 : Int32) {n : Nat} {h : AH} {C : CH} {s0 : Int32} {k : (AH) → Option α} {l : (CH) → Option β} (I : CK h0 C h) (k0 : ∀ (h' : AH) (C' : CH), CK h0 C' h' → OS R (k (h')) (l (C'))) : OS R ((iter (f_X1_gatherByLate_L22 x0 x1) n (s0, h)).bind k) ((iter (t_X1_gatherByLate_L22 x0 x1) n (s0, C)).bind l) := by
  refine OS.b (OS.it (simt_X1_gatherByLate_L22 x0 x1) n _ _ ⟨rfl, I⟩) (fun a c r => ?_)
  exact k0 a c r
set_option maxRecDepth 100000 in
set_option maxHeartbeats 4000000 in
theorem simt_X1_gatherByLate {h0 h : AH} {C : CH} (a0 : Nat) (a1 : Int32) (I : CK h0 C h) : OS (fun (a : AH) (c : CH) => CK h0 c a) (f_X1_gatherByLate a0 a1 h) (t_X1_gatherByLate a0 a1 C) := by
  unfold f_X1_gatherByLate t_X1_gatherByLate
  refine bL_X1_gatherByLate_L2 _ _ I (fun _ _ I => ?_)
  try dsimp only [Sum.elim_inl, Sum.elim_inr]
  refine bL_X1_gatherByLate_L22 _ _ I (fun _ _ I => ?_)
  try dsimp only [Sum.elim_inl, Sum.elim_inr]
  exact OS.ret (I)
set_option maxRecDepth 100000 in
set_option maxHeartbeats 4000000 in
theorem simt_X1_pullersAt_L5 {h0 : AH} (x0 : Nat) (x1 : Nat) (x2 : Int32) (a : Int32 × Int32 × AH) (c : Int32 × Int32 × CH) (r : (fun (a : Int32 × Int32 × AH) (c : Int32 × Int32 × CH) => a.1 = c.1 ∧ a.2.1 = c.2.1 ∧ CK h0 c.2.2 a.2.2) a c) : OS (SR (fun (a : Int32 × Int32 × AH) (c : Int32 × Int32 × CH) => a.1 = c.1 ∧ a.2.1 = c.2.1 ∧ CK h0 c.2.2 a.2.2) (fun (a : Int32 × AH) (c : Int32 × CH) => a.1 = c.1 ∧ CK h0 c.2 a.2)) (f_X1_pullersAt_L5 x0 x1 x2 a) (t_X1_pullersAt_L5 x0 x1 x2 c) := by
  obtain ⟨s0, s1, hs⟩ := a
  obtain ⟨zs0, zs1, Cs⟩ := c
  obtain ⟨es0, es1, I⟩ := r
  dsimp only at es0 es1 I
  subst es0
  subst es1
  unfold f_X1_pullersAt_L5 t_X1_pullersAt_L5
  try dsimp only
  refine OS.i (fun _ => ?_) (fun _ => ?_)
  · exact OS.ret (SR.r (⟨rfl, I⟩))
  · refine OS.i (fun _ => ?_) (fun _ => ?_)
    · exact OS.ret (SR.r (⟨rfl, I⟩))
    · refine OS.bEq (I.gR _ _ _) (fun v3 => ?_)
      refine OS.bEq (I.ld _ _ _) (fun v5 => ?_)
      refine OS.i (fun _ => ?_) (fun _ => ?_)
      · exact OS.ret (SR.l (⟨rfl, rfl, I⟩))
      · refine OS.bEq (I.cl _ _) (fun _ => ?_)
        refine OS.bP (simt_X7_sungAt _ _ I) (fun _ _ _ I => ?_)
        try dsimp only
        refine OS.i (fun _ => ?_) (fun _ => ?_)
        · refine OS.bEq (I.gR _ _ _) (fun v12 => ?_)
          refine OS.bEq (I.ld _ _ _) (fun v14 => ?_)
          exact OS.ret (SR.l (⟨rfl, rfl, I⟩))
        · exact OS.ret (SR.l (⟨rfl, rfl, I⟩))
theorem bL_X1_pullersAt_L5 {α β : Type} {R : α → β → Prop} {h0 : AH} (x0 : Nat) (x1 : Nat) (x2 : Int32) {n : Nat} {h : AH} {C : CH} {s0 : Int32} {s1 : Int32} {k : (Int32 × AH) → Option α} {l : (Int32 × CH) → Option β} (I : CK h0 C h) (k0 : ∀ (w0 : Int32) (h' : AH) (C' : CH), CK h0 C' h' → OS R (k ((w0, h'))) (l ((w0, C')))) : OS R ((iter (f_X1_pullersAt_L5 x0 x1 x2) n (s0, s1, h)).bind k) ((iter (t_X1_pullersAt_L5 x0 x1 x2) n (s0, s1, C)).bind l) := by
  refine OS.b (OS.it (simt_X1_pullersAt_L5 x0 x1 x2) n _ _ ⟨rfl, rfl, I⟩) (fun a c r => ?_)
  obtain ⟨x0, h'⟩ := a
  obtain ⟨zx0, C'⟩ := c
  obtain ⟨ex0, I2⟩ := r
  dsimp only at ex0 I2
  subst ex0
  exact k0 x0 h' C' I2
set_option maxRecDepth 100000 in
set_option maxHeartbeats 4000000 in
theorem simt_X1_pullersAt {h0 h : AH} {C : CH} (a0 : Nat) (a1 : Nat) (a2 : Int32) (I : CK h0 C h) : OS (fun (a : Int32 × AH) (c : Int32 × CH) => a.1 = c.1 ∧ CK h0 c.2 a.2) (f_X1_pullersAt a0 a1 a2 h) (t_X1_pullersAt a0 a1 a2 C) := by
  unfold f_X1_pullersAt t_X1_pullersAt
  refine bL_X1_pullersAt_L5 _ _ _ I (fun _ _ _ I => ?_)
  try dsimp only [Sum.elim_inl, Sum.elim_inr]
  exact OS.ret (⟨rfl, I⟩)
set_option maxRecDepth 100000 in
set_option maxHeartbeats 4000000 in
theorem simt_X1_comesBack_J15 {h0 h : AH} {C : CH} (a0 : Nat) (a1 : Nat) (a2 : Int32) (a3 : Int32) (I : CK h0 C h) : OS (fun (a : Int32 × AH) (c : Int32 × CH) => a.1 = c.1 ∧ CK h0 c.2 a.2) (f_X1_comesBack_J15 a0 a1 a2 a3 h) (t_X1_comesBack_J15 a0 a1 a2 a3 C) := by
  unfold f_X1_comesBack_J15 t_X1_comesBack_J15
  refine OS.bEq (I.gR _ _ _) (fun v2 => ?_)
  refine OS.bEq (I.ld _ _ _) (fun v4 => ?_)
  exact OS.ret (⟨rfl, I⟩)
set_option maxRecDepth 100000 in
set_option maxHeartbeats 4000000 in
theorem simt_X1_comesBack {h0 h : AH} {C : CH} (a0 : Nat) (a1 : Nat) (a2 : Int32) (a3 : Int32) (I : CK h0 C h) : OS (fun (a : Int32 × AH) (c : Int32 × CH) => a.1 = c.1 ∧ CK h0 c.2 a.2) (f_X1_comesBack a0 a1 a2 a3 h) (t_X1_comesBack a0 a1 a2 a3 C) := by
  unfold f_X1_comesBack t_X1_comesBack
  refine OS.i (fun _ => ?_) (fun _ => ?_)
  · exact simt_X1_comesBack_J15 _ _ _ _ I
  · refine OS.bEq (I.gI _ _ _) (fun v6 => ?_)
    refine OS.bP (simt_X11_isIn _ _ I) (fun _ _ _ I => ?_)
    try dsimp only
    refine OS.i (fun _ => ?_) (fun _ => ?_)
    · exact simt_X1_comesBack_J15 _ _ _ _ I
    · refine OS.i (fun _ => ?_) (fun _ => ?_)
      · refine OS.bEq (I.gR _ _ _) (fun v12 => ?_)
        refine OS.bEq (I.ld _ _ _) (fun v14 => ?_)
        exact OS.ret (⟨rfl, I⟩)
      · exact OS.ret (⟨rfl, I⟩)
set_option maxRecDepth 100000 in
set_option maxHeartbeats 4000000 in
theorem simt_X1_pull_L6 {h0 : AH} (x0 : Nat) (x1 : Nat) (x2 : Int32) (x3 : Int32) (a : Int32 × Int32 × AH) (c : Int32 × Int32 × CH) (r : (fun (a : Int32 × Int32 × AH) (c : Int32 × Int32 × CH) => a.1 = c.1 ∧ a.2.1 = c.2.1 ∧ CK h0 c.2.2 a.2.2) a c) : OS (SR (fun (a : Int32 × Int32 × AH) (c : Int32 × Int32 × CH) => a.1 = c.1 ∧ a.2.1 = c.2.1 ∧ CK h0 c.2.2 a.2.2) (fun (a : Int32 × AH) (c : Int32 × CH) => a.1 = c.1 ∧ CK h0 c.2 a.2)) (f_X1_pull_L6 x0 x1 x2 x3 a) (t_X1_pull_L6 x0 x1 x2 x3 c) := by
  obtain ⟨s0, s1, hs⟩ := a
  obtain ⟨zs0, zs1, Cs⟩ := c
  obtain ⟨es0, es1, I⟩ := r
  dsimp only at es0 es1 I
  subst es0
  subst es1
  unfold f_X1_pull_L6 t_X1_pull_L6
  try dsimp only
  refine OS.bEq (I.gI _ _ _) (fun v1 => ?_)
  refine OS.i (fun _ => ?_) (fun _ => ?_)
  · exact OS.ret (SR.r (⟨rfl, I⟩))
  · refine OS.bEq (I.gR _ _ _) (fun v4 => ?_)
    refine OS.bEq (I.ld _ _ _) (fun v6 => ?_)
    refine OS.bP (simt_X11_isIn _ _ I) (fun _ _ _ I => ?_)
    try dsimp only
    refine OS.i (fun _ => ?_) (fun _ => ?_)
    · refine OS.bEq (I.gR _ _ _) (fun v11 => ?_)
      refine OS.bEq (I.ld _ _ _) (fun v13 => ?_)
      refine OS.i (fun _ => ?_) (fun _ => ?_)
      · exact OS.ret (SR.l (⟨rfl, rfl, I⟩))
      · refine OS.bEq (I.gR _ _ _) (fun v16 => ?_)
        refine OS.bEq (I.gR _ _ _) (fun v18 => ?_)
        refine OS.bEq (I.ld _ _ _) (fun v20 => ?_)
        refine OS.bEq (I.cl _ _) (fun _ => ?_)
        refine OS.bP (simt_X1_comesBack _ _ _ _ I) (fun _ _ _ I => ?_)
        try dsimp only
        refine OS.b (I.st _ _ _ _) (fun _ _ I => ?_)
        exact OS.ret (SR.l (⟨rfl, rfl, I⟩))
    · refine OS.bEq (I.gR _ _ _) (fun v27 => ?_)
      refine OS.bEq (I.gR _ _ _) (fun v29 => ?_)
      refine OS.bEq (I.ld _ _ _) (fun v31 => ?_)
      refine OS.b (I.st _ _ _ _) (fun _ _ I => ?_)
      exact OS.ret (SR.l (⟨rfl, rfl, I⟩))
theorem bL_X1_pull_L6 {α β : Type} {R : α → β → Prop} {h0 : AH} (x0 : Nat) (x1 : Nat) (x2 : Int32) (x3 : Int32) {n : Nat} {h : AH} {C : CH} {s0 : Int32} {s1 : Int32} {k : (Int32 × AH) → Option α} {l : (Int32 × CH) → Option β} (I : CK h0 C h) (k0 : ∀ (w0 : Int32) (h' : AH) (C' : CH), CK h0 C' h' → OS R (k ((w0, h'))) (l ((w0, C')))) : OS R ((iter (f_X1_pull_L6 x0 x1 x2 x3) n (s0, s1, h)).bind k) ((iter (t_X1_pull_L6 x0 x1 x2 x3) n (s0, s1, C)).bind l) := by
  refine OS.b (OS.it (simt_X1_pull_L6 x0 x1 x2 x3) n _ _ ⟨rfl, rfl, I⟩) (fun a c r => ?_)
  obtain ⟨x0, h'⟩ := a
  obtain ⟨zx0, C'⟩ := c
  obtain ⟨ex0, I2⟩ := r
  dsimp only at ex0 I2
  subst ex0
  exact k0 x0 h' C' I2
set_option maxRecDepth 100000 in
set_option maxHeartbeats 4000000 in
theorem simt_X1_pull {h0 h : AH} {C : CH} (a0 : Nat) (a1 : Nat) (a2 : Int32) (a3 : Int32) (I : CK h0 C h) : OS (fun (a : Int32 × AH) (c : Int32 × CH) => a.1 = c.1 ∧ CK h0 c.2 a.2) (f_X1_pull a0 a1 a2 a3 h) (t_X1_pull a0 a1 a2 a3 C) := by
  unfold f_X1_pull t_X1_pull
  refine bL_X1_pull_L6 _ _ _ _ I (fun _ _ _ I => ?_)
  try dsimp only [Sum.elim_inl, Sum.elim_inr]
  exact OS.ret (⟨rfl, I⟩)
set_option maxRecDepth 100000 in
set_option maxHeartbeats 4000000 in
theorem simt_X8_wonBehind {h0 h : AH} {C : CH} (a0 : Nat) (a1 : Int32) (a2 : Int32) (I : CK h0 C h) : OS (fun (a : Int32 × AH) (c : Int32 × CH) => a.1 = c.1 ∧ CK h0 c.2 a.2) (f_X8_wonBehind a0 a1 a2 h) (t_X8_wonBehind a0 a1 a2 C) := by
  unfold f_X8_wonBehind t_X8_wonBehind
  refine OS.bEq (I.gI _ _ _) (fun v1 => ?_)
  refine OS.i (fun _ => ?_) (fun _ => ?_)
  · refine OS.bEq (I.gI _ _ _) (fun v4 => ?_)
    exact OS.ret (⟨rfl, I⟩)
  · refine OS.bEq (I.gI _ _ _) (fun v6 => ?_)
    exact OS.ret (⟨rfl, I⟩)
set_option maxRecDepth 100000 in
set_option maxHeartbeats 4000000 in
theorem simt_X1_isBelowFloor_L11 {h0 : AH} (x0 : Nat) (x1 : Int32) (a : Int32 × AH) (c : Int32 × CH) (r : (fun (a : Int32 × AH) (c : Int32 × CH) => a.1 = c.1 ∧ CK h0 c.2 a.2) a c) : OS (SR (fun (a : Int32 × AH) (c : Int32 × CH) => a.1 = c.1 ∧ CK h0 c.2 a.2) (SR (fun (a : AH) (c : CH) => CK h0 c a) (fun (a : AH) (c : CH) => CK h0 c a))) (f_X1_isBelowFloor_L11 x0 x1 a) (t_X1_isBelowFloor_L11 x0 x1 c) := by
  obtain ⟨s0, hs⟩ := a
  obtain ⟨zs0, Cs⟩ := c
  obtain ⟨es0, I⟩ := r
  dsimp only at es0 I
  subst es0
  unfold f_X1_isBelowFloor_L11 t_X1_isBelowFloor_L11
  try dsimp only
  refine OS.i (fun _ => ?_) (fun _ => ?_)
  · exact OS.ret (SR.r (SR.l (I)))
  · refine OS.bEq (I.gI _ _ _) (fun v5 => ?_)
    refine OS.bP (simt_X11_isIn _ _ I) (fun _ _ _ I => ?_)
    try dsimp only
    refine OS.i (fun _ => ?_) (fun _ => ?_)
    · exact OS.ret (SR.l (⟨rfl, I⟩))
    · refine OS.bEq (I.gR _ _ _) (fun v10 => ?_)
      refine OS.bEq (I.ld _ _ _) (fun v12 => ?_)
      refine OS.bEq (I.gI _ _ _) (fun v14 => ?_)
      refine OS.i (fun _ => ?_) (fun _ => ?_)
      · exact OS.ret (SR.l (⟨rfl, I⟩))
      · exact OS.ret (SR.r (SR.r (I)))
theorem bL_X1_isBelowFloor_L11 {α β : Type} {R : α → β → Prop} {h0 : AH} (x0 : Nat) (x1 : Int32) {n : Nat} {h : AH} {C : CH} {s0 : Int32} {k : (AH) ⊕ (AH) → Option α} {l : (CH) ⊕ (CH) → Option β} (I : CK h0 C h) (k0 : ∀ (h' : AH) (C' : CH), CK h0 C' h' → OS R (k (.inl (h'))) (l (.inl (C')))) (k1 : ∀ (h' : AH) (C' : CH), CK h0 C' h' → OS R (k (.inr (h'))) (l (.inr (C')))) : OS R ((iter (f_X1_isBelowFloor_L11 x0 x1) n (s0, h)).bind k) ((iter (t_X1_isBelowFloor_L11 x0 x1) n (s0, C)).bind l) := by
  refine OS.b (OS.it (simt_X1_isBelowFloor_L11 x0 x1) n _ _ ⟨rfl, I⟩) (fun a c r => ?_)
  cases a with
  | inl a0 =>
    cases c with
    | inl c0 =>
      exact k0 a0 c0 r
    | inr d0 => exact r.elim
  | inr b0 =>
    cases c with
    | inl c0 => exact r.elim
    | inr d0 =>
      exact k1 b0 d0 r
set_option maxRecDepth 100000 in
set_option maxHeartbeats 4000000 in
theorem simt_X1_isBelowFloor {h0 h : AH} {C : CH} (a0 : Nat) (a1 : Int32) (I : CK h0 C h) : OS (fun (a : Int32 × AH) (c : Int32 × CH) => a.1 = c.1 ∧ CK h0 c.2 a.2) (f_X1_isBelowFloor a0 a1 h) (t_X1_isBelowFloor a0 a1 C) := by
  unfold f_X1_isBelowFloor t_X1_isBelowFloor
  refine OS.bEq (I.gI _ _ _) (fun v1 => ?_)
  refine OS.i (fun _ => ?_) (fun _ => ?_)
  · refine bL_X1_isBelowFloor_L11 _ _ I (fun _ _ I => ?_) (fun _ _ I => ?_)
    · try dsimp only [Sum.elim_inl, Sum.elim_inr]
      exact OS.ret (⟨rfl, I⟩)
    · try dsimp only [Sum.elim_inl, Sum.elim_inr]
      exact OS.ret (⟨rfl, I⟩)
  · exact OS.ret (⟨rfl, I⟩)
set_option maxRecDepth 100000 in
set_option maxHeartbeats 4000000 in
theorem simt_X1_go_L19 {h0 : AH} (x0 : Nat) (x1 : Nat) (x2 : Nat) (x3 : Nat) (x4 : Int32) (a : Int32 × Int32 × AH) (c : Int32 × Int32 × CH) (r : (fun (a : Int32 × Int32 × AH) (c : Int32 × Int32 × CH) => a.1 = c.1 ∧ a.2.1 = c.2.1 ∧ CK h0 c.2.2 a.2.2) a c) : OS (SR (fun (a : Int32 × Int32 × AH) (c : Int32 × Int32 × CH) => a.1 = c.1 ∧ a.2.1 = c.2.1 ∧ CK h0 c.2.2 a.2.2) (SR (fun (a : AH) (c : CH) => CK h0 c a) (SR (fun (a : AH) (c : CH) => CK h0 c a) (fun (a : AH) (c : CH) => CK h0 c a)))) (f_X1_go_L19 x0 x1 x2 x3 x4 a) (t_X1_go_L19 x0 x1 x2 x3 x4 c) := by
  obtain ⟨s0, s1, hs⟩ := a
  obtain ⟨zs0, zs1, Cs⟩ := c
  obtain ⟨es0, es1, I⟩ := r
  dsimp only at es0 es1 I
  subst es0
  subst es1
  unfold f_X1_go_L19 t_X1_go_L19
  try dsimp only
  refine OS.i (fun _ => ?_) (fun _ => ?_)
  · exact OS.ret (SR.r (SR.l (I)))
  · refine OS.i (fun _ => ?_) (fun _ => ?_)
    · exact OS.ret (SR.r (SR.l (I)))
    · refine OS.bEq (I.cl _ _) (fun _ => ?_)
      refine OS.bP (simt_X1_pullersAt _ _ _ I) (fun _ _ _ I => ?_)
      try dsimp only
      refine OS.bEq (I.cl _ _) (fun _ => ?_)
      refine OS.bP (simt_X7_sungAt _ _ I) (fun _ _ _ I => ?_)
      try dsimp only
      refine OS.bEq (I.cl _ _) (fun _ => ?_)
      refine OS.bP (simt_X1_pull _ _ _ _ I) (fun _ _ _ I => ?_)
      try dsimp only
      refine OS.bEq (I.cl _ _) (fun _ => ?_)
      refine OS.bP (simt_X8_wonBehind _ _ _ I) (fun _ _ _ I => ?_)
      try dsimp only
      refine OS.bEq (I.gR _ _ _) (fun v22 => ?_)
      refine OS.b (I.st _ _ _ _) (fun _ _ I => ?_)
      refine OS.bEq (I.gR _ _ _) (fun v26 => ?_)
      refine OS.b (I.st _ _ _ _) (fun _ _ I => ?_)
      refine OS.b (I.pF _ _ _ _) (fun _ _ I => ?_)
      refine OS.bEq (I.gI _ _ _) (fun v32 => ?_)
      refine OS.bEq (I.cl _ _) (fun _ => ?_)
      refine OS.bP (simt_X1_isBelowFloor _ _ I) (fun _ _ _ I => ?_)
      try dsimp only
      refine OS.i (fun _ => ?_) (fun _ => ?_)
      · refine OS.bEq (I.gI _ _ _) (fun v38 => ?_)
        refine OS.i (fun _ => ?_) (fun _ => ?_)
        · exact OS.ret (SR.l (⟨rfl, rfl, I⟩))
        · exact OS.ret (SR.r (SR.r (SR.l (I))))
      · exact OS.ret (SR.r (SR.r (SR.r (I))))
theorem bL_X1_go_L19 {α β : Type} {R : α → β → Prop} {h0 : AH} (x0 : Nat) (x1 : Nat) (x2 : Nat) (x3 : Nat) (x4 : Int32) {n : Nat} {h : AH} {C : CH} {s0 : Int32} {s1 : Int32} {k : (AH) ⊕ (AH) ⊕ (AH) → Option α} {l : (CH) ⊕ (CH) ⊕ (CH) → Option β} (I : CK h0 C h) (k0 : ∀ (h' : AH) (C' : CH), CK h0 C' h' → OS R (k (.inl (h'))) (l (.inl (C')))) (k1 : ∀ (h' : AH) (C' : CH), CK h0 C' h' → OS R (k (.inr (.inl (h')))) (l (.inr (.inl (C'))))) (k2 : ∀ (h' : AH) (C' : CH), CK h0 C' h' → OS R (k (.inr (.inr (h')))) (l (.inr (.inr (C'))))) : OS R ((iter (f_X1_go_L19 x0 x1 x2 x3 x4) n (s0, s1, h)).bind k) ((iter (t_X1_go_L19 x0 x1 x2 x3 x4) n (s0, s1, C)).bind l) := by
  refine OS.b (OS.it (simt_X1_go_L19 x0 x1 x2 x3 x4) n _ _ ⟨rfl, rfl, I⟩) (fun a c r => ?_)
  cases a with
  | inl a0 =>
    cases c with
    | inl c0 =>
      exact k0 a0 c0 r
    | inr d0 => exact r.elim
  | inr b0 =>
    cases c with
    | inl c0 => exact r.elim
    | inr d0 =>
      cases b0 with
      | inl a1 =>
        cases d0 with
        | inl c1 =>
          exact k1 a1 c1 r
        | inr d1 => exact r.elim
      | inr b1 =>
        cases d0 with
        | inl c1 => exact r.elim
        | inr d1 =>
          exact k2 b1 d1 r
