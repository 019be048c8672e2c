theorem bL_X3_findTwo_L24 {α β : Type} {R : α → β → Prop} {h0 : AH} (x0 : Nat) (x1 : Nat) (x2 : Nat) (x3 : Nat) (x4 : Nat) (x5 : Int32) {n : Nat} {h : AH} {C : CH} {s0 : Int32} {k : (AH) → Option α} {l : (CH) → Option β} (I : CK h0 C h) (k0 : ∀ (h' : AH) (C' : CH), CK h0 C' h' → OS R (k (h')) (l (C'))) : OS R ((iter (f_X3_findTwo_L24 x0 x1 x2 x3 x4 x5) n (s0, h)).bind k) ((iter (t_X3_findTwo_L24 x0 x1 x2 x3 x4 x5) n (s0, C)).bind l) := by
  refine OS.b (OS.it (simt_X3_findTwo_L24 x0 x1 x2 x3 x4 x5) n _ _ ⟨rfl, I⟩) (fun a c r => ?_)
  exact k0 a c r
set_option maxRecDepth 100000 in
set_option maxHeartbeats 4000000 in
theorem simt_X3_findTwo_L9 {h0 : AH} (x0 : Nat) (x1 : Nat) (x2 : Nat) (x3 : Nat) (x4 : Nat) (a : Int32 × AH) (c : Int32 × CH) (r : (fun (a : Int32 × AH) (c : Int32 × CH) => a.1 = c.1 ∧ CK h0 c.2 a.2) a c) : OS (SR (fun (a : Int32 × AH) (c : Int32 × CH) => a.1 = c.1 ∧ CK h0 c.2 a.2) (fun (a : AH) (c : CH) => CK h0 c a)) (f_X3_findTwo_L9 x0 x1 x2 x3 x4 a) (t_X3_findTwo_L9 x0 x1 x2 x3 x4 c) := by
  obtain ⟨s0, hs⟩ := a
  obtain ⟨zs0, Cs⟩ := c
  obtain ⟨es0, I⟩ := r
  dsimp only at es0 I
  subst es0
  unfold f_X3_findTwo_L9 t_X3_findTwo_L9
  try dsimp only
  refine OS.bEq (I.gI _ _ _) (fun v3 => ?_)
  refine OS.i (fun _ => ?_) (fun _ => ?_)
  · exact OS.ret (SR.r (I))
  · refine bL_X3_findTwo_L24 _ _ _ _ _ _ I (fun _ _ I => ?_)
    try dsimp only [Sum.elim_inl, Sum.elim_inr]
    exact OS.ret (SR.l (⟨rfl, I⟩))
theorem bL_X3_findTwo_L9 {α β : Type} {R : α → β → Prop} {h0 : AH} (x0 : Nat) (x1 : Nat) (x2 : Nat) (x3 : Nat) (x4 : Nat) {n : Nat} {h : AH} {C : CH} {s0 : Int32} {k : (AH) → Option α} {l : (CH) → Option β} (I : CK h0 C h) (k0 : ∀ (h' : AH) (C' : CH), CK h0 C' h' → OS R (k (h')) (l (C'))) : OS R ((iter (f_X3_findTwo_L9 x0 x1 x2 x3 x4) n (s0, h)).bind k) ((iter (t_X3_findTwo_L9 x0 x1 x2 x3 x4) n (s0, C)).bind l) := by
  refine OS.b (OS.it (simt_X3_findTwo_L9 x0 x1 x2 x3 x4) n _ _ ⟨rfl, I⟩) (fun a c r => ?_)
  exact k0 a c r
set_option maxRecDepth 100000 in
set_option maxHeartbeats 4000000 in
theorem simt_X3_findTwo {h0 h : AH} {C : CH} (a0 : Nat) (a1 : Nat) (a2 : Nat) (a3 : Nat) (a4 : Nat) (I : CK h0 C h) : OS (fun (a : AH) (c : CH) => CK h0 c a) (f_X3_findTwo a0 a1 a2 a3 a4 h) (t_X3_findTwo a0 a1 a2 a3 a4 C) := by
  unfold f_X3_findTwo t_X3_findTwo
  refine OS.b (I.pF _ _ _ _) (fun _ _ I => ?_)
  refine bL_X3_findTwo_L9 _ _ _ _ _ I (fun _ _ I => ?_)
  try dsimp only [Sum.elim_inl, Sum.elim_inr]
  exact OS.ret (I)
set_option maxRecDepth 100000 in
set_option maxHeartbeats 4000000 in
theorem simt_X11_two {h0 h : AH} {C : CH} (a0 : Nat) (a1 : Int32) (a2 : Int32) (a3 : Int32) (a4 : Int32) (I : CK h0 C h) : OS (fun (a : Int32 × AH) (c : Int32 × CH) => a.1 = c.1 ∧ CK h0 c.2 a.2) (f_X11_two a0 a1 a2 a3 a4 h) (t_X11_two a0 a1 a2 a3 a4 C) := by
  unfold f_X11_two t_X11_two
  refine OS.bEq (I.cl _ _) (fun _ => ?_)
  refine OS.bP (simt_X11_songOf _ _ I) (fun _ _ _ I => ?_)
  try dsimp only
  refine OS.e _ ?_ (fun a5 => ?_)
  · exact OS.ret (⟨rfl, I⟩)
  · refine OS.bP (simt_X11_isWeight _ _ I) (fun _ _ _ I => ?_)
    try dsimp only
    refine OS.i (fun _ => ?_) (fun _ => ?_)
    · exact OS.ret (⟨rfl, I⟩)
    · refine OS.bP (simt_X11_within _ _ _ I) (fun _ _ _ I => ?_)
      try dsimp only
      refine OS.i (fun _ => ?_) (fun _ => ?_)
      · exact OS.ret (⟨rfl, I⟩)
      · refine OS.bEq (I.gR _ _ _) (fun v12 => ?_)
        refine OS.bEq (I.gI _ _ _) (fun v14 => ?_)
        refine OS.bP (simt_J6_bitCount_0f7a4 _ I) (fun _ _ _ I => ?_)
        try dsimp only
        refine OS.i (fun _ => ?_) (fun _ => ?_)
        · refine OS.bEq (I.gR _ _ _) (fun v19 => ?_)
          refine OS.bEq (I.gR _ _ _) (fun v21 => ?_)
          have I1 := I.new (.inr (9, [.int 0, .int 0, .int 0])) (cell_obj _ 9 (by decide))
          try rw [I.1.1]
          refine OS.bV (simt_X8_init _ _ _ _ I1) (fun _ _ I => ?_)
          refine OS.bEq (I.gR _ _ _) (fun v25 => ?_)
          refine OS.bEq (I.cl _ _) (fun _ => ?_)
          refine OS.bV (simt_X3_findTwo _ _ _ _ _ I) (fun _ _ I => ?_)
          refine OS.i (fun _ => ?_) (fun _ => ?_)
          · refine OS.bEq (I.gR _ _ _) (fun v31 => ?_)
            refine OS.bEq (I.gI _ _ _) (fun v33 => ?_)
            exact OS.ret (⟨rfl, I⟩)
          · refine OS.i (fun _ => ?_) (fun _ => ?_)
            · refine OS.bEq (I.gR _ _ _) (fun v36 => ?_)
              refine OS.bEq (I.gI _ _ _) (fun v38 => ?_)
              exact OS.ret (⟨rfl, I⟩)
            · refine OS.i (fun _ => ?_) (fun _ => ?_)
              · refine OS.bEq (I.gR _ _ _) (fun v41 => ?_)
                refine OS.bEq (I.gI _ _ _) (fun v43 => ?_)
                exact OS.ret (⟨rfl, I⟩)
              · refine OS.i (fun _ => ?_) (fun _ => ?_)
                · refine OS.bEq (I.gR _ _ _) (fun v46 => ?_)
                  refine OS.bEq (I.gI _ _ _) (fun v48 => ?_)
                  exact OS.ret (⟨rfl, I⟩)
                · refine OS.bEq (I.gR _ _ _) (fun v50 => ?_)
                  refine OS.bEq (I.gI _ _ _) (fun v52 => ?_)
                  exact OS.ret (⟨rfl, I⟩)
        · exact OS.ret (⟨rfl, I⟩)
set_option maxRecDepth 100000 in
set_option maxHeartbeats 4000000 in
theorem simt_X3_findOne_L46 {h0 : AH} (x0 : Nat) (x1 : Nat) (x2 : Nat) (x3 : Nat) (x4 : Nat) (x5 : Int32) (a : Int32 × AH) (c : Int32 × CH) (r : (fun (a : Int32 × AH) (c : Int32 × CH) => a.1 = c.1 ∧ CK h0 c.2 a.2) a c) : OS (SR (fun (a : Int32 × AH) (c : Int32 × CH) => a.1 = c.1 ∧ CK h0 c.2 a.2) (fun (a : AH) (c : CH) => CK h0 c a)) (f_X3_findOne_L46 x0 x1 x2 x3 x4 x5 a) (t_X3_findOne_L46 x0 x1 x2 x3 x4 x5 c) := by
  obtain ⟨s0, hs⟩ := a
  obtain ⟨zs0, Cs⟩ := c
  obtain ⟨es0, I⟩ := r
  dsimp only at es0 I
  subst es0
  unfold f_X3_findOne_L46 t_X3_findOne_L46
  try dsimp only
  refine OS.i (fun _ => ?_) (fun _ => ?_)
  · exact OS.ret (SR.r (I))
  · refine OS.bEq (I.gI _ _ _) (fun v19 => ?_)
    refine OS.bP (simt_X11_isIn _ _ I) (fun _ _ _ I => ?_)
    try dsimp only
    refine OS.i (fun _ => ?_) (fun _ => ?_)
    · exact OS.ret (SR.r (I))
    · refine OS.bEq (I.gR _ _ _) (fun v24 => ?_)
      refine OS.bEq (I.cl _ _) (fun _ => ?_)
      refine OS.bV (simt_X1_beginFresh _ _ I) (fun _ _ I => ?_)
      refine OS.bEq (I.gR _ _ _) (fun v29 => ?_)
      refine OS.bEq (I.gR _ _ _) (fun v31 => ?_)
      refine OS.b (I.st _ _ _ _) (fun _ _ I => ?_)
      refine OS.bEq (I.cl _ _) (fun _ => ?_)
      refine OS.bP (simt_X3_sumOfTrial _ _ _ _ _ I) (fun _ _ _ I => ?_)
      try dsimp only
      refine OS.bEq (I.gI _ _ _) (fun v38 => ?_)
      refine OS.i (fun _ => ?_) (fun _ => ?_)
      · exact OS.ret (SR.l (⟨rfl, I⟩))
      · refine OS.b (I.pF _ _ _ _) (fun _ _ I => ?_)
        refine OS.b (I.pF _ _ _ _) (fun _ _ I => ?_)
        refine OS.b (I.pF _ _ _ _) (fun _ _ I => ?_)
        exact OS.ret (SR.l (⟨rfl, I⟩))
theorem bL_X3_findOne_L46 {α β : Type} {R : α → β → Prop} {h0 : AH} (x0 : Nat) (x1 : Nat) (x2 : Nat) (x3 : Nat) (x4 : Nat) (x5 : Int32) {n : Nat} {h : AH} {C : CH} {s0 : Int32} {k : (AH) → Option α} {l : (CH) → Option β} (I : CK h0 C h) (k0 : ∀ (h' : AH) (C' : CH), CK h0 C' h' → OS R (k (h')) (l (C'))) : OS R ((iter (f_X3_findOne_L46 x0 x1 x2 x3 x4 x5) n (s0, h)).bind k) ((iter (t_X3_findOne_L46 x0 x1 x2 x3 x4 x5) n (s0, C)).bind l) := by
  refine OS.b (OS.it (simt_X3_findOne_L46 x0 x1 x2 x3 x4 x5) n _ _ ⟨rfl, I⟩) (fun a c r => ?_)
  exact k0 a c r
set_option maxRecDepth 100000 in
set_option maxHeartbeats 4000000 in
theorem simt_X3_findOne_L34 {h0 : AH} (x0 : Nat) (x1 : Nat) (x2 : Nat) (x3 : Nat) (x4 : Nat) (a : Int32 × AH) (c : Int32 × CH) (r : (fun (a : Int32 × AH) (c : Int32 × CH) => a.1 = c.1 ∧ CK h0 c.2 a.2) a c) : OS (SR (fun (a : Int32 × AH) (c : Int32 × CH) => a.1 = c.1 ∧ CK h0 c.2 a.2) (fun (a : AH) (c : CH) => CK h0 c a)) (f_X3_findOne_L34 x0 x1 x2 x3 x4 a) (t_X3_findOne_L34 x0 x1 x2 x3 x4 c) := by
  obtain ⟨s0, hs⟩ := a
  obtain ⟨zs0, Cs⟩ := c
  obtain ⟨es0, I⟩ := r
  dsimp only at es0 I
  subst es0
  unfold f_X3_findOne_L34 t_X3_findOne_L34
  try dsimp only
  refine OS.bEq (I.gI _ _ _) (fun v15 => ?_)
  refine OS.i (fun _ => ?_) (fun _ => ?_)
  · exact OS.ret (SR.r (I))
  · refine bL_X3_findOne_L46 _ _ _ _ _ _ I (fun _ _ I => ?_)
    try dsimp only [Sum.elim_inl, Sum.elim_inr]
    exact OS.ret (SR.l (⟨rfl, I⟩))
theorem bL_X3_findOne_L34 {α β : Type} {R : α → β → Prop} {h0 : AH} (x0 : Nat) (x1 : Nat) (x2 : Nat) (x3 : Nat) (x4 : Nat) {n : Nat} {h : AH} {C : CH} {s0 : Int32} {k : (AH) → Option α} {l : (CH) → Option β} (I : CK h0 C h) (k0 : ∀ (h' : AH) (C' : CH), CK h0 C' h' → OS R (k (h')) (l (C'))) : OS R ((iter (f_X3_findOne_L34 x0 x1 x2 x3 x4) n (s0, h)).bind k) ((iter (t_X3_findOne_L34 x0 x1 x2 x3 x4) n (s0, C)).bind l) := by
  refine OS.b (OS.it (simt_X3_findOne_L34 x0 x1 x2 x3 x4) n _ _ ⟨rfl, I⟩) (fun a c r => ?_)
  exact k0 a c r
set_option maxRecDepth 100000 in
set_option maxHeartbeats 4000000 in
theorem simt_X3_findOne {h0 h : AH} {C : CH} (a0 : Nat) (a1 : Nat) (a2 : Nat) (a3 : Nat) (a4 : Nat) (I : CK h0 C h) : OS (fun (a : AH) (c : CH) => CK h0 c a) (f_X3_findOne a0 a1 a2 a3 a4 h) (t_X3_findOne a0 a1 a2 a3 a4 C) := by
  unfold f_X3_findOne t_X3_findOne
  refine OS.b (I.pF _ _ _ _) (fun _ _ I => ?_)
  refine OS.b (I.pF _ _ _ _) (fun _ _ I => ?_)
  refine OS.bEq (I.gR _ _ _) (fun v5 => ?_)
  refine OS.bEq (I.cl _ _) (fun _ => ?_)
  refine OS.bV (simt_X1_beginFresh _ _ I) (fun _ _ I => ?_)
  refine OS.bEq (I.cl _ _) (fun _ => ?_)
  refine OS.bP (simt_X3_sumOfTrial _ _ _ _ _ I) (fun _ _ _ I => ?_)
  try dsimp only
  refine OS.b (I.pF _ _ _ _) (fun _ _ I => ?_)
  refine bL_X3_findOne_L34 _ _ _ _ _ I (fun _ _ I => ?_)
  try dsimp only [Sum.elim_inl, Sum.elim_inr]
  exact OS.ret (I)
set_option maxRecDepth 100000 in
set_option maxHeartbeats 4000000 in
theorem simt_X11_who {h0 h : AH} {C : CH} (a0 : Nat) (a1 : Int32) (a2 : Int32) (a3 : Int32) (a4 : Int32) (I : CK h0 C h) : OS (fun (a : Int32 × AH) (c : Int32 × CH) => a.1 = c.1 ∧ CK h0 c.2 a.2) (f_X11_who a0 a1 a2 a3 a4 h) (t_X11_who a0 a1 a2 a3 a4 C) := by
  unfold f_X11_who t_X11_who
  refine OS.bEq (I.cl _ _) (fun _ => ?_)
  refine OS.bP (simt_X11_songOf _ _ I) (fun _ _ _ I => ?_)
  try dsimp only
  refine OS.e _ ?_ (fun a5 => ?_)
  · exact OS.ret (⟨rfl, I⟩)
  · refine OS.bP (simt_X11_isWeight _ _ I) (fun _ _ _ I => ?_)
    try dsimp only
    refine OS.i (fun _ => ?_) (fun _ => ?_)
    · exact OS.ret (⟨rfl, I⟩)
    · refine OS.bP (simt_X11_within _ _ _ I) (fun _ _ _ I => ?_)
      try dsimp only
      refine OS.i (fun _ => ?_) (fun _ => ?_)
      · exact OS.ret (⟨rfl, I⟩)
      · refine OS.bEq (I.gR _ _ _) (fun v12 => ?_)
        refine OS.bEq (I.gR _ _ _) (fun v14 => ?_)
        have I1 := I.new (.inr (9, [.int 0, .int 0, .int 0])) (cell_obj _ 9 (by decide))
        try rw [I.1.1]
        refine OS.bV (simt_X8_init _ _ _ _ I1) (fun _ _ I => ?_)
        refine OS.bEq (I.gR _ _ _) (fun v18 => ?_)
        refine OS.bEq (I.cl _ _) (fun _ => ?_)
        refine OS.bV (simt_X3_findOne _ _ _ _ _ I) (fun _ _ I => ?_)
        refine OS.i (fun _ => ?_) (fun _ => ?_)
        · refine OS.bEq (I.gR _ _ _) (fun v24 => ?_)
          refine OS.bEq (I.gI _ _ _) (fun v26 => ?_)
          exact OS.ret (⟨rfl, I⟩)
        · refine OS.i (fun _ => ?_) (fun _ => ?_)
          · refine OS.bEq (I.gR _ _ _) (fun v29 => ?_)
            refine OS.bEq (I.gI _ _ _) (fun v31 => ?_)
            exact OS.ret (⟨rfl, I⟩)
          · refine OS.bEq (I.gR _ _ _) (fun v33 => ?_)
            refine OS.bEq (I.gI _ _ _) (fun v35 => ?_)
            exact OS.ret (⟨rfl, I⟩)
set_option maxRecDepth 100000 in
set_option maxHeartbeats 4000000 in
theorem simt_X11_wipe {h0 h : AH} {C : CH} (a0 : Nat) (I : CK h0 C h) : OS (fun (a : Int32 × AH) (c : Int32 × CH) => a.1 = c.1 ∧ CK h0 c.2 a.2) (f_X11_wipe a0 h) (t_X11_wipe a0 C) := by
  unfold f_X11_wipe t_X11_wipe
  refine OS.bEq (I.gR _ _ _) (fun v1 => ?_)
  refine OS.bEq (I.gI _ _ _) (fun v3 => ?_)
  refine OS.bEq (I.gR _ _ _) (fun v5 => ?_)
  refine OS.b (I.pF _ _ _ _) (fun _ _ I => ?_)
  exact OS.ret (⟨rfl, I⟩)
set_option maxRecDepth 100000 in
set_option maxHeartbeats 4000000 in
theorem simt_X11_won {h0 h : AH} {C : CH} (a0 : Nat) (a1 : Int32) (I : CK h0 C h) : OS (fun (a : Int32 × AH) (c : Int32 × CH) => a.1 = c.1 ∧ CK h0 c.2 a.2) (f_X11_won a0 a1 h) (t_X11_won a0 a1 C) := by
  unfold f_X11_won t_X11_won
  refine OS.bEq (I.gR _ _ _) (fun v1 => ?_)
  refine OS.bEq (I.gR _ _ _) (fun v3 => ?_)
  refine OS.bEq (I.cl _ _) (fun _ => ?_)
  refine OS.bP (simt_X11_ofLatest _ _ _ I) (fun _ _ _ I => ?_)
  try dsimp only
  exact OS.ret (⟨rfl, I⟩)
set_option maxRecDepth 100000 in
set_option maxHeartbeats 4000000 in
theorem simt_X11_word {h0 h : AH} {C : CH} (a0 : Nat) (a1 : Int32) (a2 : Int32) (I : CK h0 C h) : OS (fun (a : Int32 × AH) (c : Int32 × CH) => a.1 = c.1 ∧ CK h0 c.2 a.2) (f_X11_word a0 a1 a2 h) (t_X11_word a0 a1 a2 C) := by
  unfold f_X11_word t_X11_word
  refine OS.bP (simt_X11_within _ _ _ I) (fun _ _ _ I => ?_)
  try dsimp only
  refine OS.i (fun _ => ?_) (fun _ => ?_)
  · exact OS.ret (⟨rfl, I⟩)
  · refine OS.bP (simt_X11_within _ _ _ I) (fun _ _ _ I => ?_)
    try dsimp only
    refine OS.i (fun _ => ?_) (fun _ => ?_)
    · exact OS.ret (⟨rfl, I⟩)
    · refine OS.bEq (I.gR _ _ _) (fun v7 => ?_)
      refine OS.bEq (I.cl _ _) (fun _ => ?_)
      refine OS.bP (simt_Jx4a65c_size_8abf5 _ I) (fun _ _ _ I => ?_)
      try dsimp only
      refine OS.i (fun _ => ?_) (fun _ => ?_)
      · refine OS.bEq (I.gR _ _ _) (fun v13 => ?_)
        have I1 := I.new (.inr (11, [.int 0, .int 0])) (cell_obj _ 11 (by decide))
        try rw [I.1.1]
        refine OS.bV (simt_X10_init _ _ _ I1) (fun _ _ I => ?_)
        refine OS.bEq (I.cl _ _) (fun _ => ?_)
        refine OS.bP (simt_Jx4a65c_add_9ea2d _ _ I) (fun _ _ _ I => ?_)
        try dsimp only
        refine OS.bEq (I.gR _ _ _) (fun v20 => ?_)
        refine OS.bEq (I.cl _ _) (fun _ => ?_)
        refine OS.bP (simt_Jx4a65c_size_8abf5 _ I) (fun _ _ _ I => ?_)
        try dsimp only
        exact OS.ret (⟨rfl, I⟩)
      · exact OS.ret (⟨rfl, I⟩)
