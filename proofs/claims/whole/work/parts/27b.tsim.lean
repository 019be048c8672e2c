set_option maxRecDepth 100000 in
set_option maxHeartbeats 4000000 in
theorem simt_X1_go {h0 h : AH} {C : CH} (a0 : Nat) (a1 : Nat) (a2 : Nat) (a3 : Nat) (a4 : Int32) (I : CK h0 C h) : OS (fun (a : Int32 × AH) (c : Int32 × CH) => a.1 = c.1 ∧ CK h0 c.2 a.2) (f_X1_go a0 a1 a2 a3 a4 h) (t_X1_go a0 a1 a2 a3 a4 C) := by
  unfold f_X1_go t_X1_go
  refine OS.b (I.pF _ _ _ _) (fun _ _ I => ?_)
  refine OS.bEq (I.gI _ _ _) (fun v3 => ?_)
  refine OS.bEq (I.cl _ _) (fun _ => ?_)
  refine OS.bV (simt_X1_gatherByLate _ _ I) (fun _ _ I => ?_)
  refine bL_X1_go_L19 _ _ _ _ _ I (fun _ _ I => ?_) (fun _ _ I => ?_) (fun _ _ I => ?_)
  · try dsimp only [Sum.elim_inl, Sum.elim_inr]
    exact OS.ret (⟨rfl, I⟩)
  · try dsimp only [Sum.elim_inl, Sum.elim_inr]
    exact OS.ret (⟨rfl, I⟩)
  · try dsimp only [Sum.elim_inl, Sum.elim_inr]
    exact OS.ret (⟨rfl, I⟩)
set_option maxRecDepth 100000 in
set_option maxHeartbeats 4000000 in
theorem simt_X1_leastNow_L5 {h0 : AH} (x0 : Nat) (x1 : Int32) (a : Int32 × Int32 × AH) (c : Int32 × Int32 × CH) (r : (fun (a : Int32 × Int32 × AH) (c : Int32 × Int32 × CH) => a.1 = c.1 ∧ a.2.1 = c.2.1 ∧ CK h0 c.2.2 a.2.2) a c) : OS (SR (fun (a : Int32 × Int32 × AH) (c : Int32 × Int32 × CH) => a.1 = c.1 ∧ a.2.1 = c.2.1 ∧ CK h0 c.2.2 a.2.2) (fun (a : Int32 × AH) (c : Int32 × CH) => a.1 = c.1 ∧ CK h0 c.2 a.2)) (f_X1_leastNow_L5 x0 x1 a) (t_X1_leastNow_L5 x0 x1 c) := by
  obtain ⟨s0, s1, hs⟩ := a
  obtain ⟨zs0, zs1, Cs⟩ := c
  obtain ⟨es0, es1, I⟩ := r
  dsimp only at es0 es1 I
  subst es0
  subst es1
  unfold f_X1_leastNow_L5 t_X1_leastNow_L5
  try dsimp only
  refine OS.i (fun _ => ?_) (fun _ => ?_)
  · exact OS.ret (SR.r (⟨rfl, I⟩))
  · refine OS.bEq (I.gR _ _ _) (fun v2 => ?_)
    refine OS.bEq (I.ld _ _ _) (fun v4 => ?_)
    exact OS.ret (SR.l (⟨rfl, rfl, I⟩))
theorem bL_X1_leastNow_L5 {α β : Type} {R : α → β → Prop} {h0 : AH} (x0 : Nat) (x1 : Int32) {n : Nat} {h : AH} {C : CH} {s0 : Int32} {s1 : Int32} {k : (Int32 × AH) → Option α} {l : (Int32 × CH) → Option β} (I : CK h0 C h) (k0 : ∀ (w0 : Int32) (h' : AH) (C' : CH), CK h0 C' h' → OS R (k ((w0, h'))) (l ((w0, C')))) : OS R ((iter (f_X1_leastNow_L5 x0 x1) n (s0, s1, h)).bind k) ((iter (t_X1_leastNow_L5 x0 x1) n (s0, s1, C)).bind l) := by
  refine OS.b (OS.it (simt_X1_leastNow_L5 x0 x1) n _ _ ⟨rfl, rfl, I⟩) (fun a c r => ?_)
  obtain ⟨x0, h'⟩ := a
  obtain ⟨zx0, C'⟩ := c
  obtain ⟨ex0, I2⟩ := r
  dsimp only at ex0 I2
  subst ex0
  exact k0 x0 h' C' I2
set_option maxRecDepth 100000 in
set_option maxHeartbeats 4000000 in
theorem simt_X1_leastNow {h0 h : AH} {C : CH} (a0 : Nat) (a1 : Int32) (I : CK h0 C h) : OS (fun (a : Int32 × AH) (c : Int32 × CH) => a.1 = c.1 ∧ CK h0 c.2 a.2) (f_X1_leastNow a0 a1 h) (t_X1_leastNow a0 a1 C) := by
  unfold f_X1_leastNow t_X1_leastNow
  refine bL_X1_leastNow_L5 _ _ I (fun _ _ _ I => ?_)
  try dsimp only [Sum.elim_inl, Sum.elim_inr]
  exact OS.ret (⟨rfl, I⟩)
set_option maxRecDepth 100000 in
set_option maxHeartbeats 4000000 in
theorem simt_X9_tryCrew_J71 {h0 h : AH} {C : CH} (a0 : Nat) (a1 : Nat) (a2 : Nat) (a3 : Nat) (a4 : Int32) (y5 : Int32) (I : CK h0 C h) : OS (fun (a : AH) (c : CH) => CK h0 c a) (f_X9_tryCrew_J71 a0 a1 a2 a3 a4 y5 h) (t_X9_tryCrew_J71 a0 a1 a2 a3 a4 y5 C) := by
  unfold f_X9_tryCrew_J71 t_X9_tryCrew_J71
  refine OS.b (I.pF _ _ _ _) (fun _ _ I => ?_)
  refine OS.bEq (I.gR _ _ _) (fun v34 => ?_)
  refine OS.bEq (I.gI _ _ _) (fun v36 => ?_)
  refine OS.b (I.pF _ _ _ _) (fun _ _ I => ?_)
  refine OS.b (I.pF _ _ _ _) (fun _ _ I => ?_)
  exact OS.ret (I)
set_option maxRecDepth 100000 in
set_option maxHeartbeats 4000000 in
theorem simt_X9_tryCrew {h0 h : AH} {C : CH} (a0 : Nat) (a1 : Nat) (a2 : Nat) (a3 : Nat) (a4 : Int32) (I : CK h0 C h) : OS (fun (a : AH) (c : CH) => CK h0 c a) (f_X9_tryCrew a0 a1 a2 a3 a4 h) (t_X9_tryCrew a0 a1 a2 a3 a4 C) := by
  unfold f_X9_tryCrew t_X9_tryCrew
  refine OS.bEq (I.gR _ _ _) (fun v1 => ?_)
  refine OS.bEq (I.cl _ _) (fun _ => ?_)
  refine OS.bV (simt_X1_beginAsTold _ _ I) (fun _ _ I => ?_)
  refine OS.bEq (I.gR _ _ _) (fun v6 => ?_)
  refine OS.b (I.pF _ _ _ _) (fun _ _ I => ?_)
  refine OS.bEq (I.gR _ _ _) (fun v10 => ?_)
  refine OS.bEq (I.gI _ _ _) (fun v12 => ?_)
  refine OS.bEq (I.cl _ _) (fun _ => ?_)
  refine OS.bP (simt_X1_go _ _ _ _ _ I) (fun _ _ _ I => ?_)
  try dsimp only
  refine OS.i (fun _ => ?_) (fun _ => ?_)
  · exact OS.ret (I)
  · refine OS.bEq (I.gR _ _ _) (fun v18 => ?_)
    refine OS.bEq (I.gI _ _ _) (fun v20 => ?_)
    refine OS.bEq (I.cl _ _) (fun _ => ?_)
    refine OS.bP (simt_X1_leastNow _ _ I) (fun _ _ _ I => ?_)
    try dsimp only
    refine OS.bEq (I.gR _ _ _) (fun v25 => ?_)
    refine OS.bEq (I.gI _ _ _) (fun v27 => ?_)
    refine OS.bEq (I.gI _ _ _) (fun v29 => ?_)
    refine OS.i (fun _ => ?_) (fun _ => ?_)
    · exact simt_X9_tryCrew_J71 _ _ _ _ _ _ I
    · refine OS.bEq (I.gI _ _ _) (fun v42 => ?_)
      refine OS.i (fun _ => ?_) (fun _ => ?_)
      · exact OS.ret (I)
      · exact simt_X9_tryCrew_J71 _ _ _ _ _ _ I
set_option maxRecDepth 100000 in
set_option maxHeartbeats 4000000 in
theorem simt_X9_findCrew_L9 {h0 : AH} (x0 : Nat) (x1 : Nat) (x2 : Nat) (x3 : Nat) (x4 : Int32) (a : Int32 × AH) (c : Int32 × CH) (r : (fun (a : Int32 × AH) (c : Int32 × CH) => a.1 = c.1 ∧ CK h0 c.2 a.2) a c) : OS (SR (fun (a : Int32 × AH) (c : Int32 × CH) => a.1 = c.1 ∧ CK h0 c.2 a.2) (fun (a : AH) (c : CH) => CK h0 c a)) (f_X9_findCrew_L9 x0 x1 x2 x3 x4 a) (t_X9_findCrew_L9 x0 x1 x2 x3 x4 c) := by
  obtain ⟨s0, hs⟩ := a
  obtain ⟨zs0, Cs⟩ := c
  obtain ⟨es0, I⟩ := r
  dsimp only at es0 I
  subst es0
  unfold f_X9_findCrew_L9 t_X9_findCrew_L9
  try dsimp only
  refine OS.bEq (I.cl _ _) (fun _ => ?_)
  refine OS.bP (simt_X0_allSet _ I) (fun _ _ _ I => ?_)
  try dsimp only
  refine OS.i (fun _ => ?_) (fun _ => ?_)
  · exact OS.ret (SR.r (I))
  · refine OS.bP (simt_J6_bitCount_0f7a4 _ I) (fun _ _ _ I => ?_)
    try dsimp only
    refine OS.i (fun _ => ?_) (fun _ => ?_)
    · refine OS.bEq (I.cl _ _) (fun _ => ?_)
      refine OS.bV (simt_X9_tryCrew _ _ _ _ _ I) (fun _ _ I => ?_)
      exact OS.ret (SR.l (⟨rfl, I⟩))
    · exact OS.ret (SR.l (⟨rfl, I⟩))
theorem bL_X9_findCrew_L9 {α β : Type} {R : α → β → Prop} {h0 : AH} (x0 : Nat) (x1 : Nat) (x2 : Nat) (x3 : Nat) (x4 : Int32) {n : Nat} {h : AH} {C : CH} {s0 : Int32} {k : (AH) → Option α} {l : (CH) → Option β} (I : CK h0 C h) (k0 : ∀ (h' : AH) (C' : CH), CK h0 C' h' → OS R (k (h')) (l (C'))) : OS R ((iter (f_X9_findCrew_L9 x0 x1 x2 x3 x4) n (s0, h)).bind k) ((iter (t_X9_findCrew_L9 x0 x1 x2 x3 x4) n (s0, C)).bind l) := by
  refine OS.b (OS.it (simt_X9_findCrew_L9 x0 x1 x2 x3 x4) n _ _ ⟨rfl, I⟩) (fun a c r => ?_)
  exact k0 a c r
set_option maxRecDepth 100000 in
set_option maxHeartbeats 4000000 in
theorem simt_X9_findCrew {h0 h : AH} {C : CH} (a0 : Nat) (a1 : Nat) (a2 : Nat) (a3 : Nat) (a4 : Int32) (I : CK h0 C h) : OS (fun (a : AH) (c : CH) => CK h0 c a) (f_X9_findCrew a0 a1 a2 a3 a4 h) (t_X9_findCrew a0 a1 a2 a3 a4 C) := by
  unfold f_X9_findCrew t_X9_findCrew
  refine OS.b (I.pF _ _ _ _) (fun _ _ I => ?_)
  refine bL_X9_findCrew_L9 _ _ _ _ _ I (fun _ _ I => ?_)
  try dsimp only [Sum.elim_inl, Sum.elim_inr]
  exact OS.ret (I)
set_option maxRecDepth 100000 in
set_option maxHeartbeats 4000000 in
theorem simt_X11_best {h0 h : AH} {C : CH} (a0 : Nat) (a1 : Int32) (a2 : Int32) (a3 : Int32) (a4 : Int32) (I : CK h0 C h) : OS (fun (a : Int32 × AH) (c : Int32 × CH) => a.1 = c.1 ∧ CK h0 c.2 a.2) (f_X11_best a0 a1 a2 a3 a4 h) (t_X11_best a0 a1 a2 a3 a4 C) := by
  unfold f_X11_best t_X11_best
  refine OS.bEq (I.cl _ _) (fun _ => ?_)
  refine OS.bP (simt_X11_songOf _ _ I) (fun _ _ _ I => ?_)
  try dsimp only
  refine OS.e _ ?_ (fun a5 => ?_)
  · exact OS.ret (⟨rfl, I⟩)
  · refine OS.bEq (I.gR _ _ _) (fun v6 => ?_)
    refine OS.bEq (I.cl _ _) (fun _ => ?_)
    refine OS.bP (simt_Jx4a65c_size_8abf5 _ I) (fun _ _ _ I => ?_)
    try dsimp only
    refine OS.bP (simt_X11_within _ _ _ I) (fun _ _ _ I => ?_)
    try dsimp only
    refine OS.i (fun _ => ?_) (fun _ => ?_)
    · exact OS.ret (⟨rfl, I⟩)
    · refine OS.bEq (I.gR _ _ _) (fun v14 => ?_)
      refine OS.bEq (I.gI _ _ _) (fun v16 => ?_)
      refine OS.bP (simt_X11_within _ _ _ I) (fun _ _ _ I => ?_)
      try dsimp only
      refine OS.i (fun _ => ?_) (fun _ => ?_)
      · exact OS.ret (⟨rfl, I⟩)
      · refine OS.bP (simt_X11_within _ _ _ I) (fun _ _ _ I => ?_)
        try dsimp only
        refine OS.i (fun _ => ?_) (fun _ => ?_)
        · exact OS.ret (⟨rfl, I⟩)
        · refine OS.bEq (I.gR _ _ _) (fun v24 => ?_)
          refine OS.bEq (I.gR _ _ _) (fun v26 => ?_)
          refine OS.bEq (I.gR _ _ _) (fun v28 => ?_)
          refine OS.bEq (I.cl _ _) (fun _ => ?_)
          refine OS.bP (simt_Jx4a65c_get_915e3 _ _ I) (fun _ _ _ I => ?_)
          try dsimp only
          refine OS.bEq (I.cl _ _) (fun _ => ?_)
          refine OS.bEq (I.cl _ _) (fun _ => ?_)
          refine OS.bV (simt_X9_findCrew _ _ _ _ _ I) (fun _ _ I => ?_)
          refine OS.bEq (I.gR _ _ _) (fun v37 => ?_)
          refine OS.bEq (I.gI _ _ _) (fun v39 => ?_)
          refine OS.i (fun _ => ?_) (fun _ => ?_)
          · exact OS.ret (⟨rfl, I⟩)
          · refine OS.i (fun _ => ?_) (fun _ => ?_)
            · refine OS.bEq (I.gR _ _ _) (fun v43 => ?_)
              refine OS.bEq (I.gI _ _ _) (fun v45 => ?_)
              exact OS.ret (⟨rfl, I⟩)
            · refine OS.i (fun _ => ?_) (fun _ => ?_)
              · refine OS.bEq (I.gR _ _ _) (fun v48 => ?_)
                refine OS.bEq (I.gI _ _ _) (fun v50 => ?_)
                exact OS.ret (⟨rfl, I⟩)
              · refine OS.bEq (I.gR _ _ _) (fun v52 => ?_)
                refine OS.bEq (I.gI _ _ _) (fun v54 => ?_)
                exact OS.ret (⟨rfl, I⟩)
set_option maxRecDepth 100000 in
set_option maxHeartbeats 4000000 in
theorem simt_X11_between {h0 h : AH} {C : CH} (a0 : Nat) (a1 : Int32) (I : CK h0 C h) : OS (fun (a : Int32 × AH) (c : Int32 × CH) => a.1 = c.1 ∧ CK h0 c.2 a.2) (f_X11_between a0 a1 h) (t_X11_between a0 a1 C) := by
  unfold f_X11_between t_X11_between
  refine OS.bP (simt_X11_within _ _ _ I) (fun _ _ _ I => ?_)
  try dsimp only
  refine OS.i (fun _ => ?_) (fun _ => ?_)
  · exact OS.ret (⟨rfl, I⟩)
  · refine OS.bEq (I.gI _ _ _) (fun v4 => ?_)
    refine OS.b (I.pF _ _ _ _) (fun _ _ I => ?_)
    refine OS.bEq (I.gR _ _ _) (fun v8 => ?_)
    refine OS.b (I.pF _ _ _ _) (fun _ _ I => ?_)
    exact OS.ret (⟨rfl, I⟩)
set_option maxRecDepth 100000 in
set_option maxHeartbeats 4000000 in
theorem simt_X11_count {h0 h : AH} {C : CH} (a0 : Nat) (a1 : Int32) (I : CK h0 C h) : OS (fun (a : Int32 × AH) (c : Int32 × CH) => a.1 = c.1 ∧ CK h0 c.2 a.2) (f_X11_count a0 a1 h) (t_X11_count a0 a1 C) := by
  unfold f_X11_count t_X11_count
  refine OS.i (fun _ => ?_) (fun _ => ?_)
  · refine OS.bEq (I.gR _ _ _) (fun v2 => ?_)
    refine OS.bEq (I.cl _ _) (fun _ => ?_)
    refine OS.bP (simt_Jx4a65c_size_8abf5 _ I) (fun _ _ _ I => ?_)
    try dsimp only
    exact OS.ret (⟨rfl, I⟩)
  · refine OS.i (fun _ => ?_) (fun _ => ?_)
    · refine OS.bEq (I.gR _ _ _) (fun v8 => ?_)
      refine OS.bEq (I.gI _ _ _) (fun v10 => ?_)
      exact OS.ret (⟨rfl, I⟩)
    · refine OS.i (fun _ => ?_) (fun _ => ?_)
      · refine OS.bEq (I.gR _ _ _) (fun v13 => ?_)
        refine OS.bEq (I.gI _ _ _) (fun v15 => ?_)
        exact OS.ret (⟨rfl, I⟩)
      · refine OS.i (fun _ => ?_) (fun _ => ?_)
        · refine OS.bEq (I.gR _ _ _) (fun v18 => ?_)
          refine OS.bEq (I.gI _ _ _) (fun v20 => ?_)
          exact OS.ret (⟨rfl, I⟩)
        · refine OS.i (fun _ => ?_) (fun _ => ?_)
          · refine OS.bEq (I.gR _ _ _) (fun v23 => ?_)
            refine OS.bEq (I.cl _ _) (fun _ => ?_)
            refine OS.bP (simt_Jx4a65c_size_8abf5 _ I) (fun _ _ _ I => ?_)
            try dsimp only
            exact OS.ret (⟨rfl, I⟩)
          · refine OS.i (fun _ => ?_) (fun _ => ?_)
            · refine OS.bEq (I.gR _ _ _) (fun v29 => ?_)
              refine OS.bEq (I.cl _ _) (fun _ => ?_)
              refine OS.bP (simt_Jx4a65c_size_8abf5 _ I) (fun _ _ _ I => ?_)
              try dsimp only
              exact OS.ret (⟨rfl, I⟩)
            · refine OS.i (fun _ => ?_) (fun _ => ?_)
              · refine OS.bEq (I.gR _ _ _) (fun v35 => ?_)
                refine OS.bEq (I.gI _ _ _) (fun v37 => ?_)
                exact OS.ret (⟨rfl, I⟩)
              · refine OS.i (fun _ => ?_) (fun _ => ?_)
                · refine OS.bEq (I.gR _ _ _) (fun v40 => ?_)
                  refine OS.bEq (I.gI _ _ _) (fun v42 => ?_)
                  exact OS.ret (⟨rfl, I⟩)
                · refine OS.i (fun _ => ?_) (fun _ => ?_)
                  · refine OS.bEq (I.gR _ _ _) (fun v45 => ?_)
                    refine OS.bEq (I.gI _ _ _) (fun v47 => ?_)
                    exact OS.ret (⟨rfl, I⟩)
                  · exact OS.ret (⟨rfl, I⟩)
set_option maxRecDepth 100000 in
set_option maxHeartbeats 4000000 in
theorem simt_X11_crew {h0 h : AH} {C : CH} (a0 : Nat) (a1 : Int32) (I : CK h0 C h) : OS (fun (a : Int32 × AH) (c : Int32 × CH) => a.1 = c.1 ∧ CK h0 c.2 a.2) (f_X11_crew a0 a1 h) (t_X11_crew a0 a1 C) := by
  unfold f_X11_crew t_X11_crew
  refine OS.bEq (I.gR _ _ _) (fun v1 => ?_)
  refine OS.bEq (I.cl _ _) (fun _ => ?_)
  refine OS.bP (simt_X0_allSet _ I) (fun _ _ _ I => ?_)
  try dsimp only
  refine OS.bP (simt_X11_within _ _ _ I) (fun _ _ _ I => ?_)
  try dsimp only
  refine OS.i (fun _ => ?_) (fun _ => ?_)
  · exact OS.ret (⟨rfl, I⟩)
  · refine OS.bEq (I.gR _ _ _) (fun v9 => ?_)
    refine OS.bEq (I.gI _ _ _) (fun v11 => ?_)
    refine OS.bEq (I.gR _ _ _) (fun v13 => ?_)
    refine OS.b (I.pF _ _ _ _) (fun _ _ I => ?_)
    refine OS.bEq (I.gR _ _ _) (fun v17 => ?_)
    refine OS.b (I.pF _ _ _ _) (fun _ _ I => ?_)
    exact OS.ret (⟨rfl, I⟩)
set_option maxRecDepth 100000 in
set_option maxHeartbeats 4000000 in
theorem simt_X6_mixedInto_L5 {h0 : AH} (x0 : Nat) (a : Int64 × Int32 × AH) (c : Int64 × Int32 × CH) (r : (fun (a : Int64 × Int32 × AH) (c : Int64 × Int32 × CH) => a.1 = c.1 ∧ a.2.1 = c.2.1 ∧ CK h0 c.2.2 a.2.2) a c) : OS (SR (fun (a : Int64 × Int32 × AH) (c : Int64 × Int32 × CH) => a.1 = c.1 ∧ a.2.1 = c.2.1 ∧ CK h0 c.2.2 a.2.2) (fun (a : Int64 × AH) (c : Int64 × CH) => a.1 = c.1 ∧ CK h0 c.2 a.2)) (f_X6_mixedInto_L5 x0 a) (t_X6_mixedInto_L5 x0 c) := by
  obtain ⟨s0, s1, hs⟩ := a
  obtain ⟨zs0, zs1, Cs⟩ := c
  obtain ⟨es0, es1, I⟩ := r
  dsimp only at es0 es1 I
  subst es0
  subst es1
  unfold f_X6_mixedInto_L5 t_X6_mixedInto_L5
  try dsimp only
  refine OS.bEq (I.gI _ _ _) (fun v1 => ?_)
  refine OS.i (fun _ => ?_) (fun _ => ?_)
  · exact OS.ret (SR.r (⟨rfl, I⟩))
  · refine OS.bEq (I.gR _ _ _) (fun v4 => ?_)
    refine OS.bEq (I.ld _ _ _) (fun v6 => ?_)
    exact OS.ret (SR.l (⟨rfl, rfl, I⟩))
theorem bL_X6_mixedInto_L5 {α β : Type} {R : α → β → Prop} {h0 : AH} (x0 : Nat) {n : Nat} {h : AH} {C : CH} {s0 : Int64} {s1 : Int32} {k : (Int64 × AH) → Option α} {l : (Int64 × CH) → Option β} (I : CK h0 C h) (k0 : ∀ (w0 : Int64) (h' : AH) (C' : CH), CK h0 C' h' → OS R (k ((w0, h'))) (l ((w0, C')))) : OS R ((iter (f_X6_mixedInto_L5 x0) n (s0, s1, h)).bind k) ((iter (t_X6_mixedInto_L5 x0) n (s0, s1, C)).bind l) := by
  refine OS.b (OS.it (simt_X6_mixedInto_L5 x0) n _ _ ⟨rfl, rfl, I⟩) (fun a c r => ?_)
  obtain ⟨x0, h'⟩ := a
  obtain ⟨zx0, C'⟩ := c
  obtain ⟨ex0, I2⟩ := r
  dsimp only at ex0 I2
  subst ex0
  exact k0 x0 h' C' I2
set_option maxRecDepth 100000 in
set_option maxHeartbeats 4000000 in
theorem simt_X6_mixedInto {h0 h : AH} {C : CH} (a0 : Nat) (a1 : Int64) (I : CK h0 C h) : OS (fun (a : Int64 × AH) (c : Int64 × CH) => a.1 = c.1 ∧ CK h0 c.2 a.2) (f_X6_mixedInto a0 a1 h) (t_X6_mixedInto a0 a1 C) := by
  unfold f_X6_mixedInto t_X6_mixedInto
  refine bL_X6_mixedInto_L5 _ I (fun _ _ _ I => ?_)
  try dsimp only [Sum.elim_inl, Sum.elim_inr]
  exact OS.ret (⟨rfl, I⟩)
set_option maxRecDepth 100000 in
set_option maxHeartbeats 4000000 in
theorem simt_X7_mixedInto {h0 h : AH} {C : CH} (a0 : Nat) (a1 : Int64) (I : CK h0 C h) : OS (fun (a : Int64 × AH) (c : Int64 × CH) => a.1 = c.1 ∧ CK h0 c.2 a.2) (f_X7_mixedInto a0 a1 h) (t_X7_mixedInto a0 a1 C) := by
  unfold f_X7_mixedInto t_X7_mixedInto
  refine OS.bEq (I.gR _ _ _) (fun v1 => ?_)
  refine OS.bEq (I.gI _ _ _) (fun v3 => ?_)
  refine OS.bEq (I.gR _ _ _) (fun v5 => ?_)
  refine OS.bEq (I.gI _ _ _) (fun v7 => ?_)
  refine OS.bEq (I.gR _ _ _) (fun v9 => ?_)
  refine OS.bEq (I.gR _ _ _) (fun v11 => ?_)
  refine OS.bEq (I.cl _ _) (fun _ => ?_)
  refine OS.bP (simt_X6_mixedInto _ _ I) (fun _ _ _ I => ?_)
  try dsimp only
  refine OS.bEq (I.cl _ _) (fun _ => ?_)
  refine OS.bP (simt_X6_mixedInto _ _ I) (fun _ _ _ I => ?_)
  try dsimp only
  exact OS.ret (⟨rfl, I⟩)
set_option maxRecDepth 100000 in
set_option maxHeartbeats 4000000 in
theorem simt_X1_mixedInto_L5 {h0 : AH} (x0 : Nat) (a : Int64 × Int32 × AH) (c : Int64 × Int32 × CH) (r : (fun (a : Int64 × Int32 × AH) (c : Int64 × Int32 × CH) => a.1 = c.1 ∧ a.2.1 = c.2.1 ∧ CK h0 c.2.2 a.2.2) a c) : OS (SR (fun (a : Int64 × Int32 × AH) (c : Int64 × Int32 × CH) => a.1 = c.1 ∧ a.2.1 = c.2.1 ∧ CK h0 c.2.2 a.2.2) (fun (a : Int64 × AH) (c : Int64 × CH) => a.1 = c.1 ∧ CK h0 c.2 a.2)) (f_X1_mixedInto_L5 x0 a) (t_X1_mixedInto_L5 x0 c) := by
  obtain ⟨s0, s1, hs⟩ := a
  obtain ⟨zs0, zs1, Cs⟩ := c
  obtain ⟨es0, es1, I⟩ := r
  dsimp only at es0 es1 I
  subst es0
  subst es1
  unfold f_X1_mixedInto_L5 t_X1_mixedInto_L5
  try dsimp only
  refine OS.bEq (I.gI _ _ _) (fun v1 => ?_)
  refine OS.i (fun _ => ?_) (fun _ => ?_)
  · exact OS.ret (SR.r (⟨rfl, I⟩))
  · refine OS.bEq (I.gR _ _ _) (fun v4 => ?_)
    refine OS.bEq (I.ld _ _ _) (fun v6 => ?_)
    exact OS.ret (SR.l (⟨rfl, rfl, I⟩))
theorem bL_X1_mixedInto_L5 {α β : Type} {R : α → β → Prop} {h0 : AH} (x0 : Nat) {n : Nat} {h : AH} {C : CH} {s0 : Int64} {s1 : Int32} {k : (Int64 × AH) → Option α} {l : (Int64 × CH) → Option β} (I : CK h0 C h) (k0 : ∀ (w0 : Int64) (h' : AH) (C' : CH), CK h0 C' h' → OS R (k ((w0, h'))) (l ((w0, C')))) : OS R ((iter (f_X1_mixedInto_L5 x0) n (s0, s1, h)).bind k) ((iter (t_X1_mixedInto_L5 x0) n (s0, s1, C)).bind l) := by
  refine OS.b (OS.it (simt_X1_mixedInto_L5 x0) n _ _ ⟨rfl, rfl, I⟩) (fun a c r => ?_)
  obtain ⟨x0, h'⟩ := a
  obtain ⟨zx0, C'⟩ := c
  obtain ⟨ex0, I2⟩ := r
  dsimp only at ex0 I2
  subst ex0
  exact k0 x0 h' C' I2
set_option maxRecDepth 100000 in
set_option maxHeartbeats 4000000 in
theorem simt_X1_mixedInto_L38 {h0 : AH} (x0 : Nat) (a : Int64 × Int32 × AH) (c : Int64 × Int32 × CH) (r : (fun (a : Int64 × Int32 × AH) (c : Int64 × Int32 × CH) => a.1 = c.1 ∧ a.2.1 = c.2.1 ∧ CK h0 c.2.2 a.2.2) a c) : OS (SR (fun (a : Int64 × Int32 × AH) (c : Int64 × Int32 × CH) => a.1 = c.1 ∧ a.2.1 = c.2.1 ∧ CK h0 c.2.2 a.2.2) (fun (a : Int64 × AH) (c : Int64 × CH) => a.1 = c.1 ∧ CK h0 c.2 a.2)) (f_X1_mixedInto_L38 x0 a) (t_X1_mixedInto_L38 x0 c) := by
  obtain ⟨s0, s1, hs⟩ := a
  obtain ⟨zs0, zs1, Cs⟩ := c
  obtain ⟨es0, es1, I⟩ := r
  dsimp only at es0 es1 I
  subst es0
  subst es1
  unfold f_X1_mixedInto_L38 t_X1_mixedInto_L38
  try dsimp only
  refine OS.bEq (I.gI _ _ _) (fun v10 => ?_)
  refine OS.i (fun _ => ?_) (fun _ => ?_)
  · exact OS.ret (SR.r (⟨rfl, I⟩))
  · refine OS.bEq (I.gR _ _ _) (fun v13 => ?_)
    refine OS.bEq (I.ld _ _ _) (fun v15 => ?_)
    exact OS.ret (SR.l (⟨rfl, rfl, I⟩))
theorem bL_X1_mixedInto_L38 {α β : Type} {R : α → β → Prop} {h0 : AH} (x0 : Nat) {n : Nat} {h : AH} {C : CH} {s0 : Int64} {s1 : Int32} {k : (Int64 × AH) → Option α} {l : (Int64 × CH) → Option β} (I : CK h0 C h) (k0 : ∀ (w0 : Int64) (h' : AH) (C' : CH), CK h0 C' h' → OS R (k ((w0, h'))) (l ((w0, C')))) : OS R ((iter (f_X1_mixedInto_L38 x0) n (s0, s1, h)).bind k) ((iter (t_X1_mixedInto_L38 x0) n (s0, s1, C)).bind l) := by
  refine OS.b (OS.it (simt_X1_mixedInto_L38 x0) n _ _ ⟨rfl, rfl, I⟩) (fun a c r => ?_)
  obtain ⟨x0, h'⟩ := a
  obtain ⟨zx0, C'⟩ := c
  obtain ⟨ex0, I2⟩ := r
  dsimp only at ex0 I2
  subst ex0
  exact k0 x0 h' C' I2
set_option maxRecDepth 100000 in
set_option maxHeartbeats 4000000 in
theorem simt_X1_mixedInto {h0 h : AH} {C : CH} (a0 : Nat) (a1 : Int64) (I : CK h0 C h) : OS (fun (a : Int64 × AH) (c : Int64 × CH) => a.1 = c.1 ∧ CK h0 c.2 a.2) (f_X1_mixedInto a0 a1 h) (t_X1_mixedInto a0 a1 C) := by
  unfold f_X1_mixedInto t_X1_mixedInto
  refine bL_X1_mixedInto_L5 _ I (fun _ _ _ I => ?_)
  try dsimp only [Sum.elim_inl, Sum.elim_inr]
  refine bL_X1_mixedInto_L38 _ I (fun _ _ _ I => ?_)
  try dsimp only [Sum.elim_inl, Sum.elim_inr]
  exact OS.ret (⟨rfl, I⟩)
set_option maxRecDepth 100000 in
set_option maxHeartbeats 4000000 in
theorem simt_X8_mixedInto {h0 h : AH} {C : CH} (a0 : Nat) (a1 : Int64) (I : CK h0 C h) : OS (fun (a : Int64 × AH) (c : Int64 × CH) => a.1 = c.1 ∧ CK h0 c.2 a.2) (f_X8_mixedInto a0 a1 h) (t_X8_mixedInto a0 a1 C) := by
  unfold f_X8_mixedInto t_X8_mixedInto
  refine OS.bEq (I.gI _ _ _) (fun v1 => ?_)
  refine OS.bEq (I.gI _ _ _) (fun v3 => ?_)
  refine OS.bEq (I.gI _ _ _) (fun v5 => ?_)
  exact OS.ret (⟨rfl, I⟩)
set_option maxRecDepth 100000 in
set_option maxHeartbeats 4000000 in
theorem simt_X5_mixedInto_L5 {h0 : AH} (x0 : Nat) (a : Int64 × Int32 × AH) (c : Int64 × Int32 × CH) (r : (fun (a : Int64 × Int32 × AH) (c : Int64 × Int32 × CH) => a.1 = c.1 ∧ a.2.1 = c.2.1 ∧ CK h0 c.2.2 a.2.2) a c) : OS (SR (fun (a : Int64 × Int32 × AH) (c : Int64 × Int32 × CH) => a.1 = c.1 ∧ a.2.1 = c.2.1 ∧ CK h0 c.2.2 a.2.2) (fun (a : Int64 × AH) (c : Int64 × CH) => a.1 = c.1 ∧ CK h0 c.2 a.2)) (f_X5_mixedInto_L5 x0 a) (t_X5_mixedInto_L5 x0 c) := by
  obtain ⟨s0, s1, hs⟩ := a
  obtain ⟨zs0, zs1, Cs⟩ := c
  obtain ⟨es0, es1, I⟩ := r
  dsimp only at es0 es1 I
  subst es0
  subst es1
  unfold f_X5_mixedInto_L5 t_X5_mixedInto_L5
  try dsimp only
  refine OS.bEq (I.gI _ _ _) (fun v1 => ?_)
  refine OS.i (fun _ => ?_) (fun _ => ?_)
  · exact OS.ret (SR.r (⟨rfl, I⟩))
  · refine OS.bEq (I.gR _ _ _) (fun v4 => ?_)
    refine OS.bEq (I.ld _ _ _) (fun v6 => ?_)
    refine OS.bEq (I.gR _ _ _) (fun v8 => ?_)
    refine OS.bEq (I.ld _ _ _) (fun v10 => ?_)
    exact OS.ret (SR.l (⟨rfl, rfl, I⟩))
theorem bL_X5_mixedInto_L5 {α β : Type} {R : α → β → Prop} {h0 : AH} (x0 : Nat) {n : Nat} {h : AH} {C : CH} {s0 : Int64} {s1 : Int32} {k : (Int64 × AH) → Option α} {l : (Int64 × CH) → Option β} (I : CK h0 C h) (k0 : ∀ (w0 : Int64) (h' : AH) (C' : CH), CK h0 C' h' → OS R (k ((w0, h'))) (l ((w0, C')))) : OS R ((iter (f_X5_mixedInto_L5 x0) n (s0, s1, h)).bind k) ((iter (t_X5_mixedInto_L5 x0) n (s0, s1, C)).bind l) := by
  refine OS.b (OS.it (simt_X5_mixedInto_L5 x0) n _ _ ⟨rfl, rfl, I⟩) (fun a c r => ?_)
  obtain ⟨x0, h'⟩ := a
  obtain ⟨zx0, C'⟩ := c
  obtain ⟨ex0, I2⟩ := r
  dsimp only at ex0 I2
  subst ex0
  exact k0 x0 h' C' I2
set_option maxRecDepth 100000 in
set_option maxHeartbeats 4000000 in
theorem simt_X5_mixedInto {h0 h : AH} {C : CH} (a0 : Nat) (a1 : Int64) (I : CK h0 C h) : OS (fun (a : Int64 × AH) (c : Int64 × CH) => a.1 = c.1 ∧ CK h0 c.2 a.2) (f_X5_mixedInto a0 a1 h) (t_X5_mixedInto a0 a1 C) := by
  unfold f_X5_mixedInto t_X5_mixedInto
  refine bL_X5_mixedInto_L5 _ I (fun _ _ _ I => ?_)
  try dsimp only [Sum.elim_inl, Sum.elim_inr]
  exact OS.ret (⟨rfl, I⟩)
set_option maxRecDepth 100000 in
set_option maxHeartbeats 4000000 in
theorem simt_X11_digest_L6 {h0 : AH} (x0 : Nat) (a : Int64 × Int32 × AH) (c : Int64 × Int32 × CH) (r : (fun (a : Int64 × Int32 × AH) (c : Int64 × Int32 × CH) => a.1 = c.1 ∧ a.2.1 = c.2.1 ∧ CK h0 c.2.2 a.2.2) a c) : OS (SR (fun (a : Int64 × Int32 × AH) (c : Int64 × Int32 × CH) => a.1 = c.1 ∧ a.2.1 = c.2.1 ∧ CK h0 c.2.2 a.2.2) (fun (a : Int64 × AH) (c : Int64 × CH) => a.1 = c.1 ∧ CK h0 c.2 a.2)) (f_X11_digest_L6 x0 a) (t_X11_digest_L6 x0 c) := by
  obtain ⟨s0, s1, hs⟩ := a
  obtain ⟨zs0, zs1, Cs⟩ := c
  obtain ⟨es0, es1, I⟩ := r
  dsimp only at es0 es1 I
  subst es0
  subst es1
  unfold f_X11_digest_L6 t_X11_digest_L6
  try dsimp only
  refine OS.i (fun _ => ?_) (fun _ => ?_)
  · exact OS.ret (SR.r (⟨rfl, I⟩))
  · refine OS.bEq (I.cl _ _) (fun _ => ?_)
    refine OS.bP (simt_X11_count _ _ I) (fun _ _ _ I => ?_)
    try dsimp only
    exact OS.ret (SR.l (⟨rfl, rfl, I⟩))
theorem bL_X11_digest_L6 {α β : Type} {R : α → β → Prop} {h0 : AH} (x0 : Nat) {n : Nat} {h : AH} {C : CH} {s0 : Int64} {s1 : Int32} {k : (Int64 × AH) → Option α} {l : (Int64 × CH) → Option β} (I : CK h0 C h) (k0 : ∀ (w0 : Int64) (h' : AH) (C' : CH), CK h0 C' h' → OS R (k ((w0, h'))) (l ((w0, C')))) : OS R ((iter (f_X11_digest_L6 x0) n (s0, s1, h)).bind k) ((iter (t_X11_digest_L6 x0) n (s0, s1, C)).bind l) := by
  refine OS.b (OS.it (simt_X11_digest_L6 x0) n _ _ ⟨rfl, rfl, I⟩) (fun a c r => ?_)
  obtain ⟨x0, h'⟩ := a
  obtain ⟨zx0, C'⟩ := c
  obtain ⟨ex0, I2⟩ := r
  dsimp only at ex0 I2
  subst ex0
  exact k0 x0 h' C' I2
set_option maxRecDepth 100000 in
set_option maxHeartbeats 4000000 in
theorem simt_X11_digest_L42 {h0 : AH} (x0 : Nat) (a : Int64 × Int32 × AH) (c : Int64 × Int32 × CH) (r : (fun (a : Int64 × Int32 × AH) (c : Int64 × Int32 × CH) => a.1 = c.1 ∧ a.2.1 = c.2.1 ∧ CK h0 c.2.2 a.2.2) a c) : OS (SR (fun (a : Int64 × Int32 × AH) (c : Int64 × Int32 × CH) => a.1 = c.1 ∧ a.2.1 = c.2.1 ∧ CK h0 c.2.2 a.2.2) (fun (a : Int64 × AH) (c : Int64 × CH) => a.1 = c.1 ∧ CK h0 c.2 a.2)) (f_X11_digest_L42 x0 a) (t_X11_digest_L42 x0 c) := by
  obtain ⟨s0, s1, hs⟩ := a
  obtain ⟨zs0, zs1, Cs⟩ := c
  obtain ⟨es0, es1, I⟩ := r
  dsimp only at es0 es1 I
  subst es0
  subst es1
  unfold f_X11_digest_L42 t_X11_digest_L42
  try dsimp only
  refine OS.bEq (I.gR _ _ _) (fun v12 => ?_)
  refine OS.bEq (I.cl _ _) (fun _ => ?_)
  refine OS.bP (simt_Jx4a65c_size_8abf5 _ I) (fun _ _ _ I => ?_)
  try dsimp only
  refine OS.i (fun _ => ?_) (fun _ => ?_)
  · exact OS.ret (SR.r (⟨rfl, I⟩))
  · refine OS.bEq (I.gR _ _ _) (fun v18 => ?_)
    refine OS.bEq (I.cl _ _) (fun _ => ?_)
    refine OS.bP (simt_Jx4a65c_get_915e3 _ _ I) (fun _ _ _ I => ?_)
    try dsimp only
    refine OS.bEq (I.cl _ _) (fun _ => ?_)
    refine OS.bEq (I.cl _ _) (fun _ => ?_)
    refine OS.bP (simt_X7_mixedInto _ _ I) (fun _ _ _ I => ?_)
    try dsimp only
    exact OS.ret (SR.l (⟨rfl, rfl, I⟩))
theorem bL_X11_digest_L42 {α β : Type} {R : α → β → Prop} {h0 : AH} (x0 : Nat) {n : Nat} {h : AH} {C : CH} {s0 : Int64} {s1 : Int32} {k : (Int64 × AH) → Option α} {l : (Int64 × CH) → Option β} (I : CK h0 C h) (k0 : ∀ (w0 : Int64) (h' : AH) (C' : CH), CK h0 C' h' → OS R (k ((w0, h'))) (l ((w0, C')))) : OS R ((iter (f_X11_digest_L42 x0) n (s0, s1, h)).bind k) ((iter (t_X11_digest_L42 x0) n (s0, s1, C)).bind l) := by
  refine OS.b (OS.it (simt_X11_digest_L42 x0) n _ _ ⟨rfl, rfl, I⟩) (fun a c r => ?_)
  obtain ⟨x0, h'⟩ := a
  obtain ⟨zx0, C'⟩ := c
  obtain ⟨ex0, I2⟩ := r
  dsimp only at ex0 I2
  subst ex0
  exact k0 x0 h' C' I2
set_option maxRecDepth 100000 in
set_option maxHeartbeats 4000000 in
theorem simt_X11_digest_L95 {h0 : AH} (x0 : Nat) (a : Int64 × Int32 × AH) (c : Int64 × Int32 × CH) (r : (fun (a : Int64 × Int32 × AH) (c : Int64 × Int32 × CH) => a.1 = c.1 ∧ a.2.1 = c.2.1 ∧ CK h0 c.2.2 a.2.2) a c) : OS (SR (fun (a : Int64 × Int32 × AH) (c : Int64 × Int32 × CH) => a.1 = c.1 ∧ a.2.1 = c.2.1 ∧ CK h0 c.2.2 a.2.2) (fun (a : Int64 × AH) (c : Int64 × CH) => a.1 = c.1 ∧ CK h0 c.2 a.2)) (f_X11_digest_L95 x0 a) (t_X11_digest_L95 x0 c) := by
  obtain ⟨s0, s1, hs⟩ := a
  obtain ⟨zs0, zs1, Cs⟩ := c
  obtain ⟨es0, es1, I⟩ := r
  dsimp only at es0 es1 I
  subst es0
  subst es1
  unfold f_X11_digest_L95 t_X11_digest_L95
  try dsimp only
  refine OS.bEq (I.gR _ _ _) (fun v39 => ?_)
  refine OS.bEq (I.cl _ _) (fun _ => ?_)
  refine OS.bP (simt_Jx4a65c_size_8abf5 _ I) (fun _ _ _ I => ?_)
  try dsimp only
  refine OS.i (fun _ => ?_) (fun _ => ?_)
  · exact OS.ret (SR.r (⟨rfl, I⟩))
  · refine OS.bEq (I.gR _ _ _) (fun v45 => ?_)
    refine OS.bEq (I.cl _ _) (fun _ => ?_)
    refine OS.bP (simt_Jx4a65c_get_915e3 _ _ I) (fun _ _ _ I => ?_)
    try dsimp only
    refine OS.bEq (I.cl _ _) (fun _ => ?_)
    refine OS.bEq (I.cl _ _) (fun _ => ?_)
    refine OS.bP (simt_X8_mixedInto _ _ I) (fun _ _ _ I => ?_)
    try dsimp only
    exact OS.ret (SR.l (⟨rfl, rfl, I⟩))
theorem bL_X11_digest_L95 {α β : Type} {R : α → β → Prop} {h0 : AH} (x0 : Nat) {n : Nat} {h : AH} {C : CH} {s0 : Int64} {s1 : Int32} {k : (Int64 × AH) → Option α} {l : (Int64 × CH) → Option β} (I : CK h0 C h) (k0 : ∀ (w0 : Int64) (h' : AH) (C' : CH), CK h0 C' h' → OS R (k ((w0, h'))) (l ((w0, C')))) : OS R ((iter (f_X11_digest_L95 x0) n (s0, s1, h)).bind k) ((iter (t_X11_digest_L95 x0) n (s0, s1, C)).bind l) := by
  refine OS.b (OS.it (simt_X11_digest_L95 x0) n _ _ ⟨rfl, rfl, I⟩) (fun a c r => ?_)
  obtain ⟨x0, h'⟩ := a
  obtain ⟨zx0, C'⟩ := c
  obtain ⟨ex0, I2⟩ := r
  dsimp only at ex0 I2
  subst ex0
  exact k0 x0 h' C' I2
set_option maxRecDepth 100000 in
set_option maxHeartbeats 4000000 in
theorem simt_X11_digest_L130 {h0 : AH} (x0 : Nat) (a : Int64 × Int32 × AH) (c : Int64 × Int32 × CH) (r : (fun (a : Int64 × Int32 × AH) (c : Int64 × Int32 × CH) => a.1 = c.1 ∧ a.2.1 = c.2.1 ∧ CK h0 c.2.2 a.2.2) a c) : OS (SR (fun (a : Int64 × Int32 × AH) (c : Int64 × Int32 × CH) => a.1 = c.1 ∧ a.2.1 = c.2.1 ∧ CK h0 c.2.2 a.2.2) (fun (a : Int64 × AH) (c : Int64 × CH) => a.1 = c.1 ∧ CK h0 c.2 a.2)) (f_X11_digest_L130 x0 a) (t_X11_digest_L130 x0 c) := by
  obtain ⟨s0, s1, hs⟩ := a
  obtain ⟨zs0, zs1, Cs⟩ := c
  obtain ⟨es0, es1, I⟩ := r
  dsimp only at es0 es1 I
  subst es0
  subst es1
  unfold f_X11_digest_L130 t_X11_digest_L130
  try dsimp only
  refine OS.bEq (I.gR _ _ _) (fun v56 => ?_)
  refine OS.bEq (I.cl _ _) (fun _ => ?_)
  refine OS.bP (simt_Jx4a65c_size_8abf5 _ I) (fun _ _ _ I => ?_)
  try dsimp only
  refine OS.i (fun _ => ?_) (fun _ => ?_)
  · exact OS.ret (SR.r (⟨rfl, I⟩))
  · refine OS.bEq (I.gR _ _ _) (fun v62 => ?_)
    refine OS.bEq (I.cl _ _) (fun _ => ?_)
    refine OS.bP (simt_Jx4a65c_get_915e3 _ _ I) (fun _ _ _ I => ?_)
    try dsimp only
    refine OS.bEq (I.cl _ _) (fun _ => ?_)
    refine OS.bEq (I.cl _ _) (fun _ => ?_)
    refine OS.bP (simt_X10_mixedInto _ _ I) (fun _ _ _ I => ?_)
    try dsimp only
    exact OS.ret (SR.l (⟨rfl, rfl, I⟩))
theorem bL_X11_digest_L130 {α β : Type} {R : α → β → Prop} {h0 : AH} (x0 : Nat) {n : Nat} {h : AH} {C : CH} {s0 : Int64} {s1 : Int32} {k : (Int64 × AH) → Option α} {l : (Int64 × CH) → Option β} (I : CK h0 C h) (k0 : ∀ (w0 : Int64) (h' : AH) (C' : CH), CK h0 C' h' → OS R (k ((w0, h'))) (l ((w0, C')))) : OS R ((iter (f_X11_digest_L130 x0) n (s0, s1, h)).bind k) ((iter (t_X11_digest_L130 x0) n (s0, s1, C)).bind l) := by
  refine OS.b (OS.it (simt_X11_digest_L130 x0) n _ _ ⟨rfl, rfl, I⟩) (fun a c r => ?_)
  obtain ⟨x0, h'⟩ := a
  obtain ⟨zx0, C'⟩ := c
  obtain ⟨ex0, I2⟩ := r
  dsimp only at ex0 I2
  subst ex0
  exact k0 x0 h' C' I2
set_option maxRecDepth 100000 in
set_option maxHeartbeats 4000000 in
theorem simt_X11_digest {h0 h : AH} {C : CH} (a0 : Nat) (I : CK h0 C h) : OS (fun (a : Int64 × AH) (c : Int64 × CH) => a.1 = c.1 ∧ CK h0 c.2 a.2) (f_X11_digest a0 h) (t_X11_digest a0 C) := by
  unfold f_X11_digest t_X11_digest
  refine bL_X11_digest_L6 _ I (fun _ _ _ I => ?_)
  try dsimp only [Sum.elim_inl, Sum.elim_inr]
  refine OS.bEq (I.gR _ _ _) (fun v7 => ?_)
  refine OS.bEq (I.cl _ _) (fun _ => ?_)
  refine OS.bP (simt_X6_mixedInto _ _ I) (fun _ _ _ I => ?_)
  try dsimp only
  refine bL_X11_digest_L42 _ I (fun _ _ _ I => ?_)
  try dsimp only [Sum.elim_inl, Sum.elim_inr]
  refine OS.bEq (I.gR _ _ _) (fun v29 => ?_)
  refine OS.bEq (I.cl _ _) (fun _ => ?_)
  refine OS.bP (simt_X0_mixedInto _ _ I) (fun _ _ _ I => ?_)
  try dsimp only
  refine OS.bEq (I.gR _ _ _) (fun v34 => ?_)
  refine OS.bEq (I.cl _ _) (fun _ => ?_)
  refine OS.bP (simt_X1_mixedInto _ _ I) (fun _ _ _ I => ?_)
  try dsimp only
  refine bL_X11_digest_L95 _ I (fun _ _ _ I => ?_)
  try dsimp only [Sum.elim_inl, Sum.elim_inr]
  refine bL_X11_digest_L130 _ I (fun _ _ _ I => ?_)
  try dsimp only [Sum.elim_inl, Sum.elim_inr]
  refine OS.bEq (I.gR _ _ _) (fun v73 => ?_)
  refine OS.bEq (I.cl _ _) (fun _ => ?_)
  refine OS.bP (simt_X5_mixedInto _ _ I) (fun _ _ _ I => ?_)
  try dsimp only
  exact OS.ret (⟨rfl, I⟩)
set_option maxRecDepth 100000 in
set_option maxHeartbeats 4000000 in
theorem simt_X11_floor {h0 h : AH} {C : CH} (a0 : Nat) (a1 : Int32) (I : CK h0 C h) : OS (fun (a : Int32 × AH) (c : Int32 × CH) => a.1 = c.1 ∧ CK h0 c.2 a.2) (f_X11_floor a0 a1 h) (t_X11_floor a0 a1 C) := by
  unfold f_X11_floor t_X11_floor
  refine OS.bP (simt_X11_within _ _ _ I) (fun _ _ _ I => ?_)
  try dsimp only
  refine OS.i (fun _ => ?_) (fun _ => ?_)
  · exact OS.ret (⟨rfl, I⟩)
  · refine OS.bEq (I.gR _ _ _) (fun v4 => ?_)
    refine OS.bEq (I.gI _ _ _) (fun v6 => ?_)
    refine OS.bEq (I.gR _ _ _) (fun v8 => ?_)
    refine OS.b (I.pF _ _ _ _) (fun _ _ I => ?_)
    refine OS.bEq (I.gR _ _ _) (fun v12 => ?_)
    refine OS.b (I.pF _ _ _ _) (fun _ _ I => ?_)
    exact OS.ret (⟨rfl, I⟩)
set_option maxRecDepth 100000 in
set_option maxHeartbeats 4000000 in
theorem simt_X11_ofLatest {h0 h : AH} {C : CH} (a0 : Nat) (a1 : Nat) (a2 : Int32) (I : CK h0 C h) : OS (fun (a : Int32 × AH) (c : Int32 × CH) => a.1 = c.1 ∧ CK h0 c.2 a.2) (f_X11_ofLatest a0 a1 a2 h) (t_X11_ofLatest a0 a1 a2 C) := by
  unfold f_X11_ofLatest t_X11_ofLatest
  refine OS.i (fun _ => ?_) (fun _ => ?_)
  · refine OS.bEq (I.gR _ _ _) (fun v2 => ?_)
    refine OS.bEq (I.gI _ _ _) (fun v4 => ?_)
    refine OS.i (fun _ => ?_) (fun _ => ?_)
    · exact OS.ret (⟨rfl, I⟩)
    · refine OS.bEq (I.len _) (fun v7 => ?_)
      refine OS.i (fun _ => ?_) (fun _ => ?_)
      · exact OS.ret (⟨rfl, I⟩)
      · refine OS.bEq (I.ld _ _ _) (fun v10 => ?_)
        exact OS.ret (⟨rfl, I⟩)
  · exact OS.ret (⟨rfl, I⟩)
set_option maxRecDepth 100000 in
set_option maxHeartbeats 4000000 in
theorem simt_X11_force {h0 h : AH} {C : CH} (a0 : Nat) (a1 : Int32) (I : CK h0 C h) : OS (fun (a : Int32 × AH) (c : Int32 × CH) => a.1 = c.1 ∧ CK h0 c.2 a.2) (f_X11_force a0 a1 h) (t_X11_force a0 a1 C) := by
  unfold f_X11_force t_X11_force
  refine OS.bEq (I.gR _ _ _) (fun v1 => ?_)
  refine OS.bEq (I.gR _ _ _) (fun v3 => ?_)
  refine OS.bEq (I.cl _ _) (fun _ => ?_)
  refine OS.bP (simt_X11_ofLatest _ _ _ I) (fun _ _ _ I => ?_)
  try dsimp only
  exact OS.ret (⟨rfl, I⟩)
set_option maxRecDepth 100000 in
set_option maxHeartbeats 4000000 in
theorem simt_X11_hand {h0 h : AH} {C : CH} (a0 : Nat) (a1 : Int32) (a2 : Int32) (a3 : Int32) (a4 : Int32) (I : CK h0 C h) : OS (fun (a : Int32 × AH) (c : Int32 × CH) => a.1 = c.1 ∧ CK h0 c.2 a.2) (f_X11_hand a0 a1 a2 a3 a4 h) (t_X11_hand a0 a1 a2 a3 a4 C) := by
  unfold f_X11_hand t_X11_hand
  refine OS.bP (simt_X11_within _ _ _ I) (fun _ _ _ I => ?_)
  try dsimp only
  refine OS.i (fun _ => ?_) (fun _ => ?_)
  · exact OS.ret (⟨rfl, I⟩)
  · refine OS.bP (simt_X11_within _ _ _ I) (fun _ _ _ I => ?_)
    try dsimp only
    refine OS.i (fun _ => ?_) (fun _ => ?_)
    · exact OS.ret (⟨rfl, I⟩)
    · refine OS.bP (simt_X11_within _ _ _ I) (fun _ _ _ I => ?_)
      try dsimp only
      refine OS.i (fun _ => ?_) (fun _ => ?_)
      · exact OS.ret (⟨rfl, I⟩)
      · refine OS.bP (simt_X11_within _ _ _ I) (fun _ _ _ I => ?_)
        try dsimp only
        refine OS.i (fun _ => ?_) (fun _ => ?_)
        · exact OS.ret (⟨rfl, I⟩)
        · refine OS.bEq (I.gR _ _ _) (fun v13 => ?_)
          refine OS.bEq (I.cl _ _) (fun _ => ?_)
          refine OS.bP (simt_X0_add _ _ _ _ _ I) (fun _ _ _ I => ?_)
          try dsimp only
          refine OS.i (fun _ => ?_) (fun _ => ?_)
          · exact OS.ret (⟨rfl, I⟩)
          · refine OS.bEq (I.gR _ _ _) (fun v19 => ?_)
            refine OS.b (I.pF _ _ _ _) (fun _ _ I => ?_)
            refine OS.bEq (I.gR _ _ _) (fun v23 => ?_)
            refine OS.bEq (I.gI _ _ _) (fun v25 => ?_)
            exact OS.ret (⟨rfl, I⟩)
set_option maxRecDepth 100000 in
set_option maxHeartbeats 4000000 in
theorem simt_X2_hangNearest_L30 {h0 : AH} (x0 : Nat) (x1 : Nat) (x5 : Int32) (a : Int32 × Int32 × Int32 × Int32 × AH) (c : Int32 × Int32 × Int32 × Int32 × CH) (r : (fun (a : Int32 × Int32 × Int32 × Int32 × AH) (c : Int32 × Int32 × Int32 × Int32 × CH) => a.1 = c.1 ∧ a.2.1 = c.2.1 ∧ a.2.2.1 = c.2.2.1 ∧ a.2.2.2.1 = c.2.2.2.1 ∧ CK h0 c.2.2.2.2 a.2.2.2.2) a c) : OS (SR (fun (a : Int32 × Int32 × Int32 × Int32 × AH) (c : Int32 × Int32 × Int32 × Int32 × CH) => a.1 = c.1 ∧ a.2.1 = c.2.1 ∧ a.2.2.1 = c.2.2.1 ∧ a.2.2.2.1 = c.2.2.2.1 ∧ CK h0 c.2.2.2.2 a.2.2.2.2) (fun (a : Int32 × Int32 × Int32 × AH) (c : Int32 × Int32 × Int32 × CH) => a.1 = c.1 ∧ a.2.1 = c.2.1 ∧ a.2.2.1 = c.2.2.1 ∧ CK h0 c.2.2.2 a.2.2.2)) (f_X2_hangNearest_L30 x0 x1 x5 a) (t_X2_hangNearest_L30 x0 x1 x5 c) := by
  obtain ⟨s0, s1, s2, s3, hs⟩ := a
  obtain ⟨zs0, zs1, zs2, zs3, Cs⟩ := c
  obtain ⟨es0, es1, es2, es3, I⟩ := r
  dsimp only at es0 es1 es2 es3 I
  subst es0
  subst es1
  subst es2
  subst es3
  unfold f_X2_hangNearest_L30 t_X2_hangNearest_L30
  try dsimp only
  refine OS.bEq (I.cl _ _) (fun _ => ?_)
  refine OS.bP (simt_Jx4a65c_size_8abf5 _ I) (fun _ _ _ I => ?_)
  try dsimp only
  refine OS.i (fun _ => ?_) (fun _ => ?_)
  · exact OS.ret (SR.r (⟨rfl, rfl, rfl, I⟩))
  · refine OS.i (fun _ => ?_) (fun _ => ?_)
    · exact OS.ret (SR.r (⟨rfl, rfl, rfl, I⟩))
    · refine OS.bEq (I.gR _ _ _) (fun v11 => ?_)
      refine OS.bEq (I.ld _ _ _) (fun v13 => ?_)
      refine OS.i (fun _ => ?_) (fun _ => ?_)
      · refine OS.bEq (I.gR _ _ _) (fun v16 => ?_)
        refine OS.bEq (I.ld _ _ _) (fun v18 => ?_)
        refine OS.i (fun _ => ?_) (fun _ => ?_)
        · exact OS.ret (SR.l (⟨rfl, rfl, rfl, rfl, I⟩))
        · refine OS.bEq (I.cl _ _) (fun _ => ?_)
          refine OS.bP (simt_Jx4a65c_get_915e3 _ _ I) (fun _ _ _ I => ?_)
          try dsimp only
          refine OS.bEq (I.cl _ _) (fun _ => ?_)
          refine OS.bEq (I.cl _ _) (fun _ => ?_)
          refine OS.bP (simt_Jx4a65c_get_915e3 _ _ I) (fun _ _ _ I => ?_)
          try dsimp only
          refine OS.bEq (I.cl _ _) (fun _ => ?_)
          refine OS.bEq (I.cl _ _) (fun _ => ?_)
          refine OS.bP (simt_X2_distance _ _ _ I) (fun _ _ _ I => ?_)
          try dsimp only
          refine OS.i (fun _ => ?_) (fun _ => ?_)
          · exact OS.ret (SR.l (⟨rfl, rfl, rfl, rfl, I⟩))
          · exact OS.ret (SR.l (⟨rfl, rfl, rfl, rfl, I⟩))
      · exact OS.ret (SR.l (⟨rfl, rfl, rfl, rfl, I⟩))
theorem bL_X2_hangNearest_L30 {α β : Type} {R : α → β → Prop} {h0 : AH} (x0 : Nat) (x1 : Nat) (x5 : Int32) {n : Nat} {h : AH} {C : CH} {s0 : Int32} {s1 : Int32} {s2 : Int32} {s3 : Int32} {k : (Int32 × Int32 × Int32 × AH) → Option α} {l : (Int32 × Int32 × Int32 × CH) → Option β} (I : CK h0 C h) (k0 : ∀ (w0 : Int32) (w1 : Int32) (w2 : Int32) (h' : AH) (C' : CH), CK h0 C' h' → OS R (k ((w0, w1, w2, h'))) (l ((w0, w1, w2, C')))) : OS R ((iter (f_X2_hangNearest_L30 x0 x1 x5) n (s0, s1, s2, s3, h)).bind k) ((iter (t_X2_hangNearest_L30 x0 x1 x5) n (s0, s1, s2, s3, C)).bind l) := by
  refine OS.b (OS.it (simt_X2_hangNearest_L30 x0 x1 x5) n _ _ ⟨rfl, rfl, rfl, rfl, I⟩) (fun a c r => ?_)
  obtain ⟨x0, x1, x2, h'⟩ := a
  obtain ⟨zx0, zx1, zx2, C'⟩ := c
  obtain ⟨ex0, ex1, ex2, I2⟩ := r
  dsimp only at ex0 ex1 ex2 I2
  subst ex0
  subst ex1
  subst ex2
  exact k0 x0 x1 x2 h' C' I2
set_option maxRecDepth 100000 in
set_option maxHeartbeats 4000000 in
theorem simt_X2_hangNearest_L11 {h0 : AH} (x0 : Nat) (x1 : Nat) (a : Int32 × Int32 × Int32 × Int32 × AH) (c : Int32 × Int32 × Int32 × Int32 × CH) (r : (fun (a : Int32 × Int32 × Int32 × Int32 × AH) (c : Int32 × Int32 × Int32 × Int32 × CH) => a.1 = c.1 ∧ a.2.1 = c.2.1 ∧ a.2.2.1 = c.2.2.1 ∧ a.2.2.2.1 = c.2.2.2.1 ∧ CK h0 c.2.2.2.2 a.2.2.2.2) a c) : OS (SR (fun (a : Int32 × Int32 × Int32 × Int32 × AH) (c : Int32 × Int32 × Int32 × Int32 × CH) => a.1 = c.1 ∧ a.2.1 = c.2.1 ∧ a.2.2.1 = c.2.2.1 ∧ a.2.2.2.1 = c.2.2.2.1 ∧ CK h0 c.2.2.2.2 a.2.2.2.2) (fun (a : Int32 × Int32 × Int32 × AH) (c : Int32 × Int32 × Int32 × CH) => a.1 = c.1 ∧ a.2.1 = c.2.1 ∧ a.2.2.1 = c.2.2.1 ∧ CK h0 c.2.2.2 a.2.2.2)) (f_X2_hangNearest_L11 x0 x1 a) (t_X2_hangNearest_L11 x0 x1 c) := by
  obtain ⟨s0, s1, s2, s3, hs⟩ := a
  obtain ⟨zs0, zs1, zs2, zs3, Cs⟩ := c
  obtain ⟨es0, es1, es2, es3, I⟩ := r
  dsimp only at es0 es1 es2 es3 I
  subst es0
  subst es1
  subst es2
  subst es3
  unfold f_X2_hangNearest_L11 t_X2_hangNearest_L11
  try dsimp only
  refine OS.bEq (I.cl _ _) (fun _ => ?_)
  refine OS.bP (simt_Jx4a65c_size_8abf5 _ I) (fun _ _ _ I => ?_)
  try dsimp only
  refine OS.i (fun _ => ?_) (fun _ => ?_)
  · exact OS.ret (SR.r (⟨rfl, rfl, rfl, I⟩))
  · refine OS.i (fun _ => ?_) (fun _ => ?_)
    · exact OS.ret (SR.r (⟨rfl, rfl, rfl, I⟩))
    · refine bL_X2_hangNearest_L30 _ _ _ I (fun _ _ _ _ _ I => ?_)
      try dsimp only [Sum.elim_inl, Sum.elim_inr]
      exact OS.ret (SR.l (⟨rfl, rfl, rfl, rfl, I⟩))
theorem bL_X2_hangNearest_L11 {α β : Type} {R : α → β → Prop} {h0 : AH} (x0 : Nat) (x1 : Nat) {n : Nat} {h : AH} {C : CH} {s0 : Int32} {s1 : Int32} {s2 : Int32} {s3 : Int32} {k : (Int32 × Int32 × Int32 × AH) → Option α} {l : (Int32 × Int32 × Int32 × CH) → Option β} (I : CK h0 C h) (k0 : ∀ (w0 : Int32) (w1 : Int32) (w2 : Int32) (h' : AH) (C' : CH), CK h0 C' h' → OS R (k ((w0, w1, w2, h'))) (l ((w0, w1, w2, C')))) : OS R ((iter (f_X2_hangNearest_L11 x0 x1) n (s0, s1, s2, s3, h)).bind k) ((iter (t_X2_hangNearest_L11 x0 x1) n (s0, s1, s2, s3, C)).bind l) := by
  refine OS.b (OS.it (simt_X2_hangNearest_L11 x0 x1) n _ _ ⟨rfl, rfl, rfl, rfl, I⟩) (fun a c r => ?_)
  obtain ⟨x0, x1, x2, h'⟩ := a
  obtain ⟨zx0, zx1, zx2, C'⟩ := c
  obtain ⟨ex0, ex1, ex2, I2⟩ := r
  dsimp only at ex0 ex1 ex2 I2
  subst ex0
  subst ex1
  subst ex2
  exact k0 x0 x1 x2 h' C' I2
set_option maxRecDepth 100000 in
set_option maxHeartbeats 4000000 in
theorem simt_X2_hangNearest {h0 h : AH} {C : CH} (a0 : Nat) (a1 : Nat) (I : CK h0 C h) : OS (fun (a : Int32 × AH) (c : Int32 × CH) => a.1 = c.1 ∧ CK h0 c.2 a.2) (f_X2_hangNearest a0 a1 h) (t_X2_hangNearest a0 a1 C) := by
  unfold f_X2_hangNearest t_X2_hangNearest
  refine bL_X2_hangNearest_L11 _ _ I (fun _ _ _ _ _ I => ?_)
  try dsimp only [Sum.elim_inl, Sum.elim_inr]
  refine OS.bEq (I.gR _ _ _) (fun v37 => ?_)
  refine OS.b (I.st _ _ _ _) (fun _ _ I => ?_)
  refine OS.bEq (I.gR _ _ _) (fun v41 => ?_)
  refine OS.b (I.st _ _ _ _) (fun _ _ I => ?_)
  exact OS.ret (⟨rfl, I⟩)
set_option maxRecDepth 100000 in
set_option maxHeartbeats 4000000 in
theorem simt_X2_growTree_L2_J22 {h0 h : AH} {C : CH} (x0 : Nat) (x1 : Nat) (y2 : Int32) (z0 : Int32) (z1 : Int32) (z2 : Nat) (I : CK h0 C h) : OS (SR (fun (a : Int32 × AH) (c : Int32 × CH) => a.1 = c.1 ∧ CK h0 c.2 a.2) (fun (a : AH) (c : CH) => CK h0 c a)) (f_X2_growTree_L2_J22 x0 x1 y2 z0 z1 z2 h) (t_X2_growTree_L2_J22 x0 x1 y2 z0 z1 z2 C) := by
  unfold f_X2_growTree_L2_J22 t_X2_growTree_L2_J22
  refine OS.bEq (OS.rfl' _) (fun _ => ?_)
  refine OS.b (I.st _ _ _ _) (fun _ _ I => ?_)
  refine OS.bEq (I.gR _ _ _) (fun v8 => ?_)
  refine OS.b (I.st _ _ _ _) (fun _ _ I => ?_)
  exact OS.ret (SR.l (⟨rfl, I⟩))
set_option maxRecDepth 100000 in
set_option maxHeartbeats 4000000 in
theorem simt_X2_growTree_L2 {h0 : AH} (x0 : Nat) (x1 : Nat) (a : Int32 × AH) (c : Int32 × CH) (r : (fun (a : Int32 × AH) (c : Int32 × CH) => a.1 = c.1 ∧ CK h0 c.2 a.2) a c) : OS (SR (fun (a : Int32 × AH) (c : Int32 × CH) => a.1 = c.1 ∧ CK h0 c.2 a.2) (fun (a : AH) (c : CH) => CK h0 c a)) (f_X2_growTree_L2 x0 x1 a) (t_X2_growTree_L2 x0 x1 c) := by
  obtain ⟨s0, hs⟩ := a
  obtain ⟨zs0, Cs⟩ := c
  obtain ⟨es0, I⟩ := r
  dsimp only at es0 I
  subst es0
  unfold f_X2_growTree_L2 t_X2_growTree_L2
  try dsimp only
  refine OS.i (fun _ => ?_) (fun _ => ?_)
  · exact OS.ret (SR.r (I))
  · refine OS.bEq (I.gR _ _ _) (fun v2 => ?_)
    refine OS.i (fun _ => ?_) (fun _ => ?_)
    · exact simt_X2_growTree_L2_J22 _ _ _ _ _ _ I
    · exact simt_X2_growTree_L2_J22 _ _ _ _ _ _ I
theorem bL_X2_growTree_L2 {α β : Type} {R : α → β → Prop} {h0 : AH} (x0 : Nat) (x1 : Nat) {n : Nat} {h : AH} {C : CH} {s0 : Int32} {k : (AH) → Option α} {l : (CH) → Option β} (I : CK h0 C h) (k0 : ∀ (h' : AH) (C' : CH), CK h0 C' h' → OS R (k (h')) (l (C'))) : OS R ((iter (f_X2_growTree_L2 x0 x1) n (s0, h)).bind k) ((iter (t_X2_growTree_L2 x0 x1) n (s0, C)).bind l) := by
  refine OS.b (OS.it (simt_X2_growTree_L2 x0 x1) n _ _ ⟨rfl, I⟩) (fun a c r => ?_)
  exact k0 a c r
set_option maxRecDepth 100000 in
set_option maxHeartbeats 4000000 in
theorem simt_X2_growTree_L40 {h0 : AH} (x0 : Nat) (x1 : Nat) (a : Int32 × Int32 × AH) (c : Int32 × Int32 × CH) (r : (fun (a : Int32 × Int32 × AH) (c : Int32 × Int32 × CH) => a.1 = c.1 ∧ a.2.1 = c.2.1 ∧ CK h0 c.2.2 a.2.2) a c) : OS (SR (fun (a : Int32 × Int32 × AH) (c : Int32 × Int32 × CH) => a.1 = c.1 ∧ a.2.1 = c.2.1 ∧ CK h0 c.2.2 a.2.2) (fun (a : Int32 × AH) (c : Int32 × CH) => a.1 = c.1 ∧ CK h0 c.2 a.2)) (f_X2_growTree_L40 x0 x1 a) (t_X2_growTree_L40 x0 x1 c) := by
  obtain ⟨s0, s1, hs⟩ := a
  obtain ⟨zs0, zs1, Cs⟩ := c
  obtain ⟨es0, es1, I⟩ := r
  dsimp only at es0 es1 I
  subst es0
  subst es1
  unfold f_X2_growTree_L40 t_X2_growTree_L40
  try dsimp only
  refine OS.bEq (I.cl _ _) (fun _ => ?_)
  refine OS.bP (simt_Jx4a65c_size_8abf5 _ I) (fun _ _ _ I => ?_)
  try dsimp only
  refine OS.i (fun _ => ?_) (fun _ => ?_)
  · exact OS.ret (SR.r (⟨rfl, I⟩))
  · refine OS.bEq (I.cl _ _) (fun _ => ?_)
    refine OS.bP (simt_X2_hangNearest _ _ I) (fun _ _ _ I => ?_)
    try dsimp only
    exact OS.ret (SR.l (⟨rfl, rfl, I⟩))
theorem bL_X2_growTree_L40 {α β : Type} {R : α → β → Prop} {h0 : AH} (x0 : Nat) (x1 : Nat) {n : Nat} {h : AH} {C : CH} {s0 : Int32} {s1 : Int32} {k : (Int32 × AH) → Option α} {l : (Int32 × CH) → Option β} (I : CK h0 C h) (k0 : ∀ (w0 : Int32) (h' : AH) (C' : CH), CK h0 C' h' → OS R (k ((w0, h'))) (l ((w0, C')))) : OS R ((iter (f_X2_growTree_L40 x0 x1) n (s0, s1, h)).bind k) ((iter (t_X2_growTree_L40 x0 x1) n (s0, s1, C)).bind l) := by
  refine OS.b (OS.it (simt_X2_growTree_L40 x0 x1) n _ _ ⟨rfl, rfl, I⟩) (fun a c r => ?_)
  obtain ⟨x0, h'⟩ := a
  obtain ⟨zx0, C'⟩ := c
  obtain ⟨ex0, I2⟩ := r
  dsimp only at ex0 I2
  subst ex0
  exact k0 x0 h' C' I2
set_option maxRecDepth 100000 in
set_option maxHeartbeats 4000000 in
theorem simt_X2_growTree {h0 h : AH} {C : CH} (a0 : Nat) (a1 : Nat) (I : CK h0 C h) : OS (fun (a : Int32 × AH) (c : Int32 × CH) => a.1 = c.1 ∧ CK h0 c.2 a.2) (f_X2_growTree a0 a1 h) (t_X2_growTree a0 a1 C) := by
  unfold f_X2_growTree t_X2_growTree
  refine bL_X2_growTree_L2 _ _ I (fun _ _ I => ?_)
  try dsimp only [Sum.elim_inl, Sum.elim_inr]
  refine bL_X2_growTree_L40 _ _ I (fun _ _ _ I => ?_)
  try dsimp only [Sum.elim_inl, Sum.elim_inr]
  exact OS.ret (⟨rfl, I⟩)
set_option maxRecDepth 100000 in
set_option maxHeartbeats 4000000 in
theorem simt_X11_hangs {h0 h : AH} {C : CH} (a0 : Nat) (a1 : Int32) (I : CK h0 C h) : OS (fun (a : Int32 × AH) (c : Int32 × CH) => a.1 = c.1 ∧ CK h0 c.2 a.2) (f_X11_hangs a0 a1 h) (t_X11_hangs a0 a1 C) := by
  unfold f_X11_hangs t_X11_hangs
  refine OS.bEq (I.gR _ _ _) (fun v1 => ?_)
  refine OS.bEq (I.cl _ _) (fun _ => ?_)
  refine OS.bP (simt_Jx4a65c_size_8abf5 _ I) (fun _ _ _ I => ?_)
  try dsimp only
  refine OS.bP (simt_X11_within _ _ _ I) (fun _ _ _ I => ?_)
  try dsimp only
  refine OS.i (fun _ => ?_) (fun _ => ?_)
  · exact OS.ret (⟨rfl, I⟩)
  · refine OS.bEq (I.gR _ _ _) (fun v9 => ?_)
    refine OS.bEq (I.gR _ _ _) (fun v11 => ?_)
    refine OS.bEq (I.cl _ _) (fun _ => ?_)
    refine OS.bP (simt_X2_growTree _ _ I) (fun _ _ _ I => ?_)
    try dsimp only
    refine OS.bEq (I.gR _ _ _) (fun v16 => ?_)
    refine OS.bEq (I.gR _ _ _) (fun v18 => ?_)
    refine OS.bEq (I.ld _ _ _) (fun v20 => ?_)
    exact OS.ret (⟨rfl, I⟩)
set_option maxRecDepth 100000 in
set_option maxHeartbeats 4000000 in
theorem simt_X11_isWeight {h0 h : AH} {C : CH} (a0 : Int32) (a1 : Int32) (I : CK h0 C h) : OS (fun (a : Int32 × AH) (c : Int32 × CH) => a.1 = c.1 ∧ CK h0 c.2 a.2) (f_X11_isWeight a0 a1 h) (t_X11_isWeight a0 a1 C) := by
  unfold f_X11_isWeight t_X11_isWeight
  refine OS.bP (simt_X11_within _ _ _ I) (fun _ _ _ I => ?_)
  try dsimp only
  refine OS.i (fun _ => ?_) (fun _ => ?_)
  · exact OS.ret (⟨rfl, I⟩)
  · refine OS.bP (simt_X11_within _ _ _ I) (fun _ _ _ I => ?_)
    try dsimp only
    refine OS.i (fun _ => ?_) (fun _ => ?_)
    · exact OS.ret (⟨rfl, I⟩)
    · exact OS.ret (⟨rfl, I⟩)
set_option maxRecDepth 100000 in
set_option maxHeartbeats 4000000 in
theorem simt_X11_isTask {h0 h : AH} {C : CH} (a0 : Int32) (a1 : Int32) (a2 : Int32) (I : CK h0 C h) : OS (fun (a : Int32 × AH) (c : Int32 × CH) => a.1 = c.1 ∧ CK h0 c.2 a.2) (f_X11_isTask a0 a1 a2 h) (t_X11_isTask a0 a1 a2 C) := by
  unfold f_X11_isTask t_X11_isTask
  refine OS.bP (simt_X11_within _ _ _ I) (fun _ _ _ I => ?_)
  try dsimp only
  refine OS.i (fun _ => ?_) (fun _ => ?_)
  · exact OS.ret (⟨rfl, I⟩)
  · refine OS.bP (simt_X11_isWeight _ _ I) (fun _ _ _ I => ?_)
    try dsimp only
    refine OS.i (fun _ => ?_) (fun _ => ?_)
    · exact OS.ret (⟨rfl, I⟩)
    · exact OS.ret (⟨rfl, I⟩)
set_option maxRecDepth 100000 in
set_option maxHeartbeats 4000000 in
theorem simt_X8_init {h0 h : AH} {C : CH} (a0 : Nat) (a1 : Int32) (a2 : Int32) (a3 : Int32) (I : CK h0 C h) : OS (fun (a : AH) (c : CH) => CK h0 c a) (f_X8_init a0 a1 a2 a3 h) (t_X8_init a0 a1 a2 a3 C) := by
  unfold f_X8_init t_X8_init
  refine OS.b (I.pF _ _ _ _) (fun _ _ I => ?_)
  refine OS.b (I.pF _ _ _ _) (fun _ _ I => ?_)
  refine OS.b (I.pF _ _ _ _) (fun _ _ I => ?_)
  exact OS.ret (I)
set_option maxRecDepth 100000 in
set_option maxHeartbeats 4000000 in
theorem simt_X11_haul {h0 h : AH} {C : CH} (a0 : Nat) (a1 : Int32) (a2 : Int32) (a3 : Int32) (a4 : Int32) (I : CK h0 C h) : OS (fun (a : Int32 × AH) (c : Int32 × CH) => a.1 = c.1 ∧ CK h0 c.2 a.2) (f_X11_haul a0 a1 a2 a3 a4 h) (t_X11_haul a0 a1 a2 a3 a4 C) := by
  unfold f_X11_haul t_X11_haul
  refine OS.bEq (I.cl _ _) (fun _ => ?_)
  refine OS.bP (simt_X11_songOf _ _ I) (fun _ _ _ I => ?_)
  try dsimp only
  refine OS.e _ ?_ (fun a5 => ?_)
  · exact OS.ret (⟨rfl, I⟩)
  · refine OS.bP (simt_X11_isTask _ _ _ I) (fun _ _ _ I => ?_)
    try dsimp only
    refine OS.i (fun _ => ?_) (fun _ => ?_)
    · exact OS.ret (⟨rfl, I⟩)
    · refine OS.bEq (I.gR _ _ _) (fun v9 => ?_)
      refine OS.bEq (I.gR _ _ _) (fun v11 => ?_)
      refine OS.bEq (I.cl _ _) (fun _ => ?_)
      refine OS.bV (simt_X1_beginAsTold _ _ I) (fun _ _ I => ?_)
      refine OS.bEq (I.gR _ _ _) (fun v16 => ?_)
      refine OS.bEq (I.gR _ _ _) (fun v18 => ?_)
      have I1 := I.new (.inr (9, [.int 0, .int 0, .int 0])) (cell_obj _ 9 (by decide))
      try rw [I.1.1]
      refine OS.bV (simt_X8_init _ _ _ _ I1) (fun _ _ I => ?_)
      refine OS.bEq (I.cl _ _) (fun _ => ?_)
      refine OS.bP (simt_X1_go _ _ _ _ _ I) (fun _ _ _ I => ?_)
      try dsimp only
      refine OS.bEq (I.gR _ _ _) (fun v25 => ?_)
      refine OS.bEq (I.gR _ _ _) (fun v27 => ?_)
      refine OS.bEq (I.gR _ _ _) (fun v29 => ?_)
      refine OS.bEq (I.gR _ _ _) (fun v31 => ?_)
      refine OS.bV (simt_X11_copy _ _ I) (fun _ _ I => ?_)
      refine OS.bEq (I.gR _ _ _) (fun v35 => ?_)
      refine OS.b (I.pF _ _ _ _) (fun _ _ I => ?_)
      refine OS.i (fun _ => ?_) (fun _ => ?_)
      · refine OS.bEq (I.gR _ _ _) (fun v40 => ?_)
        refine OS.bEq (I.gI _ _ _) (fun v42 => ?_)
        exact OS.ret (⟨rfl, I⟩)
      · refine OS.bEq (I.gR _ _ _) (fun v44 => ?_)
        refine OS.bEq (I.gI _ _ _) (fun v46 => ?_)
        exact OS.ret (⟨rfl, I⟩)
set_option maxRecDepth 100000 in
set_option maxHeartbeats 4000000 in
theorem simt_X6_init {h0 h : AH} {C : CH} (a0 : Nat) (I : CK h0 C h) : OS (fun (a : AH) (c : CH) => CK h0 c a) (f_X6_init a0 h) (t_X6_init a0 C) := by
  unfold f_X6_init t_X6_init
  have I1 := I.new (.inl (0, 24, .inl fun _ => 0)) (cell_I _ _)
  try rw [I.1.1]
  refine OS.b (I1.pF _ _ _ _) (fun _ _ I => ?_)
  exact OS.ret (I)
set_option maxRecDepth 100000 in
set_option maxHeartbeats 4000000 in
theorem simt_X1_init {h0 h : AH} {C : CH} (a0 : Nat) (I : CK h0 C h) : OS (fun (a : AH) (c : CH) => CK h0 c a) (f_X1_init a0 h) (t_X1_init a0 C) := by
  unfold f_X1_init t_X1_init
  have I1 := I.new (.inl (0, 10, .inl fun _ => 0)) (cell_I _ _)
  try rw [I.1.1]
  refine OS.b (I1.pF _ _ _ _) (fun _ _ I => ?_)
  have I1 := I.new (.inl (0, 10, .inl fun _ => 0)) (cell_I _ _)
  try rw [I.1.1]
  refine OS.b (I1.pF _ _ _ _) (fun _ _ I => ?_)
  have I1 := I.new (.inl (0, 300, .inl fun _ => 0)) (cell_I _ _)
  try rw [I.1.1]
  refine OS.b (I1.pF _ _ _ _) (fun _ _ I => ?_)
  have I1 := I.new (.inl (0, 300, .inl fun _ => 0)) (cell_I _ _)
  try rw [I.1.1]
  refine OS.b (I1.pF _ _ _ _) (fun _ _ I => ?_)
  have I1 := I.new (.inl (0, 4, .inl fun _ => 0)) (cell_I _ _)
  try rw [I.1.1]
  refine OS.b (I1.pF _ _ _ _) (fun _ _ I => ?_)
  exact OS.ret (I)
set_option maxRecDepth 100000 in
set_option maxHeartbeats 4000000 in
theorem simt_X9_init {h0 h : AH} {C : CH} (a0 : Nat) (I : CK h0 C h) : OS (fun (a : AH) (c : CH) => CK h0 c a) (f_X9_init a0 h) (t_X9_init a0 C) := by
  unfold f_X9_init t_X9_init
  have I1 := I.new (.inr (2, [.null, .null, .null, .null, .null, .int 0, .int 0, .int 0])) (cell_obj _ 2 (by decide))
  try rw [I.1.1]
  refine OS.bV (simt_X1_init _ I1) (fun _ _ I => ?_)
  refine OS.b (I.pF _ _ _ _) (fun _ _ I => ?_)
  have I1 := I.multi
  try rw [I.1.1]
  refine OS.b (I1.pF _ _ _ _) (fun _ _ I => ?_)
  have I1 := I.new (.inl (0, 4, .inl fun _ => 0)) (cell_I _ _)
  try rw [I.1.1]
  refine OS.b (I1.pF _ _ _ _) (fun _ _ I => ?_)
  have I1 := I.new (.inl (0, 4, .inl fun _ => 0)) (cell_I _ _)
  try rw [I.1.1]
  refine OS.b (I1.pF _ _ _ _) (fun _ _ I => ?_)
  refine OS.b (I.pF _ _ _ _) (fun _ _ I => ?_)
  refine OS.b (I.pF _ _ _ _) (fun _ _ I => ?_)
  exact OS.ret (I)
set_option maxRecDepth 100000 in
set_option maxHeartbeats 4000000 in
theorem simt_X4_init {h0 h : AH} {C : CH} (a0 : Nat) (I : CK h0 C h) : OS (fun (a : AH) (c : CH) => CK h0 c a) (f_X4_init a0 h) (t_X4_init a0 C) := by
  unfold f_X4_init t_X4_init
  have I1 := I.new (.inl (1, 25, .inr (.inl fun _ => 0))) (cell_J _ _)
  try rw [I.1.1]
  refine OS.b (I1.pF _ _ _ _) (fun _ _ I => ?_)
  have I1 := I.new (.inl (0, 25, .inl fun _ => 0)) (cell_I _ _)
  try rw [I.1.1]
  refine OS.b (I1.pF _ _ _ _) (fun _ _ I => ?_)
  have I1 := I.new (.inl (0, 24, .inl fun _ => 0)) (cell_I _ _)
  try rw [I.1.1]
  refine OS.b (I1.pF _ _ _ _) (fun _ _ I => ?_)
  exact OS.ret (I)
set_option maxRecDepth 100000 in
set_option maxHeartbeats 4000000 in
theorem simt_X5_init {h0 h : AH} {C : CH} (a0 : Nat) (I : CK h0 C h) : OS (fun (a : AH) (c : CH) => CK h0 c a) (f_X5_init a0 h) (t_X5_init a0 C) := by
  unfold f_X5_init t_X5_init
  have I1 := I.new (.inl (0, 60, .inl fun _ => 0)) (cell_I _ _)
  try rw [I.1.1]
  refine OS.b (I1.pF _ _ _ _) (fun _ _ I => ?_)
  have I1 := I.new (.inl (0, 60, .inl fun _ => 0)) (cell_I _ _)
  try rw [I.1.1]
  refine OS.b (I1.pF _ _ _ _) (fun _ _ I => ?_)
  exact OS.ret (I)
set_option maxRecDepth 100000 in
set_option maxHeartbeats 4000000 in
theorem simt_X3_init {h0 h : AH} {C : CH} (a0 : Nat) (I : CK h0 C h) : OS (fun (a : AH) (c : CH) => CK h0 c a) (f_X3_init a0 h) (t_X3_init a0 C) := by
  unfold f_X3_init t_X3_init
  have I1 := I.new (.inr (2, [.null, .null, .null, .null, .null, .int 0, .int 0, .int 0])) (cell_obj _ 2 (by decide))
  try rw [I.1.1]
  refine OS.bV (simt_X1_init _ I1) (fun _ _ I => ?_)
  refine OS.b (I.pF _ _ _ _) (fun _ _ I => ?_)
  exact OS.ret (I)
set_option maxRecDepth 100000 in
set_option maxHeartbeats 4000000 in
theorem simt_X2_init {h0 h : AH} {C : CH} (a0 : Nat) (I : CK h0 C h) : OS (fun (a : AH) (c : CH) => CK h0 c a) (f_X2_init a0 h) (t_X2_init a0 C) := by
  unfold f_X2_init t_X2_init
  have I1 := I.new (.inl (0, 25, .inl fun _ => 0)) (cell_I _ _)
  try rw [I.1.1]
  refine OS.b (I1.pF _ _ _ _) (fun _ _ I => ?_)
  have I1 := I.new (.inl (0, 6, .inl fun _ => 0)) (cell_I _ _)
  try rw [I.1.1]
  refine OS.b (I1.pF _ _ _ _) (fun _ _ I => ?_)
  have I1 := I.new (.inl (2, 6, .inl fun _ => 0)) (cell_B _ _)
  try rw [I.1.1]
  refine OS.b (I1.pF _ _ _ _) (fun _ _ I => ?_)
  exact OS.ret (I)
set_option maxRecDepth 100000 in
set_option maxHeartbeats 4000000 in
theorem simt_X11_init {h0 h : AH} {C : CH} (a0 : Nat) (I : CK h0 C h) : OS (fun (a : AH) (c : CH) => CK h0 c a) (f_X11_init a0 h) (t_X11_init a0 C) := by
  unfold f_X11_init t_X11_init
  have I1 := I.new (.inr (7, [.null, .int 0])) (cell_obj _ 7 (by decide))
  try rw [I.1.1]
  refine OS.bV (simt_X6_init _ I1) (fun _ _ I => ?_)
  refine OS.b (I.pF _ _ _ _) (fun _ _ I => ?_)
  have I1 := I.new (.inr (0, [.int 0, .null, .int 0])) (cell_obj _ 0 (by decide))
  try rw [I.1.1]
  refine OS.bV (simt_Jx4a65c_init_da8c8 _ I1) (fun _ _ I => ?_)
  refine OS.b (I.pF _ _ _ _) (fun _ _ I => ?_)
  have I1 := I.new (.inr (1, [.null, .null, .null, .null, .null, .null, .int 0, .int 0, .int 0])) (cell_obj _ 1 (by decide))
  try rw [I.1.1]
  refine OS.bV (simt_X0_init _ I1) (fun _ _ I => ?_)
  refine OS.b (I.pF _ _ _ _) (fun _ _ I => ?_)
  have I1 := I.new (.inr (2, [.null, .null, .null, .null, .null, .int 0, .int 0, .int 0])) (cell_obj _ 2 (by decide))
  try rw [I.1.1]
  refine OS.bV (simt_X1_init _ I1) (fun _ _ I => ?_)
  refine OS.b (I.pF _ _ _ _) (fun _ _ I => ?_)
  have I1 := I.new (.inr (0, [.int 0, .null, .int 0])) (cell_obj _ 0 (by decide))
  try rw [I.1.1]
  refine OS.bV (simt_Jx4a65c_init_da8c8 _ I1) (fun _ _ I => ?_)
  refine OS.b (I.pF _ _ _ _) (fun _ _ I => ?_)
  have I1 := I.new (.inr (10, [.null, .null, .null, .null, .int 0, .int 0, .int 0, .int 0, .int 0])) (cell_obj _ 10 (by decide))
  try rw [I.1.1]
  refine OS.bV (simt_X9_init _ I1) (fun _ _ I => ?_)
  refine OS.b (I.pF _ _ _ _) (fun _ _ I => ?_)
  have I1 := I.new (.inr (0, [.int 0, .null, .int 0])) (cell_obj _ 0 (by decide))
  try rw [I.1.1]
  refine OS.bV (simt_Jx4a65c_init_da8c8 _ I1) (fun _ _ I => ?_)
  refine OS.b (I.pF _ _ _ _) (fun _ _ I => ?_)
  have I1 := I.new (.inr (5, [.null, .null, .null, .int 0, .long 0])) (cell_obj _ 5 (by decide))
  try rw [I.1.1]
  refine OS.bV (simt_X4_init _ I1) (fun _ _ I => ?_)
  refine OS.b (I.pF _ _ _ _) (fun _ _ I => ?_)
  have I1 := I.new (.inr (6, [.null, .null, .int 0])) (cell_obj _ 6 (by decide))
  try rw [I.1.1]
  refine OS.bV (simt_X5_init _ I1) (fun _ _ I => ?_)
  refine OS.b (I.pF _ _ _ _) (fun _ _ I => ?_)
  have I1 := I.new (.inr (4, [.null, .int 0, .int 0, .int 0, .int 0, .int 0])) (cell_obj _ 4 (by decide))
  try rw [I.1.1]
  refine OS.bV (simt_X3_init _ I1) (fun _ _ I => ?_)
  refine OS.b (I.pF _ _ _ _) (fun _ _ I => ?_)
  have I1 := I.new (.inr (3, [.null, .null, .null])) (cell_obj _ 3 (by decide))
  try rw [I.1.1]
  refine OS.bV (simt_X2_init _ I1) (fun _ _ I => ?_)
  refine OS.b (I.pF _ _ _ _) (fun _ _ I => ?_)
  exact OS.ret (I)
set_option maxRecDepth 100000 in
set_option maxHeartbeats 4000000 in
theorem simt_X11_late {h0 h : AH} {C : CH} (a0 : Nat) (a1 : Int32) (a2 : Int32) (I : CK h0 C h) : OS (fun (a : Int32 × AH) (c : Int32 × CH) => a.1 = c.1 ∧ CK h0 c.2 a.2) (f_X11_late a0 a1 a2 h) (t_X11_late a0 a1 a2 C) := by
  unfold f_X11_late t_X11_late
  refine OS.bEq (I.gR _ _ _) (fun v1 => ?_)
  refine OS.bEq (I.cl _ _) (fun _ => ?_)
  refine OS.bP (simt_X0_has _ _ I) (fun _ _ _ I => ?_)
  try dsimp only
  refine OS.i (fun _ => ?_) (fun _ => ?_)
  · exact OS.ret (⟨rfl, I⟩)
  · refine OS.bP (simt_X11_within _ _ _ I) (fun _ _ _ I => ?_)
    try dsimp only
    refine OS.i (fun _ => ?_) (fun _ => ?_)
    · exact OS.ret (⟨rfl, I⟩)
    · refine OS.bEq (I.gR _ _ _) (fun v10 => ?_)
      refine OS.bEq (I.gR _ _ _) (fun v12 => ?_)
      refine OS.bEq (I.ld _ _ _) (fun v14 => ?_)
      refine OS.bEq (I.gR _ _ _) (fun v16 => ?_)
      refine OS.bEq (I.gR _ _ _) (fun v18 => ?_)
      refine OS.b (I.st _ _ _ _) (fun _ _ I => ?_)
      refine OS.bEq (I.gR _ _ _) (fun v22 => ?_)
      refine OS.b (I.pF _ _ _ _) (fun _ _ I => ?_)
      exact OS.ret (⟨rfl, I⟩)
set_option maxRecDepth 100000 in
set_option maxHeartbeats 4000000 in
theorem simt_X4_countWays_L6 {h0 : AH} (x0 : Nat) (x1 : Nat) (x2 : Nat) (x3 : Int32) (a : Int64 × Int32 × AH) (c : Int64 × Int32 × CH) (r : (fun (a : Int64 × Int32 × AH) (c : Int64 × Int32 × CH) => a.1 = c.1 ∧ a.2.1 = c.2.1 ∧ CK h0 c.2.2 a.2.2) a c) : OS (SR (fun (a : Int64 × Int32 × AH) (c : Int64 × Int32 × CH) => a.1 = c.1 ∧ a.2.1 = c.2.1 ∧ CK h0 c.2.2 a.2.2) (fun (a : Int64 × AH) (c : Int64 × CH) => a.1 = c.1 ∧ CK h0 c.2 a.2)) (f_X4_countWays_L6 x0 x1 x2 x3 a) (t_X4_countWays_L6 x0 x1 x2 x3 c) := by
  obtain ⟨s0, s1, hs⟩ := a
  obtain ⟨zs0, zs1, Cs⟩ := c
  obtain ⟨es0, es1, I⟩ := r
  dsimp only at es0 es1 I
  subst es0
  subst es1
  unfold f_X4_countWays_L6 t_X4_countWays_L6
  try dsimp only
  refine OS.bEq (I.cl _ _) (fun _ => ?_)
  refine OS.bP (simt_Jx4a65c_size_8abf5 _ I) (fun _ _ _ I => ?_)
  try dsimp only
  refine OS.i (fun _ => ?_) (fun _ => ?_)
  · exact OS.ret (SR.r (⟨rfl, I⟩))
  · refine OS.bEq (I.cl _ _) (fun _ => ?_)
    refine OS.bP (simt_Jx4a65c_get_915e3 _ _ I) (fun _ _ _ I => ?_)
    try dsimp only
    refine OS.bEq (I.cl _ _) (fun _ => ?_)
    refine OS.bEq (I.cl _ _) (fun _ => ?_)
    refine OS.bP (simt_X10_wrongIfSungFrom _ _ _ I) (fun _ _ _ I => ?_)
    try dsimp only
    refine OS.i (fun _ => ?_) (fun _ => ?_)
    · refine OS.bEq (I.gR _ _ _) (fun v13 => ?_)
      refine OS.bEq (I.gI _ _ _) (fun v15 => ?_)
      refine OS.bEq (I.ldJ _ _) (fun v17 => ?_)
      exact OS.ret (SR.l (⟨rfl, rfl, I⟩))
    · exact OS.ret (SR.l (⟨rfl, rfl, I⟩))
