theorem bL_X4_countWays_L6 {α β : Type} {R : α → β → Prop} {h0 : AH} (x0 : Nat) (x1 : Nat) (x2 : Nat) (x3 : Int32) {n : Nat} {h : AH} {C : CH} {s0 : Int64} {s1 : Int32} {k : (Int64 × AH) → Option α} {l : (Int64 × CH) → Option β} (I : CK h0 C h) (k0 : ∀ (w0 : Int64) (h' : AH) (C' : CH), CK h0 C' h' → OS R (k ((w0, h'))) (l ((w0, C')))) : OS R ((iter (f_X4_countWays_L6 x0 x1 x2 x3) n (s0, s1, h)).bind k) ((iter (t_X4_countWays_L6 x0 x1 x2 x3) n (s0, s1, C)).bind l) := by
  refine OS.b (OS.it (simt_X4_countWays_L6 x0 x1 x2 x3) n _ _ ⟨rfl, rfl, I⟩) (fun a c r => ?_)
  obtain ⟨x0, h'⟩ := a
  obtain ⟨zx0, C'⟩ := c
  obtain ⟨ex0, I2⟩ := r
  dsimp only at ex0 I2
  subst ex0
  exact k0 x0 h' C' I2
set_option maxRecDepth 100000 in
set_option maxHeartbeats 4000000 in
theorem simt_X4_countWays {h0 h : AH} {C : CH} (a0 : Nat) (a1 : Nat) (a2 : Nat) (a3 : Int32) (I : CK h0 C h) : OS (fun (a : Int64 × AH) (c : Int64 × CH) => a.1 = c.1 ∧ CK h0 c.2 a.2) (f_X4_countWays a0 a1 a2 a3 h) (t_X4_countWays a0 a1 a2 a3 C) := by
  unfold f_X4_countWays t_X4_countWays
  refine bL_X4_countWays_L6 _ _ _ _ I (fun _ _ _ I => ?_)
  try dsimp only [Sum.elim_inl, Sum.elim_inr]
  exact OS.ret (⟨rfl, I⟩)
set_option maxRecDepth 100000 in
set_option maxHeartbeats 4000000 in
theorem simt_X4_howMany_L17 {h0 : AH} (x0 : Nat) (x1 : Nat) (x2 : Nat) (a : Int32 × AH) (c : Int32 × CH) (r : (fun (a : Int32 × AH) (c : Int32 × CH) => a.1 = c.1 ∧ CK h0 c.2 a.2) a c) : OS (SR (fun (a : Int32 × AH) (c : Int32 × CH) => a.1 = c.1 ∧ CK h0 c.2 a.2) (fun (a : AH) (c : CH) => CK h0 c a)) (f_X4_howMany_L17 x0 x1 x2 a) (t_X4_howMany_L17 x0 x1 x2 c) := by
  obtain ⟨s0, hs⟩ := a
  obtain ⟨zs0, Cs⟩ := c
  obtain ⟨es0, I⟩ := r
  dsimp only at es0 I
  subst es0
  unfold f_X4_howMany_L17 t_X4_howMany_L17
  try dsimp only
  refine OS.i (fun _ => ?_) (fun _ => ?_)
  · exact OS.ret (SR.r (I))
  · refine OS.bEq (I.gR _ _ _) (fun v10 => ?_)
    refine OS.bEq (I.gR _ _ _) (fun v12 => ?_)
    refine OS.bEq (I.ld _ _ _) (fun v14 => ?_)
    refine OS.bP (simt_X11_isSilent _ I) (fun _ _ _ I => ?_)
    try dsimp only
    refine OS.i (fun _ => ?_) (fun _ => ?_)
    · refine OS.bEq (I.cl _ _) (fun _ => ?_)
      refine OS.bP (simt_X4_countWays _ _ _ _ I) (fun _ _ _ I => ?_)
      try dsimp only
      refine OS.b (I.stJ _ _ _) (fun _ _ I => ?_)
      exact OS.ret (SR.l (⟨rfl, I⟩))
    · refine OS.bEq (I.gR _ _ _) (fun v24 => ?_)
      refine OS.bEq (I.ldJ _ _) (fun v26 => ?_)
      refine OS.b (I.stJ _ _ _) (fun _ _ I => ?_)
      exact OS.ret (SR.l (⟨rfl, I⟩))
theorem bL_X4_howMany_L17 {α β : Type} {R : α → β → Prop} {h0 : AH} (x0 : Nat) (x1 : Nat) (x2 : Nat) {n : Nat} {h : AH} {C : CH} {s0 : Int32} {k : (AH) → Option α} {l : (CH) → Option β} (I : CK h0 C h) (k0 : ∀ (h' : AH) (C' : CH), CK h0 C' h' → OS R (k (h')) (l (C'))) : OS R ((iter (f_X4_howMany_L17 x0 x1 x2) n (s0, h)).bind k) ((iter (t_X4_howMany_L17 x0 x1 x2) n (s0, C)).bind l) := by
  refine OS.b (OS.it (simt_X4_howMany_L17 x0 x1 x2) n _ _ ⟨rfl, I⟩) (fun a c r => ?_)
  exact k0 a c r
set_option maxRecDepth 100000 in
set_option maxHeartbeats 4000000 in
theorem simt_X4_howMany {h0 h : AH} {C : CH} (a0 : Nat) (a1 : Nat) (a2 : Nat) (I : CK h0 C h) : OS (fun (a : Int64 × AH) (c : Int64 × CH) => a.1 = c.1 ∧ CK h0 c.2 a.2) (f_X4_howMany a0 a1 a2 h) (t_X4_howMany a0 a1 a2 C) := by
  unfold f_X4_howMany t_X4_howMany
  refine OS.bEq (I.gR _ _ _) (fun v1 => ?_)
  refine OS.bEq (I.gI _ _ _) (fun v3 => ?_)
  refine OS.b (I.stJ _ _ _) (fun _ _ I => ?_)
  refine OS.bEq (I.gI _ _ _) (fun v7 => ?_)
  refine bL_X4_howMany_L17 _ _ _ I (fun _ _ I => ?_)
  try dsimp only [Sum.elim_inl, Sum.elim_inr]
  refine OS.bEq (I.gR _ _ _) (fun v32 => ?_)
  refine OS.bEq (I.ldJ _ _) (fun v34 => ?_)
  exact OS.ret (⟨rfl, I⟩)
set_option maxRecDepth 100000 in
set_option maxHeartbeats 4000000 in
theorem simt_X4_wrongWith {h0 h : AH} {C : CH} (a0 : Nat) (a1 : Nat) (a2 : Nat) (a3 : Int32) (I : CK h0 C h) : OS (fun (a : Int32 × AH) (c : Int32 × CH) => a.1 = c.1 ∧ CK h0 c.2 a.2) (f_X4_wrongWith a0 a1 a2 a3 h) (t_X4_wrongWith a0 a1 a2 a3 C) := by
  unfold f_X4_wrongWith t_X4_wrongWith
  refine OS.bEq (I.cl _ _) (fun _ => ?_)
  refine OS.bP (simt_X10_wrongIfSungFrom _ _ _ I) (fun _ _ _ I => ?_)
  try dsimp only
  refine OS.i (fun _ => ?_) (fun _ => ?_)
  · exact OS.ret (⟨rfl, I⟩)
  · refine OS.bEq (I.gR _ _ _) (fun v5 => ?_)
    refine OS.bEq (I.gI _ _ _) (fun v7 => ?_)
    refine OS.bEq (I.ld _ _ _) (fun v9 => ?_)
    refine OS.i (fun _ => ?_) (fun _ => ?_)
    · exact OS.ret (⟨rfl, I⟩)
    · refine OS.bEq (I.gR _ _ _) (fun v12 => ?_)
      refine OS.bEq (I.gI _ _ _) (fun v14 => ?_)
      refine OS.bEq (I.ld _ _ _) (fun v16 => ?_)
      exact OS.ret (⟨rfl, I⟩)
set_option maxRecDepth 100000 in
set_option maxHeartbeats 4000000 in
theorem simt_X4_nearWord_L3 {h0 : AH} (x0 : Nat) (x1 : Nat) (x2 : Nat) (x3 : Int32) (a : Int32 × AH) (c : Int32 × CH) (r : (fun (a : Int32 × AH) (c : Int32 × CH) => a.1 = c.1 ∧ CK h0 c.2 a.2) a c) : OS (SR (fun (a : Int32 × AH) (c : Int32 × CH) => a.1 = c.1 ∧ CK h0 c.2 a.2) (SR (fun (a : AH) (c : CH) => CK h0 c a) (fun (a : Int32 × AH) (c : Int32 × CH) => a.1 = c.1 ∧ CK h0 c.2 a.2))) (f_X4_nearWord_L3 x0 x1 x2 x3 a) (t_X4_nearWord_L3 x0 x1 x2 x3 c) := by
  obtain ⟨s0, hs⟩ := a
  obtain ⟨zs0, Cs⟩ := c
  obtain ⟨es0, I⟩ := r
  dsimp only at es0 I
  subst es0
  unfold f_X4_nearWord_L3 t_X4_nearWord_L3
  try dsimp only
  refine OS.bEq (I.cl _ _) (fun _ => ?_)
  refine OS.bP (simt_Jx4a65c_size_8abf5 _ I) (fun _ _ _ I => ?_)
  try dsimp only
  refine OS.i (fun _ => ?_) (fun _ => ?_)
  · exact OS.ret (SR.r (SR.l (I)))
  · refine OS.bEq (I.cl _ _) (fun _ => ?_)
    refine OS.bP (simt_Jx4a65c_get_915e3 _ _ I) (fun _ _ _ I => ?_)
    try dsimp only
    refine OS.bEq (I.cl _ _) (fun _ => ?_)
    refine OS.bEq (I.cl _ _) (fun _ => ?_)
    refine OS.bP (simt_X4_wrongWith _ _ _ _ I) (fun _ _ _ I => ?_)
    try dsimp only
    refine OS.bEq (I.gR _ _ _) (fun v12 => ?_)
    refine OS.bEq (I.ld _ _ _) (fun v14 => ?_)
    refine OS.i (fun _ => ?_) (fun _ => ?_)
    · exact OS.ret (SR.r (SR.r (⟨rfl, I⟩)))
    · exact OS.ret (SR.l (⟨rfl, I⟩))
theorem bL_X4_nearWord_L3 {α β : Type} {R : α → β → Prop} {h0 : AH} (x0 : Nat) (x1 : Nat) (x2 : Nat) (x3 : Int32) {n : Nat} {h : AH} {C : CH} {s0 : Int32} {k : (AH) ⊕ (Int32 × AH) → Option α} {l : (CH) ⊕ (Int32 × CH) → Option β} (I : CK h0 C h) (k0 : ∀ (h' : AH) (C' : CH), CK h0 C' h' → OS R (k (.inl (h'))) (l (.inl (C')))) (k1 : ∀ (w0 : Int32) (h' : AH) (C' : CH), CK h0 C' h' → OS R (k (.inr ((w0, h')))) (l (.inr ((w0, C'))))) : OS R ((iter (f_X4_nearWord_L3 x0 x1 x2 x3) n (s0, h)).bind k) ((iter (t_X4_nearWord_L3 x0 x1 x2 x3) n (s0, C)).bind l) := by
  refine OS.b (OS.it (simt_X4_nearWord_L3 x0 x1 x2 x3) n _ _ ⟨rfl, I⟩) (fun a c r => ?_)
  cases a with
  | inl a0 =>
    cases c with
    | inl c0 =>
      exact k0 a0 c0 r
    | inr d0 => exact r.elim
  | inr b0 =>
    cases c with
    | inl c0 => exact r.elim
    | inr d0 =>
      obtain ⟨x0, h'⟩ := b0
      obtain ⟨zx0, C'⟩ := d0
      obtain ⟨ex0, I2⟩ := r
      dsimp only at ex0 I2
      subst ex0
      exact k1 x0 h' C' I2
set_option maxRecDepth 100000 in
set_option maxHeartbeats 4000000 in
theorem simt_X4_nearWord {h0 h : AH} {C : CH} (a0 : Nat) (a1 : Nat) (a2 : Nat) (a3 : Int32) (I : CK h0 C h) : OS (fun (a : Int32 × AH) (c : Int32 × CH) => a.1 = c.1 ∧ CK h0 c.2 a.2) (f_X4_nearWord a0 a1 a2 a3 h) (t_X4_nearWord a0 a1 a2 a3 C) := by
  unfold f_X4_nearWord t_X4_nearWord
  refine bL_X4_nearWord_L3 _ _ _ _ I (fun _ _ I => ?_) (fun _ _ _ I => ?_)
  · try dsimp only [Sum.elim_inl, Sum.elim_inr]
    exact OS.ret (⟨rfl, I⟩)
  · try dsimp only [Sum.elim_inl, Sum.elim_inr]
    exact OS.ret (⟨rfl, I⟩)
set_option maxRecDepth 100000 in
set_option maxHeartbeats 4000000 in
theorem simt_X4_countedWord_L3 {h0 : AH} (x0 : Nat) (x1 : Nat) (x2 : Nat) (x3 : Int32) (a : Int32 × AH) (c : Int32 × CH) (r : (fun (a : Int32 × AH) (c : Int32 × CH) => a.1 = c.1 ∧ CK h0 c.2 a.2) a c) : OS (SR (fun (a : Int32 × AH) (c : Int32 × CH) => a.1 = c.1 ∧ CK h0 c.2 a.2) (SR (fun (a : AH) (c : CH) => CK h0 c a) (fun (a : Int32 × AH) (c : Int32 × CH) => a.1 = c.1 ∧ CK h0 c.2 a.2))) (f_X4_countedWord_L3 x0 x1 x2 x3 a) (t_X4_countedWord_L3 x0 x1 x2 x3 c) := by
  obtain ⟨s0, hs⟩ := a
  obtain ⟨zs0, Cs⟩ := c
  obtain ⟨es0, I⟩ := r
  dsimp only at es0 I
  subst es0
  unfold f_X4_countedWord_L3 t_X4_countedWord_L3
  try dsimp only
  refine OS.bEq (I.cl _ _) (fun _ => ?_)
  refine OS.bP (simt_Jx4a65c_size_8abf5 _ I) (fun _ _ _ I => ?_)
  try dsimp only
  refine OS.i (fun _ => ?_) (fun _ => ?_)
  · exact OS.ret (SR.r (SR.l (I)))
  · refine OS.bEq (I.cl _ _) (fun _ => ?_)
    refine OS.bP (simt_Jx4a65c_get_915e3 _ _ I) (fun _ _ _ I => ?_)
    try dsimp only
    refine OS.bEq (I.cl _ _) (fun _ => ?_)
    refine OS.bEq (I.cl _ _) (fun _ => ?_)
    refine OS.bP (simt_X10_wrongIfSungFrom _ _ _ I) (fun _ _ _ I => ?_)
    try dsimp only
    refine OS.i (fun _ => ?_) (fun _ => ?_)
    · refine OS.bEq (I.gR _ _ _) (fun v13 => ?_)
      refine OS.bEq (I.gI _ _ _) (fun v15 => ?_)
      refine OS.bEq (I.ldJ _ _) (fun v17 => ?_)
      refine OS.bEq (I.gJ _ _ _) (fun v19 => ?_)
      refine OS.i (fun _ => ?_) (fun _ => ?_)
      · refine OS.bEq (I.gJ _ _ _) (fun v22 => ?_)
        refine OS.b (I.pF _ _ _ _) (fun _ _ I => ?_)
        exact OS.ret (SR.l (⟨rfl, I⟩))
      · exact OS.ret (SR.r (SR.r (⟨rfl, I⟩)))
    · exact OS.ret (SR.l (⟨rfl, I⟩))
theorem bL_X4_countedWord_L3 {α β : Type} {R : α → β → Prop} {h0 : AH} (x0 : Nat) (x1 : Nat) (x2 : Nat) (x3 : Int32) {n : Nat} {h : AH} {C : CH} {s0 : Int32} {k : (AH) ⊕ (Int32 × AH) → Option α} {l : (CH) ⊕ (Int32 × CH) → Option β} (I : CK h0 C h) (k0 : ∀ (h' : AH) (C' : CH), CK h0 C' h' → OS R (k (.inl (h'))) (l (.inl (C')))) (k1 : ∀ (w0 : Int32) (h' : AH) (C' : CH), CK h0 C' h' → OS R (k (.inr ((w0, h')))) (l (.inr ((w0, C'))))) : OS R ((iter (f_X4_countedWord_L3 x0 x1 x2 x3) n (s0, h)).bind k) ((iter (t_X4_countedWord_L3 x0 x1 x2 x3) n (s0, C)).bind l) := by
  refine OS.b (OS.it (simt_X4_countedWord_L3 x0 x1 x2 x3) n _ _ ⟨rfl, I⟩) (fun a c r => ?_)
  cases a with
  | inl a0 =>
    cases c with
    | inl c0 =>
      exact k0 a0 c0 r
    | inr d0 => exact r.elim
  | inr b0 =>
    cases c with
    | inl c0 => exact r.elim
    | inr d0 =>
      obtain ⟨x0, h'⟩ := b0
      obtain ⟨zx0, C'⟩ := d0
      obtain ⟨ex0, I2⟩ := r
      dsimp only at ex0 I2
      subst ex0
      exact k1 x0 h' C' I2
set_option maxRecDepth 100000 in
set_option maxHeartbeats 4000000 in
theorem simt_X4_countedWord {h0 h : AH} {C : CH} (a0 : Nat) (a1 : Nat) (a2 : Nat) (a3 : Int32) (I : CK h0 C h) : OS (fun (a : Int32 × AH) (c : Int32 × CH) => a.1 = c.1 ∧ CK h0 c.2 a.2) (f_X4_countedWord a0 a1 a2 a3 h) (t_X4_countedWord a0 a1 a2 a3 C) := by
  unfold f_X4_countedWord t_X4_countedWord
  refine bL_X4_countedWord_L3 _ _ _ _ I (fun _ _ I => ?_) (fun _ _ _ I => ?_)
  · try dsimp only [Sum.elim_inl, Sum.elim_inr]
    exact OS.ret (⟨rfl, I⟩)
  · try dsimp only [Sum.elim_inl, Sum.elim_inr]
    exact OS.ret (⟨rfl, I⟩)
set_option maxRecDepth 100000 in
set_option maxHeartbeats 4000000 in
theorem simt_X4_lay_L6_J73 {h0 h : AH} {C : CH} (x0 : Nat) (x1 : Nat) (x2 : Nat) (x3 : Int32) (y5 : Int32) (z0 : Int32) (I : CK h0 C h) : OS (SR (fun (a : Int32 × Int32 × AH) (c : Int32 × Int32 × CH) => a.1 = c.1 ∧ a.2.1 = c.2.1 ∧ CK h0 c.2.2 a.2.2) (SR (fun (a : AH) (c : CH) => CK h0 c a) (fun (a : AH) (c : CH) => CK h0 c a))) (f_X4_lay_L6_J73 x0 x1 x2 x3 y5 z0 h) (t_X4_lay_L6_J73 x0 x1 x2 x3 y5 z0 C) := by
  unfold f_X4_lay_L6_J73 t_X4_lay_L6_J73
  refine OS.i (fun _ => ?_) (fun _ => ?_)
  · exact OS.ret (SR.r (SR.r (I)))
  · refine OS.bEq (I.gR _ _ _) (fun v24 => ?_)
    refine OS.bEq (I.gI _ _ _) (fun v26 => ?_)
    refine OS.b (I.st _ _ _ _) (fun _ _ I => ?_)
    refine OS.bEq (I.gI _ _ _) (fun v30 => ?_)
    refine OS.b (I.pF _ _ _ _) (fun _ _ I => ?_)
    refine OS.bEq (I.cl _ _) (fun _ => ?_)
    refine OS.bP (simt_Jx4a65c_get_915e3 _ _ I) (fun _ _ _ I => ?_)
    try dsimp only
    refine OS.bEq (I.cl _ _) (fun _ => ?_)
    refine OS.bEq (I.gI _ _ _) (fun v38 => ?_)
    exact OS.ret (SR.l (⟨rfl, rfl, I⟩))
set_option maxRecDepth 100000 in
set_option maxHeartbeats 4000000 in
theorem simt_X4_lay_L6 {h0 : AH} (x0 : Nat) (x1 : Nat) (x2 : Nat) (x3 : Int32) (a : Int32 × Int32 × AH) (c : Int32 × Int32 × CH) (r : (fun (a : Int32 × Int32 × AH) (c : Int32 × Int32 × CH) => a.1 = c.1 ∧ a.2.1 = c.2.1 ∧ CK h0 c.2.2 a.2.2) a c) : OS (SR (fun (a : Int32 × Int32 × AH) (c : Int32 × Int32 × CH) => a.1 = c.1 ∧ a.2.1 = c.2.1 ∧ CK h0 c.2.2 a.2.2) (SR (fun (a : AH) (c : CH) => CK h0 c a) (fun (a : AH) (c : CH) => CK h0 c a))) (f_X4_lay_L6 x0 x1 x2 x3 a) (t_X4_lay_L6 x0 x1 x2 x3 c) := by
  obtain ⟨s0, s1, hs⟩ := a
  obtain ⟨zs0, zs1, Cs⟩ := c
  obtain ⟨es0, es1, I⟩ := r
  dsimp only at es0 es1 I
  subst es0
  subst es1
  unfold f_X4_lay_L6 t_X4_lay_L6
  try dsimp only
  refine OS.bEq (I.gI _ _ _) (fun v1 => ?_)
  refine OS.i (fun _ => ?_) (fun _ => ?_)
  · exact OS.ret (SR.r (SR.l (I)))
  · refine OS.bEq (I.gI _ _ _) (fun v4 => ?_)
    refine OS.bEq (I.gR _ _ _) (fun v6 => ?_)
    refine OS.bEq (I.len _) (fun v8 => ?_)
    refine OS.i (fun _ => ?_) (fun _ => ?_)
    · exact OS.ret (SR.r (SR.l (I)))
    · refine OS.i (fun _ => ?_) (fun _ => ?_)
      · exact OS.ret (SR.l (⟨rfl, rfl, I⟩))
      · refine OS.bEq (I.gR _ _ _) (fun v12 => ?_)
        refine OS.bEq (I.ld _ _ _) (fun v14 => ?_)
        refine OS.bP (simt_X11_isSilent _ I) (fun _ _ _ I => ?_)
        try dsimp only
        refine OS.i (fun _ => ?_) (fun _ => ?_)
        · refine OS.i (fun _ => ?_) (fun _ => ?_)
          · refine OS.bEq (I.cl _ _) (fun _ => ?_)
            refine OS.bP (simt_X4_countedWord _ _ _ _ I) (fun _ _ _ I => ?_)
            try dsimp only
            exact simt_X4_lay_L6_J73 _ _ _ _ _ _ I
          · refine OS.bEq (I.cl _ _) (fun _ => ?_)
            refine OS.bP (simt_X4_nearWord _ _ _ _ I) (fun _ _ _ I => ?_)
            try dsimp only
            exact simt_X4_lay_L6_J73 _ _ _ _ _ _ I
        · exact OS.ret (SR.l (⟨rfl, rfl, I⟩))
theorem bL_X4_lay_L6 {α β : Type} {R : α → β → Prop} {h0 : AH} (x0 : Nat) (x1 : Nat) (x2 : Nat) (x3 : Int32) {n : Nat} {h : AH} {C : CH} {s0 : Int32} {s1 : Int32} {k : (AH) ⊕ (AH) → Option α} {l : (CH) ⊕ (CH) → Option β} (I : CK h0 C h) (k0 : ∀ (h' : AH) (C' : CH), CK h0 C' h' → OS R (k (.inl (h'))) (l (.inl (C')))) (k1 : ∀ (h' : AH) (C' : CH), CK h0 C' h' → OS R (k (.inr (h'))) (l (.inr (C')))) : OS R ((iter (f_X4_lay_L6 x0 x1 x2 x3) n (s0, s1, h)).bind k) ((iter (t_X4_lay_L6 x0 x1 x2 x3) n (s0, s1, C)).bind l) := by
  refine OS.b (OS.it (simt_X4_lay_L6 x0 x1 x2 x3) n _ _ ⟨rfl, rfl, I⟩) (fun a c r => ?_)
  cases a with
  | inl a0 =>
    cases c with
    | inl c0 =>
      exact k0 a0 c0 r
    | inr d0 => exact r.elim
  | inr b0 =>
    cases c with
    | inl c0 => exact r.elim
    | inr d0 =>
      exact k1 b0 d0 r
set_option maxRecDepth 100000 in
set_option maxHeartbeats 4000000 in
theorem simt_X4_lay {h0 h : AH} {C : CH} (a0 : Nat) (a1 : Nat) (a2 : Nat) (a3 : Int32) (I : CK h0 C h) : OS (fun (a : AH) (c : CH) => CK h0 c a) (f_X4_lay a0 a1 a2 a3 h) (t_X4_lay a0 a1 a2 a3 C) := by
  unfold f_X4_lay t_X4_lay
  refine bL_X4_lay_L6 _ _ _ _ I (fun _ _ I => ?_) (fun _ _ I => ?_)
  · try dsimp only [Sum.elim_inl, Sum.elim_inr]
    exact OS.ret (I)
  · try dsimp only [Sum.elim_inl, Sum.elim_inr]
    exact OS.ret (I)
set_option maxRecDepth 100000 in
set_option maxHeartbeats 4000000 in
theorem simt_X4_makeLine {h0 h : AH} {C : CH} (a0 : Nat) (a1 : Nat) (a2 : Nat) (a3 : Int64) (I : CK h0 C h) : OS (fun (a : AH) (c : CH) => CK h0 c a) (f_X4_makeLine a0 a1 a2 a3 h) (t_X4_makeLine a0 a1 a2 a3 C) := by
  unfold f_X4_makeLine t_X4_makeLine
  refine OS.b (I.pF _ _ _ _) (fun _ _ I => ?_)
  refine OS.i (fun _ => ?_) (fun _ => ?_)
  · exact OS.ret (I)
  · refine OS.bEq (I.cl _ _) (fun _ => ?_)
    refine OS.bP (simt_X4_howMany _ _ _ I) (fun _ _ _ I => ?_)
    try dsimp only
    refine OS.i (fun _ => ?_) (fun _ => ?_)
    · exact OS.ret (I)
    · refine OS.b (I.pF _ _ _ _) (fun _ _ I => ?_)
      refine OS.bEq (I.cl _ _) (fun _ => ?_)
      refine OS.bV (simt_X4_lay _ _ _ _ I) (fun _ _ I => ?_)
      exact OS.ret (I)
set_option maxRecDepth 100000 in
set_option maxHeartbeats 4000000 in
theorem simt_X4_wordAt {h0 h : AH} {C : CH} (a0 : Nat) (a1 : Int32) (I : CK h0 C h) : OS (fun (a : Int32 × AH) (c : Int32 × CH) => a.1 = c.1 ∧ CK h0 c.2 a.2) (f_X4_wordAt a0 a1 h) (t_X4_wordAt a0 a1 C) := by
  unfold f_X4_wordAt t_X4_wordAt
  refine OS.bEq (I.gI _ _ _) (fun v1 => ?_)
  refine OS.bP (simt_X11_within _ _ _ I) (fun _ _ _ I => ?_)
  try dsimp only
  refine OS.i (fun _ => ?_) (fun _ => ?_)
  · exact OS.ret (⟨rfl, I⟩)
  · refine OS.bEq (I.gR _ _ _) (fun v6 => ?_)
    refine OS.bEq (I.ld _ _ _) (fun v8 => ?_)
    exact OS.ret (⟨rfl, I⟩)
set_option maxRecDepth 100000 in
set_option maxHeartbeats 4000000 in
theorem simt_X11_lineAt {h0 h : AH} {C : CH} (a0 : Nat) (a1 : Int32) (a2 : Int64) (a4 : Int32) (I : CK h0 C h) : OS (fun (a : Int32 × AH) (c : Int32 × CH) => a.1 = c.1 ∧ CK h0 c.2 a.2) (f_X11_lineAt a0 a1 a2 a4 h) (t_X11_lineAt a0 a1 a2 a4 C) := by
  unfold f_X11_lineAt t_X11_lineAt
  refine OS.bEq (I.cl _ _) (fun _ => ?_)
  refine OS.bP (simt_X11_songOf _ _ I) (fun _ _ _ I => ?_)
  try dsimp only
  refine OS.e _ ?_ (fun a5 => ?_)
  · exact OS.ret (⟨rfl, I⟩)
  · refine OS.i (fun _ => ?_) (fun _ => ?_)
    · exact OS.ret (⟨rfl, I⟩)
    · refine OS.i (fun _ => ?_) (fun _ => ?_)
      · refine OS.bEq (I.gR _ _ _) (fun v8 => ?_)
        refine OS.bEq (I.gR _ _ _) (fun v10 => ?_)
        refine OS.bEq (I.gR _ _ _) (fun v12 => ?_)
        refine OS.bEq (I.cl _ _) (fun _ => ?_)
        refine OS.bV (simt_X4_makeLine _ _ _ _ I) (fun _ _ I => ?_)
        refine OS.bEq (I.gR _ _ _) (fun v17 => ?_)
        refine OS.bEq (I.cl _ _) (fun _ => ?_)
        refine OS.bP (simt_X4_wordAt _ _ I) (fun _ _ _ I => ?_)
        try dsimp only
        exact OS.ret (⟨rfl, I⟩)
      · exact OS.ret (⟨rfl, I⟩)
set_option maxRecDepth 100000 in
set_option maxHeartbeats 4000000 in
theorem simt_X11_lines {h0 h : AH} {C : CH} (a0 : Nat) (a1 : Int32) (I : CK h0 C h) : OS (fun (a : Int64 × AH) (c : Int64 × CH) => a.1 = c.1 ∧ CK h0 c.2 a.2) (f_X11_lines a0 a1 h) (t_X11_lines a0 a1 C) := by
  unfold f_X11_lines t_X11_lines
  refine OS.bEq (I.cl _ _) (fun _ => ?_)
  refine OS.bP (simt_X11_songOf _ _ I) (fun _ _ _ I => ?_)
  try dsimp only
  refine OS.e _ ?_ (fun a5 => ?_)
  · exact OS.ret (⟨rfl, I⟩)
  · refine OS.bEq (I.gR _ _ _) (fun v6 => ?_)
    refine OS.bEq (I.gR _ _ _) (fun v8 => ?_)
    refine OS.bEq (I.gR _ _ _) (fun v10 => ?_)
    refine OS.bEq (I.cl _ _) (fun _ => ?_)
    refine OS.bP (simt_X4_howMany _ _ _ I) (fun _ _ _ I => ?_)
    try dsimp only
    exact OS.ret (⟨rfl, I⟩)
set_option maxRecDepth 100000 in
set_option maxHeartbeats 4000000 in
theorem simt_X5_add {h0 h : AH} {C : CH} (a0 : Nat) (a1 : Int32) (a2 : Int32) (I : CK h0 C h) : OS (fun (a : Int32 × AH) (c : Int32 × CH) => a.1 = c.1 ∧ CK h0 c.2 a.2) (f_X5_add a0 a1 a2 h) (t_X5_add a0 a1 a2 C) := by
  unfold f_X5_add t_X5_add
  refine OS.bEq (I.gI _ _ _) (fun v1 => ?_)
  refine OS.i (fun _ => ?_) (fun _ => ?_)
  · refine OS.bEq (I.gR _ _ _) (fun v4 => ?_)
    refine OS.bEq (I.gI _ _ _) (fun v6 => ?_)
    refine OS.b (I.st _ _ _ _) (fun _ _ I => ?_)
    refine OS.bEq (I.gR _ _ _) (fun v10 => ?_)
    refine OS.bEq (I.gI _ _ _) (fun v12 => ?_)
    refine OS.b (I.st _ _ _ _) (fun _ _ I => ?_)
    refine OS.bEq (I.gI _ _ _) (fun v16 => ?_)
    refine OS.b (I.pF _ _ _ _) (fun _ _ I => ?_)
    exact OS.ret (⟨rfl, I⟩)
  · exact OS.ret (⟨rfl, I⟩)
set_option maxRecDepth 100000 in
set_option maxHeartbeats 4000000 in
theorem simt_X11_mark {h0 h : AH} {C : CH} (a0 : Nat) (a1 : Int32) (a2 : Int32) (I : CK h0 C h) : OS (fun (a : Int32 × AH) (c : Int32 × CH) => a.1 = c.1 ∧ CK h0 c.2 a.2) (f_X11_mark a0 a1 a2 h) (t_X11_mark a0 a1 a2 C) := by
  unfold f_X11_mark t_X11_mark
  refine OS.bP (simt_X11_within _ _ _ I) (fun _ _ _ I => ?_)
  try dsimp only
  refine OS.i (fun _ => ?_) (fun _ => ?_)
  · exact OS.ret (⟨rfl, I⟩)
  · refine OS.bP (simt_X11_within _ _ _ I) (fun _ _ _ I => ?_)
    try dsimp only
    refine OS.i (fun _ => ?_) (fun _ => ?_)
    · exact OS.ret (⟨rfl, I⟩)
    · refine OS.bEq (I.gR _ _ _) (fun v7 => ?_)
      refine OS.bEq (I.cl _ _) (fun _ => ?_)
      refine OS.bP (simt_X5_add _ _ _ I) (fun _ _ _ I => ?_)
      try dsimp only
      refine OS.i (fun _ => ?_) (fun _ => ?_)
      · exact OS.ret (⟨rfl, I⟩)
      · refine OS.bEq (I.gR _ _ _) (fun v13 => ?_)
        refine OS.bEq (I.gI _ _ _) (fun v15 => ?_)
        exact OS.ret (⟨rfl, I⟩)
set_option maxRecDepth 100000 in
set_option maxHeartbeats 4000000 in
theorem simt_X4_leastWrong_L6 {h0 : AH} (x0 : Nat) (x1 : Nat) (x2 : Nat) (x3 : Int32) (a : Int32 × Int32 × AH) (c : Int32 × Int32 × CH) (r : (fun (a : Int32 × Int32 × AH) (c : Int32 × Int32 × CH) => a.1 = c.1 ∧ a.2.1 = c.2.1 ∧ CK h0 c.2.2 a.2.2) a c) : OS (SR (fun (a : Int32 × Int32 × AH) (c : Int32 × Int32 × CH) => a.1 = c.1 ∧ a.2.1 = c.2.1 ∧ CK h0 c.2.2 a.2.2) (fun (a : Int32 × AH) (c : Int32 × CH) => a.1 = c.1 ∧ CK h0 c.2 a.2)) (f_X4_leastWrong_L6 x0 x1 x2 x3 a) (t_X4_leastWrong_L6 x0 x1 x2 x3 c) := by
  obtain ⟨s0, s1, hs⟩ := a
  obtain ⟨zs0, zs1, Cs⟩ := c
  obtain ⟨es0, es1, I⟩ := r
  dsimp only at es0 es1 I
  subst es0
  subst es1
  unfold f_X4_leastWrong_L6 t_X4_leastWrong_L6
  try dsimp only
  refine OS.bEq (I.cl _ _) (fun _ => ?_)
  refine OS.bP (simt_Jx4a65c_size_8abf5 _ I) (fun _ _ _ I => ?_)
  try dsimp only
  refine OS.i (fun _ => ?_) (fun _ => ?_)
  · exact OS.ret (SR.r (⟨rfl, I⟩))
  · refine OS.bEq (I.cl _ _) (fun _ => ?_)
    refine OS.bP (simt_Jx4a65c_get_915e3 _ _ I) (fun _ _ _ I => ?_)
    try dsimp only
    refine OS.bEq (I.cl _ _) (fun _ => ?_)
    refine OS.bEq (I.cl _ _) (fun _ => ?_)
    refine OS.bP (simt_X4_wrongWith _ _ _ _ I) (fun _ _ _ I => ?_)
    try dsimp only
    refine OS.i (fun _ => ?_) (fun _ => ?_)
    · exact OS.ret (SR.l (⟨rfl, rfl, I⟩))
    · refine OS.i (fun _ => ?_) (fun _ => ?_)
      · exact OS.ret (SR.l (⟨rfl, rfl, I⟩))
      · refine OS.i (fun _ => ?_) (fun _ => ?_)
        · exact OS.ret (SR.l (⟨rfl, rfl, I⟩))
        · exact OS.ret (SR.l (⟨rfl, rfl, I⟩))
theorem bL_X4_leastWrong_L6 {α β : Type} {R : α → β → Prop} {h0 : AH} (x0 : Nat) (x1 : Nat) (x2 : Nat) (x3 : Int32) {n : Nat} {h : AH} {C : CH} {s0 : Int32} {s1 : Int32} {k : (Int32 × AH) → Option α} {l : (Int32 × CH) → Option β} (I : CK h0 C h) (k0 : ∀ (w0 : Int32) (h' : AH) (C' : CH), CK h0 C' h' → OS R (k ((w0, h'))) (l ((w0, C')))) : OS R ((iter (f_X4_leastWrong_L6 x0 x1 x2 x3) n (s0, s1, h)).bind k) ((iter (t_X4_leastWrong_L6 x0 x1 x2 x3) n (s0, s1, C)).bind l) := by
  refine OS.b (OS.it (simt_X4_leastWrong_L6 x0 x1 x2 x3) n _ _ ⟨rfl, rfl, I⟩) (fun a c r => ?_)
  obtain ⟨x0, h'⟩ := a
  obtain ⟨zx0, C'⟩ := c
  obtain ⟨ex0, I2⟩ := r
  dsimp only at ex0 I2
  subst ex0
  exact k0 x0 h' C' I2
set_option maxRecDepth 100000 in
set_option maxHeartbeats 4000000 in
theorem simt_X4_leastWrong {h0 h : AH} {C : CH} (a0 : Nat) (a1 : Nat) (a2 : Nat) (a3 : Int32) (I : CK h0 C h) : OS (fun (a : Int32 × AH) (c : Int32 × CH) => a.1 = c.1 ∧ CK h0 c.2 a.2) (f_X4_leastWrong a0 a1 a2 a3 h) (t_X4_leastWrong a0 a1 a2 a3 C) := by
  unfold f_X4_leastWrong t_X4_leastWrong
  refine bL_X4_leastWrong_L6 _ _ _ _ I (fun _ _ _ I => ?_)
  try dsimp only [Sum.elim_inl, Sum.elim_inr]
  exact OS.ret (⟨rfl, I⟩)
set_option maxRecDepth 100000 in
set_option maxHeartbeats 4000000 in
theorem simt_X4_fewestWrong_L17 {h0 : AH} (x0 : Nat) (x1 : Nat) (x2 : Nat) (a : Int32 × AH) (c : Int32 × CH) (r : (fun (a : Int32 × AH) (c : Int32 × CH) => a.1 = c.1 ∧ CK h0 c.2 a.2) a c) : OS (SR (fun (a : Int32 × AH) (c : Int32 × CH) => a.1 = c.1 ∧ CK h0 c.2 a.2) (fun (a : AH) (c : CH) => CK h0 c a)) (f_X4_fewestWrong_L17 x0 x1 x2 a) (t_X4_fewestWrong_L17 x0 x1 x2 c) := by
  obtain ⟨s0, hs⟩ := a
  obtain ⟨zs0, Cs⟩ := c
  obtain ⟨es0, I⟩ := r
  dsimp only at es0 I
  subst es0
  unfold f_X4_fewestWrong_L17 t_X4_fewestWrong_L17
  try dsimp only
  refine OS.i (fun _ => ?_) (fun _ => ?_)
  · exact OS.ret (SR.r (I))
  · refine OS.bEq (I.gR _ _ _) (fun v10 => ?_)
    refine OS.bEq (I.gR _ _ _) (fun v12 => ?_)
    refine OS.bEq (I.ld _ _ _) (fun v14 => ?_)
    refine OS.bP (simt_X11_isSilent _ I) (fun _ _ _ I => ?_)
    try dsimp only
    refine OS.i (fun _ => ?_) (fun _ => ?_)
    · refine OS.bEq (I.cl _ _) (fun _ => ?_)
      refine OS.bP (simt_X4_leastWrong _ _ _ _ I) (fun _ _ _ I => ?_)
      try dsimp only
      refine OS.b (I.st _ _ _ _) (fun _ _ I => ?_)
      exact OS.ret (SR.l (⟨rfl, I⟩))
    · refine OS.bEq (I.gR _ _ _) (fun v24 => ?_)
      refine OS.bEq (I.ld _ _ _) (fun v26 => ?_)
      refine OS.b (I.st _ _ _ _) (fun _ _ I => ?_)
      exact OS.ret (SR.l (⟨rfl, I⟩))
theorem bL_X4_fewestWrong_L17 {α β : Type} {R : α → β → Prop} {h0 : AH} (x0 : Nat) (x1 : Nat) (x2 : Nat) {n : Nat} {h : AH} {C : CH} {s0 : Int32} {k : (AH) → Option α} {l : (CH) → Option β} (I : CK h0 C h) (k0 : ∀ (h' : AH) (C' : CH), CK h0 C' h' → OS R (k (h')) (l (C'))) : OS R ((iter (f_X4_fewestWrong_L17 x0 x1 x2) n (s0, h)).bind k) ((iter (t_X4_fewestWrong_L17 x0 x1 x2) n (s0, C)).bind l) := by
  refine OS.b (OS.it (simt_X4_fewestWrong_L17 x0 x1 x2) n _ _ ⟨rfl, I⟩) (fun a c r => ?_)
  exact k0 a c r
set_option maxRecDepth 100000 in
set_option maxHeartbeats 4000000 in
theorem simt_X4_fewestWrong {h0 h : AH} {C : CH} (a0 : Nat) (a1 : Nat) (a2 : Nat) (I : CK h0 C h) : OS (fun (a : Int32 × AH) (c : Int32 × CH) => a.1 = c.1 ∧ CK h0 c.2 a.2) (f_X4_fewestWrong a0 a1 a2 h) (t_X4_fewestWrong a0 a1 a2 C) := by
  unfold f_X4_fewestWrong t_X4_fewestWrong
  refine OS.bEq (I.gR _ _ _) (fun v1 => ?_)
  refine OS.bEq (I.gI _ _ _) (fun v3 => ?_)
  refine OS.b (I.st _ _ _ _) (fun _ _ I => ?_)
  refine OS.bEq (I.gI _ _ _) (fun v7 => ?_)
  refine bL_X4_fewestWrong_L17 _ _ _ I (fun _ _ I => ?_)
  try dsimp only [Sum.elim_inl, Sum.elim_inr]
  refine OS.bEq (I.gR _ _ _) (fun v32 => ?_)
  refine OS.bEq (I.ld _ _ _) (fun v34 => ?_)
  exact OS.ret (⟨rfl, I⟩)
set_option maxRecDepth 100000 in
set_option maxHeartbeats 4000000 in
theorem simt_X11_near {h0 h : AH} {C : CH} (a0 : Nat) (a1 : Int32) (I : CK h0 C h) : OS (fun (a : Int32 × AH) (c : Int32 × CH) => a.1 = c.1 ∧ CK h0 c.2 a.2) (f_X11_near a0 a1 h) (t_X11_near a0 a1 C) := by
  unfold f_X11_near t_X11_near
  refine OS.bEq (I.cl _ _) (fun _ => ?_)
  refine OS.bP (simt_X11_songOf _ _ I) (fun _ _ _ I => ?_)
  try dsimp only
  refine OS.e _ ?_ (fun a5 => ?_)
  · exact OS.ret (⟨rfl, I⟩)
  · refine OS.bEq (I.gR _ _ _) (fun v6 => ?_)
    refine OS.bEq (I.gR _ _ _) (fun v8 => ?_)
    refine OS.bEq (I.gR _ _ _) (fun v10 => ?_)
    refine OS.bEq (I.cl _ _) (fun _ => ?_)
    refine OS.bP (simt_X4_fewestWrong _ _ _ I) (fun _ _ _ I => ?_)
    try dsimp only
    exact OS.ret (⟨rfl, I⟩)
set_option maxRecDepth 100000 in
set_option maxHeartbeats 4000000 in
theorem simt_X4_makeNearLine {h0 h : AH} {C : CH} (a0 : Nat) (a1 : Nat) (a2 : Nat) (I : CK h0 C h) : OS (fun (a : AH) (c : CH) => CK h0 c a) (f_X4_makeNearLine a0 a1 a2 h) (t_X4_makeNearLine a0 a1 a2 C) := by
  unfold f_X4_makeNearLine t_X4_makeNearLine
  refine OS.b (I.pF _ _ _ _) (fun _ _ I => ?_)
  refine OS.bEq (I.cl _ _) (fun _ => ?_)
  refine OS.bP (simt_X4_fewestWrong _ _ _ I) (fun _ _ _ I => ?_)
  try dsimp only
  refine OS.i (fun _ => ?_) (fun _ => ?_)
  · exact OS.ret (I)
  · refine OS.bEq (I.cl _ _) (fun _ => ?_)
    refine OS.bV (simt_X4_lay _ _ _ _ I) (fun _ _ I => ?_)
    exact OS.ret (I)
set_option maxRecDepth 100000 in
set_option maxHeartbeats 4000000 in
theorem simt_X11_nearAt {h0 h : AH} {C : CH} (a0 : Nat) (a1 : Int32) (a2 : Int32) (I : CK h0 C h) : OS (fun (a : Int32 × AH) (c : Int32 × CH) => a.1 = c.1 ∧ CK h0 c.2 a.2) (f_X11_nearAt a0 a1 a2 h) (t_X11_nearAt a0 a1 a2 C) := by
  unfold f_X11_nearAt t_X11_nearAt
  refine OS.bEq (I.cl _ _) (fun _ => ?_)
  refine OS.bP (simt_X11_songOf _ _ I) (fun _ _ _ I => ?_)
  try dsimp only
  refine OS.e _ ?_ (fun a5 => ?_)
  · exact OS.ret (⟨rfl, I⟩)
  · refine OS.i (fun _ => ?_) (fun _ => ?_)
    · refine OS.bEq (I.gR _ _ _) (fun v7 => ?_)
      refine OS.bEq (I.gR _ _ _) (fun v9 => ?_)
      refine OS.bEq (I.gR _ _ _) (fun v11 => ?_)
      refine OS.bEq (I.cl _ _) (fun _ => ?_)
      refine OS.bV (simt_X4_makeNearLine _ _ _ I) (fun _ _ I => ?_)
      refine OS.bEq (I.gR _ _ _) (fun v16 => ?_)
      refine OS.bEq (I.cl _ _) (fun _ => ?_)
      refine OS.bP (simt_X4_wordAt _ _ I) (fun _ _ _ I => ?_)
      try dsimp only
      exact OS.ret (⟨rfl, I⟩)
    · exact OS.ret (⟨rfl, I⟩)
set_option maxRecDepth 100000 in
set_option maxHeartbeats 4000000 in
theorem simt_X11_now {h0 h : AH} {C : CH} (a0 : Nat) (a1 : Int32) (I : CK h0 C h) : OS (fun (a : Int32 × AH) (c : Int32 × CH) => a.1 = c.1 ∧ CK h0 c.2 a.2) (f_X11_now a0 a1 h) (t_X11_now a0 a1 C) := by
  unfold f_X11_now t_X11_now
  refine OS.bEq (I.gR _ _ _) (fun v1 => ?_)
  refine OS.bEq (I.cl _ _) (fun _ => ?_)
  refine OS.bP (simt_X0_has _ _ I) (fun _ _ _ I => ?_)
  try dsimp only
  refine OS.i (fun _ => ?_) (fun _ => ?_)
  · exact OS.ret (⟨rfl, I⟩)
  · refine OS.bEq (I.gR _ _ _) (fun v7 => ?_)
    refine OS.bEq (I.gR _ _ _) (fun v9 => ?_)
    refine OS.bEq (I.ld _ _ _) (fun v11 => ?_)
    exact OS.ret (⟨rfl, I⟩)
set_option maxRecDepth 100000 in
set_option maxHeartbeats 4000000 in
theorem simt_X11_pause {h0 h : AH} {C : CH} (a0 : Nat) (a1 : Int32) (I : CK h0 C h) : OS (fun (a : Int32 × AH) (c : Int32 × CH) => a.1 = c.1 ∧ CK h0 c.2 a.2) (f_X11_pause a0 a1 h) (t_X11_pause a0 a1 C) := by
  unfold f_X11_pause t_X11_pause
  refine OS.bP (simt_X11_within _ _ _ I) (fun _ _ _ I => ?_)
  try dsimp only
  refine OS.i (fun _ => ?_) (fun _ => ?_)
  · exact OS.ret (⟨rfl, I⟩)
  · refine OS.bEq (I.gR _ _ _) (fun v4 => ?_)
    refine OS.bEq (I.gR _ _ _) (fun v6 => ?_)
    refine OS.bEq (I.gR _ _ _) (fun v8 => ?_)
    refine OS.bEq (I.cl _ _) (fun _ => ?_)
    refine OS.bV (simt_X0_restFor _ _ _ I) (fun _ _ I => ?_)
    refine OS.bEq (I.gR _ _ _) (fun v13 => ?_)
    refine OS.b (I.pF _ _ _ _) (fun _ _ I => ?_)
    refine OS.bEq (I.gR _ _ _) (fun v17 => ?_)
    refine OS.bEq (I.cl _ _) (fun _ => ?_)
    refine OS.bP (simt_X0_howManyAtStrength _ I) (fun _ _ _ I => ?_)
    try dsimp only
    exact OS.ret (⟨rfl, I⟩)
set_option maxRecDepth 100000 in
set_option maxHeartbeats 4000000 in
theorem simt_X9_tryFrom_L24 {h0 : AH} {rec : Nat → Nat → Nat → Nat → Int32 → Int32 → Int32 → AH → Option (AH)} {rec2 : Nat → Nat → Nat → Nat → Int32 → Int32 → Int32 → CH → Option (CH)} (hrec : ∀ (a0 a1 a2 a3 : Nat) (a4 a5 a6 : Int32) {h : AH} {C : CH}, CK h0 C h → OS (fun (a : AH) (c : CH) => CK h0 c a) (rec a0 a1 a2 a3 a4 a5 a6 h) (rec2 a0 a1 a2 a3 a4 a5 a6 C)) (x0 : Nat) (x1 : Nat) (x2 : Nat) (x3 : Nat) (x4 : Int32) (x5 : Int32) (x6 : Int32) (a : Int32 × AH) (c : Int32 × CH) (r : (fun (a : Int32 × AH) (c : Int32 × CH) => a.1 = c.1 ∧ CK h0 c.2 a.2) a c) : OS (SR (fun (a : Int32 × AH) (c : Int32 × CH) => a.1 = c.1 ∧ CK h0 c.2 a.2) (fun (a : AH) (c : CH) => CK h0 c a)) (f_X9_tryFrom_L24 rec x0 x1 x2 x3 x4 x5 x6 a) (t_X9_tryFrom_L24 rec2 x0 x1 x2 x3 x4 x5 x6 c) := by
  obtain ⟨s0, hs⟩ := a
  obtain ⟨zs0, Cs⟩ := c
  obtain ⟨es0, I⟩ := r
  dsimp only at es0 I
  subst es0
  unfold f_X9_tryFrom_L24 t_X9_tryFrom_L24
  try dsimp only
  refine OS.bEq (I.cl _ _) (fun _ => ?_)
  refine OS.bP (simt_Jx4a65c_size_8abf5 _ I) (fun _ _ _ I => ?_)
  try dsimp only
  refine OS.i (fun _ => ?_) (fun _ => ?_)
  · exact OS.ret (SR.r (I))
  · refine OS.bEq (I.gR _ _ _) (fun v11 => ?_)
    refine OS.bEq (I.ldR _ _ _) (fun v13 => ?_)
    refine OS.bEq (I.gR _ _ _) (fun v15 => ?_)
    refine OS.bEq (I.gR _ _ _) (fun v17 => ?_)
    refine OS.bV (simt_X11_copy _ _ I) (fun _ _ I => ?_)
    refine OS.bEq (I.gI _ _ _) (fun v21 => ?_)
    refine OS.bEq (I.gR _ _ _) (fun v23 => ?_)
    refine OS.bEq (I.cl _ _) (fun _ => ?_)
    refine OS.bP (simt_Jx4a65c_get_915e3 _ _ I) (fun _ _ _ I => ?_)
    try dsimp only
    refine OS.bEq (I.cl _ _) (fun _ => ?_)
    refine OS.bEq (I.cl _ _) (fun _ => ?_)
    refine OS.bP (simt_Jx4a65c_get_915e3 _ _ I) (fun _ _ _ I => ?_)
    try dsimp only
    refine OS.bEq (I.cl _ _) (fun _ => ?_)
    refine OS.bEq (I.cl _ _) (fun _ => ?_)
    refine OS.bP (simt_X1_go _ _ _ _ _ I) (fun _ _ _ I => ?_)
    try dsimp only
    refine OS.i (fun _ => ?_) (fun _ => ?_)
    · exact OS.ret (SR.l (⟨rfl, I⟩))
    · refine OS.bEq (I.gR _ _ _) (fun v37 => ?_)
      refine OS.b (I.st _ _ _ _) (fun _ _ I => ?_)
      refine OS.bEq (I.gR _ _ _) (fun v41 => ?_)
      refine OS.bEq (I.gI _ _ _) (fun v43 => ?_)
      refine OS.bEq (I.cl _ _) (fun _ => ?_)
      refine OS.bP (simt_Jx4a65c_size_8abf5 _ I) (fun _ _ _ I => ?_)
      try dsimp only
      refine OS.i (fun _ => ?_) (fun _ => ?_)
      · refine OS.b (I.pF _ _ _ _) (fun _ _ I => ?_)
        refine OS.bEq (I.gR _ _ _) (fun v72 => ?_)
        refine OS.bEq (I.gR _ _ _) (fun v74 => ?_)
        refine OS.bV (simt_X11_copy _ _ I) (fun _ _ I => ?_)
        exact OS.ret (SR.l (⟨rfl, I⟩))
      · refine OS.i (fun _ => ?_) (fun _ => ?_)
        · exact OS.ret (SR.l (⟨rfl, I⟩))
        · refine OS.bEq (I.gR _ _ _) (fun v50 => ?_)
          refine OS.bEq (I.gR _ _ _) (fun v52 => ?_)
          refine OS.bEq (I.gR _ _ _) (fun v54 => ?_)
          refine OS.bEq (I.ldR _ _ _) (fun v56 => ?_)
          refine OS.bV (simt_X11_copy _ _ I) (fun _ _ I => ?_)
          refine OS.bEq (I.gR _ _ _) (fun v60 => ?_)
          refine OS.bEq (I.ldR _ _ _) (fun v62 => ?_)
          refine OS.bEq (I.cl _ _) (fun _ => ?_)
          refine OS.bV (simt_X0_restFor _ _ _ I) (fun _ _ I => ?_)
          refine OS.bEq (I.cl _ _) (fun _ => ?_)
          refine OS.b (hrec _ _ _ _ _ _ _ I) (fun _ _ I => ?_)
          exact OS.ret (SR.l (⟨rfl, I⟩))
theorem bL_X9_tryFrom_L24 {α β : Type} {R : α → β → Prop} {h0 : AH} {rec : Nat → Nat → Nat → Nat → Int32 → Int32 → Int32 → AH → Option (AH)} {rec2 : Nat → Nat → Nat → Nat → Int32 → Int32 → Int32 → CH → Option (CH)} (hrec : ∀ (a0 a1 a2 a3 : Nat) (a4 a5 a6 : Int32) {h : AH} {C : CH}, CK h0 C h → OS (fun (a : AH) (c : CH) => CK h0 c a) (rec a0 a1 a2 a3 a4 a5 a6 h) (rec2 a0 a1 a2 a3 a4 a5 a6 C)) (x0 : Nat) (x1 : Nat) (x2 : Nat) (x3 : Nat) (x4 : Int32) (x5 : Int32) (x6 : Int32) {n : Nat} {h : AH} {C : CH} {s0 : Int32} {k : (AH) → Option α} {l : (CH) → Option β} (I : CK h0 C h) (k0 : ∀ (h' : AH) (C' : CH), CK h0 C' h' → OS R (k (h')) (l (C'))) : OS R ((iter (f_X9_tryFrom_L24 rec x0 x1 x2 x3 x4 x5 x6) n (s0, h)).bind k) ((iter (t_X9_tryFrom_L24 rec2 x0 x1 x2 x3 x4 x5 x6) n (s0, C)).bind l) := by
  refine OS.b (OS.it (simt_X9_tryFrom_L24 hrec x0 x1 x2 x3 x4 x5 x6) n _ _ ⟨rfl, I⟩) (fun a c r => ?_)
  exact k0 a c r
set_option maxRecDepth 100000 in
set_option maxHeartbeats 4000000 in
theorem simt_X9_tryFrom {h0 h : AH} {C : CH} {rec : Nat → Nat → Nat → Nat → Int32 → Int32 → Int32 → AH → Option (AH)} {rec2 : Nat → Nat → Nat → Nat → Int32 → Int32 → Int32 → CH → Option (CH)} (hrec : ∀ (a0 a1 a2 a3 : Nat) (a4 a5 a6 : Int32) {h : AH} {C : CH}, CK h0 C h → OS (fun (a : AH) (c : CH) => CK h0 c a) (rec a0 a1 a2 a3 a4 a5 a6 h) (rec2 a0 a1 a2 a3 a4 a5 a6 C)) (a0 : Nat) (a1 : Nat) (a2 : Nat) (a3 : Nat) (a4 : Int32) (a5 : Int32) (a6 : Int32) (I : CK h0 C h) : OS (fun (a : AH) (c : CH) => CK h0 c a) (f_X9_tryFrom rec a0 a1 a2 a3 a4 a5 a6 h) (t_X9_tryFrom rec2 a0 a1 a2 a3 a4 a5 a6 C) := by
  unfold f_X9_tryFrom t_X9_tryFrom
  refine OS.i (fun _ => ?_) (fun _ => ?_)
  · exact OS.ret (I)
  · refine OS.bEq (I.cl _ _) (fun _ => ?_)
    refine OS.bP (simt_Jx4a65c_size_8abf5 _ I) (fun _ _ _ I => ?_)
    try dsimp only
    refine OS.i (fun _ => ?_) (fun _ => ?_)
    · exact OS.ret (I)
    · refine OS.i (fun _ => ?_) (fun _ => ?_)
      · refine bL_X9_tryFrom_L24 hrec _ _ _ _ _ _ _ I (fun _ _ I => ?_)
        try dsimp only [Sum.elim_inl, Sum.elim_inr]
        exact OS.ret (I)
      · exact OS.ret (I)
theorem simt_X9_tryFrom_d0 {h0 h : AH} {C : CH} (a0 : Nat) (a1 : Nat) (a2 : Nat) (a3 : Nat) (a4 : Int32) (a5 : Int32) (a6 : Int32) (I : CK h0 C h) : OS (fun (a : AH) (c : CH) => CK h0 c a) (f_X9_tryFrom_d0 a0 a1 a2 a3 a4 a5 a6 h) (t_X9_tryFrom_d0 a0 a1 a2 a3 a4 a5 a6 C) := OS.none
theorem simt_X9_tryFrom_d1 {h0 h : AH} {C : CH} (a0 : Nat) (a1 : Nat) (a2 : Nat) (a3 : Nat) (a4 : Int32) (a5 : Int32) (a6 : Int32) (I : CK h0 C h) : OS (fun (a : AH) (c : CH) => CK h0 c a) (f_X9_tryFrom_d1 a0 a1 a2 a3 a4 a5 a6 h) (t_X9_tryFrom_d1 a0 a1 a2 a3 a4 a5 a6 C) := simt_X9_tryFrom (fun a0 a1 a2 a3 a4 a5 a6 _ _ I => simt_X9_tryFrom_d0 a0 a1 a2 a3 a4 a5 a6 I) a0 a1 a2 a3 a4 a5 a6 I
theorem simt_X9_tryFrom_d2 {h0 h : AH} {C : CH} (a0 : Nat) (a1 : Nat) (a2 : Nat) (a3 : Nat) (a4 : Int32) (a5 : Int32) (a6 : Int32) (I : CK h0 C h) : OS (fun (a : AH) (c : CH) => CK h0 c a) (f_X9_tryFrom_d2 a0 a1 a2 a3 a4 a5 a6 h) (t_X9_tryFrom_d2 a0 a1 a2 a3 a4 a5 a6 C) := simt_X9_tryFrom (fun a0 a1 a2 a3 a4 a5 a6 _ _ I => simt_X9_tryFrom_d1 a0 a1 a2 a3 a4 a5 a6 I) a0 a1 a2 a3 a4 a5 a6 I
theorem simt_X9_tryFrom_d3 {h0 h : AH} {C : CH} (a0 : Nat) (a1 : Nat) (a2 : Nat) (a3 : Nat) (a4 : Int32) (a5 : Int32) (a6 : Int32) (I : CK h0 C h) : OS (fun (a : AH) (c : CH) => CK h0 c a) (f_X9_tryFrom_d3 a0 a1 a2 a3 a4 a5 a6 h) (t_X9_tryFrom_d3 a0 a1 a2 a3 a4 a5 a6 C) := simt_X9_tryFrom (fun a0 a1 a2 a3 a4 a5 a6 _ _ I => simt_X9_tryFrom_d2 a0 a1 a2 a3 a4 a5 a6 I) a0 a1 a2 a3 a4 a5 a6 I
theorem simt_X9_tryFrom_d4 {h0 h : AH} {C : CH} (a0 : Nat) (a1 : Nat) (a2 : Nat) (a3 : Nat) (a4 : Int32) (a5 : Int32) (a6 : Int32) (I : CK h0 C h) : OS (fun (a : AH) (c : CH) => CK h0 c a) (f_X9_tryFrom_d4 a0 a1 a2 a3 a4 a5 a6 h) (t_X9_tryFrom_d4 a0 a1 a2 a3 a4 a5 a6 C) := simt_X9_tryFrom (fun a0 a1 a2 a3 a4 a5 a6 _ _ I => simt_X9_tryFrom_d3 a0 a1 a2 a3 a4 a5 a6 I) a0 a1 a2 a3 a4 a5 a6 I
set_option maxRecDepth 100000 in
set_option maxHeartbeats 4000000 in
theorem simt_X9_findPlan {h0 h : AH} {C : CH} (a0 : Nat) (a1 : Nat) (a2 : Nat) (a3 : Nat) (a4 : Int32) (I : CK h0 C h) : OS (fun (a : AH) (c : CH) => CK h0 c a) (f_X9_findPlan a0 a1 a2 a3 a4 h) (t_X9_findPlan a0 a1 a2 a3 a4 C) := by
  unfold f_X9_findPlan t_X9_findPlan
  refine OS.bEq (I.gI _ _ _) (fun v1 => ?_)
  refine OS.i (fun _ => ?_) (fun _ => ?_)
  · refine OS.b (I.pF _ _ _ _) (fun _ _ I => ?_)
    refine OS.bEq (I.gR _ _ _) (fun v6 => ?_)
    refine OS.bEq (I.cl _ _) (fun _ => ?_)
    refine OS.bV (simt_X1_beginAsTold _ _ I) (fun _ _ I => ?_)
    refine OS.bEq (I.gR _ _ _) (fun v11 => ?_)
    refine OS.bEq (I.gR _ _ _) (fun v13 => ?_)
    refine OS.bEq (I.ldR _ _ _) (fun v15 => ?_)
    refine OS.bV (simt_X11_copy _ _ I) (fun _ _ I => ?_)
    refine OS.bEq (I.cl _ _) (fun _ => ?_)
    refine OS.bV (simt_X9_tryFrom_d4 _ _ _ _ _ _ _ I) (fun _ _ I => ?_)
    refine OS.b (I.pF _ _ _ _) (fun _ _ I => ?_)
    exact OS.ret (I)
  · exact OS.ret (I)
set_option maxRecDepth 100000 in
set_option maxHeartbeats 4000000 in
theorem simt_X11_plan {h0 h : AH} {C : CH} (a0 : Nat) (I : CK h0 C h) : OS (fun (a : Int32 × AH) (c : Int32 × CH) => a.1 = c.1 ∧ CK h0 c.2 a.2) (f_X11_plan a0 h) (t_X11_plan a0 C) := by
  unfold f_X11_plan t_X11_plan
  refine OS.bEq (I.gR _ _ _) (fun v1 => ?_)
  refine OS.bEq (I.cl _ _) (fun _ => ?_)
  refine OS.bP (simt_Jx4a65c_isEmpty_aae02 _ I) (fun _ _ _ I => ?_)
  try dsimp only
  refine OS.i (fun _ => ?_) (fun _ => ?_)
  · refine OS.bEq (I.gR _ _ _) (fun v7 => ?_)
    refine OS.bEq (I.cl _ _) (fun _ => ?_)
    refine OS.bP (simt_Jx4a65c_isEmpty_aae02 _ I) (fun _ _ _ I => ?_)
    try dsimp only
    refine OS.i (fun _ => ?_) (fun _ => ?_)
    · refine OS.bEq (I.gR _ _ _) (fun v13 => ?_)
      refine OS.bEq (I.gR _ _ _) (fun v15 => ?_)
      refine OS.bEq (I.gR _ _ _) (fun v17 => ?_)
      refine OS.bEq (I.gR _ _ _) (fun v19 => ?_)
      refine OS.bEq (I.gI _ _ _) (fun v21 => ?_)
      refine OS.bEq (I.cl _ _) (fun _ => ?_)
      refine OS.bV (simt_X9_findPlan _ _ _ _ _ I) (fun _ _ I => ?_)
      refine OS.bEq (I.gR _ _ _) (fun v26 => ?_)
      refine OS.bEq (I.gI _ _ _) (fun v28 => ?_)
      refine OS.i (fun _ => ?_) (fun _ => ?_)
      · exact OS.ret (⟨rfl, I⟩)
      · refine OS.bEq (I.gR _ _ _) (fun v31 => ?_)
        refine OS.bEq (I.gI _ _ _) (fun v33 => ?_)
        exact OS.ret (⟨rfl, I⟩)
    · exact OS.ret (⟨rfl, I⟩)
  · exact OS.ret (⟨rfl, I⟩)
set_option maxRecDepth 100000 in
set_option maxHeartbeats 4000000 in
theorem simt_X11_planAt {h0 h : AH} {C : CH} (a0 : Nat) (a1 : Int32) (I : CK h0 C h) : OS (fun (a : Int32 × AH) (c : Int32 × CH) => a.1 = c.1 ∧ CK h0 c.2 a.2) (f_X11_planAt a0 a1 h) (t_X11_planAt a0 a1 C) := by
  unfold f_X11_planAt t_X11_planAt
  refine OS.bEq (I.gR _ _ _) (fun v1 => ?_)
  refine OS.bEq (I.cl _ _) (fun _ => ?_)
  refine OS.bP (simt_Jx4a65c_size_8abf5 _ I) (fun _ _ _ I => ?_)
  try dsimp only
  refine OS.bP (simt_X11_within _ _ _ I) (fun _ _ _ I => ?_)
  try dsimp only
  refine OS.i (fun _ => ?_) (fun _ => ?_)
  · exact OS.ret (⟨rfl, I⟩)
  · refine OS.bEq (I.gR _ _ _) (fun v9 => ?_)
    refine OS.bEq (I.cl _ _) (fun _ => ?_)
    refine OS.bP (simt_Jx4a65c_isEmpty_aae02 _ I) (fun _ _ _ I => ?_)
    try dsimp only
    refine OS.i (fun _ => ?_) (fun _ => ?_)
    · refine OS.bEq (I.gR _ _ _) (fun v15 => ?_)
      refine OS.bEq (I.gR _ _ _) (fun v17 => ?_)
      refine OS.bEq (I.gR _ _ _) (fun v19 => ?_)
      refine OS.bEq (I.gR _ _ _) (fun v21 => ?_)
      refine OS.bEq (I.gI _ _ _) (fun v23 => ?_)
      refine OS.bEq (I.cl _ _) (fun _ => ?_)
      refine OS.bV (simt_X9_findPlan _ _ _ _ _ I) (fun _ _ I => ?_)
      refine OS.bEq (I.gR _ _ _) (fun v28 => ?_)
      refine OS.bEq (I.gI _ _ _) (fun v30 => ?_)
      refine OS.i (fun _ => ?_) (fun _ => ?_)
      · exact OS.ret (⟨rfl, I⟩)
      · refine OS.bEq (I.gR _ _ _) (fun v33 => ?_)
        refine OS.bEq (I.gR _ _ _) (fun v35 => ?_)
        refine OS.bEq (I.ld _ _ _) (fun v37 => ?_)
        exact OS.ret (⟨rfl, I⟩)
    · exact OS.ret (⟨rfl, I⟩)
set_option maxRecDepth 100000 in
set_option maxHeartbeats 4000000 in
theorem simt_X6_take {h0 h : AH} {C : CH} (a0 : Nat) (a1 : Nat) (I : CK h0 C h) : OS (fun (a : AH) (c : CH) => CK h0 c a) (f_X6_take a0 a1 h) (t_X6_take a0 a1 C) := by
  unfold f_X6_take t_X6_take
  refine OS.bEq (I.gR _ _ _) (fun v1 => ?_)
  refine OS.bEq (I.gR _ _ _) (fun v3 => ?_)
  refine OS.bV (simt_X11_copy _ _ I) (fun _ _ I => ?_)
  refine OS.bEq (I.gI _ _ _) (fun v7 => ?_)
  refine OS.b (I.pF _ _ _ _) (fun _ _ I => ?_)
  refine OS.b (I.pF _ _ _ _) (fun _ _ I => ?_)
  exact OS.ret (I)
set_option maxRecDepth 100000 in
set_option maxHeartbeats 4000000 in
theorem simt_X11_refrain {h0 h : AH} {C : CH} (a0 : Nat) (a1 : Int32) (I : CK h0 C h) : OS (fun (a : Int32 × AH) (c : Int32 × CH) => a.1 = c.1 ∧ CK h0 c.2 a.2) (f_X11_refrain a0 a1 h) (t_X11_refrain a0 a1 C) := by
  unfold f_X11_refrain t_X11_refrain
  refine OS.bEq (I.cl _ _) (fun _ => ?_)
  refine OS.bP (simt_X11_songOf _ _ I) (fun _ _ _ I => ?_)
  try dsimp only
  refine OS.e _ ?_ (fun a5 => ?_)
  · exact OS.ret (⟨rfl, I⟩)
  · refine OS.bEq (I.gR _ _ _) (fun v6 => ?_)
    refine OS.bEq (I.gI _ _ _) (fun v8 => ?_)
    refine OS.i (fun _ => ?_) (fun _ => ?_)
    · refine OS.bEq (I.gR _ _ _) (fun v11 => ?_)
      refine OS.bEq (I.gR _ _ _) (fun v13 => ?_)
      refine OS.bEq (I.cl _ _) (fun _ => ?_)
      refine OS.bV (simt_X6_take _ _ I) (fun _ _ I => ?_)
      refine OS.bEq (I.gR _ _ _) (fun v18 => ?_)
      refine OS.b (I.pF _ _ _ _) (fun _ _ I => ?_)
      refine OS.bEq (I.gR _ _ _) (fun v22 => ?_)
      refine OS.bEq (I.gI _ _ _) (fun v24 => ?_)
      exact OS.ret (⟨rfl, I⟩)
    · exact OS.ret (⟨rfl, I⟩)
set_option maxRecDepth 100000 in
set_option maxHeartbeats 4000000 in
theorem simt_X11_rest {h0 h : AH} {C : CH} (a0 : Nat) (I : CK h0 C h) : OS (fun (a : Int32 × AH) (c : Int32 × CH) => a.1 = c.1 ∧ CK h0 c.2 a.2) (f_X11_rest a0 h) (t_X11_rest a0 C) := by
  unfold f_X11_rest t_X11_rest
  refine OS.bEq (I.gR _ _ _) (fun v1 => ?_)
  refine OS.bEq (I.gI _ _ _) (fun v3 => ?_)
  refine OS.bEq (I.gR _ _ _) (fun v5 => ?_)
  refine OS.b (I.pF _ _ _ _) (fun _ _ I => ?_)
  exact OS.ret (⟨rfl, I⟩)
set_option maxRecDepth 100000 in
set_option maxHeartbeats 4000000 in
theorem simt_X7_init {h0 h : AH} {C : CH} (a0 : Nat) (I : CK h0 C h) : OS (fun (a : AH) (c : CH) => CK h0 c a) (f_X7_init a0 h) (t_X7_init a0 C) := by
  unfold f_X7_init t_X7_init
  have I1 := I.new (.inr (7, [.null, .int 0])) (cell_obj _ 7 (by decide))
  try rw [I.1.1]
  refine OS.bV (simt_X6_init _ I1) (fun _ _ I => ?_)
  refine OS.b (I.pF _ _ _ _) (fun _ _ I => ?_)
  have I1 := I.new (.inr (7, [.null, .int 0])) (cell_obj _ 7 (by decide))
  try rw [I.1.1]
  refine OS.bV (simt_X6_init _ I1) (fun _ _ I => ?_)
  refine OS.b (I.pF _ _ _ _) (fun _ _ I => ?_)
  exact OS.ret (I)
set_option maxRecDepth 100000 in
set_option maxHeartbeats 4000000 in
theorem simt_X11_song {h0 h : AH} {C : CH} (a0 : Nat) (I : CK h0 C h) : OS (fun (a : Int32 × AH) (c : Int32 × CH) => a.1 = c.1 ∧ CK h0 c.2 a.2) (f_X11_song a0 h) (t_X11_song a0 C) := by
  unfold f_X11_song t_X11_song
  refine OS.bEq (I.gR _ _ _) (fun v1 => ?_)
  refine OS.bEq (I.gI _ _ _) (fun v3 => ?_)
  refine OS.i (fun _ => ?_) (fun _ => ?_)
  · exact OS.ret (⟨rfl, I⟩)
  · refine OS.bEq (I.gR _ _ _) (fun v6 => ?_)
    refine OS.bEq (I.cl _ _) (fun _ => ?_)
    refine OS.bP (simt_Jx4a65c_size_8abf5 _ I) (fun _ _ _ I => ?_)
    try dsimp only
    refine OS.i (fun _ => ?_) (fun _ => ?_)
    · have I1 := I.new (.inr (8, [.null, .null])) (cell_obj _ 8 (by decide))
      try rw [I.1.1]
      refine OS.bV (simt_X7_init _ I1) (fun _ _ I => ?_)
      refine OS.bEq (I.gR _ _ _) (fun v14 => ?_)
      refine OS.bEq (I.gR _ _ _) (fun v16 => ?_)
      refine OS.bEq (I.cl _ _) (fun _ => ?_)
      refine OS.bV (simt_X6_take _ _ I) (fun _ _ I => ?_)
      refine OS.bEq (I.gR _ _ _) (fun v21 => ?_)
      refine OS.bEq (I.cl _ _) (fun _ => ?_)
      refine OS.bP (simt_Jx4a65c_add_9ea2d _ _ I) (fun _ _ _ I => ?_)
      try dsimp only
      refine OS.bEq (I.gR _ _ _) (fun v26 => ?_)
      refine OS.b (I.pF _ _ _ _) (fun _ _ I => ?_)
      refine OS.bEq (I.gR _ _ _) (fun v30 => ?_)
      refine OS.bEq (I.cl _ _) (fun _ => ?_)
      refine OS.bP (simt_Jx4a65c_size_8abf5 _ I) (fun _ _ _ I => ?_)
      try dsimp only
      exact OS.ret (⟨rfl, I⟩)
    · exact OS.ret (⟨rfl, I⟩)
set_option maxRecDepth 100000 in
set_option maxHeartbeats 4000000 in
theorem simt_X11_task {h0 h : AH} {C : CH} (a0 : Nat) (a1 : Int32) (a2 : Int32) (a3 : Int32) (I : CK h0 C h) : OS (fun (a : Int32 × AH) (c : Int32 × CH) => a.1 = c.1 ∧ CK h0 c.2 a.2) (f_X11_task a0 a1 a2 a3 h) (t_X11_task a0 a1 a2 a3 C) := by
  unfold f_X11_task t_X11_task
  refine OS.bP (simt_X11_isTask _ _ _ I) (fun _ _ _ I => ?_)
  try dsimp only
  refine OS.i (fun _ => ?_) (fun _ => ?_)
  · exact OS.ret (⟨rfl, I⟩)
  · refine OS.bEq (I.gR _ _ _) (fun v4 => ?_)
    refine OS.bEq (I.cl _ _) (fun _ => ?_)
    refine OS.bP (simt_Jx4a65c_size_8abf5 _ I) (fun _ _ _ I => ?_)
    try dsimp only
    refine OS.i (fun _ => ?_) (fun _ => ?_)
    · refine OS.bEq (I.gR _ _ _) (fun v10 => ?_)
      have I1 := I.new (.inr (9, [.int 0, .int 0, .int 0])) (cell_obj _ 9 (by decide))
      try rw [I.1.1]
      refine OS.bV (simt_X8_init _ _ _ _ I1) (fun _ _ I => ?_)
      refine OS.bEq (I.cl _ _) (fun _ => ?_)
      refine OS.bP (simt_Jx4a65c_add_9ea2d _ _ I) (fun _ _ _ I => ?_)
      try dsimp only
      refine OS.bEq (I.gR _ _ _) (fun v17 => ?_)
      refine OS.b (I.pF _ _ _ _) (fun _ _ I => ?_)
      refine OS.bEq (I.gR _ _ _) (fun v21 => ?_)
      refine OS.bEq (I.cl _ _) (fun _ => ?_)
      refine OS.bP (simt_Jx4a65c_size_8abf5 _ I) (fun _ _ _ I => ?_)
      try dsimp only
      exact OS.ret (⟨rfl, I⟩)
    · exact OS.ret (⟨rfl, I⟩)
set_option maxRecDepth 100000 in
set_option maxHeartbeats 4000000 in
theorem simt_X11_tree {h0 h : AH} {C : CH} (a0 : Nat) (I : CK h0 C h) : OS (fun (a : Int32 × AH) (c : Int32 × CH) => a.1 = c.1 ∧ CK h0 c.2 a.2) (f_X11_tree a0 h) (t_X11_tree a0 C) := by
  unfold f_X11_tree t_X11_tree
  refine OS.bEq (I.gR _ _ _) (fun v1 => ?_)
  refine OS.bEq (I.gR _ _ _) (fun v3 => ?_)
  refine OS.bEq (I.cl _ _) (fun _ => ?_)
  refine OS.bP (simt_X2_growTree _ _ I) (fun _ _ _ I => ?_)
  try dsimp only
  exact OS.ret (⟨rfl, I⟩)
set_option maxRecDepth 100000 in
set_option maxHeartbeats 4000000 in
theorem simt_X1_beginFresh_L13 {h0 : AH} (x0 : Nat) (x1 : Nat) (a : Int32 × AH) (c : Int32 × CH) (r : (fun (a : Int32 × AH) (c : Int32 × CH) => a.1 = c.1 ∧ CK h0 c.2 a.2) a c) : OS (SR (fun (a : Int32 × AH) (c : Int32 × CH) => a.1 = c.1 ∧ CK h0 c.2 a.2) (fun (a : AH) (c : CH) => CK h0 c a)) (f_X1_beginFresh_L13 x0 x1 a) (t_X1_beginFresh_L13 x0 x1 c) := by
  obtain ⟨s0, hs⟩ := a
  obtain ⟨zs0, Cs⟩ := c
  obtain ⟨es0, I⟩ := r
  dsimp only at es0 I
  subst es0
  unfold f_X1_beginFresh_L13 t_X1_beginFresh_L13
  try dsimp only
  refine OS.i (fun _ => ?_) (fun _ => ?_)
  · exact OS.ret (SR.r (I))
  · refine OS.bEq (I.gR _ _ _) (fun v8 => ?_)
    refine OS.b (I.st _ _ _ _) (fun _ _ I => ?_)
    exact OS.ret (SR.l (⟨rfl, I⟩))
theorem bL_X1_beginFresh_L13 {α β : Type} {R : α → β → Prop} {h0 : AH} (x0 : Nat) (x1 : Nat) {n : Nat} {h : AH} {C : CH} {s0 : Int32} {k : (AH) → Option α} {l : (CH) → Option β} (I : CK h0 C h) (k0 : ∀ (h' : AH) (C' : CH), CK h0 C' h' → OS R (k (h')) (l (C'))) : OS R ((iter (f_X1_beginFresh_L13 x0 x1) n (s0, h)).bind k) ((iter (t_X1_beginFresh_L13 x0 x1) n (s0, C)).bind l) := by
  refine OS.b (OS.it (simt_X1_beginFresh_L13 x0 x1) n _ _ ⟨rfl, I⟩) (fun a c r => ?_)
  exact k0 a c r
set_option maxRecDepth 100000 in
set_option maxHeartbeats 4000000 in
theorem simt_X1_beginFresh {h0 h : AH} {C : CH} (a0 : Nat) (a1 : Nat) (I : CK h0 C h) : OS (fun (a : AH) (c : CH) => CK h0 c a) (f_X1_beginFresh a0 a1 h) (t_X1_beginFresh a0 a1 C) := by
  unfold f_X1_beginFresh t_X1_beginFresh
  refine OS.bEq (I.gR _ _ _) (fun v1 => ?_)
  refine OS.bEq (I.gR _ _ _) (fun v3 => ?_)
  refine OS.bV (simt_X11_copy _ _ I) (fun _ _ I => ?_)
  refine bL_X1_beginFresh_L13 _ _ I (fun _ _ I => ?_)
  try dsimp only [Sum.elim_inl, Sum.elim_inr]
  refine OS.bEq (I.gI _ _ _) (fun v14 => ?_)
  refine OS.b (I.pF _ _ _ _) (fun _ _ I => ?_)
  refine OS.b (I.pF _ _ _ _) (fun _ _ I => ?_)
  exact OS.ret (I)
set_option maxRecDepth 100000 in
set_option maxHeartbeats 4000000 in
theorem simt_X5_span_L4 {h0 : AH} (x0 : Nat) (a : Int32 × Int32 × AH) (c : Int32 × Int32 × CH) (r : (fun (a : Int32 × Int32 × AH) (c : Int32 × Int32 × CH) => a.1 = c.1 ∧ a.2.1 = c.2.1 ∧ CK h0 c.2.2 a.2.2) a c) : OS (SR (fun (a : Int32 × Int32 × AH) (c : Int32 × Int32 × CH) => a.1 = c.1 ∧ a.2.1 = c.2.1 ∧ CK h0 c.2.2 a.2.2) (fun (a : Int32 × AH) (c : Int32 × CH) => a.1 = c.1 ∧ CK h0 c.2 a.2)) (f_X5_span_L4 x0 a) (t_X5_span_L4 x0 c) := by
  obtain ⟨s0, s1, hs⟩ := a
  obtain ⟨zs0, zs1, Cs⟩ := c
  obtain ⟨es0, es1, I⟩ := r
  dsimp only at es0 es1 I
  subst es0
  subst es1
  unfold f_X5_span_L4 t_X5_span_L4
  try dsimp only
  refine OS.bEq (I.gI _ _ _) (fun v1 => ?_)
  refine OS.i (fun _ => ?_) (fun _ => ?_)
  · exact OS.ret (SR.r (⟨rfl, I⟩))
  · refine OS.bEq (I.gR _ _ _) (fun v4 => ?_)
    refine OS.bEq (I.ld _ _ _) (fun v6 => ?_)
    exact OS.ret (SR.l (⟨rfl, rfl, I⟩))
theorem bL_X5_span_L4 {α β : Type} {R : α → β → Prop} {h0 : AH} (x0 : Nat) {n : Nat} {h : AH} {C : CH} {s0 : Int32} {s1 : Int32} {k : (Int32 × AH) → Option α} {l : (Int32 × CH) → Option β} (I : CK h0 C h) (k0 : ∀ (w0 : Int32) (h' : AH) (C' : CH), CK h0 C' h' → OS R (k ((w0, h'))) (l ((w0, C')))) : OS R ((iter (f_X5_span_L4 x0) n (s0, s1, h)).bind k) ((iter (t_X5_span_L4 x0) n (s0, s1, C)).bind l) := by
  refine OS.b (OS.it (simt_X5_span_L4 x0) n _ _ ⟨rfl, rfl, I⟩) (fun a c r => ?_)
  obtain ⟨x0, h'⟩ := a
  obtain ⟨zx0, C'⟩ := c
  obtain ⟨ex0, I2⟩ := r
  dsimp only at ex0 I2
  subst ex0
  exact k0 x0 h' C' I2
set_option maxRecDepth 100000 in
set_option maxHeartbeats 4000000 in
theorem simt_X5_span {h0 h : AH} {C : CH} (a0 : Nat) (I : CK h0 C h) : OS (fun (a : Int32 × AH) (c : Int32 × CH) => a.1 = c.1 ∧ CK h0 c.2 a.2) (f_X5_span a0 h) (t_X5_span a0 C) := by
  unfold f_X5_span t_X5_span
  refine bL_X5_span_L4 _ I (fun _ _ _ I => ?_)
  try dsimp only [Sum.elim_inl, Sum.elim_inr]
  exact OS.ret (⟨rfl, I⟩)
set_option maxRecDepth 100000 in
set_option maxHeartbeats 4000000 in
theorem simt_X5_differenceTo_L4 {h0 : AH} (x0 : Nat) (x1 : Nat) (a : Int32 × Int32 × AH) (c : Int32 × Int32 × CH) (r : (fun (a : Int32 × Int32 × AH) (c : Int32 × Int32 × CH) => a.1 = c.1 ∧ a.2.1 = c.2.1 ∧ CK h0 c.2.2 a.2.2) a c) : OS (SR (fun (a : Int32 × Int32 × AH) (c : Int32 × Int32 × CH) => a.1 = c.1 ∧ a.2.1 = c.2.1 ∧ CK h0 c.2.2 a.2.2) (fun (a : Int32 × AH) (c : Int32 × CH) => a.1 = c.1 ∧ CK h0 c.2 a.2)) (f_X5_differenceTo_L4 x0 x1 a) (t_X5_differenceTo_L4 x0 x1 c) := by
  obtain ⟨s0, s1, hs⟩ := a
  obtain ⟨zs0, zs1, Cs⟩ := c
  obtain ⟨es0, es1, I⟩ := r
  dsimp only at es0 es1 I
  subst es0
  subst es1
  unfold f_X5_differenceTo_L4 t_X5_differenceTo_L4
  try dsimp only
  refine OS.bEq (I.gI _ _ _) (fun v1 => ?_)
  refine OS.i (fun _ => ?_) (fun _ => ?_)
  · exact OS.ret (SR.r (⟨rfl, I⟩))
  · refine OS.bEq (I.gR _ _ _) (fun v4 => ?_)
    refine OS.bEq (I.ld _ _ _) (fun v6 => ?_)
    refine OS.bEq (I.len _) (fun v8 => ?_)
    refine OS.bP (simt_X11_within _ _ _ I) (fun _ _ _ I => ?_)
    try dsimp only
    refine OS.i (fun _ => ?_) (fun _ => ?_)
    · exact OS.ret (SR.l (⟨rfl, rfl, I⟩))
    · refine OS.bEq (I.gR _ _ _) (fun v13 => ?_)
      refine OS.bEq (I.ld _ _ _) (fun v15 => ?_)
      refine OS.bEq (I.ld _ _ _) (fun v17 => ?_)
      refine OS.bEq (I.gR _ _ _) (fun v19 => ?_)
      refine OS.bEq (I.ld _ _ _) (fun v21 => ?_)
      exact OS.ret (SR.l (⟨rfl, rfl, I⟩))
theorem bL_X5_differenceTo_L4 {α β : Type} {R : α → β → Prop} {h0 : AH} (x0 : Nat) (x1 : Nat) {n : Nat} {h : AH} {C : CH} {s0 : Int32} {s1 : Int32} {k : (Int32 × AH) → Option α} {l : (Int32 × CH) → Option β} (I : CK h0 C h) (k0 : ∀ (w0 : Int32) (h' : AH) (C' : CH), CK h0 C' h' → OS R (k ((w0, h'))) (l ((w0, C')))) : OS R ((iter (f_X5_differenceTo_L4 x0 x1) n (s0, s1, h)).bind k) ((iter (t_X5_differenceTo_L4 x0 x1) n (s0, s1, C)).bind l) := by
  refine OS.b (OS.it (simt_X5_differenceTo_L4 x0 x1) n _ _ ⟨rfl, rfl, I⟩) (fun a c r => ?_)
  obtain ⟨x0, h'⟩ := a
  obtain ⟨zx0, C'⟩ := c
  obtain ⟨ex0, I2⟩ := r
  dsimp only at ex0 I2
  subst ex0
  exact k0 x0 h' C' I2
set_option maxRecDepth 100000 in
set_option maxHeartbeats 4000000 in
theorem simt_X5_differenceTo {h0 h : AH} {C : CH} (a0 : Nat) (a1 : Nat) (I : CK h0 C h) : OS (fun (a : Int32 × AH) (c : Int32 × CH) => a.1 = c.1 ∧ CK h0 c.2 a.2) (f_X5_differenceTo a0 a1 h) (t_X5_differenceTo a0 a1 C) := by
  unfold f_X5_differenceTo t_X5_differenceTo
  refine bL_X5_differenceTo_L4 _ _ I (fun _ _ _ I => ?_)
  try dsimp only [Sum.elim_inl, Sum.elim_inr]
  exact OS.ret (⟨rfl, I⟩)
set_option maxRecDepth 100000 in
set_option maxHeartbeats 4000000 in
theorem simt_X3_sumOfTrial {h0 h : AH} {C : CH} (a0 : Nat) (a1 : Nat) (a2 : Nat) (a3 : Nat) (a4 : Nat) (I : CK h0 C h) : OS (fun (a : Int32 × AH) (c : Int32 × CH) => a.1 = c.1 ∧ CK h0 c.2 a.2) (f_X3_sumOfTrial a0 a1 a2 a3 a4 h) (t_X3_sumOfTrial a0 a1 a2 a3 a4 C) := by
  unfold f_X3_sumOfTrial t_X3_sumOfTrial
  refine OS.bEq (I.gR _ _ _) (fun v1 => ?_)
  refine OS.bEq (I.cl _ _) (fun _ => ?_)
  refine OS.bP (simt_X5_span _ I) (fun _ _ _ I => ?_)
  try dsimp only
  refine OS.bEq (I.cl _ _) (fun _ => ?_)
  refine OS.bP (simt_X1_go _ _ _ _ _ I) (fun _ _ _ I => ?_)
  try dsimp only
  refine OS.bEq (I.gR _ _ _) (fun v9 => ?_)
  refine OS.bEq (I.gR _ _ _) (fun v11 => ?_)
  refine OS.bEq (I.cl _ _) (fun _ => ?_)
  refine OS.bP (simt_X5_differenceTo _ _ I) (fun _ _ _ I => ?_)
  try dsimp only
  exact OS.ret (⟨rfl, I⟩)
set_option maxRecDepth 100000 in
set_option maxHeartbeats 4000000 in
theorem simt_X3_tryPair_L12 {h0 : AH} (x0 : Nat) (x1 : Nat) (x2 : Nat) (x3 : Nat) (x4 : Nat) (x5 : Int32) (x6 : Int32) (x7 : Int32) (a : Int32 × AH) (c : Int32 × CH) (r : (fun (a : Int32 × AH) (c : Int32 × CH) => a.1 = c.1 ∧ CK h0 c.2 a.2) a c) : OS (SR (fun (a : Int32 × AH) (c : Int32 × CH) => a.1 = c.1 ∧ CK h0 c.2 a.2) (fun (a : AH) (c : CH) => CK h0 c a)) (f_X3_tryPair_L12 x0 x1 x2 x3 x4 x5 x6 x7 a) (t_X3_tryPair_L12 x0 x1 x2 x3 x4 x5 x6 x7 c) := by
  obtain ⟨s0, hs⟩ := a
  obtain ⟨zs0, Cs⟩ := c
  obtain ⟨es0, I⟩ := r
  dsimp only at es0 I
  subst es0
  unfold f_X3_tryPair_L12 t_X3_tryPair_L12
  try dsimp only
  refine OS.i (fun _ => ?_) (fun _ => ?_)
  · exact OS.ret (SR.r (I))
  · refine OS.bEq (I.gR _ _ _) (fun v3 => ?_)
    refine OS.bEq (I.cl _ _) (fun _ => ?_)
    refine OS.bV (simt_X1_beginFresh _ _ I) (fun _ _ I => ?_)
    refine OS.bEq (I.gR _ _ _) (fun v8 => ?_)
    refine OS.bEq (I.gR _ _ _) (fun v10 => ?_)
    refine OS.b (I.st _ _ _ _) (fun _ _ I => ?_)
    refine OS.bEq (I.gR _ _ _) (fun v14 => ?_)
    refine OS.bEq (I.gR _ _ _) (fun v16 => ?_)
    refine OS.b (I.st _ _ _ _) (fun _ _ I => ?_)
    refine OS.bEq (I.cl _ _) (fun _ => ?_)
    refine OS.bP (simt_X3_sumOfTrial _ _ _ _ _ I) (fun _ _ _ I => ?_)
    try dsimp only
    refine OS.bEq (I.gI _ _ _) (fun v23 => ?_)
    refine OS.i (fun _ => ?_) (fun _ => ?_)
    · exact OS.ret (SR.l (⟨rfl, I⟩))
    · refine OS.b (I.pF _ _ _ _) (fun _ _ I => ?_)
      refine OS.b (I.pF _ _ _ _) (fun _ _ I => ?_)
      refine OS.b (I.pF _ _ _ _) (fun _ _ I => ?_)
      refine OS.b (I.pF _ _ _ _) (fun _ _ I => ?_)
      refine OS.b (I.pF _ _ _ _) (fun _ _ I => ?_)
      exact OS.ret (SR.l (⟨rfl, I⟩))
theorem bL_X3_tryPair_L12 {α β : Type} {R : α → β → Prop} {h0 : AH} (x0 : Nat) (x1 : Nat) (x2 : Nat) (x3 : Nat) (x4 : Nat) (x5 : Int32) (x6 : Int32) (x7 : Int32) {n : Nat} {h : AH} {C : CH} {s0 : Int32} {k : (AH) → Option α} {l : (CH) → Option β} (I : CK h0 C h) (k0 : ∀ (h' : AH) (C' : CH), CK h0 C' h' → OS R (k (h')) (l (C'))) : OS R ((iter (f_X3_tryPair_L12 x0 x1 x2 x3 x4 x5 x6 x7) n (s0, h)).bind k) ((iter (t_X3_tryPair_L12 x0 x1 x2 x3 x4 x5 x6 x7) n (s0, C)).bind l) := by
  refine OS.b (OS.it (simt_X3_tryPair_L12 x0 x1 x2 x3 x4 x5 x6 x7) n _ _ ⟨rfl, I⟩) (fun a c r => ?_)
  exact k0 a c r
set_option maxRecDepth 100000 in
set_option maxHeartbeats 4000000 in
theorem simt_X3_tryPair_L3 {h0 : AH} (x0 : Nat) (x1 : Nat) (x2 : Nat) (x3 : Nat) (x4 : Nat) (x5 : Int32) (x6 : Int32) (a : Int32 × AH) (c : Int32 × CH) (r : (fun (a : Int32 × AH) (c : Int32 × CH) => a.1 = c.1 ∧ CK h0 c.2 a.2) a c) : OS (SR (fun (a : Int32 × AH) (c : Int32 × CH) => a.1 = c.1 ∧ CK h0 c.2 a.2) (fun (a : AH) (c : CH) => CK h0 c a)) (f_X3_tryPair_L3 x0 x1 x2 x3 x4 x5 x6 a) (t_X3_tryPair_L3 x0 x1 x2 x3 x4 x5 x6 c) := by
  obtain ⟨s0, hs⟩ := a
  obtain ⟨zs0, Cs⟩ := c
  obtain ⟨es0, I⟩ := r
  dsimp only at es0 I
  subst es0
  unfold f_X3_tryPair_L3 t_X3_tryPair_L3
  try dsimp only
  refine OS.i (fun _ => ?_) (fun _ => ?_)
  · exact OS.ret (SR.r (I))
  · refine bL_X3_tryPair_L12 _ _ _ _ _ _ _ _ I (fun _ _ I => ?_)
    try dsimp only [Sum.elim_inl, Sum.elim_inr]
    exact OS.ret (SR.l (⟨rfl, I⟩))
theorem bL_X3_tryPair_L3 {α β : Type} {R : α → β → Prop} {h0 : AH} (x0 : Nat) (x1 : Nat) (x2 : Nat) (x3 : Nat) (x4 : Nat) (x5 : Int32) (x6 : Int32) {n : Nat} {h : AH} {C : CH} {s0 : Int32} {k : (AH) → Option α} {l : (CH) → Option β} (I : CK h0 C h) (k0 : ∀ (h' : AH) (C' : CH), CK h0 C' h' → OS R (k (h')) (l (C'))) : OS R ((iter (f_X3_tryPair_L3 x0 x1 x2 x3 x4 x5 x6) n (s0, h)).bind k) ((iter (t_X3_tryPair_L3 x0 x1 x2 x3 x4 x5 x6) n (s0, C)).bind l) := by
  refine OS.b (OS.it (simt_X3_tryPair_L3 x0 x1 x2 x3 x4 x5 x6) n _ _ ⟨rfl, I⟩) (fun a c r => ?_)
  exact k0 a c r
set_option maxRecDepth 100000 in
set_option maxHeartbeats 4000000 in
theorem simt_X3_tryPair {h0 h : AH} {C : CH} (a0 : Nat) (a1 : Nat) (a2 : Nat) (a3 : Nat) (a4 : Nat) (a5 : Int32) (a6 : Int32) (I : CK h0 C h) : OS (fun (a : AH) (c : CH) => CK h0 c a) (f_X3_tryPair a0 a1 a2 a3 a4 a5 a6 h) (t_X3_tryPair a0 a1 a2 a3 a4 a5 a6 C) := by
  unfold f_X3_tryPair t_X3_tryPair
  refine bL_X3_tryPair_L3 _ _ _ _ _ _ _ I (fun _ _ I => ?_)
  try dsimp only [Sum.elim_inl, Sum.elim_inr]
  exact OS.ret (I)
set_option maxRecDepth 100000 in
set_option maxHeartbeats 4000000 in
theorem simt_X3_findTwo_L24 {h0 : AH} (x0 : Nat) (x1 : Nat) (x2 : Nat) (x3 : Nat) (x4 : Nat) (x5 : Int32) (a : Int32 × AH) (c : Int32 × CH) (r : (fun (a : Int32 × AH) (c : Int32 × CH) => a.1 = c.1 ∧ CK h0 c.2 a.2) a c) : OS (SR (fun (a : Int32 × AH) (c : Int32 × CH) => a.1 = c.1 ∧ CK h0 c.2 a.2) (fun (a : AH) (c : CH) => CK h0 c a)) (f_X3_findTwo_L24 x0 x1 x2 x3 x4 x5 a) (t_X3_findTwo_L24 x0 x1 x2 x3 x4 x5 c) := by
  obtain ⟨s0, hs⟩ := a
  obtain ⟨zs0, Cs⟩ := c
  obtain ⟨es0, I⟩ := r
  dsimp only at es0 I
  subst es0
  unfold f_X3_findTwo_L24 t_X3_findTwo_L24
  try dsimp only
  refine OS.bEq (I.gI _ _ _) (fun v6 => ?_)
  refine OS.i (fun _ => ?_) (fun _ => ?_)
  · exact OS.ret (SR.r (I))
  · refine OS.bEq (I.gI _ _ _) (fun v9 => ?_)
    refine OS.bP (simt_X11_isIn _ _ I) (fun _ _ _ I => ?_)
    try dsimp only
    refine OS.i (fun _ => ?_) (fun _ => ?_)
    · exact OS.ret (SR.l (⟨rfl, I⟩))
    · refine OS.bEq (I.gI _ _ _) (fun v14 => ?_)
      refine OS.bP (simt_X11_isIn _ _ I) (fun _ _ _ I => ?_)
      try dsimp only
      refine OS.i (fun _ => ?_) (fun _ => ?_)
      · exact OS.ret (SR.l (⟨rfl, I⟩))
      · refine OS.bEq (I.cl _ _) (fun _ => ?_)
        refine OS.bV (simt_X3_tryPair _ _ _ _ _ _ _ I) (fun _ _ I => ?_)
        exact OS.ret (SR.l (⟨rfl, I⟩))
