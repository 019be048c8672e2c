theorem OS.g {α β δ : Type} {R : α → β → Prop} {F : Option α} {y : Option δ} {w : δ} {l : δ → Option β} (e : y = some w) (h : OS R F (l w)) : OS R F (y.bind l) := by rw [e]; exact h
theorem OS.same {α : Type} (x : Option α) : OS (fun _ _ : α => True) x x := fun c e => ⟨c, e, trivial⟩
theorem SR.l {α β γ δ : Type} {R : α → β → Prop} {S : γ → δ → Prop} {a : α} {c : β} (h : R a c) : SR R S (.inl a) (.inl c) := h
theorem SR.r {α β γ δ : Type} {R : α → β → Prop} {S : γ → δ → Prop} {a : γ} {c : δ} (h : S a c) : SR R S (.inr a) (.inr c) := h
set_option maxRecDepth 100000 in
set_option maxHeartbeats 4000000 in
theorem sim_X12_in {b : Nat} {h0 h : AH} {M : MS} (a0 : Int64) (a2 : Int64) (a4 : Int64) (I : MK b h0 h M) : OS (fun (a : Int32 × AH) (c : Int32 × MS) => a.1 = c.1 ∧ MK b h0 a.2 c.2) (f_X12_in a0 a2 a4 h) (g_X12_in a0 a2 a4 M) := by
  unfold f_X12_in g_X12_in
  refine OS.i (fun _ => ?_) (fun _ => ?_)
  · exact OS.ret ⟨rfl, I⟩
  · refine OS.i (fun _ => ?_) (fun _ => ?_)
    · exact OS.ret ⟨rfl, I⟩
    · exact OS.ret ⟨rfl, I⟩
set_option maxRecDepth 100000 in
set_option maxHeartbeats 4000000 in
theorem sim_X12_noSong {b : Nat} {h0 h : AH} {M : MS} (a1 : Int32) (I : MK b h0 h M) : OS (fun (a : Int32 × AH) (c : Int32 × MS) => a.1 = c.1 ∧ MK b h0 a.2 c.2) (f_X12_noSong b a1 h) (g_X12_noSong a1 M) := by
  unfold f_X12_noSong g_X12_noSong
  refine OS.f (I.gI 0 (by decide) (by decide) (by decide)) ?_
  refine OS.b (sim_X12_in a1.toInt64 0 (((M.1 0) - 1).toInt64) I) (fun a c r => ?_)
  obtain ⟨w3, h1⟩ := a
  obtain ⟨w9, M1⟩ := c
  obtain ⟨e9, I⟩ := r
  dsimp only at e9 I ⊢
  subst e9
  refine OS.i (fun _ => ?_) (fun _ => ?_)
  · exact OS.ret ⟨rfl, I⟩
  · exact OS.ret ⟨rfl, I⟩
set_option maxRecDepth 100000 in
set_option maxHeartbeats 4000000 in
theorem sim_X12_bit {b : Nat} {h0 h : AH} {M : MS} (a0 : Int32) (I : MK b h0 h M) : OS (fun (a : Int32 × AH) (c : Int32 × MS) => a.1 = c.1 ∧ MK b h0 a.2 c.2) (f_X12_bit a0 h) (g_X12_bit a0 M) := by
  unfold f_X12_bit g_X12_bit
  refine OS.i (fun _ => ?_) (fun _ => ?_)
  · exact OS.ret ⟨rfl, I⟩
  · exact OS.ret ⟨rfl, I⟩
set_option maxRecDepth 100000 in
set_option maxHeartbeats 4000000 in
theorem sim_X12_apartBy_L55_J258 {b : Nat} {h0 h : AH} {M : MS} (x1 : Int32) (x2 : Int32) (x3 : Int32) (x4 : Int32) (x5 : Int32) (x6 : Int32) (y7 : Int32) (y8 : Int32) (I : MK b h0 h M) : OS (SR (fun (a : Int32 × AH) (c : Int32 × MS) => a.1 = c.1 ∧ MK b h0 a.2 c.2) (fun (a : AH) (c : MS) => MK b h0 a c)) (f_X12_apartBy_L55_J258 b x1 x2 x3 x4 x5 x6 y7 y8 h) (g_X12_apartBy_L55_J258 x1 x2 x3 x4 x5 x6 y7 y8 M) := by
  unfold f_X12_apartBy_L55_J258 g_X12_apartBy_L55_J258
  refine OS.f (I.gR 43 (by decide) (by decide)) ?_
  refine OS.b (I.st 43 (by decide) (by decide) _ _) (fun h10 M10 I => ?_)
  exact OS.ret (SR.l ⟨rfl, I⟩)
set_option maxRecDepth 100000 in
set_option maxHeartbeats 4000000 in
theorem sim_X12_apartBy_L55_J256 {b : Nat} {h0 h : AH} {M : MS} (x1 : Int32) (x2 : Int32) (x3 : Int32) (x4 : Int32) (x5 : Int32) (x6 : Int32) (y7 : Int32) (z0 : Int32) (I : MK b h0 h M) : OS (SR (fun (a : Int32 × AH) (c : Int32 × MS) => a.1 = c.1 ∧ MK b h0 a.2 c.2) (fun (a : AH) (c : MS) => MK b h0 a c)) (f_X12_apartBy_L55_J256 b x1 x2 x3 x4 x5 x6 y7 z0 h) (g_X12_apartBy_L55_J256 x1 x2 x3 x4 x5 x6 y7 z0 M) := by
  unfold f_X12_apartBy_L55_J256 g_X12_apartBy_L55_J256
  exact sim_X12_apartBy_L55_J258 x1 x2 x3 x4 x5 x6 y7 z0 I
set_option maxRecDepth 100000 in
set_option maxHeartbeats 4000000 in
theorem sim_X12_apartBy_L55_J240 {b : Nat} {h0 h : AH} {M : MS} (x1 : Int32) (x2 : Int32) (x3 : Int32) (x4 : Int32) (x5 : Int32) (x6 : Int32) (y7 : Int32) (y13 : Int32) (z0 : Int32) (I : MK b h0 h M) : OS (SR (fun (a : Int32 × AH) (c : Int32 × MS) => a.1 = c.1 ∧ MK b h0 a.2 c.2) (fun (a : AH) (c : MS) => MK b h0 a c)) (f_X12_apartBy_L55_J240 b x1 x2 x3 x4 x5 x6 y7 y13 z0 h) (g_X12_apartBy_L55_J240 x1 x2 x3 x4 x5 x6 y7 y13 z0 M) := by
  unfold f_X12_apartBy_L55_J240 g_X12_apartBy_L55_J240
  refine OS.i (fun _ => ?_) (fun _ => ?_)
  · exact sim_X12_apartBy_L55_J256 x1 x2 x3 x4 x5 x6 y7 z0 I
  · exact sim_X12_apartBy_L55_J256 x1 x2 x3 x4 x5 x6 y7 y13 I
set_option maxRecDepth 100000 in
set_option maxHeartbeats 4000000 in
theorem sim_X12_apartBy_L55_J182 {b : Nat} {h0 h : AH} {M : MS} (x1 : Int32) (x2 : Int32) (x3 : Int32) (x4 : Int32) (x5 : Int32) (x6 : Int32) (y7 : Int32) (z0 : Int32) (z1 : Int32) (I : MK b h0 h M) : OS (SR (fun (a : Int32 × AH) (c : Int32 × MS) => a.1 = c.1 ∧ MK b h0 a.2 c.2) (fun (a : AH) (c : MS) => MK b h0 a c)) (f_X12_apartBy_L55_J182 b x1 x2 x3 x4 x5 x6 y7 z0 z1 h) (g_X12_apartBy_L55_J182 x1 x2 x3 x4 x5 x6 y7 z0 z1 M) := by
  unfold f_X12_apartBy_L55_J182 g_X12_apartBy_L55_J182
  refine OS.b (sim_X12_bit z0 I) (fun a c r => ?_)
  obtain ⟨w23, h21⟩ := a
  obtain ⟨w9, M21⟩ := c
  obtain ⟨e9, I⟩ := r
  dsimp only at e9 I ⊢
  subst e9
  refine OS.f (I.gR 43 (by decide) (by decide)) ?_
  refine OS.b (I.ld 43 (by decide) (by decide) _) (fun v24 v25 e => ?_)
  subst e
  refine OS.f (I.gR 43 (by decide) (by decide)) ?_
  refine OS.b (I.ld 43 (by decide) (by decide) _) (fun v26 v27 e => ?_)
  subst e
  refine OS.i (fun _ => ?_) (fun _ => ?_)
  · exact sim_X12_apartBy_L55_J240 x1 x2 x3 x4 x5 x6 y7 (v26 + 1) (v24 + 1) I
  · exact sim_X12_apartBy_L55_J240 x1 x2 x3 x4 x5 x6 y7 (v26 + 1) (z1 + w23) I
set_option maxRecDepth 100000 in
set_option maxHeartbeats 4000000 in
theorem sim_X12_apartBy_L55_J151 {b : Nat} {h0 h : AH} {M : MS} (x1 : Int32) (x2 : Int32) (x3 : Int32) (x4 : Int32) (x5 : Int32) (x6 : Int32) (y7 : Int32) (y9 : Int32) (z0 : Int32) (I : MK b h0 h M) : OS (SR (fun (a : Int32 × AH) (c : Int32 × MS) => a.1 = c.1 ∧ MK b h0 a.2 c.2) (fun (a : AH) (c : MS) => MK b h0 a c)) (f_X12_apartBy_L55_J151 b x1 x2 x3 x4 x5 x6 y7 y9 z0 h) (g_X12_apartBy_L55_J151 x1 x2 x3 x4 x5 x6 y7 y9 z0 M) := by
  unfold f_X12_apartBy_L55_J151 g_X12_apartBy_L55_J151
  refine OS.f (I.gR 43 (by decide) (by decide)) ?_
  refine OS.b (I.ld 43 (by decide) (by decide) _) (fun v18 v19 e => ?_)
  subst e
  refine OS.i (fun _ => ?_) (fun _ => ?_)
  · exact sim_X12_apartBy_L55_J182 x1 x2 x3 x4 x5 x6 y7 0 v18 I
  · exact sim_X12_apartBy_L55_J182 x1 x2 x3 x4 x5 x6 y7 1 v18 I
set_option maxRecDepth 100000 in
set_option maxHeartbeats 4000000 in
theorem sim_X12_apartBy_L55_J114 {b : Nat} {h0 h : AH} {M : MS} (x1 : Int32) (x2 : Int32) (x3 : Int32) (x4 : Int32) (x5 : Int32) (x6 : Int32) (y7 : Int32) (z0 : Int32) (I : MK b h0 h M) : OS (SR (fun (a : Int32 × AH) (c : Int32 × MS) => a.1 = c.1 ∧ MK b h0 a.2 c.2) (fun (a : AH) (c : MS) => MK b h0 a c)) (f_X12_apartBy_L55_J114 b x1 x2 x3 x4 x5 x6 y7 z0 h) (g_X12_apartBy_L55_J114 x1 x2 x3 x4 x5 x6 y7 z0 M) := by
  unfold f_X12_apartBy_L55_J114 g_X12_apartBy_L55_J114
  refine OS.i (fun _ => ?_) (fun _ => ?_)
  · refine OS.f (I.gR 4 (by decide) (by decide)) ?_
    refine OS.b (I.ld 4 (by decide) (by decide) _) (fun v16 v17 e => ?_)
    subst e
    exact sim_X12_apartBy_L55_J151 x1 x2 x3 x4 x5 x6 y7 z0 v16 I
  · refine OS.f (I.gR 3 (by decide) (by decide)) ?_
    refine OS.b (I.ld 3 (by decide) (by decide) _) (fun v30 v31 e => ?_)
    subst e
    exact sim_X12_apartBy_L55_J151 x1 x2 x3 x4 x5 x6 y7 z0 v30 I
set_option maxRecDepth 100000 in
set_option maxHeartbeats 4000000 in
theorem sim_X12_apartBy_L55 {b : Nat} {h0 : AH} (x1 : Int32) (x2 : Int32) (x3 : Int32) (x4 : Int32) (x5 : Int32) (x6 : Int32) (a : Int32 × AH) (c : Int32 × MS) (r : (fun (a : Int32 × AH) (c : Int32 × MS) => a.1 = c.1 ∧ MK b h0 a.2 c.2) a c) : OS (SR (fun (a : Int32 × AH) (c : Int32 × MS) => a.1 = c.1 ∧ MK b h0 a.2 c.2) (fun (a : AH) (c : MS) => MK b h0 a c)) (f_X12_apartBy_L55 b x1 x2 x3 x4 x5 x6 a) (g_X12_apartBy_L55 x1 x2 x3 x4 x5 x6 c) := by
  obtain ⟨s7, hs⟩ := a
  obtain ⟨t7, Ms⟩ := c
  obtain ⟨e7, I⟩ := r
  dsimp only at e7 I
  subst e7
  unfold f_X12_apartBy_L55 g_X12_apartBy_L55
  try dsimp only
  refine OS.i (fun _ => ?_) (fun _ => ?_)
  · exact OS.ret (SR.r (I))
  · refine OS.i (fun _ => ?_) (fun _ => ?_)
    · exact sim_X12_apartBy_L55_J258 x1 x2 x3 x4 x5 x6 s7 (x6 + s7) I
    · refine OS.i (fun _ => ?_) (fun _ => ?_)
      · exact sim_X12_apartBy_L55_J258 x1 x2 x3 x4 x5 x6 s7 (x6 + s7) I
      · refine OS.i (fun _ => ?_) (fun _ => ?_)
        · refine OS.f (I.gR 4 (by decide) (by decide)) ?_
          refine OS.b (I.ld 4 (by decide) (by decide) _) (fun v13 v14 e => ?_)
          subst e
          exact sim_X12_apartBy_L55_J114 x1 x2 x3 x4 x5 x6 s7 v13 I
        · refine OS.f (I.gR 3 (by decide) (by decide)) ?_
          refine OS.b (I.ld 3 (by decide) (by decide) _) (fun v32 v33 e => ?_)
          subst e
          exact sim_X12_apartBy_L55_J114 x1 x2 x3 x4 x5 x6 s7 v32 I
set_option maxRecDepth 100000 in
set_option maxHeartbeats 4000000 in
theorem sim_X12_apartBy_L45 {b : Nat} {h0 : AH} (x1 : Int32) (x2 : Int32) (x3 : Int32) (x4 : Int32) (x5 : Int32) (a : Int32 × AH) (c : Int32 × MS) (r : (fun (a : Int32 × AH) (c : Int32 × MS) => a.1 = c.1 ∧ MK b h0 a.2 c.2) a c) : OS (SR (fun (a : Int32 × AH) (c : Int32 × MS) => a.1 = c.1 ∧ MK b h0 a.2 c.2) (fun (a : AH) (c : MS) => MK b h0 a c)) (f_X12_apartBy_L45 b x1 x2 x3 x4 x5 a) (g_X12_apartBy_L45 x1 x2 x3 x4 x5 c) := by
  obtain ⟨s6, hs⟩ := a
  obtain ⟨t6, Ms⟩ := c
  obtain ⟨e6, I⟩ := r
  dsimp only at e6 I
  subst e6
  unfold f_X12_apartBy_L45 g_X12_apartBy_L45
  try dsimp only
  refine OS.i (fun _ => ?_) (fun _ => ?_)
  · exact OS.ret (SR.r (I))
  · refine OS.b (OS.it (sim_X12_apartBy_L55 x1 x2 x3 x4 x5 s6) 100000 _ _ ⟨rfl, I⟩) (fun e35 e36 r => ?_)
    have I := r
    generalize e35 = h37 at I ⊢
    generalize e36 = M37 at I ⊢
    exact OS.ret (SR.l ⟨rfl, I⟩)
set_option maxRecDepth 100000 in
set_option maxHeartbeats 4000000 in
theorem sim_X12_apartBy_J40 {b : Nat} {h0 h : AH} {M : MS} (a1 : Int32) (a2 : Int32) (a3 : Int32) (y4 : Int32) (z0 : Int32) (I : MK b h0 h M) : OS (fun (a : Int32 × AH) (c : Int32 × MS) => a.1 = c.1 ∧ MK b h0 a.2 c.2) (f_X12_apartBy_J40 b a1 a2 a3 y4 z0 h) (g_X12_apartBy_J40 a1 a2 a3 y4 z0 M) := by
  unfold f_X12_apartBy_J40 g_X12_apartBy_J40
  refine OS.b (OS.it (sim_X12_apartBy_L45 a1 a2 a3 y4 z0) 100000 _ _ ⟨rfl, I⟩) (fun e39 e40 r => ?_)
  have I := r
  generalize e39 = h41 at I ⊢
  generalize e40 = M41 at I ⊢
  refine OS.f (I.gR 43 (by decide) (by decide)) ?_
  refine OS.b (I.ld 43 (by decide) (by decide) _) (fun v42 v43 e => ?_)
  subst e
  exact OS.ret ⟨rfl, I⟩
set_option maxRecDepth 100000 in
set_option maxHeartbeats 4000000 in
theorem sim_X12_apartBy_J19 {b : Nat} {h0 h : AH} {M : MS} (a1 : Int32) (a2 : Int32) (a3 : Int32) (z0 : Int32) (I : MK b h0 h M) : OS (fun (a : Int32 × AH) (c : Int32 × MS) => a.1 = c.1 ∧ MK b h0 a.2 c.2) (f_X12_apartBy_J19 b a1 a2 a3 z0 h) (g_X12_apartBy_J19 a1 a2 a3 z0 M) := by
  unfold f_X12_apartBy_J19 g_X12_apartBy_J19
  refine OS.i (fun _ => ?_) (fun _ => ?_)
  · refine OS.f (I.gR 2 (by decide) (by decide)) ?_
    refine OS.b (I.ld 2 (by decide) (by decide) _) (fun v5 v6 e => ?_)
    subst e
    exact sim_X12_apartBy_J40 a1 a2 a3 z0 v5 I
  · refine OS.f (I.gR 1 (by decide) (by decide)) ?_
    refine OS.b (I.ld 1 (by decide) (by decide) _) (fun v44 v45 e => ?_)
    subst e
    exact sim_X12_apartBy_J40 a1 a2 a3 z0 v44 I
set_option maxRecDepth 100000 in
set_option maxHeartbeats 4000000 in
theorem sim_X12_apartBy {b : Nat} {h0 h : AH} {M : MS} (a1 : Int32) (a2 : Int32) (a3 : Int32) (I : MK b h0 h M) : OS (fun (a : Int32 × AH) (c : Int32 × MS) => a.1 = c.1 ∧ MK b h0 a.2 c.2) (f_X12_apartBy b a1 a2 a3 h) (g_X12_apartBy a1 a2 a3 M) := by
  unfold f_X12_apartBy g_X12_apartBy
  refine OS.i (fun _ => ?_) (fun _ => ?_)
  · refine OS.f (I.gR 2 (by decide) (by decide)) ?_
    refine OS.b (I.ld 2 (by decide) (by decide) _) (fun v2 v3 e => ?_)
    subst e
    exact sim_X12_apartBy_J19 a1 a2 a3 v2 I
  · refine OS.f (I.gR 1 (by decide) (by decide)) ?_
    refine OS.b (I.ld 1 (by decide) (by decide) _) (fun v46 v47 e => ?_)
    subst e
    exact sim_X12_apartBy_J19 a1 a2 a3 v46 I
set_option maxRecDepth 100000 in
set_option maxHeartbeats 4000000 in
theorem sim_X12_apartOf {b : Nat} {h0 h : AH} {M : MS} (a1 : Int32) (a2 : Int32) (I : MK b h0 h M) : OS (fun (a : Int32 × AH) (c : Int32 × MS) => a.1 = c.1 ∧ MK b h0 a.2 c.2) (f_X12_apartOf b a1 a2 h) (g_X12_apartOf a1 a2 M) := by
  unfold f_X12_apartOf g_X12_apartOf
  refine OS.f I.cl ?_
  refine OS.b (sim_X12_apartBy 1 a1 a2 I) (fun a c r => ?_)
  obtain ⟨w3, h1⟩ := a
  obtain ⟨w9, M1⟩ := c
  obtain ⟨e9, I⟩ := r
  dsimp only at e9 I ⊢
  subst e9
  refine OS.f I.cl ?_
  refine OS.b (sim_X12_apartBy 0 a1 a2 I) (fun a c r => ?_)
  obtain ⟨w6, h4⟩ := a
  obtain ⟨w9, M4⟩ := c
  obtain ⟨e9, I⟩ := r
  dsimp only at e9 I ⊢
  subst e9
  exact OS.ret ⟨rfl, I⟩
set_option maxRecDepth 100000 in
set_option maxHeartbeats 4000000 in
theorem sim_X12_apart {b : Nat} {h0 h : AH} {M : MS} (a1 : Int32) (a2 : Int32) (I : MK b h0 h M) : OS (fun (a : Int32 × AH) (c : Int32 × MS) => a.1 = c.1 ∧ MK b h0 a.2 c.2) (f_X12_apart b a1 a2 h) (g_X12_apart a1 a2 M) := by
  unfold f_X12_apart g_X12_apart
  refine OS.f I.cl ?_
  refine OS.b (sim_X12_noSong a1 I) (fun a c r => ?_)
  obtain ⟨w3, h1⟩ := a
  obtain ⟨w9, M1⟩ := c
  obtain ⟨e9, I⟩ := r
  dsimp only at e9 I ⊢
  subst e9
  refine OS.i (fun _ => ?_) (fun _ => ?_)
  · refine OS.f I.cl ?_
    refine OS.b (sim_X12_noSong a2 I) (fun a c r => ?_)
    obtain ⟨w7, h5⟩ := a
    obtain ⟨w9, M5⟩ := c
    obtain ⟨e9, I⟩ := r
    dsimp only at e9 I ⊢
    subst e9
    refine OS.i (fun _ => ?_) (fun _ => ?_)
    · refine OS.f I.cl ?_
      refine OS.b (sim_X12_apartOf a1 a2 I) (fun a c r => ?_)
      obtain ⟨w11, h9⟩ := a
      obtain ⟨w9, M9⟩ := c
      obtain ⟨e9, I⟩ := r
      dsimp only at e9 I ⊢
      subst e9
      exact OS.ret ⟨rfl, I⟩
    · exact OS.ret ⟨rfl, I⟩
  · exact OS.ret ⟨rfl, I⟩
set_option maxRecDepth 100000 in
set_option maxHeartbeats 4000000 in
theorem sim_X12_beat {b : Nat} {h0 h : AH} {M : MS} (a1 : Int32) (I : MK b h0 h M) : OS (fun (a : Int32 × AH) (c : Int32 × MS) => a.1 = c.1 ∧ MK b h0 a.2 c.2) (f_X12_beat b a1 h) (g_X12_beat a1 M) := by
  unfold f_X12_beat g_X12_beat
  refine OS.b (sim_X12_in a1.toInt64 0 3 I) (fun a c r => ?_)
  obtain ⟨w3, h1⟩ := a
  obtain ⟨w9, M1⟩ := c
  obtain ⟨e9, I⟩ := r
  dsimp only at e9 I ⊢
  subst e9
  refine OS.i (fun _ => ?_) (fun _ => ?_)
  · exact OS.ret ⟨rfl, I⟩
  · refine OS.f (I.gI 5 (by decide) (by decide) (by decide)) ?_
    refine OS.i (fun _ => ?_) (fun _ => ?_)
    · exact OS.ret ⟨rfl, I⟩
    · refine OS.f (I.gR 6 (by decide) (by decide)) ?_
      refine OS.f (I.gI 5 (by decide) (by decide) (by decide)) ?_
      refine OS.b (I.st 6 (by decide) (by decide) _ _) (fun h6 M6 I => ?_)
      refine OS.f (I.gI 5 (by decide) (by decide) (by decide)) ?_
      obtain ⟨h7, e8, I⟩ := I.pI 5 (by decide) (by decide) (by decide) ((M6.1 5) + 1)
      refine OS.f e8 ?_
      refine OS.g (w := msI M6 5 ((M6.1 5) + 1)) rfl ?_
      generalize msI M6 5 ((M6.1 5) + 1) = M7 at I ⊢
      refine OS.f (I.gI 5 (by decide) (by decide) (by decide)) ?_
      exact OS.ret ⟨rfl, I⟩
set_option maxRecDepth 100000 in
set_option maxHeartbeats 4000000 in
theorem sim_X12_beatOf {b : Nat} {h0 h : AH} {M : MS} (a1 : Int32) (a2 : Int32) (I : MK b h0 h M) : OS (fun (a : Int32 × AH) (c : Int32 × MS) => a.1 = c.1 ∧ MK b h0 a.2 c.2) (f_X12_beatOf b a1 a2 h) (g_X12_beatOf a1 a2 M) := by
  unfold f_X12_beatOf g_X12_beatOf
  refine OS.f (I.gR 1 (by decide) (by decide)) ?_
  refine OS.b (I.ld 1 (by decide) (by decide) _) (fun v1 v2 e => ?_)
  subst e
  refine OS.f (I.gR 2 (by decide) (by decide)) ?_
  refine OS.b (I.ld 2 (by decide) (by decide) _) (fun v3 v4 e => ?_)
  subst e
  refine OS.b (OS.same _) (fun _ _ _ => ?_)
  refine OS.f (I.gR 1 (by decide) (by decide)) ?_
  refine OS.b (I.ld 1 (by decide) (by decide) _) (fun v6 v7 e => ?_)
  subst e
  refine OS.i (fun _ => ?_) (fun _ => ?_)
  · refine OS.f (I.gR 4 (by decide) (by decide)) ?_
    refine OS.f (I.gR 1 (by decide) (by decide)) ?_
    refine OS.b (I.ld 1 (by decide) (by decide) _) (fun v9 v10 e => ?_)
    subst e
    refine OS.b (I.ld 4 (by decide) (by decide) _) (fun v11 v12 e => ?_)
    subst e
    exact OS.ret ⟨rfl, I⟩
  · refine OS.f (I.gR 3 (by decide) (by decide)) ?_
    refine OS.b (I.ld 3 (by decide) (by decide) _) (fun v13 v14 e => ?_)
    subst e
    exact OS.ret ⟨rfl, I⟩
set_option maxRecDepth 100000 in
set_option maxHeartbeats 4000000 in
theorem sim_X12_beatAt {b : Nat} {h0 h : AH} {M : MS} (a1 : Int32) (a2 : Int32) (I : MK b h0 h M) : OS (fun (a : Int32 × AH) (c : Int32 × MS) => a.1 = c.1 ∧ MK b h0 a.2 c.2) (f_X12_beatAt b a1 a2 h) (g_X12_beatAt a1 a2 M) := by
  unfold f_X12_beatAt g_X12_beatAt
  refine OS.f I.cl ?_
  refine OS.b (sim_X12_noSong a1 I) (fun a c r => ?_)
  obtain ⟨w3, h1⟩ := a
  obtain ⟨w9, M1⟩ := c
  obtain ⟨e9, I⟩ := r
  dsimp only at e9 I ⊢
  subst e9
  refine OS.i (fun _ => ?_) (fun _ => ?_)
  · refine OS.b (sim_X12_in a2.toInt64 0 1000 I) (fun a c r => ?_)
    obtain ⟨w7, h5⟩ := a
    obtain ⟨w9, M5⟩ := c
    obtain ⟨e9, I⟩ := r
    dsimp only at e9 I ⊢
    subst e9
    refine OS.i (fun _ => ?_) (fun _ => ?_)
    · exact OS.ret ⟨rfl, I⟩
    · refine OS.f I.cl ?_
      refine OS.b (sim_X12_beatOf a1 a2 I) (fun a c r => ?_)
      obtain ⟨w11, h9⟩ := a
      obtain ⟨w9, M9⟩ := c
      obtain ⟨e9, I⟩ := r
      dsimp only at e9 I ⊢
      subst e9
      exact OS.ret ⟨rfl, I⟩
  · exact OS.ret ⟨rfl, I⟩
set_option maxRecDepth 100000 in
set_option maxHeartbeats 4000000 in
theorem sim_X12_ones_L4 {b : Nat} {h0 : AH} (x0 : Int32) (a : Int32 × Int32 × AH) (c : Int32 × Int32 × MS) (r : (fun (a : Int32 × Int32 × AH) (c : Int32 × Int32 × MS) => a.1 = c.1 ∧ a.2.1 = c.2.1 ∧ MK b h0 a.2.2 c.2.2) a c) : OS (SR (fun (a : Int32 × Int32 × AH) (c : Int32 × Int32 × MS) => a.1 = c.1 ∧ a.2.1 = c.2.1 ∧ MK b h0 a.2.2 c.2.2) (fun (a : Int32 × AH) (c : Int32 × MS) => a.1 = c.1 ∧ MK b h0 a.2 c.2)) (f_X12_ones_L4 x0 a) (g_X12_ones_L4 x0 c) := by
  obtain ⟨s1, s2, hs⟩ := a
  obtain ⟨t1, t2, Ms⟩ := c
  obtain ⟨e1, e2, I⟩ := r
  dsimp only at e1 e2 I
  subst e1
  subst e2
  unfold f_X12_ones_L4 g_X12_ones_L4
  try dsimp only
  refine OS.i (fun _ => ?_) (fun _ => ?_)
  · exact OS.ret (SR.r (⟨rfl, I⟩))
  · exact OS.ret (SR.l ⟨rfl, rfl, I⟩)
set_option maxRecDepth 100000 in
set_option maxHeartbeats 4000000 in
theorem sim_X12_ones {b : Nat} {h0 h : AH} {M : MS} (a0 : Int32) (I : MK b h0 h M) : OS (fun (a : Int32 × AH) (c : Int32 × MS) => a.1 = c.1 ∧ MK b h0 a.2 c.2) (f_X12_ones a0 h) (g_X12_ones a0 M) := by
  unfold f_X12_ones g_X12_ones
  refine OS.b (OS.it (sim_X12_ones_L4 a0) 100000 _ _ ⟨rfl, rfl, I⟩) (fun e3 e4 r => ?_)
  obtain ⟨w5, h6⟩ := e3
  obtain ⟨zw5, M6⟩ := e4
  obtain ⟨ew5, I⟩ := r
  dsimp only at ew5 I ⊢
  subst ew5
  exact OS.ret ⟨rfl, I⟩
set_option maxRecDepth 100000 in
set_option maxHeartbeats 4000000 in
theorem sim_X12_carry_L2 {b : Nat} {h0 : AH} (x1 : Int32) (x2 : Int32) (a : Int32 × AH) (c : Int32 × MS) (r : (fun (a : Int32 × AH) (c : Int32 × MS) => a.1 = c.1 ∧ MK b h0 a.2 c.2) a c) : OS (SR (fun (a : Int32 × AH) (c : Int32 × MS) => a.1 = c.1 ∧ MK b h0 a.2 c.2) (fun (a : AH) (c : MS) => MK b h0 a c)) (f_X12_carry_L2 b x1 x2 a) (g_X12_carry_L2 x1 x2 c) := by
  obtain ⟨s3, hs⟩ := a
  obtain ⟨t3, Ms⟩ := c
  obtain ⟨e3, I⟩ := r
  dsimp only at e3 I
  subst e3
  unfold f_X12_carry_L2 g_X12_carry_L2
  try dsimp only
  refine OS.f (I.gI 7 (by decide) (by decide) (by decide)) ?_
  refine OS.i (fun _ => ?_) (fun _ => ?_)
  · exact OS.ret (SR.r (I))
  · refine OS.f (I.gR 13 (by decide) (by decide)) ?_
    refine OS.f (I.gR 13 (by decide) (by decide)) ?_
    refine OS.b (I.ld 13 (by decide) (by decide) _) (fun v2 v3 e => ?_)
    subst e
    refine OS.b (I.st 13 (by decide) (by decide) _ _) (fun h4 M4 I => ?_)
    exact OS.ret (SR.l ⟨rfl, I⟩)
set_option maxRecDepth 100000 in
set_option maxHeartbeats 4000000 in
theorem sim_X12_carry {b : Nat} {h0 h : AH} {M : MS} (a1 : Int32) (a2 : Int32) (I : MK b h0 h M) : OS (fun (a : AH) (c : MS) => MK b h0 a c) (f_X12_carry b a1 a2 h) (g_X12_carry a1 a2 M) := by
  unfold f_X12_carry g_X12_carry
  refine OS.b (OS.it (sim_X12_carry_L2 a1 a2) 100000 _ _ ⟨rfl, I⟩) (fun e6 e7 r => ?_)
  have I := r
  generalize e6 = h8 at I ⊢
  generalize e7 = M8 at I ⊢
  exact OS.ret I
set_option maxRecDepth 100000 in
set_option maxHeartbeats 4000000 in
theorem sim_X12_step_L11_J94 {b : Nat} {h0 h : AH} {M : MS} (x1 : Int32) (x2 : Int32) (x3 : Int32) (x4 : Int32) (x5 : Int32) (x6 : Int32) (y7 : Int32) (y8 : Int32) (y9 : Int32) (z0 : Int32) (z1 : Int32) (I : MK b h0 h M) : OS (SR (fun (a : Int32 × Int32 × AH) (c : Int32 × Int32 × MS) => a.1 = c.1 ∧ a.2.1 = c.2.1 ∧ MK b h0 a.2.2 c.2.2) (fun (a : Int32 × AH) (c : Int32 × MS) => a.1 = c.1 ∧ MK b h0 a.2 c.2)) (f_X12_step_L11_J94 b x1 x2 x3 x4 x5 x6 y7 y8 y9 z0 z1 b h) (g_X12_step_L11_J94 x1 x2 x3 x4 x5 x6 y7 y8 y9 z0 z1 M) := by
  unfold f_X12_step_L11_J94 g_X12_step_L11_J94
  obtain ⟨h6, e7, I⟩ := I.pI 21 (by decide) (by decide) (by decide) (z1 + z0)
  refine OS.f e7 ?_
  refine OS.g (w := msI M 21 (z1 + z0)) rfl ?_
  generalize msI M 21 (z1 + z0) = M6 at I ⊢
  refine OS.b (sim_X12_bit y9 I) (fun a c r => ?_)
  obtain ⟨w10, h8⟩ := a
  obtain ⟨w9, M8⟩ := c
  obtain ⟨e9, I⟩ := r
  dsimp only at e9 I ⊢
  subst e9
  exact OS.ret (SR.l ⟨rfl, rfl, I⟩)
set_option maxRecDepth 100000 in
set_option maxHeartbeats 4000000 in
theorem sim_X12_step_L11_J66 {b : Nat} {h0 h : AH} {M : MS} (x1 : Int32) (x2 : Int32) (x3 : Int32) (x4 : Int32) (x5 : Int32) (x6 : Int32) (y7 : Int32) (y8 : Int32) (z0 : Int32) (I : MK b h0 h M) : OS (SR (fun (a : Int32 × Int32 × AH) (c : Int32 × Int32 × MS) => a.1 = c.1 ∧ a.2.1 = c.2.1 ∧ MK b h0 a.2.2 c.2.2) (fun (a : Int32 × AH) (c : Int32 × MS) => a.1 = c.1 ∧ MK b h0 a.2 c.2)) (f_X12_step_L11_J66 b x1 x2 x3 x4 x5 x6 y7 y8 z0 h) (g_X12_step_L11_J66 x1 x2 x3 x4 x5 x6 y7 y8 z0 M) := by
  unfold f_X12_step_L11_J66 g_X12_step_L11_J66
  refine OS.f (I.gI 21 (by decide) (by decide) (by decide)) ?_
  refine OS.i (fun _ => ?_) (fun _ => ?_)
  · exact sim_X12_step_L11_J94 x1 x2 x3 x4 x5 x6 y7 y8 z0 0 (M.1 21) I
  · refine OS.f (I.gR 13 (by decide) (by decide)) ?_
    refine OS.b (I.ld 13 (by decide) (by decide) _) (fun v11 v12 e => ?_)
    subst e
    exact sim_X12_step_L11_J94 x1 x2 x3 x4 x5 x6 y7 y8 z0 v11 (M.1 21) I
set_option maxRecDepth 100000 in
set_option maxHeartbeats 4000000 in
theorem sim_X12_step_L11_J65 {b : Nat} {h0 h : AH} {M : MS} (x1 : Int32) (x2 : Int32) (x3 : Int32) (x4 : Int32) (x5 : Int32) (x6 : Int32) (y7 : Int32) (y8 : Int32) (I : MK b h0 h M) : OS (SR (fun (a : Int32 × Int32 × AH) (c : Int32 × Int32 × MS) => a.1 = c.1 ∧ a.2.1 = c.2.1 ∧ MK b h0 a.2.2 c.2.2) (fun (a : Int32 × AH) (c : Int32 × MS) => a.1 = c.1 ∧ MK b h0 a.2 c.2)) (f_X12_step_L11_J65 b x1 x2 x3 x4 x5 x6 y7 y8 h) (g_X12_step_L11_J65 x1 x2 x3 x4 x5 x6 y7 y8 M) := by
  unfold f_X12_step_L11_J65 g_X12_step_L11_J65
  exact sim_X12_step_L11_J66 x1 x2 x3 x4 x5 x6 y7 y8 0 I
set_option maxRecDepth 100000 in
set_option maxHeartbeats 4000000 in
theorem sim_X12_step_L11 {b : Nat} {h0 : AH} (x1 : Int32) (x2 : Int32) (x3 : Int32) (x4 : Int32) (x5 : Int32) (x6 : Int32) (a : Int32 × Int32 × AH) (c : Int32 × Int32 × MS) (r : (fun (a : Int32 × Int32 × AH) (c : Int32 × Int32 × MS) => a.1 = c.1 ∧ a.2.1 = c.2.1 ∧ MK b h0 a.2.2 c.2.2) a c) : OS (SR (fun (a : Int32 × Int32 × AH) (c : Int32 × Int32 × MS) => a.1 = c.1 ∧ a.2.1 = c.2.1 ∧ MK b h0 a.2.2 c.2.2) (fun (a : Int32 × AH) (c : Int32 × MS) => a.1 = c.1 ∧ MK b h0 a.2 c.2)) (f_X12_step_L11 b x1 x2 x3 x4 x5 x6 a) (g_X12_step_L11 x1 x2 x3 x4 x5 x6 c) := by
  obtain ⟨s7, s8, hs⟩ := a
  obtain ⟨t7, t8, Ms⟩ := c
  obtain ⟨e7, e8, I⟩ := r
  dsimp only at e7 e8 I
  subst e7
  subst e8
  unfold f_X12_step_L11 g_X12_step_L11
  try dsimp only
  refine OS.f (I.gI 7 (by decide) (by decide) (by decide)) ?_
  refine OS.i (fun _ => ?_) (fun _ => ?_)
  · exact OS.ret (SR.r (⟨rfl, I⟩))
  · refine OS.i (fun _ => ?_) (fun _ => ?_)
    · refine OS.f (I.gR 19 (by decide) (by decide)) ?_
      refine OS.b (I.ld 19 (by decide) (by decide) _) (fun v13 v14 e => ?_)
      subst e
      refine OS.i (fun _ => ?_) (fun _ => ?_)
      · exact sim_X12_step_L11_J65 x1 x2 x3 x4 x5 x6 s7 s8 I
      · refine OS.f (I.gR 19 (by decide) (by decide)) ?_
        refine OS.b (I.ld 19 (by decide) (by decide) _) (fun v16 v17 e => ?_)
        subst e
        refine OS.f I.cl ?_
        refine OS.b (sim_X12_beatOf x2 (x6 - v16) I) (fun a c r => ?_)
        obtain ⟨w20, h18⟩ := a
        obtain ⟨w9, M18⟩ := c
        obtain ⟨e9, I⟩ := r
        dsimp only at e9 I ⊢
        subst e9
        refine OS.i (fun _ => ?_) (fun _ => ?_)
        · exact sim_X12_step_L11_J66 x1 x2 x3 x4 x5 x6 s7 s8 1 I
        · exact sim_X12_step_L11_J65 x1 x2 x3 x4 x5 x6 s7 s8 I
    · exact sim_X12_step_L11_J65 x1 x2 x3 x4 x5 x6 s7 s8 I
set_option maxRecDepth 100000 in
set_option maxHeartbeats 4000000 in
theorem sim_X12_step_L184_J296 {b : Nat} {h0 h : AH} {M : MS} (x1 : Int32) (x3 : Int32) (x7 : Int32) (x8 : Int32) (y9 : Int32) (y10 : Int32) (I : MK b h0 h M) : OS (SR (fun (a : Int32 × AH) (c : Int32 × MS) => a.1 = c.1 ∧ MK b h0 a.2 c.2) (fun (a : AH) (c : MS) => MK b h0 a c)) (f_X12_step_L184_J296 b x1 x3 x7 x8 y9 y10 h) (g_X12_step_L184_J296 x1 x3 x7 x8 y9 y10 M) := by
  unfold f_X12_step_L184_J296 g_X12_step_L184_J296
  refine OS.f (I.gR 13 (by decide) (by decide)) ?_
  refine OS.f (I.gR 8 (by decide) (by decide)) ?_
  refine OS.b (I.ld 8 (by decide) (by decide) _) (fun v41 v42 e => ?_)
  subst e
  refine OS.i (fun _ => ?_) (fun _ => ?_)
  · refine OS.b (I.st 13 (by decide) (by decide) _ _) (fun h44 M44 I => ?_)
    exact OS.ret (SR.l ⟨rfl, I⟩)
  · refine OS.f (I.gR 8 (by decide) (by decide)) ?_
    refine OS.b (I.ld 8 (by decide) (by decide) _) (fun v45 v46 e => ?_)
    subst e
    refine OS.b (I.st 13 (by decide) (by decide) _ _) (fun h47 M47 I => ?_)
    exact OS.ret (SR.l ⟨rfl, I⟩)
set_option maxRecDepth 100000 in
set_option maxHeartbeats 4000000 in
theorem sim_X12_step_L184_J263 {b : Nat} {h0 h : AH} {M : MS} (x1 : Int32) (x3 : Int32) (x7 : Int32) (x8 : Int32) (y9 : Int32) (y10 : Int32) (I : MK b h0 h M) : OS (SR (fun (a : Int32 × AH) (c : Int32 × MS) => a.1 = c.1 ∧ MK b h0 a.2 c.2) (fun (a : AH) (c : MS) => MK b h0 a c)) (f_X12_step_L184_J263 b x1 x3 x7 x8 y9 y10 h) (g_X12_step_L184_J263 x1 x3 x7 x8 y9 y10 M) := by
  unfold f_X12_step_L184_J263 g_X12_step_L184_J263
  refine OS.f (I.gR 10 (by decide) (by decide)) ?_
  refine OS.b (I.ld 10 (by decide) (by decide) _) (fun v39 v40 e => ?_)
  subst e
  exact sim_X12_step_L184_J296 x1 x3 x7 x8 y9 (y10 + v39) I
set_option maxRecDepth 100000 in
set_option maxHeartbeats 4000000 in
theorem sim_X12_step_L184_J244 {b : Nat} {h0 h : AH} {M : MS} (x1 : Int32) (x3 : Int32) (x7 : Int32) (x8 : Int32) (y9 : Int32) (z0 : Int32) (I : MK b h0 h M) : OS (SR (fun (a : Int32 × AH) (c : Int32 × MS) => a.1 = c.1 ∧ MK b h0 a.2 c.2) (fun (a : AH) (c : MS) => MK b h0 a c)) (f_X12_step_L184_J244 b x1 x3 x7 x8 y9 z0 h) (g_X12_step_L184_J244 x1 x3 x7 x8 y9 z0 M) := by
  unfold f_X12_step_L184_J244 g_X12_step_L184_J244
  exact sim_X12_step_L184_J296 x1 x3 x7 x8 y9 z0 I
set_option maxRecDepth 100000 in
set_option maxHeartbeats 4000000 in
theorem sim_X12_step_L184 {b : Nat} {h0 : AH} (x1 : Int32) (x3 : Int32) (x7 : Int32) (x8 : Int32) (a : Int32 × AH) (c : Int32 × MS) (r : (fun (a : Int32 × AH) (c : Int32 × MS) => a.1 = c.1 ∧ MK b h0 a.2 c.2) a c) : OS (SR (fun (a : Int32 × AH) (c : Int32 × MS) => a.1 = c.1 ∧ MK b h0 a.2 c.2) (fun (a : AH) (c : MS) => MK b h0 a c)) (f_X12_step_L184 b x1 x3 x7 x8 a) (g_X12_step_L184 x1 x3 x7 x8 c) := by
  obtain ⟨s9, hs⟩ := a
  obtain ⟨t9, Ms⟩ := c
  obtain ⟨e9, I⟩ := r
  dsimp only at e9 I
  subst e9
  unfold f_X12_step_L184 g_X12_step_L184
  try dsimp only
  refine OS.f (I.gI 7 (by decide) (by decide) (by decide)) ?_
  refine OS.i (fun _ => ?_) (fun _ => ?_)
  · exact OS.ret (SR.r (I))
  · refine OS.f (I.gR 13 (by decide) (by decide)) ?_
    refine OS.b (I.ld 13 (by decide) (by decide) _) (fun v35 v36 e => ?_)
    subst e
    refine OS.i (fun _ => ?_) (fun _ => ?_)
    · refine OS.f (I.gR 9 (by decide) (by decide)) ?_
      refine OS.b (I.ld 9 (by decide) (by decide) _) (fun v52 v53 e => ?_)
      subst e
      refine OS.i (fun _ => ?_) (fun _ => ?_)
      · exact sim_X12_step_L184_J244 x1 x3 x7 x8 s9 0 I
      · refine OS.f (I.gR 9 (by decide) (by decide)) ?_
        refine OS.b (I.ld 9 (by decide) (by decide) _) (fun v55 v56 e => ?_)
        subst e
        exact sim_X12_step_L184_J244 x1 x3 x7 x8 s9 (v35 - v55) I
    · refine OS.i (fun _ => ?_) (fun _ => ?_)
      · exact sim_X12_step_L184_J263 x1 x3 x7 x8 s9 v35 I
      · refine OS.i (fun _ => ?_) (fun _ => ?_)
        · exact sim_X12_step_L184_J263 x1 x3 x7 x8 s9 v35 I
        · refine OS.i (fun _ => ?_) (fun _ => ?_)
          · refine OS.f (I.gR 11 (by decide) (by decide)) ?_
            refine OS.b (I.ld 11 (by decide) (by decide) _) (fun v50 v51 e => ?_)
            subst e
            exact sim_X12_step_L184_J296 x1 x3 x7 x8 s9 (v35 + v50) I
          · exact sim_X12_step_L184_J296 x1 x3 x7 x8 s9 v35 I
set_option maxRecDepth 100000 in
set_option maxHeartbeats 4000000 in
theorem sim_X12_step_J172 {b : Nat} {h0 h : AH} {M : MS} (a1 : Int32) (a2 : Int32) (a3 : Int32) (a4 : Int32) (a5 : Int32) (a6 : Int32) (y7 : Int32) (I : MK b h0 h M) : OS (fun (a : AH) (c : MS) => MK b h0 a c) (f_X12_step_J172 b a1 a2 a3 a4 a5 a6 y7 h) (g_X12_step_J172 a1 a2 a3 a4 a5 a6 y7 M) := by
  unfold f_X12_step_J172 g_X12_step_J172
  refine OS.f I.cl ?_
  refine OS.b (sim_X12_beatOf a2 a6 I) (fun a c r => ?_)
  obtain ⟨w33, h31⟩ := a
  obtain ⟨w9, M31⟩ := c
  obtain ⟨e9, I⟩ := r
  dsimp only at e9 I ⊢
  subst e9
  refine OS.b (OS.it (sim_X12_step_L184 a1 a3 y7 w33) 100000 _ _ ⟨rfl, I⟩) (fun e58 e59 r => ?_)
  have I := r
  generalize e58 = h60 at I ⊢
  generalize e59 = M60 at I ⊢
  exact OS.ret I
set_option maxRecDepth 100000 in
set_option maxHeartbeats 4000000 in
theorem sim_X12_step_J169 {b : Nat} {h0 h : AH} {M : MS} (a1 : Int32) (a2 : Int32) (a3 : Int32) (a4 : Int32) (a5 : Int32) (a6 : Int32) (y7 : Int32) (z0 : Int32) (I : MK b h0 h M) : OS (fun (a : AH) (c : MS) => MK b h0 a c) (f_X12_step_J169 b a1 a2 a3 a4 a5 a6 y7 z0 b h) (g_X12_step_J169 a1 a2 a3 a4 a5 a6 y7 z0 M) := by
  unfold f_X12_step_J169 g_X12_step_J169
  obtain ⟨h29, e30, I⟩ := I.pI 20 (by decide) (by decide) (by decide) z0
  refine OS.f e30 ?_
  refine OS.g (w := msI M 20 z0) rfl ?_
  generalize msI M 20 z0 = M29 at I ⊢
  exact sim_X12_step_J172 a1 a2 a3 a4 a5 a6 y7 I
set_option maxRecDepth 100000 in
set_option maxHeartbeats 4000000 in
theorem sim_X12_step {b : Nat} {h0 h : AH} {M : MS} (a1 : Int32) (a2 : Int32) (a3 : Int32) (a4 : Int32) (a5 : Int32) (a6 : Int32) (I : MK b h0 h M) : OS (fun (a : AH) (c : MS) => MK b h0 a c) (f_X12_step b a1 a2 a3 a4 a5 a6 h) (g_X12_step a1 a2 a3 a4 a5 a6 M) := by
  unfold f_X12_step g_X12_step
  obtain ⟨h1, e2, I⟩ := I.pI 21 (by decide) (by decide) (by decide) 0
  refine OS.f e2 ?_
  refine OS.g (w := msI M 21 0) rfl ?_
  generalize msI M 21 0 = M1 at I ⊢
  refine OS.b (OS.it (sim_X12_step_L11 a1 a2 a3 a4 a5 a6) 100000 _ _ ⟨rfl, rfl, I⟩) (fun e23 e24 r => ?_)
  obtain ⟨w25, h26⟩ := e23
  obtain ⟨zw25, M26⟩ := e24
  obtain ⟨ew25, I⟩ := r
  dsimp only at ew25 I ⊢
  subst ew25
  refine OS.f (I.gI 21 (by decide) (by decide) (by decide)) ?_
  refine OS.i (fun _ => ?_) (fun _ => ?_)
  · refine OS.f (I.gI 20 (by decide) (by decide) (by decide)) ?_
    refine OS.i (fun _ => ?_) (fun _ => ?_)
    · exact sim_X12_step_J169 a1 a2 a3 a4 a5 a6 w25 0 I
    · refine OS.f (I.gI 20 (by decide) (by decide) (by decide)) ?_
      exact sim_X12_step_J169 a1 a2 a3 a4 a5 a6 w25 ((M26.1 20) - a5) I
  · refine OS.f (I.gI 20 (by decide) (by decide) (by decide)) ?_
    refine OS.f (I.gI 21 (by decide) (by decide) (by decide)) ?_
    obtain ⟨h61, e62, I⟩ := I.pI 20 (by decide) (by decide) (by decide) ((M26.1 20) + (((M26.1 21) - a4) / 10))
    refine OS.f e62 ?_
    refine OS.g (w := msI M26 20 ((M26.1 20) + (((M26.1 21) - a4) / 10))) rfl ?_
    generalize msI M26 20 ((M26.1 20) + (((M26.1 21) - a4) / 10)) = M61 at I ⊢
    exact sim_X12_step_J172 a1 a2 a3 a4 a5 a6 w25 I
set_option maxRecDepth 100000 in
set_option maxHeartbeats 4000000 in
theorem sim_X12_isAbove_L5_J46 {b : Nat} {h0 h : AH} {M : MS} (x1 : Int32) (x2 : Int32) (y4 : Int32) (I : MK b h0 h M) : OS (SR (fun (a : Int32 × Int32 × AH) (c : Int32 × Int32 × MS) => a.1 = c.1 ∧ a.2.1 = c.2.1 ∧ MK b h0 a.2.2 c.2.2) (fun (a : Int32 × AH) (c : Int32 × MS) => a.1 = c.1 ∧ MK b h0 a.2 c.2)) (f_X12_isAbove_L5_J46 b x1 x2 y4 h) (g_X12_isAbove_L5_J46 x1 x2 y4 M) := by
  unfold f_X12_isAbove_L5_J46 g_X12_isAbove_L5_J46
  exact OS.ret (SR.l ⟨rfl, rfl, I⟩)
set_option maxRecDepth 100000 in
set_option maxHeartbeats 4000000 in
theorem sim_X12_isAbove_L5 {b : Nat} {h0 : AH} (x1 : Int32) (x2 : Int32) (a : Int32 × Int32 × AH) (c : Int32 × Int32 × MS) (r : (fun (a : Int32 × Int32 × AH) (c : Int32 × Int32 × MS) => a.1 = c.1 ∧ a.2.1 = c.2.1 ∧ MK b h0 a.2.2 c.2.2) a c) : OS (SR (fun (a : Int32 × Int32 × AH) (c : Int32 × Int32 × MS) => a.1 = c.1 ∧ a.2.1 = c.2.1 ∧ MK b h0 a.2.2 c.2.2) (fun (a : Int32 × AH) (c : Int32 × MS) => a.1 = c.1 ∧ MK b h0 a.2 c.2)) (f_X12_isAbove_L5 b x1 x2 a) (g_X12_isAbove_L5 x1 x2 c) := by
  obtain ⟨s3, s4, hs⟩ := a
  obtain ⟨t3, t4, Ms⟩ := c
  obtain ⟨e3, e4, I⟩ := r
  dsimp only at e3 e4 I
  subst e3
  subst e4
  unfold f_X12_isAbove_L5 g_X12_isAbove_L5
  try dsimp only
  refine OS.f (I.gI 7 (by decide) (by decide) (by decide)) ?_
  refine OS.i (fun _ => ?_) (fun _ => ?_)
  · exact OS.ret (SR.r (⟨rfl, I⟩))
  · refine OS.i (fun _ => ?_) (fun _ => ?_)
    · exact OS.ret (SR.l ⟨rfl, rfl, I⟩)
    · refine OS.i (fun _ => ?_) (fun _ => ?_)
      · exact sim_X12_isAbove_L5_J46 x1 x2 s4 I
      · refine OS.f (I.gR 13 (by decide) (by decide)) ?_
        refine OS.b (I.ld 13 (by decide) (by decide) _) (fun v4 v5 e => ?_)
        subst e
        refine OS.f (I.gI 15 (by decide) (by decide) (by decide)) ?_
        refine OS.i (fun _ => ?_) (fun _ => ?_)
        · exact OS.ret (SR.l ⟨rfl, rfl, I⟩)
        · exact sim_X12_isAbove_L5_J46 x1 x2 s4 I
set_option maxRecDepth 100000 in
set_option maxHeartbeats 4000000 in
theorem sim_X12_isAbove {b : Nat} {h0 h : AH} {M : MS} (a1 : Int32) (a2 : Int32) (I : MK b h0 h M) : OS (fun (a : Int32 × AH) (c : Int32 × MS) => a.1 = c.1 ∧ MK b h0 a.2 c.2) (f_X12_isAbove b a1 a2 h) (g_X12_isAbove a1 a2 M) := by
  unfold f_X12_isAbove g_X12_isAbove
  refine OS.b (OS.it (sim_X12_isAbove_L5 a1 a2) 100000 _ _ ⟨rfl, rfl, I⟩) (fun e8 e9 r => ?_)
  obtain ⟨w10, h11⟩ := e8
  obtain ⟨zw10, M11⟩ := e9
  obtain ⟨ew10, I⟩ := r
  dsimp only at ew10 I ⊢
  subst ew10
  refine OS.b (OS.same _) (fun _ _ _ => ?_)
  exact OS.ret ⟨rfl, I⟩
set_option maxRecDepth 100000 in
set_option maxHeartbeats 4000000 in
theorem sim_X12_work_L8 {b : Nat} {h0 : AH} (x1 : Int32) (x2 : Int32) (x3 : Int32) (x4 : Int32) (x5 : Int32) (x6 : Int32) (x7 : Int32) (a : Int32 × AH) (c : Int32 × MS) (r : (fun (a : Int32 × AH) (c : Int32 × MS) => a.1 = c.1 ∧ MK b h0 a.2 c.2) a c) : OS (SR (fun (a : Int32 × AH) (c : Int32 × MS) => a.1 = c.1 ∧ MK b h0 a.2 c.2) (fun (a : AH) (c : MS) => MK b h0 a c)) (f_X12_work_L8 b x1 x2 x3 x4 x5 x6 x7 a) (g_X12_work_L8 x1 x2 x3 x4 x5 x6 x7 c) := by
  obtain ⟨s8, hs⟩ := a
  obtain ⟨t8, Ms⟩ := c
  obtain ⟨e8, I⟩ := r
  dsimp only at e8 I
  subst e8
  unfold f_X12_work_L8 g_X12_work_L8
  try dsimp only
  refine OS.f (I.gI 7 (by decide) (by decide) (by decide)) ?_
  refine OS.i (fun _ => ?_) (fun _ => ?_)
  · exact OS.ret (SR.r (I))
  · refine OS.f (I.gR 19 (by decide) (by decide)) ?_
    refine OS.f (I.gR 12 (by decide) (by decide)) ?_
    refine OS.b (I.ld 12 (by decide) (by decide) _) (fun v4 v5 e => ?_)
    subst e
    refine OS.b (I.st 19 (by decide) (by decide) _ _) (fun h6 M6 I => ?_)
    exact OS.ret (SR.l ⟨rfl, I⟩)
set_option maxRecDepth 100000 in
set_option maxHeartbeats 4000000 in
theorem sim_X12_work_L40_J96 {b : Nat} {h0 h : AH} {M : MS} (x1 : Int32) (x2 : Int32) (x3 : Int32) (x4 : Int32) (x5 : Int32) (x6 : Int32) (x7 : Int32) (y8 : Int32) (I : MK b h0 h M) : OS (SR (fun (a : Int32 × AH) (c : Int32 × MS) => a.1 = c.1 ∧ MK b h0 a.2 c.2) (SR (fun (a : AH) (c : MS) => MK b h0 a c) (SR (fun (a : Int32 × AH) (c : Int32 × MS) => a.1 = c.1 ∧ MK b h0 a.2 c.2) (fun (a : Int32 × AH) (c : Int32 × MS) => a.1 = c.1 ∧ MK b h0 a.2 c.2)))) (f_X12_work_L40_J96 b x1 x2 x3 x4 x5 x6 x7 y8 h) (g_X12_work_L40_J96 x1 x2 x3 x4 x5 x6 x7 y8 M) := by
  unfold f_X12_work_L40_J96 g_X12_work_L40_J96
  refine OS.f I.cl ?_
  refine OS.b (sim_X12_isAbove x1 x3 I) (fun a c r => ?_)
  obtain ⟨w17, h15⟩ := a
  obtain ⟨w9, M15⟩ := c
  obtain ⟨e9, I⟩ := r
  dsimp only at e9 I ⊢
  subst e9
  refine OS.i (fun _ => ?_) (fun _ => ?_)
  · exact OS.ret (SR.r (SR.r (SR.r (⟨rfl, I⟩))))
  · refine OS.f (I.gI 20 (by decide) (by decide) (by decide)) ?_
    refine OS.i (fun _ => ?_) (fun _ => ?_)
    · exact OS.ret (SR.l ⟨rfl, I⟩)
    · exact OS.ret (SR.r (SR.r (SR.l (⟨rfl, I⟩))))
set_option maxRecDepth 100000 in
set_option maxHeartbeats 4000000 in
theorem sim_X12_work_L40 {b : Nat} {h0 : AH} (x1 : Int32) (x2 : Int32) (x3 : Int32) (x4 : Int32) (x5 : Int32) (x6 : Int32) (x7 : Int32) (a : Int32 × AH) (c : Int32 × MS) (r : (fun (a : Int32 × AH) (c : Int32 × MS) => a.1 = c.1 ∧ MK b h0 a.2 c.2) a c) : OS (SR (fun (a : Int32 × AH) (c : Int32 × MS) => a.1 = c.1 ∧ MK b h0 a.2 c.2) (SR (fun (a : AH) (c : MS) => MK b h0 a c) (SR (fun (a : Int32 × AH) (c : Int32 × MS) => a.1 = c.1 ∧ MK b h0 a.2 c.2) (fun (a : Int32 × AH) (c : Int32 × MS) => a.1 = c.1 ∧ MK b h0 a.2 c.2)))) (f_X12_work_L40 b x1 x2 x3 x4 x5 x6 x7 a) (g_X12_work_L40 x1 x2 x3 x4 x5 x6 x7 c) := by
  obtain ⟨s8, hs⟩ := a
  obtain ⟨t8, Ms⟩ := c
  obtain ⟨e8, I⟩ := r
  dsimp only at e8 I
  subst e8
  unfold f_X12_work_L40 g_X12_work_L40
  try dsimp only
  refine OS.i (fun _ => ?_) (fun _ => ?_)
  · exact OS.ret (SR.r (SR.l (I)))
  · refine OS.f I.cl ?_
    refine OS.b (sim_X12_step x1 x2 x3 x5 x6 s8 I) (fun h12 M12 I => ?_)
    refine OS.i (fun _ => ?_) (fun _ => ?_)
    · exact sim_X12_work_L40_J96 x1 x2 x3 x4 x5 x6 x7 s8 I
    · refine OS.f (I.gR 17 (by decide) (by decide)) ?_
      refine OS.f (I.gI 20 (by decide) (by decide) (by decide)) ?_
      refine OS.b (I.st 17 (by decide) (by decide) _ _) (fun h20 M20 I => ?_)
      refine OS.f (I.gR 18 (by decide) (by decide)) ?_
      refine OS.f (I.gI 21 (by decide) (by decide) (by decide)) ?_
      refine OS.b (I.st 18 (by decide) (by decide) _ _) (fun h21 M21 I => ?_)
      obtain ⟨h22, e23, I⟩ := I.pI 16 (by decide) (by decide) (by decide) (s8 + 1)
      refine OS.f e23 ?_
      refine OS.g (w := msI M21 16 (s8 + 1)) rfl ?_
      generalize msI M21 16 (s8 + 1) = M22 at I ⊢
      exact sim_X12_work_L40_J96 x1 x2 x3 x4 x5 x6 x7 s8 I
set_option maxRecDepth 100000 in
set_option maxHeartbeats 4000000 in
theorem sim_X12_work {b : Nat} {h0 h : AH} {M : MS} (a1 : Int32) (a2 : Int32) (a3 : Int32) (a4 : Int32) (a5 : Int32) (a6 : Int32) (a7 : Int32) (I : MK b h0 h M) : OS (fun (a : Int32 × AH) (c : Int32 × MS) => a.1 = c.1 ∧ MK b h0 a.2 c.2) (f_X12_work b a1 a2 a3 a4 a5 a6 a7 h) (g_X12_work a1 a2 a3 a4 a5 a6 a7 M) := by
  unfold f_X12_work g_X12_work
  obtain ⟨h1, e2, I⟩ := I.pI 20 (by decide) (by decide) (by decide) 0
  refine OS.f e2 ?_
  refine OS.g (w := msI M 20 0) rfl ?_
  generalize msI M 20 0 = M1 at I ⊢
  refine OS.b (OS.it (sim_X12_work_L8 a1 a2 a3 a4 a5 a6 a7) 100000 _ _ ⟨rfl, I⟩) (fun e8 e9 r => ?_)
  have I := r
  generalize e8 = h10 at I ⊢
  generalize e9 = M10 at I ⊢
  refine OS.b (OS.it (sim_X12_work_L40 a1 a2 a3 a4 a5 a6 a7) 100000 _ _ ⟨rfl, I⟩) (fun e25 e26 r => ?_)
  cases e25 with
  | inl e27 =>
    cases e26 with
    | inl e29 =>
      have r : (fun (a : AH) (c : MS) => MK b h0 a c) e27 e29 := r
      simp only [Sum.elim_inl]
      have I := r
      generalize e27 = h31 at I ⊢
      generalize e29 = M31 at I ⊢
      exact OS.ret ⟨rfl, I⟩
    | inr e30 => exact r.elim
  | inr e28 =>
    cases e26 with
    | inl e29 => exact r.elim
    | inr e30 =>
      simp only [Sum.elim_inr]
      cases e28 with
      | inl e32 =>
        cases e30 with
        | inl e34 =>
          have r : (fun (a : Int32 × AH) (c : Int32 × MS) => a.1 = c.1 ∧ MK b h0 a.2 c.2) e32 e34 := r
          simp only [Sum.elim_inl]
          obtain ⟨w36, h37⟩ := e32
          obtain ⟨zw36, M37⟩ := e34
          obtain ⟨ew36, I⟩ := r
          dsimp only at ew36 I ⊢
          subst ew36
          exact OS.ret ⟨rfl, I⟩
        | inr e35 => exact r.elim
      | inr e33 =>
        cases e30 with
        | inl e34 => exact r.elim
        | inr e35 =>
          have r : (fun (a : Int32 × AH) (c : Int32 × MS) => a.1 = c.1 ∧ MK b h0 a.2 c.2) e33 e35 := r
          simp only [Sum.elim_inr]
          obtain ⟨w38, h39⟩ := e33
          obtain ⟨zw38, M39⟩ := e35
          obtain ⟨ew38, I⟩ := r
          dsimp only at ew38 I ⊢
          subst ew38
          exact OS.ret ⟨rfl, I⟩
set_option maxRecDepth 100000 in
set_option maxHeartbeats 4000000 in
theorem sim_X12_leastNow_L6 {b : Nat} {h0 : AH} (x1 : Int32) (a : Int32 × Int32 × AH) (c : Int32 × Int32 × MS) (r : (fun (a : Int32 × Int32 × AH) (c : Int32 × Int32 × MS) => a.1 = c.1 ∧ a.2.1 = c.2.1 ∧ MK b h0 a.2.2 c.2.2) a c) : OS (SR (fun (a : Int32 × Int32 × AH) (c : Int32 × Int32 × MS) => a.1 = c.1 ∧ a.2.1 = c.2.1 ∧ MK b h0 a.2.2 c.2.2) (fun (a : Int32 × AH) (c : Int32 × MS) => a.1 = c.1 ∧ MK b h0 a.2 c.2)) (f_X12_leastNow_L6 b x1 a) (g_X12_leastNow_L6 x1 c) := by
  obtain ⟨s2, s3, hs⟩ := a
  obtain ⟨t2, t3, Ms⟩ := c
  obtain ⟨e2, e3, I⟩ := r
  dsimp only at e2 e3 I
  subst e2
  subst e3
  unfold f_X12_leastNow_L6 g_X12_leastNow_L6
  try dsimp only
  refine OS.f (I.gI 7 (by decide) (by decide) (by decide)) ?_
  refine OS.i (fun _ => ?_) (fun _ => ?_)
  · exact OS.ret (SR.r (⟨rfl, I⟩))
  · refine OS.f (I.gR 13 (by decide) (by decide)) ?_
    refine OS.b (I.ld 13 (by decide) (by decide) _) (fun v2 v3 e => ?_)
    subst e
    refine OS.i (fun _ => ?_) (fun _ => ?_)
    · exact OS.ret (SR.l ⟨rfl, rfl, I⟩)
    · exact OS.ret (SR.l ⟨rfl, rfl, I⟩)
set_option maxRecDepth 100000 in
set_option maxHeartbeats 4000000 in
theorem sim_X12_leastNow {b : Nat} {h0 h : AH} {M : MS} (a1 : Int32) (I : MK b h0 h M) : OS (fun (a : Int32 × AH) (c : Int32 × MS) => a.1 = c.1 ∧ MK b h0 a.2 c.2) (f_X12_leastNow b a1 h) (g_X12_leastNow a1 M) := by
  unfold f_X12_leastNow g_X12_leastNow
  refine OS.b (OS.it (sim_X12_leastNow_L6 a1) 100000 _ _ ⟨rfl, rfl, I⟩) (fun e6 e7 r => ?_)
  obtain ⟨w8, h9⟩ := e6
  obtain ⟨zw8, M9⟩ := e7
  obtain ⟨ew8, I⟩ := r
  dsimp only at ew8 I ⊢
  subst ew8
  exact OS.ret ⟨rfl, I⟩
set_option maxRecDepth 100000 in
set_option maxHeartbeats 4000000 in
theorem sim_X12_best_L66_J159 {b : Nat} {h0 h : AH} {M : MS} (x1 : Int32) (x2 : Int32) (x3 : Int32) (x4 : Int32) (y8 : Int32) (y9 : Int32) (y10 : Int32) (I : MK b h0 h M) : OS (SR (fun (a : Int32 × Int32 × Int32 × Int32 × AH) (c : Int32 × Int32 × Int32 × Int32 × MS) => a.1 = c.1 ∧ a.2.1 = c.2.1 ∧ a.2.2.1 = c.2.2.1 ∧ a.2.2.2.1 = c.2.2.2.1 ∧ MK b h0 a.2.2.2.2 c.2.2.2.2) (fun (a : Int32 × Int32 × Int32 × AH) (c : Int32 × Int32 × Int32 × MS) => a.1 = c.1 ∧ a.2.1 = c.2.1 ∧ a.2.2.1 = c.2.2.1 ∧ MK b h0 a.2.2.2 c.2.2.2)) (f_X12_best_L66_J159 b x1 x2 x3 x4 y8 y9 y10 h) (g_X12_best_L66_J159 x1 x2 x3 x4 y8 y9 y10 M) := by
  unfold f_X12_best_L66_J159 g_X12_best_L66_J159
  exact OS.ret (SR.l ⟨rfl, rfl, rfl, rfl, I⟩)
set_option maxRecDepth 100000 in
set_option maxHeartbeats 4000000 in
theorem sim_X12_best_L66 {b : Nat} {h0 : AH} (x1 : Int32) (x2 : Int32) (x3 : Int32) (x4 : Int32) (a : Int32 × Int32 × Int32 × Int32 × AH) (c : Int32 × Int32 × Int32 × Int32 × MS) (r : (fun (a : Int32 × Int32 × Int32 × Int32 × AH) (c : Int32 × Int32 × Int32 × Int32 × MS) => a.1 = c.1 ∧ a.2.1 = c.2.1 ∧ a.2.2.1 = c.2.2.1 ∧ a.2.2.2.1 = c.2.2.2.1 ∧ MK b h0 a.2.2.2.2 c.2.2.2.2) a c) : OS (SR (fun (a : Int32 × Int32 × Int32 × Int32 × AH) (c : Int32 × Int32 × Int32 × Int32 × MS) => a.1 = c.1 ∧ a.2.1 = c.2.1 ∧ a.2.2.1 = c.2.2.1 ∧ a.2.2.2.1 = c.2.2.2.1 ∧ MK b h0 a.2.2.2.2 c.2.2.2.2) (fun (a : Int32 × Int32 × Int32 × AH) (c : Int32 × Int32 × Int32 × MS) => a.1 = c.1 ∧ a.2.1 = c.2.1 ∧ a.2.2.1 = c.2.2.1 ∧ MK b h0 a.2.2.2 c.2.2.2)) (f_X12_best_L66 b x1 x2 x3 x4 a) (g_X12_best_L66 x1 x2 x3 x4 c) := by
  obtain ⟨s5, s6, s7, s8, hs⟩ := a
  obtain ⟨t5, t6, t7, t8, Ms⟩ := c
  obtain ⟨e5, e6, e7, e8, I⟩ := r
  dsimp only at e5 e6 e7 e8 I
  subst e5
  subst e6
  subst e7
  subst e8
  unfold f_X12_best_L66 g_X12_best_L66
  try dsimp only
  refine OS.f (I.gI 7 (by decide) (by decide) (by decide)) ?_
  refine OS.i (fun _ => ?_) (fun _ => ?_)
  · exact OS.ret (SR.r (⟨rfl, rfl, rfl, I⟩))
  · refine OS.b (sim_X12_ones s8 I) (fun a c r => ?_)
    obtain ⟨w20, h18⟩ := a
    obtain ⟨w9, M18⟩ := c
    obtain ⟨e9, I⟩ := r
    dsimp only at e9 I ⊢
    subst e9
    refine OS.i (fun _ => ?_) (fun _ => ?_)
    · refine OS.f I.cl ?_
      refine OS.b (sim_X12_carry 0 1 I) (fun h22 M22 I => ?_)
      refine OS.f (I.gR 23 (by decide) (by decide)) ?_
      refine OS.b (I.ld 23 (by decide) (by decide) _) (fun v24 v25 e => ?_)
      subst e
      refine OS.f (I.gR 24 (by decide) (by decide)) ?_
      refine OS.b (I.ld 24 (by decide) (by decide) _) (fun v26 v27 e => ?_)
      subst e
      refine OS.f (I.gR 25 (by decide) (by decide)) ?_
      refine OS.b (I.ld 25 (by decide) (by decide) _) (fun v28 v29 e => ?_)
      subst e
      refine OS.f I.cl ?_
      refine OS.b (sim_X12_work 1 x1 s8 v24 v26 v28 0 I) (fun a c r => ?_)
      obtain ⟨w32, h30⟩ := a
      obtain ⟨w9, M30⟩ := c
      obtain ⟨e9, I⟩ := r
      dsimp only at e9 I ⊢
      subst e9
      refine OS.f I.cl ?_
      refine OS.b (sim_X12_leastNow 1 I) (fun a c r => ?_)
      obtain ⟨w35, h33⟩ := a
      obtain ⟨w9, M33⟩ := c
      obtain ⟨e9, I⟩ := r
      dsimp only at e9 I ⊢
      subst e9
      refine OS.i (fun _ => ?_) (fun _ => ?_)
      · exact OS.ret (SR.l ⟨rfl, rfl, rfl, rfl, I⟩)
      · refine OS.i (fun _ => ?_) (fun _ => ?_)
        · exact sim_X12_best_L66_J159 x1 x2 x3 x4 s8 w32 w35 I
        · refine OS.i (fun _ => ?_) (fun _ => ?_)
          · exact sim_X12_best_L66_J159 x1 x2 x3 x4 s8 w32 w35 I
          · refine OS.i (fun _ => ?_) (fun _ => ?_)
            · refine OS.i (fun _ => ?_) (fun _ => ?_)
              · exact OS.ret (SR.l ⟨rfl, rfl, rfl, rfl, I⟩)
              · exact sim_X12_best_L66_J159 x1 x2 x3 x4 s8 w32 w35 I
            · exact OS.ret (SR.l ⟨rfl, rfl, rfl, rfl, I⟩)
    · exact OS.ret (SR.l ⟨rfl, rfl, rfl, rfl, I⟩)
set_option maxRecDepth 100000 in
set_option maxHeartbeats 4000000 in
theorem sim_X12_best {b : Nat} {h0 h : AH} {M : MS} (a1 : Int32) (a2 : Int32) (a3 : Int32) (a4 : Int32) (I : MK b h0 h M) : OS (fun (a : Int32 × AH) (c : Int32 × MS) => a.1 = c.1 ∧ MK b h0 a.2 c.2) (f_X12_best b a1 a2 a3 a4 h) (g_X12_best a1 a2 a3 a4 M) := by
  unfold f_X12_best g_X12_best
  refine OS.f I.cl ?_
  refine OS.b (sim_X12_noSong a1 I) (fun a c r => ?_)
  obtain ⟨w3, h1⟩ := a
  obtain ⟨w9, M1⟩ := c
  obtain ⟨e9, I⟩ := r
  dsimp only at e9 I ⊢
  subst e9
  refine OS.i (fun _ => ?_) (fun _ => ?_)
  · refine OS.f (I.gI 22 (by decide) (by decide) (by decide)) ?_
    refine OS.b (sim_X12_in a2.toInt64 0 (((M1.1 22) - 1).toInt64) I) (fun a c r => ?_)
    obtain ⟨w7, h5⟩ := a
    obtain ⟨w9, M5⟩ := c
    obtain ⟨e9, I⟩ := r
    dsimp only at e9 I ⊢
    subst e9
    refine OS.i (fun _ => ?_) (fun _ => ?_)
    · exact OS.ret ⟨rfl, I⟩
    · refine OS.f (I.gI 7 (by decide) (by decide) (by decide)) ?_
      refine OS.b (sim_X12_in a3.toInt64 1 (((M5.1 7)).toInt64) I) (fun a c r => ?_)
      obtain ⟨w11, h9⟩ := a
      obtain ⟨w9, M9⟩ := c
      obtain ⟨e9, I⟩ := r
      dsimp only at e9 I ⊢
      subst e9
      refine OS.i (fun _ => ?_) (fun _ => ?_)
      · exact OS.ret ⟨rfl, I⟩
      · refine OS.b (sim_X12_in a4.toInt64 0 2 I) (fun a c r => ?_)
        obtain ⟨w15, h13⟩ := a
        obtain ⟨w9, M13⟩ := c
        obtain ⟨e9, I⟩ := r
        dsimp only at e9 I ⊢
        subst e9
        refine OS.i (fun _ => ?_) (fun _ => ?_)
        · exact OS.ret ⟨rfl, I⟩
        · refine OS.b (OS.it (sim_X12_best_L66 a1 a2 a3 a4) 100000 _ _ ⟨rfl, rfl, rfl, rfl, I⟩) (fun e42 e43 r => ?_)
          obtain ⟨w44, w45, w46, h47⟩ := e42
          obtain ⟨zw44, zw45, zw46, M47⟩ := e43
          obtain ⟨ew44, ew45, ew46, I⟩ := r
          dsimp only at ew44 ew45 ew46 I ⊢
          subst ew44
          subst ew45
          subst ew46
          refine OS.i (fun _ => ?_) (fun _ => ?_)
          · refine OS.i (fun _ => ?_) (fun _ => ?_)
            · exact OS.ret ⟨rfl, I⟩
            · refine OS.i (fun _ => ?_) (fun _ => ?_)
              · exact OS.ret ⟨rfl, I⟩
              · exact OS.ret ⟨rfl, I⟩
          · exact OS.ret ⟨rfl, I⟩
  · exact OS.ret ⟨rfl, I⟩
set_option maxRecDepth 100000 in
set_option maxHeartbeats 4000000 in
theorem sim_X12_between {b : Nat} {h0 h : AH} {M : MS} (a1 : Int32) (I : MK b h0 h M) : OS (fun (a : Int32 × AH) (c : Int32 × MS) => a.1 = c.1 ∧ MK b h0 a.2 c.2) (f_X12_between b a1 h) (g_X12_between a1 M) := by
  unfold f_X12_between g_X12_between
  refine OS.b (sim_X12_in a1.toInt64 0 50 I) (fun a c r => ?_)
  obtain ⟨w3, h1⟩ := a
  obtain ⟨w9, M1⟩ := c
  obtain ⟨e9, I⟩ := r
  dsimp only at e9 I ⊢
  subst e9
  refine OS.i (fun _ => ?_) (fun _ => ?_)
  · exact OS.ret ⟨rfl, I⟩
  · refine OS.f (I.gI 26 (by decide) (by decide) (by decide)) ?_
    obtain ⟨h5, e6, I⟩ := I.pI 26 (by decide) (by decide) (by decide) a1
    refine OS.f e6 ?_
    refine OS.g (w := msI M1 26 a1) rfl ?_
    generalize msI M1 26 a1 = M5 at I ⊢
    exact OS.ret ⟨rfl, I⟩
set_option maxRecDepth 100000 in
set_option maxHeartbeats 4000000 in
theorem sim_X12_count {b : Nat} {h0 h : AH} {M : MS} (a1 : Int32) (I : MK b h0 h M) : OS (fun (a : Int32 × AH) (c : Int32 × MS) => a.1 = c.1 ∧ MK b h0 a.2 c.2) (f_X12_count b a1 h) (g_X12_count a1 M) := by
  unfold f_X12_count g_X12_count
  refine OS.i (fun _ => ?_) (fun _ => ?_)
  · refine OS.f (I.gI 0 (by decide) (by decide) (by decide)) ?_
    exact OS.ret ⟨rfl, I⟩
  · refine OS.i (fun _ => ?_) (fun _ => ?_)
    · refine OS.f (I.gI 7 (by decide) (by decide) (by decide)) ?_
      exact OS.ret ⟨rfl, I⟩
    · refine OS.i (fun _ => ?_) (fun _ => ?_)
      · refine OS.f (I.gI 14 (by decide) (by decide) (by decide)) ?_
        exact OS.ret ⟨rfl, I⟩
      · refine OS.i (fun _ => ?_) (fun _ => ?_)
        · refine OS.f (I.gI 15 (by decide) (by decide) (by decide)) ?_
          exact OS.ret ⟨rfl, I⟩
        · refine OS.i (fun _ => ?_) (fun _ => ?_)
          · refine OS.f (I.gI 22 (by decide) (by decide) (by decide)) ?_
            exact OS.ret ⟨rfl, I⟩
          · refine OS.i (fun _ => ?_) (fun _ => ?_)
            · refine OS.f (I.gI 30 (by decide) (by decide) (by decide)) ?_
              exact OS.ret ⟨rfl, I⟩
            · refine OS.i (fun _ => ?_) (fun _ => ?_)
              · refine OS.f (I.gI 35 (by decide) (by decide) (by decide)) ?_
                exact OS.ret ⟨rfl, I⟩
              · refine OS.i (fun _ => ?_) (fun _ => ?_)
                · refine OS.f (I.gI 5 (by decide) (by decide) (by decide)) ?_
                  exact OS.ret ⟨rfl, I⟩
                · refine OS.i (fun _ => ?_) (fun _ => ?_)
                  · refine OS.f (I.gI 16 (by decide) (by decide) (by decide)) ?_
                    exact OS.ret ⟨rfl, I⟩
                  · exact OS.ret ⟨rfl, I⟩
set_option maxRecDepth 100000 in
set_option maxHeartbeats 4000000 in
theorem sim_X12_crew {b : Nat} {h0 h : AH} {M : MS} (a1 : Int32) (I : MK b h0 h M) : OS (fun (a : Int32 × AH) (c : Int32 × MS) => a.1 = c.1 ∧ MK b h0 a.2 c.2) (f_X12_crew b a1 h) (g_X12_crew a1 M) := by
  unfold f_X12_crew g_X12_crew
  refine OS.f (I.gI 7 (by decide) (by decide) (by decide)) ?_
  refine OS.b (sim_X12_in a1.toInt64 0 (((1 <<< ((M.1 7) &&& 31)) - 1).toInt64) I) (fun a c r => ?_)
  obtain ⟨w3, h1⟩ := a
  obtain ⟨w9, M1⟩ := c
  obtain ⟨e9, I⟩ := r
  dsimp only at e9 I ⊢
  subst e9
  refine OS.i (fun _ => ?_) (fun _ => ?_)
  · exact OS.ret ⟨rfl, I⟩
  · refine OS.f (I.gI 14 (by decide) (by decide) (by decide)) ?_
    obtain ⟨h5, e6, I⟩ := I.pI 14 (by decide) (by decide) (by decide) a1
    refine OS.f e6 ?_
    refine OS.g (w := msI M1 14 a1) rfl ?_
    generalize msI M1 14 a1 = M5 at I ⊢
    exact OS.ret ⟨rfl, I⟩
set_option maxRecDepth 100000 in
set_option maxHeartbeats 4000000 in
theorem sim_X12_note {b : Nat} {h0 h : AH} {M : MS} (a1 : Int64) (I : MK b h0 h M) : OS (fun (a : AH) (c : MS) => MK b h0 a c) (f_X12_note b a1 h) (g_X12_note a1 M) := by
  unfold f_X12_note g_X12_note
  refine OS.f I.gJ ?_
  obtain ⟨h1, e2, I⟩ := I.pJ ((31 * M.2.1) + a1)
  refine OS.f e2 ?_
  refine OS.g (w := msJ M ((31 * M.2.1) + a1)) rfl ?_
  generalize msJ M ((31 * M.2.1) + a1) = M1 at I ⊢
  exact OS.ret I
set_option maxRecDepth 100000 in
set_option maxHeartbeats 4000000 in
theorem sim_X12_digest_L9 {b : Nat} {h0 : AH} (a : Int32 × AH) (c : Int32 × MS) (r : (fun (a : Int32 × AH) (c : Int32 × MS) => a.1 = c.1 ∧ MK b h0 a.2 c.2) a c) : OS (SR (fun (a : Int32 × AH) (c : Int32 × MS) => a.1 = c.1 ∧ MK b h0 a.2 c.2) (fun (a : AH) (c : MS) => MK b h0 a c)) (f_X12_digest_L9 b a) (g_X12_digest_L9 c) := by
  obtain ⟨s1, hs⟩ := a
  obtain ⟨t1, Ms⟩ := c
  obtain ⟨e1, I⟩ := r
  dsimp only at e1 I
  subst e1
  unfold f_X12_digest_L9 g_X12_digest_L9
  try dsimp only
  refine OS.i (fun _ => ?_) (fun _ => ?_)
  · exact OS.ret (SR.r (I))
  · refine OS.f I.cl ?_
    refine OS.b (sim_X12_count s1 I) (fun a c r => ?_)
    obtain ⟨w6, h4⟩ := a
    obtain ⟨w9, M4⟩ := c
    obtain ⟨e9, I⟩ := r
    dsimp only at e9 I ⊢
    subst e9
    refine OS.f I.cl ?_
    refine OS.b (sim_X12_note w6.toInt64 I) (fun h7 M7 I => ?_)
    exact OS.ret (SR.l ⟨rfl, I⟩)
set_option maxRecDepth 100000 in
set_option maxHeartbeats 4000000 in
theorem sim_X12_digest_L33 {b : Nat} {h0 : AH} (a : Int32 × AH) (c : Int32 × MS) (r : (fun (a : Int32 × AH) (c : Int32 × MS) => a.1 = c.1 ∧ MK b h0 a.2 c.2) a c) : OS (SR (fun (a : Int32 × AH) (c : Int32 × MS) => a.1 = c.1 ∧ MK b h0 a.2 c.2) (fun (a : AH) (c : MS) => MK b h0 a c)) (f_X12_digest_L33 b a) (g_X12_digest_L33 c) := by
  obtain ⟨s1, hs⟩ := a
  obtain ⟨t1, Ms⟩ := c
  obtain ⟨e1, I⟩ := r
  dsimp only at e1 I
  subst e1
  unfold f_X12_digest_L33 g_X12_digest_L33
  try dsimp only
  refine OS.f (I.gI 5 (by decide) (by decide) (by decide)) ?_
  refine OS.i (fun _ => ?_) (fun _ => ?_)
  · exact OS.ret (SR.r (I))
  · refine OS.f (I.gR 6 (by decide) (by decide)) ?_
    refine OS.b (I.ld 6 (by decide) (by decide) _) (fun v14 v15 e => ?_)
    subst e
    refine OS.f I.cl ?_
    refine OS.b (sim_X12_note v14.toInt64 I) (fun h16 M16 I => ?_)
    exact OS.ret (SR.l ⟨rfl, I⟩)
set_option maxRecDepth 100000 in
set_option maxHeartbeats 4000000 in
theorem sim_X12_digest_L92 {b : Nat} {h0 : AH} (x1 : Int32) (a : Int32 × AH) (c : Int32 × MS) (r : (fun (a : Int32 × AH) (c : Int32 × MS) => a.1 = c.1 ∧ MK b h0 a.2 c.2) a c) : OS (SR (fun (a : Int32 × AH) (c : Int32 × MS) => a.1 = c.1 ∧ MK b h0 a.2 c.2) (fun (a : AH) (c : MS) => MK b h0 a c)) (f_X12_digest_L92 b x1 a) (g_X12_digest_L92 x1 c) := by
  obtain ⟨s2, hs⟩ := a
  obtain ⟨t2, Ms⟩ := c
  obtain ⟨e2, I⟩ := r
  dsimp only at e2 I
  subst e2
  unfold f_X12_digest_L92 g_X12_digest_L92
  try dsimp only
  refine OS.f (I.gR 1 (by decide) (by decide)) ?_
  refine OS.b (I.ld 1 (by decide) (by decide) _) (fun v31 v32 e => ?_)
  subst e
  refine OS.i (fun _ => ?_) (fun _ => ?_)
  · exact OS.ret (SR.r (I))
  · refine OS.f (I.gR 3 (by decide) (by decide)) ?_
    refine OS.b (I.ld 3 (by decide) (by decide) _) (fun v34 v35 e => ?_)
    subst e
    refine OS.f I.cl ?_
    refine OS.b (sim_X12_note v34.toInt64 I) (fun h36 M36 I => ?_)
    exact OS.ret (SR.l ⟨rfl, I⟩)
set_option maxRecDepth 100000 in
set_option maxHeartbeats 4000000 in
theorem sim_X12_digest_L126 {b : Nat} {h0 : AH} (x1 : Int32) (a : Int32 × AH) (c : Int32 × MS) (r : (fun (a : Int32 × AH) (c : Int32 × MS) => a.1 = c.1 ∧ MK b h0 a.2 c.2) a c) : OS (SR (fun (a : Int32 × AH) (c : Int32 × MS) => a.1 = c.1 ∧ MK b h0 a.2 c.2) (fun (a : AH) (c : MS) => MK b h0 a c)) (f_X12_digest_L126 b x1 a) (g_X12_digest_L126 x1 c) := by
  obtain ⟨s2, hs⟩ := a
  obtain ⟨t2, Ms⟩ := c
  obtain ⟨e2, I⟩ := r
  dsimp only at e2 I
  subst e2
  unfold f_X12_digest_L126 g_X12_digest_L126
  try dsimp only
  refine OS.f (I.gR 2 (by decide) (by decide)) ?_
  refine OS.b (I.ld 2 (by decide) (by decide) _) (fun v42 v43 e => ?_)
  subst e
  refine OS.i (fun _ => ?_) (fun _ => ?_)
  · exact OS.ret (SR.r (I))
  · refine OS.f (I.gR 4 (by decide) (by decide)) ?_
    refine OS.b (I.ld 4 (by decide) (by decide) _) (fun v45 v46 e => ?_)
    subst e
    refine OS.f I.cl ?_
    refine OS.b (sim_X12_note v45.toInt64 I) (fun h47 M47 I => ?_)
    exact OS.ret (SR.l ⟨rfl, I⟩)
set_option maxRecDepth 100000 in
set_option maxHeartbeats 4000000 in
theorem sim_X12_digest_L60 {b : Nat} {h0 : AH} (a : Int32 × AH) (c : Int32 × MS) (r : (fun (a : Int32 × AH) (c : Int32 × MS) => a.1 = c.1 ∧ MK b h0 a.2 c.2) a c) : OS (SR (fun (a : Int32 × AH) (c : Int32 × MS) => a.1 = c.1 ∧ MK b h0 a.2 c.2) (fun (a : AH) (c : MS) => MK b h0 a c)) (f_X12_digest_L60 b a) (g_X12_digest_L60 c) := by
  obtain ⟨s1, hs⟩ := a
  obtain ⟨t1, Ms⟩ := c
  obtain ⟨e1, I⟩ := r
  dsimp only at e1 I
  subst e1
  unfold f_X12_digest_L60 g_X12_digest_L60
  try dsimp only
  refine OS.f (I.gI 0 (by decide) (by decide) (by decide)) ?_
  refine OS.i (fun _ => ?_) (fun _ => ?_)
  · exact OS.ret (SR.r (I))
  · refine OS.f (I.gR 1 (by decide) (by decide)) ?_
    refine OS.b (I.ld 1 (by decide) (by decide) _) (fun v23 v24 e => ?_)
    subst e
    refine OS.f I.cl ?_
    refine OS.b (sim_X12_note v23.toInt64 I) (fun h25 M25 I => ?_)
    refine OS.f (I.gR 2 (by decide) (by decide)) ?_
    refine OS.b (I.ld 2 (by decide) (by decide) _) (fun v27 v28 e => ?_)
    subst e
    refine OS.f I.cl ?_
    refine OS.b (sim_X12_note v27.toInt64 I) (fun h29 M29 I => ?_)
    refine OS.b (OS.it (sim_X12_digest_L92 s1) 100000 _ _ ⟨rfl, I⟩) (fun e39 e40 r => ?_)
    have I := r
    generalize e39 = h41 at I ⊢
    generalize e40 = M41 at I ⊢
    refine OS.b (OS.it (sim_X12_digest_L126 s1) 100000 _ _ ⟨rfl, I⟩) (fun e50 e51 r => ?_)
    have I := r
    generalize e50 = h52 at I ⊢
    generalize e51 = M52 at I ⊢
    exact OS.ret (SR.l ⟨rfl, I⟩)
set_option maxRecDepth 100000 in
set_option maxHeartbeats 4000000 in
theorem sim_X12_digest_L166 {b : Nat} {h0 : AH} (a : Int32 × AH) (c : Int32 × MS) (r : (fun (a : Int32 × AH) (c : Int32 × MS) => a.1 = c.1 ∧ MK b h0 a.2 c.2) a c) : OS (SR (fun (a : Int32 × AH) (c : Int32 × MS) => a.1 = c.1 ∧ MK b h0 a.2 c.2) (fun (a : AH) (c : MS) => MK b h0 a c)) (f_X12_digest_L166 b a) (g_X12_digest_L166 c) := by
  obtain ⟨s1, hs⟩ := a
  obtain ⟨t1, Ms⟩ := c
  obtain ⟨e1, I⟩ := r
  dsimp only at e1 I
  subst e1
  unfold f_X12_digest_L166 g_X12_digest_L166
  try dsimp only
  refine OS.f (I.gI 7 (by decide) (by decide) (by decide)) ?_
  refine OS.i (fun _ => ?_) (fun _ => ?_)
  · exact OS.ret (SR.r (I))
  · refine OS.f (I.gR 8 (by decide) (by decide)) ?_
    refine OS.b (I.ld 8 (by decide) (by decide) _) (fun v58 v59 e => ?_)
    subst e
    refine OS.f I.cl ?_
    refine OS.b (sim_X12_note v58.toInt64 I) (fun h60 M60 I => ?_)
    refine OS.f (I.gR 9 (by decide) (by decide)) ?_
    refine OS.b (I.ld 9 (by decide) (by decide) _) (fun v62 v63 e => ?_)
    subst e
    refine OS.f I.cl ?_
    refine OS.b (sim_X12_note v62.toInt64 I) (fun h64 M64 I => ?_)
    refine OS.f (I.gR 10 (by decide) (by decide)) ?_
    refine OS.b (I.ld 10 (by decide) (by decide) _) (fun v66 v67 e => ?_)
    subst e
    refine OS.f I.cl ?_
    refine OS.b (sim_X12_note v66.toInt64 I) (fun h68 M68 I => ?_)
    refine OS.f (I.gR 11 (by decide) (by decide)) ?_
    refine OS.b (I.ld 11 (by decide) (by decide) _) (fun v70 v71 e => ?_)
    subst e
    refine OS.f I.cl ?_
    refine OS.b (sim_X12_note v70.toInt64 I) (fun h72 M72 I => ?_)
    refine OS.f (I.gR 12 (by decide) (by decide)) ?_
    refine OS.b (I.ld 12 (by decide) (by decide) _) (fun v74 v75 e => ?_)
    subst e
    refine OS.f I.cl ?_
    refine OS.b (sim_X12_note v74.toInt64 I) (fun h76 M76 I => ?_)
    refine OS.f (I.gR 13 (by decide) (by decide)) ?_
    refine OS.b (I.ld 13 (by decide) (by decide) _) (fun v78 v79 e => ?_)
    subst e
    refine OS.f I.cl ?_
    refine OS.b (sim_X12_note v78.toInt64 I) (fun h80 M80 I => ?_)
    exact OS.ret (SR.l ⟨rfl, I⟩)
set_option maxRecDepth 100000 in
set_option maxHeartbeats 4000000 in
theorem sim_X12_digest_L248 {b : Nat} {h0 : AH} (a : Int32 × AH) (c : Int32 × MS) (r : (fun (a : Int32 × AH) (c : Int32 × MS) => a.1 = c.1 ∧ MK b h0 a.2 c.2) a c) : OS (SR (fun (a : Int32 × AH) (c : Int32 × MS) => a.1 = c.1 ∧ MK b h0 a.2 c.2) (fun (a : AH) (c : MS) => MK b h0 a c)) (f_X12_digest_L248 b a) (g_X12_digest_L248 c) := by
  obtain ⟨s1, hs⟩ := a
  obtain ⟨t1, Ms⟩ := c
  obtain ⟨e1, I⟩ := r
  dsimp only at e1 I
  subst e1
  unfold f_X12_digest_L248 g_X12_digest_L248
  try dsimp only
  refine OS.f (I.gI 16 (by decide) (by decide) (by decide)) ?_
  refine OS.i (fun _ => ?_) (fun _ => ?_)
  · exact OS.ret (SR.r (I))
  · refine OS.f (I.gR 17 (by decide) (by decide)) ?_
    refine OS.b (I.ld 17 (by decide) (by decide) _) (fun v87 v88 e => ?_)
    subst e
    refine OS.f I.cl ?_
    refine OS.b (sim_X12_note v87.toInt64 I) (fun h89 M89 I => ?_)
    exact OS.ret (SR.l ⟨rfl, I⟩)
set_option maxRecDepth 100000 in
set_option maxHeartbeats 4000000 in
theorem sim_X12_digest_L275 {b : Nat} {h0 : AH} (a : Int32 × AH) (c : Int32 × MS) (r : (fun (a : Int32 × AH) (c : Int32 × MS) => a.1 = c.1 ∧ MK b h0 a.2 c.2) a c) : OS (SR (fun (a : Int32 × AH) (c : Int32 × MS) => a.1 = c.1 ∧ MK b h0 a.2 c.2) (fun (a : AH) (c : MS) => MK b h0 a c)) (f_X12_digest_L275 b a) (g_X12_digest_L275 c) := by
  obtain ⟨s1, hs⟩ := a
  obtain ⟨t1, Ms⟩ := c
  obtain ⟨e1, I⟩ := r
  dsimp only at e1 I
  subst e1
  unfold f_X12_digest_L275 g_X12_digest_L275
  try dsimp only
  refine OS.f (I.gI 16 (by decide) (by decide) (by decide)) ?_
  refine OS.i (fun _ => ?_) (fun _ => ?_)
  · exact OS.ret (SR.r (I))
  · refine OS.f (I.gR 18 (by decide) (by decide)) ?_
    refine OS.b (I.ld 18 (by decide) (by decide) _) (fun v96 v97 e => ?_)
    subst e
    refine OS.f I.cl ?_
    refine OS.b (sim_X12_note v96.toInt64 I) (fun h98 M98 I => ?_)
    exact OS.ret (SR.l ⟨rfl, I⟩)
set_option maxRecDepth 100000 in
set_option maxHeartbeats 4000000 in
theorem sim_X12_digest_L302 {b : Nat} {h0 : AH} (a : Int32 × AH) (c : Int32 × MS) (r : (fun (a : Int32 × AH) (c : Int32 × MS) => a.1 = c.1 ∧ MK b h0 a.2 c.2) a c) : OS (SR (fun (a : Int32 × AH) (c : Int32 × MS) => a.1 = c.1 ∧ MK b h0 a.2 c.2) (fun (a : AH) (c : MS) => MK b h0 a c)) (f_X12_digest_L302 b a) (g_X12_digest_L302 c) := by
  obtain ⟨s1, hs⟩ := a
  obtain ⟨t1, Ms⟩ := c
  obtain ⟨e1, I⟩ := r
  dsimp only at e1 I
  subst e1
  unfold f_X12_digest_L302 g_X12_digest_L302
  try dsimp only
  refine OS.f (I.gI 22 (by decide) (by decide) (by decide)) ?_
  refine OS.i (fun _ => ?_) (fun _ => ?_)
  · exact OS.ret (SR.r (I))
  · refine OS.f (I.gR 23 (by decide) (by decide)) ?_
    refine OS.b (I.ld 23 (by decide) (by decide) _) (fun v105 v106 e => ?_)
    subst e
    refine OS.f I.cl ?_
    refine OS.b (sim_X12_note v105.toInt64 I) (fun h107 M107 I => ?_)
    refine OS.f (I.gR 24 (by decide) (by decide)) ?_
    refine OS.b (I.ld 24 (by decide) (by decide) _) (fun v109 v110 e => ?_)
    subst e
    refine OS.f I.cl ?_
    refine OS.b (sim_X12_note v109.toInt64 I) (fun h111 M111 I => ?_)
    refine OS.f (I.gR 25 (by decide) (by decide)) ?_
    refine OS.b (I.ld 25 (by decide) (by decide) _) (fun v113 v114 e => ?_)
    subst e
    refine OS.f I.cl ?_
    refine OS.b (sim_X12_note v113.toInt64 I) (fun h115 M115 I => ?_)
    exact OS.ret (SR.l ⟨rfl, I⟩)
set_option maxRecDepth 100000 in
set_option maxHeartbeats 4000000 in
theorem sim_X12_digest_L351 {b : Nat} {h0 : AH} (a : Int32 × AH) (c : Int32 × MS) (r : (fun (a : Int32 × AH) (c : Int32 × MS) => a.1 = c.1 ∧ MK b h0 a.2 c.2) a c) : OS (SR (fun (a : Int32 × AH) (c : Int32 × MS) => a.1 = c.1 ∧ MK b h0 a.2 c.2) (fun (a : AH) (c : MS) => MK b h0 a c)) (f_X12_digest_L351 b a) (g_X12_digest_L351 c) := by
  obtain ⟨s1, hs⟩ := a
  obtain ⟨t1, Ms⟩ := c
  obtain ⟨e1, I⟩ := r
  dsimp only at e1 I
  subst e1
  unfold f_X12_digest_L351 g_X12_digest_L351
  try dsimp only
  refine OS.f (I.gI 30 (by decide) (by decide) (by decide)) ?_
  refine OS.i (fun _ => ?_) (fun _ => ?_)
  · exact OS.ret (SR.r (I))
  · refine OS.f (I.gR 31 (by decide) (by decide)) ?_
    refine OS.b (I.ld 31 (by decide) (by decide) _) (fun v122 v123 e => ?_)
    subst e
    refine OS.f I.cl ?_
    refine OS.b (sim_X12_note v122.toInt64 I) (fun h124 M124 I => ?_)
    refine OS.f (I.gR 32 (by decide) (by decide)) ?_
    refine OS.b (I.ld 32 (by decide) (by decide) _) (fun v126 v127 e => ?_)
    subst e
    refine OS.f I.cl ?_
    refine OS.b (sim_X12_note v126.toInt64 I) (fun h128 M128 I => ?_)
    exact OS.ret (SR.l ⟨rfl, I⟩)
set_option maxRecDepth 100000 in
set_option maxHeartbeats 4000000 in
theorem sim_X12_digest_L389 {b : Nat} {h0 : AH} (a : Int32 × AH) (c : Int32 × MS) (r : (fun (a : Int32 × AH) (c : Int32 × MS) => a.1 = c.1 ∧ MK b h0 a.2 c.2) a c) : OS (SR (fun (a : Int32 × AH) (c : Int32 × MS) => a.1 = c.1 ∧ MK b h0 a.2 c.2) (fun (a : AH) (c : MS) => MK b h0 a c)) (f_X12_digest_L389 b a) (g_X12_digest_L389 c) := by
  obtain ⟨s1, hs⟩ := a
  obtain ⟨t1, Ms⟩ := c
  obtain ⟨e1, I⟩ := r
  dsimp only at e1 I
  subst e1
  unfold f_X12_digest_L389 g_X12_digest_L389
  try dsimp only
  refine OS.f (I.gI 35 (by decide) (by decide) (by decide)) ?_
  refine OS.i (fun _ => ?_) (fun _ => ?_)
  · exact OS.ret (SR.r (I))
  · refine OS.f (I.gR 36 (by decide) (by decide)) ?_
    refine OS.b (I.ld 36 (by decide) (by decide) _) (fun v135 v136 e => ?_)
    subst e
    refine OS.f I.cl ?_
    refine OS.b (sim_X12_note v135.toInt64 I) (fun h137 M137 I => ?_)
    refine OS.f (I.gR 37 (by decide) (by decide)) ?_
    refine OS.b (I.ld 37 (by decide) (by decide) _) (fun v139 v140 e => ?_)
    subst e
    refine OS.f I.cl ?_
    refine OS.b (sim_X12_note v139.toInt64 I) (fun h141 M141 I => ?_)
    exact OS.ret (SR.l ⟨rfl, I⟩)
set_option maxRecDepth 100000 in
set_option maxHeartbeats 4000000 in
theorem sim_X12_digest {b : Nat} {h0 h : AH} {M : MS} (I : MK b h0 h M) : OS (fun (a : Int64 × AH) (c : Int64 × MS) => a.1 = c.1 ∧ MK b h0 a.2 c.2) (f_X12_digest b h) (g_X12_digest M) := by
  unfold f_X12_digest g_X12_digest
  obtain ⟨h1, e2, I⟩ := I.pJ 283
  refine OS.f e2 ?_
  refine OS.g (w := msJ M 283) rfl ?_
  generalize msJ M 283 = M1 at I ⊢
  refine OS.b (OS.it (sim_X12_digest_L9) 100000 _ _ ⟨rfl, I⟩) (fun e10 e11 r => ?_)
  have I := r
  generalize e10 = h12 at I ⊢
  generalize e11 = M12 at I ⊢
  refine OS.b (OS.it (sim_X12_digest_L33) 100000 _ _ ⟨rfl, I⟩) (fun e19 e20 r => ?_)
  have I := r
  generalize e19 = h21 at I ⊢
  generalize e20 = M21 at I ⊢
  refine OS.b (OS.it (sim_X12_digest_L60) 100000 _ _ ⟨rfl, I⟩) (fun e54 e55 r => ?_)
  have I := r
  generalize e54 = h56 at I ⊢
  generalize e55 = M56 at I ⊢
  refine OS.b (OS.it (sim_X12_digest_L166) 100000 _ _ ⟨rfl, I⟩) (fun e83 e84 r => ?_)
  have I := r
  generalize e83 = h85 at I ⊢
  generalize e84 = M85 at I ⊢
  refine OS.b (OS.it (sim_X12_digest_L248) 100000 _ _ ⟨rfl, I⟩) (fun e92 e93 r => ?_)
  have I := r
  generalize e92 = h94 at I ⊢
  generalize e93 = M94 at I ⊢
  refine OS.b (OS.it (sim_X12_digest_L275) 100000 _ _ ⟨rfl, I⟩) (fun e101 e102 r => ?_)
  have I := r
  generalize e101 = h103 at I ⊢
  generalize e102 = M103 at I ⊢
  refine OS.b (OS.it (sim_X12_digest_L302) 100000 _ _ ⟨rfl, I⟩) (fun e118 e119 r => ?_)
  have I := r
  generalize e118 = h120 at I ⊢
  generalize e119 = M120 at I ⊢
  refine OS.b (OS.it (sim_X12_digest_L351) 100000 _ _ ⟨rfl, I⟩) (fun e131 e132 r => ?_)
  have I := r
  generalize e131 = h133 at I ⊢
  generalize e132 = M133 at I ⊢
  refine OS.b (OS.it (sim_X12_digest_L389) 100000 _ _ ⟨rfl, I⟩) (fun e144 e145 r => ?_)
  have I := r
  generalize e144 = h146 at I ⊢
  generalize e145 = M146 at I ⊢
  refine OS.f I.gJ ?_
  exact OS.ret ⟨rfl, I⟩
set_option maxRecDepth 100000 in
set_option maxHeartbeats 4000000 in
theorem sim_X12_isSung {b : Nat} {h0 h : AH} {M : MS} (a0 : Int32) (I : MK b h0 h M) : OS (fun (a : Int32 × AH) (c : Int32 × MS) => a.1 = c.1 ∧ MK b h0 a.2 c.2) (f_X12_isSung a0 h) (g_X12_isSung a0 M) := by
  unfold f_X12_isSung g_X12_isSung
  refine OS.i (fun _ => ?_) (fun _ => ?_)
  · exact OS.ret ⟨rfl, I⟩
  · refine OS.i (fun _ => ?_) (fun _ => ?_)
    · exact OS.ret ⟨rfl, I⟩
    · exact OS.ret ⟨rfl, I⟩
set_option maxRecDepth 100000 in
set_option maxHeartbeats 4000000 in
theorem sim_X12_sungFrom_L2 {b : Nat} {h0 : AH} (x1 : Int32) (a : Int32 × AH) (c : Int32 × MS) (r : (fun (a : Int32 × AH) (c : Int32 × MS) => a.1 = c.1 ∧ MK b h0 a.2 c.2) a c) : OS (SR (fun (a : Int32 × AH) (c : Int32 × MS) => a.1 = c.1 ∧ MK b h0 a.2 c.2) (fun (a : Int32 × AH) (c : Int32 × MS) => a.1 = c.1 ∧ MK b h0 a.2 c.2)) (f_X12_sungFrom_L2 b x1 a) (g_X12_sungFrom_L2 x1 c) := by
  obtain ⟨s3, hs⟩ := a
  obtain ⟨t3, Ms⟩ := c
  obtain ⟨e3, I⟩ := r
  dsimp only at e3 I
  subst e3
  unfold f_X12_sungFrom_L2 g_X12_sungFrom_L2
  try dsimp only
  refine OS.f (I.gR 1 (by decide) (by decide)) ?_
  refine OS.b (I.ld 1 (by decide) (by decide) _) (fun v1 v2 e => ?_)
  subst e
  refine OS.i (fun _ => ?_) (fun _ => ?_)
  · exact OS.ret (SR.r (⟨rfl, I⟩))
  · refine OS.f (I.gR 3 (by decide) (by decide)) ?_
    refine OS.b (I.ld 3 (by decide) (by decide) _) (fun v4 v5 e => ?_)
    subst e
    refine OS.b (sim_X12_isSung v4 I) (fun a c r => ?_)
    obtain ⟨w8, h6⟩ := a
    obtain ⟨w9, M6⟩ := c
    obtain ⟨e9, I⟩ := r
    dsimp only at e9 I ⊢
    subst e9
    refine OS.i (fun _ => ?_) (fun _ => ?_)
    · exact OS.ret (SR.l ⟨rfl, I⟩)
    · exact OS.ret (SR.r (⟨rfl, I⟩))
set_option maxRecDepth 100000 in
set_option maxHeartbeats 4000000 in
theorem sim_X12_sungFrom {b : Nat} {h0 h : AH} {M : MS} (a1 : Int32) (a2 : Int32) (I : MK b h0 h M) : OS (fun (a : Int32 × AH) (c : Int32 × MS) => a.1 = c.1 ∧ MK b h0 a.2 c.2) (f_X12_sungFrom b a1 a2 h) (g_X12_sungFrom a1 a2 M) := by
  unfold f_X12_sungFrom g_X12_sungFrom
  refine OS.b (OS.it (sim_X12_sungFrom_L2 a1) 100000 _ _ ⟨rfl, I⟩) (fun e11 e12 r => ?_)
  obtain ⟨w13, h14⟩ := e11
  obtain ⟨zw13, M14⟩ := e12
  obtain ⟨ew13, I⟩ := r
  dsimp only at ew13 I ⊢
  subst ew13
  exact OS.ret ⟨rfl, I⟩
set_option maxRecDepth 100000 in
set_option maxHeartbeats 4000000 in
theorem sim_X12_wrongOf_L25_J116 {b : Nat} {h0 h : AH} {M : MS} (x1 : Int32) (x2 : Int32) (x3 : Int32) (y5 : Int32) (z0 : Int32) (z1 : Int32) (I : MK b h0 h M) : OS (SR (fun (a : Int32 × Int32 × AH) (c : Int32 × Int32 × MS) => a.1 = c.1 ∧ a.2.1 = c.2.1 ∧ MK b h0 a.2.2 c.2.2) (SR (fun (a : Int32 × AH) (c : Int32 × MS) => a.1 = c.1 ∧ MK b h0 a.2 c.2) (fun (a : AH) (c : MS) => MK b h0 a c))) (f_X12_wrongOf_L25_J116 b x1 x2 x3 y5 z0 z1 h) (g_X12_wrongOf_L25_J116 x1 x2 x3 y5 z0 z1 M) := by
  unfold f_X12_wrongOf_L25_J116 g_X12_wrongOf_L25_J116
  refine OS.b (sim_X12_bit z0 I) (fun a c r => ?_)
  obtain ⟨w24, h22⟩ := a
  obtain ⟨w9, M22⟩ := c
  obtain ⟨e9, I⟩ := r
  dsimp only at e9 I ⊢
  subst e9
  exact OS.ret (SR.l ⟨rfl, rfl, I⟩)
set_option maxRecDepth 100000 in
set_option maxHeartbeats 4000000 in
theorem sim_X12_wrongOf_L25_J108 {b : Nat} {h0 h : AH} {M : MS} (x1 : Int32) (x2 : Int32) (x3 : Int32) (y5 : Int32) (z0 : Int32) (z1 : Int32) (z2 : Int32) (I : MK b h0 h M) : OS (SR (fun (a : Int32 × Int32 × AH) (c : Int32 × Int32 × MS) => a.1 = c.1 ∧ a.2.1 = c.2.1 ∧ MK b h0 a.2.2 c.2.2) (SR (fun (a : Int32 × AH) (c : Int32 × MS) => a.1 = c.1 ∧ MK b h0 a.2 c.2) (fun (a : AH) (c : MS) => MK b h0 a c))) (f_X12_wrongOf_L25_J108 b x1 x2 x3 y5 z0 z1 z2 h) (g_X12_wrongOf_L25_J108 x1 x2 x3 y5 z0 z1 z2 M) := by
  unfold f_X12_wrongOf_L25_J108 g_X12_wrongOf_L25_J108
  refine OS.i (fun _ => ?_) (fun _ => ?_)
  · exact sim_X12_wrongOf_L25_J116 x1 x2 x3 y5 0 z2 I
  · exact sim_X12_wrongOf_L25_J116 x1 x2 x3 y5 1 z2 I
set_option maxRecDepth 100000 in
set_option maxHeartbeats 4000000 in
theorem sim_X12_wrongOf_L25_J97 {b : Nat} {h0 h : AH} {M : MS} (x1 : Int32) (x2 : Int32) (x3 : Int32) (y5 : Int32) (y6 : Int32) (z0 : Int32) (z1 : Int32) (I : MK b h0 h M) : OS (SR (fun (a : Int32 × Int32 × AH) (c : Int32 × Int32 × MS) => a.1 = c.1 ∧ a.2.1 = c.2.1 ∧ MK b h0 a.2.2 c.2.2) (SR (fun (a : Int32 × AH) (c : Int32 × MS) => a.1 = c.1 ∧ MK b h0 a.2 c.2) (fun (a : AH) (c : MS) => MK b h0 a c))) (f_X12_wrongOf_L25_J97 b x1 x2 x3 y5 y6 z0 z1 h) (g_X12_wrongOf_L25_J97 x1 x2 x3 y5 y6 z0 z1 M) := by
  unfold f_X12_wrongOf_L25_J97 g_X12_wrongOf_L25_J97
  refine OS.i (fun _ => ?_) (fun _ => ?_)
  · exact sim_X12_wrongOf_L25_J108 x1 x2 x3 y5 1 z0 z1 I
  · exact sim_X12_wrongOf_L25_J108 x1 x2 x3 y5 0 z0 z1 I
set_option maxRecDepth 100000 in
set_option maxHeartbeats 4000000 in
theorem sim_X12_wrongOf_L25 {b : Nat} {h0 : AH} (x1 : Int32) (x2 : Int32) (x3 : Int32) (a : Int32 × Int32 × AH) (c : Int32 × Int32 × MS) (r : (fun (a : Int32 × Int32 × AH) (c : Int32 × Int32 × MS) => a.1 = c.1 ∧ a.2.1 = c.2.1 ∧ MK b h0 a.2.2 c.2.2) a c) : OS (SR (fun (a : Int32 × Int32 × AH) (c : Int32 × Int32 × MS) => a.1 = c.1 ∧ a.2.1 = c.2.1 ∧ MK b h0 a.2.2 c.2.2) (SR (fun (a : Int32 × AH) (c : Int32 × MS) => a.1 = c.1 ∧ MK b h0 a.2 c.2) (fun (a : AH) (c : MS) => MK b h0 a c))) (f_X12_wrongOf_L25 b x1 x2 x3 a) (g_X12_wrongOf_L25 x1 x2 x3 c) := by
  obtain ⟨s4, s5, hs⟩ := a
  obtain ⟨t4, t5, Ms⟩ := c
  obtain ⟨e4, e5, I⟩ := r
  dsimp only at e4 e5 I
  subst e4
  subst e5
  unfold f_X12_wrongOf_L25 g_X12_wrongOf_L25
  try dsimp only
  refine OS.f (I.gR 31 (by decide) (by decide)) ?_
  refine OS.b (I.ld 31 (by decide) (by decide) _) (fun v6 v7 e => ?_)
  subst e
  refine OS.i (fun _ => ?_) (fun _ => ?_)
  · exact OS.ret (SR.r (SR.l (⟨rfl, I⟩)))
  · refine OS.f (I.gR 3 (by decide) (by decide)) ?_
    refine OS.b (I.ld 3 (by decide) (by decide) _) (fun v9 v10 e => ?_)
    subst e
    refine OS.b (sim_X12_isSung v9 I) (fun a c r => ?_)
    obtain ⟨w13, h11⟩ := a
    obtain ⟨w9, M11⟩ := c
    obtain ⟨e9, I⟩ := r
    dsimp only at e9 I ⊢
    subst e9
    refine OS.i (fun _ => ?_) (fun _ => ?_)
    · exact OS.ret (SR.r (SR.r (I)))
    · refine OS.f (I.gR 32 (by decide) (by decide)) ?_
      refine OS.b (I.ld 32 (by decide) (by decide) _) (fun v15 v16 e => ?_)
      subst e
      refine OS.f (I.gR 31 (by decide) (by decide)) ?_
      refine OS.b (I.ld 31 (by decide) (by decide) _) (fun v17 v18 e => ?_)
      subst e
      refine OS.i (fun _ => ?_) (fun _ => ?_)
      · exact sim_X12_wrongOf_L25_J97 x1 x2 x3 s5 v9 1 s4 I
      · exact sim_X12_wrongOf_L25_J97 x1 x2 x3 s5 v9 0 s4 I
set_option maxRecDepth 100000 in
set_option maxHeartbeats 4000000 in
theorem sim_X12_wrongOf {b : Nat} {h0 h : AH} {M : MS} (a1 : Int32) (a2 : Int32) (a3 : Int32) (I : MK b h0 h M) : OS (fun (a : Int32 × AH) (c : Int32 × MS) => a.1 = c.1 ∧ MK b h0 a.2 c.2) (f_X12_wrongOf b a1 a2 a3 h) (g_X12_wrongOf a1 a2 a3 M) := by
  unfold f_X12_wrongOf g_X12_wrongOf
  refine OS.f (I.gR 31 (by decide) (by decide)) ?_
  refine OS.b (I.ld 31 (by decide) (by decide) _) (fun v1 v2 e => ?_)
  subst e
  refine OS.f (I.gR 1 (by decide) (by decide)) ?_
  refine OS.b (I.ld 1 (by decide) (by decide) _) (fun v3 v4 e => ?_)
  subst e
  refine OS.i (fun _ => ?_) (fun _ => ?_)
  · refine OS.b (OS.it (sim_X12_wrongOf_L25 a1 a2 a3) 100000 _ _ ⟨rfl, rfl, I⟩) (fun e26 e27 r => ?_)
    cases e26 with
    | inl e28 =>
      cases e27 with
      | inl e30 =>
        have r : (fun (a : Int32 × AH) (c : Int32 × MS) => a.1 = c.1 ∧ MK b h0 a.2 c.2) e28 e30 := r
        simp only [Sum.elim_inl]
        obtain ⟨w32, h33⟩ := e28
        obtain ⟨zw32, M33⟩ := e30
        obtain ⟨ew32, I⟩ := r
        dsimp only at ew32 I ⊢
        subst ew32
        exact OS.ret ⟨rfl, I⟩
      | inr e31 => exact r.elim
    | inr e29 =>
      cases e27 with
      | inl e30 => exact r.elim
      | inr e31 =>
        have r : (fun (a : AH) (c : MS) => MK b h0 a c) e29 e31 := r
        simp only [Sum.elim_inr]
        have I := r
        generalize e29 = h34 at I ⊢
        generalize e31 = M34 at I ⊢
        exact OS.ret ⟨rfl, I⟩
  · exact OS.ret ⟨rfl, I⟩
set_option maxRecDepth 100000 in
set_option maxHeartbeats 4000000 in
theorem sim_X12_findLines_L82_J144 {b : Nat} {h0 h : AH} {M : MS} (x1 : Int32) (x3 : Int32) (y5 : Int64) (y7 : Int32) (y8 : Int32) (y9 : Int32) (I : MK b h0 h M) : OS (SR (fun (a : Int64 × Int32 × Int32 × AH) (c : Int64 × Int32 × Int32 × MS) => a.1 = c.1 ∧ a.2.1 = c.2.1 ∧ a.2.2.1 = c.2.2.1 ∧ MK b h0 a.2.2.2 c.2.2.2) (fun (a : Int64 × Int32 × AH) (c : Int64 × Int32 × MS) => a.1 = c.1 ∧ a.2.1 = c.2.1 ∧ MK b h0 a.2.2 c.2.2)) (f_X12_findLines_L82_J144 b x1 x3 y5 y7 y8 y9 h) (g_X12_findLines_L82_J144 x1 x3 y5 y7 y8 y9 M) := by
  unfold f_X12_findLines_L82_J144 g_X12_findLines_L82_J144
  refine OS.i (fun _ => ?_) (fun _ => ?_)
  · exact OS.ret (SR.l ⟨rfl, rfl, rfl, I⟩)
  · refine OS.f (I.gR 34 (by decide) (by decide)) ?_
    refine OS.f (I.gR 31 (by decide) (by decide)) ?_
    refine OS.b (I.ld 31 (by decide) (by decide) _) (fun v16 v17 e => ?_)
    subst e
    refine OS.b (I.ld 34 (by decide) (by decide) _) (fun v18 v19 e => ?_)
    subst e
    refine OS.i (fun _ => ?_) (fun _ => ?_)
    · exact OS.ret (SR.l ⟨rfl, rfl, rfl, I⟩)
    · refine OS.f (I.gR 34 (by decide) (by decide)) ?_
      refine OS.f (I.gR 31 (by decide) (by decide)) ?_
      refine OS.b (I.ld 31 (by decide) (by decide) _) (fun v21 v22 e => ?_)
      subst e
      refine OS.b (I.ld 34 (by decide) (by decide) _) (fun v23 v24 e => ?_)
      subst e
      exact OS.ret (SR.l ⟨rfl, rfl, rfl, I⟩)
set_option maxRecDepth 100000 in
set_option maxHeartbeats 4000000 in
theorem sim_X12_findLines_L82_J142 {b : Nat} {h0 h : AH} {M : MS} (x1 : Int32) (x3 : Int32) (y7 : Int32) (y8 : Int32) (y9 : Int32) (z0 : Int64) (I : MK b h0 h M) : OS (SR (fun (a : Int64 × Int32 × Int32 × AH) (c : Int64 × Int32 × Int32 × MS) => a.1 = c.1 ∧ a.2.1 = c.2.1 ∧ a.2.2.1 = c.2.2.1 ∧ MK b h0 a.2.2.2 c.2.2.2) (fun (a : Int64 × Int32 × AH) (c : Int64 × Int32 × MS) => a.1 = c.1 ∧ a.2.1 = c.2.1 ∧ MK b h0 a.2.2 c.2.2)) (f_X12_findLines_L82_J142 b x1 x3 y7 y8 y9 z0 h) (g_X12_findLines_L82_J142 x1 x3 y7 y8 y9 z0 M) := by
  unfold f_X12_findLines_L82_J142 g_X12_findLines_L82_J142
  exact sim_X12_findLines_L82_J144 x1 x3 z0 y7 y8 y9 I
set_option maxRecDepth 100000 in
set_option maxHeartbeats 4000000 in
theorem sim_X12_findLines_L82 {b : Nat} {h0 : AH} (x1 : Int32) (x3 : Int32) (a : Int64 × Int32 × Int32 × AH) (c : Int64 × Int32 × Int32 × MS) (r : (fun (a : Int64 × Int32 × Int32 × AH) (c : Int64 × Int32 × Int32 × MS) => a.1 = c.1 ∧ a.2.1 = c.2.1 ∧ a.2.2.1 = c.2.2.1 ∧ MK b h0 a.2.2.2 c.2.2.2) a c) : OS (SR (fun (a : Int64 × Int32 × Int32 × AH) (c : Int64 × Int32 × Int32 × MS) => a.1 = c.1 ∧ a.2.1 = c.2.1 ∧ a.2.2.1 = c.2.2.1 ∧ MK b h0 a.2.2.2 c.2.2.2) (fun (a : Int64 × Int32 × AH) (c : Int64 × Int32 × MS) => a.1 = c.1 ∧ a.2.1 = c.2.1 ∧ MK b h0 a.2.2 c.2.2)) (f_X12_findLines_L82 b x1 x3 a) (g_X12_findLines_L82 x1 x3 c) := by
  obtain ⟨s5, s7, s8, hs⟩ := a
  obtain ⟨t5, t7, t8, Ms⟩ := c
  obtain ⟨e5, e7, e8, I⟩ := r
  dsimp only at e5 e7 e8 I
  subst e5
  subst e7
  subst e8
  unfold f_X12_findLines_L82 g_X12_findLines_L82
  try dsimp only
  refine OS.f (I.gI 30 (by decide) (by decide) (by decide)) ?_
  refine OS.i (fun _ => ?_) (fun _ => ?_)
  · exact OS.ret (SR.r (⟨rfl, rfl, I⟩))
  · refine OS.f I.cl ?_
    refine OS.b (sim_X12_wrongOf x1 x3 s8 I) (fun a c r => ?_)
    obtain ⟨w13, h11⟩ := a
    obtain ⟨w9, M11⟩ := c
    obtain ⟨e9, I⟩ := r
    dsimp only at e9 I ⊢
    subst e9
    refine OS.i (fun _ => ?_) (fun _ => ?_)
    · refine OS.f (I.gR 33 (by decide) (by decide)) ?_
      refine OS.f (I.gR 31 (by decide) (by decide)) ?_
      refine OS.b (I.ld 31 (by decide) (by decide) _) (fun v25 v26 e => ?_)
      subst e
      refine OS.b (I.ldJ _) (fun v27 v28 e => ?_)
      subst e
      refine OS.i (fun _ => ?_) (fun _ => ?_)
      · exact sim_X12_findLines_L82_J142 x1 x3 s7 s8 w13 (s5 + v27) I
      · exact sim_X12_findLines_L82_J142 x1 x3 s7 s8 w13 1000000000000000 I
    · exact sim_X12_findLines_L82_J144 x1 x3 s5 s7 s8 w13 I
set_option maxRecDepth 100000 in
set_option maxHeartbeats 4000000 in
theorem sim_X12_findLines_L25 {b : Nat} {h0 : AH} (x1 : Int32) (a : Int32 × AH) (c : Int32 × MS) (r : (fun (a : Int32 × AH) (c : Int32 × MS) => a.1 = c.1 ∧ MK b h0 a.2 c.2) a c) : OS (SR (fun (a : Int32 × AH) (c : Int32 × MS) => a.1 = c.1 ∧ MK b h0 a.2 c.2) (fun (a : AH) (c : MS) => MK b h0 a c)) (f_X12_findLines_L25 b x1 a) (g_X12_findLines_L25 x1 c) := by
  obtain ⟨s3, hs⟩ := a
  obtain ⟨t3, Ms⟩ := c
  obtain ⟨e3, I⟩ := r
  dsimp only at e3 I
  subst e3
  unfold f_X12_findLines_L25 g_X12_findLines_L25
  try dsimp only
  refine OS.i (fun _ => ?_) (fun _ => ?_)
  · exact OS.ret (SR.r (I))
  · refine OS.f I.cl ?_
    refine OS.b (sim_X12_sungFrom x1 s3 I) (fun a c r => ?_)
    obtain ⟨w8, h6⟩ := a
    obtain ⟨w9, M6⟩ := c
    obtain ⟨e9, I⟩ := r
    dsimp only at e9 I ⊢
    subst e9
    refine OS.i (fun _ => ?_) (fun _ => ?_)
    · refine OS.b (OS.it (sim_X12_findLines_L82 x1 s3) 100000 _ _ ⟨rfl, rfl, rfl, I⟩) (fun e31 e32 r => ?_)
      obtain ⟨w33, w34, h35⟩ := e31
      obtain ⟨zw33, zw34, M35⟩ := e32
      obtain ⟨ew33, ew34, I⟩ := r
      dsimp only at ew33 ew34 I ⊢
      subst ew33
      subst ew34
      refine OS.f (I.gR 33 (by decide) (by decide)) ?_
      refine OS.b (I.stJ _ _) (fun h36 M36 I => ?_)
      refine OS.f (I.gR 34 (by decide) (by decide)) ?_
      refine OS.b (I.st 34 (by decide) (by decide) _ _) (fun h37 M37 I => ?_)
      exact OS.ret (SR.l ⟨rfl, I⟩)
    · refine OS.f (I.gR 33 (by decide) (by decide)) ?_
      refine OS.f (I.gR 33 (by decide) (by decide)) ?_
      refine OS.b (I.ldJ _) (fun v38 v39 e => ?_)
      subst e
      refine OS.b (I.stJ _ _) (fun h40 M40 I => ?_)
      refine OS.f (I.gR 34 (by decide) (by decide)) ?_
      refine OS.f (I.gR 34 (by decide) (by decide)) ?_
      refine OS.b (I.ld 34 (by decide) (by decide) _) (fun v41 v42 e => ?_)
      subst e
      refine OS.b (I.st 34 (by decide) (by decide) _ _) (fun h43 M43 I => ?_)
      exact OS.ret (SR.l ⟨rfl, I⟩)
set_option maxRecDepth 100000 in
set_option maxHeartbeats 4000000 in
theorem sim_X12_findLines {b : Nat} {h0 h : AH} {M : MS} (a1 : Int32) (I : MK b h0 h M) : OS (fun (a : AH) (c : MS) => MK b h0 a c) (f_X12_findLines b a1 h) (g_X12_findLines a1 M) := by
  unfold f_X12_findLines g_X12_findLines
  refine OS.f (I.gR 1 (by decide) (by decide)) ?_
  refine OS.b (I.ld 1 (by decide) (by decide) _) (fun v1 v2 e => ?_)
  subst e
  refine OS.f (I.gR 33 (by decide) (by decide)) ?_
  refine OS.b (I.stJ _ _) (fun h3 M3 I => ?_)
  refine OS.f (I.gR 34 (by decide) (by decide)) ?_
  refine OS.b (I.st 34 (by decide) (by decide) _ _) (fun h4 M4 I => ?_)
  refine OS.b (OS.it (sim_X12_findLines_L25 a1) 100000 _ _ ⟨rfl, I⟩) (fun e45 e46 r => ?_)
  have I := r
  generalize e45 = h47 at I ⊢
  generalize e46 = M47 at I ⊢
  exact OS.ret I
set_option maxRecDepth 100000 in
set_option maxHeartbeats 4000000 in
theorem sim_X12_restAll_L2 {b : Nat} {h0 : AH} (x1 : Int32) (x2 : Int32) (a : Int32 × AH) (c : Int32 × MS) (r : (fun (a : Int32 × AH) (c : Int32 × MS) => a.1 = c.1 ∧ MK b h0 a.2 c.2) a c) : OS (SR (fun (a : Int32 × AH) (c : Int32 × MS) => a.1 = c.1 ∧ MK b h0 a.2 c.2) (fun (a : AH) (c : MS) => MK b h0 a c)) (f_X12_restAll_L2 b x1 x2 a) (g_X12_restAll_L2 x1 x2 c) := by
  obtain ⟨s3, hs⟩ := a
  obtain ⟨t3, Ms⟩ := c
  obtain ⟨e3, I⟩ := r
  dsimp only at e3 I
  subst e3
  unfold f_X12_restAll_L2 g_X12_restAll_L2
  try dsimp only
  refine OS.f (I.gI 7 (by decide) (by decide) (by decide)) ?_
  refine OS.i (fun _ => ?_) (fun _ => ?_)
  · exact OS.ret (SR.r (I))
  · refine OS.f (I.gR 13 (by decide) (by decide)) ?_
    refine OS.b (I.ld 13 (by decide) (by decide) _) (fun v2 v3 e => ?_)
    subst e
    refine OS.f (I.gR 10 (by decide) (by decide)) ?_
    refine OS.b (I.ld 10 (by decide) (by decide) _) (fun v4 v5 e => ?_)
    subst e
    refine OS.f (I.gR 13 (by decide) (by decide)) ?_
    refine OS.f (I.gR 8 (by decide) (by decide)) ?_
    refine OS.b (I.ld 8 (by decide) (by decide) _) (fun v6 v7 e => ?_)
    subst e
    refine OS.i (fun _ => ?_) (fun _ => ?_)
    · refine OS.b (I.st 13 (by decide) (by decide) _ _) (fun h9 M9 I => ?_)
      exact OS.ret (SR.l ⟨rfl, I⟩)
    · refine OS.f (I.gR 8 (by decide) (by decide)) ?_
      refine OS.b (I.ld 8 (by decide) (by decide) _) (fun v10 v11 e => ?_)
      subst e
      refine OS.b (I.st 13 (by decide) (by decide) _ _) (fun h12 M12 I => ?_)
      exact OS.ret (SR.l ⟨rfl, I⟩)
set_option maxRecDepth 100000 in
set_option maxHeartbeats 4000000 in
theorem sim_X12_restAll {b : Nat} {h0 h : AH} {M : MS} (a1 : Int32) (a2 : Int32) (I : MK b h0 h M) : OS (fun (a : AH) (c : MS) => MK b h0 a c) (f_X12_restAll b a1 a2 h) (g_X12_restAll a1 a2 M) := by
  unfold f_X12_restAll g_X12_restAll
  refine OS.b (OS.it (sim_X12_restAll_L2 a1 a2) 100000 _ _ ⟨rfl, I⟩) (fun e14 e15 r => ?_)
  have I := r
  generalize e14 = h16 at I ⊢
  generalize e15 = M16 at I ⊢
  exact OS.ret I
set_option maxRecDepth 100000 in
set_option maxHeartbeats 4000000 in
theorem sim_X12_go_J80 {b : Nat} {h0 h : AH} {M : MS} (a1 : Int32) (a2 : Int32) (y3 : Int32) (z0 : Int32) (z1 : Int32) (z2 : Int32) (I : MK b h0 h M) : OS (fun (a : Int32 × AH) (c : Int32 × MS) => a.1 = c.1 ∧ MK b h0 a.2 c.2) (f_X12_go_J80 b a1 a2 y3 z0 z1 z2 (b + moff 29) h) (g_X12_go_J80 a1 a2 y3 z0 z1 z2 M) := by
  unfold f_X12_go_J80 g_X12_go_J80
  refine OS.b (I.st 29 (by decide) (by decide) _ _) (fun h16 M16 I => ?_)
  refine OS.i (fun _ => ?_) (fun _ => ?_)
  · exact OS.ret ⟨rfl, I⟩
  · exact OS.ret ⟨rfl, I⟩
set_option maxRecDepth 100000 in
set_option maxHeartbeats 4000000 in
theorem sim_X12_go_J23 {b : Nat} {h0 h : AH} {M : MS} (a1 : Int32) (a2 : Int32) (I : MK b h0 h M) : OS (fun (a : Int32 × AH) (c : Int32 × MS) => a.1 = c.1 ∧ MK b h0 a.2 c.2) (f_X12_go_J23 b a1 a2 h) (g_X12_go_J23 a1 a2 M) := by
  unfold f_X12_go_J23 g_X12_go_J23
  refine OS.f (I.gI 14 (by decide) (by decide) (by decide)) ?_
  refine OS.f (I.gR 23 (by decide) (by decide)) ?_
  refine OS.b (I.ld 23 (by decide) (by decide) _) (fun v4 v5 e => ?_)
  subst e
  refine OS.f (I.gR 24 (by decide) (by decide)) ?_
  refine OS.b (I.ld 24 (by decide) (by decide) _) (fun v6 v7 e => ?_)
  subst e
  refine OS.f (I.gR 25 (by decide) (by decide)) ?_
  refine OS.b (I.ld 25 (by decide) (by decide) _) (fun v8 v9 e => ?_)
  subst e
  refine OS.f I.cl ?_
  refine OS.b (sim_X12_work (a1 + 1) a2 (M.1 14) v4 v6 v8 0 I) (fun a c r => ?_)
  obtain ⟨w12, h10⟩ := a
  obtain ⟨w9, M10⟩ := c
  obtain ⟨e9, I⟩ := r
  dsimp only at e9 I ⊢
  subst e9
  refine OS.f (I.gR 29 (by decide) (by decide)) ?_
  refine OS.f (I.gR 29 (by decide) (by decide)) ?_
  refine OS.b (I.ld 29 (by decide) (by decide) _) (fun v13 v14 e => ?_)
  subst e
  refine OS.i (fun _ => ?_) (fun _ => ?_)
  · exact sim_X12_go_J80 a1 a2 w12 0 v13 (a1 + 1) I
  · refine OS.f (I.gI 26 (by decide) (by decide) (by decide)) ?_
    exact sim_X12_go_J80 a1 a2 w12 (M10.1 26) v13 (a1 + 1) I
set_option maxRecDepth 100000 in
set_option maxHeartbeats 4000000 in
theorem sim_X12_go {b : Nat} {h0 h : AH} {M : MS} (a1 : Int32) (a2 : Int32) (I : MK b h0 h M) : OS (fun (a : Int32 × AH) (c : Int32 × MS) => a.1 = c.1 ∧ MK b h0 a.2 c.2) (f_X12_go b a1 a2 h) (g_X12_go a1 a2 M) := by
  unfold f_X12_go g_X12_go
  refine OS.f I.cl ?_
  refine OS.b (sim_X12_carry a1 (a1 + 1) I) (fun h1 M1 I => ?_)
  refine OS.i (fun _ => ?_) (fun _ => ?_)
  · exact sim_X12_go_J23 a1 a2 I
  · refine OS.f (I.gI 26 (by decide) (by decide) (by decide)) ?_
    refine OS.f I.cl ?_
    refine OS.b (sim_X12_restAll (a1 + 1) (M1.1 26) I) (fun h18 M18 I => ?_)
    exact sim_X12_go_J23 a1 a2 I
set_option maxRecDepth 100000 in
set_option maxHeartbeats 4000000 in
theorem sim_X12_findPlan_L134 {b : Nat} {h0 : AH} (x1 : Int32) (x2 : Int32) (a : Int32 × AH) (c : Int32 × MS) (r : (fun (a : Int32 × AH) (c : Int32 × MS) => a.1 = c.1 ∧ MK b h0 a.2 c.2) a c) : OS (SR (fun (a : Int32 × AH) (c : Int32 × MS) => a.1 = c.1 ∧ MK b h0 a.2 c.2) (fun (a : AH) (c : MS) => MK b h0 a c)) (f_X12_findPlan_L134 b x1 x2 a) (g_X12_findPlan_L134 x1 x2 c) := by
  obtain ⟨s3, hs⟩ := a
  obtain ⟨t3, Ms⟩ := c
  obtain ⟨e3, I⟩ := r
  dsimp only at e3 I
  subst e3
  unfold f_X12_findPlan_L134 g_X12_findPlan_L134
  try dsimp only
  refine OS.f (I.gI 22 (by decide) (by decide) (by decide)) ?_
  refine OS.i (fun _ => ?_) (fun _ => ?_)
  · exact OS.ret (SR.r (I))
  · refine OS.f (I.gR 28 (by decide) (by decide)) ?_
    refine OS.f (I.gR 27 (by decide) (by decide)) ?_
    refine OS.b (I.ld 27 (by decide) (by decide) _) (fun v18 v19 e => ?_)
    subst e
    refine OS.b (I.st 28 (by decide) (by decide) _ _) (fun h20 M20 I => ?_)
    exact OS.ret (SR.l ⟨rfl, I⟩)
set_option maxRecDepth 100000 in
set_option maxHeartbeats 4000000 in
theorem sim_X12_findPlan_L18_J160 {b : Nat} {h0 h : AH} {M : MS} (y1 : Int32) (y2 : Int32) (I : MK b h0 h M) : OS (SR (fun (a : Int32 × Int32 × AH) (c : Int32 × Int32 × MS) => a.1 = c.1 ∧ a.2.1 = c.2.1 ∧ MK b h0 a.2.2 c.2.2) (fun (a : Int32 × AH) (c : Int32 × MS) => a.1 = c.1 ∧ MK b h0 a.2 c.2)) (f_X12_findPlan_L18_J160 b y1 y2 h) (g_X12_findPlan_L18_J160 y1 y2 M) := by
  unfold f_X12_findPlan_L18_J160 g_X12_findPlan_L18_J160
  refine OS.f (I.gR 27 (by decide) (by decide)) ?_
  refine OS.b (I.ld 27 (by decide) (by decide) _) (fun v25 v26 e => ?_)
  subst e
  refine OS.b (I.st 27 (by decide) (by decide) _ _) (fun h27 M27 I => ?_)
  exact OS.ret (SR.l ⟨rfl, rfl, I⟩)
set_option maxRecDepth 100000 in
set_option maxHeartbeats 4000000 in
theorem sim_X12_findPlan_L18_J122 {b : Nat} {h0 h : AH} {M : MS} (y2 : Int32) (I : MK b h0 h M) : OS (SR (fun (a : Int32 × Int32 × AH) (c : Int32 × Int32 × MS) => a.1 = c.1 ∧ a.2.1 = c.2.1 ∧ MK b h0 a.2.2 c.2.2) (fun (a : Int32 × AH) (c : Int32 × MS) => a.1 = c.1 ∧ MK b h0 a.2 c.2)) (f_X12_findPlan_L18_J122 b y2 h) (g_X12_findPlan_L18_J122 y2 M) := by
  unfold f_X12_findPlan_L18_J122 g_X12_findPlan_L18_J122
  refine OS.f (I.gR 29 (by decide) (by decide)) ?_
  refine OS.f (I.gI 22 (by decide) (by decide) (by decide)) ?_
  refine OS.b (I.ld 29 (by decide) (by decide) _) (fun v15 v16 e => ?_)
  subst e
  refine OS.b (OS.it (sim_X12_findPlan_L134 v15 y2) 100000 _ _ ⟨rfl, I⟩) (fun e22 e23 r => ?_)
  have I := r
  generalize e22 = h24 at I ⊢
  generalize e23 = M24 at I ⊢
  exact sim_X12_findPlan_L18_J160 v15 y2 I
set_option maxRecDepth 100000 in
set_option maxHeartbeats 4000000 in
theorem sim_X12_findPlan_L18 {b : Nat} {h0 : AH} (a : Int32 × Int32 × AH) (c : Int32 × Int32 × MS) (r : (fun (a : Int32 × Int32 × AH) (c : Int32 × Int32 × MS) => a.1 = c.1 ∧ a.2.1 = c.2.1 ∧ MK b h0 a.2.2 c.2.2) a c) : OS (SR (fun (a : Int32 × Int32 × AH) (c : Int32 × Int32 × MS) => a.1 = c.1 ∧ a.2.1 = c.2.1 ∧ MK b h0 a.2.2 c.2.2) (fun (a : Int32 × AH) (c : Int32 × MS) => a.1 = c.1 ∧ MK b h0 a.2 c.2)) (f_X12_findPlan_L18 b a) (g_X12_findPlan_L18 c) := by
  obtain ⟨s1, s2, hs⟩ := a
  obtain ⟨t1, t2, Ms⟩ := c
  obtain ⟨e1, e2, I⟩ := r
  dsimp only at e1 e2 I
  subst e1
  subst e2
  unfold f_X12_findPlan_L18 g_X12_findPlan_L18
  try dsimp only
  refine OS.i (fun _ => ?_) (fun _ => ?_)
  · exact OS.ret (SR.r (⟨rfl, I⟩))
  · refine OS.f (I.gR 27 (by decide) (by decide)) ?_
    refine OS.b (I.ld 27 (by decide) (by decide) _) (fun v4 v5 e => ?_)
    subst e
    refine OS.f (I.gI 0 (by decide) (by decide) (by decide)) ?_
    refine OS.i (fun _ => ?_) (fun _ => ?_)
    · refine OS.i (fun _ => ?_) (fun _ => ?_)
      · exact OS.ret (SR.l ⟨rfl, rfl, I⟩)
      · refine OS.f (I.gR 27 (by decide) (by decide)) ?_
        refine OS.b (I.ld 27 (by decide) (by decide) _) (fun v36 v37 e => ?_)
        subst e
        refine OS.b (I.st 27 (by decide) (by decide) _ _) (fun h38 M38 I => ?_)
        exact OS.ret (SR.l ⟨rfl, rfl, I⟩)
    · refine OS.f (I.gR 27 (by decide) (by decide)) ?_
      refine OS.b (I.ld 27 (by decide) (by decide) _) (fun v7 v8 e => ?_)
      subst e
      refine OS.f I.cl ?_
      refine OS.b (sim_X12_go s2 v7 I) (fun a c r => ?_)
      obtain ⟨w11, h9⟩ := a
      obtain ⟨w9, M9⟩ := c
      obtain ⟨e9, I⟩ := r
      dsimp only at e9 I ⊢
      subst e9
      refine OS.i (fun _ => ?_) (fun _ => ?_)
      · refine OS.f (I.gR 27 (by decide) (by decide)) ?_
        refine OS.b (I.ld 27 (by decide) (by decide) _) (fun v32 v33 e => ?_)
        subst e
        refine OS.b (I.st 27 (by decide) (by decide) _ _) (fun h34 M34 I => ?_)
        exact OS.ret (SR.l ⟨rfl, rfl, I⟩)
      · refine OS.f (I.gI 22 (by decide) (by decide) (by decide)) ?_
        refine OS.i (fun _ => ?_) (fun _ => ?_)
        · refine OS.i (fun _ => ?_) (fun _ => ?_)
          · exact sim_X12_findPlan_L18_J122 s2 I
          · refine OS.f (I.gR 29 (by decide) (by decide)) ?_
            refine OS.f (I.gI 22 (by decide) (by decide) (by decide)) ?_
            refine OS.b (I.ld 29 (by decide) (by decide) _) (fun v28 v29 e => ?_)
            subst e
            refine OS.i (fun _ => ?_) (fun _ => ?_)
            · exact sim_X12_findPlan_L18_J160 s1 s2 I
            · exact sim_X12_findPlan_L18_J122 s2 I
        · refine OS.f (I.gR 27 (by decide) (by decide)) ?_
          refine OS.b (I.st 27 (by decide) (by decide) _ _) (fun h31 M31 I => ?_)
          exact OS.ret (SR.l ⟨rfl, rfl, I⟩)
set_option maxRecDepth 100000 in
set_option maxHeartbeats 4000000 in
theorem sim_X12_findPlan {b : Nat} {h0 h : AH} {M : MS} (I : MK b h0 h M) : OS (fun (a : Int32 × AH) (c : Int32 × MS) => a.1 = c.1 ∧ MK b h0 a.2 c.2) (f_X12_findPlan b h) (g_X12_findPlan M) := by
  unfold f_X12_findPlan g_X12_findPlan
  refine OS.f (I.gR 29 (by decide) (by decide)) ?_
  refine OS.b (I.st 29 (by decide) (by decide) _ _) (fun h1 M1 I => ?_)
  refine OS.f (I.gR 27 (by decide) (by decide)) ?_
  refine OS.b (I.st 27 (by decide) (by decide) _ _) (fun h2 M2 I => ?_)
  refine OS.b (OS.it (sim_X12_findPlan_L18) 100000 _ _ ⟨rfl, rfl, I⟩) (fun e40 e41 r => ?_)
  obtain ⟨w42, h43⟩ := e40
  obtain ⟨zw42, M43⟩ := e41
  obtain ⟨ew42, I⟩ := r
  dsimp only at ew42 I ⊢
  subst ew42
  exact OS.ret ⟨rfl, I⟩
set_option maxRecDepth 100000 in
set_option maxHeartbeats 4000000 in
theorem sim_X12_findTree_L48_J89 {b : Nat} {h0 h : AH} {M : MS} (x1 : Int32) (x2 : Int32) (x6 : Int32) (y3 : Int32) (y4 : Int32) (y5 : Int32) (y7 : Int32) (z0 : Int32) (I : MK b h0 h M) : OS (SR (fun (a : Int32 × Int32 × Int32 × Int32 × AH) (c : Int32 × Int32 × Int32 × Int32 × MS) => a.1 = c.1 ∧ a.2.1 = c.2.1 ∧ a.2.2.1 = c.2.2.1 ∧ a.2.2.2.1 = c.2.2.2.1 ∧ MK b h0 a.2.2.2.2 c.2.2.2.2) (fun (a : Int32 × Int32 × Int32 × AH) (c : Int32 × Int32 × Int32 × MS) => a.1 = c.1 ∧ a.2.1 = c.2.1 ∧ a.2.2.1 = c.2.2.1 ∧ MK b h0 a.2.2.2 c.2.2.2)) (f_X12_findTree_L48_J89 b x1 x2 x6 y3 y4 y5 y7 z0 h) (g_X12_findTree_L48_J89 x1 x2 x6 y3 y4 y5 y7 z0 M) := by
  unfold f_X12_findTree_L48_J89 g_X12_findTree_L48_J89
  refine OS.i (fun _ => ?_) (fun _ => ?_)
  · exact OS.ret (SR.l ⟨rfl, rfl, rfl, rfl, I⟩)
  · exact OS.ret (SR.l ⟨rfl, rfl, rfl, rfl, I⟩)
set_option maxRecDepth 100000 in
set_option maxHeartbeats 4000000 in
theorem sim_X12_findTree_L48 {b : Nat} {h0 : AH} (x1 : Int32) (x2 : Int32) (x6 : Int32) (a : Int32 × Int32 × Int32 × Int32 × AH) (c : Int32 × Int32 × Int32 × Int32 × MS) (r : (fun (a : Int32 × Int32 × Int32 × Int32 × AH) (c : Int32 × Int32 × Int32 × Int32 × MS) => a.1 = c.1 ∧ a.2.1 = c.2.1 ∧ a.2.2.1 = c.2.2.1 ∧ a.2.2.2.1 = c.2.2.2.1 ∧ MK b h0 a.2.2.2.2 c.2.2.2.2) a c) : OS (SR (fun (a : Int32 × Int32 × Int32 × Int32 × AH) (c : Int32 × Int32 × Int32 × Int32 × MS) => a.1 = c.1 ∧ a.2.1 = c.2.1 ∧ a.2.2.1 = c.2.2.1 ∧ a.2.2.2.1 = c.2.2.2.1 ∧ MK b h0 a.2.2.2.2 c.2.2.2.2) (fun (a : Int32 × Int32 × Int32 × AH) (c : Int32 × Int32 × Int32 × MS) => a.1 = c.1 ∧ a.2.1 = c.2.1 ∧ a.2.2.1 = c.2.2.1 ∧ MK b h0 a.2.2.2 c.2.2.2)) (f_X12_findTree_L48 b x1 x2 x6 a) (g_X12_findTree_L48 x1 x2 x6 c) := by
  obtain ⟨s3, s4, s5, s7, hs⟩ := a
  obtain ⟨t3, t4, t5, t7, Ms⟩ := c
  obtain ⟨e3, e4, e5, e7, I⟩ := r
  dsimp only at e3 e4 e5 e7 I
  subst e3
  subst e4
  subst e5
  subst e7
  unfold f_X12_findTree_L48 g_X12_findTree_L48
  try dsimp only
  refine OS.f (I.gI 0 (by decide) (by decide) (by decide)) ?_
  refine OS.i (fun _ => ?_) (fun _ => ?_)
  · exact OS.ret (SR.r (⟨rfl, rfl, rfl, I⟩))
  · refine OS.i (fun _ => ?_) (fun _ => ?_)
    · refine OS.i (fun _ => ?_) (fun _ => ?_)
      · refine OS.f I.cl ?_
        refine OS.b (sim_X12_apartOf x6 s7 I) (fun a c r => ?_)
        obtain ⟨w12, h10⟩ := a
        obtain ⟨w9, M10⟩ := c
        obtain ⟨e9, I⟩ := r
        dsimp only at e9 I ⊢
        subst e9
        exact sim_X12_findTree_L48_J89 x1 x2 x6 s3 s4 s5 s7 w12 I
      · exact sim_X12_findTree_L48_J89 x1 x2 x6 s3 s4 s5 s7 1000000000 I
    · exact OS.ret (SR.r (⟨rfl, rfl, rfl, I⟩))
set_option maxRecDepth 100000 in
set_option maxHeartbeats 4000000 in
theorem sim_X12_findTree_L36 {b : Nat} {h0 : AH} (x1 : Int32) (x2 : Int32) (a : Int32 × Int32 × Int32 × Int32 × AH) (c : Int32 × Int32 × Int32 × Int32 × MS) (r : (fun (a : Int32 × Int32 × Int32 × Int32 × AH) (c : Int32 × Int32 × Int32 × Int32 × MS) => a.1 = c.1 ∧ a.2.1 = c.2.1 ∧ a.2.2.1 = c.2.2.1 ∧ a.2.2.2.1 = c.2.2.2.1 ∧ MK b h0 a.2.2.2.2 c.2.2.2.2) a c) : OS (SR (fun (a : Int32 × Int32 × Int32 × Int32 × AH) (c : Int32 × Int32 × Int32 × Int32 × MS) => a.1 = c.1 ∧ a.2.1 = c.2.1 ∧ a.2.2.1 = c.2.2.1 ∧ a.2.2.2.1 = c.2.2.2.1 ∧ MK b h0 a.2.2.2.2 c.2.2.2.2) (fun (a : Int32 × Int32 × Int32 × AH) (c : Int32 × Int32 × Int32 × MS) => a.1 = c.1 ∧ a.2.1 = c.2.1 ∧ a.2.2.1 = c.2.2.1 ∧ MK b h0 a.2.2.2 c.2.2.2)) (f_X12_findTree_L36 b x1 x2 a) (g_X12_findTree_L36 x1 x2 c) := by
  obtain ⟨s3, s4, s5, s6, hs⟩ := a
  obtain ⟨t3, t4, t5, t6, Ms⟩ := c
  obtain ⟨e3, e4, e5, e6, I⟩ := r
  dsimp only at e3 e4 e5 e6 I
  subst e3
  subst e4
  subst e5
  subst e6
  unfold f_X12_findTree_L36 g_X12_findTree_L36
  try dsimp only
  refine OS.f (I.gI 0 (by decide) (by decide) (by decide)) ?_
  refine OS.i (fun _ => ?_) (fun _ => ?_)
  · exact OS.ret (SR.r (⟨rfl, rfl, rfl, I⟩))
  · refine OS.b (OS.it (sim_X12_findTree_L48 x1 x2 s6) 100000 _ _ ⟨rfl, rfl, rfl, rfl, I⟩) (fun e14 e15 r => ?_)
    obtain ⟨w16, w17, w18, h19⟩ := e14
    obtain ⟨zw16, zw17, zw18, M19⟩ := e15
    obtain ⟨ew16, ew17, ew18, I⟩ := r
    dsimp only at ew16 ew17 ew18 I ⊢
    subst ew16
    subst ew17
    subst ew18
    exact OS.ret (SR.l ⟨rfl, rfl, rfl, rfl, I⟩)
set_option maxRecDepth 100000 in
set_option maxHeartbeats 4000000 in
theorem sim_X12_findTree_L16 {b : Nat} {h0 : AH} (a : Int32 × Int32 × AH) (c : Int32 × Int32 × MS) (r : (fun (a : Int32 × Int32 × AH) (c : Int32 × Int32 × MS) => a.1 = c.1 ∧ a.2.1 = c.2.1 ∧ MK b h0 a.2.2 c.2.2) a c) : OS (SR (fun (a : Int32 × Int32 × AH) (c : Int32 × Int32 × MS) => a.1 = c.1 ∧ a.2.1 = c.2.1 ∧ MK b h0 a.2.2 c.2.2) (fun (a : AH) (c : MS) => MK b h0 a c)) (f_X12_findTree_L16 b a) (g_X12_findTree_L16 c) := by
  obtain ⟨s1, s2, hs⟩ := a
  obtain ⟨t1, t2, Ms⟩ := c
  obtain ⟨e1, e2, I⟩ := r
  dsimp only at e1 e2 I
  subst e1
  subst e2
  unfold f_X12_findTree_L16 g_X12_findTree_L16
  try dsimp only
  refine OS.f (I.gI 0 (by decide) (by decide) (by decide)) ?_
  refine OS.i (fun _ => ?_) (fun _ => ?_)
  · exact OS.ret (SR.r (I))
  · refine OS.b (OS.it (sim_X12_findTree_L36 s1 s2) 100000 _ _ ⟨rfl, rfl, rfl, rfl, I⟩) (fun e21 e22 r => ?_)
    obtain ⟨w23, w24, w25, h26⟩ := e21
    obtain ⟨zw23, zw24, zw25, M26⟩ := e22
    obtain ⟨ew23, ew24, ew25, I⟩ := r
    dsimp only at ew23 ew24 ew25 I ⊢
    subst ew23
    subst ew24
    subst ew25
    refine OS.f (I.gR 44 (by decide) (by decide)) ?_
    refine OS.b (I.st 44 (by decide) (by decide) _ _) (fun h27 M27 I => ?_)
    refine OS.f (I.gI 45 (by decide) (by decide) (by decide)) ?_
    obtain ⟨h28, e29, I⟩ := I.pI 45 (by decide) (by decide) (by decide) ((M27.1 45) + w24)
    refine OS.f e29 ?_
    refine OS.g (w := msI M27 45 ((M27.1 45) + w24)) rfl ?_
    generalize msI M27 45 ((M27.1 45) + w24) = M28 at I ⊢
    exact OS.ret (SR.l ⟨rfl, rfl, I⟩)
set_option maxRecDepth 100000 in
set_option maxHeartbeats 4000000 in
theorem sim_X12_findTree {b : Nat} {h0 h : AH} {M : MS} (I : MK b h0 h M) : OS (fun (a : AH) (c : MS) => MK b h0 a c) (f_X12_findTree b h) (g_X12_findTree M) := by
  unfold f_X12_findTree g_X12_findTree
  obtain ⟨h1, e2, I⟩ := I.pI 45 (by decide) (by decide) (by decide) 0
  refine OS.f e2 ?_
  refine OS.g (w := msI M 45 0) rfl ?_
  generalize msI M 45 0 = M1 at I ⊢
  refine OS.f (I.gR 44 (by decide) (by decide)) ?_
  refine OS.b (I.st 44 (by decide) (by decide) _ _) (fun h3 M3 I => ?_)
  refine OS.b (OS.it (sim_X12_findTree_L16) 100000 _ _ ⟨rfl, rfl, I⟩) (fun e31 e32 r => ?_)
  have I := r
  generalize e31 = h33 at I ⊢
  generalize e32 = M33 at I ⊢
  exact OS.ret I
set_option maxRecDepth 100000 in
set_option maxHeartbeats 4000000 in
theorem sim_X12_floor {b : Nat} {h0 h : AH} {M : MS} (a1 : Int32) (I : MK b h0 h M) : OS (fun (a : Int32 × AH) (c : Int32 × MS) => a.1 = c.1 ∧ MK b h0 a.2 c.2) (f_X12_floor b a1 h) (g_X12_floor a1 M) := by
  unfold f_X12_floor g_X12_floor
  refine OS.b (sim_X12_in a1.toInt64 0 100 I) (fun a c r => ?_)
  obtain ⟨w3, h1⟩ := a
  obtain ⟨w9, M1⟩ := c
  obtain ⟨e9, I⟩ := r
  dsimp only at e9 I ⊢
  subst e9
  refine OS.i (fun _ => ?_) (fun _ => ?_)
  · exact OS.ret ⟨rfl, I⟩
  · refine OS.f (I.gI 15 (by decide) (by decide) (by decide)) ?_
    obtain ⟨h5, e6, I⟩ := I.pI 15 (by decide) (by decide) (by decide) a1
    refine OS.f e6 ?_
    refine OS.g (w := msI M1 15 a1) rfl ?_
    generalize msI M1 15 a1 = M5 at I ⊢
    exact OS.ret ⟨rfl, I⟩
set_option maxRecDepth 100000 in
set_option maxHeartbeats 4000000 in
theorem sim_X12_force {b : Nat} {h0 h : AH} {M : MS} (a1 : Int32) (I : MK b h0 h M) : OS (fun (a : Int32 × AH) (c : Int32 × MS) => a.1 = c.1 ∧ MK b h0 a.2 c.2) (f_X12_force b a1 h) (g_X12_force a1 M) := by
  unfold f_X12_force g_X12_force
  refine OS.i (fun _ => ?_) (fun _ => ?_)
  · refine OS.f (I.gI 16 (by decide) (by decide) (by decide)) ?_
    refine OS.i (fun _ => ?_) (fun _ => ?_)
    · exact OS.ret ⟨rfl, I⟩
    · refine OS.f (I.gR 18 (by decide) (by decide)) ?_
      refine OS.b (I.ld 18 (by decide) (by decide) _) (fun v3 v4 e => ?_)
      subst e
      exact OS.ret ⟨rfl, I⟩
  · exact OS.ret ⟨rfl, I⟩
set_option maxRecDepth 100000 in
set_option maxHeartbeats 4000000 in
theorem sim_X12_hand {b : Nat} {h0 h : AH} {M : MS} (a1 : Int32) (a2 : Int32) (a3 : Int32) (a4 : Int32) (I : MK b h0 h M) : OS (fun (a : Int32 × AH) (c : Int32 × MS) => a.1 = c.1 ∧ MK b h0 a.2 c.2) (f_X12_hand b a1 a2 a3 a4 h) (g_X12_hand a1 a2 a3 a4 M) := by
  unfold f_X12_hand g_X12_hand
  refine OS.b (sim_X12_in a1.toInt64 1 100 I) (fun a c r => ?_)
  obtain ⟨w3, h1⟩ := a
  obtain ⟨w9, M1⟩ := c
  obtain ⟨e9, I⟩ := r
  dsimp only at e9 I ⊢
  subst e9
  refine OS.i (fun _ => ?_) (fun _ => ?_)
  · exact OS.ret ⟨rfl, I⟩
  · refine OS.b (sim_X12_in a2.toInt64 0 30 I) (fun a c r => ?_)
    obtain ⟨w7, h5⟩ := a
    obtain ⟨w9, M5⟩ := c
    obtain ⟨e9, I⟩ := r
    dsimp only at e9 I ⊢
    subst e9
    refine OS.i (fun _ => ?_) (fun _ => ?_)
    · exact OS.ret ⟨rfl, I⟩
    · refine OS.b (sim_X12_in a3.toInt64 0 30 I) (fun a c r => ?_)
      obtain ⟨w11, h9⟩ := a
      obtain ⟨w9, M9⟩ := c
      obtain ⟨e9, I⟩ := r
      dsimp only at e9 I ⊢
      subst e9
      refine OS.i (fun _ => ?_) (fun _ => ?_)
      · exact OS.ret ⟨rfl, I⟩
      · refine OS.b (sim_X12_in a4.toInt64 0 30 I) (fun a c r => ?_)
        obtain ⟨w15, h13⟩ := a
        obtain ⟨w9, M13⟩ := c
        obtain ⟨e9, I⟩ := r
        dsimp only at e9 I ⊢
        subst e9
        refine OS.i (fun _ => ?_) (fun _ => ?_)
        · exact OS.ret ⟨rfl, I⟩
        · refine OS.f (I.gI 7 (by decide) (by decide) (by decide)) ?_
          refine OS.i (fun _ => ?_) (fun _ => ?_)
          · exact OS.ret ⟨rfl, I⟩
          · refine OS.f (I.gR 8 (by decide) (by decide)) ?_
            refine OS.f (I.gI 7 (by decide) (by decide) (by decide)) ?_
            refine OS.b (I.st 8 (by decide) (by decide) _ _) (fun h18 M18 I => ?_)
            refine OS.f (I.gR 9 (by decide) (by decide)) ?_
            refine OS.f (I.gI 7 (by decide) (by decide) (by decide)) ?_
            refine OS.b (I.st 9 (by decide) (by decide) _ _) (fun h19 M19 I => ?_)
            refine OS.f (I.gR 10 (by decide) (by decide)) ?_
            refine OS.f (I.gI 7 (by decide) (by decide) (by decide)) ?_
            refine OS.b (I.st 10 (by decide) (by decide) _ _) (fun h20 M20 I => ?_)
            refine OS.f (I.gR 11 (by decide) (by decide)) ?_
            refine OS.f (I.gI 7 (by decide) (by decide) (by decide)) ?_
            refine OS.b (I.st 11 (by decide) (by decide) _ _) (fun h21 M21 I => ?_)
            refine OS.f (I.gR 12 (by decide) (by decide)) ?_
            refine OS.f (I.gI 7 (by decide) (by decide) (by decide)) ?_
            refine OS.b (I.st 12 (by decide) (by decide) _ _) (fun h22 M22 I => ?_)
            refine OS.f (I.gR 13 (by decide) (by decide)) ?_
            refine OS.f (I.gI 7 (by decide) (by decide) (by decide)) ?_
            refine OS.b (I.st 13 (by decide) (by decide) _ _) (fun h23 M23 I => ?_)
            refine OS.f (I.gI 14 (by decide) (by decide) (by decide)) ?_
            refine OS.f (I.gI 7 (by decide) (by decide) (by decide)) ?_
            obtain ⟨h24, e25, I⟩ := I.pI 14 (by decide) (by decide) (by decide) ((M23.1 14) ||| (1 <<< ((M23.1 7) &&& 31)))
            refine OS.f e25 ?_
            refine OS.g (w := msI M23 14 ((M23.1 14) ||| (1 <<< ((M23.1 7) &&& 31)))) rfl ?_
            generalize msI M23 14 ((M23.1 14) ||| (1 <<< ((M23.1 7) &&& 31))) = M24 at I ⊢
            refine OS.f (I.gI 7 (by decide) (by decide) (by decide)) ?_
            obtain ⟨h26, e27, I⟩ := I.pI 7 (by decide) (by decide) (by decide) ((M24.1 7) + 1)
            refine OS.f e27 ?_
            refine OS.g (w := msI M24 7 ((M24.1 7) + 1)) rfl ?_
            generalize msI M24 7 ((M24.1 7) + 1) = M26 at I ⊢
            refine OS.f (I.gI 7 (by decide) (by decide) (by decide)) ?_
            exact OS.ret ⟨rfl, I⟩
set_option maxRecDepth 100000 in
set_option maxHeartbeats 4000000 in
theorem sim_X12_hangs {b : Nat} {h0 h : AH} {M : MS} (a1 : Int32) (I : MK b h0 h M) : OS (fun (a : Int32 × AH) (c : Int32 × MS) => a.1 = c.1 ∧ MK b h0 a.2 c.2) (f_X12_hangs b a1 h) (g_X12_hangs a1 M) := by
  unfold f_X12_hangs g_X12_hangs
  refine OS.f I.cl ?_
  refine OS.b (sim_X12_noSong a1 I) (fun a c r => ?_)
  obtain ⟨w3, h1⟩ := a
  obtain ⟨w9, M1⟩ := c
  obtain ⟨e9, I⟩ := r
  dsimp only at e9 I ⊢
  subst e9
  refine OS.i (fun _ => ?_) (fun _ => ?_)
  · refine OS.f I.cl ?_
    refine OS.b (sim_X12_findTree I) (fun h5 M5 I => ?_)
    refine OS.f (I.gR 44 (by decide) (by decide)) ?_
    refine OS.b (I.ld 44 (by decide) (by decide) _) (fun v7 v8 e => ?_)
    subst e
    exact OS.ret ⟨rfl, I⟩
  · exact OS.ret ⟨rfl, I⟩
set_option maxRecDepth 100000 in
set_option maxHeartbeats 4000000 in
theorem sim_X12_isTask {b : Nat} {h0 h : AH} {M : MS} (a0 : Int32) (a1 : Int32) (a2 : Int32) (I : MK b h0 h M) : OS (fun (a : Int32 × AH) (c : Int32 × MS) => a.1 = c.1 ∧ MK b h0 a.2 c.2) (f_X12_isTask a0 a1 a2 h) (g_X12_isTask a0 a1 a2 M) := by
  unfold f_X12_isTask g_X12_isTask
  refine OS.b (sim_X12_in a0.toInt64 1 3000 I) (fun a c r => ?_)
  obtain ⟨w3, h1⟩ := a
  obtain ⟨w9, M1⟩ := c
  obtain ⟨e9, I⟩ := r
  dsimp only at e9 I ⊢
  subst e9
  refine OS.i (fun _ => ?_) (fun _ => ?_)
  · exact OS.ret ⟨rfl, I⟩
  · refine OS.b (sim_X12_in a1.toInt64 0 1000 I) (fun a c r => ?_)
    obtain ⟨w7, h5⟩ := a
    obtain ⟨w9, M5⟩ := c
    obtain ⟨e9, I⟩ := r
    dsimp only at e9 I ⊢
    subst e9
    refine OS.i (fun _ => ?_) (fun _ => ?_)
    · exact OS.ret ⟨rfl, I⟩
    · refine OS.b (sim_X12_in a2.toInt64 0 50 I) (fun a c r => ?_)
      obtain ⟨w11, h9⟩ := a
      obtain ⟨w9, M9⟩ := c
      obtain ⟨e9, I⟩ := r
      dsimp only at e9 I ⊢
      subst e9
      refine OS.i (fun _ => ?_) (fun _ => ?_)
      · exact OS.ret ⟨rfl, I⟩
      · exact OS.ret ⟨rfl, I⟩
set_option maxRecDepth 100000 in
set_option maxHeartbeats 4000000 in
theorem sim_X12_haul {b : Nat} {h0 h : AH} {M : MS} (a1 : Int32) (a2 : Int32) (a3 : Int32) (a4 : Int32) (I : MK b h0 h M) : OS (fun (a : Int32 × AH) (c : Int32 × MS) => a.1 = c.1 ∧ MK b h0 a.2 c.2) (f_X12_haul b a1 a2 a3 a4 h) (g_X12_haul a1 a2 a3 a4 M) := by
  unfold f_X12_haul g_X12_haul
  refine OS.f I.cl ?_
  refine OS.b (sim_X12_noSong a1 I) (fun a c r => ?_)
  obtain ⟨w3, h1⟩ := a
  obtain ⟨w9, M1⟩ := c
  obtain ⟨e9, I⟩ := r
  dsimp only at e9 I ⊢
  subst e9
  refine OS.i (fun _ => ?_) (fun _ => ?_)
  · refine OS.b (sim_X12_isTask a2 a3 a4 I) (fun a c r => ?_)
    obtain ⟨w7, h5⟩ := a
    obtain ⟨w9, M5⟩ := c
    obtain ⟨e9, I⟩ := r
    dsimp only at e9 I ⊢
    subst e9
    refine OS.i (fun _ => ?_) (fun _ => ?_)
    · exact OS.ret ⟨rfl, I⟩
    · refine OS.f (I.gI 14 (by decide) (by decide) (by decide)) ?_
      refine OS.f I.cl ?_
      refine OS.b (sim_X12_work 0 a1 (M5.1 14) a2 a3 a4 1 I) (fun a c r => ?_)
      obtain ⟨w11, h9⟩ := a
      obtain ⟨w9, M9⟩ := c
      obtain ⟨e9, I⟩ := r
      dsimp only at e9 I ⊢
      subst e9
      refine OS.i (fun _ => ?_) (fun _ => ?_)
      · exact OS.ret ⟨rfl, I⟩
      · exact OS.ret ⟨rfl, I⟩
  · exact OS.ret ⟨rfl, I⟩
set_option maxRecDepth 100000 in
set_option maxHeartbeats 4000000 in
theorem sim_X12_isOf {b : Nat} {h0 h : AH} {M : MS} (a1 : Int32) (I : MK b h0 h M) : OS (fun (a : Int32 × AH) (c : Int32 × MS) => a.1 = c.1 ∧ MK b h0 a.2 c.2) (f_X12_isOf b a1 h) (g_X12_isOf a1 M) := by
  unfold f_X12_isOf g_X12_isOf
  refine OS.f (I.gI 14 (by decide) (by decide) (by decide)) ?_
  refine OS.i (fun _ => ?_) (fun _ => ?_)
  · exact OS.ret ⟨rfl, I⟩
  · exact OS.ret ⟨rfl, I⟩
set_option maxRecDepth 100000 in
set_option maxHeartbeats 4000000 in
theorem sim_X12_noHand {b : Nat} {h0 h : AH} {M : MS} (a1 : Int32) (I : MK b h0 h M) : OS (fun (a : Int32 × AH) (c : Int32 × MS) => a.1 = c.1 ∧ MK b h0 a.2 c.2) (f_X12_noHand b a1 h) (g_X12_noHand a1 M) := by
  unfold f_X12_noHand g_X12_noHand
  refine OS.f (I.gI 7 (by decide) (by decide) (by decide)) ?_
  refine OS.b (sim_X12_in a1.toInt64 0 (((M.1 7) - 1).toInt64) I) (fun a c r => ?_)
  obtain ⟨w3, h1⟩ := a
  obtain ⟨w9, M1⟩ := c
  obtain ⟨e9, I⟩ := r
  dsimp only at e9 I ⊢
  subst e9
  refine OS.i (fun _ => ?_) (fun _ => ?_)
  · exact OS.ret ⟨rfl, I⟩
  · exact OS.ret ⟨rfl, I⟩
set_option maxRecDepth 100000 in
set_option maxHeartbeats 4000000 in
theorem sim_X12_late {b : Nat} {h0 h : AH} {M : MS} (a1 : Int32) (a2 : Int32) (I : MK b h0 h M) : OS (fun (a : Int32 × AH) (c : Int32 × MS) => a.1 = c.1 ∧ MK b h0 a.2 c.2) (f_X12_late b a1 a2 h) (g_X12_late a1 a2 M) := by
  unfold f_X12_late g_X12_late
  refine OS.f I.cl ?_
  refine OS.b (sim_X12_noHand a1 I) (fun a c r => ?_)
  obtain ⟨w3, h1⟩ := a
  obtain ⟨w9, M1⟩ := c
  obtain ⟨e9, I⟩ := r
  dsimp only at e9 I ⊢
  subst e9
  refine OS.i (fun _ => ?_) (fun _ => ?_)
  · refine OS.b (sim_X12_in a2.toInt64 0 3 I) (fun a c r => ?_)
    obtain ⟨w7, h5⟩ := a
    obtain ⟨w9, M5⟩ := c
    obtain ⟨e9, I⟩ := r
    dsimp only at e9 I ⊢
    subst e9
    refine OS.i (fun _ => ?_) (fun _ => ?_)
    · exact OS.ret ⟨rfl, I⟩
    · refine OS.f (I.gR 12 (by decide) (by decide)) ?_
      refine OS.b (I.ld 12 (by decide) (by decide) _) (fun v9 v10 e => ?_)
      subst e
      refine OS.f (I.gR 12 (by decide) (by decide)) ?_
      refine OS.b (I.st 12 (by decide) (by decide) _ _) (fun h11 M11 I => ?_)
      exact OS.ret ⟨rfl, I⟩
  · exact OS.ret ⟨rfl, I⟩
set_option maxRecDepth 100000 in
set_option maxHeartbeats 4000000 in
theorem sim_X12_lineAt_L71_J137 {b : Nat} {h0 h : AH} {M : MS} (x1 : Int32) (x4 : Int32) (x7 : Int32) (x8 : Int32) (y9 : Int32) (y10 : Int32) (z0 : Int64) (z1 : Int64) (I : MK b h0 h M) : OS (SR (fun (a : Int64 × Int32 × Int32 × AH) (c : Int64 × Int32 × Int32 × MS) => a.1 = c.1 ∧ a.2.1 = c.2.1 ∧ a.2.2.1 = c.2.2.1 ∧ MK b h0 a.2.2.2 c.2.2.2) (fun (a : Int64 × Int32 × AH) (c : Int64 × Int32 × MS) => a.1 = c.1 ∧ a.2.1 = c.2.1 ∧ MK b h0 a.2.2 c.2.2)) (f_X12_lineAt_L71_J137 b x1 x4 x7 x8 y9 y10 z0 z1 h) (g_X12_lineAt_L71_J137 x1 x4 x7 x8 y9 y10 z0 z1 M) := by
  unfold f_X12_lineAt_L71_J137 g_X12_lineAt_L71_J137
  refine OS.i (fun _ => ?_) (fun _ => ?_)
  · exact OS.ret (SR.l ⟨rfl, rfl, rfl, I⟩)
  · exact OS.ret (SR.l ⟨rfl, rfl, rfl, I⟩)
set_option maxRecDepth 100000 in
set_option maxHeartbeats 4000000 in
theorem sim_X12_lineAt_L71_J122 {b : Nat} {h0 h : AH} {M : MS} (x1 : Int32) (x4 : Int32) (x7 : Int32) (x8 : Int32) (y5 : Int64) (y9 : Int32) (y11 : Int64) (z0 : Int32) (I : MK b h0 h M) : OS (SR (fun (a : Int64 × Int32 × Int32 × AH) (c : Int64 × Int32 × Int32 × MS) => a.1 = c.1 ∧ a.2.1 = c.2.1 ∧ a.2.2.1 = c.2.2.1 ∧ MK b h0 a.2.2.2 c.2.2.2) (fun (a : Int64 × Int32 × AH) (c : Int64 × Int32 × MS) => a.1 = c.1 ∧ a.2.1 = c.2.1 ∧ MK b h0 a.2.2 c.2.2)) (f_X12_lineAt_L71_J122 b x1 x4 x7 x8 y5 y9 y11 z0 h) (g_X12_lineAt_L71_J122 x1 x4 x7 x8 y5 y9 y11 z0 M) := by
  unfold f_X12_lineAt_L71_J122 g_X12_lineAt_L71_J122
  refine OS.i (fun _ => ?_) (fun _ => ?_)
  · exact sim_X12_lineAt_L71_J137 x1 x4 x7 x8 y9 z0 y11 y5 I
  · exact sim_X12_lineAt_L71_J137 x1 x4 x7 x8 y9 z0 0 y5 I
set_option maxRecDepth 100000 in
set_option maxHeartbeats 4000000 in
theorem sim_X12_lineAt_L71_J107 {b : Nat} {h0 h : AH} {M : MS} (x1 : Int32) (x4 : Int32) (x7 : Int32) (x8 : Int32) (y5 : Int64) (y9 : Int32) (z0 : Int64) (I : MK b h0 h M) : OS (SR (fun (a : Int64 × Int32 × Int32 × AH) (c : Int64 × Int32 × Int32 × MS) => a.1 = c.1 ∧ a.2.1 = c.2.1 ∧ a.2.2.1 = c.2.2.1 ∧ MK b h0 a.2.2.2 c.2.2.2) (fun (a : Int64 × Int32 × AH) (c : Int64 × Int32 × MS) => a.1 = c.1 ∧ a.2.1 = c.2.1 ∧ MK b h0 a.2.2 c.2.2)) (f_X12_lineAt_L71_J107 b x1 x4 x7 x8 y5 y9 z0 h) (g_X12_lineAt_L71_J107 x1 x4 x7 x8 y5 y9 z0 M) := by
  unfold f_X12_lineAt_L71_J107 g_X12_lineAt_L71_J107
  refine OS.i (fun _ => ?_) (fun _ => ?_)
  · exact sim_X12_lineAt_L71_J122 x1 x4 x7 x8 y5 y9 z0 0 I
  · exact sim_X12_lineAt_L71_J122 x1 x4 x7 x8 y5 y9 z0 1 I
set_option maxRecDepth 100000 in
set_option maxHeartbeats 4000000 in
theorem sim_X12_lineAt_L71 {b : Nat} {h0 : AH} (x1 : Int32) (x4 : Int32) (x7 : Int32) (x8 : Int32) (a : Int64 × Int32 × Int32 × AH) (c : Int64 × Int32 × Int32 × MS) (r : (fun (a : Int64 × Int32 × Int32 × AH) (c : Int64 × Int32 × Int32 × MS) => a.1 = c.1 ∧ a.2.1 = c.2.1 ∧ a.2.2.1 = c.2.2.1 ∧ MK b h0 a.2.2.2 c.2.2.2) a c) : OS (SR (fun (a : Int64 × Int32 × Int32 × AH) (c : Int64 × Int32 × Int32 × MS) => a.1 = c.1 ∧ a.2.1 = c.2.1 ∧ a.2.2.1 = c.2.2.1 ∧ MK b h0 a.2.2.2 c.2.2.2) (fun (a : Int64 × Int32 × AH) (c : Int64 × Int32 × MS) => a.1 = c.1 ∧ a.2.1 = c.2.1 ∧ MK b h0 a.2.2 c.2.2)) (f_X12_lineAt_L71 b x1 x4 x7 x8 a) (g_X12_lineAt_L71 x1 x4 x7 x8 c) := by
  obtain ⟨s5, s9, s10, hs⟩ := a
  obtain ⟨t5, t9, t10, Ms⟩ := c
  obtain ⟨e5, e9, e10, I⟩ := r
  dsimp only at e5 e9 e10 I
  subst e5
  subst e9
  subst e10
  unfold f_X12_lineAt_L71 g_X12_lineAt_L71
  try dsimp only
  refine OS.i (fun _ => ?_) (fun _ => ?_)
  · refine OS.f I.cl ?_
    refine OS.b (sim_X12_wrongOf x1 x7 s9 I) (fun a c r => ?_)
    obtain ⟨w21, h19⟩ := a
    obtain ⟨w9, M19⟩ := c
    obtain ⟨e9, I⟩ := r
    dsimp only at e9 I ⊢
    subst e9
    refine OS.i (fun _ => ?_) (fun _ => ?_)
    · refine OS.f (I.gR 33 (by decide) (by decide)) ?_
      refine OS.f (I.gR 31 (by decide) (by decide)) ?_
      refine OS.b (I.ld 31 (by decide) (by decide) _) (fun v26 v27 e => ?_)
      subst e
      refine OS.b (I.ldJ _) (fun v28 v29 e => ?_)
      subst e
      exact sim_X12_lineAt_L71_J107 x1 x4 x7 x8 s5 s9 v28 I
    · exact sim_X12_lineAt_L71_J107 x1 x4 x7 x8 s5 s9 0 I
  · exact OS.ret (SR.r (⟨rfl, rfl, I⟩))
set_option maxRecDepth 100000 in
set_option maxHeartbeats 4000000 in
theorem sim_X12_lineAt_L54 {b : Nat} {h0 : AH} (x1 : Int32) (x4 : Int32) (a : Int64 × Int32 × Int32 × AH) (c : Int64 × Int32 × Int32 × MS) (r : (fun (a : Int64 × Int32 × Int32 × AH) (c : Int64 × Int32 × Int32 × MS) => a.1 = c.1 ∧ a.2.1 = c.2.1 ∧ a.2.2.1 = c.2.2.1 ∧ MK b h0 a.2.2.2 c.2.2.2) a c) : OS (SR (fun (a : Int64 × Int32 × Int32 × AH) (c : Int64 × Int32 × Int32 × MS) => a.1 = c.1 ∧ a.2.1 = c.2.1 ∧ a.2.2.1 = c.2.2.1 ∧ MK b h0 a.2.2.2 c.2.2.2) (SR (fun (a : AH) (c : MS) => MK b h0 a c) (fun (a : Int32 × AH) (c : Int32 × MS) => a.1 = c.1 ∧ MK b h0 a.2 c.2))) (f_X12_lineAt_L54 b x1 x4 a) (g_X12_lineAt_L54 x1 x4 c) := by
  obtain ⟨s5, s7, s8, hs⟩ := a
  obtain ⟨t5, t7, t8, Ms⟩ := c
  obtain ⟨e5, e7, e8, I⟩ := r
  dsimp only at e5 e7 e8 I
  subst e5
  subst e7
  subst e8
  unfold f_X12_lineAt_L54 g_X12_lineAt_L54
  try dsimp only
  refine OS.f (I.gR 1 (by decide) (by decide)) ?_
  refine OS.b (I.ld 1 (by decide) (by decide) _) (fun v15 v16 e => ?_)
  subst e
  refine OS.i (fun _ => ?_) (fun _ => ?_)
  · exact OS.ret (SR.r (SR.l (I)))
  · refine OS.b (OS.it (sim_X12_lineAt_L71 x1 x4 s7 s8) 100000 _ _ ⟨rfl, rfl, rfl, I⟩) (fun e31 e32 r => ?_)
    obtain ⟨w33, w34, h35⟩ := e31
    obtain ⟨zw33, zw34, M35⟩ := e32
    obtain ⟨ew33, ew34, I⟩ := r
    dsimp only at ew33 ew34 I ⊢
    subst ew33
    subst ew34
    refine OS.i (fun _ => ?_) (fun _ => ?_)
    · exact OS.ret (SR.r (SR.r (⟨rfl, I⟩)))
    · refine OS.f (I.gR 31 (by decide) (by decide)) ?_
      refine OS.b (I.ld 31 (by decide) (by decide) _) (fun v37 v38 e => ?_)
      subst e
      refine OS.f I.cl ?_
      refine OS.b (sim_X12_sungFrom x1 (s7 + v37) I) (fun a c r => ?_)
      obtain ⟨w41, h39⟩ := a
      obtain ⟨w9, M39⟩ := c
      obtain ⟨e9, I⟩ := r
      dsimp only at e9 I ⊢
      subst e9
      exact OS.ret (SR.l ⟨rfl, rfl, rfl, I⟩)
set_option maxRecDepth 100000 in
set_option maxHeartbeats 4000000 in
theorem sim_X12_lineAt {b : Nat} {h0 h : AH} {M : MS} (a1 : Int32) (a2 : Int64) (a4 : Int32) (I : MK b h0 h M) : OS (fun (a : Int32 × AH) (c : Int32 × MS) => a.1 = c.1 ∧ MK b h0 a.2 c.2) (f_X12_lineAt b a1 a2 a4 h) (g_X12_lineAt a1 a2 a4 M) := by
  unfold f_X12_lineAt g_X12_lineAt
  refine OS.f I.cl ?_
  refine OS.b (sim_X12_noSong a1 I) (fun a c r => ?_)
  obtain ⟨w3, h1⟩ := a
  obtain ⟨w9, M1⟩ := c
  obtain ⟨e9, I⟩ := r
  dsimp only at e9 I ⊢
  subst e9
  refine OS.i (fun _ => ?_) (fun _ => ?_)
  · refine OS.i (fun _ => ?_) (fun _ => ?_)
    · exact OS.ret ⟨rfl, I⟩
    · refine OS.i (fun _ => ?_) (fun _ => ?_)
      · refine OS.f I.cl ?_
        refine OS.b (sim_X12_findLines a1 I) (fun h7 M7 I => ?_)
        refine OS.f (I.gR 33 (by decide) (by decide)) ?_
        refine OS.b (I.ldJ _) (fun v9 v10 e => ?_)
        subst e
        refine OS.i (fun _ => ?_) (fun _ => ?_)
        · refine OS.f I.cl ?_
          refine OS.b (sim_X12_sungFrom a1 0 I) (fun a c r => ?_)
          obtain ⟨w14, h12⟩ := a
          obtain ⟨w9, M12⟩ := c
          obtain ⟨e9, I⟩ := r
          dsimp only at e9 I ⊢
          subst e9
          refine OS.b (OS.it (sim_X12_lineAt_L54 a1 a4) 100000 _ _ ⟨rfl, rfl, rfl, I⟩) (fun e43 e44 r => ?_)
          cases e43 with
          | inl e45 =>
            cases e44 with
            | inl e47 =>
              have r : (fun (a : AH) (c : MS) => MK b h0 a c) e45 e47 := r
              simp only [Sum.elim_inl]
              have I := r
              generalize e45 = h49 at I ⊢
              generalize e47 = M49 at I ⊢
              exact OS.ret ⟨rfl, I⟩
            | inr e48 => exact r.elim
          | inr e46 =>
            cases e44 with
            | inl e47 => exact r.elim
            | inr e48 =>
              have r : (fun (a : Int32 × AH) (c : Int32 × MS) => a.1 = c.1 ∧ MK b h0 a.2 c.2) e46 e48 := r
              simp only [Sum.elim_inr]
              obtain ⟨w50, h51⟩ := e46
              obtain ⟨zw50, M51⟩ := e48
              obtain ⟨ew50, I⟩ := r
              dsimp only at ew50 I ⊢
              subst ew50
              exact OS.ret ⟨rfl, I⟩
        · exact OS.ret ⟨rfl, I⟩
      · exact OS.ret ⟨rfl, I⟩
  · exact OS.ret ⟨rfl, I⟩
set_option maxRecDepth 100000 in
set_option maxHeartbeats 4000000 in
theorem sim_X12_lines {b : Nat} {h0 h : AH} {M : MS} (a1 : Int32) (I : MK b h0 h M) : OS (fun (a : Int64 × AH) (c : Int64 × MS) => a.1 = c.1 ∧ MK b h0 a.2 c.2) (f_X12_lines b a1 h) (g_X12_lines a1 M) := by
  unfold f_X12_lines g_X12_lines
  refine OS.f I.cl ?_
  refine OS.b (sim_X12_noSong a1 I) (fun a c r => ?_)
  obtain ⟨w3, h1⟩ := a
  obtain ⟨w9, M1⟩ := c
  obtain ⟨e9, I⟩ := r
  dsimp only at e9 I ⊢
  subst e9
  refine OS.i (fun _ => ?_) (fun _ => ?_)
  · refine OS.f I.cl ?_
    refine OS.b (sim_X12_findLines a1 I) (fun h5 M5 I => ?_)
    refine OS.f (I.gR 33 (by decide) (by decide)) ?_
    refine OS.b (I.ldJ _) (fun v7 v8 e => ?_)
    subst e
    exact OS.ret ⟨rfl, I⟩
  · exact OS.ret ⟨rfl, I⟩
set_option maxRecDepth 100000 in
set_option maxHeartbeats 4000000 in
theorem sim_X12_mark {b : Nat} {h0 h : AH} {M : MS} (a1 : Int32) (a2 : Int32) (I : MK b h0 h M) : OS (fun (a : Int32 × AH) (c : Int32 × MS) => a.1 = c.1 ∧ MK b h0 a.2 c.2) (f_X12_mark b a1 a2 h) (g_X12_mark a1 a2 M) := by
  unfold f_X12_mark g_X12_mark
  refine OS.b (sim_X12_in a1.toInt64 0 299 I) (fun a c r => ?_)
  obtain ⟨w3, h1⟩ := a
  obtain ⟨w9, M1⟩ := c
  obtain ⟨e9, I⟩ := r
  dsimp only at e9 I ⊢
  subst e9
  refine OS.i (fun _ => ?_) (fun _ => ?_)
  · exact OS.ret ⟨rfl, I⟩
  · refine OS.b (sim_X12_in a2.toInt64 0 5000 I) (fun a c r => ?_)
    obtain ⟨w7, h5⟩ := a
    obtain ⟨w9, M5⟩ := c
    obtain ⟨e9, I⟩ := r
    dsimp only at e9 I ⊢
    subst e9
    refine OS.i (fun _ => ?_) (fun _ => ?_)
    · exact OS.ret ⟨rfl, I⟩
    · refine OS.f (I.gI 35 (by decide) (by decide) (by decide)) ?_
      refine OS.i (fun _ => ?_) (fun _ => ?_)
      · exact OS.ret ⟨rfl, I⟩
      · refine OS.f (I.gR 36 (by decide) (by decide)) ?_
        refine OS.f (I.gI 35 (by decide) (by decide) (by decide)) ?_
        refine OS.b (I.st 36 (by decide) (by decide) _ _) (fun h10 M10 I => ?_)
        refine OS.f (I.gR 37 (by decide) (by decide)) ?_
        refine OS.f (I.gI 35 (by decide) (by decide) (by decide)) ?_
        refine OS.b (I.st 37 (by decide) (by decide) _ _) (fun h11 M11 I => ?_)
        refine OS.f (I.gI 35 (by decide) (by decide) (by decide)) ?_
        obtain ⟨h12, e13, I⟩ := I.pI 35 (by decide) (by decide) (by decide) ((M11.1 35) + 1)
        refine OS.f e13 ?_
        refine OS.g (w := msI M11 35 ((M11.1 35) + 1)) rfl ?_
        generalize msI M11 35 ((M11.1 35) + 1) = M12 at I ⊢
        refine OS.f (I.gI 35 (by decide) (by decide) (by decide)) ?_
        exact OS.ret ⟨rfl, I⟩
set_option maxRecDepth 100000 in
set_option maxHeartbeats 4000000 in
theorem sim_X12_near {b : Nat} {h0 h : AH} {M : MS} (a1 : Int32) (I : MK b h0 h M) : OS (fun (a : Int32 × AH) (c : Int32 × MS) => a.1 = c.1 ∧ MK b h0 a.2 c.2) (f_X12_near b a1 h) (g_X12_near a1 M) := by
  unfold f_X12_near g_X12_near
  refine OS.f I.cl ?_
  refine OS.b (sim_X12_noSong a1 I) (fun a c r => ?_)
  obtain ⟨w3, h1⟩ := a
  obtain ⟨w9, M1⟩ := c
  obtain ⟨e9, I⟩ := r
  dsimp only at e9 I ⊢
  subst e9
  refine OS.i (fun _ => ?_) (fun _ => ?_)
  · refine OS.f I.cl ?_
    refine OS.b (sim_X12_findLines a1 I) (fun h5 M5 I => ?_)
    refine OS.f (I.gR 34 (by decide) (by decide)) ?_
    refine OS.b (I.ld 34 (by decide) (by decide) _) (fun v7 v8 e => ?_)
    subst e
    refine OS.i (fun _ => ?_) (fun _ => ?_)
    · refine OS.f (I.gR 34 (by decide) (by decide)) ?_
      refine OS.b (I.ld 34 (by decide) (by decide) _) (fun v10 v11 e => ?_)
      subst e
      exact OS.ret ⟨rfl, I⟩
    · exact OS.ret ⟨rfl, I⟩
  · exact OS.ret ⟨rfl, I⟩
set_option maxRecDepth 100000 in
set_option maxHeartbeats 4000000 in
theorem sim_X12_nearAt_L56 {b : Nat} {h0 : AH} (x1 : Int32) (x2 : Int32) (x3 : Int32) (x4 : Int32) (a : Int32 × AH) (c : Int32 × MS) (r : (fun (a : Int32 × AH) (c : Int32 × MS) => a.1 = c.1 ∧ MK b h0 a.2 c.2) a c) : OS (SR (fun (a : Int32 × AH) (c : Int32 × MS) => a.1 = c.1 ∧ MK b h0 a.2 c.2) (fun (a : Int32 × AH) (c : Int32 × MS) => a.1 = c.1 ∧ MK b h0 a.2 c.2)) (f_X12_nearAt_L56 b x1 x2 x3 x4 a) (g_X12_nearAt_L56 x1 x2 x3 x4 c) := by
  obtain ⟨s5, hs⟩ := a
  obtain ⟨t5, Ms⟩ := c
  obtain ⟨e5, I⟩ := r
  dsimp only at e5 I
  subst e5
  unfold f_X12_nearAt_L56 g_X12_nearAt_L56
  try dsimp only
  refine OS.f I.cl ?_
  refine OS.b (sim_X12_wrongOf x1 x3 s5 I) (fun a c r => ?_)
  obtain ⟨w19, h17⟩ := a
  obtain ⟨w9, M17⟩ := c
  obtain ⟨e9, I⟩ := r
  dsimp only at e9 I ⊢
  subst e9
  refine OS.i (fun _ => ?_) (fun _ => ?_)
  · exact OS.ret (SR.l ⟨rfl, I⟩)
  · refine OS.f I.cl ?_
    refine OS.b (sim_X12_wrongOf x1 x3 s5 I) (fun a c r => ?_)
    obtain ⟨w23, h21⟩ := a
    obtain ⟨w9, M21⟩ := c
    obtain ⟨e9, I⟩ := r
    dsimp only at e9 I ⊢
    subst e9
    refine OS.f (I.gR 34 (by decide) (by decide)) ?_
    refine OS.f (I.gR 31 (by decide) (by decide)) ?_
    refine OS.b (I.ld 31 (by decide) (by decide) _) (fun v24 v25 e => ?_)
    subst e
    refine OS.b (I.ld 34 (by decide) (by decide) _) (fun v26 v27 e => ?_)
    subst e
    refine OS.f (I.gR 34 (by decide) (by decide)) ?_
    refine OS.b (I.ld 34 (by decide) (by decide) _) (fun v28 v29 e => ?_)
    subst e
    refine OS.i (fun _ => ?_) (fun _ => ?_)
    · exact OS.ret (SR.r (⟨rfl, I⟩))
    · exact OS.ret (SR.l ⟨rfl, I⟩)
set_option maxRecDepth 100000 in
set_option maxHeartbeats 4000000 in
theorem sim_X12_nearAt_L43 {b : Nat} {h0 : AH} (x1 : Int32) (x2 : Int32) (a : Int32 × Int32 × AH) (c : Int32 × Int32 × MS) (r : (fun (a : Int32 × Int32 × AH) (c : Int32 × Int32 × MS) => a.1 = c.1 ∧ a.2.1 = c.2.1 ∧ MK b h0 a.2.2 c.2.2) a c) : OS (SR (fun (a : Int32 × Int32 × AH) (c : Int32 × Int32 × MS) => a.1 = c.1 ∧ a.2.1 = c.2.1 ∧ MK b h0 a.2.2 c.2.2) (SR (fun (a : AH) (c : MS) => MK b h0 a c) (fun (a : Int32 × AH) (c : Int32 × MS) => a.1 = c.1 ∧ MK b h0 a.2 c.2))) (f_X12_nearAt_L43 b x1 x2 a) (g_X12_nearAt_L43 x1 x2 c) := by
  obtain ⟨s3, s4, hs⟩ := a
  obtain ⟨t3, t4, Ms⟩ := c
  obtain ⟨e3, e4, I⟩ := r
  dsimp only at e3 e4 I
  subst e3
  subst e4
  unfold f_X12_nearAt_L43 g_X12_nearAt_L43
  try dsimp only
  refine OS.f (I.gR 1 (by decide) (by decide)) ?_
  refine OS.b (I.ld 1 (by decide) (by decide) _) (fun v14 v15 e => ?_)
  subst e
  refine OS.i (fun _ => ?_) (fun _ => ?_)
  · exact OS.ret (SR.r (SR.l (I)))
  · refine OS.b (OS.it (sim_X12_nearAt_L56 x1 x2 s3 s4) 100000 _ _ ⟨rfl, I⟩) (fun e32 e33 r => ?_)
    obtain ⟨w34, h35⟩ := e32
    obtain ⟨zw34, M35⟩ := e33
    obtain ⟨ew34, I⟩ := r
    dsimp only at ew34 I ⊢
    subst ew34
    refine OS.i (fun _ => ?_) (fun _ => ?_)
    · exact OS.ret (SR.r (SR.r (⟨rfl, I⟩)))
    · refine OS.f (I.gR 31 (by decide) (by decide)) ?_
      refine OS.b (I.ld 31 (by decide) (by decide) _) (fun v37 v38 e => ?_)
      subst e
      refine OS.f I.cl ?_
      refine OS.b (sim_X12_sungFrom x1 (s3 + v37) I) (fun a c r => ?_)
      obtain ⟨w41, h39⟩ := a
      obtain ⟨w9, M39⟩ := c
      obtain ⟨e9, I⟩ := r
      dsimp only at e9 I ⊢
      subst e9
      exact OS.ret (SR.l ⟨rfl, rfl, I⟩)
set_option maxRecDepth 100000 in
set_option maxHeartbeats 4000000 in
theorem sim_X12_nearAt {b : Nat} {h0 h : AH} {M : MS} (a1 : Int32) (a2 : Int32) (I : MK b h0 h M) : OS (fun (a : Int32 × AH) (c : Int32 × MS) => a.1 = c.1 ∧ MK b h0 a.2 c.2) (f_X12_nearAt b a1 a2 h) (g_X12_nearAt a1 a2 M) := by
  unfold f_X12_nearAt g_X12_nearAt
  refine OS.f I.cl ?_
  refine OS.b (sim_X12_noSong a1 I) (fun a c r => ?_)
  obtain ⟨w3, h1⟩ := a
  obtain ⟨w9, M1⟩ := c
  obtain ⟨e9, I⟩ := r
  dsimp only at e9 I ⊢
  subst e9
  refine OS.i (fun _ => ?_) (fun _ => ?_)
  · refine OS.i (fun _ => ?_) (fun _ => ?_)
    · refine OS.f I.cl ?_
      refine OS.b (sim_X12_findLines a1 I) (fun h6 M6 I => ?_)
      refine OS.f (I.gR 34 (by decide) (by decide)) ?_
      refine OS.b (I.ld 34 (by decide) (by decide) _) (fun v8 v9 e => ?_)
      subst e
      refine OS.i (fun _ => ?_) (fun _ => ?_)
      · refine OS.f I.cl ?_
        refine OS.b (sim_X12_sungFrom a1 0 I) (fun a c r => ?_)
        obtain ⟨w13, h11⟩ := a
        obtain ⟨w9, M11⟩ := c
        obtain ⟨e9, I⟩ := r
        dsimp only at e9 I ⊢
        subst e9
        refine OS.b (OS.it (sim_X12_nearAt_L43 a1 a2) 100000 _ _ ⟨rfl, rfl, I⟩) (fun e43 e44 r => ?_)
        cases e43 with
        | inl e45 =>
          cases e44 with
          | inl e47 =>
            have r : (fun (a : AH) (c : MS) => MK b h0 a c) e45 e47 := r
            simp only [Sum.elim_inl]
            have I := r
            generalize e45 = h49 at I ⊢
            generalize e47 = M49 at I ⊢
            exact OS.ret ⟨rfl, I⟩
          | inr e48 => exact r.elim
        | inr e46 =>
          cases e44 with
          | inl e47 => exact r.elim
          | inr e48 =>
            have r : (fun (a : Int32 × AH) (c : Int32 × MS) => a.1 = c.1 ∧ MK b h0 a.2 c.2) e46 e48 := r
            simp only [Sum.elim_inr]
            obtain ⟨w50, h51⟩ := e46
            obtain ⟨zw50, M51⟩ := e48
            obtain ⟨ew50, I⟩ := r
            dsimp only at ew50 I ⊢
            subst ew50
            exact OS.ret ⟨rfl, I⟩
      · exact OS.ret ⟨rfl, I⟩
    · exact OS.ret ⟨rfl, I⟩
  · exact OS.ret ⟨rfl, I⟩
set_option maxRecDepth 100000 in
set_option maxHeartbeats 4000000 in
theorem sim_X12_now {b : Nat} {h0 h : AH} {M : MS} (a1 : Int32) (I : MK b h0 h M) : OS (fun (a : Int32 × AH) (c : Int32 × MS) => a.1 = c.1 ∧ MK b h0 a.2 c.2) (f_X12_now b a1 h) (g_X12_now a1 M) := by
  unfold f_X12_now g_X12_now
  refine OS.f I.cl ?_
  refine OS.b (sim_X12_noHand a1 I) (fun a c r => ?_)
  obtain ⟨w3, h1⟩ := a
  obtain ⟨w9, M1⟩ := c
  obtain ⟨e9, I⟩ := r
  dsimp only at e9 I ⊢
  subst e9
  refine OS.i (fun _ => ?_) (fun _ => ?_)
  · refine OS.f (I.gR 13 (by decide) (by decide)) ?_
    refine OS.b (I.ld 13 (by decide) (by decide) _) (fun v5 v6 e => ?_)
    subst e
    exact OS.ret ⟨rfl, I⟩
  · exact OS.ret ⟨rfl, I⟩
set_option maxRecDepth 100000 in
set_option maxHeartbeats 4000000 in
theorem sim_X12_pause_L25_J54 {b : Nat} {h0 h : AH} {M : MS} (y3 : Int32) (z0 : Int32) (z1 : Int32) (I : MK b h0 h M) : OS (SR (fun (a : Int32 × Int32 × AH) (c : Int32 × Int32 × MS) => a.1 = c.1 ∧ a.2.1 = c.2.1 ∧ MK b h0 a.2.2 c.2.2) (fun (a : Int32 × AH) (c : Int32 × MS) => a.1 = c.1 ∧ MK b h0 a.2 c.2)) (f_X12_pause_L25_J54 b y3 z0 z1 h) (g_X12_pause_L25_J54 y3 z0 z1 M) := by
  unfold f_X12_pause_L25_J54 g_X12_pause_L25_J54
  refine OS.b (sim_X12_bit z0 I) (fun a c r => ?_)
  obtain ⟨w15, h13⟩ := a
  obtain ⟨w9, M13⟩ := c
  obtain ⟨e9, I⟩ := r
  dsimp only at e9 I ⊢
  subst e9
  exact OS.ret (SR.l ⟨rfl, rfl, I⟩)
set_option maxRecDepth 100000 in
set_option maxHeartbeats 4000000 in
theorem sim_X12_pause_L25 {b : Nat} {h0 : AH} (a : Int32 × Int32 × AH) (c : Int32 × Int32 × MS) (r : (fun (a : Int32 × Int32 × AH) (c : Int32 × Int32 × MS) => a.1 = c.1 ∧ a.2.1 = c.2.1 ∧ MK b h0 a.2.2 c.2.2) a c) : OS (SR (fun (a : Int32 × Int32 × AH) (c : Int32 × Int32 × MS) => a.1 = c.1 ∧ a.2.1 = c.2.1 ∧ MK b h0 a.2.2 c.2.2) (fun (a : Int32 × AH) (c : Int32 × MS) => a.1 = c.1 ∧ MK b h0 a.2 c.2)) (f_X12_pause_L25 b a) (g_X12_pause_L25 c) := by
  obtain ⟨s2, s3, hs⟩ := a
  obtain ⟨t2, t3, Ms⟩ := c
  obtain ⟨e2, e3, I⟩ := r
  dsimp only at e2 e3 I
  subst e2
  subst e3
  unfold f_X12_pause_L25 g_X12_pause_L25
  try dsimp only
  refine OS.f (I.gI 7 (by decide) (by decide) (by decide)) ?_
  refine OS.i (fun _ => ?_) (fun _ => ?_)
  · exact OS.ret (SR.r (⟨rfl, I⟩))
  · refine OS.f (I.gR 13 (by decide) (by decide)) ?_
    refine OS.b (I.ld 13 (by decide) (by decide) _) (fun v8 v9 e => ?_)
    subst e
    refine OS.f (I.gR 8 (by decide) (by decide)) ?_
    refine OS.b (I.ld 8 (by decide) (by decide) _) (fun v10 v11 e => ?_)
    subst e
    refine OS.i (fun _ => ?_) (fun _ => ?_)
    · exact sim_X12_pause_L25_J54 s3 1 s2 I
    · exact sim_X12_pause_L25_J54 s3 0 s2 I
set_option maxRecDepth 100000 in
set_option maxHeartbeats 4000000 in
theorem sim_X12_pause {b : Nat} {h0 h : AH} {M : MS} (a1 : Int32) (I : MK b h0 h M) : OS (fun (a : Int32 × AH) (c : Int32 × MS) => a.1 = c.1 ∧ MK b h0 a.2 c.2) (f_X12_pause b a1 h) (g_X12_pause a1 M) := by
  unfold f_X12_pause g_X12_pause
  refine OS.b (sim_X12_in a1.toInt64 0 100 I) (fun a c r => ?_)
  obtain ⟨w3, h1⟩ := a
  obtain ⟨w9, M1⟩ := c
  obtain ⟨e9, I⟩ := r
  dsimp only at e9 I ⊢
  subst e9
  refine OS.i (fun _ => ?_) (fun _ => ?_)
  · exact OS.ret ⟨rfl, I⟩
  · refine OS.f I.cl ?_
    refine OS.b (sim_X12_restAll 0 a1 I) (fun h5 M5 I => ?_)
    refine OS.b (OS.it (sim_X12_pause_L25) 100000 _ _ ⟨rfl, rfl, I⟩) (fun e17 e18 r => ?_)
    obtain ⟨w19, h20⟩ := e17
    obtain ⟨zw19, M20⟩ := e18
    obtain ⟨ew19, I⟩ := r
    dsimp only at ew19 I ⊢
    subst ew19
    exact OS.ret ⟨rfl, I⟩
set_option maxRecDepth 100000 in
set_option maxHeartbeats 4000000 in
theorem sim_X12_plan {b : Nat} {h0 h : AH} {M : MS} (I : MK b h0 h M) : OS (fun (a : Int32 × AH) (c : Int32 × MS) => a.1 = c.1 ∧ MK b h0 a.2 c.2) (f_X12_plan b h) (g_X12_plan M) := by
  unfold f_X12_plan g_X12_plan
  refine OS.f (I.gI 22 (by decide) (by decide) (by decide)) ?_
  refine OS.i (fun _ => ?_) (fun _ => ?_)
  · exact OS.ret ⟨rfl, I⟩
  · refine OS.f (I.gI 0 (by decide) (by decide) (by decide)) ?_
    refine OS.i (fun _ => ?_) (fun _ => ?_)
    · exact OS.ret ⟨rfl, I⟩
    · refine OS.f I.cl ?_
      refine OS.b (sim_X12_findPlan I) (fun a c r => ?_)
      obtain ⟨w5, h3⟩ := a
      obtain ⟨w9, M3⟩ := c
      obtain ⟨e9, I⟩ := r
      dsimp only at e9 I ⊢
      subst e9
      exact OS.ret ⟨rfl, I⟩
set_option maxRecDepth 100000 in
set_option maxHeartbeats 4000000 in
theorem sim_X12_planAt {b : Nat} {h0 h : AH} {M : MS} (a1 : Int32) (I : MK b h0 h M) : OS (fun (a : Int32 × AH) (c : Int32 × MS) => a.1 = c.1 ∧ MK b h0 a.2 c.2) (f_X12_planAt b a1 h) (g_X12_planAt a1 M) := by
  unfold f_X12_planAt g_X12_planAt
  refine OS.f (I.gI 22 (by decide) (by decide) (by decide)) ?_
  refine OS.b (sim_X12_in a1.toInt64 0 (((M.1 22) - 1).toInt64) I) (fun a c r => ?_)
  obtain ⟨w3, h1⟩ := a
  obtain ⟨w9, M1⟩ := c
  obtain ⟨e9, I⟩ := r
  dsimp only at e9 I ⊢
  subst e9
  refine OS.i (fun _ => ?_) (fun _ => ?_)
  · exact OS.ret ⟨rfl, I⟩
  · refine OS.f (I.gI 0 (by decide) (by decide) (by decide)) ?_
    refine OS.i (fun _ => ?_) (fun _ => ?_)
    · exact OS.ret ⟨rfl, I⟩
    · refine OS.f I.cl ?_
      refine OS.b (sim_X12_findPlan I) (fun a c r => ?_)
      obtain ⟨w8, h6⟩ := a
      obtain ⟨w9, M6⟩ := c
      obtain ⟨e9, I⟩ := r
      dsimp only at e9 I ⊢
      subst e9
      refine OS.i (fun _ => ?_) (fun _ => ?_)
      · exact OS.ret ⟨rfl, I⟩
      · refine OS.f (I.gR 28 (by decide) (by decide)) ?_
        refine OS.b (I.ld 28 (by decide) (by decide) _) (fun v10 v11 e => ?_)
        subst e
        exact OS.ret ⟨rfl, I⟩
set_option maxRecDepth 100000 in
set_option maxHeartbeats 4000000 in
theorem sim_X12_refrain_L25 {b : Nat} {h0 : AH} (x1 : Int32) (a : Int32 × AH) (c : Int32 × MS) (r : (fun (a : Int32 × AH) (c : Int32 × MS) => a.1 = c.1 ∧ MK b h0 a.2 c.2) a c) : OS (SR (fun (a : Int32 × AH) (c : Int32 × MS) => a.1 = c.1 ∧ MK b h0 a.2 c.2) (fun (a : AH) (c : MS) => MK b h0 a c)) (f_X12_refrain_L25 b x1 a) (g_X12_refrain_L25 x1 c) := by
  obtain ⟨s2, hs⟩ := a
  obtain ⟨t2, Ms⟩ := c
  obtain ⟨e2, I⟩ := r
  dsimp only at e2 I
  subst e2
  unfold f_X12_refrain_L25 g_X12_refrain_L25
  try dsimp only
  refine OS.f (I.gI 5 (by decide) (by decide) (by decide)) ?_
  refine OS.i (fun _ => ?_) (fun _ => ?_)
  · exact OS.ret (SR.r (I))
  · refine OS.f (I.gR 4 (by decide) (by decide)) ?_
    refine OS.f (I.gR 6 (by decide) (by decide)) ?_
    refine OS.b (I.ld 6 (by decide) (by decide) _) (fun v7 v8 e => ?_)
    subst e
    refine OS.b (I.st 4 (by decide) (by decide) _ _) (fun h9 M9 I => ?_)
    exact OS.ret (SR.l ⟨rfl, I⟩)
set_option maxRecDepth 100000 in
set_option maxHeartbeats 4000000 in
theorem sim_X12_refrain {b : Nat} {h0 h : AH} {M : MS} (a1 : Int32) (I : MK b h0 h M) : OS (fun (a : Int32 × AH) (c : Int32 × MS) => a.1 = c.1 ∧ MK b h0 a.2 c.2) (f_X12_refrain b a1 h) (g_X12_refrain a1 M) := by
  unfold f_X12_refrain g_X12_refrain
  refine OS.f I.cl ?_
  refine OS.b (sim_X12_noSong a1 I) (fun a c r => ?_)
  obtain ⟨w3, h1⟩ := a
  obtain ⟨w9, M1⟩ := c
  obtain ⟨e9, I⟩ := r
  dsimp only at e9 I ⊢
  subst e9
  refine OS.i (fun _ => ?_) (fun _ => ?_)
  · refine OS.f (I.gI 5 (by decide) (by decide) (by decide)) ?_
    refine OS.i (fun _ => ?_) (fun _ => ?_)
    · refine OS.b (OS.it (sim_X12_refrain_L25 a1) 100000 _ _ ⟨rfl, I⟩) (fun e11 e12 r => ?_)
      have I := r
      generalize e11 = h13 at I ⊢
      generalize e12 = M13 at I ⊢
      refine OS.f (I.gR 2 (by decide) (by decide)) ?_
      refine OS.f (I.gI 5 (by decide) (by decide) (by decide)) ?_
      refine OS.b (I.st 2 (by decide) (by decide) _ _) (fun h14 M14 I => ?_)
      obtain ⟨h15, e16, I⟩ := I.pI 5 (by decide) (by decide) (by decide) 0
      refine OS.f e16 ?_
      refine OS.g (w := msI M14 5 0) rfl ?_
      generalize msI M14 5 0 = M15 at I ⊢
      refine OS.f (I.gR 2 (by decide) (by decide)) ?_
      refine OS.b (I.ld 2 (by decide) (by decide) _) (fun v17 v18 e => ?_)
      subst e
      exact OS.ret ⟨rfl, I⟩
    · exact OS.ret ⟨rfl, I⟩
  · exact OS.ret ⟨rfl, I⟩
set_option maxRecDepth 100000 in
set_option maxHeartbeats 4000000 in
theorem sim_X12_rest {b : Nat} {h0 h : AH} {M : MS} (I : MK b h0 h M) : OS (fun (a : Int32 × AH) (c : Int32 × MS) => a.1 = c.1 ∧ MK b h0 a.2 c.2) (f_X12_rest b h) (g_X12_rest M) := by
  unfold f_X12_rest g_X12_rest
  refine OS.f (I.gI 5 (by decide) (by decide) (by decide)) ?_
  obtain ⟨h1, e2, I⟩ := I.pI 5 (by decide) (by decide) (by decide) 0
  refine OS.f e2 ?_
  refine OS.g (w := msI M 5 0) rfl ?_
  generalize msI M 5 0 = M1 at I ⊢
  exact OS.ret ⟨rfl, I⟩
set_option maxRecDepth 100000 in
set_option maxHeartbeats 4000000 in
theorem sim_X12_song_L24 {b : Nat} {h0 : AH} (a : Int32 × AH) (c : Int32 × MS) (r : (fun (a : Int32 × AH) (c : Int32 × MS) => a.1 = c.1 ∧ MK b h0 a.2 c.2) a c) : OS (SR (fun (a : Int32 × AH) (c : Int32 × MS) => a.1 = c.1 ∧ MK b h0 a.2 c.2) (fun (a : AH) (c : MS) => MK b h0 a c)) (f_X12_song_L24 b a) (g_X12_song_L24 c) := by
  obtain ⟨s1, hs⟩ := a
  obtain ⟨t1, Ms⟩ := c
  obtain ⟨e1, I⟩ := r
  dsimp only at e1 I
  subst e1
  unfold f_X12_song_L24 g_X12_song_L24
  try dsimp only
  refine OS.f (I.gI 5 (by decide) (by decide) (by decide)) ?_
  refine OS.i (fun _ => ?_) (fun _ => ?_)
  · exact OS.ret (SR.r (I))
  · refine OS.f (I.gR 3 (by decide) (by decide)) ?_
    refine OS.f (I.gI 0 (by decide) (by decide) (by decide)) ?_
    refine OS.f (I.gR 6 (by decide) (by decide)) ?_
    refine OS.b (I.ld 6 (by decide) (by decide) _) (fun v4 v5 e => ?_)
    subst e
    refine OS.b (I.st 3 (by decide) (by decide) _ _) (fun h6 M6 I => ?_)
    exact OS.ret (SR.l ⟨rfl, I⟩)
set_option maxRecDepth 100000 in
set_option maxHeartbeats 4000000 in
theorem sim_X12_song {b : Nat} {h0 h : AH} {M : MS} (I : MK b h0 h M) : OS (fun (a : Int32 × AH) (c : Int32 × MS) => a.1 = c.1 ∧ MK b h0 a.2 c.2) (f_X12_song b h) (g_X12_song M) := by
  unfold f_X12_song g_X12_song
  refine OS.f (I.gI 5 (by decide) (by decide) (by decide)) ?_
  refine OS.i (fun _ => ?_) (fun _ => ?_)
  · exact OS.ret ⟨rfl, I⟩
  · refine OS.f (I.gI 0 (by decide) (by decide) (by decide)) ?_
    refine OS.i (fun _ => ?_) (fun _ => ?_)
    · exact OS.ret ⟨rfl, I⟩
    · refine OS.b (OS.it (sim_X12_song_L24) 100000 _ _ ⟨rfl, I⟩) (fun e8 e9 r => ?_)
      have I := r
      generalize e8 = h10 at I ⊢
      generalize e9 = M10 at I ⊢
      refine OS.f (I.gR 1 (by decide) (by decide)) ?_
      refine OS.f (I.gI 0 (by decide) (by decide) (by decide)) ?_
      refine OS.f (I.gI 5 (by decide) (by decide) (by decide)) ?_
      refine OS.b (I.st 1 (by decide) (by decide) _ _) (fun h11 M11 I => ?_)
      refine OS.f (I.gR 2 (by decide) (by decide)) ?_
      refine OS.f (I.gI 0 (by decide) (by decide) (by decide)) ?_
      refine OS.b (I.st 2 (by decide) (by decide) _ _) (fun h12 M12 I => ?_)
      obtain ⟨h13, e14, I⟩ := I.pI 5 (by decide) (by decide) (by decide) 0
      refine OS.f e14 ?_
      refine OS.g (w := msI M12 5 0) rfl ?_
      generalize msI M12 5 0 = M13 at I ⊢
      refine OS.f (I.gI 0 (by decide) (by decide) (by decide)) ?_
      obtain ⟨h15, e16, I⟩ := I.pI 0 (by decide) (by decide) (by decide) ((M13.1 0) + 1)
      refine OS.f e16 ?_
      refine OS.g (w := msI M13 0 ((M13.1 0) + 1)) rfl ?_
      generalize msI M13 0 ((M13.1 0) + 1) = M15 at I ⊢
      refine OS.f (I.gI 0 (by decide) (by decide) (by decide)) ?_
      exact OS.ret ⟨rfl, I⟩
set_option maxRecDepth 100000 in
set_option maxHeartbeats 4000000 in
theorem sim_X12_sumOf_L3 {b : Nat} {h0 : AH} (x1 : Int32) (x2 : Int32) (x3 : Int32) (x4 : Int32) (x5 : Int32) (x6 : Int32) (x7 : Int32) (a : Int32 × AH) (c : Int32 × MS) (r : (fun (a : Int32 × AH) (c : Int32 × MS) => a.1 = c.1 ∧ MK b h0 a.2 c.2) a c) : OS (SR (fun (a : Int32 × AH) (c : Int32 × MS) => a.1 = c.1 ∧ MK b h0 a.2 c.2) (fun (a : AH) (c : MS) => MK b h0 a c)) (f_X12_sumOf_L3 b x1 x2 x3 x4 x5 x6 x7 a) (g_X12_sumOf_L3 x1 x2 x3 x4 x5 x6 x7 c) := by
  obtain ⟨s8, hs⟩ := a
  obtain ⟨t8, Ms⟩ := c
  obtain ⟨e8, I⟩ := r
  dsimp only at e8 I
  subst e8
  unfold f_X12_sumOf_L3 g_X12_sumOf_L3
  try dsimp only
  refine OS.f (I.gI 7 (by decide) (by decide) (by decide)) ?_
  refine OS.i (fun _ => ?_) (fun _ => ?_)
  · exact OS.ret (SR.r (I))
  · refine OS.f (I.gR 13 (by decide) (by decide)) ?_
    refine OS.f (I.gR 8 (by decide) (by decide)) ?_
    refine OS.b (I.ld 8 (by decide) (by decide) _) (fun v2 v3 e => ?_)
    subst e
    refine OS.b (I.st 13 (by decide) (by decide) _ _) (fun h4 M4 I => ?_)
    refine OS.f (I.gR 19 (by decide) (by decide)) ?_
    refine OS.i (fun _ => ?_) (fun _ => ?_)
    · refine OS.b (I.st 19 (by decide) (by decide) _ _) (fun h9 M9 I => ?_)
      exact OS.ret (SR.l ⟨rfl, I⟩)
    · refine OS.i (fun _ => ?_) (fun _ => ?_)
      · refine OS.b (I.st 19 (by decide) (by decide) _ _) (fun h8 M8 I => ?_)
        exact OS.ret (SR.l ⟨rfl, I⟩)
      · refine OS.b (I.st 19 (by decide) (by decide) _ _) (fun h7 M7 I => ?_)
        exact OS.ret (SR.l ⟨rfl, I⟩)
set_option maxRecDepth 100000 in
set_option maxHeartbeats 4000000 in
theorem sim_X12_sumOf_L75 {b : Nat} {h0 : AH} (x1 : Int32) (x2 : Int32) (x3 : Int32) (a : Int32 × AH) (c : Int32 × MS) (r : (fun (a : Int32 × AH) (c : Int32 × MS) => a.1 = c.1 ∧ MK b h0 a.2 c.2) a c) : OS (SR (fun (a : Int32 × AH) (c : Int32 × MS) => a.1 = c.1 ∧ MK b h0 a.2 c.2) (fun (a : AH) (c : MS) => MK b h0 a c)) (f_X12_sumOf_L75 b x1 x2 x3 a) (g_X12_sumOf_L75 x1 x2 x3 c) := by
  obtain ⟨s8, hs⟩ := a
  obtain ⟨t8, Ms⟩ := c
  obtain ⟨e8, I⟩ := r
  dsimp only at e8 I
  subst e8
  unfold f_X12_sumOf_L75 g_X12_sumOf_L75
  try dsimp only
  refine OS.i (fun _ => ?_) (fun _ => ?_)
  · exact OS.ret (SR.r (I))
  · refine OS.f (I.gI 14 (by decide) (by decide) (by decide)) ?_
    refine OS.f I.cl ?_
    refine OS.b (sim_X12_step 1 x1 (Ms.1 14) x2 x3 s8 I) (fun h17 M17 I => ?_)
    refine OS.f (I.gR 38 (by decide) (by decide)) ?_
    refine OS.f (I.gI 20 (by decide) (by decide) (by decide)) ?_
    refine OS.b (I.st 38 (by decide) (by decide) _ _) (fun h19 M19 I => ?_)
    exact OS.ret (SR.l ⟨rfl, I⟩)
set_option maxRecDepth 100000 in
set_option maxHeartbeats 4000000 in
theorem sim_X12_sumOf_L120 {b : Nat} {h0 : AH} (a : Int32 × Int32 × AH) (c : Int32 × Int32 × MS) (r : (fun (a : Int32 × Int32 × AH) (c : Int32 × Int32 × MS) => a.1 = c.1 ∧ a.2.1 = c.2.1 ∧ MK b h0 a.2.2 c.2.2) a c) : OS (SR (fun (a : Int32 × Int32 × AH) (c : Int32 × Int32 × MS) => a.1 = c.1 ∧ a.2.1 = c.2.1 ∧ MK b h0 a.2.2 c.2.2) (fun (a : Int32 × AH) (c : Int32 × MS) => a.1 = c.1 ∧ MK b h0 a.2 c.2)) (f_X12_sumOf_L120 b a) (g_X12_sumOf_L120 c) := by
  obtain ⟨s8, s9, hs⟩ := a
  obtain ⟨t8, t9, Ms⟩ := c
  obtain ⟨e8, e9, I⟩ := r
  dsimp only at e8 e9 I
  subst e8
  subst e9
  unfold f_X12_sumOf_L120 g_X12_sumOf_L120
  try dsimp only
  refine OS.f (I.gI 35 (by decide) (by decide) (by decide)) ?_
  refine OS.i (fun _ => ?_) (fun _ => ?_)
  · exact OS.ret (SR.r (⟨rfl, I⟩))
  · refine OS.f (I.gR 38 (by decide) (by decide)) ?_
    refine OS.f (I.gR 36 (by decide) (by decide)) ?_
    refine OS.b (I.ld 36 (by decide) (by decide) _) (fun v25 v26 e => ?_)
    subst e
    refine OS.b (I.ld 38 (by decide) (by decide) _) (fun v27 v28 e => ?_)
    subst e
    refine OS.f (I.gR 37 (by decide) (by decide)) ?_
    refine OS.b (I.ld 37 (by decide) (by decide) _) (fun v29 v30 e => ?_)
    subst e
    refine OS.i (fun _ => ?_) (fun _ => ?_)
    · exact OS.ret (SR.l ⟨rfl, rfl, I⟩)
    · exact OS.ret (SR.l ⟨rfl, rfl, I⟩)
set_option maxRecDepth 100000 in
set_option maxHeartbeats 4000000 in
theorem sim_X12_sumOf {b : Nat} {h0 h : AH} {M : MS} (a1 : Int32) (a2 : Int32) (a3 : Int32) (a4 : Int32) (a5 : Int32) (a6 : Int32) (a7 : Int32) (I : MK b h0 h M) : OS (fun (a : Int32 × AH) (c : Int32 × MS) => a.1 = c.1 ∧ MK b h0 a.2 c.2) (f_X12_sumOf b a1 a2 a3 a4 a5 a6 a7 h) (g_X12_sumOf a1 a2 a3 a4 a5 a6 a7 M) := by
  unfold f_X12_sumOf g_X12_sumOf
  refine OS.b (OS.it (sim_X12_sumOf_L3 a1 a2 a3 a4 a5 a6 a7) 100000 _ _ ⟨rfl, I⟩) (fun e11 e12 r => ?_)
  have I := r
  generalize e11 = h13 at I ⊢
  generalize e12 = M13 at I ⊢
  obtain ⟨h14, e15, I⟩ := I.pI 20 (by decide) (by decide) (by decide) 0
  refine OS.f e15 ?_
  refine OS.g (w := msI M13 20 0) rfl ?_
  generalize msI M13 20 0 = M14 at I ⊢
  refine OS.b (OS.it (sim_X12_sumOf_L75 a1 a2 a3) 100000 _ _ ⟨rfl, I⟩) (fun e21 e22 r => ?_)
  have I := r
  generalize e21 = h23 at I ⊢
  generalize e22 = M23 at I ⊢
  refine OS.b (OS.it (sim_X12_sumOf_L120) 100000 _ _ ⟨rfl, rfl, I⟩) (fun e33 e34 r => ?_)
  obtain ⟨w35, h36⟩ := e33
  obtain ⟨zw35, M36⟩ := e34
  obtain ⟨ew35, I⟩ := r
  dsimp only at ew35 I ⊢
  subst ew35
  exact OS.ret ⟨rfl, I⟩
set_option maxRecDepth 100000 in
set_option maxHeartbeats 4000000 in
theorem sim_X12_task {b : Nat} {h0 h : AH} {M : MS} (a1 : Int32) (a2 : Int32) (a3 : Int32) (I : MK b h0 h M) : OS (fun (a : Int32 × AH) (c : Int32 × MS) => a.1 = c.1 ∧ MK b h0 a.2 c.2) (f_X12_task b a1 a2 a3 h) (g_X12_task a1 a2 a3 M) := by
  unfold f_X12_task g_X12_task
  refine OS.b (sim_X12_isTask a1 a2 a3 I) (fun a c r => ?_)
  obtain ⟨w3, h1⟩ := a
  obtain ⟨w9, M1⟩ := c
  obtain ⟨e9, I⟩ := r
  dsimp only at e9 I ⊢
  subst e9
  refine OS.i (fun _ => ?_) (fun _ => ?_)
  · exact OS.ret ⟨rfl, I⟩
  · refine OS.f (I.gI 22 (by decide) (by decide) (by decide)) ?_
    refine OS.i (fun _ => ?_) (fun _ => ?_)
    · exact OS.ret ⟨rfl, I⟩
    · refine OS.f (I.gR 23 (by decide) (by decide)) ?_
      refine OS.f (I.gI 22 (by decide) (by decide) (by decide)) ?_
      refine OS.b (I.st 23 (by decide) (by decide) _ _) (fun h6 M6 I => ?_)
      refine OS.f (I.gR 24 (by decide) (by decide)) ?_
      refine OS.f (I.gI 22 (by decide) (by decide) (by decide)) ?_
      refine OS.b (I.st 24 (by decide) (by decide) _ _) (fun h7 M7 I => ?_)
      refine OS.f (I.gR 25 (by decide) (by decide)) ?_
      refine OS.f (I.gI 22 (by decide) (by decide) (by decide)) ?_
      refine OS.b (I.st 25 (by decide) (by decide) _ _) (fun h8 M8 I => ?_)
      refine OS.f (I.gI 22 (by decide) (by decide) (by decide)) ?_
      obtain ⟨h9, e10, I⟩ := I.pI 22 (by decide) (by decide) (by decide) ((M8.1 22) + 1)
      refine OS.f e10 ?_
      refine OS.g (w := msI M8 22 ((M8.1 22) + 1)) rfl ?_
      generalize msI M8 22 ((M8.1 22) + 1) = M9 at I ⊢
      refine OS.f (I.gI 22 (by decide) (by decide) (by decide)) ?_
      exact OS.ret ⟨rfl, I⟩
set_option maxRecDepth 100000 in
set_option maxHeartbeats 4000000 in
theorem sim_X12_tree {b : Nat} {h0 h : AH} {M : MS} (I : MK b h0 h M) : OS (fun (a : Int32 × AH) (c : Int32 × MS) => a.1 = c.1 ∧ MK b h0 a.2 c.2) (f_X12_tree b h) (g_X12_tree M) := by
  unfold f_X12_tree g_X12_tree
  refine OS.f I.cl ?_
  refine OS.b (sim_X12_findTree I) (fun h1 M1 I => ?_)
  refine OS.f (I.gI 45 (by decide) (by decide) (by decide)) ?_
  exact OS.ret ⟨rfl, I⟩
set_option maxRecDepth 100000 in
set_option maxHeartbeats 4000000 in
theorem sim_X12_tryTwo_L7_J51 {b : Nat} {h0 h : AH} {M : MS} (x1 : Int32) (x2 : Int32) (x3 : Int32) (x4 : Int32) (x5 : Int32) (y8 : Int32) (y9 : Int32) (I : MK b h0 h M) : OS (SR (fun (a : Int32 × Int32 × AH) (c : Int32 × Int32 × MS) => a.1 = c.1 ∧ a.2.1 = c.2.1 ∧ MK b h0 a.2.2 c.2.2) (fun (a : Int32 × AH) (c : Int32 × MS) => a.1 = c.1 ∧ MK b h0 a.2 c.2)) (f_X12_tryTwo_L7_J51 b x1 x2 x3 x4 x5 y8 y9 h) (g_X12_tryTwo_L7_J51 x1 x2 x3 x4 x5 y8 y9 M) := by
  unfold f_X12_tryTwo_L7_J51 g_X12_tryTwo_L7_J51
  obtain ⟨h6, e7, I⟩ := I.pI 39 (by decide) (by decide) (by decide) x4
  refine OS.f e7 ?_
  refine OS.g (w := msI M 39 x4) rfl ?_
  generalize msI M 39 x4 = M6 at I ⊢
  obtain ⟨h8, e9, I⟩ := I.pI 40 (by decide) (by decide) (by decide) x5
  refine OS.f e9 ?_
  refine OS.g (w := msI M6 40 x5) rfl ?_
  generalize msI M6 40 x5 = M8 at I ⊢
  obtain ⟨h10, e11, I⟩ := I.pI 41 (by decide) (by decide) (by decide) (1 + (y8 / 3))
  refine OS.f e11 ?_
  refine OS.g (w := msI M8 41 (1 + (y8 / 3))) rfl ?_
  generalize msI M8 41 (1 + (y8 / 3)) = M10 at I ⊢
  obtain ⟨h12, e13, I⟩ := I.pI 42 (by decide) (by decide) (by decide) (1 + (y8 - y8 / 3 * 3))
  refine OS.f e13 ?_
  refine OS.g (w := msI M10 42 (1 + (y8 - y8 / 3 * 3))) rfl ?_
  generalize msI M10 42 (1 + (y8 - y8 / 3 * 3)) = M12 at I ⊢
  exact OS.ret (SR.l ⟨rfl, rfl, I⟩)
set_option maxRecDepth 100000 in
set_option maxHeartbeats 4000000 in
theorem sim_X12_tryTwo_L7 {b : Nat} {h0 : AH} (x1 : Int32) (x2 : Int32) (x3 : Int32) (x4 : Int32) (x5 : Int32) (a : Int32 × Int32 × AH) (c : Int32 × Int32 × MS) (r : (fun (a : Int32 × Int32 × AH) (c : Int32 × Int32 × MS) => a.1 = c.1 ∧ a.2.1 = c.2.1 ∧ MK b h0 a.2.2 c.2.2) a c) : OS (SR (fun (a : Int32 × Int32 × AH) (c : Int32 × Int32 × MS) => a.1 = c.1 ∧ a.2.1 = c.2.1 ∧ MK b h0 a.2.2 c.2.2) (fun (a : Int32 × AH) (c : Int32 × MS) => a.1 = c.1 ∧ MK b h0 a.2 c.2)) (f_X12_tryTwo_L7 b x1 x2 x3 x4 x5 a) (g_X12_tryTwo_L7 x1 x2 x3 x4 x5 c) := by
  obtain ⟨s7, s8, hs⟩ := a
  obtain ⟨t7, t8, Ms⟩ := c
  obtain ⟨e7, e8, I⟩ := r
  dsimp only at e7 e8 I
  subst e7
  subst e8
  unfold f_X12_tryTwo_L7 g_X12_tryTwo_L7
  try dsimp only
  refine OS.i (fun _ => ?_) (fun _ => ?_)
  · exact OS.ret (SR.r (⟨rfl, I⟩))
  · refine OS.f I.cl ?_
    refine OS.b (sim_X12_sumOf x1 x2 x3 x4 (1 + (s8 / 3)) x5 (1 + (s8 - s8 / 3 * 3)) I) (fun a c r => ?_)
    obtain ⟨w4, h2⟩ := a
    obtain ⟨w9, M2⟩ := c
    obtain ⟨e9, I⟩ := r
    dsimp only at e9 I ⊢
    subst e9
    refine OS.i (fun _ => ?_) (fun _ => ?_)
    · exact sim_X12_tryTwo_L7_J51 x1 x2 x3 x4 x5 s8 w4 I
    · refine OS.i (fun _ => ?_) (fun _ => ?_)
      · exact OS.ret (SR.l ⟨rfl, rfl, I⟩)
      · exact sim_X12_tryTwo_L7_J51 x1 x2 x3 x4 x5 s8 w4 I
set_option maxRecDepth 100000 in
set_option maxHeartbeats 4000000 in
theorem sim_X12_tryTwo {b : Nat} {h0 h : AH} {M : MS} (a1 : Int32) (a2 : Int32) (a3 : Int32) (a4 : Int32) (a5 : Int32) (a6 : Int32) (I : MK b h0 h M) : OS (fun (a : Int32 × AH) (c : Int32 × MS) => a.1 = c.1 ∧ MK b h0 a.2 c.2) (f_X12_tryTwo b a1 a2 a3 a4 a5 a6 h) (g_X12_tryTwo a1 a2 a3 a4 a5 a6 M) := by
  unfold f_X12_tryTwo g_X12_tryTwo
  refine OS.b (OS.it (sim_X12_tryTwo_L7 a1 a2 a3 a4 a5) 100000 _ _ ⟨rfl, rfl, I⟩) (fun e16 e17 r => ?_)
  obtain ⟨w18, h19⟩ := e16
  obtain ⟨zw18, M19⟩ := e17
  obtain ⟨ew18, I⟩ := r
  dsimp only at ew18 I ⊢
  subst ew18
  exact OS.ret ⟨rfl, I⟩
set_option maxRecDepth 100000 in
set_option maxHeartbeats 4000000 in
theorem sim_X12_two_L54 {b : Nat} {h0 : AH} (x1 : Int32) (x2 : Int32) (x3 : Int32) (x4 : Int32) (x6 : Int32) (a : Int32 × Int32 × AH) (c : Int32 × Int32 × MS) (r : (fun (a : Int32 × Int32 × AH) (c : Int32 × Int32 × MS) => a.1 = c.1 ∧ a.2.1 = c.2.1 ∧ MK b h0 a.2.2 c.2.2) a c) : OS (SR (fun (a : Int32 × Int32 × AH) (c : Int32 × Int32 × MS) => a.1 = c.1 ∧ a.2.1 = c.2.1 ∧ MK b h0 a.2.2 c.2.2) (fun (a : Int32 × AH) (c : Int32 × MS) => a.1 = c.1 ∧ MK b h0 a.2 c.2)) (f_X12_two_L54 b x1 x2 x3 x4 x6 a) (g_X12_two_L54 x1 x2 x3 x4 x6 c) := by
  obtain ⟨s5, s7, hs⟩ := a
  obtain ⟨t5, t7, Ms⟩ := c
  obtain ⟨e5, e7, I⟩ := r
  dsimp only at e5 e7 I
  subst e5
  subst e7
  unfold f_X12_two_L54 g_X12_two_L54
  try dsimp only
  refine OS.f (I.gI 7 (by decide) (by decide) (by decide)) ?_
  refine OS.i (fun _ => ?_) (fun _ => ?_)
  · exact OS.ret (SR.r (⟨rfl, I⟩))
  · refine OS.f I.cl ?_
    refine OS.b (sim_X12_isOf x6 I) (fun a c r => ?_)
    obtain ⟨w17, h15⟩ := a
    obtain ⟨w9, M15⟩ := c
    obtain ⟨e9, I⟩ := r
    dsimp only at e9 I ⊢
    subst e9
    refine OS.i (fun _ => ?_) (fun _ => ?_)
    · exact OS.ret (SR.l ⟨rfl, rfl, I⟩)
    · refine OS.f I.cl ?_
      refine OS.b (sim_X12_isOf s7 I) (fun a c r => ?_)
      obtain ⟨w21, h19⟩ := a
      obtain ⟨w9, M19⟩ := c
      obtain ⟨e9, I⟩ := r
      dsimp only at e9 I ⊢
      subst e9
      refine OS.i (fun _ => ?_) (fun _ => ?_)
      · exact OS.ret (SR.l ⟨rfl, rfl, I⟩)
      · refine OS.f I.cl ?_
        refine OS.b (sim_X12_tryTwo x1 x2 x3 x6 s7 s5 I) (fun a c r => ?_)
        obtain ⟨w25, h23⟩ := a
        obtain ⟨w9, M23⟩ := c
        obtain ⟨e9, I⟩ := r
        dsimp only at e9 I ⊢
        subst e9
        exact OS.ret (SR.l ⟨rfl, rfl, I⟩)
set_option maxRecDepth 100000 in
set_option maxHeartbeats 4000000 in
theorem sim_X12_two_L39 {b : Nat} {h0 : AH} (x1 : Int32) (x2 : Int32) (x3 : Int32) (x4 : Int32) (a : Int32 × Int32 × AH) (c : Int32 × Int32 × MS) (r : (fun (a : Int32 × Int32 × AH) (c : Int32 × Int32 × MS) => a.1 = c.1 ∧ a.2.1 = c.2.1 ∧ MK b h0 a.2.2 c.2.2) a c) : OS (SR (fun (a : Int32 × Int32 × AH) (c : Int32 × Int32 × MS) => a.1 = c.1 ∧ a.2.1 = c.2.1 ∧ MK b h0 a.2.2 c.2.2) (fun (a : Int32 × AH) (c : Int32 × MS) => a.1 = c.1 ∧ MK b h0 a.2 c.2)) (f_X12_two_L39 b x1 x2 x3 x4 a) (g_X12_two_L39 x1 x2 x3 x4 c) := by
  obtain ⟨s5, s6, hs⟩ := a
  obtain ⟨t5, t6, Ms⟩ := c
  obtain ⟨e5, e6, I⟩ := r
  dsimp only at e5 e6 I
  subst e5
  subst e6
  unfold f_X12_two_L39 g_X12_two_L39
  try dsimp only
  refine OS.f (I.gI 7 (by decide) (by decide) (by decide)) ?_
  refine OS.i (fun _ => ?_) (fun _ => ?_)
  · exact OS.ret (SR.r (⟨rfl, I⟩))
  · refine OS.b (OS.it (sim_X12_two_L54 x1 x2 x3 x4 s6) 100000 _ _ ⟨rfl, rfl, I⟩) (fun e27 e28 r => ?_)
    obtain ⟨w29, h30⟩ := e27
    obtain ⟨zw29, M30⟩ := e28
    obtain ⟨ew29, I⟩ := r
    dsimp only at ew29 I ⊢
    subst ew29
    exact OS.ret (SR.l ⟨rfl, rfl, I⟩)
set_option maxRecDepth 100000 in
set_option maxHeartbeats 4000000 in
theorem sim_X12_two {b : Nat} {h0 h : AH} {M : MS} (a1 : Int32) (a2 : Int32) (a3 : Int32) (a4 : Int32) (I : MK b h0 h M) : OS (fun (a : Int32 × AH) (c : Int32 × MS) => a.1 = c.1 ∧ MK b h0 a.2 c.2) (f_X12_two b a1 a2 a3 a4 h) (g_X12_two a1 a2 a3 a4 M) := by
  unfold f_X12_two g_X12_two
  refine OS.f I.cl ?_
  refine OS.b (sim_X12_noSong a1 I) (fun a c r => ?_)
  obtain ⟨w3, h1⟩ := a
  obtain ⟨w9, M1⟩ := c
  obtain ⟨e9, I⟩ := r
  dsimp only at e9 I ⊢
  subst e9
  refine OS.i (fun _ => ?_) (fun _ => ?_)
  · refine OS.b (sim_X12_isTask 1 a2 a3 I) (fun a c r => ?_)
    obtain ⟨w7, h5⟩ := a
    obtain ⟨w9, M5⟩ := c
    obtain ⟨e9, I⟩ := r
    dsimp only at e9 I ⊢
    subst e9
    refine OS.i (fun _ => ?_) (fun _ => ?_)
    · exact OS.ret ⟨rfl, I⟩
    · refine OS.b (sim_X12_in a4.toInt64 0 4 I) (fun a c r => ?_)
      obtain ⟨w11, h9⟩ := a
      obtain ⟨w9, M9⟩ := c
      obtain ⟨e9, I⟩ := r
      dsimp only at e9 I ⊢
      subst e9
      refine OS.i (fun _ => ?_) (fun _ => ?_)
      · exact OS.ret ⟨rfl, I⟩
      · refine OS.b (OS.it (sim_X12_two_L39 a1 a2 a3 a4) 100000 _ _ ⟨rfl, rfl, I⟩) (fun e32 e33 r => ?_)
        obtain ⟨w34, h35⟩ := e32
        obtain ⟨zw34, M35⟩ := e33
        obtain ⟨ew34, I⟩ := r
        dsimp only at ew34 I ⊢
        subst ew34
        refine OS.i (fun _ => ?_) (fun _ => ?_)
        · refine OS.i (fun _ => ?_) (fun _ => ?_)
          · refine OS.f (I.gI 39 (by decide) (by decide) (by decide)) ?_
            exact OS.ret ⟨rfl, I⟩
          · refine OS.i (fun _ => ?_) (fun _ => ?_)
            · refine OS.f (I.gI 40 (by decide) (by decide) (by decide)) ?_
              exact OS.ret ⟨rfl, I⟩
            · refine OS.i (fun _ => ?_) (fun _ => ?_)
              · refine OS.f (I.gI 41 (by decide) (by decide) (by decide)) ?_
                exact OS.ret ⟨rfl, I⟩
              · refine OS.i (fun _ => ?_) (fun _ => ?_)
                · refine OS.f (I.gI 42 (by decide) (by decide) (by decide)) ?_
                  exact OS.ret ⟨rfl, I⟩
                · exact OS.ret ⟨rfl, I⟩
        · exact OS.ret ⟨rfl, I⟩
  · exact OS.ret ⟨rfl, I⟩
set_option maxRecDepth 100000 in
set_option maxHeartbeats 4000000 in
theorem sim_X12_who_L71 {b : Nat} {h0 : AH} (x1 : Int32) (x2 : Int32) (x3 : Int32) (x4 : Int32) (x6 : Int32) (a : Int32 × Int32 × AH) (c : Int32 × Int32 × MS) (r : (fun (a : Int32 × Int32 × AH) (c : Int32 × Int32 × MS) => a.1 = c.1 ∧ a.2.1 = c.2.1 ∧ MK b h0 a.2.2 c.2.2) a c) : OS (SR (fun (a : Int32 × Int32 × AH) (c : Int32 × Int32 × MS) => a.1 = c.1 ∧ a.2.1 = c.2.1 ∧ MK b h0 a.2.2 c.2.2) (fun (a : Int32 × AH) (c : Int32 × MS) => a.1 = c.1 ∧ MK b h0 a.2 c.2)) (f_X12_who_L71 b x1 x2 x3 x4 x6 a) (g_X12_who_L71 x1 x2 x3 x4 x6 c) := by
  obtain ⟨s5, s7, hs⟩ := a
  obtain ⟨t5, t7, Ms⟩ := c
  obtain ⟨e5, e7, I⟩ := r
  dsimp only at e5 e7 I
  subst e5
  subst e7
  unfold f_X12_who_L71 g_X12_who_L71
  try dsimp only
  refine OS.i (fun _ => ?_) (fun _ => ?_)
  · exact OS.ret (SR.r (⟨rfl, I⟩))
  · refine OS.f I.cl ?_
    refine OS.b (sim_X12_isOf x6 I) (fun a c r => ?_)
    obtain ⟨w24, h22⟩ := a
    obtain ⟨w9, M22⟩ := c
    obtain ⟨e9, I⟩ := r
    dsimp only at e9 I ⊢
    subst e9
    refine OS.i (fun _ => ?_) (fun _ => ?_)
    · exact OS.ret (SR.r (⟨rfl, I⟩))
    · refine OS.f I.cl ?_
      refine OS.b (sim_X12_sumOf x1 x2 x3 x6 s7 (-1) 0 I) (fun a c r => ?_)
      obtain ⟨w28, h26⟩ := a
      obtain ⟨w9, M26⟩ := c
      obtain ⟨e9, I⟩ := r
      dsimp only at e9 I ⊢
      subst e9
      refine OS.i (fun _ => ?_) (fun _ => ?_)
      · exact OS.ret (SR.l ⟨rfl, rfl, I⟩)
      · obtain ⟨h30, e31, I⟩ := I.pI 39 (by decide) (by decide) (by decide) x6
        refine OS.f e31 ?_
        refine OS.g (w := msI M26 39 x6) rfl ?_
        generalize msI M26 39 x6 = M30 at I ⊢
        obtain ⟨h32, e33, I⟩ := I.pI 41 (by decide) (by decide) (by decide) s7
        refine OS.f e33 ?_
        refine OS.g (w := msI M30 41 s7) rfl ?_
        generalize msI M30 41 s7 = M32 at I ⊢
        exact OS.ret (SR.l ⟨rfl, rfl, I⟩)
set_option maxRecDepth 100000 in
set_option maxHeartbeats 4000000 in
theorem sim_X12_who_L59 {b : Nat} {h0 : AH} (x1 : Int32) (x2 : Int32) (x3 : Int32) (x4 : Int32) (a : Int32 × Int32 × AH) (c : Int32 × Int32 × MS) (r : (fun (a : Int32 × Int32 × AH) (c : Int32 × Int32 × MS) => a.1 = c.1 ∧ a.2.1 = c.2.1 ∧ MK b h0 a.2.2 c.2.2) a c) : OS (SR (fun (a : Int32 × Int32 × AH) (c : Int32 × Int32 × MS) => a.1 = c.1 ∧ a.2.1 = c.2.1 ∧ MK b h0 a.2.2 c.2.2) (fun (a : Int32 × AH) (c : Int32 × MS) => a.1 = c.1 ∧ MK b h0 a.2 c.2)) (f_X12_who_L59 b x1 x2 x3 x4 a) (g_X12_who_L59 x1 x2 x3 x4 c) := by
  obtain ⟨s5, s6, hs⟩ := a
  obtain ⟨t5, t6, Ms⟩ := c
  obtain ⟨e5, e6, I⟩ := r
  dsimp only at e5 e6 I
  subst e5
  subst e6
  unfold f_X12_who_L59 g_X12_who_L59
  try dsimp only
  refine OS.f (I.gI 7 (by decide) (by decide) (by decide)) ?_
  refine OS.i (fun _ => ?_) (fun _ => ?_)
  · exact OS.ret (SR.r (⟨rfl, I⟩))
  · refine OS.b (OS.it (sim_X12_who_L71 x1 x2 x3 x4 s6) 100000 _ _ ⟨rfl, rfl, I⟩) (fun e35 e36 r => ?_)
    obtain ⟨w37, h38⟩ := e35
    obtain ⟨zw37, M38⟩ := e36
    obtain ⟨ew37, I⟩ := r
    dsimp only at ew37 I ⊢
    subst ew37
    exact OS.ret (SR.l ⟨rfl, rfl, I⟩)
set_option maxRecDepth 100000 in
set_option maxHeartbeats 4000000 in
theorem sim_X12_who {b : Nat} {h0 h : AH} {M : MS} (a1 : Int32) (a2 : Int32) (a3 : Int32) (a4 : Int32) (I : MK b h0 h M) : OS (fun (a : Int32 × AH) (c : Int32 × MS) => a.1 = c.1 ∧ MK b h0 a.2 c.2) (f_X12_who b a1 a2 a3 a4 h) (g_X12_who a1 a2 a3 a4 M) := by
  unfold f_X12_who g_X12_who
  refine OS.f I.cl ?_
  refine OS.b (sim_X12_noSong a1 I) (fun a c r => ?_)
  obtain ⟨w3, h1⟩ := a
  obtain ⟨w9, M1⟩ := c
  obtain ⟨e9, I⟩ := r
  dsimp only at e9 I ⊢
  subst e9
  refine OS.i (fun _ => ?_) (fun _ => ?_)
  · refine OS.b (sim_X12_isTask 1 a2 a3 I) (fun a c r => ?_)
    obtain ⟨w7, h5⟩ := a
    obtain ⟨w9, M5⟩ := c
    obtain ⟨e9, I⟩ := r
    dsimp only at e9 I ⊢
    subst e9
    refine OS.i (fun _ => ?_) (fun _ => ?_)
    · exact OS.ret ⟨rfl, I⟩
    · refine OS.b (sim_X12_in a4.toInt64 0 2 I) (fun a c r => ?_)
      obtain ⟨w11, h9⟩ := a
      obtain ⟨w9, M9⟩ := c
      obtain ⟨e9, I⟩ := r
      dsimp only at e9 I ⊢
      subst e9
      refine OS.i (fun _ => ?_) (fun _ => ?_)
      · exact OS.ret ⟨rfl, I⟩
      · refine OS.f I.cl ?_
        refine OS.b (sim_X12_sumOf a1 a2 a3 (-1) 0 (-1) 0 I) (fun a c r => ?_)
        obtain ⟨w15, h13⟩ := a
        obtain ⟨w9, M13⟩ := c
        obtain ⟨e9, I⟩ := r
        dsimp only at e9 I ⊢
        subst e9
        obtain ⟨h16, e17, I⟩ := I.pI 39 (by decide) (by decide) (by decide) (-1)
        refine OS.f e17 ?_
        refine OS.g (w := msI M13 39 (-1)) rfl ?_
        generalize msI M13 39 (-1) = M16 at I ⊢
        obtain ⟨h18, e19, I⟩ := I.pI 41 (by decide) (by decide) (by decide) 0
        refine OS.f e19 ?_
        refine OS.g (w := msI M16 41 0) rfl ?_
        generalize msI M16 41 0 = M18 at I ⊢
        refine OS.b (OS.it (sim_X12_who_L59 a1 a2 a3 a4) 100000 _ _ ⟨rfl, rfl, I⟩) (fun e40 e41 r => ?_)
        obtain ⟨w42, h43⟩ := e40
        obtain ⟨zw42, M43⟩ := e41
        obtain ⟨ew42, I⟩ := r
        dsimp only at ew42 I ⊢
        subst ew42
        refine OS.i (fun _ => ?_) (fun _ => ?_)
        · refine OS.f (I.gI 39 (by decide) (by decide) (by decide)) ?_
          exact OS.ret ⟨rfl, I⟩
        · refine OS.i (fun _ => ?_) (fun _ => ?_)
          · refine OS.f (I.gI 41 (by decide) (by decide) (by decide)) ?_
            exact OS.ret ⟨rfl, I⟩
          · exact OS.ret ⟨rfl, I⟩
  · exact OS.ret ⟨rfl, I⟩
set_option maxRecDepth 100000 in
set_option maxHeartbeats 4000000 in
theorem sim_X12_wipe {b : Nat} {h0 h : AH} {M : MS} (I : MK b h0 h M) : OS (fun (a : Int32 × AH) (c : Int32 × MS) => a.1 = c.1 ∧ MK b h0 a.2 c.2) (f_X12_wipe b h) (g_X12_wipe M) := by
  unfold f_X12_wipe g_X12_wipe
  refine OS.f (I.gI 35 (by decide) (by decide) (by decide)) ?_
  obtain ⟨h1, e2, I⟩ := I.pI 35 (by decide) (by decide) (by decide) 0
  refine OS.f e2 ?_
  refine OS.g (w := msI M 35 0) rfl ?_
  generalize msI M 35 0 = M1 at I ⊢
  exact OS.ret ⟨rfl, I⟩
set_option maxRecDepth 100000 in
set_option maxHeartbeats 4000000 in
theorem sim_X12_won {b : Nat} {h0 h : AH} {M : MS} (a1 : Int32) (I : MK b h0 h M) : OS (fun (a : Int32 × AH) (c : Int32 × MS) => a.1 = c.1 ∧ MK b h0 a.2 c.2) (f_X12_won b a1 h) (g_X12_won a1 M) := by
  unfold f_X12_won g_X12_won
  refine OS.i (fun _ => ?_) (fun _ => ?_)
  · refine OS.f (I.gI 16 (by decide) (by decide) (by decide)) ?_
    refine OS.i (fun _ => ?_) (fun _ => ?_)
    · exact OS.ret ⟨rfl, I⟩
    · refine OS.f (I.gR 17 (by decide) (by decide)) ?_
      refine OS.b (I.ld 17 (by decide) (by decide) _) (fun v3 v4 e => ?_)
      subst e
      exact OS.ret ⟨rfl, I⟩
  · exact OS.ret ⟨rfl, I⟩
set_option maxRecDepth 100000 in
set_option maxHeartbeats 4000000 in
theorem sim_X12_word {b : Nat} {h0 h : AH} {M : MS} (a1 : Int32) (a2 : Int32) (I : MK b h0 h M) : OS (fun (a : Int32 × AH) (c : Int32 × MS) => a.1 = c.1 ∧ MK b h0 a.2 c.2) (f_X12_word b a1 a2 h) (g_X12_word a1 a2 M) := by
  unfold f_X12_word g_X12_word
  refine OS.b (sim_X12_in a1.toInt64 1 5 I) (fun a c r => ?_)
  obtain ⟨w3, h1⟩ := a
  obtain ⟨w9, M1⟩ := c
  obtain ⟨e9, I⟩ := r
  dsimp only at e9 I ⊢
  subst e9
  refine OS.i (fun _ => ?_) (fun _ => ?_)
  · exact OS.ret ⟨rfl, I⟩
  · refine OS.b (sim_X12_in a2.toInt64 0 (((1 <<< (a1 &&& 31)) - 1).toInt64) I) (fun a c r => ?_)
    obtain ⟨w7, h5⟩ := a
    obtain ⟨w9, M5⟩ := c
    obtain ⟨e9, I⟩ := r
    dsimp only at e9 I ⊢
    subst e9
    refine OS.i (fun _ => ?_) (fun _ => ?_)
    · exact OS.ret ⟨rfl, I⟩
    · refine OS.f (I.gI 30 (by decide) (by decide) (by decide)) ?_
      refine OS.i (fun _ => ?_) (fun _ => ?_)
      · exact OS.ret ⟨rfl, I⟩
      · refine OS.f (I.gR 31 (by decide) (by decide)) ?_
        refine OS.f (I.gI 30 (by decide) (by decide) (by decide)) ?_
        refine OS.b (I.st 31 (by decide) (by decide) _ _) (fun h10 M10 I => ?_)
        refine OS.f (I.gR 32 (by decide) (by decide)) ?_
        refine OS.f (I.gI 30 (by decide) (by decide) (by decide)) ?_
        refine OS.b (I.st 32 (by decide) (by decide) _ _) (fun h11 M11 I => ?_)
        refine OS.f (I.gI 30 (by decide) (by decide) (by decide)) ?_
        obtain ⟨h12, e13, I⟩ := I.pI 30 (by decide) (by decide) (by decide) ((M11.1 30) + 1)
        refine OS.f e13 ?_
        refine OS.g (w := msI M11 30 ((M11.1 30) + 1)) rfl ?_
        generalize msI M11 30 ((M11.1 30) + 1) = M12 at I ⊢
        refine OS.f (I.gI 30 (by decide) (by decide) (by decide)) ?_
        exact OS.ret ⟨rfl, I⟩
