theorem OS.bEq {α β γ : Type} {R : α → β → Prop} {x y : Option γ} {k : γ → Option α} {l : γ → Option β} (hx : OS (fun a c => a = c) x y) (h : ∀ v, OS R (k v) (l v)) : OS R (x.bind k) (y.bind l) := OS.b hx (fun a c e => by subst e; exact h a)
theorem OS.rfl' {γ : Type} (x : Option γ) : OS (fun a c => a = c) x x := fun c e => ⟨c, e, rfl⟩
theorem OS.e {α β : Type} {R : α → β → Prop} (x : Option Nat) {A : Option α} {B : Nat → Option α} {A' : Option β} {B' : Nat → Option β} (h1 : OS R A A') (h2 : ∀ a, OS R (B a) (B' a)) : OS R (Option.elim x A B) (Option.elim x A' B') := by
  cases x with
  | none => exact h1
  | some a => exact h2 a
theorem OS.bP {α β γ : Type} {R : α → β → Prop} {h0 : AH} {x : Option (γ × AH)} {y : Option (γ × CH)} {k : γ × AH → Option α} {l : γ × CH → Option β} (hx : OS (fun a c => a.1 = c.1 ∧ CK h0 c.2 a.2) x y) (h : ∀ v h' C', CK h0 C' h' → OS R (k (v, h')) (l (v, C'))) : OS R (x.bind k) (y.bind l) := OS.b hx (fun a c r => by
  obtain ⟨v, h'⟩ := a
  obtain ⟨v', C'⟩ := c
  obtain ⟨e, I⟩ := r
  dsimp only at e I
  subst e
  exact h v h' C' I)
theorem OS.bV {α β : Type} {R : α → β → Prop} {h0 : AH} {x : Option AH} {y : Option CH} {k : AH → Option α} {l : CH → Option β} (hx : OS (fun a c => CK h0 c a) x y) (h : ∀ h' C', CK h0 C' h' → OS R (k h') (l C')) : OS R (x.bind k) (y.bind l) := OS.b hx h
set_option maxRecDepth 100000 in
theorem simt_X11_within {h0 h : AH} {C : CH} (a0 a1 a2 : Int32) (I : CK h0 C h) : OS (fun a c => a.1 = c.1 ∧ CK h0 c.2 a.2) (f_X11_within a0 a1 a2 h) (t_X11_within a0 a1 a2 C) := by
  unfold f_X11_within t_X11_within
  repeat' (first
    | exact OS.ret ⟨rfl, by assumption⟩
    | refine OS.i (fun _ => ?_) (fun _ => ?_))
set_option maxRecDepth 100000 in
theorem simt_X6_add {h0 h : AH} {C : CH} (a0 : Nat) (a1 : Int32) (I : CK h0 C h) : OS (fun a c => a.1 = c.1 ∧ CK h0 c.2 a.2) (f_X6_add a0 a1 h) (t_X6_add a0 a1 C) := by
  unfold f_X6_add t_X6_add
  repeat' (first
    | exact OS.ret ⟨rfl, by assumption⟩
    | refine OS.i (fun _ => ?_) (fun _ => ?_)
    | refine OS.bEq (CK.gI (by assumption) _ _ _) (fun _ => ?_)
    | refine OS.bEq (CK.gR (by assumption) _ _ _) (fun _ => ?_)
    | refine OS.bEq (CK.len (by assumption) _) (fun _ => ?_)
    | refine OS.bEq (CK.ld (by assumption) _ _ _) (fun _ => ?_)
    | refine OS.bV (CK.st (by assumption) _ _ _ _) (fun _ _ _ => ?_)
    | refine OS.bV (CK.pF (by assumption) _ _ _ _) (fun _ _ _ => ?_))
set_option maxRecDepth 100000 in
theorem simt_X0_has {h0 h : AH} {C : CH} (a0 : Nat) (a1 : Int32) (I : CK h0 C h) : OS (fun a c => a.1 = c.1 ∧ CK h0 c.2 a.2) (f_X0_has a0 a1 h) (t_X0_has a0 a1 C) := by
  unfold f_X0_has t_X0_has
  repeat' (first
    | exact OS.ret ⟨rfl, by assumption⟩
    | refine OS.i (fun _ => ?_) (fun _ => ?_)
    | refine OS.bEq (CK.gI (by assumption) _ _ _) (fun _ => ?_)
    | refine OS.bP (simt_X11_within _ _ _ (by assumption)) (fun _ _ _ _ => ?_)
    | refine OS.bEq (OS.rfl' _) (fun _ => ?_))
