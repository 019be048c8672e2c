theorem OS.bEq {α β γ : Type} {R : α → β → Prop} {x y : Option γ} {k : γ → Option α} {l : γ → Option β} (hx : OS (fun a c => a = c) x y) (h : ∀ v, OS R (k v) (l v)) : OS R (x.bind k) (y.bind l) := OS.b hx (fun a c e => by subst e; exact h a)
theorem OS.rfl' {γ : Type} (x : Option γ) : OS (fun a c => a = c) x x := fun c e => ⟨c, e, rfl⟩
theorem OS.e {α β : Type} {R : α → β → Prop} (x : Option Nat) {A : Option α} {B : Nat → Option α} {A' : Option β} {B' : Nat → Option β} (h1 : OS R A A') (h2 : ∀ a, OS R (B a) (B' a)) : OS R (Option.elim x A B) (Option.elim x A' B') := by
  cases x with
  | none => exact h1
  | some a => exact h2 a
theorem OS.bP {α β γ : Type} {R : α → β → Prop} {h0 : AH} {x : Option (γ × AH)} {y : Option (γ × CH)} {k : γ × AH → Option α} {l : γ × CH → Option β} (hx : OS (fun a c => a.1 = c.1 ∧ CK h0 c.2 a.2) x y) (h : ∀ v h' C', CK h0 C' h' → OS R (k (v, h')) (l (v, C'))) : OS R (x.bind k) (y.bind l) := OS.b hx (fun a c r => by
  obtain ⟨v, h'⟩ := a
  obtain ⟨v', C'⟩ := c
  obtain ⟨e, I⟩ := r
  dsimp only at e I
  subst e
  exact h v h' C' I)
theorem OS.bV {α β : Type} {R : α → β → Prop} {h0 : AH} {x : Option AH} {y : Option CH} {k : AH → Option α} {l : CH → Option β} (hx : OS (fun a c => CK h0 c a) x y) (h : ∀ h' C', CK h0 C' h' → OS R (k h') (l C')) : OS R (x.bind k) (y.bind l) := OS.b hx h
theorem cell_I (C : CH) (n : Nat) : c_cell (tnew C (.inl (0, n, .inl fun _ => 0))) C.1 = some (.inl (0, n, .inl fun _ => 0)) := by
  simp [c_cell, tnew, va_up, c_kd, c_ln, c_ar, tkd, tln]
theorem cell_B (C : CH) (n : Nat) : c_cell (tnew C (.inl (2, n, .inl fun _ => 0))) C.1 = some (.inl (2, n, .inl fun _ => 0)) := by
  simp [c_cell, tnew, va_up, c_kd, c_ln, c_ar, tkd, tln]
theorem cell_J (C : CH) (n : Nat) : c_cell (tnew C (.inl (1, n, .inr (.inl fun _ => 0)))) C.1 = some (.inl (1, n, .inr (.inl fun _ => 0))) := by
  simp [c_cell, tnew, va_up, c_kd, c_ln, c_al, tkd, tln]
theorem cell_R (C : CH) (n : Nat) : c_cell (tnew C (.inl (3, n, .inr (.inr (.inr (.inr fun _ => none)))))) C.1 = some (.inl (3, n, .inr (.inr (.inr (.inr fun _ => none))))) := by
  simp [c_cell, tnew, va_up, c_kd, c_ln, c_ro, tkd, tln, tro]
theorem cell_M (C : CH) (n : Nat) (f : Nat → Option Nat) : c_cell (tnew C (.inl (4, n, .inr (.inr (.inr (.inr f)))))) C.1 = some (.inl (4, n, .inr (.inr (.inr (.inr f))))) := by
  simp [c_cell, tnew, va_up, c_kd, c_ln, c_ro, tkd, tln, tro]
def dfl (ci k : Nat) : Value := if fty ci k = 0 then .int 0 else if fty ci k = 1 then .long 0 else .null
theorem cell_obj (C : CH) (ci : Nat) (hc : ci < 13) : c_cell (tnew C (.inr (ci, (List.range (nF ci)).map (dfl ci)))) C.1 = some (.inr (ci, (List.range (nF ci)).map (dfl ci))) := by
  have h1 : c_kd (tnew C (.inr (ci, (List.range (nF ci)).map (dfl ci)))) C.1 = ci + 1 := by simp [tnew, c_kd, va_up, tkd]
  have h2 : c_fv (tnew C (.inr (ci, (List.range (nF ci)).map (dfl ci)))) C.1 ci = dfl ci := by
    funext j
    simp [c_fv, dfl, tnew, c_iv, c_jv, c_rv, va_up, va_rf]
  unfold c_cell
  rw [h1, if_neg (by omega), if_pos (by omega)]
  show some (Sum.inr (ci, (List.range (nF ci)).map (c_fv _ C.1 ci))) = _
  rw [h2]
theorem CK.multi {h0 h : AH} {C : CH} (I : CK h0 C h) : CK h0 (tnews C (hmulti C.1 4 10)) (hnews h (hmulti C.1 4 10)) :=
  ((((I.new _ (cell_M _ 4 _)).new _ (cell_I _ 10)).new _ (cell_I _ 10)).new _ (cell_I _ 10)).new _ (cell_I _ 10)
