/-! WP: a function of the typed side answers, and what holds then -/
def WP {α : Type} (x : Option α) (Q : α → Prop) : Prop := ∃ a, x = some a ∧ Q a
theorem WP_some {α : Type} {a : α} {Q : α → Prop} : WP (some a) Q ↔ Q a := ⟨fun ⟨_, e, h⟩ => by cases e; exact h, fun h => ⟨a, rfl, h⟩⟩
theorem WP_bind {α β : Type} {x : Option α} {k : α → Option β} {Q : β → Prop} : WP (x.bind k) Q ↔ WP x (fun a => WP (k a) Q) := by
  constructor
  · rintro ⟨a, e, h⟩
    cases x with
    | none => cases e
    | some v => exact ⟨v, rfl, a, e, h⟩
  · rintro ⟨a, e, b, e2, h⟩
    subst e
    exact ⟨b, e2, h⟩
theorem WP.b {α β : Type} {x : Option α} {k : α → Option β} {P : α → Prop} {Q : β → Prop} (h : WP x P) (h2 : ∀ a, P a → WP (k a) Q) : WP (x.bind k) Q := by
  obtain ⟨a, e, p⟩ := h
  subst e
  exact h2 a p
theorem WP.mono {α : Type} {x : Option α} {P Q : α → Prop} (h : WP x P) (h2 : ∀ a, P a → Q a) : WP x Q := by
  obtain ⟨a, e, p⟩ := h
  exact ⟨a, e, h2 a p⟩
theorem WP.ret {α : Type} {a : α} {Q : α → Prop} (h : Q a) : WP (some a) Q := ⟨a, rfl, h⟩
theorem WP.it {σ ρ : Type} {body : σ → Option (σ ⊕ ρ)} {Post : ρ → Prop} (I : Nat → σ → Prop) (n : Nat) (hs : ∀ i s, i ≤ n → I i s → WP (body s) (Sum.elim (fun s' => i < n ∧ I (i + 1) s') Post)) : ∀ (N i : Nat) (s : σ), I i s → i ≤ n → n - i < N → WP (iter body N s) Post
  | 0, _, _, _, _, h => absurd h (Nat.not_lt_zero _)
  | N + 1, i, s, hI, hi, hN => by
    obtain ⟨x, e, h⟩ := hs i s hi hI
    unfold iter
    rw [e]
    cases x with
    | inl s' =>
      obtain ⟨h1, h2⟩ := h
      exact WP.it I n hs N (i + 1) s' h2 h1 (by omega)
    | inr r => exact ⟨r, rfl, h⟩
/-- two loops in step -/
theorem WP.it2 {σ ρ σ' ρ' : Type} {body : σ → Option (σ ⊕ ρ)} {body' : σ' → Option (σ' ⊕ ρ')} {Post : ρ → ρ' → Prop} (I : Nat → σ → σ' → Prop) (n : Nat) (hs : ∀ i s s', i ≤ n → I i s s' → WP (body s) (fun x => WP (body' s') (fun y => Sum.elim (fun t => Sum.elim (fun t' => i < n ∧ I (i + 1) t t') (fun _ => False) y) (fun r => Sum.elim (fun _ => False) (fun r' => Post r r') y) x))) : ∀ (N i : Nat) (s : σ) (s' : σ'), I i s s' → i ≤ n → n - i < N → WP (iter body N s) (fun r => WP (iter body' N s') (fun r' => Post r r'))
  | 0, _, _, _, _, _, h => absurd h (Nat.not_lt_zero _)
  | N + 1, i, s, s', hI, hi, hN => by
    obtain ⟨x, e, y, e', h⟩ := hs i s s' hi hI
    unfold iter
    rw [e, e']
    cases x with
    | inl t =>
      cases y with
      | inl t' =>
        obtain ⟨h1, h2⟩ := h
        exact WP.it2 I n hs N (i + 1) t t' h2 h1 (by omega)
      | inr r' => exact h.elim
    | inr r =>
      cases y with
      | inl t' => exact h.elim
      | inr r' => exact ⟨r, rfl, r', rfl, h⟩
theorem WP.ite {α : Type} {p : Prop} [Decidable p] {x y : Option α} {Q : α → Prop} (h1 : p → WP x Q) (h2 : ¬ p → WP y Q) : WP (if p then x else y) Q := by
  by_cases h : p
  · rw [if_pos h]; exact h1 h
  · rw [if_neg h]; exact h2 h
theorem s_iv_1 (C : CH) (f : Nat → Nat → Int32) : (s_iv C f).1 = C.1 := rfl
theorem s_iv_2 (C : CH) (f : Nat → Nat → Int32) : (s_iv C f).2.1 = C.2.1 := rfl
theorem s_iv_kd (C : CH) (f : Nat → Nat → Int32) : c_kd (s_iv C f) = c_kd C := rfl
theorem s_iv_ln (C : CH) (f : Nat → Nat → Int32) : c_ln (s_iv C f) = c_ln C := rfl
theorem s_iv_iv (C : CH) (f : Nat → Nat → Int32) : c_iv (s_iv C f) = f := rfl
theorem s_iv_jv (C : CH) (f : Nat → Nat → Int32) : c_jv (s_iv C f) = c_jv C := rfl
theorem s_iv_rv (C : CH) (f : Nat → Nat → Int32) : c_rv (s_iv C f) = c_rv C := rfl
theorem s_iv_ar (C : CH) (f : Nat → Nat → Int32) : c_ar (s_iv C f) = c_ar C := rfl
theorem s_iv_al (C : CH) (f : Nat → Nat → Int32) : c_al (s_iv C f) = c_al C := rfl
theorem s_iv_ro (C : CH) (f : Nat → Nat → Int32) : c_ro (s_iv C f) = c_ro C := rfl
theorem s_jv_1 (C : CH) (f : Nat → Int64) : (s_jv C f).1 = C.1 := rfl
theorem s_jv_2 (C : CH) (f : Nat → Int64) : (s_jv C f).2.1 = C.2.1 := rfl
theorem s_jv_kd (C : CH) (f : Nat → Int64) : c_kd (s_jv C f) = c_kd C := rfl
theorem s_jv_ln (C : CH) (f : Nat → Int64) : c_ln (s_jv C f) = c_ln C := rfl
theorem s_jv_iv (C : CH) (f : Nat → Int64) : c_iv (s_jv C f) = c_iv C := rfl
theorem s_jv_jv (C : CH) (f : Nat → Int64) : c_jv (s_jv C f) = f := rfl
theorem s_jv_rv (C : CH) (f : Nat → Int64) : c_rv (s_jv C f) = c_rv C := rfl
theorem s_jv_ar (C : CH) (f : Nat → Int64) : c_ar (s_jv C f) = c_ar C := rfl
theorem s_jv_al (C : CH) (f : Nat → Int64) : c_al (s_jv C f) = c_al C := rfl
theorem s_jv_ro (C : CH) (f : Nat → Int64) : c_ro (s_jv C f) = c_ro C := rfl
theorem s_rv_1 (C : CH) (f : Nat → Nat → Option Nat) : (s_rv C f).1 = C.1 := rfl
theorem s_rv_2 (C : CH) (f : Nat → Nat → Option Nat) : (s_rv C f).2.1 = C.2.1 := rfl
theorem s_rv_kd (C : CH) (f : Nat → Nat → Option Nat) : c_kd (s_rv C f) = c_kd C := rfl
theorem s_rv_ln (C : CH) (f : Nat → Nat → Option Nat) : c_ln (s_rv C f) = c_ln C := rfl
theorem s_rv_iv (C : CH) (f : Nat → Nat → Option Nat) : c_iv (s_rv C f) = c_iv C := rfl
theorem s_rv_jv (C : CH) (f : Nat → Nat → Option Nat) : c_jv (s_rv C f) = c_jv C := rfl
theorem s_rv_rv (C : CH) (f : Nat → Nat → Option Nat) : c_rv (s_rv C f) = f := rfl
theorem s_rv_ar (C : CH) (f : Nat → Nat → Option Nat) : c_ar (s_rv C f) = c_ar C := rfl
theorem s_rv_al (C : CH) (f : Nat → Nat → Option Nat) : c_al (s_rv C f) = c_al C := rfl
theorem s_rv_ro (C : CH) (f : Nat → Nat → Option Nat) : c_ro (s_rv C f) = c_ro C := rfl
theorem s_ar_1 (C : CH) (f : Nat → Nat → Int32) : (s_ar C f).1 = C.1 := rfl
theorem s_ar_2 (C : CH) (f : Nat → Nat → Int32) : (s_ar C f).2.1 = C.2.1 := rfl
theorem s_ar_kd (C : CH) (f : Nat → Nat → Int32) : c_kd (s_ar C f) = c_kd C := rfl
theorem s_ar_ln (C : CH) (f : Nat → Nat → Int32) : c_ln (s_ar C f) = c_ln C := rfl
theorem s_ar_iv (C : CH) (f : Nat → Nat → Int32) : c_iv (s_ar C f) = c_iv C := rfl
theorem s_ar_jv (C : CH) (f : Nat → Nat → Int32) : c_jv (s_ar C f) = c_jv C := rfl
theorem s_ar_rv (C : CH) (f : Nat → Nat → Int32) : c_rv (s_ar C f) = c_rv C := rfl
theorem s_ar_ar (C : CH) (f : Nat → Nat → Int32) : c_ar (s_ar C f) = f := rfl
theorem s_ar_al (C : CH) (f : Nat → Nat → Int32) : c_al (s_ar C f) = c_al C := rfl
theorem s_ar_ro (C : CH) (f : Nat → Nat → Int32) : c_ro (s_ar C f) = c_ro C := rfl
theorem s_al_1 (C : CH) (f : Nat → Nat → Int64) : (s_al C f).1 = C.1 := rfl
theorem s_al_2 (C : CH) (f : Nat → Nat → Int64) : (s_al C f).2.1 = C.2.1 := rfl
theorem s_al_kd (C : CH) (f : Nat → Nat → Int64) : c_kd (s_al C f) = c_kd C := rfl
theorem s_al_ln (C : CH) (f : Nat → Nat → Int64) : c_ln (s_al C f) = c_ln C := rfl
theorem s_al_iv (C : CH) (f : Nat → Nat → Int64) : c_iv (s_al C f) = c_iv C := rfl
theorem s_al_jv (C : CH) (f : Nat → Nat → Int64) : c_jv (s_al C f) = c_jv C := rfl
theorem s_al_rv (C : CH) (f : Nat → Nat → Int64) : c_rv (s_al C f) = c_rv C := rfl
theorem s_al_ar (C : CH) (f : Nat → Nat → Int64) : c_ar (s_al C f) = c_ar C := rfl
theorem s_al_al (C : CH) (f : Nat → Nat → Int64) : c_al (s_al C f) = f := rfl
theorem s_al_ro (C : CH) (f : Nat → Nat → Int64) : c_ro (s_al C f) = c_ro C := rfl
theorem s_ro_1 (C : CH) (f : Nat → Nat → Option Nat) : (s_ro C f).1 = C.1 := rfl
theorem s_ro_2 (C : CH) (f : Nat → Nat → Option Nat) : (s_ro C f).2.1 = C.2.1 := rfl
theorem s_ro_kd (C : CH) (f : Nat → Nat → Option Nat) : c_kd (s_ro C f) = c_kd C := rfl
theorem s_ro_ln (C : CH) (f : Nat → Nat → Option Nat) : c_ln (s_ro C f) = c_ln C := rfl
theorem s_ro_iv (C : CH) (f : Nat → Nat → Option Nat) : c_iv (s_ro C f) = c_iv C := rfl
theorem s_ro_jv (C : CH) (f : Nat → Nat → Option Nat) : c_jv (s_ro C f) = c_jv C := rfl
theorem s_ro_rv (C : CH) (f : Nat → Nat → Option Nat) : c_rv (s_ro C f) = c_rv C := rfl
theorem s_ro_ar (C : CH) (f : Nat → Nat → Option Nat) : c_ar (s_ro C f) = c_ar C := rfl
theorem s_ro_al (C : CH) (f : Nat → Nat → Option Nat) : c_al (s_ro C f) = c_al C := rfl
theorem s_ro_ro (C : CH) (f : Nat → Nat → Option Nat) : c_ro (s_ro C f) = f := rfl
theorem tcl_0 {C : CH} {a : Nat} (h : c_kd C a = 1) : tcl C a 0 = some () := by unfold tcl; rw [if_pos ⟨h, by decide⟩]
theorem tgI_0_0 {C : CH} {a : Nat} (h : c_kd C a = 1) : tgI C a 0 0 = some (c_iv C a 0) := by unfold tgI; rw [if_pos ⟨h, by decide, by decide, by decide⟩]
theorem tpI_0_0 {C : CH} {a : Nat} {x : Int32} (h : c_kd C a = 1) : tpF C a 0 0 (.int x) = some (s_iv C (up2 (c_iv C) a 0 x)) := by unfold tpF; rw [if_pos ⟨h, by decide, by decide⟩]; rfl
theorem tgR_0_1 {C : CH} {a : Nat} (h : c_kd C a = 1) : tgR C a 0 1 = c_rv C a 1 := by unfold tgR; rw [if_pos ⟨h, by decide, by decide, by decide⟩]
theorem tpR_0_1 {C : CH} {a r : Nat} (h : c_kd C a = 1) : tpF C a 0 1 (.ref r) = some (s_rv C (up2 (c_rv C) a 1 (some r))) := by unfold tpF; rw [if_pos ⟨h, by decide, by decide⟩]; rfl
theorem tgI_0_2 {C : CH} {a : Nat} (h : c_kd C a = 1) : tgI C a 0 2 = some (c_iv C a 2) := by unfold tgI; rw [if_pos ⟨h, by decide, by decide, by decide⟩]
theorem tpI_0_2 {C : CH} {a : Nat} {x : Int32} (h : c_kd C a = 1) : tpF C a 0 2 (.int x) = some (s_iv C (up2 (c_iv C) a 2 x)) := by unfold tpF; rw [if_pos ⟨h, by decide, by decide⟩]; rfl
theorem tcl_1 {C : CH} {a : Nat} (h : c_kd C a = 2) : tcl C a 1 = some () := by unfold tcl; rw [if_pos ⟨h, by decide⟩]
theorem tgR_1_0 {C : CH} {a : Nat} (h : c_kd C a = 2) : tgR C a 1 0 = c_rv C a 0 := by unfold tgR; rw [if_pos ⟨h, by decide, by decide, by decide⟩]
theorem tpR_1_0 {C : CH} {a r : Nat} (h : c_kd C a = 2) : tpF C a 1 0 (.ref r) = some (s_rv C (up2 (c_rv C) a 0 (some r))) := by unfold tpF; rw [if_pos ⟨h, by decide, by decide⟩]; rfl
theorem tgR_1_1 {C : CH} {a : Nat} (h : c_kd C a = 2) : tgR C a 1 1 = c_rv C a 1 := by unfold tgR; rw [if_pos ⟨h, by decide, by decide, by decide⟩]
theorem tpR_1_1 {C : CH} {a r : Nat} (h : c_kd C a = 2) : tpF C a 1 1 (.ref r) = some (s_rv C (up2 (c_rv C) a 1 (some r))) := by unfold tpF; rw [if_pos ⟨h, by decide, by decide⟩]; rfl
theorem tgR_1_2 {C : CH} {a : Nat} (h : c_kd C a = 2) : tgR C a 1 2 = c_rv C a 2 := by unfold tgR; rw [if_pos ⟨h, by decide, by decide, by decide⟩]
theorem tpR_1_2 {C : CH} {a r : Nat} (h : c_kd C a = 2) : tpF C a 1 2 (.ref r) = some (s_rv C (up2 (c_rv C) a 2 (some r))) := by unfold tpF; rw [if_pos ⟨h, by decide, by decide⟩]; rfl
theorem tgR_1_3 {C : CH} {a : Nat} (h : c_kd C a = 2) : tgR C a 1 3 = c_rv C a 3 := by unfold tgR; rw [if_pos ⟨h, by decide, by decide, by decide⟩]
theorem tpR_1_3 {C : CH} {a r : Nat} (h : c_kd C a = 2) : tpF C a 1 3 (.ref r) = some (s_rv C (up2 (c_rv C) a 3 (some r))) := by unfold tpF; rw [if_pos ⟨h, by decide, by decide⟩]; rfl
theorem tgR_1_4 {C : CH} {a : Nat} (h : c_kd C a = 2) : tgR C a 1 4 = c_rv C a 4 := by unfold tgR; rw [if_pos ⟨h, by decide, by decide, by decide⟩]
theorem tpR_1_4 {C : CH} {a r : Nat} (h : c_kd C a = 2) : tpF C a 1 4 (.ref r) = some (s_rv C (up2 (c_rv C) a 4 (some r))) := by unfold tpF; rw [if_pos ⟨h, by decide, by decide⟩]; rfl
theorem tgR_1_5 {C : CH} {a : Nat} (h : c_kd C a = 2) : tgR C a 1 5 = c_rv C a 5 := by unfold tgR; rw [if_pos ⟨h, by decide, by decide, by decide⟩]
theorem tpR_1_5 {C : CH} {a r : Nat} (h : c_kd C a = 2) : tpF C a 1 5 (.ref r) = some (s_rv C (up2 (c_rv C) a 5 (some r))) := by unfold tpF; rw [if_pos ⟨h, by decide, by decide⟩]; rfl
theorem tgI_1_6 {C : CH} {a : Nat} (h : c_kd C a = 2) : tgI C a 1 6 = some (c_iv C a 6) := by unfold tgI; rw [if_pos ⟨h, by decide, by decide, by decide⟩]
theorem tpI_1_6 {C : CH} {a : Nat} {x : Int32} (h : c_kd C a = 2) : tpF C a 1 6 (.int x) = some (s_iv C (up2 (c_iv C) a 6 x)) := by unfold tpF; rw [if_pos ⟨h, by decide, by decide⟩]; rfl
theorem tgI_1_7 {C : CH} {a : Nat} (h : c_kd C a = 2) : tgI C a 1 7 = some (c_iv C a 7) := by unfold tgI; rw [if_pos ⟨h, by decide, by decide, by decide⟩]
theorem tpI_1_7 {C : CH} {a : Nat} {x : Int32} (h : c_kd C a = 2) : tpF C a 1 7 (.int x) = some (s_iv C (up2 (c_iv C) a 7 x)) := by unfold tpF; rw [if_pos ⟨h, by decide, by decide⟩]; rfl
theorem tgI_1_8 {C : CH} {a : Nat} (h : c_kd C a = 2) : tgI C a 1 8 = some (c_iv C a 8) := by unfold tgI; rw [if_pos ⟨h, by decide, by decide, by decide⟩]
theorem tpI_1_8 {C : CH} {a : Nat} {x : Int32} (h : c_kd C a = 2) : tpF C a 1 8 (.int x) = some (s_iv C (up2 (c_iv C) a 8 x)) := by unfold tpF; rw [if_pos ⟨h, by decide, by decide⟩]; rfl
theorem tcl_2 {C : CH} {a : Nat} (h : c_kd C a = 3) : tcl C a 2 = some () := by unfold tcl; rw [if_pos ⟨h, by decide⟩]
theorem tgR_2_0 {C : CH} {a : Nat} (h : c_kd C a = 3) : tgR C a 2 0 = c_rv C a 0 := by unfold tgR; rw [if_pos ⟨h, by decide, by decide, by decide⟩]
theorem tpR_2_0 {C : CH} {a r : Nat} (h : c_kd C a = 3) : tpF C a 2 0 (.ref r) = some (s_rv C (up2 (c_rv C) a 0 (some r))) := by unfold tpF; rw [if_pos ⟨h, by decide, by decide⟩]; rfl
theorem tgR_2_1 {C : CH} {a : Nat} (h : c_kd C a = 3) : tgR C a 2 1 = c_rv C a 1 := by unfold tgR; rw [if_pos ⟨h, by decide, by decide, by decide⟩]
theorem tpR_2_1 {C : CH} {a r : Nat} (h : c_kd C a = 3) : tpF C a 2 1 (.ref r) = some (s_rv C (up2 (c_rv C) a 1 (some r))) := by unfold tpF; rw [if_pos ⟨h, by decide, by decide⟩]; rfl
theorem tgR_2_2 {C : CH} {a : Nat} (h : c_kd C a = 3) : tgR C a 2 2 = c_rv C a 2 := by unfold tgR; rw [if_pos ⟨h, by decide, by decide, by decide⟩]
theorem tpR_2_2 {C : CH} {a r : Nat} (h : c_kd C a = 3) : tpF C a 2 2 (.ref r) = some (s_rv C (up2 (c_rv C) a 2 (some r))) := by unfold tpF; rw [if_pos ⟨h, by decide, by decide⟩]; rfl
theorem tgR_2_3 {C : CH} {a : Nat} (h : c_kd C a = 3) : tgR C a 2 3 = c_rv C a 3 := by unfold tgR; rw [if_pos ⟨h, by decide, by decide, by decide⟩]
theorem tpR_2_3 {C : CH} {a r : Nat} (h : c_kd C a = 3) : tpF C a 2 3 (.ref r) = some (s_rv C (up2 (c_rv C) a 3 (some r))) := by unfold tpF; rw [if_pos ⟨h, by decide, by decide⟩]; rfl
theorem tgR_2_4 {C : CH} {a : Nat} (h : c_kd C a = 3) : tgR C a 2 4 = c_rv C a 4 := by unfold tgR; rw [if_pos ⟨h, by decide, by decide, by decide⟩]
theorem tpR_2_4 {C : CH} {a r : Nat} (h : c_kd C a = 3) : tpF C a 2 4 (.ref r) = some (s_rv C (up2 (c_rv C) a 4 (some r))) := by unfold tpF; rw [if_pos ⟨h, by decide, by decide⟩]; rfl
theorem tgI_2_5 {C : CH} {a : Nat} (h : c_kd C a = 3) : tgI C a 2 5 = some (c_iv C a 5) := by unfold tgI; rw [if_pos ⟨h, by decide, by decide, by decide⟩]
theorem tpI_2_5 {C : CH} {a : Nat} {x : Int32} (h : c_kd C a = 3) : tpF C a 2 5 (.int x) = some (s_iv C (up2 (c_iv C) a 5 x)) := by unfold tpF; rw [if_pos ⟨h, by decide, by decide⟩]; rfl
theorem tgI_2_6 {C : CH} {a : Nat} (h : c_kd C a = 3) : tgI C a 2 6 = some (c_iv C a 6) := by unfold tgI; rw [if_pos ⟨h, by decide, by decide, by decide⟩]
theorem tpI_2_6 {C : CH} {a : Nat} {x : Int32} (h : c_kd C a = 3) : tpF C a 2 6 (.int x) = some (s_iv C (up2 (c_iv C) a 6 x)) := by unfold tpF; rw [if_pos ⟨h, by decide, by decide⟩]; rfl
theorem tgI_2_7 {C : CH} {a : Nat} (h : c_kd C a = 3) : tgI C a 2 7 = some (c_iv C a 7) := by unfold tgI; rw [if_pos ⟨h, by decide, by decide, by decide⟩]
theorem tpI_2_7 {C : CH} {a : Nat} {x : Int32} (h : c_kd C a = 3) : tpF C a 2 7 (.int x) = some (s_iv C (up2 (c_iv C) a 7 x)) := by unfold tpF; rw [if_pos ⟨h, by decide, by decide⟩]; rfl
theorem tcl_3 {C : CH} {a : Nat} (h : c_kd C a = 4) : tcl C a 3 = some () := by unfold tcl; rw [if_pos ⟨h, by decide⟩]
theorem tgR_3_0 {C : CH} {a : Nat} (h : c_kd C a = 4) : tgR C a 3 0 = c_rv C a 0 := by unfold tgR; rw [if_pos ⟨h, by decide, by decide, by decide⟩]
theorem tpR_3_0 {C : CH} {a r : Nat} (h : c_kd C a = 4) : tpF C a 3 0 (.ref r) = some (s_rv C (up2 (c_rv C) a 0 (some r))) := by unfold tpF; rw [if_pos ⟨h, by decide, by decide⟩]; rfl
theorem tgR_3_1 {C : CH} {a : Nat} (h : c_kd C a = 4) : tgR C a 3 1 = c_rv C a 1 := by unfold tgR; rw [if_pos ⟨h, by decide, by decide, by decide⟩]
theorem tpR_3_1 {C : CH} {a r : Nat} (h : c_kd C a = 4) : tpF C a 3 1 (.ref r) = some (s_rv C (up2 (c_rv C) a 1 (some r))) := by unfold tpF; rw [if_pos ⟨h, by decide, by decide⟩]; rfl
theorem tgR_3_2 {C : CH} {a : Nat} (h : c_kd C a = 4) : tgR C a 3 2 = c_rv C a 2 := by unfold tgR; rw [if_pos ⟨h, by decide, by decide, by decide⟩]
theorem tpR_3_2 {C : CH} {a r : Nat} (h : c_kd C a = 4) : tpF C a 3 2 (.ref r) = some (s_rv C (up2 (c_rv C) a 2 (some r))) := by unfold tpF; rw [if_pos ⟨h, by decide, by decide⟩]; rfl
theorem tcl_4 {C : CH} {a : Nat} (h : c_kd C a = 5) : tcl C a 4 = some () := by unfold tcl; rw [if_pos ⟨h, by decide⟩]
theorem tgR_4_0 {C : CH} {a : Nat} (h : c_kd C a = 5) : tgR C a 4 0 = c_rv C a 0 := by unfold tgR; rw [if_pos ⟨h, by decide, by decide, by decide⟩]
theorem tpR_4_0 {C : CH} {a r : Nat} (h : c_kd C a = 5) : tpF C a 4 0 (.ref r) = some (s_rv C (up2 (c_rv C) a 0 (some r))) := by unfold tpF; rw [if_pos ⟨h, by decide, by decide⟩]; rfl
theorem tgI_4_1 {C : CH} {a : Nat} (h : c_kd C a = 5) : tgI C a 4 1 = some (c_iv C a 1) := by unfold tgI; rw [if_pos ⟨h, by decide, by decide, by decide⟩]
theorem tpI_4_1 {C : CH} {a : Nat} {x : Int32} (h : c_kd C a = 5) : tpF C a 4 1 (.int x) = some (s_iv C (up2 (c_iv C) a 1 x)) := by unfold tpF; rw [if_pos ⟨h, by decide, by decide⟩]; rfl
theorem tgI_4_2 {C : CH} {a : Nat} (h : c_kd C a = 5) : tgI C a 4 2 = some (c_iv C a 2) := by unfold tgI; rw [if_pos ⟨h, by decide, by decide, by decide⟩]
theorem tpI_4_2 {C : CH} {a : Nat} {x : Int32} (h : c_kd C a = 5) : tpF C a 4 2 (.int x) = some (s_iv C (up2 (c_iv C) a 2 x)) := by unfold tpF; rw [if_pos ⟨h, by decide, by decide⟩]; rfl
theorem tgI_4_3 {C : CH} {a : Nat} (h : c_kd C a = 5) : tgI C a 4 3 = some (c_iv C a 3) := by unfold tgI; rw [if_pos ⟨h, by decide, by decide, by decide⟩]
theorem tpI_4_3 {C : CH} {a : Nat} {x : Int32} (h : c_kd C a = 5) : tpF C a 4 3 (.int x) = some (s_iv C (up2 (c_iv C) a 3 x)) := by unfold tpF; rw [if_pos ⟨h, by decide, by decide⟩]; rfl
theorem tgI_4_4 {C : CH} {a : Nat} (h : c_kd C a = 5) : tgI C a 4 4 = some (c_iv C a 4) := by unfold tgI; rw [if_pos ⟨h, by decide, by decide, by decide⟩]
theorem tpI_4_4 {C : CH} {a : Nat} {x : Int32} (h : c_kd C a = 5) : tpF C a 4 4 (.int x) = some (s_iv C (up2 (c_iv C) a 4 x)) := by unfold tpF; rw [if_pos ⟨h, by decide, by decide⟩]; rfl
theorem tgI_4_5 {C : CH} {a : Nat} (h : c_kd C a = 5) : tgI C a 4 5 = some (c_iv C a 5) := by unfold tgI; rw [if_pos ⟨h, by decide, by decide, by decide⟩]
theorem tpI_4_5 {C : CH} {a : Nat} {x : Int32} (h : c_kd C a = 5) : tpF C a 4 5 (.int x) = some (s_iv C (up2 (c_iv C) a 5 x)) := by unfold tpF; rw [if_pos ⟨h, by decide, by decide⟩]; rfl
theorem tcl_5 {C : CH} {a : Nat} (h : c_kd C a = 6) : tcl C a 5 = some () := by unfold tcl; rw [if_pos ⟨h, by decide⟩]
theorem tgR_5_0 {C : CH} {a : Nat} (h : c_kd C a = 6) : tgR C a 5 0 = c_rv C a 0 := by unfold tgR; rw [if_pos ⟨h, by decide, by decide, by decide⟩]
theorem tpR_5_0 {C : CH} {a r : Nat} (h : c_kd C a = 6) : tpF C a 5 0 (.ref r) = some (s_rv C (up2 (c_rv C) a 0 (some r))) := by unfold tpF; rw [if_pos ⟨h, by decide, by decide⟩]; rfl
theorem tgR_5_1 {C : CH} {a : Nat} (h : c_kd C a = 6) : tgR C a 5 1 = c_rv C a 1 := by unfold tgR; rw [if_pos ⟨h, by decide, by decide, by decide⟩]
theorem tpR_5_1 {C : CH} {a r : Nat} (h : c_kd C a = 6) : tpF C a 5 1 (.ref r) = some (s_rv C (up2 (c_rv C) a 1 (some r))) := by unfold tpF; rw [if_pos ⟨h, by decide, by decide⟩]; rfl
theorem tgR_5_2 {C : CH} {a : Nat} (h : c_kd C a = 6) : tgR C a 5 2 = c_rv C a 2 := by unfold tgR; rw [if_pos ⟨h, by decide, by decide, by decide⟩]
theorem tpR_5_2 {C : CH} {a r : Nat} (h : c_kd C a = 6) : tpF C a 5 2 (.ref r) = some (s_rv C (up2 (c_rv C) a 2 (some r))) := by unfold tpF; rw [if_pos ⟨h, by decide, by decide⟩]; rfl
theorem tgI_5_3 {C : CH} {a : Nat} (h : c_kd C a = 6) : tgI C a 5 3 = some (c_iv C a 3) := by unfold tgI; rw [if_pos ⟨h, by decide, by decide, by decide⟩]
theorem tpI_5_3 {C : CH} {a : Nat} {x : Int32} (h : c_kd C a = 6) : tpF C a 5 3 (.int x) = some (s_iv C (up2 (c_iv C) a 3 x)) := by unfold tpF; rw [if_pos ⟨h, by decide, by decide⟩]; rfl
theorem tgJ_5_4 {C : CH} {a : Nat} (h : c_kd C a = 6) : tgJ C a 5 4 = some (c_jv C a) := by unfold tgJ; rw [if_pos ⟨h, by decide, by decide, by decide⟩]
theorem tpJ_5_4 {C : CH} {a : Nat} {x : Int64} (h : c_kd C a = 6) : tpF C a 5 4 (.long x) = some (s_jv C (va_up (c_jv C) a x)) := by unfold tpF; rw [if_pos ⟨h, by decide, by decide⟩]; rfl
theorem tcl_6 {C : CH} {a : Nat} (h : c_kd C a = 7) : tcl C a 6 = some () := by unfold tcl; rw [if_pos ⟨h, by decide⟩]
theorem tgR_6_0 {C : CH} {a : Nat} (h : c_kd C a = 7) : tgR C a 6 0 = c_rv C a 0 := by unfold tgR; rw [if_pos ⟨h, by decide, by decide, by decide⟩]
theorem tpR_6_0 {C : CH} {a r : Nat} (h : c_kd C a = 7) : tpF C a 6 0 (.ref r) = some (s_rv C (up2 (c_rv C) a 0 (some r))) := by unfold tpF; rw [if_pos ⟨h, by decide, by decide⟩]; rfl
theorem tgR_6_1 {C : CH} {a : Nat} (h : c_kd C a = 7) : tgR C a 6 1 = c_rv C a 1 := by unfold tgR; rw [if_pos ⟨h, by decide, by decide, by decide⟩]
theorem tpR_6_1 {C : CH} {a r : Nat} (h : c_kd C a = 7) : tpF C a 6 1 (.ref r) = some (s_rv C (up2 (c_rv C) a 1 (some r))) := by unfold tpF; rw [if_pos ⟨h, by decide, by decide⟩]; rfl
theorem tgI_6_2 {C : CH} {a : Nat} (h : c_kd C a = 7) : tgI C a 6 2 = some (c_iv C a 2) := by unfold tgI; rw [if_pos ⟨h, by decide, by decide, by decide⟩]
theorem tpI_6_2 {C : CH} {a : Nat} {x : Int32} (h : c_kd C a = 7) : tpF C a 6 2 (.int x) = some (s_iv C (up2 (c_iv C) a 2 x)) := by unfold tpF; rw [if_pos ⟨h, by decide, by decide⟩]; rfl
theorem tcl_7 {C : CH} {a : Nat} (h : c_kd C a = 8) : tcl C a 7 = some () := by unfold tcl; rw [if_pos ⟨h, by decide⟩]
theorem tgR_7_0 {C : CH} {a : Nat} (h : c_kd C a = 8) : tgR C a 7 0 = c_rv C a 0 := by unfold tgR; rw [if_pos ⟨h, by decide, by decide, by decide⟩]
theorem tpR_7_0 {C : CH} {a r : Nat} (h : c_kd C a = 8) : tpF C a 7 0 (.ref r) = some (s_rv C (up2 (c_rv C) a 0 (some r))) := by unfold tpF; rw [if_pos ⟨h, by decide, by decide⟩]; rfl
theorem tgI_7_1 {C : CH} {a : Nat} (h : c_kd C a = 8) : tgI C a 7 1 = some (c_iv C a 1) := by unfold tgI; rw [if_pos ⟨h, by decide, by decide, by decide⟩]
theorem tpI_7_1 {C : CH} {a : Nat} {x : Int32} (h : c_kd C a = 8) : tpF C a 7 1 (.int x) = some (s_iv C (up2 (c_iv C) a 1 x)) := by unfold tpF; rw [if_pos ⟨h, by decide, by decide⟩]; rfl
theorem tcl_8 {C : CH} {a : Nat} (h : c_kd C a = 9) : tcl C a 8 = some () := by unfold tcl; rw [if_pos ⟨h, by decide⟩]
theorem tgR_8_0 {C : CH} {a : Nat} (h : c_kd C a = 9) : tgR C a 8 0 = c_rv C a 0 := by unfold tgR; rw [if_pos ⟨h, by decide, by decide, by decide⟩]
theorem tpR_8_0 {C : CH} {a r : Nat} (h : c_kd C a = 9) : tpF C a 8 0 (.ref r) = some (s_rv C (up2 (c_rv C) a 0 (some r))) := by unfold tpF; rw [if_pos ⟨h, by decide, by decide⟩]; rfl
theorem tgR_8_1 {C : CH} {a : Nat} (h : c_kd C a = 9) : tgR C a 8 1 = c_rv C a 1 := by unfold tgR; rw [if_pos ⟨h, by decide, by decide, by decide⟩]
theorem tpR_8_1 {C : CH} {a r : Nat} (h : c_kd C a = 9) : tpF C a 8 1 (.ref r) = some (s_rv C (up2 (c_rv C) a 1 (some r))) := by unfold tpF; rw [if_pos ⟨h, by decide, by decide⟩]; rfl
theorem tcl_9 {C : CH} {a : Nat} (h : c_kd C a = 10) : tcl C a 9 = some () := by unfold tcl; rw [if_pos ⟨h, by decide⟩]
theorem tgI_9_0 {C : CH} {a : Nat} (h : c_kd C a = 10) : tgI C a 9 0 = some (c_iv C a 0) := by unfold tgI; rw [if_pos ⟨h, by decide, by decide, by decide⟩]
theorem tpI_9_0 {C : CH} {a : Nat} {x : Int32} (h : c_kd C a = 10) : tpF C a 9 0 (.int x) = some (s_iv C (up2 (c_iv C) a 0 x)) := by unfold tpF; rw [if_pos ⟨h, by decide, by decide⟩]; rfl
theorem tgI_9_1 {C : CH} {a : Nat} (h : c_kd C a = 10) : tgI C a 9 1 = some (c_iv C a 1) := by unfold tgI; rw [if_pos ⟨h, by decide, by decide, by decide⟩]
theorem tpI_9_1 {C : CH} {a : Nat} {x : Int32} (h : c_kd C a = 10) : tpF C a 9 1 (.int x) = some (s_iv C (up2 (c_iv C) a 1 x)) := by unfold tpF; rw [if_pos ⟨h, by decide, by decide⟩]; rfl
theorem tgI_9_2 {C : CH} {a : Nat} (h : c_kd C a = 10) : tgI C a 9 2 = some (c_iv C a 2) := by unfold tgI; rw [if_pos ⟨h, by decide, by decide, by decide⟩]
theorem tpI_9_2 {C : CH} {a : Nat} {x : Int32} (h : c_kd C a = 10) : tpF C a 9 2 (.int x) = some (s_iv C (up2 (c_iv C) a 2 x)) := by unfold tpF; rw [if_pos ⟨h, by decide, by decide⟩]; rfl
theorem tcl_10 {C : CH} {a : Nat} (h : c_kd C a = 11) : tcl C a 10 = some () := by unfold tcl; rw [if_pos ⟨h, by decide⟩]
theorem tgR_10_0 {C : CH} {a : Nat} (h : c_kd C a = 11) : tgR C a 10 0 = c_rv C a 0 := by unfold tgR; rw [if_pos ⟨h, by decide, by decide, by decide⟩]
theorem tpR_10_0 {C : CH} {a r : Nat} (h : c_kd C a = 11) : tpF C a 10 0 (.ref r) = some (s_rv C (up2 (c_rv C) a 0 (some r))) := by unfold tpF; rw [if_pos ⟨h, by decide, by decide⟩]; rfl
theorem tgR_10_1 {C : CH} {a : Nat} (h : c_kd C a = 11) : tgR C a 10 1 = c_rv C a 1 := by unfold tgR; rw [if_pos ⟨h, by decide, by decide, by decide⟩]
theorem tpR_10_1 {C : CH} {a r : Nat} (h : c_kd C a = 11) : tpF C a 10 1 (.ref r) = some (s_rv C (up2 (c_rv C) a 1 (some r))) := by unfold tpF; rw [if_pos ⟨h, by decide, by decide⟩]; rfl
theorem tgR_10_2 {C : CH} {a : Nat} (h : c_kd C a = 11) : tgR C a 10 2 = c_rv C a 2 := by unfold tgR; rw [if_pos ⟨h, by decide, by decide, by decide⟩]
theorem tpR_10_2 {C : CH} {a r : Nat} (h : c_kd C a = 11) : tpF C a 10 2 (.ref r) = some (s_rv C (up2 (c_rv C) a 2 (some r))) := by unfold tpF; rw [if_pos ⟨h, by decide, by decide⟩]; rfl
theorem tgR_10_3 {C : CH} {a : Nat} (h : c_kd C a = 11) : tgR C a 10 3 = c_rv C a 3 := by unfold tgR; rw [if_pos ⟨h, by decide, by decide, by decide⟩]
theorem tpR_10_3 {C : CH} {a r : Nat} (h : c_kd C a = 11) : tpF C a 10 3 (.ref r) = some (s_rv C (up2 (c_rv C) a 3 (some r))) := by unfold tpF; rw [if_pos ⟨h, by decide, by decide⟩]; rfl
theorem tgI_10_4 {C : CH} {a : Nat} (h : c_kd C a = 11) : tgI C a 10 4 = some (c_iv C a 4) := by unfold tgI; rw [if_pos ⟨h, by decide, by decide, by decide⟩]
theorem tpI_10_4 {C : CH} {a : Nat} {x : Int32} (h : c_kd C a = 11) : tpF C a 10 4 (.int x) = some (s_iv C (up2 (c_iv C) a 4 x)) := by unfold tpF; rw [if_pos ⟨h, by decide, by decide⟩]; rfl
theorem tgI_10_5 {C : CH} {a : Nat} (h : c_kd C a = 11) : tgI C a 10 5 = some (c_iv C a 5) := by unfold tgI; rw [if_pos ⟨h, by decide, by decide, by decide⟩]
theorem tpI_10_5 {C : CH} {a : Nat} {x : Int32} (h : c_kd C a = 11) : tpF C a 10 5 (.int x) = some (s_iv C (up2 (c_iv C) a 5 x)) := by unfold tpF; rw [if_pos ⟨h, by decide, by decide⟩]; rfl
theorem tgI_10_6 {C : CH} {a : Nat} (h : c_kd C a = 11) : tgI C a 10 6 = some (c_iv C a 6) := by unfold tgI; rw [if_pos ⟨h, by decide, by decide, by decide⟩]
theorem tpI_10_6 {C : CH} {a : Nat} {x : Int32} (h : c_kd C a = 11) : tpF C a 10 6 (.int x) = some (s_iv C (up2 (c_iv C) a 6 x)) := by unfold tpF; rw [if_pos ⟨h, by decide, by decide⟩]; rfl
theorem tgI_10_7 {C : CH} {a : Nat} (h : c_kd C a = 11) : tgI C a 10 7 = some (c_iv C a 7) := by unfold tgI; rw [if_pos ⟨h, by decide, by decide, by decide⟩]
theorem tpI_10_7 {C : CH} {a : Nat} {x : Int32} (h : c_kd C a = 11) : tpF C a 10 7 (.int x) = some (s_iv C (up2 (c_iv C) a 7 x)) := by unfold tpF; rw [if_pos ⟨h, by decide, by decide⟩]; rfl
theorem tgI_10_8 {C : CH} {a : Nat} (h : c_kd C a = 11) : tgI C a 10 8 = some (c_iv C a 8) := by unfold tgI; rw [if_pos ⟨h, by decide, by decide, by decide⟩]
theorem tpI_10_8 {C : CH} {a : Nat} {x : Int32} (h : c_kd C a = 11) : tpF C a 10 8 (.int x) = some (s_iv C (up2 (c_iv C) a 8 x)) := by unfold tpF; rw [if_pos ⟨h, by decide, by decide⟩]; rfl
theorem tcl_11 {C : CH} {a : Nat} (h : c_kd C a = 12) : tcl C a 11 = some () := by unfold tcl; rw [if_pos ⟨h, by decide⟩]
theorem tgI_11_0 {C : CH} {a : Nat} (h : c_kd C a = 12) : tgI C a 11 0 = some (c_iv C a 0) := by unfold tgI; rw [if_pos ⟨h, by decide, by decide, by decide⟩]
theorem tpI_11_0 {C : CH} {a : Nat} {x : Int32} (h : c_kd C a = 12) : tpF C a 11 0 (.int x) = some (s_iv C (up2 (c_iv C) a 0 x)) := by unfold tpF; rw [if_pos ⟨h, by decide, by decide⟩]; rfl
theorem tgI_11_1 {C : CH} {a : Nat} (h : c_kd C a = 12) : tgI C a 11 1 = some (c_iv C a 1) := by unfold tgI; rw [if_pos ⟨h, by decide, by decide, by decide⟩]
theorem tpI_11_1 {C : CH} {a : Nat} {x : Int32} (h : c_kd C a = 12) : tpF C a 11 1 (.int x) = some (s_iv C (up2 (c_iv C) a 1 x)) := by unfold tpF; rw [if_pos ⟨h, by decide, by decide⟩]; rfl
theorem tcl_12 {C : CH} {a : Nat} (h : c_kd C a = 13) : tcl C a 12 = some () := by unfold tcl; rw [if_pos ⟨h, by decide⟩]
theorem tgR_12_0 {C : CH} {a : Nat} (h : c_kd C a = 13) : tgR C a 12 0 = c_rv C a 0 := by unfold tgR; rw [if_pos ⟨h, by decide, by decide, by decide⟩]
theorem tpR_12_0 {C : CH} {a r : Nat} (h : c_kd C a = 13) : tpF C a 12 0 (.ref r) = some (s_rv C (up2 (c_rv C) a 0 (some r))) := by unfold tpF; rw [if_pos ⟨h, by decide, by decide⟩]; rfl
theorem tgR_12_1 {C : CH} {a : Nat} (h : c_kd C a = 13) : tgR C a 12 1 = c_rv C a 1 := by unfold tgR; rw [if_pos ⟨h, by decide, by decide, by decide⟩]
theorem tpR_12_1 {C : CH} {a r : Nat} (h : c_kd C a = 13) : tpF C a 12 1 (.ref r) = some (s_rv C (up2 (c_rv C) a 1 (some r))) := by unfold tpF; rw [if_pos ⟨h, by decide, by decide⟩]; rfl
theorem tgR_12_2 {C : CH} {a : Nat} (h : c_kd C a = 13) : tgR C a 12 2 = c_rv C a 2 := by unfold tgR; rw [if_pos ⟨h, by decide, by decide, by decide⟩]
theorem tpR_12_2 {C : CH} {a r : Nat} (h : c_kd C a = 13) : tpF C a 12 2 (.ref r) = some (s_rv C (up2 (c_rv C) a 2 (some r))) := by unfold tpF; rw [if_pos ⟨h, by decide, by decide⟩]; rfl
theorem tgR_12_3 {C : CH} {a : Nat} (h : c_kd C a = 13) : tgR C a 12 3 = c_rv C a 3 := by unfold tgR; rw [if_pos ⟨h, by decide, by decide, by decide⟩]
theorem tpR_12_3 {C : CH} {a r : Nat} (h : c_kd C a = 13) : tpF C a 12 3 (.ref r) = some (s_rv C (up2 (c_rv C) a 3 (some r))) := by unfold tpF; rw [if_pos ⟨h, by decide, by decide⟩]; rfl
theorem tgR_12_4 {C : CH} {a : Nat} (h : c_kd C a = 13) : tgR C a 12 4 = c_rv C a 4 := by unfold tgR; rw [if_pos ⟨h, by decide, by decide, by decide⟩]
theorem tpR_12_4 {C : CH} {a r : Nat} (h : c_kd C a = 13) : tpF C a 12 4 (.ref r) = some (s_rv C (up2 (c_rv C) a 4 (some r))) := by unfold tpF; rw [if_pos ⟨h, by decide, by decide⟩]; rfl
theorem tgI_12_5 {C : CH} {a : Nat} (h : c_kd C a = 13) : tgI C a 12 5 = some (c_iv C a 5) := by unfold tgI; rw [if_pos ⟨h, by decide, by decide, by decide⟩]
theorem tpI_12_5 {C : CH} {a : Nat} {x : Int32} (h : c_kd C a = 13) : tpF C a 12 5 (.int x) = some (s_iv C (up2 (c_iv C) a 5 x)) := by unfold tpF; rw [if_pos ⟨h, by decide, by decide⟩]; rfl
theorem tgR_12_6 {C : CH} {a : Nat} (h : c_kd C a = 13) : tgR C a 12 6 = c_rv C a 6 := by unfold tgR; rw [if_pos ⟨h, by decide, by decide, by decide⟩]
theorem tpR_12_6 {C : CH} {a r : Nat} (h : c_kd C a = 13) : tpF C a 12 6 (.ref r) = some (s_rv C (up2 (c_rv C) a 6 (some r))) := by unfold tpF; rw [if_pos ⟨h, by decide, by decide⟩]; rfl
theorem tgR_12_7 {C : CH} {a : Nat} (h : c_kd C a = 13) : tgR C a 12 7 = c_rv C a 7 := by unfold tgR; rw [if_pos ⟨h, by decide, by decide, by decide⟩]
theorem tpR_12_7 {C : CH} {a r : Nat} (h : c_kd C a = 13) : tpF C a 12 7 (.ref r) = some (s_rv C (up2 (c_rv C) a 7 (some r))) := by unfold tpF; rw [if_pos ⟨h, by decide, by decide⟩]; rfl
theorem tgR_12_8 {C : CH} {a : Nat} (h : c_kd C a = 13) : tgR C a 12 8 = c_rv C a 8 := by unfold tgR; rw [if_pos ⟨h, by decide, by decide, by decide⟩]
theorem tpR_12_8 {C : CH} {a r : Nat} (h : c_kd C a = 13) : tpF C a 12 8 (.ref r) = some (s_rv C (up2 (c_rv C) a 8 (some r))) := by unfold tpF; rw [if_pos ⟨h, by decide, by decide⟩]; rfl
theorem tgR_12_9 {C : CH} {a : Nat} (h : c_kd C a = 13) : tgR C a 12 9 = c_rv C a 9 := by unfold tgR; rw [if_pos ⟨h, by decide, by decide, by decide⟩]
theorem tpR_12_9 {C : CH} {a r : Nat} (h : c_kd C a = 13) : tpF C a 12 9 (.ref r) = some (s_rv C (up2 (c_rv C) a 9 (some r))) := by unfold tpF; rw [if_pos ⟨h, by decide, by decide⟩]; rfl
theorem tgR_12_10 {C : CH} {a : Nat} (h : c_kd C a = 13) : tgR C a 12 10 = c_rv C a 10 := by unfold tgR; rw [if_pos ⟨h, by decide, by decide, by decide⟩]
theorem tpR_12_10 {C : CH} {a r : Nat} (h : c_kd C a = 13) : tpF C a 12 10 (.ref r) = some (s_rv C (up2 (c_rv C) a 10 (some r))) := by unfold tpF; rw [if_pos ⟨h, by decide, by decide⟩]; rfl
theorem tgR_12_11 {C : CH} {a : Nat} (h : c_kd C a = 13) : tgR C a 12 11 = c_rv C a 11 := by unfold tgR; rw [if_pos ⟨h, by decide, by decide, by decide⟩]
theorem tpR_12_11 {C : CH} {a r : Nat} (h : c_kd C a = 13) : tpF C a 12 11 (.ref r) = some (s_rv C (up2 (c_rv C) a 11 (some r))) := by unfold tpF; rw [if_pos ⟨h, by decide, by decide⟩]; rfl
theorem tld_n {C : CH} {a j : Nat} (h : c_kd C a = 20) (h2 : j < c_ln C a) (h3 : c_ln C a < 2147483648) : tld C 0 a (nI j) = some (c_ar C a j) := by unfold tld; rw [if_pos ⟨h, by decide, hin_nI h2 h3⟩, nI_clamp (Nat.lt_trans h2 h3)]
theorem tst_n {C : CH} {a j : Nat} {x : Int32} (h : c_kd C a = 20) (h2 : j < c_ln C a) (h3 : c_ln C a < 2147483648) : tst C 0 a (nI j) x = some (s_ar C (va_up (c_ar C) a (upd (c_ar C a) j x))) := by unfold tst; rw [if_pos ⟨h, by decide, hin_nI h2 h3⟩, nI_clamp (Nat.lt_trans h2 h3)]
theorem tldB_n {C : CH} {a j : Nat} (h : c_kd C a = 22) (h2 : j < c_ln C a) (h3 : c_ln C a < 2147483648) : tld C 2 a (nI j) = some (c_ar C a j) := by unfold tld; rw [if_pos ⟨h, by decide, hin_nI h2 h3⟩, nI_clamp (Nat.lt_trans h2 h3)]
theorem tstB_n {C : CH} {a j : Nat} {x : Int32} (h : c_kd C a = 22) (h2 : j < c_ln C a) (h3 : c_ln C a < 2147483648) : tst C 2 a (nI j) x = some (s_ar C (va_up (c_ar C) a (upd (c_ar C a) j x))) := by unfold tst; rw [if_pos ⟨h, by decide, hin_nI h2 h3⟩, nI_clamp (Nat.lt_trans h2 h3)]
theorem tldJ_n {C : CH} {a j : Nat} (h : c_kd C a = 21) (h2 : j < c_ln C a) (h3 : c_ln C a < 2147483648) : tldJ C a (nI j) = some (c_al C a j) := by unfold tldJ; rw [if_pos ⟨h, hin_nI h2 h3⟩, nI_clamp (Nat.lt_trans h2 h3)]
theorem tstJ_n {C : CH} {a j : Nat} {x : Int64} (h : c_kd C a = 21) (h2 : j < c_ln C a) (h3 : c_ln C a < 2147483648) : tstJ C a (nI j) x = some (s_al C (va_up (c_al C) a (vp_updL (c_al C a) j x))) := by unfold tstJ; rw [if_pos ⟨h, hin_nI h2 h3⟩, nI_clamp (Nat.lt_trans h2 h3)]
theorem tldR3_n {C : CH} {a j : Nat} (h : c_kd C a = 23) (h2 : j < c_ln C a) (h3 : c_ln C a < 2147483648) : tldR C 3 a (nI j) = c_ro C a j := by unfold tldR; rw [if_pos ⟨h, by decide, hin_nI h2 h3⟩, nI_clamp (Nat.lt_trans h2 h3)]
theorem tldR4_n {C : CH} {a j : Nat} (h : c_kd C a = 24) (h2 : j < c_ln C a) (h3 : c_ln C a < 2147483648) : tldR C 4 a (nI j) = c_ro C a j := by unfold tldR; rw [if_pos ⟨h, by decide, hin_nI h2 h3⟩, nI_clamp (Nat.lt_trans h2 h3)]
theorem tlen_I {C : CH} {a : Nat} (h : c_kd C a = 20) : tlen C a = some (nI (c_ln C a)) := by unfold tlen; rw [if_pos (by rw [h]; decide)]
theorem tlen_R {C : CH} {a : Nat} (h : c_kd C a = 23) : tlen C a = some (nI (c_ln C a)) := by unfold tlen; rw [if_pos (by rw [h]; decide)]
theorem mld_n {M : MS} {k j : Nat} (h : j < mlen k) (h2 : mlen k < 2147483648) : mld M k (nI j) = some (M.2.2.1 k j) := by unfold mld; rw [if_pos (hin_nI h h2), nI_clamp (Nat.lt_trans h h2)]
theorem mst_n {M : MS} {k j : Nat} {x : Int32} (h : j < mlen k) (h2 : mlen k < 2147483648) : mst M k (nI j) x = some (msA M k (upd (M.2.2.1 k) j x)) := by unfold mst; rw [if_pos (hin_nI h h2), nI_clamp (Nat.lt_trans h h2)]
theorem mldJ_n {M : MS} {j : Nat} (h : j < 25) : mldJ M (nI j) = some (M.2.2.2 j) := by unfold mldJ; rw [if_pos (hin_nI h (by decide)), nI_clamp (Nat.lt_trans h (by decide))]
theorem mstJ_n {M : MS} {j : Nat} {x : Int64} (h : j < 25) : mstJ M (nI j) x = some (msL M (vp_updL M.2.2.2 j x)) := by unfold mstJ; rw [if_pos (hin_nI h (by decide)), nI_clamp (Nat.lt_trans h (by decide))]
/-- the shape: kinds, lengths, reference fields, reference rows -/
def sh (C : CH) : (Nat → Nat) × (Nat → Nat) × (Nat → Nat → Option Nat) × (Nat → Nat → Option Nat) := (c_kd C, c_ln C, c_rv C, c_ro C)
abbrev SHP : Type := (Nat → Nat) × (Nat → Nat) × (Nat → Nat → Option Nat) × (Nat → Nat → Option Nat)
/-- what stays: next, the fixed ones, the shape, and all contents outside lo .. hi -/
def Fr (lo hi : Nat) (C C' : CH) : Prop := C'.1 = C.1 ∧ C'.2.1 = C.2.1 ∧ sh C' = sh C ∧ ∀ a, a < lo ∨ hi < a → c_ar C' a = c_ar C a ∧ c_iv C' a = c_iv C a ∧ c_al C' a = c_al C a ∧ c_jv C' a = c_jv C a
theorem Fr.rf (lo hi : Nat) (C : CH) : Fr lo hi C C := ⟨rfl, rfl, rfl, fun _ _ => ⟨rfl, rfl, rfl, rfl⟩⟩
theorem Fr.tr {lo hi : Nat} {C C1 C2 : CH} (p : Fr lo hi C C1) (q : Fr lo hi C1 C2) : Fr lo hi C C2 := ⟨q.1.trans p.1, q.2.1.trans p.2.1, q.2.2.1.trans p.2.2.1, fun a ha => by
  obtain ⟨a1, a2, a3, a4⟩ := p.2.2.2 a ha
  obtain ⟨b1, b2, b3, b4⟩ := q.2.2.2 a ha
  exact ⟨b1.trans a1, b2.trans a2, b3.trans a3, b4.trans a4⟩⟩
theorem Fr.mono {lo hi lo' hi' : Nat} {C C' : CH} (p : Fr lo hi C C') (h1 : lo' ≤ lo) (h2 : hi ≤ hi') : Fr lo' hi' C C' := ⟨p.1, p.2.1, p.2.2.1, fun a ha => p.2.2.2 a (by omega)⟩
theorem Fr.ar {lo hi : Nat} {C : CH} {a : Nat} (f : Nat → Int32) (h : lo ≤ a ∧ a ≤ hi) : Fr lo hi C (s_ar C (va_up (c_ar C) a f)) := ⟨rfl, rfl, rfl, fun b hb => ⟨by simp only [s_ar_ar]; simp [va_up, show b ≠ a by omega], rfl, rfl, rfl⟩⟩
theorem Fr.al {lo hi : Nat} {C : CH} {a : Nat} (f : Nat → Int64) (h : lo ≤ a ∧ a ≤ hi) : Fr lo hi C (s_al C (va_up (c_al C) a f)) := ⟨rfl, rfl, rfl, fun b hb => ⟨rfl, rfl, by simp only [s_al_al]; simp [va_up, show b ≠ a by omega], rfl⟩⟩
theorem Fr.iv {lo hi : Nat} {C : CH} {a k : Nat} (x : Int32) (h : lo ≤ a ∧ a ≤ hi) : Fr lo hi C (s_iv C (up2 (c_iv C) a k x)) := ⟨rfl, rfl, rfl, fun b hb => ⟨rfl, by simp only [s_iv_iv]; funext j; simp [up2, show b ≠ a by omega], rfl, rfl⟩⟩
theorem Fr.jv {lo hi : Nat} {C : CH} {a : Nat} (x : Int64) (h : lo ≤ a ∧ a ≤ hi) : Fr lo hi C (s_jv C (va_up (c_jv C) a x)) := ⟨rfl, rfl, rfl, fun b hb => ⟨rfl, rfl, rfl, by simp only [s_jv_jv]; simp [va_up, show b ≠ a by omega]⟩⟩
theorem upd_e (f : Nat → Int32) (k : Nat) (x : Int32) : upd f k x k = x := by simp [upd]
theorem upd_n {f : Nat → Int32} {k j : Nat} {x : Int32} (h : j ≠ k) : upd f k x j = f j := by simp [upd, h]
theorem up2_e {α : Type} (f : Nat → Nat → α) (a k : Nat) (x : α) : up2 f a k x a k = x := by simp [up2]
theorem up2_k {α : Type} {f : Nat → Nat → α} {a k j : Nat} {x : α} (h : j ≠ k) : up2 f a k x a j = f a j := by simp [up2, h]
theorem up2_n {α : Type} {f : Nat → Nat → α} {a k b j : Nat} {x : α} (h : b ≠ a) : up2 f a k x b j = f b j := by simp [up2, h]
theorem va_e {α : Type} (f : Nat → α) (a : Nat) (x : α) : va_up f a x a = x := by simp [va_up]
theorem va_n {α : Type} {f : Nat → α} {a b : Nat} {x : α} (h : b ≠ a) : va_up f a x b = f b := by simp [va_up, h]
def RowS (K : SHP) (o : Nat) : Prop := K.1 o = 8 ∧ K.2.2.1 o 0 = some (o + 1) ∧ K.1 (o + 1) = 20 ∧ K.2.1 (o + 1) = 24
theorem RowS.f {C : CH} {o : Nat} (h : RowS (sh C) o) : c_kd C o = 8 ∧ c_rv C o 0 = some (o + 1) ∧ c_kd C (o + 1) = 20 ∧ c_ln C (o + 1) = 24 := h
def SongS (K : SHP) (o : Nat) : Prop := K.1 o = 9 ∧ K.2.2.1 o 0 = some (o + 1) ∧ K.2.2.1 o 1 = some (o + 3) ∧ RowS K (o + 1) ∧ RowS K (o + 3)
theorem SongS.f {C : CH} {o : Nat} (h : SongS (sh C) o) : c_kd C o = 9 ∧ c_rv C o 0 = some (o + 1) ∧ c_rv C o 1 = some (o + 3) ∧ c_kd C (o + 1) = 8 ∧ c_rv C (o + 1) 0 = some (o + 2) ∧ c_kd C (o + 2) = 20 ∧ c_ln C (o + 2) = 24 ∧ c_kd C (o + 3) = 8 ∧ c_rv C (o + 3) 0 = some (o + 4) ∧ c_kd C (o + 4) = 20 ∧ c_ln C (o + 4) = 24 := by
  obtain ⟨h1, h2, h3, ⟨h4, h5, h6, h7⟩, h8, h9, h10, h11⟩ := h
  exact ⟨h1, h2, h3, h4, h5, h6, h7, h8, h9, h10, h11⟩
def HandsS (K : SHP) (o : Nat) : Prop := K.1 o = 2 ∧ K.2.2.1 o 0 = some (o + 1) ∧ K.1 (o + 1) = 20 ∧ K.2.1 (o + 1) = 10 ∧ K.2.2.1 o 1 = some (o + 2) ∧ K.1 (o + 2) = 20 ∧ K.2.1 (o + 2) = 10 ∧ K.2.2.1 o 2 = some (o + 3) ∧ K.1 (o + 3) = 20 ∧ K.2.1 (o + 3) = 10 ∧ K.2.2.1 o 3 = some (o + 4) ∧ K.1 (o + 4) = 20 ∧ K.2.1 (o + 4) = 10 ∧ K.2.2.1 o 4 = some (o + 5) ∧ K.1 (o + 5) = 20 ∧ K.2.1 (o + 5) = 10 ∧ K.2.2.1 o 5 = some (o + 6) ∧ K.1 (o + 6) = 20 ∧ K.2.1 (o + 6) = 10
theorem HandsS.f {C : CH} {o : Nat} (h : HandsS (sh C) o) : c_kd C o = 2 ∧ c_rv C o 0 = some (o + 1) ∧ c_kd C (o + 1) = 20 ∧ c_ln C (o + 1) = 10 ∧ c_rv C o 1 = some (o + 2) ∧ c_kd C (o + 2) = 20 ∧ c_ln C (o + 2) = 10 ∧ c_rv C o 2 = some (o + 3) ∧ c_kd C (o + 3) = 20 ∧ c_ln C (o + 3) = 10 ∧ c_rv C o 3 = some (o + 4) ∧ c_kd C (o + 4) = 20 ∧ c_ln C (o + 4) = 10 ∧ c_rv C o 4 = some (o + 5) ∧ c_kd C (o + 5) = 20 ∧ c_ln C (o + 5) = 10 ∧ c_rv C o 5 = some (o + 6) ∧ c_kd C (o + 6) = 20 ∧ c_ln C (o + 6) = 10 := h
def HaulS (K : SHP) (o : Nat) : Prop := K.1 o = 3 ∧ K.2.2.1 o 0 = some (o + 1) ∧ K.1 (o + 1) = 20 ∧ K.2.1 (o + 1) = 10 ∧ K.2.2.1 o 1 = some (o + 2) ∧ K.1 (o + 2) = 20 ∧ K.2.1 (o + 2) = 10 ∧ K.2.2.1 o 2 = some (o + 3) ∧ K.1 (o + 3) = 20 ∧ K.2.1 (o + 3) = 300 ∧ K.2.2.1 o 3 = some (o + 4) ∧ K.1 (o + 4) = 20 ∧ K.2.1 (o + 4) = 300 ∧ K.2.2.1 o 4 = some (o + 5) ∧ K.1 (o + 5) = 20 ∧ K.2.1 (o + 5) = 4
theorem HaulS.f {C : CH} {o : Nat} (h : HaulS (sh C) o) : c_kd C o = 3 ∧ c_rv C o 0 = some (o + 1) ∧ c_kd C (o + 1) = 20 ∧ c_ln C (o + 1) = 10 ∧ c_rv C o 1 = some (o + 2) ∧ c_kd C (o + 2) = 20 ∧ c_ln C (o + 2) = 10 ∧ c_rv C o 2 = some (o + 3) ∧ c_kd C (o + 3) = 20 ∧ c_ln C (o + 3) = 300 ∧ c_rv C o 3 = some (o + 4) ∧ c_kd C (o + 4) = 20 ∧ c_ln C (o + 4) = 300 ∧ c_rv C o 4 = some (o + 5) ∧ c_kd C (o + 5) = 20 ∧ c_ln C (o + 5) = 4 := h
def MarksS (K : SHP) (o : Nat) : Prop := K.1 o = 7 ∧ K.2.2.1 o 0 = some (o + 1) ∧ K.1 (o + 1) = 20 ∧ K.2.1 (o + 1) = 60 ∧ K.2.2.1 o 1 = some (o + 2) ∧ K.1 (o + 2) = 20 ∧ K.2.1 (o + 2) = 60
theorem MarksS.f {C : CH} {o : Nat} (h : MarksS (sh C) o) : c_kd C o = 7 ∧ c_rv C o 0 = some (o + 1) ∧ c_kd C (o + 1) = 20 ∧ c_ln C (o + 1) = 60 ∧ c_rv C o 1 = some (o + 2) ∧ c_kd C (o + 2) = 20 ∧ c_ln C (o + 2) = 60 := h
def KinS (K : SHP) (o : Nat) : Prop := K.1 o = 4 ∧ K.2.2.1 o 0 = some (o + 1) ∧ K.1 (o + 1) = 20 ∧ K.2.1 (o + 1) = 25 ∧ K.2.2.1 o 1 = some (o + 2) ∧ K.1 (o + 2) = 20 ∧ K.2.1 (o + 2) = 6 ∧ K.2.2.1 o 2 = some (o + 3) ∧ K.1 (o + 3) = 22 ∧ K.2.1 (o + 3) = 6
theorem KinS.f {C : CH} {o : Nat} (h : KinS (sh C) o) : c_kd C o = 4 ∧ c_rv C o 0 = some (o + 1) ∧ c_kd C (o + 1) = 20 ∧ c_ln C (o + 1) = 25 ∧ c_rv C o 1 = some (o + 2) ∧ c_kd C (o + 2) = 20 ∧ c_ln C (o + 2) = 6 ∧ c_rv C o 2 = some (o + 3) ∧ c_kd C (o + 3) = 22 ∧ c_ln C (o + 3) = 6 := h
def LineS (K : SHP) (o : Nat) : Prop := K.1 o = 6 ∧ K.2.2.1 o 0 = some (o + 1) ∧ K.1 (o + 1) = 21 ∧ K.2.1 (o + 1) = 25 ∧ K.2.2.1 o 1 = some (o + 2) ∧ K.1 (o + 2) = 20 ∧ K.2.1 (o + 2) = 25 ∧ K.2.2.1 o 2 = some (o + 3) ∧ K.1 (o + 3) = 20 ∧ K.2.1 (o + 3) = 24
theorem LineS.f {C : CH} {o : Nat} (h : LineS (sh C) o) : c_kd C o = 6 ∧ c_rv C o 0 = some (o + 1) ∧ c_kd C (o + 1) = 21 ∧ c_ln C (o + 1) = 25 ∧ c_rv C o 1 = some (o + 2) ∧ c_kd C (o + 2) = 20 ∧ c_ln C (o + 2) = 25 ∧ c_rv C o 2 = some (o + 3) ∧ c_kd C (o + 3) = 20 ∧ c_ln C (o + 3) = 24 := h
