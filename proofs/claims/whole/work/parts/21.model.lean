/-! THE REFERENCE, TYPED: its state without a heap, and how the heap holds it -/
/-- int fields by number, the hash, int arrays by their field's number, linesFrom -/
abbrev MS : Type := (Nat → Int32) × Int64 × (Nat → Nat → Int32) × (Nat → Int64)
/-- an array field's place behind the object, 0 for others (33: linesFrom) -/
def moff : Nat → Nat
  | 1 => 1 | 2 => 2 | 3 => 3 | 4 => 4 | 6 => 5 | 8 => 6 | 9 => 7 | 10 => 8 | 11 => 9 | 12 => 10 | 13 => 11 | 17 => 12 | 18 => 13 | 19 => 14 | 23 => 15 | 24 => 16 | 25 => 17 | 27 => 18 | 28 => 19 | 29 => 20 | 31 => 21 | 32 => 22 | 33 => 23 | 34 => 24 | 36 => 25 | 37 => 26 | 38 => 27 | 43 => 28 | 44 => 29
  | _ => 0
def mlen : Nat → Nat
  | 1 => 6 | 2 => 6 | 3 => 144 | 4 => 72 | 6 => 24 | 8 => 10 | 9 => 10 | 10 => 10 | 11 => 10 | 12 => 10 | 13 => 60 | 17 => 300 | 18 => 300 | 19 => 10 | 23 => 4 | 24 => 4 | 25 => 4 | 27 => 4 | 28 => 4 | 29 => 5 | 31 => 12 | 32 => 12 | 33 => 25 | 34 => 25 | 36 => 60 | 37 => 60 | 38 => 300 | 43 => 650 | 44 => 6
  | _ => 0
def mval (b : Nat) (M : MS) (k : Nat) : Value := if moff k ≠ 0 then .ref (b + moff k) else if k = 46 then .long M.2.1 else .int (M.1 k)
def mObj (b : Nat) (M : MS) : List Value := (List.range 47).map (mval b M)
theorem mObj_get (b : Nat) (M : MS) {k : Nat} (hk : k < 47) : (mObj b M)[k]? = some (mval b M k) := by
  simp [mObj, List.getElem?_map, List.getElem?_range hk]
theorem mObj_len (b : Nat) (M : MS) : (mObj b M).length = 47 := by simp [mObj]
def MInv (b : Nat) (h : AH) (M : MS) : Prop := h.2.2 b = some (.inr (13, mObj b M)) ∧ (∀ k, moff k ≠ 0 → k ≠ 33 → h.2.2 (b + moff k) = some (.inl (0, mlen k, .inl (M.2.2.1 k)))) ∧ h.2.2 (b + 23) = some (.inl (1, 25, .inr (.inl M.2.2.2)))
def mP (b : Nat) : Nat → Prop := fun q => b ≤ q ∧ q < b + 30
/-- the heap holds the state, and only the reference's cells have changed since h0 -/
def MK (b : Nat) (h0 h : AH) (M : MS) : Prop := MInv b h M ∧ Keep (mP b) h0 h
def msI (M : MS) (k : Nat) (v : Int32) : MS := (upd M.1 k v, M.2)
def msJ (M : MS) (v : Int64) : MS := (M.1, v, M.2.2)
def msA (M : MS) (k : Nat) (f : Nat → Int32) : MS := (M.1, M.2.1, va_up M.2.2.1 k f, M.2.2.2)
def msL (M : MS) (f : Nat → Int64) : MS := (M.1, M.2.1, M.2.2.1, f)
def mld (M : MS) (k : Nat) (i : Int32) : Option Int32 := if hin i (mlen k) = true then some (M.2.2.1 k i.toNatClampNeg) else none
def mst (M : MS) (k : Nat) (i x : Int32) : Option MS := if hin i (mlen k) = true then some (msA M k (upd (M.2.2.1 k) i.toNatClampNeg x)) else none
def mldJ (M : MS) (i : Int32) : Option Int64 := if hin i 25 = true then some (M.2.2.2 i.toNatClampNeg) else none
def mstJ (M : MS) (i : Int32) (x : Int64) : Option MS := if hin i 25 = true then some (msL M (vp_updL M.2.2.2 i.toNatClampNeg x)) else none
theorem moff_lt (k : Nat) : moff k < 30 := by unfold moff; split <;> decide
theorem moff_inj {k j : Nat} (hk : moff k ≠ 0) (h : moff k = moff j) : k = j := by
  have hk' : moff j ≠ 0 := by rw [← h]; exact hk
  have bd : ∀ k, moff k ≠ 0 → k < 45 := by
    intro k hk
    unfold moff at hk
    split at hk <;> first | decide | exact absurd rfl hk
  have key : ∀ a, a < 45 → ∀ c, c < 45 → moff a ≠ 0 → moff a = moff c → a = c := by decide +kernel
  exact key k (bd k hk) j (bd j hk') hk h
theorem mval_msI (b : Nat) (M : MS) {k j : Nat} (v : Int32) (hk : moff k = 0) (h46 : k ≠ 46) : mval b (msI M k v) j = if j = k then .int v else mval b M j := by
  unfold mval msI
  by_cases hj : j = k
  · subst hj
    simp [hk, h46, upd]
  · simp [hj, upd]
theorem mObj_setI (b : Nat) (M : MS) {k : Nat} (v : Int32) (hk : moff k = 0) (h46 : k ≠ 46) : (mObj b M).set k (.int v) = mObj b (msI M k v) := by
  apply List.ext_getElem?
  intro j
  by_cases hj : j < 47
  · rw [mObj_get _ _ hj, mval_msI b M v hk h46]
    by_cases h : j = k
    · subst h
      rw [List.getElem?_set_self (by rw [mObj_len]; exact hj), if_pos rfl]
    · rw [List.getElem?_set_ne (Ne.symm h), mObj_get _ _ hj, if_neg h]
  · rw [List.getElem?_eq_none (by rw [List.length_set, mObj_len]; omega), List.getElem?_eq_none (by rw [mObj_len]; omega)]
theorem mObj_setJ (b : Nat) (M : MS) (v : Int64) : (mObj b M).set 46 (.long v) = mObj b (msJ M v) := by
  apply List.ext_getElem?
  intro j
  by_cases hj : j < 47
  · rw [mObj_get _ _ hj]
    by_cases h : j = 46
    · subst h
      rw [List.getElem?_set_self (by rw [mObj_len]; exact hj)]
      rfl
    · rw [List.getElem?_set_ne (Ne.symm h), mObj_get _ _ hj]
      simp [mval, msJ, h]
  · rw [List.getElem?_eq_none (by rw [List.length_set, mObj_len]; omega), List.getElem?_eq_none (by rw [mObj_len]; omega)]
theorem mObj_A (b : Nat) (M : MS) (k : Nat) (f : Nat → Int32) : mObj b (msA M k f) = mObj b M := rfl
theorem mObj_L (b : Nat) (M : MS) (f : Nat → Int64) : mObj b (msL M f) = mObj b M := rfl
/-- an Option of the heap's side follows one of the typed side -/
def OS {α β : Type} (R : α → β → Prop) (F : Option α) (G : Option β) : Prop := ∀ c, G = some c → ∃ a, F = some a ∧ R a c
theorem OS.ret {α β : Type} {R : α → β → Prop} {a : α} {c : β} (h : R a c) : OS R (some a) (some c) := fun c' e => by cases e; exact ⟨a, rfl, h⟩
theorem OS.none {α β : Type} {R : α → β → Prop} {F : Option α} : OS R F (none : Option β) := fun _ e => by cases e
theorem OS.f {α β γ : Type} {R : α → β → Prop} {x : Option γ} {v : γ} {k : γ → Option α} {G : Option β} (e : x = some v) (h : OS R (k v) G) : OS R (x.bind k) G := by rw [e]; exact h
theorem OS.b {α β γ δ : Type} {R : α → β → Prop} {S : γ → δ → Prop} {x : Option γ} {y : Option δ} {k : γ → Option α} {l : δ → Option β} (hx : OS S x y) (h : ∀ a c, S a c → OS R (k a) (l c)) : OS R (x.bind k) (y.bind l) := by
  intro c e
  cases hy : y with
  | none => rw [hy] at e; cases e
  | some d =>
    rw [hy] at e
    obtain ⟨a, e1, r⟩ := hx d hy
    rw [e1]
    exact h a d r c e
theorem OS.i {α β : Type} {R : α → β → Prop} {p : Prop} [Decidable p] {A B : Option α} {A' B' : Option β} (h1 : p → OS R A A') (h2 : ¬ p → OS R B B') : OS R (if p then A else B) (if p then A' else B') := by
  by_cases h : p
  · rw [if_pos h, if_pos h]; exact h1 h
  · rw [if_neg h, if_neg h]; exact h2 h
def SR {α β γ δ : Type} (R : α → β → Prop) (S : γ → δ → Prop) : α ⊕ γ → β ⊕ δ → Prop
  | .inl a, .inl b => R a b
  | .inr a, .inr b => S a b
  | _, _ => False
theorem OS.it {σ ρ σ' ρ' : Type} {R : σ → σ' → Prop} {S : ρ → ρ' → Prop} {f : σ → Option (σ ⊕ ρ)} {g : σ' → Option (σ' ⊕ ρ')} (h : ∀ a c, R a c → OS (SR R S) (f a) (g c)) : ∀ (n : Nat) (a : σ) (c : σ'), R a c → OS S (iter f n a) (iter g n c)
  | 0, _, _, _ => OS.none
  | n + 1, a, c, r => by
    intro d e
    unfold iter at e ⊢
    cases hg : g c with
    | none => rw [hg] at e; cases e
    | some x =>
      obtain ⟨y, e1, r1⟩ := h a c r x hg
      rw [hg] at e
      rw [e1]
      cases x with
      | inl x =>
        cases y with
        | inl y => exact OS.it h n y x r1 d e
        | inr y => exact r1.elim
      | inr x =>
        cases y with
        | inl y => exact r1.elim
        | inr y => cases e; exact ⟨y, rfl, r1⟩
section MKR
variable {b : Nat} {h0 h : AH} {M : MS}
theorem MK.rf (I : MInv b h M) : MK b h h M := ⟨I, Keep.rf _ _⟩
theorem MK.cl (I : MK b h0 h M) : hcl h b 13 = some () := hcl_eq I.1.1
theorem MK.gI (I : MK b h0 h M) (k : Nat) (hk : k < 47) (h1 : moff k = 0) (h2 : k ≠ 46) : hgI h b 13 k = some (M.1 k) := hgI_eq I.1.1 (by rw [mObj_get _ _ hk]; simp [mval, h1, h2])
theorem MK.gJ (I : MK b h0 h M) : hgJ h b 13 46 = some M.2.1 := hgJ_eq I.1.1 (by rw [mObj_get _ _ (by decide)]; rfl)
theorem MK.gR (I : MK b h0 h M) (k : Nat) (hk : k < 47) (h1 : moff k ≠ 0) : hgR h b 13 k = some (b + moff k) := hgR_eq I.1.1 (by rw [mObj_get _ _ hk]; simp [mval, h1])
theorem MK.pI (I : MK b h0 h M) (k : Nat) (hk : k < 47) (h1 : moff k = 0) (h2 : k ≠ 46) (v : Int32) : ∃ h', hpF h b 13 k (.int v) = some h' ∧ MK b h0 h' (msI M k v) := by
  refine ⟨_, hpF_eq I.1.1 (by rw [mObj_len]; exact hk), ⟨?_, fun j hj h33 => ?_, ?_⟩, I.2.tr (Keep.up ⟨Nat.le_refl _, by omega⟩)⟩
  · rw [hup_same, mObj_setI b M v h1 h2]
  · rw [hup_ne (by omega)]
    exact I.1.2.1 j hj h33
  · rw [hup_ne (by omega)]
    exact I.1.2.2
theorem MK.pJ (I : MK b h0 h M) (v : Int64) : ∃ h', hpF h b 13 46 (.long v) = some h' ∧ MK b h0 h' (msJ M v) := by
  refine ⟨_, hpF_eq I.1.1 (by rw [mObj_len]; decide), ⟨?_, fun j hj h33 => ?_, ?_⟩, I.2.tr (Keep.up ⟨Nat.le_refl _, by omega⟩)⟩
  · rw [hup_same, mObj_setJ]
  · rw [hup_ne (by omega)]
    exact I.1.2.1 j hj h33
  · rw [hup_ne (by omega)]
    exact I.1.2.2
theorem MK.ld (I : MK b h0 h M) (k : Nat) (h1 : moff k ≠ 0) (h33 : k ≠ 33) (i : Int32) : OS (fun x y => x = y) (hld h 0 (b + moff k) i) (mld M k i) := by
  intro c e
  unfold mld at e
  split at e
  · next hi =>
    cases e
    refine ⟨_, ?_, rfl⟩
    unfold hld
    rw [I.1.2.1 k h1 h33]
    simp [hi]
  · cases e
theorem MK.ldJ (I : MK b h0 h M) (i : Int32) : OS (fun x y => x = y) (hldJ h (b + moff 33) i) (mldJ M i) := by
  intro c e
  unfold mldJ at e
  split at e
  · next hi =>
    cases e
    refine ⟨_, ?_, rfl⟩
    unfold hldJ
    rw [show b + moff 33 = b + 23 from rfl, I.1.2.2]
    simp [hi]
  · cases e
theorem MK.st (I : MK b h0 h M) (k : Nat) (h1 : moff k ≠ 0) (h33 : k ≠ 33) (i x : Int32) : OS (fun h' M' => MK b h0 h' M') (hst h 0 (b + moff k) i x) (mst M k i x) := by
  intro c e
  unfold mst at e
  split at e
  · next hi =>
    cases e
    refine ⟨hup h (b + moff k) (.inl (0, mlen k, .inl (upd (M.2.2.1 k) i.toNatClampNeg x))), ?_, ⟨?_, fun j hj hj33 => ?_, ?_⟩, I.2.tr (Keep.up ⟨by omega, by have := moff_lt k; omega⟩)⟩
    · unfold hst
      rw [I.1.2.1 k h1 h33]
      simp [hi]
    · rw [hup_ne (by omega), mObj_A]
      exact I.1.1
    · by_cases hjk : j = k
      · subst hjk
        rw [hup_same]
        simp [msA, va_up]
      · rw [hup_ne (fun z => hjk (moff_inj hj (by omega)))]
        rw [I.1.2.1 j hj hj33]
        simp [msA, va_up, hjk]
    · have h23 : moff 33 = 23 := rfl
      rw [hup_ne (fun z => h33 (moff_inj h1 (by omega)))]
      exact I.1.2.2
  · cases e
theorem MK.stJ (I : MK b h0 h M) (i : Int32) (x : Int64) : OS (fun h' M' => MK b h0 h' M') (hstJ h (b + moff 33) i x) (mstJ M i x) := by
  intro c e
  unfold mstJ at e
  have h23 : moff 33 = 23 := rfl
  split at e
  · next hi =>
    cases e
    refine ⟨hup h (b + 23) (.inl (1, 25, .inr (.inl (vp_updL M.2.2.2 i.toNatClampNeg x)))), ?_, ⟨?_, fun j hj hj33 => ?_, ?_⟩, I.2.tr (Keep.up ⟨by omega, by omega⟩)⟩
    · unfold hstJ
      rw [show b + moff 33 = b + 23 from rfl, I.1.2.2]
      simp [hi]
    · rw [hup_ne (by omega), mObj_L]
      exact I.1.1
    · rw [hup_ne (fun z => hj33 (moff_inj hj (by omega)))]
      exact I.1.2.1 j hj hj33
    · rw [hup_same]
      rfl
  · cases e
end MKR
