/-! THE CLASS, TYPED -/
def nF : Nat → Nat
  | 0 => 3
  | 1 => 9
  | 2 => 8
  | 3 => 3
  | 4 => 6
  | 5 => 5
  | 6 => 3
  | 7 => 2
  | 8 => 2
  | 9 => 3
  | 10 => 9
  | 11 => 2
  | 12 => 12
  | _ => 0
/-- a field's kind: 0 int or boolean, 1 long, 2 reference -/
def fty : Nat → Nat → Nat
  | 0, 1 => 2
  | 1, 0 => 2
  | 1, 1 => 2
  | 1, 2 => 2
  | 1, 3 => 2
  | 1, 4 => 2
  | 1, 5 => 2
  | 2, 0 => 2
  | 2, 1 => 2
  | 2, 2 => 2
  | 2, 3 => 2
  | 2, 4 => 2
  | 3, 0 => 2
  | 3, 1 => 2
  | 3, 2 => 2
  | 4, 0 => 2
  | 5, 0 => 2
  | 5, 1 => 2
  | 5, 2 => 2
  | 5, 4 => 1
  | 6, 0 => 2
  | 6, 1 => 2
  | 7, 0 => 2
  | 8, 0 => 2
  | 8, 1 => 2
  | 10, 0 => 2
  | 10, 1 => 2
  | 10, 2 => 2
  | 10, 3 => 2
  | 12, 0 => 2
  | 12, 1 => 2
  | 12, 2 => 2
  | 12, 3 => 2
  | 12, 4 => 2
  | 12, 6 => 2
  | 12, 7 => 2
  | 12, 8 => 2
  | 12, 9 => 2
  | 12, 10 => 2
  | 12, 11 => 2
  | _, _ => 0
/-- next, (z, mi), kinds, lengths, int fields, long fields, reference fields, int rows, long rows, reference rows -/
abbrev CH : Type := Nat × (Nat × Nat) × (Nat → Nat) × (Nat → Nat) × (Nat → Nat → Int32) × (Nat → Int64) × (Nat → Nat → Option Nat) × (Nat → Nat → Int32) × (Nat → Nat → Int64) × (Nat → Nat → Option Nat)
abbrev c_kd (C : CH) : Nat → Nat := C.2.2.1
abbrev c_ln (C : CH) : Nat → Nat := C.2.2.2.1
abbrev c_iv (C : CH) : Nat → Nat → Int32 := C.2.2.2.2.1
abbrev c_jv (C : CH) : Nat → Int64 := C.2.2.2.2.2.1
abbrev c_rv (C : CH) : Nat → Nat → Option Nat := C.2.2.2.2.2.2.1
abbrev c_ar (C : CH) : Nat → Nat → Int32 := C.2.2.2.2.2.2.2.1
abbrev c_al (C : CH) : Nat → Nat → Int64 := C.2.2.2.2.2.2.2.2.1
abbrev c_ro (C : CH) : Nat → Nat → Option Nat := C.2.2.2.2.2.2.2.2.2
def up2 {α : Type} (f : Nat → Nat → α) (a k : Nat) (v : α) : Nat → Nat → α := fun b j => if b = a ∧ j = k then v else f b j
def c_fv (C : CH) (a ci k : Nat) : Value := if fty ci k = 0 then .int (c_iv C a k) else if fty ci k = 1 then .long (c_jv C a) else va_rf (c_rv C a k)
def c_cell (C : CH) (a : Nat) : Option AE :=
  if c_kd C a = 0 then none else if c_kd C a < 20 then some (.inr (c_kd C a - 1, (List.range (nF (c_kd C a - 1))).map (c_fv C a (c_kd C a - 1))))
  else if c_kd C a = 20 then some (.inl (0, c_ln C a, .inl (c_ar C a))) else if c_kd C a = 21 then some (.inl (1, c_ln C a, .inr (.inl (c_al C a)))) else if c_kd C a = 22 then some (.inl (2, c_ln C a, .inl (c_ar C a)))
  else if c_kd C a = 23 then some (.inl (3, c_ln C a, .inr (.inr (.inr (.inr (c_ro C a)))))) else some (.inl (4, c_ln C a, .inr (.inr (.inr (.inr (c_ro C a))))))
def CR (C : CH) (h : AH) : Prop := h.1 = C.1 ∧ h.2.1 = C.2.1 ∧ (∀ a, c_kd C a ≠ 0 → h.2.2 a = c_cell C a) ∧ ∀ a, c_kd C a ≠ 0 → a < C.1
/-- the heap holds the class's state, and no other old cell has changed since h0 -/
def CK (h0 : AH) (C : CH) (h : AH) : Prop := CR C h ∧ h0.1 ≤ h.1 ∧ ∀ a, c_kd C a = 0 → a < h0.1 → h.2.2 a = h0.2.2 a
def s_iv (C : CH) (f : Nat → Nat → Int32) : CH := (C.1, C.2.1, C.2.2.1, C.2.2.2.1, f, C.2.2.2.2.2)
def s_jv (C : CH) (f : Nat → Int64) : CH := (C.1, C.2.1, C.2.2.1, C.2.2.2.1, C.2.2.2.2.1, f, C.2.2.2.2.2.2)
def s_rv (C : CH) (f : Nat → Nat → Option Nat) : CH := (C.1, C.2.1, C.2.2.1, C.2.2.2.1, C.2.2.2.2.1, C.2.2.2.2.2.1, f, C.2.2.2.2.2.2.2)
def s_ar (C : CH) (f : Nat → Nat → Int32) : CH := (C.1, C.2.1, C.2.2.1, C.2.2.2.1, C.2.2.2.2.1, C.2.2.2.2.2.1, C.2.2.2.2.2.2.1, f, C.2.2.2.2.2.2.2.2)
def s_al (C : CH) (f : Nat → Nat → Int64) : CH := (C.1, C.2.1, C.2.2.1, C.2.2.2.1, C.2.2.2.2.1, C.2.2.2.2.2.1, C.2.2.2.2.2.2.1, C.2.2.2.2.2.2.2.1, f, C.2.2.2.2.2.2.2.2.2)
def s_ro (C : CH) (f : Nat → Nat → Option Nat) : CH := (C.1, C.2.1, C.2.2.1, C.2.2.2.1, C.2.2.2.2.1, C.2.2.2.2.2.1, C.2.2.2.2.2.2.1, C.2.2.2.2.2.2.2.1, C.2.2.2.2.2.2.2.2.1, f)
def tgI (C : CH) (a ci k : Nat) : Option Int32 := if c_kd C a = ci + 1 ∧ ci < 13 ∧ k < nF ci ∧ fty ci k = 0 then some (c_iv C a k) else none
def tgJ (C : CH) (a ci k : Nat) : Option Int64 := if c_kd C a = ci + 1 ∧ ci < 13 ∧ k < nF ci ∧ fty ci k = 1 then some (c_jv C a) else none
def tgR (C : CH) (a ci k : Nat) : Option Nat := if c_kd C a = ci + 1 ∧ ci < 13 ∧ k < nF ci ∧ fty ci k = 2 then c_rv C a k else none
def tcl (C : CH) (a ci : Nat) : Option Unit := if c_kd C a = ci + 1 ∧ ci < 13 then some () else none
def tld (C : CH) (kd a : Nat) (i : Int32) : Option Int32 := if c_kd C a = kd + 20 ∧ (kd = 0 ∨ kd = 2) ∧ hin i (c_ln C a) = true then some (c_ar C a i.toNatClampNeg) else none
def tst (C : CH) (kd a : Nat) (i x : Int32) : Option CH := if c_kd C a = kd + 20 ∧ (kd = 0 ∨ kd = 2) ∧ hin i (c_ln C a) = true then some (s_ar C (va_up (c_ar C) a (upd (c_ar C a) i.toNatClampNeg x))) else none
def tldJ (C : CH) (a : Nat) (i : Int32) : Option Int64 := if c_kd C a = 21 ∧ hin i (c_ln C a) = true then some (c_al C a i.toNatClampNeg) else none
def tstJ (C : CH) (a : Nat) (i : Int32) (x : Int64) : Option CH := if c_kd C a = 21 ∧ hin i (c_ln C a) = true then some (s_al C (va_up (c_al C) a (vp_updL (c_al C a) i.toNatClampNeg x))) else none
def tldR (C : CH) (kd a : Nat) (i : Int32) : Option Nat := if c_kd C a = kd + 20 ∧ (kd = 3 ∨ kd = 4) ∧ hin i (c_ln C a) = true then c_ro C a i.toNatClampNeg else none
def tlen (C : CH) (a : Nat) : Option Int32 := if 20 ≤ c_kd C a ∧ c_kd C a < 25 then some (nI (c_ln C a)) else none
def tpF (C : CH) (a ci k : Nat) (v : Value) : Option CH := if c_kd C a = ci + 1 ∧ ci < 13 ∧ k < nF ci then (match v with
  | .int x => if fty ci k = 0 then some (s_iv C (up2 (c_iv C) a k x)) else none
  | .long x => if fty ci k = 1 then some (s_jv C (va_up (c_jv C) a x)) else none
  | .ref r => if fty ci k = 2 then some (s_rv C (up2 (c_rv C) a k (some r))) else none
  | _ => none) else none
section CKR
variable {h0 h : AH} {C : CH}
theorem CK.obj (I : CK h0 C h) {a ci : Nat} (hk : c_kd C a = ci + 1) (hc : ci < 13) : h.2.2 a = some (.inr (ci, (List.range (nF ci)).map (c_fv C a ci))) := by
  rw [I.1.2.2.1 a (by omega), c_cell, if_neg (by omega), if_pos (by omega), hk]
  rfl
theorem fv_get (C : CH) (a ci : Nat) {k : Nat} (hk : k < nF ci) : ((List.range (nF ci)).map (c_fv C a ci))[k]? = some (c_fv C a ci k) := by
  simp [List.getElem?_map, List.getElem?_range hk]
theorem CK.gI (I : CK h0 C h) (a ci k : Nat) : OS (fun x y => x = y) (hgI h a ci k) (tgI C a ci k) := by
  intro v e
  unfold tgI at e
  split at e
  · next q => cases e; exact ⟨_, hgI_eq (I.obj q.1 q.2.1) (by rw [fv_get C a ci q.2.2.1]; simp [c_fv, q.2.2.2]), rfl⟩
  · cases e
theorem CK.gJ (I : CK h0 C h) (a ci k : Nat) : OS (fun x y => x = y) (hgJ h a ci k) (tgJ C a ci k) := by
  intro v e
  unfold tgJ at e
  split at e
  · next q => cases e; exact ⟨_, hgJ_eq (I.obj q.1 q.2.1) (by rw [fv_get C a ci q.2.2.1]; simp [c_fv, q.2.2.2]), rfl⟩
  · cases e
theorem CK.gR (I : CK h0 C h) (a ci k : Nat) : OS (fun x y => x = y) (hgR h a ci k) (tgR C a ci k) := by
  intro v e
  unfold tgR at e
  split at e
  · next q => exact ⟨_, hgR_eq (I.obj q.1 q.2.1) (by rw [fv_get C a ci q.2.2.1]; simp [c_fv, q.2.2.2, e, va_rf]), rfl⟩
  · cases e
theorem CK.cl (I : CK h0 C h) (a ci : Nat) : OS (fun x y => x = y) (hcl h a ci) (tcl C a ci) := by
  intro v e
  unfold tcl at e
  split at e
  · next q => exact ⟨(), hcl_eq (I.obj q.1 q.2), rfl⟩
  · cases e
theorem CK.rowI (I : CK h0 C h) {a kd : Nat} (hk : c_kd C a = kd + 20) (h2 : kd = 0 ∨ kd = 2) : h.2.2 a = some (.inl (kd, c_ln C a, .inl (c_ar C a))) := by
  rw [I.1.2.2.1 a (by omega), c_cell]
  rcases h2 with rfl | rfl <;> simp [hk]
theorem CK.rowJ (I : CK h0 C h) {a : Nat} (hk : c_kd C a = 21) : h.2.2 a = some (.inl (1, c_ln C a, .inr (.inl (c_al C a)))) := by
  rw [I.1.2.2.1 a (by omega), c_cell]
  simp [hk]
theorem CK.rowR (I : CK h0 C h) {a kd : Nat} (hk : c_kd C a = kd + 20) (h2 : kd = 3 ∨ kd = 4) : h.2.2 a = some (.inl (kd, c_ln C a, .inr (.inr (.inr (.inr (c_ro C a)))))) := by
  rw [I.1.2.2.1 a (by omega), c_cell]
  rcases h2 with rfl | rfl <;> simp [hk]
theorem CK.ld (I : CK h0 C h) (kd a : Nat) (i : Int32) : OS (fun x y => x = y) (hld h kd a i) (tld C kd a i) := by
  intro v e
  unfold tld at e
  split at e
  · next q => cases e; exact ⟨_, by unfold hld; rw [I.rowI q.1 q.2.1]; simp [q.2.2], rfl⟩
  · cases e
theorem CK.ldJ (I : CK h0 C h) (a : Nat) (i : Int32) : OS (fun x y => x = y) (hldJ h a i) (tldJ C a i) := by
  intro v e
  unfold tldJ at e
  split at e
  · next q => cases e; exact ⟨_, by unfold hldJ; rw [I.rowJ q.1]; simp [q.2], rfl⟩
  · cases e
theorem CK.ldR (I : CK h0 C h) (kd a : Nat) (i : Int32) : OS (fun x y => x = y) (hldR h kd a i) (tldR C kd a i) := by
  intro v e
  unfold tldR at e
  split at e
  · next q => exact ⟨v, by unfold hldR; rw [I.rowR q.1 q.2.1]; simp [q.2.2, e], rfl⟩
  · cases e
theorem CK.len (I : CK h0 C h) (a : Nat) : OS (fun x y => x = y) (hlen h a) (tlen C a) := by
  intro v e
  unfold tlen at e
  split at e
  · next q =>
    cases e
    refine ⟨_, ?_, rfl⟩
    have h5 : c_kd C a = 20 ∨ c_kd C a = 21 ∨ c_kd C a = 22 ∨ c_kd C a = 23 ∨ c_kd C a = 24 := by omega
    have h6 := I.1.2.2.1 a (by omega)
    unfold c_cell at h6
    rcases h5 with h5 | h5 | h5 | h5 | h5 <;> (simp [h5] at h6; exact hlen_eq h6 (by decide))
  · cases e
/-- one cell is made another of the same kind -/
theorem CK.put (I : CK h0 C h) {C' : CH} {a : Nat} {e : AE} (h1 : C'.1 = C.1) (h2 : C'.2.1 = C.2.1) (hkd : c_kd C' = c_kd C) (ha : c_kd C a ≠ 0) (he : c_cell C' a = some e) (ho : ∀ b, b ≠ a → c_cell C' b = c_cell C b) : CK h0 C' (hup h a e) := by
  obtain ⟨⟨q1, q2, q3, q4⟩, q5, q6⟩ := I
  refine ⟨⟨by rw [h1]; exact q1, by rw [h2]; exact q2, fun b hb => ?_, fun b hb => by rw [h1]; rw [hkd] at hb; exact q4 b hb⟩, q5, fun b hb hl => ?_⟩
  · rw [hkd] at hb
    by_cases hba : b = a
    · subst hba
      rw [hup_same, he]
    · rw [hup_ne hba, ho b hba]
      exact q3 b hb
  · rw [hkd] at hb
    rw [hup_ne (fun z => ha (by rw [← z]; exact hb))]
    exact q6 b hb hl
theorem CK.st (I : CK h0 C h) (kd a : Nat) (i x : Int32) : OS (fun h' C' => CK h0 C' h') (hst h kd a i x) (tst C kd a i x) := by
  intro c e
  unfold tst at e
  split at e
  · next q =>
    cases e
    refine ⟨hup h a (.inl (kd, c_ln C a, .inl (upd (c_ar C a) i.toNatClampNeg x))), by unfold hst; rw [I.rowI q.1 q.2.1]; simp [q.2.2], I.put rfl rfl rfl (by omega) ?_ (fun b hb => ?_)⟩
    · have hk : c_kd (s_ar C (va_up (c_ar C) a (upd (c_ar C a) i.toNatClampNeg x))) a = kd + 20 := q.1
      unfold c_cell
      rw [hk]
      rcases q.2.1 with rfl | rfl <;> simp [s_ar, va_up, c_kd, c_ln, c_iv, c_jv, c_rv, c_ar, c_al, c_ro]
    · have hv : c_ar (s_ar C (va_up (c_ar C) a (upd (c_ar C a) i.toNatClampNeg x))) b = c_ar C b := by simp [s_ar, c_ar, va_up, hb]
      unfold c_cell
      rw [hv]
      rfl
  · cases e
theorem CK.stJ (I : CK h0 C h) (a : Nat) (i : Int32) (x : Int64) : OS (fun h' C' => CK h0 C' h') (hstJ h a i x) (tstJ C a i x) := by
  intro c e
  unfold tstJ at e
  split at e
  · next q =>
    cases e
    refine ⟨hup h a (.inl (1, c_ln C a, .inr (.inl (vp_updL (c_al C a) i.toNatClampNeg x)))), by unfold hstJ; rw [I.rowJ q.1]; simp [q.2], I.put rfl rfl rfl (by omega) ?_ (fun b hb => ?_)⟩
    · have hk : c_kd (s_al C (va_up (c_al C) a (vp_updL (c_al C a) i.toNatClampNeg x))) a = 21 := q.1
      unfold c_cell
      rw [hk]
      simp [s_al, va_up, c_kd, c_ln, c_iv, c_jv, c_rv, c_ar, c_al, c_ro]
    · have hv : c_al (s_al C (va_up (c_al C) a (vp_updL (c_al C a) i.toNatClampNeg x))) b = c_al C b := by simp [s_al, c_al, va_up, hb]
      unfold c_cell
      rw [hv]
      rfl
  · cases e
theorem fty_long {ci k : Nat} (h : fty ci k = 1) : k = 4 := by
  unfold fty at h
  split at h <;> first | rfl | cases h
theorem CK.pF (I : CK h0 C h) (a ci k : Nat) (v : Value) : OS (fun h' C' => CK h0 C' h') (hpF h a ci k v) (tpF C a ci k v) := by
  intro c e
  unfold tpF at e
  split at e
  · next q =>
    have hf : hpF h a ci k v = some (hup h a (.inr (ci, ((List.range (nF ci)).map (c_fv C a ci)).set k v))) := hpF_eq (I.obj q.1 q.2.1) (by simp; exact q.2.2)
    refine ⟨_, hf, ?_⟩
    have key : ∀ C' : CH, C'.1 = C.1 → C'.2.1 = C.2.1 → C'.2.2.1 = C.2.2.1 → C'.2.2.2.1 = C.2.2.2.1 → c_ar C' = c_ar C → c_al C' = c_al C → c_ro C' = c_ro C → (∀ j, c_fv C' a ci j = if j = k then v else c_fv C a ci j) → (∀ b, b ≠ a → ∀ cj j, c_fv C' b cj j = c_fv C b cj j) → CK h0 C' (hup h a (.inr (ci, ((List.range (nF ci)).map (c_fv C a ci)).set k v))) := by
      intro C' e1 e2 e3 e4 e5 e6 e7 e8 e9
      have hkd : c_kd C' = c_kd C := e3
      have hln : c_ln C' = c_ln C := e4
      refine I.put e1 e2 e3 (by omega) ?_ (fun b hb => ?_)
      · unfold c_cell
        rw [hkd, q.1, if_neg (by omega), if_pos (by omega), map_set]
        have h7 : c_fv C' a ci = va_up (c_fv C a ci) k v := by
          funext j
          rw [e8]
          rfl
        show some (Sum.inr (ci, (List.range (nF ci)).map (c_fv C' a ci))) = _
        rw [h7]
      · unfold c_cell
        have h7 : ∀ cj, c_fv C' b cj = c_fv C b cj := fun cj => by funext j; exact e9 b hb cj j
        rw [hkd, hln, e5, e6, e7, h7]
    split at e
    · next x =>
      split at e
      · next hx =>
        cases e
        refine key _ rfl rfl rfl rfl rfl rfl rfl (fun j => ?_) (fun b hb cj j => ?_)
        · by_cases hj : j = k
          · subst hj
            simp [c_fv, s_iv, up2, hx, c_iv]
          · simp [c_fv, s_iv, up2, hj, c_iv, c_jv, c_rv]
        · simp [c_fv, s_iv, up2, hb, c_iv, c_jv, c_rv]
      · cases e
    · next x =>
      split at e
      · next hx =>
        cases e
        refine key _ rfl rfl rfl rfl rfl rfl rfl (fun j => ?_) (fun b hb cj j => ?_)
        · by_cases hj : j = k
          · subst hj
            simp [c_fv, s_jv, va_up, hx, c_jv]
          · have h1 : fty ci j ≠ 1 := fun z => hj ((fty_long z).trans (fty_long hx).symm)
            simp [c_fv, s_jv, hj, h1, c_iv, c_rv]
        · simp [c_fv, s_jv, va_up, hb, c_iv, c_jv, c_rv]
      · cases e
    · next x =>
      split at e
      · next hx =>
        cases e
        refine key _ rfl rfl rfl rfl rfl rfl rfl (fun j => ?_) (fun b hb cj j => ?_)
        · by_cases hj : j = k
          · subst hj
            simp [c_fv, s_rv, up2, hx, c_rv, va_rf]
          · simp [c_fv, s_rv, up2, hj, c_iv, c_jv, c_rv]
        · simp [c_fv, s_rv, up2, hb, c_iv, c_jv, c_rv]
      · cases e
    · cases e
  · cases e
/-- a new cell's kind, length and contents, out of what the heap's side makes (rows of nothing, objects of nothing) -/
def tkd (e : AE) : Nat := match e with
  | .inl x => x.1 + 20
  | .inr o => o.1 + 1
def tln (e : AE) : Nat := match e with
  | .inl x => x.2.1
  | .inr _ => 0
def tro (e : AE) : Nat → Option Nat := match e with
  | .inl (_, _, .inr (.inr (.inr (.inr f)))) => f
  | _ => fun _ => none
def tnew (C : CH) (e : AE) : CH := (C.1 + 1, C.2.1, va_up C.2.2.1 C.1 (tkd e), va_up C.2.2.2.1 C.1 (tln e), va_up C.2.2.2.2.1 C.1 (fun _ => 0), va_up C.2.2.2.2.2.1 C.1 0, va_up C.2.2.2.2.2.2.1 C.1 (fun _ => none), va_up C.2.2.2.2.2.2.2.1 C.1 (fun _ => 0), va_up C.2.2.2.2.2.2.2.2.1 C.1 (fun _ => 0), va_up C.2.2.2.2.2.2.2.2.2 C.1 (tro e))
theorem tnew_other {C : CH} {e : AE} {b : Nat} (hb : b ≠ C.1) : c_cell (tnew C e) b = c_cell C b := by
  have h1 : c_kd (tnew C e) b = c_kd C b := by simp [tnew, c_kd, va_up, hb]
  have h2 : c_ln (tnew C e) b = c_ln C b := by simp [tnew, c_ln, va_up, hb]
  have h3 : c_ar (tnew C e) b = c_ar C b := by simp [tnew, c_ar, va_up, hb]
  have h4 : c_al (tnew C e) b = c_al C b := by simp [tnew, c_al, va_up, hb]
  have h5 : c_ro (tnew C e) b = c_ro C b := by simp [tnew, c_ro, va_up, hb]
  have h6 : ∀ ci, c_fv (tnew C e) b ci = c_fv C b ci := fun ci => by funext k; simp [c_fv, tnew, c_iv, c_jv, c_rv, va_up, hb]
  unfold c_cell
  rw [h1, h2, h3, h4, h5, h6]
theorem CK.new (I : CK h0 C h) (e : AE) (he : c_cell (tnew C e) C.1 = some e) : CK h0 (tnew C e) (hnew h e) := by
  obtain ⟨⟨q1, q2, q3, q4⟩, q5, q6⟩ := I
  have hkd : ∀ b, b ≠ C.1 → c_kd (tnew C e) b = c_kd C b := fun b hb => by simp [tnew, c_kd, va_up, hb]
  refine ⟨⟨by show h.1 + 1 = C.1 + 1; rw [q1], q2, fun b hb => ?_, fun b hb => ?_⟩, Nat.le_succ_of_le q5, fun b hb hl => ?_⟩
  · by_cases hbn : b = C.1
    · subst hbn
      rw [he, ← q1]
      exact hnew_same h e
    · rw [hnew_ne (by rw [q1]; exact hbn), tnew_other hbn]
      exact q3 b (by rw [← hkd b hbn]; exact hb)
  · show b < C.1 + 1
    by_cases hbn : b = C.1
    · omega
    · have := q4 b (by rw [← hkd b hbn]; exact hb)
      omega
  · have hbn : b ≠ C.1 := by rw [← q1]; omega
    rw [hnew_ne (by rw [q1]; exact hbn)]
    exact q6 b (by rw [← hkd b hbn]; exact hb) hl
def tob (C : CH) (a : Nat) : Option Unit := if c_kd C a ≠ 0 ∧ c_kd C a < 14 then some () else none
def toa (C : CH) (a : Nat) : Option Unit := if c_kd C a = 23 ∧ 0 < c_ln C a then some () else none
def tstR (C : CH) (a : Nat) (i : Int32) (x : Nat) : Option CH := if c_kd C a = 23 ∧ hin i (c_ln C a) = true ∧ tob C x = some () then some (s_ro C (va_up (c_ro C) a (va_up (c_ro C a) i.toNatClampNeg (some x)))) else none
def tcpy (C : CH) (a0 a : Nat) (n : Int32) : Option CH := if c_kd C a0 = 23 ∧ c_kd C a = 23 ∧ 0 < c_ln C a0 ∧ 0 < c_ln C a ∧ ¬ n < 0 ∧ n.toNatClampNeg ≤ c_ln C a0 ∧ n.toNatClampNeg ≤ c_ln C a ∧ (List.range n.toNatClampNeg).all (fun i => match c_ro C a0 i with | none => true | some y => (tob C y).isSome) = true then some (s_ro C (va_up (c_ro C) a (va_cpy (c_ro C a0) (c_ro C a) 0 0 n.toNatClampNeg))) else none
def tnews (C : CH) : List AE → CH
  | [] => C
  | e :: es => tnews (tnew C e) es
theorem CK.ob (I : CK h0 C h) {a : Nat} (e : tob C a = some ()) : hob h a = some () := by
  unfold tob at e
  split at e
  · next q =>
    unfold hob
    rw [I.obj (ci := c_kd C a - 1) (by omega) (by omega)]
    simp
    omega
  · cases e
theorem CK.oa (I : CK h0 C h) (a : Nat) : OS (fun x y => x = y) (hoa h a) (toa C a) := by
  intro v e
  unfold toa at e
  split at e
  · next q =>
    refine ⟨(), ?_, rfl⟩
    unfold hoa
    rw [I.rowR (kd := 3) q.1 (Or.inl rfl)]
    simp [q.2]
  · cases e
theorem cell_ro {C : CH} {a : Nat} (f : Nat → Option Nat) (hk : c_kd C a = 23) : c_cell (s_ro C (va_up (c_ro C) a f)) a = some (.inl (3, c_ln C a, .inr (.inr (.inr (.inr f))))) ∧ ∀ b, b ≠ a → c_cell (s_ro C (va_up (c_ro C) a f)) b = c_cell C b := by
  refine ⟨?_, fun b hb => ?_⟩
  · have h1 : c_kd (s_ro C (va_up (c_ro C) a f)) a = 23 := hk
    have h2 : c_ro (s_ro C (va_up (c_ro C) a f)) a = f := by simp [s_ro, c_ro, va_up]
    unfold c_cell
    rw [h1, h2]
    rfl
  · have hv : c_ro (s_ro C (va_up (c_ro C) a f)) b = c_ro C b := by simp [s_ro, c_ro, va_up, hb]
    unfold c_cell
    rw [hv]
    rfl
theorem CK.stR (I : CK h0 C h) (a : Nat) (i : Int32) (x : Nat) : OS (fun h' C' => CK h0 C' h') (hstR h a i x) (tstR C a i x) := by
  intro c e
  unfold tstR at e
  split at e
  · next q =>
    cases e
    obtain ⟨h1, h2⟩ := cell_ro (va_up (c_ro C a) i.toNatClampNeg (some x)) q.1
    refine ⟨hup h a (.inl (3, c_ln C a, .inr (.inr (.inr (.inr (va_up (c_ro C a) i.toNatClampNeg (some x))))))), ?_, I.put rfl rfl rfl (by omega) h1 h2⟩
    unfold hstR
    rw [I.rowR (kd := 3) q.1 (Or.inl rfl), I.ob q.2.2]
    simp [q.2.1]
  · cases e
theorem CK.cpy (I : CK h0 C h) (a0 a : Nat) (n : Int32) : OS (fun h' C' => CK h0 C' h') (hcpy h a0 a n) (tcpy C a0 a n) := by
  intro c e
  unfold tcpy at e
  split at e
  · next q =>
    cases e
    obtain ⟨x1, x2, x3, x4, x5, x6, x7, x8⟩ := q
    obtain ⟨h1, h2⟩ := cell_ro (va_cpy (c_ro C a0) (c_ro C a) 0 0 n.toNatClampNeg) x2
    refine ⟨hup h a (.inl (3, c_ln C a, .inr (.inr (.inr (.inr (va_cpy (c_ro C a0) (c_ro C a) 0 0 n.toNatClampNeg)))))), ?_, I.put rfl rfl rfl (by omega) h1 h2⟩
    unfold hcpy
    rw [I.rowR (kd := 3) x1 (Or.inl rfl), I.rowR (kd := 3) x2 (Or.inl rfl)]
    have hall : (List.range n.toNatClampNeg).all (fun i => match c_ro C a0 i with | none => true | some y => (hob h y).isSome) = true := by
      apply List.all_eq_true.mpr
      intro i hi
      have h3 := List.all_eq_true.mp x8 i hi
      split
      · rfl
      · next y hy =>
        rw [hy] at h3
        obtain ⟨u, hu⟩ := Option.isSome_iff_exists.mp h3
        rw [I.ob hu]
        rfl
    dsimp only
    rw [if_pos ⟨rfl, rfl, x3, x4, x5, x6, x7, hall⟩]
  · cases e
end CKR
