/-! THE START, AND THE END -/
def C00 (base z mi : Nat) : CH := (base, (z, mi), (fun a => if a = z then 23 else 0), (fun _ => 0), (fun _ _ => 0), (fun _ => 0), (fun _ _ => none), (fun _ _ => 0), (fun _ _ => 0), (fun _ _ => none))
theorem C00_CK (base z mi : Nat) (hz : z < base) : CK (law_h0 base z mi) (C00 base z mi) (law_h0 base z mi) := by
  have key : ∀ a, c_kd (C00 base z mi) a ≠ 0 → a = z := fun a ha => Classical.byContradiction (fun hn => ha (if_neg hn))
  refine ⟨⟨rfl, rfl, fun a ha => ?_, fun a ha => ?_⟩, Nat.le_refl _, fun _ _ _ => rfl⟩
  · have := key a ha
    subst this
    have h1 : c_kd (C00 base a mi) a = 23 := if_pos rfl
    unfold c_cell
    rw [h1]
    show va_up (fun _ => none) a (some ha_z) a = _
    rw [va_e]
    rfl
  · rw [key a ha]; exact hz
/-- nothing has been called yet -/
theorem start_inv {b z : Nat} {C0 C : CH} (hz : C0.2.1.1 = z) (hzb : z < b) (kz : c_kd C0 z = 23) (lz : c_ln C0 z = 0) (q1 : C.1 = b + 51) (q2 : C.2.1 = C0.2.1) (q3 : ∀ a, a < b → Agr C0 C a) (q4 : StS (sh C) b) (q5 : ∀ j, 51 ≤ j → j < 81 → c_kd C (b + j) = 0) (q6 : c_rv C (b + 3) 1 = some z ∧ c_rv C (b + 17) 1 = some z ∧ c_rv C (b + 32) 1 = some z) (q7 : c_iv C (b + 3) 2 = 0 ∧ c_iv C (b + 17) 2 = 0 ∧ c_iv C (b + 32) 2 = 0 ∧ c_iv C (b + 4) 6 = 0 ∧ c_iv C (b + 4) 7 = 0 ∧ c_iv C (b + 4) 8 = 0 ∧ c_iv C (b + 1) 1 = 0 ∧ c_iv C (b + 37) 2 = 0 ∧ c_iv C (b + 11) 7 = 0 ∧ c_iv C (b + 18) 5 = 0 ∧ c_iv C (b + 0) 5 = 0) (q8 : ∀ h, c_ar C (b + 9) h = 0) : Inv b (C.1 + 30, C.2) M0 := by
  obtain ⟨i1, i2, i3, i4, i5, i6, i7, i8, i9, i10, i11⟩ := q7
  have kz' : c_kd C z = 23 := (q3 z hzb).1.trans kz
  have lz' : c_ln C z = 0 := (q3 z hzb).2.1.trans lz
  have zz : C.2.1.1 = z := by rw [q2]; exact hz
  have li : ∀ o, c_kd C o = 1 → c_iv C o 2 = 0 → c_rv C o 1 = some z → ListC (C.1 + 30, C.2) b o 0 (fun _ => 0) := fun o h1 h2 h3 =>
    ⟨h1, h2, z, h3, kz', Nat.zero_le _, Or.inl lz', fun _ => zz.symm, Or.inl hzb, by show z < C.1 + 30; omega, fun i hi => absurd hi (Nat.not_lt_zero _)⟩
  have l3 := q4.li
  refine ⟨((0, (fun _ => 0), (fun _ => 0), (fun _ => 0), (fun _ => 0)), (fun _ => 0), (fun _ => 0), 0, 0), (0, (fun _ => 0), (fun _ => 0), (fun _ => 0), (fun _ _ => 0), (fun _ _ => 0)), (0, (fun _ => 0), (fun _ => 0), (fun _ => 0), (fun _ => 0)), 0, (0, (fun _ => 0), (fun _ => 0), (fun _ => 0)), (0, (fun _ => 0)), (0, (fun _ => 0), (fun _ => 0)), ?_, ⟨?_, ?_, ?_⟩, ⟨?_, ?_, ?_⟩, ⟨?_, ?_, ?_⟩, ⟨?_, ?_, ?_⟩, ⟨?_, ?_, ?_⟩, ⟨?_, ?_, ?_⟩, ⟨?_, ?_, ?_⟩, ?_, ?_⟩
  · refine ⟨q4, by show b + 81 ≤ C.1 + 30; omega, fun a p q => ?_, by show C.2.1.1 < b; omega, by show c_kd C C.2.1.1 = 23; rw [zz]; exact kz', by show c_ln C C.2.1.1 = 0; rw [zz]; exact lz', ?_⟩
    · have h := q5 (a - b) (by omega) (by omega)
      rw [show b + (a - b) = a by omega] at h
      exact h
    · exact ⟨z, z, z, q6.1, q6.2.1, q6.2.2, by show z < C.1 + 30; omega, by show z < C.1 + 30; omega, by show z < C.1 + 30; omega, fun _ => lz', fun _ => lz', fun _ => lz', Or.inl hzb, Or.inl hzb, Or.inl hzb⟩
  · exact ⟨⟨i4, fun h hh => absurd hh (Nat.not_lt_zero _)⟩, i5, i6, fun h _ => q8 h, fun h hh => absurd hh (Nat.not_lt_zero _)⟩
  · exact ⟨⟨rfl, fun h hh => absurd hh (Nat.not_lt_zero _)⟩, rfl, rfl, fun h hh => absurd hh (Nat.not_lt_zero _), fun h hh => absurd hh (Nat.not_lt_zero _)⟩
  · exact ⟨⟨Nat.zero_le _, fun h hh => absurd hh (Nat.not_lt_zero _)⟩, Nat.zero_lt_one, Nat.zero_le _, fun _ => Nat.zero_le _, fun _ _ => rfl, fun h hh => absurd hh (Nat.not_lt_zero _)⟩
  · exact ⟨li (b + 3) l3.1 i1 q6.1, fun s hs => absurd hs (Nat.not_lt_zero _)⟩
  · exact ⟨rfl, fun s hs => absurd hs (Nat.not_lt_zero _)⟩
  · exact ⟨Nat.zero_le _, fun s hs => absurd hs (Nat.not_lt_zero _)⟩
  · exact ⟨li (b + 17) l3.2.1 i2 q6.2.1, fun s hs => absurd hs (Nat.not_lt_zero _)⟩
  · exact ⟨rfl, fun s hs => absurd hs (Nat.not_lt_zero _)⟩
  · exact ⟨Nat.zero_le _, fun s hs => absurd hs (Nat.not_lt_zero _)⟩
  · exact i11
  · rfl
  · exact Nat.zero_le _
  · exact ⟨li (b + 32) l3.2.2 i3 q6.2.2, fun s hs => absurd hs (Nat.not_lt_zero _)⟩
  · exact ⟨rfl, fun s hs => absurd hs (Nat.not_lt_zero _)⟩
  · exact ⟨Nat.zero_le _, fun s hs => absurd hs (Nat.not_lt_zero _)⟩
  · exact ⟨i7, fun s hs => absurd hs (Nat.not_lt_zero _)⟩
  · exact ⟨rfl, fun s hs => absurd hs (Nat.not_lt_zero _)⟩
  · exact ⟨Nat.zero_le _, fun s hs => absurd hs (Nat.not_lt_zero _)⟩
  · exact ⟨i8, fun s hs => absurd hs (Nat.not_lt_zero _)⟩
  · exact ⟨rfl, fun s hs => absurd hs (Nat.not_lt_zero _)⟩
  · exact ⟨Nat.zero_le _, fun s hs => absurd hs (Nat.not_lt_zero _)⟩
  · exact ⟨0, Nat.zero_le _, i9, rfl, fun t ht => absurd ht (Nat.not_lt_zero _)⟩
  · exact Or.inl i10
/-- both constructors -/
theorem law_start (base z mi : Nat) (hz : z < base) : ∃ q1 q3 : AH, f_X11_init base (hnew (law_h0 base z mi) (.inr (12, [.null, .null, .null, .null, .null, .int 0, .null, .null, .null, .null, .null, .null]))) = some q1 ∧ f_X12_init q1.1 (hnew q1 (.inr (13, [.int 0, .null, .null, .null, .null, .int 0, .null, .int 0, .null, .null, .null, .null, .null, .null, .int 0, .int 0, .int 0, .null, .null, .null, .int 0, .int 0, .int 0, .null, .null, .null, .int 0, .null, .null, .null, .int 0, .null, .null, .null, .null, .int 0, .null, .null, .null, .int 0, .int 0, .int 0, .int 0, .null, .null, .int 0, .long 0]))) = some q3 ∧ q1.1 = base + 51 ∧ ∃ C M, LI base C M q3 := by
  have I0 := C00_CK base z mi hz
  have I1 := I0.new (.inr (12, [.null, .null, .null, .null, .null, .int 0, .null, .null, .null, .null, .null, .null])) (cell_obj _ 12 (by decide))
  have kb : ∀ j, c_kd (C00 base z mi) (base + j) = 0 := fun j => if_neg (by omega)
  obtain ⟨C, e1, q1, q2, q3, q4, q5, q6, q7, q8⟩ := init_wp (b := base) (z := z) (C0 := C00 base z mi) rfl rfl (fun j => ⟨kb j, rfl, fun _ => rfl, fun _ => rfl, fun _ => rfl, fun _ => rfl⟩)
  obtain ⟨h1, f1, K1⟩ := simt_X11_init base I1 C e1
  have n1 : h1.1 = base + 51 := K1.1.1.trans q1
  have I := start_inv (b := base) (z := z) (C0 := C00 base z mi) (C := C) rfl hz (if_pos rfl) rfl q1 q2 q3 q4 q5 q6 q7 q8
  obtain ⟨h3, f3, m1, m2, m3, m4⟩ := minit h1.1 (hnew h1 (.inr (13, [.int 0, .null, .null, .null, .null, .int 0, .null, .int 0, .null, .null, .null, .null, .null, .null, .int 0, .int 0, .int 0, .null, .null, .null, .int 0, .int 0, .int 0, .null, .null, .null, .int 0, .null, .null, .null, .int 0, .null, .null, .null, .null, .int 0, .null, .null, .null, .int 0, .int 0, .int 0, .int 0, .null, .null, .int 0, .long 0]))) (hnew_same h1 _) rfl
  refine ⟨h1, h3, f1, f3, n1, _, M0, ⟨?_, ?_, ?_, ?_⟩, by rw [← n1]; exact m3, I⟩
  · show h3.1 = C.1 + 30
    rw [m1, q1, n1]
  · show h3.2.1 = C.2.1
    rw [m2]
    exact K1.1.2.1
  · intro a ha
    have hl : a < h1.1 := by rw [K1.1.1]; exact K1.1.2.2.2 a ha
    rw [m4 a hl, hnew_ne (by omega)]
    exact K1.1.2.2.1 a ha
  · intro a ha
    have := K1.1.2.2.2 a ha
    show a < C.1 + 30
    omega
theorem law_out {b m L k : Nat} {xs : Nat → Int32} {h : AH} (hL : L ≤ 2560) (hk : L < 5 * k + 5) (hk2 : k ≤ 512) : f_L_law_L18 b m L xs (nI (5 * k), h) = some (.inr h) := by
  have s9 : (Int32.ofNat L - 5) < nI (5 * k) := by
    by_cases h5 : 5 ≤ L
    · rw [show (Int32.ofNat L - 5) = nI (L - 5) from nI_subI (a := L) (b := 5) h5]
      exact nI_lt (by omega) (by omega)
    · have p := nI_sub_neg (a := L) (b := 5) (by omega) (by decide)
      have q := nI_pos' (n := 5 * k) (by omega)
      rw [Int32.lt_iff_toInt_lt] at p ⊢
      rw [Int32.le_iff_toInt_le] at q
      exact Int.lt_of_lt_of_le p q
  unfold f_L_law_L18
  dsimp only
  rw [if_pos s9]
theorem law_true : ∀ (L : Nat) (xs : Nat → Int32) (base z mi : Nat), L ≤ 2560 → z < base → ∃ r : AH, f_L_law L xs (law_h0 base z mi) = some r := by
  intro L xs base z mi hL hz
  obtain ⟨q1, q3, e1, e3, n1, C, M, J⟩ := law_start base z mi hz
  obtain ⟨r, h1, -⟩ := iter_end (body := f_L_law_L18 base (base + 51) L xs) (Post := fun _ => True) (fun i s => s.1 = nI (5 * i) ∧ ∃ C M, LI base C M s.2) 512 (fun i s hi hI => by
    obtain ⟨w, h⟩ := s
    obtain ⟨hw, C, M, J⟩ := hI
    dsimp only at hw J
    subst hw
    by_cases h5 : 5 * i + 5 ≤ L
    · obtain ⟨h2, C2, M2, g1, g2⟩ := law_round (xs := xs) hL h5 J
      exact Or.inl ⟨by omega, _, g1, rfl, C2, M2, g2⟩
    · exact Or.inr ⟨h, law_out hL (by omega) hi, trivial⟩) 600 0 ((0 : Int32), q3) ⟨rfl, C, M, J⟩ (by decide) (by decide)
  refine ⟨r, ?_⟩
  unfold f_L_law
  rw [show f_X11_init (law_h0 base z mi).1 (hnew (law_h0 base z mi) (.inr (12, [.null, .null, .null, .null, .null, .int 0, .null, .null, .null, .null, .null, .null]))) = some q1 from e1, Option.bind_some, e3, Option.bind_some, n1]
  exact h1
