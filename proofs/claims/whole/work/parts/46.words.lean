/-! WORDS ON A VERSE -/
def sg (x : Nat) : Bool := x == 1 || x == 2
theorem silent_eq {x : Nat} (hx : x ≤ 3) (C : CH) : t_X11_isSilent (nI x) C = some (if sg x = true then 0 else 1, C) := by
  have : x = 0 ∨ x = 1 ∨ x = 2 ∨ x = 3 := by omega
  rcases this with rfl | rfl | rfl | rfl <;> rfl
theorem sung_eq {x : Nat} (hx : x ≤ 3) (M : MS) : g_X12_isSung (nI x) M = some (if sg x = true then 1 else 0, M) := by
  have : x = 0 ∨ x = 1 ∨ x = 2 ∨ x = 3 := by omega
  rcases this with rfl | rfl | rfl | rfl <;> rfl
/-- how many of a word's first k sounds are wrong from the beat p on; none: one of the beats is silent -/
def wrL (v : Nat → Nat) (p m bits : Nat) : Nat → Option Nat
  | 0 => some 0
  | k + 1 => (wrL v p m bits k).bind fun c => if sg (v (p + k)) = true then some (c + (if bits.testBit (m - 1 - k) = (v (p + k) == 2) then 0 else 1)) else none
def wrM (v : Nat → Nat) (n p m bits : Nat) : Option Nat := if p + m ≤ n then wrL v p m bits m else none
def wI (x : Option Nat) : Int32 := x.elim (-1) nI
theorem wrL_none {v : Nat → Nat} {p m bits k : Nat} (h : wrL v p m bits k = none) : ∀ j, k ≤ j → wrL v p m bits j = none := by
  intro j hj
  induction j with
  | zero => rw [show k = 0 by omega] at h; exact h
  | succ j ih =>
    by_cases hkj : k = j + 1
    · rw [← hkj]; exact h
    · show (wrL v p m bits j).bind _ = none
      rw [ih (by omega)]
      rfl
theorem wrL_le {v : Nat → Nat} {p m bits : Nat} : ∀ k c, wrL v p m bits k = some c → c ≤ k
  | 0, c, h => by cases h; exact Nat.le_refl _
  | k + 1, c, h => by
    have h' : (wrL v p m bits k).bind (fun c => if sg (v (p + k)) = true then some (c + (if bits.testBit (m - 1 - k) = (v (p + k) == 2) then 0 else 1)) else none) = some c := h
    cases hw : wrL v p m bits k with
    | none => rw [hw] at h'; cases h'
    | some d =>
      rw [hw] at h'
      have h2 := wrL_le k d hw
      simp only [Option.bind_some] at h'
      split at h'
      · cases h'
        split <;> omega
      · cases h'
theorem wrM_le {v : Nat → Nat} {n p m bits c : Nat} (h : wrM v n p m bits = some c) : c ≤ m ∧ p + m ≤ n := by
  unfold wrM at h
  split at h
  · next h1 => exact ⟨wrL_le m c h, h1⟩
  · cases h
/-- a row's numbers -/
def RowV (C : CH) (o n : Nat) (v : Nat → Nat) : Prop := RowS (sh C) o ∧ c_iv C o 1 = nI n ∧ n ≤ 24 ∧ (∀ k, k < n → c_ar C (o + 1) k = nI (v k)) ∧ ∀ k, k < n → v k ≤ 3
theorem wrongIf_eq {C : CH} {wa o n m bits p : Nat} {v : Nat → Nat} (W : WordV C wa m bits) (V : RowV C o n v) (hm : 1 ≤ m ∧ m ≤ 5) (hbits : bits < 2 ^ m) (hp : p ≤ 24) : t_X10_wrongIfSungFrom wa o (nI p) C = some (wI (wrM v n p m bits), C) := by
  obtain ⟨k1, k2, k3⟩ := W
  obtain ⟨RS, r2, r3, r4, r5⟩ := V
  obtain ⟨wk, wr0, wk0, wl0⟩ := RS.f
  have hb2 : bits < 2 ^ 31 := Nat.lt_of_lt_of_le hbits (Nat.pow_le_pow_right (by decide) (by omega))
  unfold t_X10_wrongIfSungFrom wrM
  rw [if_neg (nI_pos (by omega))]
  simp only [tcl_11, tgI_11_0, tpI_11_0, tgI_11_1, tpI_11_1, tcl_7, tgR_7_0, tpR_7_0, tgI_7_1, tpI_7_1, k1, k2, wk, r2, Option.bind_some, nI_add]
  by_cases hle : p + m ≤ n
  · rw [if_pos (nI_le hle (by omega)), if_pos hle]
    have key : WP (iter (t_X10_wrongIfSungFrom_L24 wa o (nI p)) 100000 (0, 0, C)) (fun r => Sum.elim (fun q => q.2 = C ∧ ∃ c, wrL v p m bits m = some c ∧ q.1 = nI c) (fun D => D = C ∧ wrL v p m bits m = none) r) := by
      refine WP.it (fun k s => s.2.1 = nI k ∧ s.2.2 = C ∧ ∃ c, wrL v p m bits k = some c ∧ s.1 = nI c) m ?_ 100000 0 _ ⟨rfl, rfl, 0, rfl, rfl⟩ (Nat.zero_le _) (by omega)
      rintro k ⟨w, kk, D⟩ hk ⟨e1, e2, c, e3, e4⟩
      dsimp only at e1 e2 e4
      subst e1
      have e2 := e2.symm
      subst e2
      subst e4
      unfold t_X10_wrongIfSungFrom_L24
      dsimp only
      simp only [tcl_11, tgI_11_0, tpI_11_0, tgI_11_1, tpI_11_1, k1, k2, Option.bind_some]
      by_cases hlt : k < m
      · have d1 : p + k < 24 := by omega
        have hv3 := r5 (p + k) (by omega)
        rw [if_neg (nI_ge hlt (by omega))]
        simp only [tcl_7, tgR_7_0, tpR_7_0, tgI_7_1, tpI_7_1, Nat.reduceLT, tld_n, tst_n, tldB_n, tstB_n, tldR3_n, tldR4_n, tldJ_n, tstJ_n, tlen_I, tlen_R, wk, wr0, wk0, wl0, nI_add, d1, r4 (p + k) (by omega), Option.bind_some, silent_eq hv3]
        have hs : wrL v p m bits (k + 1) = (wrL v p m bits k).bind (fun c => if sg (v (p + k)) = true then some (c + (if bits.testBit (m - 1 - k) = (v (p + k) == 2) then 0 else 1)) else none) := rfl
        rw [e3] at hs
        simp only [Option.bind_some] at hs
        by_cases hsg : sg (v (p + k)) = true
        · rw [if_pos hsg] at hs
          simp only [hsg, ↓reduceIte, tcl_11, tgI_11_0, tpI_11_0, tgI_11_1, tpI_11_1, k1, k3, k2, t_X10_isStrong, Option.bind_some]
          have e5 : nI m - 1 - nI k = nI (m - 1 - k) := by rw [show (1 : Int32) = nI 1 from rfl, nI_subI (by omega), nI_subI (by omega)]
          rw [e5]
          have fin : ∀ z0 z1 : Int32, (z1 = z0 ↔ bits.testBit (m - 1 - k) = (v (p + k) == 2)) → WP (t_X10_wrongIfSungFrom_L24_J71 wa o (nI p) (nI c) (nI k) z0 z1 C) (Sum.elim (fun s' => k < m ∧ s'.2.1 = nI (k + 1) ∧ s'.2.2 = C ∧ ∃ c, wrL v p m bits (k + 1) = some c ∧ s'.1 = nI c) (fun r => Sum.elim (fun q => q.2 = C ∧ ∃ c, wrL v p m bits m = some c ∧ q.1 = nI c) (fun D => D = C ∧ wrL v p m bits m = none) r)) := by
            intro z0 z1 hz
            unfold t_X10_wrongIfSungFrom_L24_J71
            by_cases hzz : z1 = z0
            · rw [if_pos hzz]
              rw [if_pos (hz.mp hzz)] at hs
              simp only [WP_bind, WP_some, Option.bind_some, Sum.elim_inl, Sum.elim_inr, ↓reduceIte]
              exact ⟨hlt, nI_1 k, trivial, c, hs, rfl⟩
            · rw [if_neg hzz]
              rw [if_neg (fun z => hzz (hz.mpr z))] at hs
              simp only [WP_bind, WP_some, Option.bind_some, Sum.elim_inl, Sum.elim_inr, ↓reduceIte]
              exact ⟨hlt, nI_1 k, trivial, c + 1, hs, nI_1 c⟩
          by_cases h2 : v (p + k) = 2
          · have c2 : nI (v (p + k)) = 2 := by rw [h2]; rfl
            by_cases hst : bits.testBit (m - 1 - k) = true
            · have c1 := (nI_bit hb2 (show m - 1 - k < 31 by omega)).mpr hst
              simp only [c1, ↓reduceIte, c2, Option.bind_some]
              exact fin 1 1 (by simp [h2, hst])
            · have c1 : ¬ ((nI bits >>> (nI (m - 1 - k) &&& 31)) &&& 1) = 1 := fun z => hst ((nI_bit hb2 (by omega)).mp z)
              simp only [c1, ↓reduceIte, c2, Option.bind_some]
              exact fin 1 0 (by simp [h2, hst])
          · have c2 : ¬ nI (v (p + k)) = 2 := fun z => h2 ((nI_eq (b := 2) (by omega) (by omega)).mp z)
            by_cases hst : bits.testBit (m - 1 - k) = true
            · have c1 := (nI_bit hb2 (show m - 1 - k < 31 by omega)).mpr hst
              simp only [c1, ↓reduceIte, c2, Option.bind_some]
              exact fin 0 1 (by simp [h2, hst])
            · have c1 : ¬ ((nI bits >>> (nI (m - 1 - k) &&& 31)) &&& 1) = 1 := fun z => hst ((nI_bit hb2 (by omega)).mp z)
              simp only [c1, ↓reduceIte, c2, Option.bind_some]
              exact fin 0 0 (by simp [h2, hst])
        · rw [if_neg hsg] at hs
          simp only [hsg, ↓reduceIte, Bool.false_eq_true, i10, WP_bind, WP_some, Option.bind_some, Sum.elim_inl, Sum.elim_inr, ↓reduceIte]
          exact ⟨trivial, wrL_none hs m (by omega)⟩
      · have hkk : k = m := by omega
        subst hkk
        rw [if_pos (nI_le (by omega) (by omega))]
        simp only [WP_bind, WP_some, Option.bind_some, Sum.elim_inl, Sum.elim_inr, ↓reduceIte]
        exact ⟨trivial, c, e3, rfl⟩
    obtain ⟨r, e, h⟩ := key
    rw [show (0 : Int32) = nI 0 from rfl] at e ⊢
    rw [e]
    cases r with
    | inl q =>
      obtain ⟨h1, c, h2, h3⟩ := h
      rw [h2]
      simp only [Option.bind_some, Sum.elim_inl]
      rw [h1, h3]
      rfl
    | inr D =>
      obtain ⟨h1, h2⟩ := h
      rw [h2]
      simp only [Option.bind_some, Sum.elim_inr]
      rw [h1]
      rfl
  · rw [if_neg (nI_ge (by omega) (by omega)), if_neg hle]
    rfl
theorem wrongOf_eq {M : MS} {s w n m bits p : Nat} {v : Nat → Nat} (hs : s < 6) (hw : w < 12) (h1 : M.2.2.1 1 s = nI n) (hn : n ≤ 24) (h3 : ∀ k, k < n → M.2.2.1 3 (24 * s + k) = nI (v k)) (hv : ∀ k, k < n → v k ≤ 3) (h31 : M.2.2.1 31 w = nI m) (h32 : M.2.2.1 32 w = nI bits) (hm : 1 ≤ m ∧ m ≤ 5) (hbits : bits < 2 ^ m) (hp : p ≤ 24) : g_X12_wrongOf (nI s) (nI p) (nI w) M = some (wI (wrM v n p m bits), M) := by
  have hb2 : bits < 2 ^ 31 := Nat.lt_of_lt_of_le hbits (Nat.pow_le_pow_right (by decide) (by omega))
  have m31 : mld M 31 (nI w) = some (nI m) := by rw [mld_n (k := 31) (show w < 12 from hw) (by decide), h31]
  have m32 : mld M 32 (nI w) = some (nI bits) := by rw [mld_n (k := 32) (show w < 12 from hw) (by decide), h32]
  have m1 : mld M 1 (nI s) = some (nI n) := by rw [mld_n (k := 1) (show s < 6 from hs) (by decide), h1]
  unfold g_X12_wrongOf wrM
  simp only [m31, m1, Option.bind_some, nI_add]
  by_cases hle : p + m ≤ n
  · rw [if_pos (nI_le hle (by omega)), if_pos hle]
    have key : WP (iter (g_X12_wrongOf_L25 (nI s) (nI p) (nI w)) 100000 (0, 0, M)) (fun r => Sum.elim (fun q => q.2 = M ∧ ∃ c, wrL v p m bits m = some c ∧ q.1 = nI c) (fun D => D = M ∧ wrL v p m bits m = none) r) := by
      refine WP.it (fun k s => s.2.1 = nI k ∧ s.2.2 = M ∧ ∃ c, wrL v p m bits k = some c ∧ s.1 = nI c) m ?_ 100000 0 _ ⟨rfl, rfl, 0, rfl, rfl⟩ (Nat.zero_le _) (by omega)
      rintro k ⟨wv, kk, D⟩ hk ⟨e1, e2, c, e3, e4⟩
      dsimp only at e1 e2 e4
      subst e1
      have e2 := e2.symm
      subst e2
      subst e4
      unfold g_X12_wrongOf_L25
      dsimp only
      simp only [m31, Option.bind_some]
      by_cases hlt : k < m
      · have hv3 := hv (p + k) (by omega)
        have m3 : mld M 3 (24 * nI s + nI p + nI k) = some (nI (v (p + k))) := by
          rw [ix24, nI_add, show 24 * s + p + k = 24 * s + (p + k) by omega, mld_n (k := 3) (show 24 * s + (p + k) < 144 by omega) (by decide), h3 (p + k) (by omega)]
        rw [if_neg (nI_ge hlt (by omega))]
        simp only [m3, Option.bind_some, sung_eq hv3]
        have hs : wrL v p m bits (k + 1) = (wrL v p m bits k).bind (fun c => if sg (v (p + k)) = true then some (c + (if bits.testBit (m - 1 - k) = (v (p + k) == 2) then 0 else 1)) else none) := rfl
        rw [e3] at hs
        simp only [Option.bind_some] at hs
        by_cases hsg : sg (v (p + k)) = true
        · rw [if_pos hsg] at hs
          simp only [hsg, ↓reduceIte, i10, m32, m31, Option.bind_some]
          have e5 : nI m - 1 - nI k = nI (m - 1 - k) := by rw [show (1 : Int32) = nI 1 from rfl, nI_subI (by omega), nI_subI (by omega)]
          rw [e5]
          have fin : ∀ z0 z1 : Int32, (z1 = z0 ↔ bits.testBit (m - 1 - k) = (v (p + k) == 2)) → WP (g_X12_wrongOf_L25_J108 (nI s) (nI p) (nI w) (nI k) z0 z1 (nI c) M) (Sum.elim (fun s' => k < m ∧ s'.2.1 = nI (k + 1) ∧ s'.2.2 = M ∧ ∃ c, wrL v p m bits (k + 1) = some c ∧ s'.1 = nI c) (fun r => Sum.elim (fun q => q.2 = M ∧ ∃ c, wrL v p m bits m = some c ∧ q.1 = nI c) (fun D => D = M ∧ wrL v p m bits m = none) r)) := by
            intro z0 z1 hz
            unfold g_X12_wrongOf_L25_J108 g_X12_wrongOf_L25_J116 g_X12_bit
            by_cases hzz : z1 = z0
            · rw [if_pos hzz]
              rw [if_pos (hz.mp hzz)] at hs
              simp only [WP_bind, WP_some, Option.bind_some, Sum.elim_inl, Sum.elim_inr, ↓reduceIte]
              exact ⟨hlt, nI_1 k, trivial, c, hs, by rw [Int32.add_zero]⟩
            · rw [if_neg hzz]
              rw [if_neg (fun z => hzz (hz.mpr z))] at hs
              simp only [i10, WP_bind, WP_some, Option.bind_some, Sum.elim_inl, Sum.elim_inr, ↓reduceIte]
              exact ⟨hlt, nI_1 k, trivial, c + 1, hs, nI_1 c⟩
          by_cases h2 : v (p + k) = 2
          · have c2 : nI (v (p + k)) = 2 := by rw [h2]; rfl
            by_cases hst : bits.testBit (m - 1 - k) = true
            · have c1 := (nI_bit hb2 (show m - 1 - k < 31 by omega)).mpr hst
              simp only [c1, ↓reduceIte, c2, g_X12_wrongOf_L25_J97]
              exact fin 1 1 (by simp [h2, hst])
            · have c1 : ¬ ((nI bits >>> (nI (m - 1 - k) &&& 31)) &&& 1) = 1 := fun z => hst ((nI_bit hb2 (by omega)).mp z)
              simp only [c1, ↓reduceIte, c2, g_X12_wrongOf_L25_J97]
              exact fin 1 0 (by simp [h2, hst])
          · have c2 : ¬ nI (v (p + k)) = 2 := fun z => h2 ((nI_eq (b := 2) (by omega) (by omega)).mp z)
            by_cases hst : bits.testBit (m - 1 - k) = true
            · have c1 := (nI_bit hb2 (show m - 1 - k < 31 by omega)).mpr hst
              simp only [c1, ↓reduceIte, c2, g_X12_wrongOf_L25_J97]
              exact fin 0 1 (by simp [h2, hst])
            · have c1 : ¬ ((nI bits >>> (nI (m - 1 - k) &&& 31)) &&& 1) = 1 := fun z => hst ((nI_bit hb2 (by omega)).mp z)
              simp only [c1, ↓reduceIte, c2, g_X12_wrongOf_L25_J97]
              exact fin 0 0 (by simp [h2, hst])
        · rw [if_neg hsg] at hs
          simp only [hsg, ↓reduceIte, Bool.false_eq_true, WP_bind, WP_some, Option.bind_some, Sum.elim_inl, Sum.elim_inr, ↓reduceIte]
          exact ⟨trivial, wrL_none hs m (by omega)⟩
      · have hkk : k = m := by omega
        subst hkk
        rw [if_pos (nI_le (by omega) (by omega))]
        simp only [WP_bind, WP_some, Option.bind_some, Sum.elim_inl, Sum.elim_inr, ↓reduceIte]
        exact ⟨trivial, c, e3, rfl⟩
    obtain ⟨r, e, h⟩ := key
    rw [e]
    cases r with
    | inl q =>
      obtain ⟨h1, c, h2, h3⟩ := h
      rw [h2]
      simp only [Option.bind_some, Sum.elim_inl]
      rw [h1, h3]
      rfl
    | inr D =>
      obtain ⟨h1, h2⟩ := h
      rw [h2]
      simp only [Option.bind_some, Sum.elim_inr]
      rw [h1]
      rfl
  · rw [if_neg (nI_ge (by omega) (by omega)), if_neg hle]
    rfl
