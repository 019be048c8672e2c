/-! constructors that make rows one after another -/
def initL (b ci : Nat) : List (Nat × AE) → AH → Option AH
  | [], h => some h
  | (k, e) :: t, h => (hpF (hnew h e) b ci k (.ref h.1)).bind (initL b ci t)
def initF (n : Nat) : List (Nat × AE) → List Value → List Value
  | [], fs => fs
  | (k, _) :: t, fs => initF (n + 1) t (fs.set k (.ref n))
theorem initL_ok {b ci : Nat} : ∀ (t : List (Nat × AE)) (h : AH) (fs : List Value), h.2.2 b = some (.inr (ci, fs)) → b < h.1 → (∀ q ∈ t, q.1 < fs.length) → ∃ h', initL b ci t h = some h' ∧ h'.1 = h.1 + t.length ∧ h'.2.1 = h.2.1 ∧ h'.2.2 b = some (.inr (ci, initF h.1 t fs)) ∧ (∀ i q, t[i]? = some q → h'.2.2 (h.1 + i) = some q.2) ∧ ∀ a, a ≠ b → a < h.1 → h'.2.2 a = h.2.2 a
  | [], h, fs, hb, hl, _ => ⟨h, rfl, rfl, rfl, hb, fun i q hq => by simp at hq, fun a _ _ => rfl⟩
  | (k, e) :: t, h, fs, hb, hl, hk => by
    have hb1 : (hnew h e).2.2 b = some (.inr (ci, fs)) := by rw [hnew_ne (by omega)]; exact hb
    have h1 : hpF (hnew h e) b ci k (.ref h.1) = some (hup (hnew h e) b (.inr (ci, fs.set k (.ref h.1)))) := hpF_eq hb1 (hk (k, e) List.mem_cons_self)
    obtain ⟨h', e1, e2, e3, e4, e5, e6⟩ := initL_ok t (hup (hnew h e) b (.inr (ci, fs.set k (.ref h.1)))) (fs.set k (.ref h.1)) (hup_same _ _ _) (by show b < h.1 + 1; omega) (fun q hq => by rw [List.length_set]; exact hk q (List.mem_cons_of_mem _ hq))
    refine ⟨h', ?_, ?_, ?_, ?_, ?_, ?_⟩
    · show (hpF (hnew h e) b ci k (.ref h.1)).bind _ = _
      rw [h1]
      exact e1
    · rw [e2]
      show h.1 + 1 + t.length = h.1 + (t.length + 1)
      omega
    · rw [e3]; rfl
    · exact e4
    · intro i q hq
      cases i with
      | zero =>
        cases hq
        rw [e6 _ (by omega) (by show h.1 + 0 < h.1 + 1; omega), hup_ne (by omega)]
        exact hnew_same h e
      | succ i =>
        have h2 := e5 i q hq
        rw [← h2]
        show h'.2.2 (h.1 + (i + 1)) = h'.2.2 (h.1 + 1 + i)
        rw [show h.1 + (i + 1) = h.1 + 1 + i by omega]
    · intro a ha hl2
      rw [e6 a ha (by show a < h.1 + 1; omega), hup_ne ha, hnew_ne (by omega)]
def initG (b : Nat) : Nat → List (Nat × AE) → List Value → List Value
  | _, [], fs => fs
  | c, (k, _) :: t, fs => initG b (c + 1) t (fs.set k (.ref (b + c)))
theorem initF_G (b : Nat) : ∀ (t : List (Nat × AE)) (c : Nat) (fs : List Value), initF (b + c) t fs = initG b c t fs
  | [], _, _ => rfl
  | (k, e) :: t, c, fs => initF_G b t (c + 1) (fs.set k (.ref (b + c)))
def initZ (b : Nat) : Nat → List Nat → (Nat → Value) → Nat → Value
  | _, [], z => z
  | c, k :: t, z => initZ b (c + 1) t (va_up z k (.ref (b + c)))
theorem map_set (z : Nat → Value) (n k : Nat) (v : Value) : ((List.range n).map z).set k v = (List.range n).map (va_up z k v) := by
  apply List.ext_getElem?
  intro j
  by_cases hj : j < n
  · by_cases h : j = k
    · subst h
      rw [List.getElem?_set_self (by simp; exact hj)]
      simp [List.getElem?_map, List.getElem?_range hj, va_up]
    · rw [List.getElem?_set_ne (Ne.symm h)]
      simp [List.getElem?_map, List.getElem?_range hj, va_up, h]
  · rw [List.getElem?_eq_none (by simp; omega), List.getElem?_eq_none (by simp; omega)]
theorem initG_Z (b n : Nat) : ∀ (t : List (Nat × AE)) (c : Nat) (z : Nat → Value), initG b c t ((List.range n).map z) = (List.range n).map (initZ b c (t.map Prod.fst) z)
  | [], _, _ => rfl
  | (k, e) :: t, c, z => by
    show initG b (c + 1) t (((List.range n).map z).set k (.ref (b + c))) = _
    rw [map_set, initG_Z b n t (c + 1)]
    rfl
theorem initZ_in (b : Nat) : ∀ (t : List Nat) (c : Nat) (z : Nat → Value) (k : Nat), k ∉ t → initZ b c t z k = z k
  | [], _, _, _, _ => rfl
  | j :: t, c, z, k, hk => by
    show initZ b (c + 1) t (va_up z j (.ref (b + c))) k = _
    rw [initZ_in b t (c + 1) _ k (fun h => hk (List.mem_cons_of_mem _ h))]
    simp [va_up, show k ≠ j from fun e => hk (by rw [e]; exact List.mem_cons_self)]
theorem initZ_at (b : Nat) : ∀ (t : List Nat) (c : Nat) (z : Nat → Value) (i k : Nat), va_nd t = true → t[i]? = some k → initZ b c t z k = .ref (b + (c + i))
  | [], _, _, i, k, _, h => by simp at h
  | j :: t, c, z, 0, k, hn, h => by
    have h9 : j = k := Option.some.inj h
    subst h9
    simp only [va_nd, Bool.and_eq_true, decide_eq_true_eq] at hn
    show initZ b (c + 1) t (va_up z j (.ref (b + c))) j = _
    rw [initZ_in b t (c + 1) _ j hn.1]
    simp [va_up]
  | j :: t, c, z, i + 1, k, hn, h => by
    simp only [va_nd, Bool.and_eq_true, decide_eq_true_eq] at hn
    show initZ b (c + 1) t (va_up z j (.ref (b + c))) k = _
    rw [initZ_at b t (c + 1) _ i k hn.2 h, show c + 1 + i = c + (i + 1) by omega]
def M0 : MS := ((fun _ => 0), 0, (fun _ _ => 0), fun _ => 0)
def mTab : List (Nat × AE) := ([(1, 6), (2, 6), (3, 144), (4, 72), (6, 24), (8, 10), (9, 10), (10, 10), (11, 10), (12, 10), (13, 60), (17, 300), (18, 300), (19, 10), (23, 4), (24, 4), (25, 4), (27, 4), (28, 4), (29, 5), (31, 12), (32, 12)].map (fun q : Nat × Nat => (q.1, ((.inl (0, q.2, .inl fun _ => 0)) : AE)))) ++ [(33, .inl (1, 25, .inr (.inl fun _ => 0)))] ++ ([(34, 25), (36, 60), (37, 60), (38, 300), (43, 650), (44, 6)].map (fun q : Nat × Nat => (q.1, ((.inl (0, q.2, .inl fun _ => 0)) : AE))))
def mFs0 : List Value := (List.range 47).map (fun k => if moff k ≠ 0 then .null else if k = 46 then .long 0 else .int 0)
theorem mTab_fst : mTab.map Prod.fst = [1, 2, 3, 4, 6, 8, 9, 10, 11, 12, 13, 17, 18, 19, 23, 24, 25, 27, 28, 29, 31, 32, 33, 34, 36, 37, 38, 43, 44] := rfl
theorem mFs_end (b : Nat) : initF (b + 1) mTab mFs0 = mObj b M0 := by
  rw [initF_G, mFs0, initG_Z, mTab_fst, mObj]
  apply List.map_congr_left
  intro k hk
  rw [List.mem_range] at hk
  have key : ∀ k, k < 47 → (moff k = 0 ∧ k ∉ [1, 2, 3, 4, 6, 8, 9, 10, 11, 12, 13, 17, 18, 19, 23, 24, 25, 27, 28, 29, 31, 32, 33, 34, 36, 37, 38, 43, 44]) ∨ (moff k ≠ 0 ∧ [1, 2, 3, 4, 6, 8, 9, 10, 11, 12, 13, 17, 18, 19, 23, 24, 25, 27, 28, 29, 31, 32, 33, 34, 36, 37, 38, 43, 44][moff k - 1]? = some k) := by decide +kernel
  rcases key k hk with ⟨h1, h2⟩ | ⟨h1, h2⟩
  · rw [initZ_in b _ 1 _ k h2]
    simp [mval, h1, M0]
  · rw [initZ_at b _ 1 _ (moff k - 1) k (by decide +kernel) h2]
    simp only [mval, if_pos h1]
    rw [show 1 + (moff k - 1) = moff k by omega]
set_option maxRecDepth 100000 in
set_option maxHeartbeats 4000000 in
theorem minit_eq (b : Nat) (h : AH) : f_X12_init b h = initL b 13 mTab h := rfl
theorem minit (b : Nat) (h : AH) (hb : h.2.2 b = some (.inr (13, mFs0))) (hl : h.1 = b + 1) : ∃ h', f_X12_init b h = some h' ∧ h'.1 = b + 30 ∧ h'.2.1 = h.2.1 ∧ MInv b h' M0 ∧ ∀ a, a < b → h'.2.2 a = h.2.2 a := by
  obtain ⟨h', e1, e2, e3, e4, e5, e6⟩ := initL_ok (ci := 13) mTab h mFs0 hb (by omega) (by decide)
  refine ⟨h', by rw [minit_eq]; exact e1, by rw [e2, hl]; rfl, e3, ⟨?_, ?_, ?_⟩, fun a ha => e6 a (by omega) (by omega)⟩
  · rw [e4, hl, mFs_end]
  · intro k hk h33
    have key : ∀ k, k < 45 → moff k ≠ 0 → k ≠ 33 → ∃ i, i + 1 = moff k ∧ mTab[i]? = some (k, .inl (0, mlen k, .inl fun _ => 0)) := by
      intro k hk h1 h2
      match k, hk with
      | 0, _ => exact absurd rfl h1
      | 1, _ => exact ⟨0, rfl, rfl⟩
      | 2, _ => exact ⟨1, rfl, rfl⟩
      | 3, _ => exact ⟨2, rfl, rfl⟩
      | 4, _ => exact ⟨3, rfl, rfl⟩
      | 5, _ => exact absurd rfl h1
      | 6, _ => exact ⟨4, rfl, rfl⟩
      | 7, _ => exact absurd rfl h1
      | 8, _ => exact ⟨5, rfl, rfl⟩
      | 9, _ => exact ⟨6, rfl, rfl⟩
      | 10, _ => exact ⟨7, rfl, rfl⟩
      | 11, _ => exact ⟨8, rfl, rfl⟩
      | 12, _ => exact ⟨9, rfl, rfl⟩
      | 13, _ => exact ⟨10, rfl, rfl⟩
      | 14, _ => exact absurd rfl h1
      | 15, _ => exact absurd rfl h1
      | 16, _ => exact absurd rfl h1
      | 17, _ => exact ⟨11, rfl, rfl⟩
      | 18, _ => exact ⟨12, rfl, rfl⟩
      | 19, _ => exact ⟨13, rfl, rfl⟩
      | 20, _ => exact absurd rfl h1
      | 21, _ => exact absurd rfl h1
      | 22, _ => exact absurd rfl h1
      | 23, _ => exact ⟨14, rfl, rfl⟩
      | 24, _ => exact ⟨15, rfl, rfl⟩
      | 25, _ => exact ⟨16, rfl, rfl⟩
      | 26, _ => exact absurd rfl h1
      | 27, _ => exact ⟨17, rfl, rfl⟩
      | 28, _ => exact ⟨18, rfl, rfl⟩
      | 29, _ => exact ⟨19, rfl, rfl⟩
      | 30, _ => exact absurd rfl h1
      | 31, _ => exact ⟨20, rfl, rfl⟩
      | 32, _ => exact ⟨21, rfl, rfl⟩
      | 33, _ => exact absurd rfl h2
      | 34, _ => exact ⟨23, rfl, rfl⟩
      | 35, _ => exact absurd rfl h1
      | 36, _ => exact ⟨24, rfl, rfl⟩
      | 37, _ => exact ⟨25, rfl, rfl⟩
      | 38, _ => exact ⟨26, rfl, rfl⟩
      | 39, _ => exact absurd rfl h1
      | 40, _ => exact absurd rfl h1
      | 41, _ => exact absurd rfl h1
      | 42, _ => exact absurd rfl h1
      | 43, _ => exact ⟨27, rfl, rfl⟩
      | 44, _ => exact ⟨28, rfl, rfl⟩
      | k + 45, h => exact absurd h (by omega)
    have bd : k < 45 := by
      unfold moff at hk
      split at hk <;> first | decide | exact absurd rfl hk
    obtain ⟨i, h1, h2⟩ := key k bd hk h33
    have h3 := e5 i _ h2
    rw [hl] at h3
    rw [← h1, show b + (i + 1) = b + 1 + i by omega, h3]
    rfl
  · have h3 := e5 22 (33, .inl (1, 25, .inr (.inl fun _ => 0))) rfl
    rw [hl] at h3
    rw [show b + 23 = b + 1 + 22 by omega, h3]
    rfl
