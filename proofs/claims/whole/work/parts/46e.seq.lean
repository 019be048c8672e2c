/-! which words a line has -/
def fndF (P : Nat → Bool) : Nat → Nat → Nat
  | 0, i => i
  | f + 1, i => if P i = true then i else fndF P f (i + 1)
theorem fndF_spec {P : Nat → Bool} : ∀ f i, (∃ k, i ≤ k ∧ k < i + f ∧ P k = true) → i ≤ fndF P f i ∧ fndF P f i < i + f ∧ P (fndF P f i) = true ∧ ∀ j, i ≤ j → j < fndF P f i → P j = false
  | 0, i, ⟨k, h1, h2, _⟩ => by omega
  | f + 1, i, ⟨k, h1, h2, h3⟩ => by
    unfold fndF
    by_cases hp : P i = true
    · rw [if_pos hp]
      exact ⟨Nat.le_refl _, by omega, hp, fun j a b => by omega⟩
    · rw [if_neg hp]
      have hki : k ≠ i := fun z => hp (by rw [← z]; exact h3)
      obtain ⟨a, b, c, d⟩ := fndF_spec f (i + 1) ⟨k, by omega, by omega, h3⟩
      refine ⟨by omega, by omega, c, fun j h4 h5 => ?_⟩
      by_cases hji : j = i
      · rw [hji]; simpa using hp
      · exact d j (by omega) h5
def preS (v : Nat → Nat) (n : Nat) (X : WX) (T : Nat → Nat) (p : Nat) : Nat → Nat
  | 0 => 0
  | i + 1 => preS v n X T p i + (if wrM v n p (X.2.2.1 i) (X.2.2.2 i) = some 0 then T (p + X.2.2.1 i) else 0)
theorem waySum_pre (v : Nat → Nat) (n : Nat) (X : WX) (T : Nat → Nat) (p : Nat) : ∀ i, waySum v n X T p i ≤ preS v n X T p i
  | 0 => Nat.le_refl _
  | i + 1 => by
    have ih := waySum_pre v n X T p i
    unfold waySum preS
    split
    · omega
    · omega
theorem preS_mono {v : Nat → Nat} {n : Nat} {X : WX} {T : Nat → Nat} {p : Nat} : ∀ {i j}, i ≤ j → preS v n X T p i ≤ preS v n X T p j := by
  intro i j h
  induction j with
  | zero => rw [show i = 0 by omega]; exact Nat.le_refl _
  | succ j ih =>
    by_cases hij : i = j + 1
    · rw [hij]; exact Nat.le_refl _
    · have := ih (by omega)
      show _ ≤ preS v n X T p j + _
      omega
def cwF (v : Nat → Nat) (n : Nat) (X : WX) (T : Nat → Nat) (p left : Nat) : Nat := fndF (fun i => decide (left < preS v n X T p (i + 1))) X.1 0
theorem cwF_spec {v : Nat → Nat} {n : Nat} {X : WX} {T : Nat → Nat} {p left : Nat} (h : left < preS v n X T p X.1) : cwF v n X T p left < X.1 ∧ preS v n X T p (cwF v n X T p left) ≤ left ∧ left < preS v n X T p (cwF v n X T p left + 1) := by
  have h0 : 0 < X.1 := by
    by_cases hx : X.1 = 0
    · rw [hx] at h; exact absurd h (Nat.not_lt_zero _)
    · omega
  have ex : ∃ k, 0 ≤ k ∧ k < 0 + X.1 ∧ decide (left < preS v n X T p (k + 1)) = true := ⟨X.1 - 1, Nat.zero_le _, by omega, by rw [show X.1 - 1 + 1 = X.1 by omega]; simpa using h⟩
  obtain ⟨_, b, c, d⟩ := fndF_spec (P := fun i => decide (left < preS v n X T p (i + 1))) X.1 0 ex
  refine ⟨by unfold cwF; omega, ?_, by unfold cwF; simpa using c⟩
  show preS v n X T p (fndF _ X.1 0) ≤ left
  cases hk : fndF (fun i => decide (left < preS v n X T p (i + 1))) X.1 0 with
  | zero => exact Nat.zero_le _
  | succ k =>
    have h5 : decide (left < preS v n X T p (k + 1)) = false := d k (Nat.zero_le _) (by omega)
    have h6 : ¬ left < preS v n X T p (k + 1) := by simpa using h5
    omega
theorem cwF_perf {v : Nat → Nat} {n : Nat} {X : WX} {T : Nat → Nat} {p left : Nat} (h : left < preS v n X T p X.1) : wrM v n p (X.2.2.1 (cwF v n X T p left)) (X.2.2.2 (cwF v n X T p left)) = some 0 ∧ left - preS v n X T p (cwF v n X T p left) < T (p + X.2.2.1 (cwF v n X T p left)) := by
  obtain ⟨h1, h2, h3⟩ := cwF_spec h
  have h4 : preS v n X T p (cwF v n X T p left + 1) = preS v n X T p (cwF v n X T p left) + (if wrM v n p (X.2.2.1 (cwF v n X T p left)) (X.2.2.2 (cwF v n X T p left)) = some 0 then T (p + X.2.2.1 (cwF v n X T p left)) else 0) := rfl
  by_cases hw : wrM v n p (X.2.2.1 (cwF v n X T p left)) (X.2.2.2 (cwF v n X T p left)) = some 0
  · rw [if_pos hw] at h4
    exact ⟨hw, by omega⟩
  · rw [if_neg hw] at h4
    omega
def nearP (v : Nat → Nat) (n : Nat) (X : WX) (U : Nat → Nat) (p i : Nat) : Bool := (wrM v n p (X.2.2.1 i) (X.2.2.2 i)).elim false (fun c => decide (c + U (p + X.2.2.1 i) = U p))
def nwF (v : Nat → Nat) (n : Nat) (X : WX) (U : Nat → Nat) (p : Nat) : Nat := fndF (nearP v n X U p) X.1 0
theorem wrgL_att {v : Nat → Nat} {n : Nat} {X : WX} {U : Nat → Nat} {p : Nat} : ∀ i, wrgL v n X U p i ≠ 1000000000 → ∃ k c, k < i ∧ wrM v n p (X.2.2.1 k) (X.2.2.2 k) = some c ∧ c + U (p + X.2.2.1 k) = wrgL v n X U p i
  | 0, h => absurd rfl h
  | i + 1, h => by
    have hs : wrgL v n X U p (i + 1) = (wrM v n p (X.2.2.1 i) (X.2.2.2 i)).elim (wrgL v n X U p i) (fun c => if c + U (p + X.2.2.1 i) < wrgL v n X U p i then c + U (p + X.2.2.1 i) else wrgL v n X U p i) := rfl
    rw [hs] at h ⊢
    cases hw : wrM v n p (X.2.2.1 i) (X.2.2.2 i) with
    | none =>
      rw [hw] at h
      obtain ⟨k, c, h1, h2, h3⟩ := wrgL_att i h
      exact ⟨k, c, by omega, h2, h3⟩
    | some c =>
      rw [hw] at h
      simp only [Option.elim] at h ⊢
      by_cases hc : c + U (p + X.2.2.1 i) < wrgL v n X U p i
      · rw [if_pos hc]
        exact ⟨i, c, by omega, hw, rfl⟩
      · rw [if_neg hc] at h ⊢
        obtain ⟨k, c, h1, h2, h3⟩ := wrgL_att i h
        exact ⟨k, c, by omega, h2, h3⟩
theorem wayT_st {v : Nat → Nat} {n : Nat} {X : WX} : ∀ {k k' : Nat}, k ≤ k' → k' ≤ n → ∀ q, n - k ≤ q → wayT v n X k' q = wayT v n X k q := by
  intro k k' h
  induction k' with
  | zero => intro _ q _; rw [show k = 0 by omega]
  | succ k' ih =>
    intro h2 q hq
    by_cases hk : k = k' + 1
    · rw [hk]
    · show updN _ (n - (k' + 1)) _ q = _
      rw [updN_n (by omega)]
      exact ih (by omega) (by omega) q hq
theorem wrgT_st {v : Nat → Nat} {n : Nat} {X : WX} : ∀ {k k' : Nat}, k ≤ k' → k' ≤ n → ∀ q, n - k ≤ q → wrgT v n X k' q = wrgT v n X k q := by
  intro k k' h
  induction k' with
  | zero => intro _ q _; rw [show k = 0 by omega]
  | succ k' ih =>
    intro h2 q hq
    by_cases hk : k = k' + 1
    · rw [hk]
    · show updN _ (n - (k' + 1)) _ q = _
      rw [updN_n (by omega)]
      exact ih (by omega) (by omega) q hq
theorem waySum_congr {v : Nat → Nat} {n : Nat} {X : WX} {T T' : Nat → Nat} {p : Nat} (hX : ∀ i, i < X.1 → 1 ≤ X.2.2.1 i) (h : ∀ q, p < q → q ≤ n → T q = T' q) : ∀ i, i ≤ X.1 → waySum v n X T p i = waySum v n X T' p i
  | 0, _ => rfl
  | i + 1, hi => by
    have ih := waySum_congr (v := v) hX h i (by omega)
    have hx := hX i (by omega)
    unfold waySum
    by_cases hw : wrM v n p (X.2.2.1 i) (X.2.2.2 i) = some 0
    · obtain ⟨_, h2⟩ := wrM_le hw
      rw [if_pos hw, if_pos hw, ih, h _ (by omega) h2]
    · rw [if_neg hw, if_neg hw, ih]
theorem wrgL_congr {v : Nat → Nat} {n : Nat} {X : WX} {T T' : Nat → Nat} {p : Nat} (hX : ∀ i, i < X.1 → 1 ≤ X.2.2.1 i) (h : ∀ q, p < q → q ≤ n → T q = T' q) : ∀ i, i ≤ X.1 → wrgL v n X T p i = wrgL v n X T' p i
  | 0, _ => rfl
  | i + 1, hi => by
    have ih := wrgL_congr (v := v) hX h i (by omega)
    have hx := hX i (by omega)
    unfold wrgL
    cases hw : wrM v n p (X.2.2.1 i) (X.2.2.2 i) with
    | none => exact ih
    | some c =>
      obtain ⟨_, h2⟩ := wrM_le hw
      simp only [Option.elim]
      rw [ih, h _ (by omega) h2]
theorem wayT_sung {v : Nat → Nat} {n : Nat} {X : WX} (hX : ∀ i, i < X.1 → 1 ≤ X.2.2.1 i) {p : Nat} (hp : p < n) (hs : sg (v p) = true) : wayT v n X n p = waySum v n X (wayT v n X n) p X.1 := by
  rw [wayT_st (k := n - p) (by omega) (Nat.le_refl _) p (by omega)]
  obtain ⟨k, hk⟩ : ∃ k, n - p = k + 1 := ⟨n - p - 1, by omega⟩
  rw [hk]
  show updN _ (n - (k + 1)) _ p = _
  rw [show n - (k + 1) = p by omega, updN_e, if_pos hs]
  exact waySum_congr hX (fun q a b => (wayT_st (k := k) (by omega) (Nat.le_refl _) q (by omega)).symm) X.1 (Nat.le_refl _)
theorem wrgT_sung {v : Nat → Nat} {n : Nat} {X : WX} (hX : ∀ i, i < X.1 → 1 ≤ X.2.2.1 i) {p : Nat} (hp : p < n) (hs : sg (v p) = true) : wrgT v n X n p = wrgL v n X (wrgT v n X n) p X.1 := by
  rw [wrgT_st (k := n - p) (by omega) (Nat.le_refl _) p (by omega)]
  obtain ⟨k, hk⟩ : ∃ k, n - p = k + 1 := ⟨n - p - 1, by omega⟩
  rw [hk]
  show updN _ (n - (k + 1)) _ p = _
  rw [show n - (k + 1) = p by omega, updN_e, if_pos hs]
  exact wrgL_congr hX (fun q a b => (wrgT_st (k := k) (by omega) (Nat.le_refl _) q (by omega)).symm) X.1 (Nat.le_refl _)
theorem nwF_spec {v : Nat → Nat} {n : Nat} {X : WX} (hX : ∀ i, i < X.1 → 1 ≤ X.2.2.1 i) {p : Nat} (hp : p < n) (hs : sg (v p) = true) (hu : wrgT v n X n p ≠ 1000000000) : nwF v n X (wrgT v n X n) p < X.1 ∧ nearP v n X (wrgT v n X n) p (nwF v n X (wrgT v n X n) p) = true ∧ ∀ j, j < nwF v n X (wrgT v n X n) p → nearP v n X (wrgT v n X n) p j = false := by
  have h1 := wrgT_sung hX hp hs
  rw [h1] at hu
  obtain ⟨k, c, h2, h3, h4⟩ := wrgL_att X.1 hu
  have ex : ∃ k, 0 ≤ k ∧ k < 0 + X.1 ∧ nearP v n X (wrgT v n X n) p k = true := ⟨k, Nat.zero_le _, by omega, by unfold nearP; rw [h3]; simp only [Option.elim]; rw [h1, h4]; simp⟩
  obtain ⟨_, b, d, e⟩ := fndF_spec (P := nearP v n X (wrgT v n X n) p) X.1 0 ex
  exact ⟨by unfold nwF; omega, d, fun j hj => e j (Nat.zero_le _) hj⟩
/-- the line's places: where the j-th word begins, and how many lines are still ahead -/
def sqF (v : Nat → Nat) (n : Nat) (X : WX) (ch : Nat → Nat → Nat × Nat) (l0 : Nat) : Nat → Nat × Nat
  | 0 => (sfM v n 0, l0)
  | j + 1 => if (sqF v n X ch l0 j).1 < n then (sfM v n ((sqF v n X ch l0 j).1 + X.2.2.1 (ch (sqF v n X ch l0 j).1 (sqF v n X ch l0 j).2).1), (ch (sqF v n X ch l0 j).1 (sqF v n X ch l0 j).2).2) else sqF v n X ch l0 j
def chC (v : Nat → Nat) (n : Nat) (X : WX) (p left : Nat) : Nat × Nat := (cwF v n X (wayT v n X n) p left, left - preS v n X (wayT v n X n) p (cwF v n X (wayT v n X n) p left))
def chN (v : Nat → Nat) (n : Nat) (X : WX) (p _left : Nat) : Nat × Nat := (nwF v n X (wrgT v n X n) p, 0)
/-- the choice goes on well: a property of places that the choice keeps -/
def chOk (v : Nat → Nat) (n : Nat) (X : WX) (ch : Nat → Nat → Nat × Nat) (good : Nat → Nat → Prop) : Prop := ∀ p left, p < n → sg (v p) = true → good p left → (ch p left).1 < X.1 ∧ p + X.2.2.1 (ch p left).1 ≤ n ∧ good (sfM v n (p + X.2.2.1 (ch p left).1)) (ch p left).2
theorem chC_ok {v : Nat → Nat} {n : Nat} {X : WX} (hX : ∀ i, i < X.1 → 1 ≤ X.2.2.1 i) : chOk v n X (chC v n X) (fun p left => left < wayT v n X n p) := by
  intro p left hp hs hg
  rw [wayT_sung hX hp hs] at hg
  have h1 : left < preS v n X (wayT v n X n) p X.1 := Nat.lt_of_lt_of_le hg (waySum_pre v n X _ p X.1)
  obtain ⟨a, b, c⟩ := cwF_spec h1
  obtain ⟨d, e⟩ := cwF_perf h1
  obtain ⟨_, f⟩ := wrM_le d
  refine ⟨a, f, ?_⟩
  show left - preS v n X (wayT v n X n) p (cwF v n X (wayT v n X n) p left) < wayT v n X n (sfM v n (p + X.2.2.1 (cwF v n X (wayT v n X n) p left)))
  have g : wayT v n X n (sfM v n (p + X.2.2.1 (cwF v n X (wayT v n X n) p left))) = wayT v n X n (p + X.2.2.1 (cwF v n X (wayT v n X n) p left)) := sfF_tab 30 _ (fun q x y z => wayT_flat n (Nat.le_refl _) q (by omega) y z)
  rw [g]
  exact e
theorem chN_ok {v : Nat → Nat} {n : Nat} {X : WX} (hn : n ≤ 24) (hX : ∀ i, i < X.1 → 1 ≤ X.2.2.1 i) : chOk v n X (chN v n X) (fun p _ => wrgT v n X n p ≠ 1000000000) := by
  intro p left hp hs hg
  obtain ⟨a, b, c⟩ := nwF_spec hX hp hs hg
  have b' := b
  unfold nearP at b'
  cases hw : wrM v n p (X.2.2.1 (nwF v n X (wrgT v n X n) p)) (X.2.2.2 (nwF v n X (wrgT v n X n) p)) with
  | none => rw [hw] at b'; cases b'
  | some d =>
    rw [hw] at b'
    simp only [Option.elim] at b'
    have b2 : d + wrgT v n X n (p + X.2.2.1 (nwF v n X (wrgT v n X n) p)) = wrgT v n X n p := by simpa using b'
    obtain ⟨_, f⟩ := wrM_le hw
    refine ⟨a, f, ?_⟩
    show wrgT v n X n (sfM v n (p + X.2.2.1 (nwF v n X (wrgT v n X n) p))) ≠ 1000000000
    have g : wrgT v n X n (sfM v n (p + X.2.2.1 (nwF v n X (wrgT v n X n) p))) = wrgT v n X n (p + X.2.2.1 (nwF v n X (wrgT v n X n) p)) := sfF_tab 30 _ (fun q x y z => wrgT_flat n (Nat.le_refl _) q (by omega) y z)
    rw [g]
    have h5 := wrgT_ok (v := v) (n := n) hX n (Nat.le_refl _) p (by omega) (by omega)
    omega
theorem sqF_good {v : Nat → Nat} {n : Nat} {X : WX} {ch : Nat → Nat → Nat × Nat} {good : Nat → Nat → Prop} (hn : n ≤ 24) (hc : chOk v n X ch good) {l0 : Nat} (h0 : good (sfM v n 0) l0) : ∀ j, good (sqF v n X ch l0 j).1 (sqF v n X ch l0 j).2 ∧ (sqF v n X ch l0 j).1 ≤ n ∧ ((sqF v n X ch l0 j).1 < n → sg (v (sqF v n X ch l0 j).1) = true)
  | 0 => ⟨h0, (sfF_ge 30 0).2 (Nat.zero_le _), fun h => sfM_sung hn n 0 (by omega) (Nat.zero_le _) h⟩
  | j + 1 => by
    obtain ⟨h1, h2, h3⟩ := sqF_good hn hc h0 j
    by_cases hlt : (sqF v n X ch l0 j).1 < n
    · have hs : sqF v n X ch l0 (j + 1) = (sfM v n ((sqF v n X ch l0 j).1 + X.2.2.1 (ch (sqF v n X ch l0 j).1 (sqF v n X ch l0 j).2).1), (ch (sqF v n X ch l0 j).1 (sqF v n X ch l0 j).2).2) := by
        show (if _ then _ else _) = _
        rw [if_pos hlt]
      obtain ⟨a, b, c⟩ := hc _ _ hlt (h3 hlt) h1
      rw [hs]
      exact ⟨c, (sfF_ge 30 _).2 b, fun h => sfM_sung hn (n - ((sqF v n X ch l0 j).1 + X.2.2.1 (ch (sqF v n X ch l0 j).1 (sqF v n X ch l0 j).2).1)) _ rfl b h⟩
    · have hs : sqF v n X ch l0 (j + 1) = sqF v n X ch l0 j := by
        show (if _ then _ else _) = _
        rw [if_neg hlt]
      rw [hs]
      exact ⟨h1, h2, h3⟩
