/-! the tables from the end on -/
def waySum (v : Nat → Nat) (n : Nat) (X : WX) (T : Nat → Nat) (p : Nat) : Nat → Nat
  | 0 => 0
  | i + 1 => if wrM v n p (X.2.2.1 i) (X.2.2.2 i) = some 0 then min 1000000000000000 (waySum v n X T p i + T (p + X.2.2.1 i)) else waySum v n X T p i
def wayT (v : Nat → Nat) (n : Nat) (X : WX) : Nat → Nat → Nat
  | 0 => fun q => if q = n then 1 else 0
  | k + 1 => updN (wayT v n X k) (n - (k + 1)) (if sg (v (n - (k + 1))) = true then waySum v n X (wayT v n X k) (n - (k + 1)) X.1 else wayT v n X k (n - (k + 1) + 1))
def wrgL (v : Nat → Nat) (n : Nat) (X : WX) (T : Nat → Nat) (p : Nat) : Nat → Nat
  | 0 => 1000000000
  | i + 1 => (wrM v n p (X.2.2.1 i) (X.2.2.2 i)).elim (wrgL v n X T p i) (fun c => if c + T (p + X.2.2.1 i) < wrgL v n X T p i then c + T (p + X.2.2.1 i) else wrgL v n X T p i)
def wrgT (v : Nat → Nat) (n : Nat) (X : WX) : Nat → Nat → Nat
  | 0 => fun q => if q = n then 0 else 1000000000
  | k + 1 => updN (wrgT v n X k) (n - (k + 1)) (if sg (v (n - (k + 1))) = true then wrgL v n X (wrgT v n X k) (n - (k + 1)) X.1 else wrgT v n X k (n - (k + 1) + 1))
theorem updN_e (f : Nat → Nat) (k x : Nat) : updN f k x k = x := by unfold updN; rw [if_pos rfl]
theorem updN_n {f : Nat → Nat} {k x j : Nat} (h : j ≠ k) : updN f k x j = f j := by unfold updN; rw [if_neg h]
theorem waySum_le (v : Nat → Nat) (n : Nat) (X : WX) (T : Nat → Nat) (p : Nat) : ∀ i, waySum v n X T p i ≤ 1000000000000000
  | 0 => by simp [waySum]
  | i + 1 => by
    unfold waySum
    split
    · omega
    · exact waySum_le v n X T p i
theorem wayT_le (v : Nat → Nat) (n : Nat) (X : WX) : ∀ k q, wayT v n X k q ≤ 1000000000000000
  | 0, q => by unfold wayT; split <;> omega
  | k + 1, q => by
    unfold wayT updN
    split
    · split
      · exact waySum_le _ _ _ _ _ _
      · exact wayT_le v n X k _
    · exact wayT_le v n X k _
theorem wrgL_ok {v : Nat → Nat} {n : Nat} {X : WX} {T : Nat → Nat} {p : Nat} (hT : ∀ q, p < q → q ≤ n → T q = 1000000000 ∨ T q ≤ n - q) (hX : ∀ i, i < X.1 → 1 ≤ X.2.2.1 i) : ∀ i, i ≤ X.1 → wrgL v n X T p i = 1000000000 ∨ wrgL v n X T p i ≤ n - p
  | 0, _ => Or.inl rfl
  | i + 1, hi => by
    have ih := wrgL_ok (v := v) hT hX i (by omega)
    unfold wrgL
    cases hw : wrM v n p (X.2.2.1 i) (X.2.2.2 i) with
    | none => exact ih
    | some c =>
      obtain ⟨h1, h2⟩ := wrM_le hw
      have h3 := hX i (by omega)
      have h4 := hT (p + X.2.2.1 i) (by omega) h2
      simp only [Option.elim]
      split
      · omega
      · exact ih
theorem wrgT_ok {v : Nat → Nat} {n : Nat} {X : WX} (hX : ∀ i, i < X.1 → 1 ≤ X.2.2.1 i) : ∀ k, k ≤ n → ∀ q, n - k ≤ q → q ≤ n → wrgT v n X k q = 1000000000 ∨ wrgT v n X k q ≤ n - q
  | 0, _, q, h1, h2 => by
    unfold wrgT
    right
    rw [if_pos (by omega)]
    omega
  | k + 1, hk, q, h1, h2 => by
    have ih := wrgT_ok (v := v) (n := n) hX k (by omega)
    unfold wrgT
    by_cases hq : q = n - (k + 1)
    · subst hq
      rw [updN_e]
      split
      · exact wrgL_ok (p := n - (k + 1)) (fun q (a : n - (k + 1) < q) b => ih q (by omega) b) hX X.1 (Nat.le_refl _)
      · have := ih (n - (k + 1) + 1) (by omega) (by omega)
        omega
    · rw [updN_n hq]
      exact ih q (by omega) h2
/-- the first sung beat from p on, or the end -/
def sfF (v : Nat → Nat) (n : Nat) : Nat → Nat → Nat
  | 0, p => p
  | f + 1, p => if p < n ∧ sg (v p) = false then sfF v n f (p + 1) else p
def sfM (v : Nat → Nat) (n p : Nat) : Nat := sfF v n 30 p
theorem sfF_tab {v T : Nat → Nat} {n : Nat} : ∀ f p, (∀ q, p ≤ q → q < n → sg (v q) = false → T q = T (q + 1)) → T (sfF v n f p) = T p
  | 0, _, _ => rfl
  | f + 1, p, h => by
    unfold sfF
    split
    · next hp => rw [sfF_tab f (p + 1) (fun q a b c => h q (by omega) b c), h p (Nat.le_refl _) hp.1 hp.2]
    · rfl
theorem sfF_more {v : Nat → Nat} {n : Nat} : ∀ f g p, n ≤ p + f → f ≤ g → sfF v n g p = sfF v n f p
  | 0, g, p, h, _ => by
    cases g with
    | zero => rfl
    | succ g =>
      unfold sfF
      rw [if_neg (by omega)]
  | f + 1, 0, p, _, h2 => by omega
  | f + 1, g + 1, p, h, h2 => by
    unfold sfF
    split
    · exact sfF_more f g (p + 1) (by omega) (by omega)
    · rfl
theorem sfM_s {v : Nat → Nat} {n p : Nat} (hn : n ≤ 24) (hp : p < n) (hs : sg (v p) = false) : sfM v n p = sfM v n (p + 1) := by
  unfold sfM
  have h1 : sfF v n 30 p = sfF v n 29 (p + 1) := by
    show (if p < n ∧ sg (v p) = false then sfF v n 29 (p + 1) else p) = _
    rw [if_pos ⟨hp, hs⟩]
  rw [h1, sfF_more 29 30 (p + 1) (by omega) (by omega)]
theorem sfM_e {v : Nat → Nat} {n p : Nat} (h : n ≤ p ∨ sg (v p) = true) : sfM v n p = p := by
  unfold sfM
  show (if p < n ∧ sg (v p) = false then sfF v n 29 (p + 1) else p) = p
  rw [if_neg (by rintro ⟨h1, h2⟩; rcases h with h | h; omega; rw [h] at h2; exact absurd h2 (by decide))]
theorem sfF_ge {v : Nat → Nat} {n : Nat} : ∀ f p, p ≤ sfF v n f p ∧ (p ≤ n → sfF v n f p ≤ n)
  | 0, p => ⟨Nat.le_refl _, fun h => h⟩
  | f + 1, p => by
    unfold sfF
    split
    · obtain ⟨h1, h2⟩ := sfF_ge (v := v) (n := n) f (p + 1)
      exact ⟨by omega, fun h => h2 (by omega)⟩
    · exact ⟨Nat.le_refl _, fun h => h⟩
theorem sfM_sung {v : Nat → Nat} {n : Nat} (hn : n ≤ 24) : ∀ d p, d = n - p → p ≤ n → sfM v n p < n → sg (v (sfM v n p)) = true := by
  intro d
  induction d with
  | zero => intro p h1 h2 h3; rw [sfM_e (Or.inl (by omega))] at h3; omega
  | succ d ih =>
    intro p h1 h2 h3
    by_cases hs : sg (v p) = true
    · rw [sfM_e (Or.inr hs)]; exact hs
    · have hs' : sg (v p) = false := by simpa using hs
      rw [sfM_s hn (by omega) hs'] at h3 ⊢
      exact ih (p + 1) (by omega) (by omega) h3
theorem sungFrom_eq {M : MS} {s n p : Nat} {v : Nat → Nat} (hs : s < 6) (h1 : M.2.2.1 1 s = nI n) (hn : n ≤ 24) (h3 : ∀ k, k < n → M.2.2.1 3 (24 * s + k) = nI (v k)) (hv : ∀ k, k < n → v k ≤ 3) (hp : p ≤ n) : g_X12_sungFrom (nI s) (nI p) M = some (nI (sfM v n p), M) := by
  have m1 : mld M 1 (nI s) = some (nI n) := by rw [mld_n (k := 1) (show s < 6 from hs) (by decide), h1]
  have key : WP (iter (g_X12_sungFrom_L2 (nI s)) 100000 (nI p, M)) (fun r => r = (nI (sfM v n p), M)) := by
    refine WP.it (fun i x => x = (nI (p + i), M) ∧ p + i ≤ n ∧ sfM v n (p + i) = sfM v n p) (n - p) ?_ 100000 0 _ ⟨rfl, by omega, rfl⟩ (Nat.zero_le _) (by omega)
    rintro i x hi ⟨rfl, hi2, hi3⟩
    unfold g_X12_sungFrom_L2
    dsimp only
    simp only [m1, Option.bind_some]
    by_cases hlt : p + i < n
    · rw [if_neg (nI_ge hlt (by omega)), ix24, mld_n (k := 3) (show 24 * s + (p + i) < 144 by omega) (by decide), h3 (p + i) hlt]
      simp only [Option.bind_some, sung_eq (hv (p + i) hlt)]
      by_cases hsg : sg (v (p + i)) = true
      · simp only [hsg, ↓reduceIte, i10, WP_bind, WP_some, Option.bind_some, Sum.elim_inl, Sum.elim_inr, ↓reduceIte]
        rw [← hi3, sfM_e (Or.inr hsg)]
      · have hsg' : sg (v (p + i)) = false := by simpa using hsg
        simp only [hsg, ↓reduceIte, Bool.false_eq_true, WP_bind, WP_some, Option.bind_some, Sum.elim_inl, Sum.elim_inr, ↓reduceIte]
        refine ⟨by omega, by rw [nI_1]; rfl, by omega, ?_⟩
        rw [← hi3, sfM_s hn hlt hsg']
        rfl
    · rw [if_pos (nI_le (by omega) (by omega))]
      simp only [WP_bind, WP_some, Option.bind_some, Sum.elim_inl, Sum.elim_inr, ↓reduceIte]
      rw [← hi3, sfM_e (Or.inl (by omega))]
  obtain ⟨e, h4, rfl⟩ := key
  unfold g_X12_sungFrom
  rw [h4]
  rfl
theorem nI_m1 (j : Nat) : nI (j + 1) + (-1) = nI j := by
  rw [nI_succ, Int32.add_assoc, show (1 : Int32) + (-1) = 0 by decide, Int32.add_zero]
/-- the place of the k-th round from the end on -/
def dnI (n k : Nat) : Int32 := if k < n then nI (n - 1 - k) else -1
theorem dnI_s {n k : Nat} (h : k < n) : nI (n - 1 - k) + (-1) = dnI n (k + 1) := by
  unfold dnI
  by_cases h2 : k + 1 < n
  · rw [if_pos h2, show n - 1 - k = (n - 1 - (k + 1)) + 1 by omega, nI_m1]
  · rw [if_neg h2, show n - 1 - k = 0 by omega]
    decide
theorem dnI_0 (n : Nat) : nI n - 1 = dnI n 0 := by
  unfold dnI
  by_cases h : 0 < n
  · rw [if_pos h, show n = (n - 1) + 1 by omega, nI_pred]
    rfl
  · rw [if_neg h, show n = 0 by omega]
    decide
/-- the words of the class and of the reference -/
theorem wayT_flat {v : Nat → Nat} {n : Nat} {X : WX} : ∀ k, k ≤ n → ∀ q, n - k ≤ q → q < n → sg (v q) = false → wayT v n X k q = wayT v n X k (q + 1)
  | 0, _, q, h1, h2, _ => by omega
  | k + 1, hk, q, h1, h2, hs => by
    unfold wayT
    by_cases hq : q = n - (k + 1)
    · subst hq
      rw [updN_e, updN_n (by omega), if_neg (by rw [hs]; decide)]
    · rw [updN_n hq, updN_n (by omega)]
      exact wayT_flat k (by omega) q (by omega) h2 hs
theorem wrgT_flat {v : Nat → Nat} {n : Nat} {X : WX} : ∀ k, k ≤ n → ∀ q, n - k ≤ q → q < n → sg (v q) = false → wrgT v n X k q = wrgT v n X k (q + 1)
  | 0, _, q, h1, h2, _ => by omega
  | k + 1, hk, q, h1, h2, hs => by
    unfold wrgT
    by_cases hq : q = n - (k + 1)
    · subst hq
      rw [updN_e, updN_n (by omega), if_neg (by rw [hs]; decide)]
    · rw [updN_n hq, updN_n (by omega)]
      exact wrgT_flat k (by omega) q (by omega) h2 hs
