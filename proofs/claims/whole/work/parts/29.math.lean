/-! THE MATHEMATICS: numbers, sets of hands, a haul -/
theorem nI_subI {a b : Nat} (h : b ≤ a) : nI a - nI b = nI (a - b) := by
  rw [show nI a = nI (a - b) + nI b by rw [nI_add]; congr 1; omega, Int32.add_sub_cancel]
theorem nI_mulI (a b : Nat) : nI a * nI b = nI (a * b) := (Int32.ofNat_mul a b).symm
theorem nI_orI (a b : Nat) : nI a ||| nI b = nI (a ||| b) := by
  apply Int32.toBitVec_inj.mp
  simp [nI]
theorem nI_shl1 : ∀ h, h < 31 → (1 : Int32) <<< (nI h &&& 31) = nI (2 ^ h) := by decide +kernel
theorem nI_sh31 : ∀ h, h < 31 → ((nI h &&& 31).toBitVec.smod 32).toNat = h := by decide +kernel
theorem nI_bit {c h : Nat} (hc : c < 2 ^ 31) (hh : h < 31) : ((nI c >>> (nI h &&& 31)) &&& 1) = 1 ↔ c.testBit h = true := by
  rw [pk_shrN hc _ h (nI_sh31 h hh), pk_andN (by have := Nat.div_le_self c (2 ^ h); omega) 1 (by decide)]
  rw [show (1 : Int32) = nI 1 from rfl, nI_eq (by omega) (by omega)]
  rw [Nat.testBit_eq_decide_div_mod_eq]
  simp
theorem nI_bit0 {c h : Nat} (hc : c < 2 ^ 31) (hh : h < 31) : ((nI c >>> (nI h &&& 31)) &&& 1) = 0 ↔ c.testBit h = false := by
  rw [pk_shrN hc _ h (nI_sh31 h hh), pk_andN (by have := Nat.div_le_self c (2 ^ h); omega) 1 (by decide)]
  rw [show (0 : Int32) = nI 0 from rfl, nI_eq (by omega) (by omega)]
  rw [Nat.testBit_eq_decide_div_mod_eq]
  simp
theorem nI_subneg {a b : Nat} (h : a ≤ b) (hb : b < 2 ^ 31) : ¬ (0 : Int32) < nI a - nI b := by
  rw [Int32.lt_iff_toInt_lt, Int32.toInt_sub, nI_toInt (by omega), nI_toInt hb, Int.bmod_eq_of_le (by omega) (by omega)]
  show ¬ (0 : Int) < _
  omega
theorem nI_sub_neg {a b : Nat} (h : a < b) (hb : b < 2 ^ 31) : nI a - nI b < 0 := by
  rw [Int32.lt_iff_toInt_lt, Int32.toInt_sub, nI_toInt (by omega), nI_toInt hb, Int.bmod_eq_of_le (by omega) (by omega)]
  show _ < (0 : Int)
  omega
theorem i10 : ((1 : Int32) = 0) = False := eq_false (by decide)
theorem i01 : ((0 : Int32) = 1) = False := eq_false (by decide)
/-- sums over the first n -/
def hsum (f : Nat → Nat) : Nat → Nat
  | 0 => 0
  | n + 1 => hsum f n + f n
theorem hsum_s (f : Nat → Nat) (n : Nat) : hsum f (n + 1) = hsum f n + f n := rfl
theorem hsum_le {f : Nat → Nat} {B : Nat} : ∀ (n : Nat), (∀ i, i < n → f i ≤ B) → hsum f n ≤ n * B
  | 0, _ => by simp [hsum]
  | n + 1, h => by
    have h1 := hsum_le n (fun i hi => h i (by omega))
    have h2 := h n (by omega)
    show hsum f n + f n ≤ _
    rw [Nat.succ_mul]
    omega
theorem hsum_congr {f g : Nat → Nat} : ∀ (n : Nat), (∀ i, i < n → f i = g i) → hsum f n = hsum g n
  | 0, _ => rfl
  | n + 1, h => by
    show hsum f n + f n = hsum g n + g n
    rw [hsum_congr n (fun i hi => h i (by omega)), h n (by omega)]
/-- who hauls: how many hands, strength, tires, rests, breaths -/
abbrev HP : Type := Nat × (Nat → Nat) × (Nat → Nat) × (Nat → Nat) × (Nat → Nat)
/-- how: the set, late by hand, the song's beats, load, slip -/
abbrev HW : Type := Nat × (Nat → Nat) × (Nat → Nat) × Nat × Nat
def hPull (W : HW) (t h : Nat) : Bool := W.1.testBit h && decide (W.2.1 h ≤ t) && decide (W.2.2.1 (t - W.2.1 h) = 2)
def hForce (P : HP) (W : HW) (now : Nat → Nat) (t : Nat) : Nat := hsum (fun h => if hPull W t h = true then now h else 0) P.1
def hBack (P : HP) (W : HW) (t h : Nat) : Nat := if W.1.testBit h = false ∨ W.2.2.1 t = 0 then P.2.2.2.1 h else if W.2.2.1 t = 3 then P.2.2.2.2 h else 0
def hNow (P : HP) (W : HW) (now : Nat → Nat) (t h : Nat) : Nat := if hPull W t h = true then now h - P.2.2.1 h else min (P.2.1 h) (now h + hBack P W t h)
def hWon (W : HW) (won force : Nat) : Nat := if W.2.2.2.1 < force then won + (force - W.2.2.2.1) / 10 else won - W.2.2.2.2
def hSt (P : HP) (W : HW) (now0 : Nat → Nat) : Nat → (Nat → Nat) × Nat
  | 0 => (now0, 0)
  | t + 1 => (hNow P W (hSt P W now0 t).1 t, hWon W (hSt P W now0 t).2 (hForce P W (hSt P W now0 t).1 t))
/-- some hand of the set is below the floor -/
def hLow (P : HP) (W : HW) (fl : Nat) (now : Nat → Nat) : Bool := (List.range P.1).any (fun h => W.1.testBit h && decide (now h < fl))
/-- 0: not ended within f beats from t on, 1: below the floor, 2: done; and how many beats -/
def hRun (P : HP) (W : HW) (fl goal : Nat) (now0 : Nat → Nat) : Nat → Nat → Nat × Nat
  | 0, t => (0, t)
  | f + 1, t => if hLow P W fl (hSt P W now0 (t + 1)).1 = true then (1, t + 1) else if goal ≤ (hSt P W now0 (t + 1)).2 then (2, t + 1) else hRun P W fl goal now0 f (t + 1)
/-- bounds of hands -/
def HPok (P : HP) : Prop := P.1 ≤ 10 ∧ ∀ h, h < P.1 → 1 ≤ P.2.1 h ∧ P.2.1 h ≤ 100 ∧ P.2.2.1 h ≤ 30 ∧ P.2.2.2.1 h ≤ 30 ∧ P.2.2.2.2 h ≤ 30
def HWok (P : HP) (W : HW) : Prop := W.1 < 2 ^ P.1 ∧ (∀ h, h < P.1 → W.2.1 h ≤ 3) ∧ (∀ t, W.2.2.1 t ≤ 3) ∧ W.2.2.2.1 ≤ 1000 ∧ W.2.2.2.2 ≤ 50
def nowOk (P : HP) (now : Nat → Nat) : Prop := ∀ h, h < P.1 → now h ≤ P.2.1 h
theorem hNow_ok {P : HP} {W : HW} {now : Nat → Nat} (h : nowOk P now) (t : Nat) : nowOk P (hNow P W now t) := by
  intro i hi
  have h1 := h i hi
  unfold hNow
  split
  · omega
  · exact Nat.min_le_left _ _
theorem hSt_ok {P : HP} {W : HW} {now : Nat → Nat} (h : nowOk P now) : ∀ t, nowOk P (hSt P W now t).1
  | 0 => h
  | t + 1 => hNow_ok (hSt_ok h t) t
theorem hForce_le {P : HP} (hP : HPok P) {W : HW} {now : Nat → Nat} (h : nowOk P now) (t : Nat) : hForce P W now t ≤ 1000 := by
  have h1 : hForce P W now t ≤ P.1 * 100 := hsum_le P.1 (fun i hi => by
    have h2 := h i hi
    have h3 := hP.2 i hi
    split
    · omega
    · omega)
  have h2 := hP.1
  omega
theorem hSt_won {P : HP} (hP : HPok P) {W : HW} {now : Nat → Nat} (h : nowOk P now) : ∀ t, (hSt P W now t).2 ≤ t * 100
  | 0 => by simp [hSt]
  | t + 1 => by
    have h1 := hSt_won hP (W := W) h t
    have h2 := hForce_le hP (W := W) (hSt_ok (W := W) h t) t
    show hWon W _ _ ≤ _
    unfold hWon
    rw [Nat.succ_mul]
    split
    · have : (hForce P W (hSt P W now t).1 t - W.2.2.2.1) / 10 ≤ 100 := by omega
      omega
    · omega
theorem hRun_mono {P : HP} {W : HW} {fl goal : Nat} {now : Nat → Nat} : ∀ (f g t k : Nat), f ≤ g → (hRun P W fl goal now f t = (2, k) ↔ (hRun P W fl goal now g t = (2, k) ∧ k ≤ t + f))
  | 0, g, t, k, h => by
    have hk : ∀ g t, ∀ k, hRun P W fl goal now g t = (2, k) → t < k := by
      intro g
      induction g with
      | zero => intro t k h; simp [hRun] at h
      | succ g ih =>
        intro t k h
        unfold hRun at h
        split at h
        · simp at h
        · split at h
          · simp at h; omega
          · have := ih (t + 1) k h; omega
    constructor
    · intro h; simp [hRun] at h
    · rintro ⟨h1, h2⟩
      have := hk g t k h1
      omega
  | f + 1, 0, t, k, h => by omega
  | f + 1, g + 1, t, k, h => by
    unfold hRun
    split
    · simp
    · split
      · simp; omega
      · rw [hRun_mono f g (t + 1) k (by omega)]
        rw [show t + 1 + f = t + (f + 1) by omega]
