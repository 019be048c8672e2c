/-! THE REFERENCE'S HAUL -/
theorem lgc_lt (x y : Int64) : (lg_cmp x y < 0) ↔ x < y := by
  unfold lg_cmp
  by_cases h1 : x > y
  · rw [if_pos h1]
    have h1' := Int64.lt_iff_toInt_lt.mp h1
    constructor
    · intro h; exact absurd h (by decide)
    · intro h; have := Int64.lt_iff_toInt_lt.mp h; omega
  · rw [if_neg h1]
    by_cases h2 : x = y
    · rw [if_pos h2]
      subst h2
      constructor
      · intro h; exact absurd h (by decide)
      · intro h; exact absurd h h1
    · rw [if_neg h2]
      constructor
      · intro _
        rw [Int64.lt_iff_toInt_lt]
        have h3 : ¬ y.toInt < x.toInt := fun z => h1 (Int64.lt_iff_toInt_lt.mpr z)
        have h4 : ¬ x.toInt = y.toInt := fun z => h2 (Int64.toInt_inj.mp z)
        omega
      · intro _; decide
theorem lgc_gt (x y : Int64) : (0 < lg_cmp x y) ↔ y < x := by
  unfold lg_cmp
  by_cases h1 : x > y
  · rw [if_pos h1]
    exact ⟨fun _ => h1, fun _ => by decide⟩
  · rw [if_neg h1]
    by_cases h2 : x = y
    · rw [if_pos h2]
      exact ⟨fun h => absurd h (by decide), fun h => absurd h h1⟩
    · rw [if_neg h2]
      exact ⟨fun h => absurd h (by decide), fun h => absurd h h1⟩
theorem i64_lt (x y : Int32) : x.toInt64 < y.toInt64 ↔ x < y := by
  rw [Int64.lt_iff_toInt_lt, Int32.lt_iff_toInt_lt, Int32.toInt_toInt64, Int32.toInt_toInt64]
theorem gin_eq (x lo hi : Int32) (M : MS) {l h : Int64} (hl : l = lo.toInt64) (hh : h = hi.toInt64) : g_X12_in x.toInt64 l h M = some (if x < lo ∨ hi < x then 0 else 1, M) := by
  subst hl
  subst hh
  unfold g_X12_in
  simp only [lgc_lt, lgc_gt, i64_lt]
  by_cases h1 : x < lo
  · simp [h1]
  · by_cases h2 : hi < x
    · simp [h1, h2]
    · simp [h1, h2]
/-- what stays of the reference's state: all but the int fields I and the rows A -/
def FM (I A : List Nat) (M M' : MS) : Prop := (∀ k, k ∉ I → M'.1 k = M.1 k) ∧ (∀ k, k ∉ A → M'.2.2.1 k = M.2.2.1 k)
theorem FM.rf (I A : List Nat) (M : MS) : FM I A M M := ⟨fun _ _ => rfl, fun _ _ => rfl⟩
theorem FM.tr {I A : List Nat} {M M1 M2 : MS} (p : FM I A M M1) (q : FM I A M1 M2) : FM I A M M2 := ⟨fun k h => (q.1 k h).trans (p.1 k h), fun k h => (q.2 k h).trans (p.2 k h)⟩
theorem FM.mono {I A I' A' : List Nat} {M M' : MS} (p : FM I A M M') (h1 : ∀ k, k ∈ I → k ∈ I') (h2 : ∀ k, k ∈ A → k ∈ A') : FM I' A' M M' := ⟨fun k h => p.1 k (fun z => h (h1 k z)), fun k h => p.2 k (fun z => h (h2 k z))⟩
theorem FM.I {I A : List Nat} {M : MS} {k : Nat} (v : Int32) (h : k ∈ I) : FM I A M (msI M k v) := ⟨fun j hj => upd_n (fun z => hj (by rw [z]; exact h)), fun _ _ => rfl⟩
theorem FM.A {I A : List Nat} {M : MS} {k : Nat} (f : Nat → Int32) (h : k ∈ A) : FM I A M (msA M k f) := ⟨fun _ _ => rfl, fun j hj => va_n (fun z => hj (by rw [z]; exact h))⟩
theorem msI_e (M : MS) (k : Nat) (v : Int32) : (msI M k v).1 k = v := upd_e _ _ _
theorem msI_n {M : MS} {k j : Nat} {v : Int32} (h : j ≠ k) : (msI M k v).1 j = M.1 j := upd_n h
theorem msA_e (M : MS) (k : Nat) (f : Nat → Int32) : (msA M k f).2.2.1 k = f := va_e _ _ _
theorem msA_n {M : MS} {k j : Nat} {f : Nat → Int32} (h : j ≠ k) : (msA M k f).2.2.1 j = M.2.2.1 j := va_n h
theorem msA_u (M : MS) (k i h : Nat) (x : Int32) : (msA M k (upd (M.2.2.1 k) i x)).2.2.1 k h = if h = i then x else M.2.2.1 k h := by rw [msA_e]; rfl
/-- the hands' numbers -/
def RHandV (M : MS) (P : HP) : Prop := M.1 7 = nI P.1 ∧ ∀ h, h < P.1 → M.2.2.1 8 h = nI (P.2.1 h) ∧ M.2.2.1 9 h = nI (P.2.2.1 h) ∧ M.2.2.1 10 h = nI (P.2.2.2.1 h) ∧ M.2.2.1 11 h = nI (P.2.2.2.2 h)
theorem RHandV.fr {M M' : MS} {P : HP} {I A : List Nat} (V : RHandV M P) (F : FM I A M M') (h : 7 ∉ I ∧ 8 ∉ A ∧ 9 ∉ A ∧ 10 ∉ A ∧ 11 ∉ A) : RHandV M' P := by
  obtain ⟨h7, h8, h9, h10, h11⟩ := h
  unfold RHandV
  rw [F.1 7 h7, F.2 8 h8, F.2 9 h9, F.2 10 h10, F.2 11 h11]
  exact V
/-- a song's numbers -/
def RSongV (M : MS) (s vs rs : Nat) (v r : Nat → Nat) : Prop := M.2.2.1 1 s = nI vs ∧ M.2.2.1 2 s = nI rs ∧ (∀ k, k < vs → M.2.2.1 3 (24 * s + k) = nI (v k)) ∧ (∀ k, k < rs → M.2.2.1 4 (12 * s + k) = nI (r k)) ∧ 1 ≤ vs ∧ vs ≤ 24 ∧ rs ≤ 12
theorem RSongV.fr {M M' : MS} {s vs rs : Nat} {v r : Nat → Nat} {I A : List Nat} (V : RSongV M s vs rs v r) (F : FM I A M M') (h : 1 ∉ A ∧ 2 ∉ A ∧ 3 ∉ A ∧ 4 ∉ A) : RSongV M' s vs rs v r := by
  obtain ⟨h1, h2, h3, h4⟩ := h
  unfold RSongV
  rw [F.2 1 h1, F.2 2 h2, F.2 3 h3, F.2 4 h4]
  exact V
theorem beatOf_eq {M : MS} {s vs rs t : Nat} {v r : Nat → Nat} (V : RSongV M s vs rs v r) (hs : s < 6) (ht : t < 2 ^ 31) : g_X12_beatOf (nI s) (nI t) M = some (nI (sBt vs rs v r t), M) := by
  obtain ⟨v1, v2, v3, v4, v5, v6, v7⟩ := V
  have hm : t % (vs + rs) < vs + rs := Nat.mod_lt _ (by omega)
  have c3 : ¬ nI (vs + rs) = 0 := nI_ne0 (by omega) (by omega)
  obtain ⟨u, hu⟩ := hdv_eq c3
  unfold g_X12_beatOf sBt
  rw [mld_n (k := 1) (show s < 6 from hs) (by decide), mld_n (k := 2) (show s < 6 from hs) (by decide)]
  simp only [Option.bind_some, v1, v2, nI_add, hu]
  rw [pk_rem ht (by omega) (by omega)]
  by_cases hk : t % (vs + rs) < vs
  · rw [if_neg (nI_ge hk (by omega)), if_pos hk, show (24 : Int32) = nI 24 from rfl, nI_mulI, nI_add, mld_n (k := 3) (show 24 * s + t % (vs + rs) < 144 by omega) (by decide), v3 _ hk]
    rfl
  · rw [if_pos (nI_le (by omega) (by omega)), if_neg hk, show (12 : Int32) = nI 12 from rfl, nI_mulI, nI_add, nI_subI (by omega), show 12 * s + t % (vs + rs) - vs = 12 * s + (t % (vs + rs) - vs) by omega, mld_n (k := 4) (show 12 * s + (t % (vs + rs) - vs) < 72 by omega) (by decide), v4 _ (by omega)]
    rfl
theorem nI_shl0 : ∀ h, h < 31 → (0 : Int32) <<< (nI h &&& 31) = nI 0 := by decide +kernel
/-- a draft's hands -/
def Dft (M : MS) (d : Nat) (P : HP) (now : Nat → Nat) : Prop := ∀ h, h < P.1 → M.2.2.1 13 (10 * d + h) = nI (now h)
theorem ix10 (d i : Nat) : 10 * nI d + nI i = nI (10 * d + i) := by rw [show (10 : Int32) = nI 10 from rfl, nI_mulI, nI_add]
theorem step_wp {M : MS} {d s vs rs t won : Nat} {v r : Nat → Nat} {P : HP} {W : HW} {now : Nat → Nat} (V : RHandV M P) (SV : RSongV M s vs rs v r) (hbt : W.2.2.1 = sBt vs rs v r) (hP : HPok P) (hW : HWok P W) (hs : s < 6) (hd : d < 6) (ht : t < 300) (hn : Dft M d P now) (hok : nowOk P now) (hb : ∀ h, h < P.1 → M.2.2.1 19 h = nI (W.2.1 h)) (hwon : M.1 20 = nI won) (hwon2 : won < 100000) :
    WP (g_X12_step (nI d) (nI s) (nI W.1) (nI W.2.2.2.1) (nI W.2.2.2.2) (nI t) M) (fun N => FM [20, 21] [13] M N ∧ N.1 20 = nI (hWon W won (hForce P W now t)) ∧ N.1 21 = nI (hForce P W now t) ∧ Dft N d P (hNow P W now t) ∧ ∀ j, j < 10 * d ∨ 10 * d + P.1 ≤ j → N.2.2.1 13 j = M.2.2.1 13 j) := by
  have hn1 := hP.1
  have hw := hP.pow hW.1
  have hl0 := hW.2.2.2.1
  have hs0 := hW.2.2.2.2
  have hfo := hForce_le hP (W := W) hok t
  unfold g_X12_step
  simp only [WP_bind, WP_some]
  refine WP.mono (WP.it (Post := fun e => FM [21] [] M e.2 ∧ e.2.1 21 = nI (hForce P W now t) ∧ ∃ pl, e.1 = nI pl ∧ pl < 1024 ∧ ∀ h, h < P.1 → pl.testBit h = hPull W t h) (fun i x => x.2.1 = nI i ∧ FM [21] [] M x.2.2 ∧ x.2.2.1 21 = nI (hsum (fun h => if hPull W t h = true then now h else 0) i) ∧ ∃ pl, x.1 = nI pl ∧ pl < 1024 ∧ ∀ h, pl.testBit h = (decide (h < i) && hPull W t h)) P.1 ?_ 100000 0 _ ?_ (Nat.zero_le _) (by omega)) ?_
  · rintro i ⟨y, j, N⟩ hi ⟨e1, F, e2, pl, e3, e4, e5⟩
    dsimp only at e1 F e2 e3
    subst e1
    subst e3
    have V' := V.fr F (by decide)
    have SV' := SV.fr F (by decide)
    unfold g_X12_step_L11
    dsimp only
    rw [V'.1]
    by_cases hlt : i < P.1
    · rw [if_neg (nI_ge hlt (by omega))]
      have c2 : i < 10 := by omega
      have hbi : N.2.2.1 19 i = nI (W.2.1 i) := by rw [F.2 19 (by decide)]; exact hb i hlt
      have hni : N.2.2.1 13 (10 * d + i) = nI (now i) := by rw [F.2 13 (by decide)]; exact hn i hlt
      have hlt3 := hW.2.1 i hlt
      have no : hPull W t i = false → WP (g_X12_step_L11_J65 (nI d) (nI s) (nI W.1) (nI W.2.2.2.1) (nI W.2.2.2.2) (nI t) (nI pl) (nI i) N) (Sum.elim (fun s' => i < P.1 ∧ s'.2.1 = nI (i + 1) ∧ FM [21] [] M s'.2.2 ∧ s'.2.2.1 21 = nI (hsum (fun h => if hPull W t h = true then now h else 0) (i + 1)) ∧ ∃ pl, s'.1 = nI pl ∧ pl < 1024 ∧ ∀ h, pl.testBit h = (decide (h < i + 1) && hPull W t h)) (fun e => FM [21] [] M e.2 ∧ e.2.1 21 = nI (hForce P W now t) ∧ ∃ pl, e.1 = nI pl ∧ pl < 1024 ∧ ∀ h, h < P.1 → pl.testBit h = hPull W t h)) := by
        intro hp
        simp only [g_X12_step_L11_J65, g_X12_step_L11_J66, g_X12_step_L11_J94, g_X12_bit, ↓reduceIte, WP_bind, WP_some, Option.bind_some, Sum.elim_inl, Sum.elim_inr, ↓reduceIte]
        refine ⟨hlt, nI_1 i, F.tr (FM.I _ (by decide)), ?_, pl, ?_, e4, fun h => ?_⟩
        · rw [msI_e, e2]
          simp only [hsum_s, hp, Bool.false_eq_true, ↓reduceIte, Nat.add_zero]
          exact nI_add _ 0
        · rw [nI_shl0 i (by omega), nI_orI, Nat.or_zero]
        · rw [e5]
          by_cases hhi : h = i
          · subst hhi; simp [hp]
          · have h2 : decide (h < i + 1) = decide (h < i) := by congr 1; apply propext; omega
            rw [h2]
      by_cases hb2 : W.1.testBit i = true
      · rw [if_pos ((nI_bit (by omega) (by omega)).mpr hb2), mld_n (k := 19) (show i < 10 by omega) (by decide)]
        simp only [WP_bind, WP_some, Option.bind_some, Sum.elim_inl, Sum.elim_inr, ↓reduceIte, hbi]
        by_cases htl : t < W.2.1 i
        · rw [if_pos (nI_lt htl (by omega))]
          exact no (by unfold hPull; simp; intro _ h; omega)
        · rw [if_neg (nI_nlt (by omega) (by omega))]
          simp only [WP_bind, WP_some, Option.bind_some, Sum.elim_inl, Sum.elim_inr, ↓reduceIte, nI_subI (show W.2.1 i ≤ t by omega), beatOf_eq SV' hs (show t - W.2.1 i < 2 ^ 31 by omega), ← hbt]
          have hb3 := hW.2.2.1 (t - W.2.1 i)
          by_cases hy : W.2.2.1 (t - W.2.1 i) = 2
          · rw [if_pos (show nI (W.2.2.1 (t - W.2.1 i)) = 2 by rw [hy]; rfl)]
            have hp : hPull W t i = true := by
              unfold hPull
              simp [hb2, hy]
              omega
            simp only [g_X12_step_L11_J66, g_X12_step_L11_J94, g_X12_bit, i10, ↓reduceIte, WP_bind, WP_some, Option.bind_some, Sum.elim_inl, Sum.elim_inr, ↓reduceIte, ix10]
            rw [mld_n (k := 13) (show 10 * d + i < 60 by omega) (by decide)]
            simp only [WP_bind, WP_some, Option.bind_some, Sum.elim_inl, Sum.elim_inr, ↓reduceIte, hni]
            refine ⟨hlt, nI_1 i, F.tr (FM.I _ (by decide)), ?_, pl ||| 2 ^ i, ?_, Nat.or_lt_two_pow (n := 10) e4 (Nat.pow_lt_pow_right (by decide) c2), fun h => ?_⟩
            · rw [msI_e, e2]
              simp only [hsum_s, hp, ↓reduceIte]
              exact nI_add _ _
            · rw [nI_shl1 i (by omega), nI_orI]
            · rw [Nat.testBit_or, e5, Nat.testBit_two_pow]
              by_cases hhi : h = i
              · subst hhi; simp [hp]
              · have h1 : decide (i = h) = false := by simp; omega
                have h2 : decide (h < i + 1) = decide (h < i) := by congr 1; apply propext; omega
                rw [h1, h2, Bool.or_false]
          · rw [if_neg (show ¬ nI (W.2.2.1 (t - W.2.1 i)) = 2 from fun z => hy ((nI_eq (b := 2) (by omega) (by omega)).mp z))]
            exact no (by unfold hPull; simp [hy])
      · rw [if_neg (fun z => hb2 ((nI_bit (by omega) (by omega)).mp z))]
        exact no (by unfold hPull; simp [hb2])
    · have hii : i = P.1 := by omega
      rw [if_pos (nI_le (by omega) (by omega))]
      simp only [WP_bind, WP_some, Option.bind_some, Sum.elim_inl, Sum.elim_inr, ↓reduceIte]
      subst hii
      refine ⟨F, e2, pl, rfl, e4, fun h hh => ?_⟩
      rw [e5]
      simp [hh]
  · refine ⟨rfl, FM.I _ (by decide), msI_e _ _ _, 0, rfl, by decide, fun h => by simp⟩
  · rintro ⟨y, N⟩ ⟨F, e2, pl, e3, e4, e5⟩
    dsimp only at F e2 e3
    subst e3
    dsimp only
    have e20 : N.1 20 = nI won := by rw [F.1 20 (by decide)]; exact hwon
    -- the hands come behind the rope
    have rest : ∀ N2 : MS, FM [20, 21] [] M N2 → N2.1 20 = nI (hWon W won (hForce P W now t)) → N2.1 21 = nI (hForce P W now t) → WP (g_X12_step_J172 (nI d) (nI s) (nI W.1) (nI W.2.2.2.1) (nI W.2.2.2.2) (nI t) (nI pl) N2) (fun N => FM [20, 21] [13] M N ∧ N.1 20 = nI (hWon W won (hForce P W now t)) ∧ N.1 21 = nI (hForce P W now t) ∧ Dft N d P (hNow P W now t) ∧ ∀ j, j < 10 * d ∨ 10 * d + P.1 ≤ j → N.2.2.1 13 j = M.2.2.1 13 j) := by
      intro N2 F2 w20 w21
      have SV2 := SV.fr F2 (by decide)
      unfold g_X12_step_J172
      simp only [WP_bind, WP_some, Option.bind_some, Sum.elim_inl, Sum.elim_inr, ↓reduceIte, beatOf_eq SV2 hs (show t < 2 ^ 31 by omega), ← hbt]
      refine WP.mono (WP.it (Post := fun N => FM [20, 21] [13] M N ∧ N.1 20 = nI (hWon W won (hForce P W now t)) ∧ N.1 21 = nI (hForce P W now t) ∧ Dft N d P (hNow P W now t) ∧ ∀ j, j < 10 * d ∨ 10 * d + P.1 ≤ j → N.2.2.1 13 j = M.2.2.1 13 j) (fun i x => x.1 = nI i ∧ FM [20, 21] [13] M x.2 ∧ x.2.1 20 = nI (hWon W won (hForce P W now t)) ∧ x.2.1 21 = nI (hForce P W now t) ∧ (∀ h, h < i → x.2.2.2.1 13 (10 * d + h) = nI (hNow P W now t h)) ∧ ∀ j, j < 10 * d ∨ 10 * d + i ≤ j → x.2.2.2.1 13 j = M.2.2.1 13 j) P.1 ?_ 100000 0 _ ?_ (Nat.zero_le _) (by omega)) (fun a h => h)
      · rintro i ⟨y, N⟩ hi ⟨e1, F3, g20, g21, g1, g2⟩
        dsimp only at e1 F3 g20 g21 g1 g2
        subst e1
        have V' := V.fr F3 (by decide)
        unfold g_X12_step_L184
        dsimp only
        rw [V'.1]
        by_cases hlt : i < P.1
        · rw [if_neg (nI_ge hlt (by omega))]
          have c2 : i < 10 := by omega
          obtain ⟨v1, v2, v3, v4⟩ := V'.2 i hlt
          have hst := hP.2 i hlt
          have hno := hok i hlt
          have hni : N.2.2.1 13 (10 * d + i) = nI (now i) := by rw [g2 _ (by omega)]; exact hn i hlt
          have fin : ∀ y : Nat, y ≤ 1000 → min (P.2.1 i) y = hNow P W now t i → WP (g_X12_step_L184_J296 (nI d) (nI W.1) (nI pl) (nI (W.2.2.1 t)) (nI i) (nI y) N) (Sum.elim (fun s' => i < P.1 ∧ s'.1 = nI (i + 1) ∧ FM [20, 21] [13] M s'.2 ∧ s'.2.1 20 = nI (hWon W won (hForce P W now t)) ∧ s'.2.1 21 = nI (hForce P W now t) ∧ (∀ h, h < i + 1 → s'.2.2.2.1 13 (10 * d + h) = nI (hNow P W now t h)) ∧ ∀ j, j < 10 * d ∨ 10 * d + (i + 1) ≤ j → s'.2.2.2.1 13 j = M.2.2.1 13 j) (fun N => FM [20, 21] [13] M N ∧ N.1 20 = nI (hWon W won (hForce P W now t)) ∧ N.1 21 = nI (hForce P W now t) ∧ Dft N d P (hNow P W now t) ∧ ∀ j, j < 10 * d ∨ 10 * d + P.1 ≤ j → N.2.2.1 13 j = M.2.2.1 13 j)) := by
            intro y hy1 hy2
            have key : ∀ z : Int32, z = nI (hNow P W now t i) → WP ((mst N 13 (nI (10 * d + i)) z).bind fun M44 => some (Sum.inl (nI i + 1, M44) : (Int32 × MS) ⊕ MS)) (Sum.elim (fun s' => i < P.1 ∧ s'.1 = nI (i + 1) ∧ FM [20, 21] [13] M s'.2 ∧ s'.2.1 20 = nI (hWon W won (hForce P W now t)) ∧ s'.2.1 21 = nI (hForce P W now t) ∧ (∀ h, h < i + 1 → s'.2.2.2.1 13 (10 * d + h) = nI (hNow P W now t h)) ∧ ∀ j, j < 10 * d ∨ 10 * d + (i + 1) ≤ j → s'.2.2.2.1 13 j = M.2.2.1 13 j) (fun N => FM [20, 21] [13] M N ∧ N.1 20 = nI (hWon W won (hForce P W now t)) ∧ N.1 21 = nI (hForce P W now t) ∧ Dft N d P (hNow P W now t) ∧ ∀ j, j < 10 * d ∨ 10 * d + P.1 ≤ j → N.2.2.1 13 j = M.2.2.1 13 j)) := by
              rintro z rfl
              rw [mst_n (k := 13) (show 10 * d + i < 60 by omega) (by decide)]
              simp only [WP_bind, WP_some, Option.bind_some, Sum.elim_inl, Sum.elim_inr, ↓reduceIte]
              refine ⟨hlt, nI_1 i, F3.tr (FM.A _ (by decide)), g20, g21, fun h hh => ?_, fun j hj => ?_⟩
              · rw [msA_u]
                by_cases hhi : h = i
                · subst hhi; rw [if_pos rfl]
                · rw [if_neg (by omega)]; exact g1 h (by omega)
              · rw [msA_u, if_neg (by omega)]
                exact g2 j (by omega)
            unfold g_X12_step_L184_J296
            rw [mld_n (k := 8) (show i < 10 from c2) (by decide), ix10]
            simp only [Option.bind_some, v1]
            by_cases hz : y ≤ P.2.1 i
            · rw [if_pos (nI_le hz (by omega))]
              exact key _ (by rw [← hy2]; congr 1; omega)
            · rw [if_neg (nI_ge (by omega) (by omega))]
              exact key _ (by rw [← hy2]; congr 1; omega)
          rw [ix10, mld_n (k := 13) (show 10 * d + i < 60 by omega) (by decide)]
          simp only [WP_bind, WP_some, hni]
          by_cases hp : hPull W t i = true
          · rw [if_pos ((nI_bit (by omega) (by omega)).mpr (by rw [e5 i hlt]; exact hp)), mld_n (k := 9) (show i < 10 from c2) (by decide)]
            simp only [Option.bind_some, v2, g_X12_step_L184_J244]
            have hN : hNow P W now t i = now i - P.2.2.1 i := by unfold hNow; rw [if_pos hp]
            by_cases hz : now i ≤ P.2.2.1 i
            · rw [if_pos (nI_le hz (by omega))]
              exact fin 0 (by omega) (by rw [hN]; omega)
            · rw [if_neg (nI_ge (by omega) (by omega)), nI_subI (by omega)]
              exact fin _ (by omega) (by rw [hN]; omega)
          · rw [if_neg (fun z => hp (by rw [← e5 i hlt]; exact (nI_bit (by omega) (by omega)).mp z))]
            have hN : hNow P W now t i = min (P.2.1 i) (now i + hBack P W t i) := by unfold hNow; rw [if_neg hp]
            have hb3 := hW.2.2.1 t
            by_cases hb2 : W.1.testBit i = true
            · rw [if_neg (fun z => by rw [(nI_bit0 (by omega) (by omega)).mp z] at hb2; exact absurd hb2 (by decide))]
              by_cases h0 : W.2.2.1 t = 0
              · rw [if_pos (show nI (W.2.2.1 t) = 0 by rw [h0]; rfl)]
                unfold g_X12_step_L184_J263
                rw [mld_n (k := 10) (show i < 10 from c2) (by decide)]
                simp only [Option.bind_some, v3, nI_add]
                exact fin _ (by omega) (by rw [hN, show hBack P W t i = P.2.2.2.1 i by unfold hBack; rw [if_pos (Or.inr h0)]])
              · rw [if_neg (nI_ne0 (by omega) (by omega))]
                by_cases h3 : W.2.2.1 t = 3
                · rw [if_pos (show nI (W.2.2.1 t) = 3 by rw [h3]; rfl), mld_n (k := 11) (show i < 10 from c2) (by decide)]
                  simp only [Option.bind_some, v4, nI_add]
                  exact fin _ (by omega) (by rw [hN, show hBack P W t i = P.2.2.2.2 i by unfold hBack; rw [if_neg (by simp [hb2, h0]), if_pos h3]])
                · rw [if_neg (show ¬ nI (W.2.2.1 t) = 3 from fun z => h3 ((nI_eq (b := 3) (by omega) (by omega)).mp z))]
                  exact fin _ (by omega) (by rw [hN, show hBack P W t i = 0 by unfold hBack; rw [if_neg (by simp [hb2, h0]), if_neg h3], Nat.add_zero])
            · have hb2' : W.1.testBit i = false := by simpa using hb2
              rw [if_pos ((nI_bit0 (by omega) (by omega)).mpr hb2')]
              unfold g_X12_step_L184_J263
              rw [mld_n (k := 10) (show i < 10 from c2) (by decide)]
              simp only [Option.bind_some, v3, nI_add]
              exact fin _ (by omega) (by rw [hN, show hBack P W t i = P.2.2.2.1 i by unfold hBack; rw [if_pos (Or.inl hb2')]])
        · have hii : i = P.1 := by omega
          rw [if_pos (nI_le (by omega) (by omega))]
          simp only [WP_bind, WP_some, Option.bind_some, Sum.elim_inl, Sum.elim_inr, ↓reduceIte]
          subst hii
          exact ⟨F3, g20, g21, g1, g2⟩
      · exact ⟨rfl, F2.mono (fun k h => h) (fun k h => absurd h (List.not_mem_nil)), w20, w21, fun h hh => absurd hh (Nat.not_lt_zero _), fun j hj => by rw [F2.2 13 (by decide)]⟩
    have F2 : FM [20, 21] [] M N := F.mono (by decide) (fun k h => h)
    rw [e2, e20]
    by_cases hz : W.2.2.2.1 < hForce P W now t
    · rw [if_neg (nI_ge hz (by omega))]
      simp only [WP_bind, WP_some]
      refine rest _ (F2.tr (FM.I _ (by decide))) ?_ (by rw [msI_n (by decide)]; exact e2)
      rw [msI_e, nI_subI (by omega), show (10 : Int32) = nI 10 from rfl, pk_div (by omega) (by omega) (by omega), nI_add]
      unfold hWon
      rw [if_pos hz]
    · rw [if_pos (nI_le (by omega) (by omega))]
      have hWz : hWon W won (hForce P W now t) = won - W.2.2.2.2 := by unfold hWon; rw [if_neg hz]
      by_cases hy : won ≤ W.2.2.2.2
      · rw [if_pos (nI_le hy (by omega))]
        unfold g_X12_step_J169
        simp only [WP_bind, WP_some]
        refine rest _ (F2.tr (FM.I _ (by decide))) ?_ (by rw [msI_n (by decide)]; exact e2)
        rw [msI_e, hWz, show won - W.2.2.2.2 = 0 by omega]
        rfl
      · rw [if_neg (nI_ge (by omega) (by omega))]
        unfold g_X12_step_J169
        simp only [WP_bind, WP_some]
        refine rest _ (F2.tr (FM.I _ (by decide))) ?_ (by rw [msI_n (by decide)]; exact e2)
        rw [msI_e, hWz, nI_subI (by omega)]
