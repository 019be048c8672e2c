/-! the reference reads off a word -/
theorem sqF_stay {v : Nat → Nat} {n : Nat} {X : WX} {ch : Nat → Nat → Nat × Nat} {l0 J : Nat} (h : (sqF v n X ch l0 J).1 = n) : ∀ j, J ≤ j → (sqF v n X ch l0 j).1 = n := by
  intro j hj
  induction j with
  | zero => rw [show J = 0 by omega] at h; exact h
  | succ j ih =>
    by_cases hJ : J = j + 1
    · rw [← hJ]; exact h
    · have h1 := ih (by omega)
      show (if _ then _ else _ : Nat × Nat).1 = n
      rw [if_neg (by omega)]
      exact h1
theorem rcounted_wp {N : MS} {s n p left : Nat} {v : Nat → Nat} {X : WX} {x4 x8 : Int32} (V : RVer N s n v) (xm : WordsM X N) (xok : WordsOk X) (hp : p < n) (hT : ∀ q, q ≤ n → N.2.2.2 q = lN (wayT v n X n q)) (hl : left < 2 ^ 62) (hg : left < preS v n X (wayT v n X n) p X.1) : iter (g_X12_lineAt_L71 (nI s) x4 (nI p) x8) 100000 (lN left, 0, 0, N) = some (lN (chC v n X p left).2, nI (chC v n X p left).1, N) := by
  have hn := V.2.2.1
  have hx12 := xok.1
  obtain ⟨w1, w2, w3⟩ := cwF_spec hg
  obtain ⟨w4, w5⟩ := cwF_perf hg
  have key : WP (iter (g_X12_lineAt_L71 (nI s) x4 (nI p) x8) 100000 (lN left, 0, 0, N)) (fun r => r = (lN (chC v n X p left).2, nI (chC v n X p left).1, N)) := by
    refine WP.it (fun i x => (i ≤ cwF v n X (wayT v n X n) p left ∧ x = (lN (left - preS v n X (wayT v n X n) p i), nI i, 0, N)) ∨ (x = (lN (chC v n X p left).2, nI (chC v n X p left).1, 1, N))) (X.1 + 1) ?_ 100000 0 _ (Or.inl ⟨Nat.zero_le _, rfl⟩) (Nat.zero_le _) (by omega)
    rintro i x hi (⟨e0, rfl⟩ | rfl)
    · have hlt : i < X.1 := by omega
      unfold g_X12_lineAt_L71
      dsimp only
      rw [if_pos rfl, wrongOf_eq' V xm xok hlt (by omega)]
      simp only [Option.bind_some]
      have hpre : preS v n X (wayT v n X n) p (i + 1) = preS v n X (wayT v n X n) p i + (if wrM v n p (X.2.2.1 i) (X.2.2.2 i) = some 0 then wayT v n X n (p + X.2.2.1 i) else 0) := rfl
      have hmi : preS v n X (wayT v n X n) p i ≤ left := Nat.le_trans (preS_mono e0) w2
      -- with so many lines behind this word
      have fin : ∀ z : Nat, z ≤ 1000000000000000 → preS v n X (wayT v n X n) p (i + 1) = preS v n X (wayT v n X n) p i + z → WP (g_X12_lineAt_L71_J107 (nI s) x4 (nI p) x8 (lN (left - preS v n X (wayT v n X n) p i)) (nI i) (lN z) N) (Sum.elim (fun x => i < X.1 + 1 ∧ ((i + 1 ≤ cwF v n X (wayT v n X n) p left ∧ x = (lN (left - preS v n X (wayT v n X n) p (i + 1)), nI (i + 1), 0, N)) ∨ x = (lN (chC v n X p left).2, nI (chC v n X p left).1, 1, N))) (fun r => r = (lN (chC v n X p left).2, nI (chC v n X p left).1, N))) := by
        intro z hz hz2
        unfold g_X12_lineAt_L71_J107
        simp only [lgc_ge]
        by_cases hlt2 : left - preS v n X (wayT v n X n) p i < z
        · have c1 : ¬ ¬ lN (left - preS v n X (wayT v n X n) p i) < lN z := fun y => y ((pk_lLT (by omega) (by omega)).mpr hlt2)
          rw [if_neg c1]
          have hiw : i = cwF v n X (wayT v n X n) p left := by
            by_cases hiw : i = cwF v n X (wayT v n X n) p left
            · exact hiw
            · exfalso
              have h7 : preS v n X (wayT v n X n) p (i + 1) ≤ preS v n X (wayT v n X n) p (cwF v n X (wayT v n X n) p left) := preS_mono (by omega)
              omega
          simp only [g_X12_lineAt_L71_J122, g_X12_lineAt_L71_J137, i10, WP_bind, WP_some, Option.bind_some, Sum.elim_inl, Sum.elim_inr, ↓reduceIte]
          refine ⟨by omega, Or.inr ?_⟩
          rw [Int32.add_zero, Int64.sub_zero, hiw]
          rfl
        · have c1 : ¬ lN (left - preS v n X (wayT v n X n) p i) < lN z := fun y => hlt2 ((pk_lLT (by omega) (by omega)).mp y)
          rw [if_pos c1]
          have hiw : i ≠ cwF v n X (wayT v n X n) p left := fun y => by rw [← y] at w3; omega
          simp only [g_X12_lineAt_L71_J122, g_X12_lineAt_L71_J137, WP_bind, WP_some, Option.bind_some, Sum.elim_inl, Sum.elim_inr, ↓reduceIte, lN_sub (show z ≤ left - preS v n X (wayT v n X n) p i by omega)]
          refine ⟨by omega, Or.inl ⟨by omega, ?_⟩⟩
          rw [nI_1, hz2, show left - preS v n X (wayT v n X n) p i - z = left - (preS v n X (wayT v n X n) p i + z) by omega]
      by_cases hw : wrM v n p (X.2.2.1 i) (X.2.2.2 i) = some 0
      · obtain ⟨_, h2⟩ := wrM_le hw
        rw [hw, if_pos (show wI (some 0) = 0 from rfl)]
        rw [if_pos hw] at hpre
        have m31 : mld N 31 (nI i) = some (nI (X.2.2.1 i)) := by rw [mld_n (k := 31) (show i < 12 by omega) (by decide), (xm.2 i hlt).1]
        have mJ : mldJ N (nI p + nI (X.2.2.1 i)) = some (lN (wayT v n X n (p + X.2.2.1 i))) := by rw [nI_add, mldJ_n (show p + X.2.2.1 i < 25 by omega), hT _ h2]
        simp only [m31, mJ, Option.bind_some]
        exact fin _ (wayT_le v n X n _) hpre
      · rw [if_neg hw] at hpre
        have hnw : ¬ wI (wrM v n p (X.2.2.1 i) (X.2.2.2 i)) = 0 := by
          cases hw2 : wrM v n p (X.2.2.1 i) (X.2.2.2 i) with
          | none => decide
          | some c =>
            obtain ⟨h1, _⟩ := wrM_le hw2
            have o2 := (xok.2 i hlt).2.1
            exact nI_ne0 (by
              by_cases hc : c = 0
              · rw [hw2, hc] at hw; exact absurd rfl hw
              · omega) (by omega)
        rw [if_neg hnw]
        exact fin 0 (by omega) hpre
    · unfold g_X12_lineAt_L71
      dsimp only
      rw [if_neg (by decide)]
      simp only [WP_bind, WP_some, Option.bind_some, Sum.elim_inl, Sum.elim_inr, ↓reduceIte]
  obtain ⟨e, h4, rfl⟩ := key
  exact h4
theorem rnear_wp {N : MS} {s n p left : Nat} {v : Nat → Nat} {X : WX} {x2 x4 : Int32} (V : RVer N s n v) (xm : WordsM X N) (xok : WordsOk X) (hp : p < n) (hs : sg (v p) = true) (hU : ∀ q, q ≤ n → N.2.2.1 34 q = nI (wrgT v n X n q)) (hg : wrgT v n X n p ≠ 1000000000) : iter (g_X12_nearAt_L56 (nI s) x2 (nI p) x4) 100000 (0, N) = some (nI (chN v n X p left).1, N) := by
  have hn := V.2.2.1
  have hx12 := xok.1
  have hX := fun i hi => (xok.2 i hi).1
  obtain ⟨w1, w2, w3⟩ := nwF_spec hX hp hs hg
  have hT2 : ∀ q, p < q → q ≤ n → wrgT v n X n q = 1000000000 ∨ wrgT v n X n q ≤ n - q := fun q a c => wrgT_ok (v := v) (n := n) hX n (Nat.le_refl _) q (by omega) c
  have hup := wrgT_ok (v := v) (n := n) hX n (Nat.le_refl _) p (by omega) (by omega)
  have key : WP (iter (g_X12_nearAt_L56 (nI s) x2 (nI p) x4) 100000 (0, N)) (fun r => r = (nI (chN v n X p left).1, N)) := by
    refine WP.it (fun i x => i ≤ nwF v n X (wrgT v n X n) p ∧ x = (nI i, N)) X.1 ?_ 100000 0 _ ⟨Nat.zero_le _, rfl⟩ (Nat.zero_le _) (by omega)
    rintro i x hi ⟨e0, rfl⟩
    have hlt : i < X.1 := by omega
    unfold g_X12_nearAt_L56
    dsimp only
    rw [wrongOf_eq' V xm xok hlt (by omega)]
    simp only [Option.bind_some]
    have hgo : nearP v n X (wrgT v n X n) p i = false → WP (some (Sum.inl (nI i + 1, N) : (Int32 × MS) ⊕ (Int32 × MS))) (Sum.elim (fun x => i < X.1 ∧ i + 1 ≤ nwF v n X (wrgT v n X n) p ∧ x = (nI (i + 1), N)) (fun r => r = (nI (chN v n X p left).1, N))) := by
      intro h
      have hiw : i ≠ nwF v n X (wrgT v n X n) p := fun z => by rw [z, w2] at h; exact absurd h (by decide)
      exact WP.ret ⟨hlt, by omega, by rw [nI_1]⟩
    cases hw : wrM v n p (X.2.2.1 i) (X.2.2.2 i) with
    | none =>
      rw [if_pos (show wI none < 0 by decide)]
      exact hgo (by unfold nearP; rw [hw]; rfl)
    | some c =>
      obtain ⟨h1, h2⟩ := wrM_le hw
      have o2 := (xok.2 i hlt).2.1
      have m31 : mld N 31 (nI i) = some (nI (X.2.2.1 i)) := by rw [mld_n (k := 31) (show i < 12 by omega) (by decide), (xm.2 i hlt).1]
      have m34 : mld N 34 (nI p + nI (X.2.2.1 i)) = some (nI (wrgT v n X n (p + X.2.2.1 i))) := by rw [nI_add, mld_n (k := 34) (show p + X.2.2.1 i < 25 by omega) (by decide), hU _ h2]
      have m34p : mld N 34 (nI p) = some (nI (wrgT v n X n p)) := by rw [mld_n (k := 34) (show p < 25 by omega) (by decide), hU _ (by omega)]
      rw [if_neg (show ¬ wI (some c) < 0 from nI_pos (by omega)), wrongOf_eq' V xm xok hlt (by omega), hw]
      simp only [m31, m34, m34p, Option.bind_some]
      rw [show wI (some c) + nI (wrgT v n X n (p + X.2.2.1 i)) = nI (c + wrgT v n X n (p + X.2.2.1 i)) from nI_add _ _]
      have o1 := hX i hlt
      have hb := hT2 (p + X.2.2.1 i) (by omega) h2
      have hnp : nearP v n X (wrgT v n X n) p i = decide (c + wrgT v n X n (p + X.2.2.1 i) = wrgT v n X n p) := by unfold nearP; rw [hw]; rfl
      by_cases heq : c + wrgT v n X n (p + X.2.2.1 i) = wrgT v n X n p
      · rw [if_pos (show nI (c + wrgT v n X n (p + X.2.2.1 i)) = nI (wrgT v n X n p) by rw [heq])]
        have hiw : i = nwF v n X (wrgT v n X n) p := by
          by_cases hiw : i = nwF v n X (wrgT v n X n) p
          · exact hiw
          · have h9 := w3 i (by omega)
            rw [hnp] at h9
            simp [heq] at h9
        refine WP.ret ?_
        show (nI i, N) = _
        rw [hiw]
        rfl
      · rw [if_neg (fun z => heq ((nI_eq (by omega) (by omega)).mp z))]
        exact hgo (by rw [hnp]; simp [heq])
  obtain ⟨e, h4, rfl⟩ := key
  exact h4
theorem rlineAt_wp {N : MS} {s n l0 kk : Nat} {v : Nat → Nat} {X : WX} (V : RVer N s n v) (xm : WordsM X N) (xok : WordsOk X) (hkk : kk < 2 ^ 31) (hT : ∀ q, q ≤ n → N.2.2.2 q = lN (wayT v n X n q)) (h0 : l0 < wayT v n X n (sfM v n 0)) {J : Nat} (hJ : J ≤ n) (hJ2 : (sqF v n X (chC v n X) l0 J).1 = n) (hJ3 : ∀ i, i < J → (sqF v n X (chC v n X) l0 i).1 < n) : WP (iter (g_X12_lineAt_L54 (nI s) (nI kk)) 100000 (lN l0, nI (sfM v n 0), 0, N)) (fun r => Sum.elim (fun D => D = N ∧ J ≤ kk) (fun q => q.2 = N ∧ kk < J ∧ q.1 = nI (chC v n X (sqF v n X (chC v n X) l0 kk).1 (sqF v n X (chC v n X) l0 kk).2).1) r) := by
  have hn := V.2.2.1
  have hX := fun i hi => (xok.2 i hi).1
  have hx12 := xok.1
  obtain ⟨z1, z2, z3, z4, z5⟩ := id V
  have good := sqF_good (l0 := l0) hn (chC_ok hX) h0
  refine WP.it (fun j x => j ≤ kk ∧ x = (lN (sqF v n X (chC v n X) l0 j).2, nI (sqF v n X (chC v n X) l0 j).1, nI j, N)) J ?_ 100000 0 _ ⟨Nat.zero_le _, rfl⟩ (Nat.zero_le _) (by omega)
  rintro j x hj ⟨hjk, rfl⟩
  obtain ⟨g1, g2, g3⟩ := good j
  have m1 : mld N 1 (nI s) = some (nI n) := by rw [mld_n (k := 1) (show s < 6 from z1) (by decide), z2]
  unfold g_X12_lineAt_L54
  dsimp only
  simp only [m1, Option.bind_some]
  by_cases hlt : j < J
  · have hat := hJ3 j hlt
    have gs := g3 hat
    obtain ⟨k1, k2, k3⟩ := chC_ok hX _ _ hat gs g1
    have g1' : (sqF v n X (chC v n X) l0 j).2 < wayT v n X n (sqF v n X (chC v n X) l0 j).1 := g1
    have hle := wayT_le v n X n (sqF v n X (chC v n X) l0 j).1
    have g1'' := g1'
    rw [wayT_sung hX hat gs] at g1''
    have hgp : (sqF v n X (chC v n X) l0 j).2 < preS v n X (wayT v n X n) (sqF v n X (chC v n X) l0 j).1 X.1 := Nat.lt_of_lt_of_le g1'' (waySum_pre v n X _ _ X.1)
    rw [if_neg (nI_ge hat (by omega)), rcounted_wp V xm xok hat hT (by omega) hgp]
    simp only [Option.bind_some]
    by_cases hjk2 : j = kk
    · subst hjk2
      rw [if_pos rfl]
      simp only [WP_bind, WP_some, Option.bind_some, Sum.elim_inl, Sum.elim_inr, ↓reduceIte]
      exact ⟨trivial, hlt, trivial⟩
    · rw [if_neg (fun z => hjk2 ((nI_eq (by omega) hkk).mp z))]
      have m31 : mld N 31 (nI (chC v n X (sqF v n X (chC v n X) l0 j).1 (sqF v n X (chC v n X) l0 j).2).1) = some (nI (X.2.2.1 (chC v n X (sqF v n X (chC v n X) l0 j).1 (sqF v n X (chC v n X) l0 j).2).1)) := by rw [mld_n (k := 31) (show _ < 12 by omega) (by decide), (xm.2 _ k1).1]
      have hsq : sqF v n X (chC v n X) l0 (j + 1) = (sfM v n ((sqF v n X (chC v n X) l0 j).1 + X.2.2.1 (chC v n X (sqF v n X (chC v n X) l0 j).1 (sqF v n X (chC v n X) l0 j).2).1), (chC v n X (sqF v n X (chC v n X) l0 j).1 (sqF v n X (chC v n X) l0 j).2).2) := by
        show (if _ then _ else _) = _
        rw [if_pos hat]
      simp only [m31, Option.bind_some, nI_add]
      rw [sungFrom_eq z1 z2 z3 z4 z5 k2]
      simp only [WP_bind, WP_some, Option.bind_some, Sum.elim_inl, Sum.elim_inr, ↓reduceIte]
      exact ⟨hlt, by omega, by rw [hsq, nI_1]⟩
  · have hjj : j = J := by omega
    subst hjj
    rw [if_pos (by rw [hJ2]; exact nI_le (Nat.le_refl _) (by omega))]
    simp only [WP_bind, WP_some, Option.bind_some, Sum.elim_inl, Sum.elim_inr, ↓reduceIte]
    exact ⟨trivial, hjk⟩
theorem rnearAt_wp {N : MS} {s n kk : Nat} {v : Nat → Nat} {X : WX} (V : RVer N s n v) (xm : WordsM X N) (xok : WordsOk X) (hkk : kk < 2 ^ 31) (hU : ∀ q, q ≤ n → N.2.2.1 34 q = nI (wrgT v n X n q)) (h0 : wrgT v n X n (sfM v n 0) ≠ 1000000000) {J : Nat} (hJ : J ≤ n) (hJ2 : (sqF v n X (chN v n X) 0 J).1 = n) (hJ3 : ∀ i, i < J → (sqF v n X (chN v n X) 0 i).1 < n) : WP (iter (g_X12_nearAt_L43 (nI s) (nI kk)) 100000 (nI (sfM v n 0), 0, N)) (fun r => Sum.elim (fun D => D = N ∧ J ≤ kk) (fun q => q.2 = N ∧ kk < J ∧ q.1 = nI (chN v n X (sqF v n X (chN v n X) 0 kk).1 (sqF v n X (chN v n X) 0 kk).2).1) r) := by
  have hn := V.2.2.1
  have hX := fun i hi => (xok.2 i hi).1
  have hx12 := xok.1
  obtain ⟨z1, z2, z3, z4, z5⟩ := id V
  have good := sqF_good (l0 := 0) hn (chN_ok hn hX) h0
  refine WP.it (fun j x => j ≤ kk ∧ x = (nI (sqF v n X (chN v n X) 0 j).1, nI j, N)) J ?_ 100000 0 _ ⟨Nat.zero_le _, rfl⟩ (Nat.zero_le _) (by omega)
  rintro j x hj ⟨hjk, rfl⟩
  obtain ⟨g1, g2, g3⟩ := good j
  have m1 : mld N 1 (nI s) = some (nI n) := by rw [mld_n (k := 1) (show s < 6 from z1) (by decide), z2]
  unfold g_X12_nearAt_L43
  dsimp only
  simp only [m1, Option.bind_some]
  by_cases hlt : j < J
  · have hat := hJ3 j hlt
    have gs := g3 hat
    obtain ⟨k1, k2, k3⟩ := chN_ok hn hX _ (sqF v n X (chN v n X) 0 j).2 hat gs g1
    rw [if_neg (nI_ge hat (by omega)), rnear_wp (left := (sqF v n X (chN v n X) 0 j).2) V xm xok hat gs hU g1]
    simp only [Option.bind_some]
    by_cases hjk2 : j = kk
    · subst hjk2
      rw [if_pos rfl]
      simp only [WP_bind, WP_some, Option.bind_some, Sum.elim_inl, Sum.elim_inr, ↓reduceIte]
      exact ⟨trivial, hlt, trivial⟩
    · rw [if_neg (fun z => hjk2 ((nI_eq (by omega) hkk).mp z))]
      have m31 : mld N 31 (nI (chN v n X (sqF v n X (chN v n X) 0 j).1 (sqF v n X (chN v n X) 0 j).2).1) = some (nI (X.2.2.1 (chN v n X (sqF v n X (chN v n X) 0 j).1 (sqF v n X (chN v n X) 0 j).2).1)) := by rw [mld_n (k := 31) (show _ < 12 by omega) (by decide), (xm.2 _ k1).1]
      have hsq : sqF v n X (chN v n X) 0 (j + 1) = (sfM v n ((sqF v n X (chN v n X) 0 j).1 + X.2.2.1 (chN v n X (sqF v n X (chN v n X) 0 j).1 (sqF v n X (chN v n X) 0 j).2).1), (chN v n X (sqF v n X (chN v n X) 0 j).1 (sqF v n X (chN v n X) 0 j).2).2) := by
        show (if _ then _ else _) = _
        rw [if_pos hat]
      simp only [m31, Option.bind_some, nI_add]
      rw [sungFrom_eq z1 z2 z3 z4 z5 k2]
      simp only [WP_bind, WP_some, Option.bind_some, Sum.elim_inl, Sum.elim_inr, ↓reduceIte]
      exact ⟨hlt, by omega, by rw [hsq, nI_1]⟩
  · have hjj : j = J := by omega
    subst hjj
    rw [if_pos (by rw [hJ2]; exact nI_le (Nat.le_refl _) (by omega))]
    simp only [WP_bind, WP_some, Option.bind_some, Sum.elim_inl, Sum.elim_inr, ↓reduceIte]
    exact ⟨trivial, hjk⟩
theorem wordAt_eq {C : CH} {b J kk : Nat} (Q : LineS (sh C) (b + 33)) (hJ : J ≤ 24) (hkk : kk < 2 ^ 31) (h3 : c_iv C (b + 33) 3 = nI J) : t_X4_wordAt (b + 33) (nI kk) C = some (if kk < J then c_ar C (b + 36) kk else -1, C) := by
  obtain ⟨lk, lr0, lk0, ll0, lr1, lk1, ll1, lr2, lk2, ll2⟩ := Q.f
  unfold t_X4_wordAt
  simp only [tcl_5, tgR_5_0, tpR_5_0, tgR_5_1, tpR_5_1, tgR_5_2, tpR_5_2, tgI_5_3, tpI_5_3, tgJ_5_4, tpJ_5_4, lk, lr0, lk0, ll0, lr1, lk1, ll1, lr2, lk2, ll2, h3, tw_eq, Option.bind_some]
  by_cases h : kk < J
  · have hv := in_nI (show J ≤ 1000 by omega) h
    have d1 : kk < 24 := by omega
    simp only [hv, ↓reduceIte, i10, h, tcl_5, tgR_5_0, tpR_5_0, tgR_5_1, tpR_5_1, tgR_5_2, tpR_5_2, tgI_5_3, tpI_5_3, tgJ_5_4, tpJ_5_4, Nat.reduceLT, tld_n, tst_n, tldB_n, tstB_n, tldR3_n, tldR4_n, tldJ_n, tstJ_n, tlen_I, tlen_R, lk, lr0, lk0, ll0, lr1, lk1, ll1, lr2, lk2, ll2, d1, Option.bind_some]
  · have hv : nI kk < 0 ∨ nI J - 1 < nI kk := by
      by_cases hv : nI kk < 0 ∨ nI J - 1 < nI kk
      · exact hv
      · obtain ⟨j, hj, e⟩ := in_n (by omega) hv
        have := (nI_eq hkk (by omega)).mp e
        omega
    simp only [hv, ↓reduceIte, h]
theorem op_lineAt {b : Nat} {C : CH} {M : MS} (I : Inv b C M) (x : Int32) (y : Int64) (z : Int32) : OP b (t_X11_lineAt b x y z C) (g_X12_lineAt x y z M) := by
  have I0 := I
  obtain ⟨H, S, T, bw, X, R, K, I⟩ := I
  obtain ⟨IB, _, ⟨s1, sm, sok⟩, _, _, ⟨x1, xm, xok⟩, _⟩ := id I
  obtain ⟨xk, xr0, xr1, xr2, xr3, xr4, xr6, xr7, xr8, xr9, xr10, xr11⟩ := IB.1.x
  have hb := IB.2.1
  have h6 := sok.1
  have hX := fun i hi => (xok.2 i hi).1
  have Q := IB.1.2.2.2.2.2.1
  obtain ⟨lk, _⟩ := Q.f
  unfold t_X11_lineAt g_X12_lineAt
  rw [noSong_eq sm]
  by_cases hv : x < 0 ∨ nI S.1 - 1 < x
  · simp only [hv, ↓reduceIte, i10, tcl_12, tgR_12_0, tpR_12_0, tgR_12_1, tpR_12_1, tgR_12_2, tpR_12_2, tgR_12_3, tpR_12_3, tgR_12_4, tpR_12_4, tgI_12_5, tpI_12_5, tgR_12_6, tpR_12_6, tgR_12_7, tpR_12_7, tgR_12_8, tpR_12_8, tgR_12_9, tpR_12_9, tgR_12_10, tpR_12_10, tgR_12_11, tpR_12_11, xk, Option.bind_some, (songOf_eq IB s1 x).1 hv, Option.elim]
    exact op_same I0 _
  obtain ⟨j, hj, rfl⟩ := in_n (by omega) hv
  obtain ⟨q1, q2, q3, _⟩ := s1.2 j hj
  obtain ⟨gk, gr0, _⟩ := q1.f
  simp only [hv, ↓reduceIte, tcl_12, tgR_12_0, tpR_12_0, tgR_12_1, tpR_12_1, tgR_12_2, tpR_12_2, tgR_12_3, tpR_12_3, tgR_12_4, tpR_12_4, tgI_12_5, tpI_12_5, tgR_12_6, tpR_12_6, tgR_12_7, tpR_12_7, tgR_12_8, tpR_12_8, tgR_12_9, tpR_12_9, tgR_12_10, tpR_12_10, tgR_12_11, tpR_12_11, xk, Option.bind_some, (songOf_eq IB s1 (nI j)).2 j hj h6 rfl, Option.elim]
  by_cases hy : (lg_cmp y 0) < 0
  · simp only [hy, ↓reduceIte]
    exact op_same I0 _
  simp only [hy, ↓reduceIte]
  by_cases hz : 0 ≤ z
  · obtain ⟨kk, hkk, rfl⟩ := nI_of (x := z) (by rw [Int32.lt_iff_toInt_lt]; rw [Int32.le_iff_toInt_le] at hz; omega)
    have hy' : ¬ y < 0 := fun q => hy ((lgc_lt y 0).mpr q)
    obtain ⟨i, hi, rfl⟩ := pk_lOf hy'
    have V := SongV.row s1 sok hj
    have RV := RSongV.ver sm sok hj
    have hn := V.2.2.1
    generalize hv1 : S.2.2.2.2.1 j = v at V RV
    generalize hn1 : S.2.2.1 j = n at V RV hn
    simp only [OP, hz, ↓reduceIte, tcl_12, tgR_12_0, tpR_12_0, tgR_12_1, tpR_12_1, tgR_12_2, tpR_12_2, tgR_12_3, tpR_12_3, tgR_12_4, tpR_12_4, tgI_12_5, tpI_12_5, tgR_12_6, tpR_12_6, tgR_12_7, tpR_12_7, tgR_12_8, tpR_12_8, tgR_12_9, tpR_12_9, tgR_12_10, tpR_12_10, tgR_12_11, tpR_12_11, tcl_8, tgR_8_0, tpR_8_0, tgR_8_1, tpR_8_1, tcl_5, tgR_5_0, tpR_5_0, tgR_5_1, tpR_5_1, tgR_5_2, tpR_5_2, tgI_5_3, tpI_5_3, tgJ_5_4, tpJ_5_4, xk, xr0, xr1, xr2, xr3, xr4, xr6, xr7, xr8, xr9, xr10, xr11, gk, gr0, lk, Option.bind_some, WP_bind, WP_some, t_X4_makeLine, hy]
    have Q0 : LineS (sh (s_iv C (up2 (c_iv C) (b + 33) 3 0))) (b + 33) := Q
    have F00 : Fr (b + 33) (b + 33) C (s_iv C (up2 (c_iv C) (b + 33) 3 0)) := Fr.iv _ (by omega)
    have x10 := x1.fr hb F00 (by omega) (by omega)
    have V0 := V.fr F00 (by omega)
    have i00 : c_iv (s_iv C (up2 (c_iv C) (b + 33) 3 0)) (b + 33) 3 = 0 := by rw [iv_upd, if_pos ⟨rfl, rfl⟩]
    have hb0 : b + 81 ≤ (s_iv C (up2 (c_iv C) (b + 33) 3 0)).1 := hb
    have k00 : c_kd (s_iv C (up2 (c_iv C) (b + 33) 3 0)) (b + 33) = 6 := lk
    simp only [tcl_5, tgR_5_0, tpR_5_0, tgR_5_1, tpR_5_1, tgR_5_2, tpR_5_2, tgI_5_3, tpI_5_3, tgJ_5_4, tpJ_5_4, k00, WP_some]
    generalize s_iv C (up2 (c_iv C) (b + 33) 3 0) = C0 at Q0 F00 x10 V0 i00 hb0 k00 ⊢
    refine WP.mono (howMany_wp Q0 x10 xok V0 hb0 (by omega)) ?_
    rintro ⟨w, D⟩ ⟨e1, F, e2⟩
    dsimp only at e1 F e2
    subst e1
    have hwl := wayT_le v n X n 0
    have cmp : ¬ lN i < lN (wayT v n X n 0) ↔ ¬ i < wayT v n X n 0 := not_congr (pk_lLT (by omega) (by omega))
    have FD : Fr (b + 33) (b + 36) C D := (F00.mono (by omega) (by omega)).tr (F.mono (by omega) (by omega))
    have QD := Q0.tr F.2.2.1
    have StD : StS (sh D) b := by rw [FD.2.2.1]; exact IB.1
    have iD : c_iv D (b + 33) 3 = 0 := by rw [(F.2.2.2 (b + 33) (by omega)).2.1]; exact i00
    -- the reference finds its tables
    obtain ⟨N, hN, G, g1, g2⟩ := findLines_wp RV xm xok
    have RVN := RV.fr G (by decide)
    have xmN := xm.fr G (by decide) (by decide)
    obtain ⟨u1, u2, u3, u4, u5⟩ := id RVN
    have mJ0 : mldJ N 0 = some (lN (wayT v n X n 0)) := by rw [show (0 : Int32) = nI 0 from rfl, mldJ_n (by decide), g1 0 (Nat.zero_le _)]
    rw [hN]
    simp only [WP_some, Option.bind_some, mJ0, lgc_ge, lgc_lt]
    by_cases hlt : i < wayT v n X n 0
    · have c1 : lN i < lN (wayT v n X n 0) := (pk_lLT (by omega) (by omega)).mpr hlt
      obtain ⟨lk, _⟩ := QD.f
      simp only [c1, not_true, ↓reduceIte, tcl_5, tgR_5_0, tpR_5_0, tgR_5_1, tpR_5_1, tgR_5_2, tpR_5_2, tgI_5_3, tpI_5_3, tgJ_5_4, tpJ_5_4, lk, WP_bind, WP_some, Option.bind_some]
      have t0 : wayT v n X n (sfM v n 0) = wayT v n X n 0 := sfF_tab 30 0 (fun q a c d => wayT_flat n (Nat.le_refl _) q (by omega) c d)
      have QE : LineS (sh (s_jv D (va_up (c_jv D) (b + 33) (lN i)))) (b + 33) := QD
      have FE : Fr (b + 33) (b + 33) D (s_jv D (va_up (c_jv D) (b + 33) (lN i))) := Fr.jv _ (by omega)
      have x1E := (x1.fr hb FD (by omega) (by omega)).fr (by rw [FD.1]; exact hb) FE (by omega) (by omega)
      have VE := (V.fr FD (by omega)).fr FE (by omega)
      have jE : c_jv (s_jv D (va_up (c_jv D) (b + 33) (lN i))) (b + 33) = lN i := by simp only [s_iv_1, s_iv_2, s_iv_kd, s_iv_ln, s_iv_iv, s_iv_jv, s_iv_rv, s_iv_ar, s_iv_al, s_iv_ro, s_jv_1, s_jv_2, s_jv_kd, s_jv_ln, s_jv_iv, s_jv_jv, s_jv_rv, s_jv_ar, s_jv_al, s_jv_ro, s_rv_1, s_rv_2, s_rv_kd, s_rv_ln, s_rv_iv, s_rv_jv, s_rv_rv, s_rv_ar, s_rv_al, s_rv_ro, s_ar_1, s_ar_2, s_ar_kd, s_ar_ln, s_ar_iv, s_ar_jv, s_ar_rv, s_ar_ar, s_ar_al, s_ar_ro, s_al_1, s_al_2, s_al_kd, s_al_ln, s_al_iv, s_al_jv, s_al_rv, s_al_ar, s_al_al, s_al_ro, s_ro_1, s_ro_2, s_ro_kd, s_ro_ln, s_ro_iv, s_ro_jv, s_ro_rv, s_ro_ar, s_ro_al, s_ro_ro, va_e]
      have aE : ∀ q, q ≤ n → c_al (s_jv D (va_up (c_jv D) (b + 33) (lN i))) (b + 34) q = lN (wayT v n X n q) := e2
      have iE : c_iv (s_jv D (va_up (c_jv D) (b + 33) (lN i))) (b + 33) 3 = 0 := iD
      have kE : c_kd (s_jv D (va_up (c_jv D) (b + 33) (lN i))) (b + 33) = 6 := lk
      have bE : b + 81 ≤ (s_jv D (va_up (c_jv D) (b + 33) (lN i))).1 := by show b + 81 ≤ D.1; rw [FD.1]; exact hb
      generalize s_jv D (va_up (c_jv D) (b + 33) (lN i)) = E at QE FE x1E VE jE aE iE kE bE ⊢
      simp only [tcl_5, tgR_5_0, tpR_5_0, tgR_5_1, tpR_5_1, tgR_5_2, tpR_5_2, tgI_5_3, tpI_5_3, tgJ_5_4, tpJ_5_4, kE, WP_some]
      refine WP.mono (lay0_wp (l0 := i) QE x1E xok VE (by omega) bE aE jE iE (by rw [t0]; exact hlt)) ?_
      rintro G2 ⟨FG, J, hJ, hJ1, hJ2, hJ3, hJ4⟩
      have FG' : Fr (b + 33) (b + 36) C G2 := FD.tr ((FE.mono (by omega) (by omega)).tr FG)
      have QG := QE.tr FG.2.2.1
      have StG : StS (sh G2) b := by rw [FG'.2.2.1]; exact IB.1
      obtain ⟨xk, xr0, xr1, xr2, xr3, xr4, xr6, xr7, xr8, xr9, xr10, xr11⟩ := StG.x
      obtain ⟨lk, _⟩ := QG.f
      simp only [tcl_12, tgR_12_0, tpR_12_0, tgR_12_1, tpR_12_1, tgR_12_2, tpR_12_2, tgR_12_3, tpR_12_3, tgR_12_4, tpR_12_4, tgI_12_5, tpI_12_5, tgR_12_6, tpR_12_6, tgR_12_7, tpR_12_7, tgR_12_8, tpR_12_8, tgR_12_9, tpR_12_9, tgR_12_10, tpR_12_10, tgR_12_11, tpR_12_11, tcl_5, tgR_5_0, tpR_5_0, tgR_5_1, tpR_5_1, tgR_5_2, tpR_5_2, tgI_5_3, tpI_5_3, tgJ_5_4, tpJ_5_4, xk, xr0, xr1, xr2, xr3, xr4, xr6, xr7, xr8, xr9, xr10, xr11, lk, WP_bind, WP_some, Option.bind_some, wordAt_eq QG (show J ≤ 24 by omega) hkk hJ1]
      rw [show (0 : Int32) = nI 0 from rfl, sungFrom_eq u1 u2 u3 u4 u5 (Nat.zero_le _)]
      simp only [WP_bind, WP_some, Option.bind_some]
      refine WP.mono (rlineAt_wp (l0 := i) (kk := kk) RVN xmN xok hkk g1 (by rw [t0]; exact hlt) hJ hJ2 hJ3) ?_
      have fin := I.line FG' G
      rintro r hr
      cases r with
      | inl Dq =>
        obtain ⟨rfl, h2⟩ := hr
        simp only [Sum.elim_inl, WP_some]
        exact ⟨by rw [if_neg (by omega)], fin⟩
      | inr q =>
        obtain ⟨r1, r2, r3⟩ := hr
        simp only [Sum.elim_inr, WP_some]
        rw [r1]
        exact ⟨by rw [if_pos r2, r3]; exact hJ4 kk r2, fin⟩
    · have c1 : ¬ lN i < lN (wayT v n X n 0) := cmp.mpr hlt
      simp only [c1, not_false_eq_true, ↓reduceIte, WP_some]
      obtain ⟨xk, xr0, xr1, xr2, xr3, xr4, xr6, xr7, xr8, xr9, xr10, xr11⟩ := StD.x
      obtain ⟨lk, _⟩ := QD.f
      simp only [tcl_12, tgR_12_0, tpR_12_0, tgR_12_1, tpR_12_1, tgR_12_2, tpR_12_2, tgR_12_3, tpR_12_3, tgR_12_4, tpR_12_4, tgI_12_5, tpI_12_5, tgR_12_6, tpR_12_6, tgR_12_7, tpR_12_7, tgR_12_8, tpR_12_8, tgR_12_9, tpR_12_9, tgR_12_10, tpR_12_10, tgR_12_11, tpR_12_11, tcl_5, tgR_5_0, tpR_5_0, tgR_5_1, tpR_5_1, tgR_5_2, tpR_5_2, tgI_5_3, tpI_5_3, tgJ_5_4, tpJ_5_4, xk, xr0, xr1, xr2, xr3, xr4, xr6, xr7, xr8, xr9, xr10, xr11, lk, WP_bind, WP_some, Option.bind_some, wordAt_eq (J := 0) QD (by omega) hkk iD]
      exact ⟨by rw [if_neg (Nat.not_lt_zero _)], I.line FD G⟩
  · simp only [hz, ↓reduceIte]
    exact op_same I0 _
theorem op_nearAt {b : Nat} {C : CH} {M : MS} (I : Inv b C M) (x : Int32) (z : Int32) : OP b (t_X11_nearAt b x z C) (g_X12_nearAt x z M) := by
  have I0 := I
  obtain ⟨H, S, T, bw, X, R, K, I⟩ := I
  obtain ⟨IB, _, ⟨s1, sm, sok⟩, _, _, ⟨x1, xm, xok⟩, _⟩ := id I
  obtain ⟨xk, xr0, xr1, xr2, xr3, xr4, xr6, xr7, xr8, xr9, xr10, xr11⟩ := IB.1.x
  have hb := IB.2.1
  have h6 := sok.1
  have hX := fun i hi => (xok.2 i hi).1
  have Q := IB.1.2.2.2.2.2.1
  obtain ⟨lk, _⟩ := Q.f
  unfold t_X11_nearAt g_X12_nearAt
  rw [noSong_eq sm]
  by_cases hv : x < 0 ∨ nI S.1 - 1 < x
  · simp only [hv, ↓reduceIte, i10, tcl_12, tgR_12_0, tpR_12_0, tgR_12_1, tpR_12_1, tgR_12_2, tpR_12_2, tgR_12_3, tpR_12_3, tgR_12_4, tpR_12_4, tgI_12_5, tpI_12_5, tgR_12_6, tpR_12_6, tgR_12_7, tpR_12_7, tgR_12_8, tpR_12_8, tgR_12_9, tpR_12_9, tgR_12_10, tpR_12_10, tgR_12_11, tpR_12_11, xk, Option.bind_some, (songOf_eq IB s1 x).1 hv, Option.elim]
    exact op_same I0 _
  obtain ⟨j, hj, rfl⟩ := in_n (by omega) hv
  obtain ⟨q1, q2, q3, _⟩ := s1.2 j hj
  obtain ⟨gk, gr0, _⟩ := q1.f
  simp only [hv, ↓reduceIte, tcl_12, tgR_12_0, tpR_12_0, tgR_12_1, tpR_12_1, tgR_12_2, tpR_12_2, tgR_12_3, tpR_12_3, tgR_12_4, tpR_12_4, tgI_12_5, tpI_12_5, tgR_12_6, tpR_12_6, tgR_12_7, tpR_12_7, tgR_12_8, tpR_12_8, tgR_12_9, tpR_12_9, tgR_12_10, tpR_12_10, tgR_12_11, tpR_12_11, xk, Option.bind_some, (songOf_eq IB s1 (nI j)).2 j hj h6 rfl, Option.elim]
  by_cases hz : 0 ≤ z
  · obtain ⟨kk, hkk, rfl⟩ := nI_of (x := z) (by rw [Int32.lt_iff_toInt_lt]; rw [Int32.le_iff_toInt_le] at hz; omega)
    have V := SongV.row s1 sok hj
    have RV := RSongV.ver sm sok hj
    have hn := V.2.2.1
    generalize hv1 : S.2.2.2.2.1 j = v at V RV
    generalize hn1 : S.2.2.1 j = n at V RV hn
    simp only [OP, hz, ↓reduceIte, tcl_12, tgR_12_0, tpR_12_0, tgR_12_1, tpR_12_1, tgR_12_2, tpR_12_2, tgR_12_3, tpR_12_3, tgR_12_4, tpR_12_4, tgI_12_5, tpI_12_5, tgR_12_6, tpR_12_6, tgR_12_7, tpR_12_7, tgR_12_8, tpR_12_8, tgR_12_9, tpR_12_9, tgR_12_10, tpR_12_10, tgR_12_11, tpR_12_11, tcl_8, tgR_8_0, tpR_8_0, tgR_8_1, tpR_8_1, tcl_5, tgR_5_0, tpR_5_0, tgR_5_1, tpR_5_1, tgR_5_2, tpR_5_2, tgI_5_3, tpI_5_3, tgJ_5_4, tpJ_5_4, xk, xr0, xr1, xr2, xr3, xr4, xr6, xr7, xr8, xr9, xr10, xr11, gk, gr0, lk, Option.bind_some, WP_bind, WP_some, t_X4_makeNearLine]
    have Q0 : LineS (sh (s_iv C (up2 (c_iv C) (b + 33) 3 0))) (b + 33) := Q
    have F00 : Fr (b + 33) (b + 33) C (s_iv C (up2 (c_iv C) (b + 33) 3 0)) := Fr.iv _ (by omega)
    have x10 := x1.fr hb F00 (by omega) (by omega)
    have V0 := V.fr F00 (by omega)
    have i00 : c_iv (s_iv C (up2 (c_iv C) (b + 33) 3 0)) (b + 33) 3 = 0 := by rw [iv_upd, if_pos ⟨rfl, rfl⟩]
    have hb0 : b + 81 ≤ (s_iv C (up2 (c_iv C) (b + 33) 3 0)).1 := hb
    have k00 : c_kd (s_iv C (up2 (c_iv C) (b + 33) 3 0)) (b + 33) = 6 := lk
    simp only [tcl_5, tgR_5_0, tpR_5_0, tgR_5_1, tpR_5_1, tgR_5_2, tpR_5_2, tgI_5_3, tpI_5_3, tgJ_5_4, tpJ_5_4, k00, WP_some]
    generalize s_iv C (up2 (c_iv C) (b + 33) 3 0) = C0 at Q0 F00 x10 V0 i00 hb0 k00 ⊢
    refine WP.mono (fewestWrong_wp Q0 x10 xok V0 hb0 (by omega)) ?_
    rintro ⟨w, D⟩ ⟨e1, F, e2⟩
    dsimp only at e1 F e2
    subst e1
    have FD : Fr (b + 33) (b + 36) C D := (F00.mono (by omega) (by omega)).tr (F.mono (by omega) (by omega))
    have QD := Q0.tr F.2.2.1
    have StD : StS (sh D) b := by rw [FD.2.2.1]; exact IB.1
    have iD : c_iv D (b + 33) 3 = 0 := by rw [(F.2.2.2 (b + 33) (by omega)).2.1]; exact i00
    obtain ⟨N, hN, G, g1, g2⟩ := findLines_wp RV xm xok
    have RVN := RV.fr G (by decide)
    have xmN := xm.fr G (by decide) (by decide)
    obtain ⟨u1, u2, u3, u4, u5⟩ := id RVN
    have m34 : mld N 34 0 = some (nI (wrgT v n X n 0)) := by rw [show (0 : Int32) = nI 0 from rfl, mld_n (k := 34) (by decide) (by decide), g2 0 (Nat.zero_le _)]
    rw [hN]
    simp only [WP_some, Option.bind_some, m34]
    rcases wrgT_ok (v := v) (n := n) hX n (Nat.le_refl _) 0 (by omega) (Nat.zero_le _) with h | h
    · rw [h, cI_far]
      simp only [↓reduceIte, WP_some]
      rw [if_neg (show ¬ nI 1000000000 < 1000000000 by decide)]
      obtain ⟨xk, xr0, xr1, xr2, xr3, xr4, xr6, xr7, xr8, xr9, xr10, xr11⟩ := StD.x
      obtain ⟨lk, _⟩ := QD.f
      simp only [tcl_12, tgR_12_0, tpR_12_0, tgR_12_1, tpR_12_1, tgR_12_2, tpR_12_2, tgR_12_3, tpR_12_3, tgR_12_4, tpR_12_4, tgI_12_5, tpI_12_5, tgR_12_6, tpR_12_6, tgR_12_7, tpR_12_7, tgR_12_8, tpR_12_8, tgR_12_9, tpR_12_9, tgR_12_10, tpR_12_10, tgR_12_11, tpR_12_11, tcl_5, tgR_5_0, tpR_5_0, tgR_5_1, tpR_5_1, tgR_5_2, tpR_5_2, tgI_5_3, tpI_5_3, tgJ_5_4, tpJ_5_4, xk, xr0, xr1, xr2, xr3, xr4, xr6, xr7, xr8, xr9, xr10, xr11, lk, WP_bind, WP_some, Option.bind_some, wordAt_eq (J := 0) QD (by omega) hkk iD]
      exact ⟨by rw [if_neg (Nat.not_lt_zero _)], I.line FD G⟩
    · have c9 : nI (wrgT v n X n 0) < 1000000000 := nI_lt (b := 1000000000) (by omega) (by omega)
      rw [cI_n (by omega), if_pos c9]
      obtain ⟨lk, _⟩ := QD.f
      simp only [nI_nem1 (show wrgT v n X n 0 < 2 ^ 31 by omega), ↓reduceIte, tcl_5, tgR_5_0, tpR_5_0, tgR_5_1, tpR_5_1, tgR_5_2, tpR_5_2, tgI_5_3, tpI_5_3, tgJ_5_4, tpJ_5_4, lk, WP_bind, WP_some, Option.bind_some]
      have t0 : wrgT v n X n (sfM v n 0) = wrgT v n X n 0 := sfF_tab 30 0 (fun q a c d => wrgT_flat n (Nat.le_refl _) q (by omega) c d)
      have x1E := x1.fr hb FD (by omega) (by omega)
      have VE := V.fr FD (by omega)
      refine WP.mono (lay1_wp (l0 := 0) QD x1E xok VE (by omega) (by rw [FD.1]; exact hb) e2 iD (by rw [t0]; omega)) ?_
      rintro G2 ⟨FG, J, hJ, hJ1, hJ2, hJ3, hJ4⟩
      have FG' : Fr (b + 33) (b + 36) C G2 := FD.tr FG
      have QG := QD.tr FG.2.2.1
      have StG : StS (sh G2) b := by rw [FG'.2.2.1]; exact IB.1
      obtain ⟨xk, xr0, xr1, xr2, xr3, xr4, xr6, xr7, xr8, xr9, xr10, xr11⟩ := StG.x
      obtain ⟨lk, _⟩ := QG.f
      simp only [tcl_12, tgR_12_0, tpR_12_0, tgR_12_1, tpR_12_1, tgR_12_2, tpR_12_2, tgR_12_3, tpR_12_3, tgR_12_4, tpR_12_4, tgI_12_5, tpI_12_5, tgR_12_6, tpR_12_6, tgR_12_7, tpR_12_7, tgR_12_8, tpR_12_8, tgR_12_9, tpR_12_9, tgR_12_10, tpR_12_10, tgR_12_11, tpR_12_11, tcl_5, tgR_5_0, tpR_5_0, tgR_5_1, tpR_5_1, tgR_5_2, tpR_5_2, tgI_5_3, tpI_5_3, tgJ_5_4, tpJ_5_4, xk, xr0, xr1, xr2, xr3, xr4, xr6, xr7, xr8, xr9, xr10, xr11, lk, WP_bind, WP_some, Option.bind_some, wordAt_eq QG (show J ≤ 24 by omega) hkk hJ1]
      rw [show (0 : Int32) = nI 0 from rfl, sungFrom_eq u1 u2 u3 u4 u5 (Nat.zero_le _)]
      simp only [WP_bind, WP_some, Option.bind_some]
      refine WP.mono (rnearAt_wp (kk := kk) RVN xmN xok hkk g2 (by rw [t0]; omega) hJ hJ2 hJ3) ?_
      have fin := I.line FG' G
      rintro r hr
      cases r with
      | inl Dq =>
        obtain ⟨rfl, h2⟩ := hr
        simp only [Sum.elim_inl, WP_some]
        exact ⟨by rw [if_neg (by omega)], fin⟩
      | inr q =>
        obtain ⟨r1, r2, r3⟩ := hr
        simp only [Sum.elim_inr, WP_some]
        rw [r1]
        exact ⟨by rw [if_pos r2, r3]; exact hJ4 kk r2, fin⟩
  · simp only [hz, ↓reduceIte]
    exact op_same I0 _
