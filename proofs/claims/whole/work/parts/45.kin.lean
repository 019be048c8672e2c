/-! KIN: how many changes -/
def ed (x y : Nat → Nat) : Nat → Nat → Nat
  | 0, j => j
  | i + 1, 0 => i + 1
  | i + 1, j + 1 => min (ed x y i j + (if x i = y j then 0 else 1)) (min (ed x y i (j + 1)) (ed x y (i + 1) j) + 1)
theorem ed_le (x y : Nat → Nat) : ∀ i j, ed x y i j ≤ i + j
  | 0, j => by simp [ed]
  | i + 1, 0 => by simp [ed]
  | i + 1, j + 1 => by
    have h1 := ed_le x y i (j + 1)
    have h2 := ed_le x y (i + 1) j
    unfold ed
    omega
theorem ed_z (x y : Nat → Nat) (j : Nat) : ed x y 0 j = j := by rw [ed]
theorem ed_0 (x y : Nat → Nat) (i : Nat) : ed x y i 0 = i := by cases i <;> simp [ed]
theorem ed_s (x y : Nat → Nat) (i j : Nat) : ed x y (i + 1) (j + 1) = min (ed x y i j + (if x i = y j then 0 else 1)) (min (ed x y i (j + 1)) (ed x y (i + 1) j) + 1) := by rw [ed]
theorem changes_wp {C : CH} {q f t n m : Nat} {x y : Nat → Nat} (Q : KinS (sh C) q) (F0 : RowS (sh C) f) (T0 : RowS (sh C) t) (hf : c_iv C f 1 = nI n) (ht : c_iv C t 1 = nI m) (hn : n ≤ 24) (hm : m ≤ 24) (hx : ∀ k, k < n → c_ar C (f + 1) k = nI (x k)) (hy : ∀ k, k < m → c_ar C (t + 1) k = nI (y k)) (hx3 : ∀ k, k < n → x k ≤ 3) (hy3 : ∀ k, k < m → y k ≤ 3) (sf : q + 3 < f) (st : q + 3 < t) : WP (t_X2_changes q f t C) (fun r => r.1 = nI (ed x y n m) ∧ Fr (q + 1) (q + 1) C r.2 ∧ c_iv r.2 = c_iv C) := by
  unfold t_X2_changes
  simp only [WP_bind]
  refine WP.mono (WP.it (Post := fun D => Fr (q + 1) (q + 1) C D ∧ c_iv D = c_iv C ∧ ∀ k, k ≤ m → c_ar D (q + 1) k = nI (ed x y 0 k)) (fun i s => s.1 = nI i ∧ Fr (q + 1) (q + 1) C s.2 ∧ c_iv s.2 = c_iv C ∧ ∀ k, k < i → c_ar s.2 (q + 1) k = nI (ed x y 0 k)) (m + 1) ?_ 100000 0 _ ?_ (Nat.zero_le _) (by omega)) ?_
  · rintro i ⟨y0, D⟩ hi ⟨e1, F, e2, e3⟩
    dsimp only at e1 F e2 e3
    subst e1
    obtain ⟨tk, _⟩ := (T0.tr F.2.2.1).f
    obtain ⟨qk, qr0, qk0, ql0, qr1, qk1, ql1, qr2, qk2, ql2⟩ := (Q.ag (fun a _ _ => AgS.of F.2.2.1 a)).f
    have ht' : c_iv D t 1 = nI m := by rw [e2]; exact ht
    unfold t_X2_changes_L2
    dsimp only
    simp only [tcl_7, tgR_7_0, tpR_7_0, tgI_7_1, tpI_7_1, tcl_3, tgR_3_0, tpR_3_0, tgR_3_1, tpR_3_1, tgR_3_2, tpR_3_2, tk, qk, qr0, qk0, ql0, qr1, qk1, ql1, qr2, qk2, ql2, ht', Option.bind_some]
    by_cases hlt : i ≤ m
    · rw [if_neg (nI_nlt (by omega) (by omega))]
      simp only [WP_bind]
      refine tst_wp qk0 ql0 (show i < 25 by omega) (by omega) (fun E FE iE aE => ?_)
      simp only [WP_bind, WP_some, Option.bind_some, Sum.elim_inl, Sum.elim_inr, ↓reduceIte]
      refine ⟨by omega, nI_1 i, F.tr FE, by rw [iE, e2], fun k hk => ?_⟩
      rw [aE]
      by_cases hki : k = i
      · subst hki; rw [if_pos rfl, ed_z]
      · rw [if_neg hki]; exact e3 k (by omega)
    · have hii : i = m + 1 := by omega
      subst hii
      rw [if_pos (nI_lt (by omega) (by omega))]
      simp only [WP_bind, WP_some, Option.bind_some, Sum.elim_inl, Sum.elim_inr, ↓reduceIte]
      exact ⟨F, e2, fun k hk => e3 k (by omega)⟩
  · exact ⟨rfl, Fr.rf _ _ _, rfl, fun k hk => absurd hk (Nat.not_lt_zero _)⟩
  · rintro A ⟨FA, iA, aA⟩
    refine WP.mono (WP.it (Post := fun D => Fr (q + 1) (q + 1) C D ∧ c_iv D = c_iv C ∧ ∀ k, k ≤ m → c_ar D (q + 1) k = nI (ed x y n k)) (fun i s => s.1 = nI i ∧ Fr (q + 1) (q + 1) C s.2 ∧ c_iv s.2 = c_iv C ∧ ∀ k, k ≤ m → c_ar s.2 (q + 1) k = nI (ed x y i k)) n ?_ 100000 0 _ ?_ (Nat.zero_le _) (by omega)) ?_
    · rintro i ⟨y0, D⟩ hi ⟨e1, F, e2, e3⟩
      dsimp only at e1 F e2 e3
      subst e1
      obtain ⟨fk, _⟩ := (F0.tr F.2.2.1).f
      obtain ⟨qk, qr0, qk0, ql0, qr1, qk1, ql1, qr2, qk2, ql2⟩ := (Q.ag (fun a _ _ => AgS.of F.2.2.1 a)).f
      have hf' : c_iv D f 1 = nI n := by rw [e2]; exact hf
      unfold t_X2_changes_L25
      dsimp only
      simp only [tcl_7, tgR_7_0, tpR_7_0, tgI_7_1, tpI_7_1, tcl_3, tgR_3_0, tpR_3_0, tgR_3_1, tpR_3_1, tgR_3_2, tpR_3_2, fk, qk, qr0, qk0, ql0, qr1, qk1, ql1, qr2, qk2, ql2, hf', Option.bind_some]
      by_cases hlt : i < n
      · rw [if_neg (nI_ge hlt (by omega)), show (0 : Int32) = nI 0 from rfl, tld_n qk0 (by omega) (by omega), e3 0 (Nat.zero_le _)]
        simp only [WP_bind, WP_some, Option.bind_some]
        refine tst_wp qk0 ql0 (show 0 < 25 by omega) (by omega) (fun E FE iE aE => ?_)
        -- along the other row
        refine WP.mono (WP.it (Post := fun D => Fr (q + 1) (q + 1) C D ∧ c_iv D = c_iv C ∧ ∀ k, k ≤ m → c_ar D (q + 1) k = nI (ed x y (i + 1) k)) (fun j s => s.1 = nI (ed x y i j) ∧ s.2.1 = nI j ∧ Fr (q + 1) (q + 1) C s.2.2 ∧ c_iv s.2.2 = c_iv C ∧ (∀ k, k ≤ j → c_ar s.2.2 (q + 1) k = nI (ed x y (i + 1) k)) ∧ ∀ k, j < k → k ≤ m → c_ar s.2.2 (q + 1) k = nI (ed x y i k)) m ?_ 100000 0 _ ?_ (Nat.zero_le _) (by omega)) ?_
        · rintro j ⟨c0, y1, B⟩ hj ⟨g1, g2, G, g3, g4, g5⟩
          dsimp only at g1 g2 G g3 g4 g5
          subst g1
          subst g2
          obtain ⟨fk, fr, fk0, fl0⟩ := (F0.tr G.2.2.1).f
          obtain ⟨tk, tr, tk0, tl0⟩ := (T0.tr G.2.2.1).f
          obtain ⟨qk, qr0, qk0, ql0, qr1, qk1, ql1, qr2, qk2, ql2⟩ := (Q.ag (fun a _ _ => AgS.of G.2.2.1 a)).f
          have ht' : c_iv B t 1 = nI m := by rw [g3]; exact ht
          unfold t_X2_changes_L53
          dsimp only
          simp only [tcl_7, tgR_7_0, tpR_7_0, tgI_7_1, tpI_7_1, tcl_3, tgR_3_0, tpR_3_0, tgR_3_1, tpR_3_1, tgR_3_2, tpR_3_2, tk, ht', Option.bind_some]
          by_cases hlj : j < m
          · rw [if_neg (nI_ge hlj (by omega))]
            have hxi : c_ar B (f + 1) i = nI (x i) := by rw [(G.2.2.2 (f + 1) (by omega)).1]; exact hx i hlt
            have hyj : c_ar B (t + 1) j = nI (y j) := by rw [(G.2.2.2 (t + 1) (by omega)).1]; exact hy j hlj
            have d1 : j + 1 < 25 := by omega
            have d2 : i < 24 := by omega
            have d3 : j < 24 := by omega
            simp only [tcl_7, tgR_7_0, tpR_7_0, tgI_7_1, tpI_7_1, tcl_3, tgR_3_0, tpR_3_0, tgR_3_1, tpR_3_1, tgR_3_2, tpR_3_2, Nat.reduceLT, tld_n, tst_n, tldB_n, tstB_n, tldR3_n, tldR4_n, tldJ_n, tstJ_n, tlen_I, tlen_R, qk, qr0, qk0, ql0, qr1, qk1, ql1, qr2, qk2, ql2, fk, fr, fk0, fl0, tk, tr, tk0, tl0, nI_1, d1, d2, d3, Option.bind_some, hxi, hyj, g5 (j + 1) (by omega) (by omega)]
            have hx3' := hx3 i hlt
            have hy3' := hy3 j hlj
            have b1 := ed_le x y i j
            have b2 := ed_le x y i (j + 1)
            have b3 := ed_le x y (i + 1) j
            have fin : ∀ z : Nat, z ≤ 1 → z = (if x i = y j then 0 else 1) → WP (t_X2_changes_L53_J96 q f t (nI i) (nI j) (nI (ed x y i (j + 1))) (nI z) (nI (ed x y i j)) B) (Sum.elim (fun s' => j < m ∧ s'.1 = nI (ed x y i (j + 1)) ∧ s'.2.1 = nI (j + 1) ∧ Fr (q + 1) (q + 1) C s'.2.2 ∧ c_iv s'.2.2 = c_iv C ∧ (∀ k, k ≤ j + 1 → c_ar s'.2.2 (q + 1) k = nI (ed x y (i + 1) k)) ∧ ∀ k, j + 1 < k → k ≤ m → c_ar s'.2.2 (q + 1) k = nI (ed x y i k)) (fun D => Fr (q + 1) (q + 1) C D ∧ c_iv D = c_iv C ∧ ∀ k, k ≤ m → c_ar D (q + 1) k = nI (ed x y (i + 1) k))) := by
              intro z hz1 hz2
              unfold t_X2_changes_L53_J96
              have d4 : j < 25 := by omega
              simp only [tcl_3, tgR_3_0, tpR_3_0, tgR_3_1, tpR_3_1, tgR_3_2, tpR_3_2, Nat.reduceLT, tld_n, tst_n, tldB_n, tstB_n, tldR3_n, tldR4_n, tldJ_n, tstJ_n, tlen_I, tlen_R, qk, qr0, qk0, ql0, qr1, qk1, ql1, qr2, qk2, ql2, d4, g4 j (Nat.le_refl _), Option.bind_some, nI_1, nI_add, WP_bind, WP_some]
              refine tst_wp qk0 ql0 (show j + 1 < 25 by omega) (by omega) (fun E2 FE2 iE2 aE2 => ?_)
              refine ⟨hlj, rfl, rfl, G.tr FE2, by rw [iE2, g3], fun k hk => ?_, fun k hk hk2 => ?_⟩
              · rw [aE2]
                by_cases hkj : k = j + 1
                · subst hkj
                  rw [if_pos rfl, ed_s, ← hz2]
                  have e5 : (if nI (ed x y (i + 1) j) < nI (ed x y i (j + 1)) then nI (ed x y (i + 1) j) else nI (ed x y i (j + 1))) = nI (min (ed x y i (j + 1)) (ed x y (i + 1) j)) := by
                    by_cases hmn : ed x y (i + 1) j < ed x y i (j + 1)
                    · rw [if_pos (nI_lt hmn (by omega))]; congr 1; omega
                    · rw [if_neg (nI_nlt (by omega) (by omega))]; congr 1; omega
                  rw [e5, nI_1]
                  by_cases hmn : min (ed x y i (j + 1)) (ed x y (i + 1) j) + 1 < ed x y i j + z
                  · rw [if_pos (nI_lt hmn (by omega))]; congr 1; omega
                  · rw [if_neg (nI_nlt (by omega) (by omega))]; congr 1; omega
                · rw [if_neg hkj]; exact g4 k (by omega)
              · rw [aE2, if_neg (by omega)]; exact g5 k (by omega) hk2
            by_cases hxy : x i = y j
            · rw [if_pos (by rw [hxy])]
              exact fin 0 (by omega) (by rw [if_pos hxy])
            · rw [if_neg (fun z => hxy ((nI_eq (by omega) (by omega)).mp z))]
              exact fin 1 (by omega) (by rw [if_neg hxy])
          · have hjj : j = m := by omega
            subst hjj
            rw [if_pos (nI_le (by omega) (by omega))]
            simp only [WP_bind, WP_some, Option.bind_some, Sum.elim_inl, Sum.elim_inr, ↓reduceIte]
            exact ⟨G, g3, g4⟩
        · refine ⟨rfl, rfl, F.tr FE, by rw [iE, e2], fun k hk => ?_, fun k hk hk2 => ?_⟩
          · have hk0 : k = 0 := by omega
            subst hk0
            rw [aE, if_pos rfl, nI_1, ed_0]
          · rw [aE, if_neg (by omega)]; exact e3 k hk2
        · rintro B ⟨G, g3, g4⟩
          simp only [WP_bind, WP_some, Option.bind_some, Sum.elim_inl, Sum.elim_inr, ↓reduceIte]
          exact ⟨hlt, nI_1 i, G, g3, g4⟩
      · have hii : i = n := by omega
        subst hii
        rw [if_pos (nI_le (by omega) (by omega))]
        simp only [WP_bind, WP_some, Option.bind_some, Sum.elim_inl, Sum.elim_inr, ↓reduceIte]
        exact ⟨F, e2, e3⟩
    · exact ⟨rfl, FA, iA, aA⟩
    · rintro D ⟨F, e2, e3⟩
      obtain ⟨tk, _⟩ := (T0.tr F.2.2.1).f
      obtain ⟨qk, qr0, qk0, ql0, qr1, qk1, ql1, qr2, qk2, ql2⟩ := (Q.ag (fun a _ _ => AgS.of F.2.2.1 a)).f
      have ht' : c_iv D t 1 = nI m := by rw [e2]; exact ht
      have d1 : m < 25 := by omega
      simp only [WP_bind, WP_some, Option.bind_some, tcl_7, tgR_7_0, tpR_7_0, tgI_7_1, tpI_7_1, tcl_3, tgR_3_0, tpR_3_0, tgR_3_1, tpR_3_1, tgR_3_2, tpR_3_2, Nat.reduceLT, tld_n, tst_n, tldB_n, tstB_n, tldR3_n, tldR4_n, tldJ_n, tstJ_n, tlen_I, tlen_R, tk, qk, qr0, qk0, ql0, qr1, qk1, ql1, qr2, qk2, ql2, ht', d1, e3 m (Nat.le_refl _)]
      exact ⟨trivial, F, e2⟩
theorem ix25 (d i : Nat) : 25 * nI d + nI i = nI (25 * d + i) := by rw [show (25 : Int32) = nI 25 from rfl, nI_mulI, nI_add]
theorem apartBy1_wp {M : MS} {s o n m : Nat} {x y : Nat → Nat} (hs : s < 6) (ho : o < 6) (h1 : M.2.2.1 1 s = nI n) (h2 : M.2.2.1 1 o = nI m) (hn : n ≤ 24) (hm : m ≤ 24) (hx : ∀ k, k < n → M.2.2.1 3 (24 * s + k) = nI (x k)) (hy : ∀ k, k < m → M.2.2.1 3 (24 * o + k) = nI (y k)) (hx3 : ∀ k, k < n → x k ≤ 3) (hy3 : ∀ k, k < m → y k ≤ 3) : WP (g_X12_apartBy 1 (nI s) (nI o) M) (fun q => q.1 = nI (ed x y n m) ∧ FM [] [43] M q.2) := by
  unfold g_X12_apartBy g_X12_apartBy_J19 g_X12_apartBy_J40
  simp only [i10, ↓reduceIte]
  rw [mld_n (k := 1) (show s < 6 from hs) (by decide), mld_n (k := 1) (show o < 6 from ho) (by decide), h1, h2]
  simp only [WP_bind, WP_some, Option.bind_some]
  refine WP.mono (WP.it (Post := fun N => FM [] [43] M N ∧ ∀ i, i ≤ n → ∀ j, j ≤ m → N.2.2.1 43 (25 * i + j) = nI (ed x y i j)) (fun i a => a.1 = nI i ∧ FM [] [43] M a.2 ∧ ∀ i', i' < i → ∀ j, j ≤ m → a.2.2.2.1 43 (25 * i' + j) = nI (ed x y i' j)) (n + 1) ?_ 100000 0 _ ?_ (Nat.zero_le _) (by omega)) ?_
  · rintro i ⟨y0, N⟩ hi ⟨e1, F, e3⟩
    dsimp only at e1 F e3
    subst e1
    unfold g_X12_apartBy_L45
    dsimp only
    by_cases hlt : i ≤ n
    · rw [if_neg (nI_nlt (by omega) (by omega))]
      simp only [WP_bind, WP_some]
      refine WP.mono (WP.it (Post := fun N => FM [] [43] M N ∧ (∀ i', i' < i → ∀ j, j ≤ m → N.2.2.1 43 (25 * i' + j) = nI (ed x y i' j)) ∧ ∀ j, j ≤ m → N.2.2.1 43 (25 * i + j) = nI (ed x y i j)) (fun j a => a.1 = nI j ∧ FM [] [43] M a.2 ∧ (∀ i', i' < i → ∀ j, j ≤ m → a.2.2.2.1 43 (25 * i' + j) = nI (ed x y i' j)) ∧ ∀ j', j' < j → a.2.2.2.1 43 (25 * i + j') = nI (ed x y i j')) (m + 1) ?_ 100000 0 _ ?_ (Nat.zero_le _) (by omega)) ?_
      · rintro j ⟨y1, B⟩ hj ⟨g1, G, g3, g4⟩
        dsimp only at g1 G g3 g4
        subst g1
        unfold g_X12_apartBy_L55
        dsimp only
        by_cases hlj : j ≤ m
        · rw [if_neg (nI_nlt (by omega) (by omega))]
          have fin : ∀ z : Int32, z = nI (ed x y i j) → WP (g_X12_apartBy_L55_J258 1 (nI s) (nI o) (nI n) (nI m) (nI i) (nI j) z B) (Sum.elim (fun a => j < m + 1 ∧ a.1 = nI (j + 1) ∧ FM [] [43] M a.2 ∧ (∀ i', i' < i → ∀ j, j ≤ m → a.2.2.2.1 43 (25 * i' + j) = nI (ed x y i' j)) ∧ ∀ j', j' < j + 1 → a.2.2.2.1 43 (25 * i + j') = nI (ed x y i j')) (fun N => FM [] [43] M N ∧ (∀ i', i' < i → ∀ j, j ≤ m → N.2.2.1 43 (25 * i' + j) = nI (ed x y i' j)) ∧ ∀ j, j ≤ m → N.2.2.1 43 (25 * i + j) = nI (ed x y i j))) := by
            rintro z rfl
            unfold g_X12_apartBy_L55_J258
            simp only [WP_bind, WP_some, ix25]
            refine mst_wp rfl (show 25 * i + j < 650 by omega) (by decide) (fun B2 G2 i2 r2 => ?_)
            refine ⟨by omega, nI_1 j, G.tr G2, fun i' hi' j' hj' => ?_, fun j' hj' => ?_⟩
            · rw [r2, if_neg (by omega)]; exact g3 i' hi' j' hj'
            · rw [r2]
              by_cases hjj : j' = j
              · subst hjj; rw [if_pos rfl]
              · rw [if_neg (by omega)]; exact g4 j' (by omega)
          by_cases hi0 : i = 0
          · rw [if_pos (show nI i ≤ 0 by rw [hi0]; decide)]
            exact fin _ (by rw [nI_add, hi0, Nat.zero_add, ed_z])
          · rw [if_neg (nI_nle (by omega) (by omega))]
            by_cases hj0 : j = 0
            · rw [if_pos (show nI j ≤ 0 by rw [hj0]; decide)]
              exact fin _ (by rw [nI_add, hj0, Nat.add_zero, ed_0])
            · rw [if_neg (nI_nle (by omega) (by omega))]
              obtain ⟨i, rfl⟩ : ∃ i', i = i' + 1 := ⟨i - 1, by omega⟩
              obtain ⟨j, rfl⟩ : ∃ j', j = j' + 1 := ⟨j - 1, by omega⟩
              have p1 : 24 * nI s + nI (i + 1) - 1 = nI (24 * s + i) := by rw [ix24, show 24 * s + (i + 1) = (24 * s + i) + 1 by omega, nI_pred]
              have p2 : 24 * nI o + nI (j + 1) - 1 = nI (24 * o + j) := by rw [ix24, show 24 * o + (j + 1) = (24 * o + j) + 1 by omega, nI_pred]
              have p3 : 25 * (nI (i + 1) - 1) + nI (j + 1) - 1 = nI (25 * i + j) := by rw [nI_pred, ix25, show 25 * i + (j + 1) = (25 * i + j) + 1 by omega, nI_pred]
              have p4 : 25 * (nI (i + 1) - 1) + nI (j + 1) = nI (25 * i + (j + 1)) := by rw [nI_pred, ix25]
              have p5 : 25 * nI (i + 1) + nI (j + 1) - 1 = nI (25 * (i + 1) + j) := by rw [ix25, show 25 * (i + 1) + (j + 1) = (25 * (i + 1) + j) + 1 by omega, nI_pred]
              have hxi : B.2.2.1 3 (24 * s + i) = nI (x i) := by rw [G.2 3 (by decide)]; exact hx i (by omega)
              have hyj : B.2.2.1 3 (24 * o + j) = nI (y j) := by rw [G.2 3 (by decide)]; exact hy j (by omega)
              have hx3' := hx3 i (by omega)
              have hy3' := hy3 j (by omega)
              have b1 := ed_le x y i j
              have b2 := ed_le x y i (j + 1)
              have b3 := ed_le x y (i + 1) j
              have m1 : mld B 43 (nI (25 * i + j)) = some (nI (ed x y i j)) := by rw [mld_n (k := 43) (show 25 * i + j < 650 by omega) (by decide), g3 i (by omega) j (by omega)]
              have m2 : mld B 43 (nI (25 * i + (j + 1))) = some (nI (ed x y i (j + 1))) := by rw [mld_n (k := 43) (show 25 * i + (j + 1) < 650 by omega) (by decide), g3 i (by omega) (j + 1) (by omega)]
              have m3 : mld B 43 (nI (25 * (i + 1) + j)) = some (nI (ed x y (i + 1) j)) := by rw [mld_n (k := 43) (show 25 * (i + 1) + j < 650 by omega) (by decide), g4 j (by omega)]
              have m4 : mld B 3 (nI (24 * s + i)) = some (nI (x i)) := by rw [mld_n (k := 3) (show 24 * s + i < 144 by omega) (by decide), hxi]
              have m5 : mld B 3 (nI (24 * o + j)) = some (nI (y j)) := by rw [mld_n (k := 3) (show 24 * o + j < 144 by omega) (by decide), hyj]
              have fin2 : ∀ z : Nat, z ≤ 1 → z = (if x i = y j then 0 else 1) → WP (g_X12_apartBy_L55_J182 1 (nI s) (nI o) (nI n) (nI m) (nI (i + 1)) (nI (j + 1)) (nI z) (nI (ed x y i j)) B) (Sum.elim (fun a => j + 1 < m + 1 ∧ a.1 = nI (j + 1 + 1) ∧ FM [] [43] M a.2 ∧ (∀ i', i' < i + 1 → ∀ j, j ≤ m → a.2.2.2.1 43 (25 * i' + j) = nI (ed x y i' j)) ∧ ∀ j', j' < j + 1 + 1 → a.2.2.2.1 43 (25 * (i + 1) + j') = nI (ed x y (i + 1) j')) (fun N => FM [] [43] M N ∧ (∀ i', i' < i + 1 → ∀ j, j ≤ m → N.2.2.1 43 (25 * i' + j) = nI (ed x y i' j)) ∧ ∀ j, j ≤ m → N.2.2.1 43 (25 * (i + 1) + j) = nI (ed x y (i + 1) j))) := by
                intro z hz1 hz2
                unfold g_X12_apartBy_L55_J182
                have hbit : g_X12_bit (nI z) B = some (nI z, B) := by
                  unfold g_X12_bit
                  by_cases hz0 : z = 0
                  · subst hz0; rfl
                  · have : z = 1 := by omega
                    subst this; rfl
                simp only [hbit, Option.bind_some, p4, p5, m2, m3, nI_1, nI_add]
                have last : ∀ w : Nat, min (ed x y i j + z) (ed x y i (j + 1) + 1) = w → WP (g_X12_apartBy_L55_J240 1 (nI s) (nI o) (nI n) (nI m) (nI (i + 1)) (nI (j + 1)) (nI (ed x y (i + 1) j + 1)) (nI w) B) (Sum.elim (fun a => j + 1 < m + 1 ∧ a.1 = nI (j + 1 + 1) ∧ FM [] [43] M a.2 ∧ (∀ i', i' < i + 1 → ∀ j, j ≤ m → a.2.2.2.1 43 (25 * i' + j) = nI (ed x y i' j)) ∧ ∀ j', j' < j + 1 + 1 → a.2.2.2.1 43 (25 * (i + 1) + j') = nI (ed x y (i + 1) j')) (fun N => FM [] [43] M N ∧ (∀ i', i' < i + 1 → ∀ j, j ≤ m → N.2.2.1 43 (25 * i' + j) = nI (ed x y i' j)) ∧ ∀ j, j ≤ m → N.2.2.1 43 (25 * (i + 1) + j) = nI (ed x y (i + 1) j))) := by
                  intro w hw
                  unfold g_X12_apartBy_L55_J240 g_X12_apartBy_L55_J256
                  have key : min w (ed x y (i + 1) j + 1) = ed x y (i + 1) (j + 1) := by rw [ed_s, ← hz2]; omega
                  by_cases hc : w ≤ ed x y (i + 1) j + 1
                  · rw [if_pos (nI_le hc (by omega))]
                    exact fin _ (by rw [← key]; congr 1; omega)
                  · rw [if_neg (nI_ge (by omega) (by omega))]
                    exact fin _ (by rw [← key]; congr 1; omega)
                by_cases hc : ed x y i (j + 1) + 1 ≤ ed x y i j + z
                · rw [if_pos (nI_le hc (by omega))]
                  exact last _ (by omega)
                · rw [if_neg (nI_ge (by omega) (by omega))]
                  exact last _ (by omega)
              rw [if_neg (show ¬ (1 : Int32) = 0 by decide)]
              simp only [p1, m4, Option.bind_some, g_X12_apartBy_L55_J114]
              rw [if_neg (show ¬ (1 : Int32) = 0 by decide)]
              simp only [p2, m5, Option.bind_some, g_X12_apartBy_L55_J151, p3, m1]
              by_cases hxy : x i = y j
              · rw [if_pos (show nI (x i) = nI (y j) by rw [hxy])]
                exact fin2 0 (by omega) (by rw [if_pos hxy])
              · rw [if_neg (show ¬ nI (x i) = nI (y j) from fun z => hxy ((nI_eq (by omega) (by omega)).mp z))]
                exact fin2 1 (by omega) (by rw [if_neg hxy])
        · have hjj : j = m + 1 := by omega
          subst hjj
          rw [if_pos (nI_lt (by omega) (by omega))]
          simp only [WP_bind, WP_some, Option.bind_some, Sum.elim_inl, Sum.elim_inr, ↓reduceIte]
          exact ⟨G, g3, fun j' hj' => g4 j' (by omega)⟩
      · exact ⟨rfl, F, e3, fun j' hj' => absurd hj' (Nat.not_lt_zero _)⟩
      · rintro B ⟨G, g3, g4⟩
        simp only [WP_bind, WP_some, Option.bind_some, Sum.elim_inl, Sum.elim_inr, ↓reduceIte]
        refine ⟨by omega, nI_1 i, G, fun i' hi' j hj => ?_⟩
        by_cases hii : i' = i
        · subst hii; exact g4 j hj
        · exact g3 i' (by omega) j hj
    · have hii : i = n + 1 := by omega
      subst hii
      rw [if_pos (nI_lt (by omega) (by omega))]
      simp only [WP_bind, WP_some, Option.bind_some, Sum.elim_inl, Sum.elim_inr, ↓reduceIte]
      exact ⟨F, fun i hi j hj => e3 i (by omega) j hj⟩
  · exact ⟨rfl, FM.rf _ _ _, fun i' hi' => absurd hi' (Nat.not_lt_zero _)⟩
  · rintro N ⟨F, e3⟩
    rw [ix25, mld_n (k := 43) (show 25 * n + m < 650 by omega) (by decide), e3 n (Nat.le_refl _) m (Nat.le_refl _)]
    exact WP.ret ⟨rfl, F⟩
theorem apartBy0_wp {M : MS} {s o n m : Nat} {x y : Nat → Nat} (hs : s < 6) (ho : o < 6) (h1 : M.2.2.1 2 s = nI n) (h2 : M.2.2.1 2 o = nI m) (hn : n ≤ 12) (hm : m ≤ 12) (hx : ∀ k, k < n → M.2.2.1 4 (12 * s + k) = nI (x k)) (hy : ∀ k, k < m → M.2.2.1 4 (12 * o + k) = nI (y k)) (hx3 : ∀ k, k < n → x k ≤ 3) (hy3 : ∀ k, k < m → y k ≤ 3) : WP (g_X12_apartBy 0 (nI s) (nI o) M) (fun q => q.1 = nI (ed x y n m) ∧ FM [] [43] M q.2) := by
  unfold g_X12_apartBy g_X12_apartBy_J19 g_X12_apartBy_J40
  simp only [↓reduceIte]
  rw [mld_n (k := 2) (show s < 6 from hs) (by decide), mld_n (k := 2) (show o < 6 from ho) (by decide), h1, h2]
  simp only [WP_bind, WP_some, Option.bind_some]
  refine WP.mono (WP.it (Post := fun N => FM [] [43] M N ∧ ∀ i, i ≤ n → ∀ j, j ≤ m → N.2.2.1 43 (25 * i + j) = nI (ed x y i j)) (fun i a => a.1 = nI i ∧ FM [] [43] M a.2 ∧ ∀ i', i' < i → ∀ j, j ≤ m → a.2.2.2.1 43 (25 * i' + j) = nI (ed x y i' j)) (n + 1) ?_ 100000 0 _ ?_ (Nat.zero_le _) (by omega)) ?_
  · rintro i ⟨y0, N⟩ hi ⟨e1, F, e3⟩
    dsimp only at e1 F e3
    subst e1
    unfold g_X12_apartBy_L45
    dsimp only
    by_cases hlt : i ≤ n
    · rw [if_neg (nI_nlt (by omega) (by omega))]
      simp only [WP_bind, WP_some]
      refine WP.mono (WP.it (Post := fun N => FM [] [43] M N ∧ (∀ i', i' < i → ∀ j, j ≤ m → N.2.2.1 43 (25 * i' + j) = nI (ed x y i' j)) ∧ ∀ j, j ≤ m → N.2.2.1 43 (25 * i + j) = nI (ed x y i j)) (fun j a => a.1 = nI j ∧ FM [] [43] M a.2 ∧ (∀ i', i' < i → ∀ j, j ≤ m → a.2.2.2.1 43 (25 * i' + j) = nI (ed x y i' j)) ∧ ∀ j', j' < j → a.2.2.2.1 43 (25 * i + j') = nI (ed x y i j')) (m + 1) ?_ 100000 0 _ ?_ (Nat.zero_le _) (by omega)) ?_
      · rintro j ⟨y1, B⟩ hj ⟨g1, G, g3, g4⟩
        dsimp only at g1 G g3 g4
        subst g1
        unfold g_X12_apartBy_L55
        dsimp only
        by_cases hlj : j ≤ m
        · rw [if_neg (nI_nlt (by omega) (by omega))]
          have fin : ∀ z : Int32, z = nI (ed x y i j) → WP (g_X12_apartBy_L55_J258 0 (nI s) (nI o) (nI n) (nI m) (nI i) (nI j) z B) (Sum.elim (fun a => j < m + 1 ∧ a.1 = nI (j + 1) ∧ FM [] [43] M a.2 ∧ (∀ i', i' < i → ∀ j, j ≤ m → a.2.2.2.1 43 (25 * i' + j) = nI (ed x y i' j)) ∧ ∀ j', j' < j + 1 → a.2.2.2.1 43 (25 * i + j') = nI (ed x y i j')) (fun N => FM [] [43] M N ∧ (∀ i', i' < i → ∀ j, j ≤ m → N.2.2.1 43 (25 * i' + j) = nI (ed x y i' j)) ∧ ∀ j, j ≤ m → N.2.2.1 43 (25 * i + j) = nI (ed x y i j))) := by
            rintro z rfl
            unfold g_X12_apartBy_L55_J258
            simp only [WP_bind, WP_some, ix25]
            refine mst_wp rfl (show 25 * i + j < 650 by omega) (by decide) (fun B2 G2 i2 r2 => ?_)
            refine ⟨by omega, nI_1 j, G.tr G2, fun i' hi' j' hj' => ?_, fun j' hj' => ?_⟩
            · rw [r2, if_neg (by omega)]; exact g3 i' hi' j' hj'
            · rw [r2]
              by_cases hjj : j' = j
              · subst hjj; rw [if_pos rfl]
              · rw [if_neg (by omega)]; exact g4 j' (by omega)
          by_cases hi0 : i = 0
          · rw [if_pos (show nI i ≤ 0 by rw [hi0]; decide)]
            exact fin _ (by rw [nI_add, hi0, Nat.zero_add, ed_z])
          · rw [if_neg (nI_nle (by omega) (by omega))]
            by_cases hj0 : j = 0
            · rw [if_pos (show nI j ≤ 0 by rw [hj0]; decide)]
              exact fin _ (by rw [nI_add, hj0, Nat.add_zero, ed_0])
            · rw [if_neg (nI_nle (by omega) (by omega))]
              obtain ⟨i, rfl⟩ : ∃ i', i = i' + 1 := ⟨i - 1, by omega⟩
              obtain ⟨j, rfl⟩ : ∃ j', j = j' + 1 := ⟨j - 1, by omega⟩
              have p1 : 12 * nI s + nI (i + 1) - 1 = nI (12 * s + i) := by rw [ix12, show 12 * s + (i + 1) = (12 * s + i) + 1 by omega, nI_pred]
              have p2 : 12 * nI o + nI (j + 1) - 1 = nI (12 * o + j) := by rw [ix12, show 12 * o + (j + 1) = (12 * o + j) + 1 by omega, nI_pred]
              have p3 : 25 * (nI (i + 1) - 1) + nI (j + 1) - 1 = nI (25 * i + j) := by rw [nI_pred, ix25, show 25 * i + (j + 1) = (25 * i + j) + 1 by omega, nI_pred]
              have p4 : 25 * (nI (i + 1) - 1) + nI (j + 1) = nI (25 * i + (j + 1)) := by rw [nI_pred, ix25]
              have p5 : 25 * nI (i + 1) + nI (j + 1) - 1 = nI (25 * (i + 1) + j) := by rw [ix25, show 25 * (i + 1) + (j + 1) = (25 * (i + 1) + j) + 1 by omega, nI_pred]
              have hxi : B.2.2.1 4 (12 * s + i) = nI (x i) := by rw [G.2 4 (by decide)]; exact hx i (by omega)
              have hyj : B.2.2.1 4 (12 * o + j) = nI (y j) := by rw [G.2 4 (by decide)]; exact hy j (by omega)
              have hx3' := hx3 i (by omega)
              have hy3' := hy3 j (by omega)
              have b1 := ed_le x y i j
              have b2 := ed_le x y i (j + 1)
              have b3 := ed_le x y (i + 1) j
              have m1 : mld B 43 (nI (25 * i + j)) = some (nI (ed x y i j)) := by rw [mld_n (k := 43) (show 25 * i + j < 650 by omega) (by decide), g3 i (by omega) j (by omega)]
              have m2 : mld B 43 (nI (25 * i + (j + 1))) = some (nI (ed x y i (j + 1))) := by rw [mld_n (k := 43) (show 25 * i + (j + 1) < 650 by omega) (by decide), g3 i (by omega) (j + 1) (by omega)]
              have m3 : mld B 43 (nI (25 * (i + 1) + j)) = some (nI (ed x y (i + 1) j)) := by rw [mld_n (k := 43) (show 25 * (i + 1) + j < 650 by omega) (by decide), g4 j (by omega)]
              have m4 : mld B 4 (nI (12 * s + i)) = some (nI (x i)) := by rw [mld_n (k := 4) (show 12 * s + i < 72 by omega) (by decide), hxi]
              have m5 : mld B 4 (nI (12 * o + j)) = some (nI (y j)) := by rw [mld_n (k := 4) (show 12 * o + j < 72 by omega) (by decide), hyj]
              have fin2 : ∀ z : Nat, z ≤ 1 → z = (if x i = y j then 0 else 1) → WP (g_X12_apartBy_L55_J182 0 (nI s) (nI o) (nI n) (nI m) (nI (i + 1)) (nI (j + 1)) (nI z) (nI (ed x y i j)) B) (Sum.elim (fun a => j + 1 < m + 1 ∧ a.1 = nI (j + 1 + 1) ∧ FM [] [43] M a.2 ∧ (∀ i', i' < i + 1 → ∀ j, j ≤ m → a.2.2.2.1 43 (25 * i' + j) = nI (ed x y i' j)) ∧ ∀ j', j' < j + 1 + 1 → a.2.2.2.1 43 (25 * (i + 1) + j') = nI (ed x y (i + 1) j')) (fun N => FM [] [43] M N ∧ (∀ i', i' < i + 1 → ∀ j, j ≤ m → N.2.2.1 43 (25 * i' + j) = nI (ed x y i' j)) ∧ ∀ j, j ≤ m → N.2.2.1 43 (25 * (i + 1) + j) = nI (ed x y (i + 1) j))) := by
                intro z hz1 hz2
                unfold g_X12_apartBy_L55_J182
                have hbit : g_X12_bit (nI z) B = some (nI z, B) := by
                  unfold g_X12_bit
                  by_cases hz0 : z = 0
                  · subst hz0; rfl
                  · have : z = 1 := by omega
                    subst this; rfl
                simp only [hbit, Option.bind_some, p4, p5, m2, m3, nI_1, nI_add]
                have last : ∀ w : Nat, min (ed x y i j + z) (ed x y i (j + 1) + 1) = w → WP (g_X12_apartBy_L55_J240 0 (nI s) (nI o) (nI n) (nI m) (nI (i + 1)) (nI (j + 1)) (nI (ed x y (i + 1) j + 1)) (nI w) B) (Sum.elim (fun a => j + 1 < m + 1 ∧ a.1 = nI (j + 1 + 1) ∧ FM [] [43] M a.2 ∧ (∀ i', i' < i + 1 → ∀ j, j ≤ m → a.2.2.2.1 43 (25 * i' + j) = nI (ed x y i' j)) ∧ ∀ j', j' < j + 1 + 1 → a.2.2.2.1 43 (25 * (i + 1) + j') = nI (ed x y (i + 1) j')) (fun N => FM [] [43] M N ∧ (∀ i', i' < i + 1 → ∀ j, j ≤ m → N.2.2.1 43 (25 * i' + j) = nI (ed x y i' j)) ∧ ∀ j, j ≤ m → N.2.2.1 43 (25 * (i + 1) + j) = nI (ed x y (i + 1) j))) := by
                  intro w hw
                  unfold g_X12_apartBy_L55_J240 g_X12_apartBy_L55_J256
                  have key : min w (ed x y (i + 1) j + 1) = ed x y (i + 1) (j + 1) := by rw [ed_s, ← hz2]; omega
                  by_cases hc : w ≤ ed x y (i + 1) j + 1
                  · rw [if_pos (nI_le hc (by omega))]
                    exact fin _ (by rw [← key]; congr 1; omega)
                  · rw [if_neg (nI_ge (by omega) (by omega))]
                    exact fin _ (by rw [← key]; congr 1; omega)
                by_cases hc : ed x y i (j + 1) + 1 ≤ ed x y i j + z
                · rw [if_pos (nI_le hc (by omega))]
                  exact last _ (by omega)
                · rw [if_neg (nI_ge (by omega) (by omega))]
                  exact last _ (by omega)
              simp only [↓reduceIte]
              simp only [p1, m4, Option.bind_some, g_X12_apartBy_L55_J114]
              simp only [↓reduceIte]
              simp only [p2, m5, Option.bind_some, g_X12_apartBy_L55_J151, p3, m1]
              by_cases hxy : x i = y j
              · rw [if_pos (show nI (x i) = nI (y j) by rw [hxy])]
                exact fin2 0 (by omega) (by rw [if_pos hxy])
              · rw [if_neg (show ¬ nI (x i) = nI (y j) from fun z => hxy ((nI_eq (by omega) (by omega)).mp z))]
                exact fin2 1 (by omega) (by rw [if_neg hxy])
        · have hjj : j = m + 1 := by omega
          subst hjj
          rw [if_pos (nI_lt (by omega) (by omega))]
          simp only [WP_bind, WP_some, Option.bind_some, Sum.elim_inl, Sum.elim_inr, ↓reduceIte]
          exact ⟨G, g3, fun j' hj' => g4 j' (by omega)⟩
      · exact ⟨rfl, F, e3, fun j' hj' => absurd hj' (Nat.not_lt_zero _)⟩
      · rintro B ⟨G, g3, g4⟩
        simp only [WP_bind, WP_some, Option.bind_some, Sum.elim_inl, Sum.elim_inr, ↓reduceIte]
        refine ⟨by omega, nI_1 i, G, fun i' hi' j hj => ?_⟩
        by_cases hii : i' = i
        · subst hii; exact g4 j hj
        · exact g3 i' (by omega) j hj
    · have hii : i = n + 1 := by omega
      subst hii
      rw [if_pos (nI_lt (by omega) (by omega))]
      simp only [WP_bind, WP_some, Option.bind_some, Sum.elim_inl, Sum.elim_inr, ↓reduceIte]
      exact ⟨F, fun i hi j hj => e3 i (by omega) j hj⟩
  · exact ⟨rfl, FM.rf _ _ _, fun i' hi' => absurd hi' (Nat.not_lt_zero _)⟩
  · rintro N ⟨F, e3⟩
    rw [ix25, mld_n (k := 43) (show 25 * n + m < 650 by omega) (by decide), e3 n (Nat.le_refl _) m (Nat.le_refl _)]
    exact WP.ret ⟨rfl, F⟩
