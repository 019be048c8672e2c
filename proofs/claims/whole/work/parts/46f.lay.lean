/-! the line is laid -/
theorem counted_wp {C : CH} {b o n p left : Nat} {v : Nat → Nat} {X : WX} (Q : LineS (sh C) (b + 33)) (x1 : WordsC b X C) (xok : WordsOk X) (V : RowV C o n v) (ho : b + 81 ≤ o) (hb : b + 81 ≤ C.1) (hp : p < n) (hT : ∀ q, q ≤ n → c_al C (b + 34) q = lN (wayT v n X n q)) (hJ : c_jv C (b + 33) = lN left) (hl : left < 2 ^ 62) (hg : left < preS v n X (wayT v n X n) p X.1) : WP (t_X4_countedWord (b + 33) o (b + 32) (nI p) C) (fun r => r.1 = nI (chC v n X p left).1 ∧ Fr (b + 33) (b + 33) C r.2 ∧ c_iv r.2 = c_iv C ∧ c_jv r.2 (b + 33) = lN (chC v n X p left).2) := by
  have hn := V.2.2.1
  have hx12 := xok.1
  obtain ⟨w1, w2, w3⟩ := cwF_spec hg
  obtain ⟨w4, w5⟩ := cwF_perf hg
  unfold t_X4_countedWord
  simp only [WP_bind]
  refine WP.mono (WP.it (Post := fun x => Sum.elim (fun _ => False) (fun q => q.1 = nI (chC v n X p left).1 ∧ Fr (b + 33) (b + 33) C q.2 ∧ c_iv q.2 = c_iv C ∧ c_jv q.2 (b + 33) = lN (chC v n X p left).2) x) (fun i s => i ≤ cwF v n X (wayT v n X n) p left ∧ s.1 = nI i ∧ Fr (b + 33) (b + 33) C s.2 ∧ c_iv s.2 = c_iv C ∧ c_jv s.2 (b + 33) = lN (left - preS v n X (wayT v n X n) p i)) X.1 ?_ 100000 0 _ ⟨Nat.zero_le _, rfl, Fr.rf _ _ _, rfl, hJ⟩ (Nat.zero_le _) (by omega)) ?_
  · rintro i ⟨y, D⟩ hi ⟨e0, e1, F, e2, e3⟩
    dsimp only at e1 F e2 e3
    subst e1
    have Q' := Q.tr F.2.2.1
    have V' := V.fr F (by omega)
    have x1' := x1.fr hb F (by omega) (by omega)
    obtain ⟨lk, lr0, lk0, ll0, lr1, lk1, ll1, lr2, lk2, ll2⟩ := Q'.f
    have kl := x1'.1.1
    have hlt : i < X.1 := by omega
    obtain ⟨W, _⟩ := x1'.2 i hlt
    obtain ⟨o1, o2, o3⟩ := xok.2 i hlt
    unfold t_X4_countedWord_L3
    dsimp only
    simp only [tcl_0, tgI_0_0, tpI_0_0, tgR_0_1, tpR_0_1, tgI_0_2, tpI_0_2, tcl_11, tgI_11_0, tpI_11_0, tgI_11_1, tpI_11_1, kl, sizeL_eq, x1'.1.2.1, Option.bind_some]
    rw [if_neg (nI_ge hlt (by omega))]
    simp only [tcl_0, tgI_0_0, tpI_0_0, tgR_0_1, tpR_0_1, tgI_0_2, tpI_0_2, tcl_11, tgI_11_0, tpI_11_0, tgI_11_1, tpI_11_1, kl, get_eq x1'.1 hlt, W.1, Option.bind_some, wrongIf_eq W V' ⟨o1, o2⟩ o3 (show p ≤ 24 by omega)]
    have hpre : preS v n X (wayT v n X n) p (i + 1) = preS v n X (wayT v n X n) p i + (if wrM v n p (X.2.2.1 i) (X.2.2.2 i) = some 0 then wayT v n X n (p + X.2.2.1 i) else 0) := rfl
    have hmi : preS v n X (wayT v n X n) p i ≤ left := Nat.le_trans (preS_mono e0) w2
    by_cases hw : wrM v n p (X.2.2.1 i) (X.2.2.2 i) = some 0
    · obtain ⟨_, h2⟩ := wrM_le hw
      rw [hw, if_pos (show wI (some 0) = 0 from rfl)]
      rw [if_pos hw] at hpre
      have d1 : p + X.2.2.1 i < 25 := by omega
      have ht : c_al D (b + 33 + 1) (p + X.2.2.1 i) = lN (wayT v n X n (p + X.2.2.1 i)) := by
        have h9 := (F.2.2.2 (b + 34) (by omega)).2.2.1
        show c_al D (b + 34) _ = _
        rw [h9]; exact hT _ h2
      have h6 := wayT_le v n X n (p + X.2.2.1 i)
      simp only [tcl_5, tgR_5_0, tpR_5_0, tgR_5_1, tpR_5_1, tgR_5_2, tpR_5_2, tgI_5_3, tpI_5_3, tgJ_5_4, tpJ_5_4, tcl_11, tgI_11_0, tpI_11_0, tgI_11_1, tpI_11_1, Nat.reduceLT, tld_n, tst_n, tldB_n, tstB_n, tldR3_n, tldR4_n, tldJ_n, tstJ_n, tlen_I, tlen_R, lk, lr0, lk0, ll0, lr1, lk1, ll1, lr2, lk2, ll2, W.1, W.2.1, nI_add, d1, Option.bind_some, ht, e3, lgc_ge]
      by_cases hlt2 : left - preS v n X (wayT v n X n) p i < wayT v n X n (p + X.2.2.1 i)
      · have c1 : ¬ ¬ lN (left - preS v n X (wayT v n X n) p i) < lN (wayT v n X n (p + X.2.2.1 i)) := fun z => z ((pk_lLT (by omega) (by omega)).mpr hlt2)
        rw [if_neg c1]
        have hiw : i = cwF v n X (wayT v n X n) p left := by
          by_cases hiw : i = cwF v n X (wayT v n X n) p left
          · exact hiw
          · exfalso
            have h7 : preS v n X (wayT v n X n) p (i + 1) ≤ preS v n X (wayT v n X n) p (cwF v n X (wayT v n X n) p left) := preS_mono (by omega)
            omega
        simp only [WP_bind, WP_some, Option.bind_some, Sum.elim_inl, Sum.elim_inr, ↓reduceIte]
        refine ⟨by rw [hiw]; rfl, F, e2, ?_⟩
        rw [e3, hiw]
        rfl
      · have c1 : ¬ lN (left - preS v n X (wayT v n X n) p i) < lN (wayT v n X n (p + X.2.2.1 i)) := fun z => hlt2 ((pk_lLT (by omega) (by omega)).mp z)
        rw [if_pos c1]
        have hiw : i ≠ cwF v n X (wayT v n X n) p left := fun z => hlt2 (by rw [z]; exact w5)
        simp only [tcl_5, tgR_5_0, tpR_5_0, tgR_5_1, tpR_5_1, tgR_5_2, tpR_5_2, tgI_5_3, tpI_5_3, tgJ_5_4, tpJ_5_4, lk, lr0, lk0, ll0, lr1, lk1, ll1, lr2, lk2, ll2, Option.bind_some, e3, WP_bind, WP_some, Option.bind_some, Sum.elim_inl, Sum.elim_inr, ↓reduceIte, lN_sub (show wayT v n X n (p + X.2.2.1 i) ≤ left - preS v n X (wayT v n X n) p i by omega)]
        refine ⟨hlt, by omega, nI_1 i, F.tr (Fr.jv _ (by omega)), e2, ?_⟩
        simp only [s_iv_1, s_iv_2, s_iv_kd, s_iv_ln, s_iv_iv, s_iv_jv, s_iv_rv, s_iv_ar, s_iv_al, s_iv_ro, s_jv_1, s_jv_2, s_jv_kd, s_jv_ln, s_jv_iv, s_jv_jv, s_jv_rv, s_jv_ar, s_jv_al, s_jv_ro, s_rv_1, s_rv_2, s_rv_kd, s_rv_ln, s_rv_iv, s_rv_jv, s_rv_rv, s_rv_ar, s_rv_al, s_rv_ro, s_ar_1, s_ar_2, s_ar_kd, s_ar_ln, s_ar_iv, s_ar_jv, s_ar_rv, s_ar_ar, s_ar_al, s_ar_ro, s_al_1, s_al_2, s_al_kd, s_al_ln, s_al_iv, s_al_jv, s_al_rv, s_al_ar, s_al_al, s_al_ro, s_ro_1, s_ro_2, s_ro_kd, s_ro_ln, s_ro_iv, s_ro_jv, s_ro_rv, s_ro_ar, s_ro_al, s_ro_ro, va_e]
        congr 1
        omega
    · rw [if_neg hw] at hpre
      have hnw : ¬ wI (wrM v n p (X.2.2.1 i) (X.2.2.2 i)) = 0 := by
        cases hw2 : wrM v n p (X.2.2.1 i) (X.2.2.2 i) with
        | none => decide
        | some c =>
          obtain ⟨h1, _⟩ := wrM_le hw2
          exact nI_ne0 (by
            by_cases hc : c = 0
            · rw [hw2, hc] at hw; exact absurd rfl hw
            · omega) (by omega)
      rw [if_neg hnw]
      have hiw : i ≠ cwF v n X (wayT v n X n) p left := fun z => hw (by rw [z]; exact w4)
      simp only [WP_bind, WP_some, Option.bind_some, Sum.elim_inl, Sum.elim_inr, ↓reduceIte]
      refine ⟨hlt, by omega, nI_1 i, F, e2, ?_⟩
      rw [e3, hpre, Nat.add_zero]
  · rintro x h
    cases x with
    | inl D => exact h.elim
    | inr q => exact WP.ret h
theorem near_wp {C : CH} {b o n p left : Nat} {v : Nat → Nat} {X : WX} (Q : LineS (sh C) (b + 33)) (x1 : WordsC b X C) (xok : WordsOk X) (V : RowV C o n v) (hp : p < n) (hs : sg (v p) = true) (hT : ∀ q, q ≤ n → c_ar C (b + 35) q = cI (wrgT v n X n q)) (hg : wrgT v n X n p ≠ 1000000000) : t_X4_nearWord (b + 33) o (b + 32) (nI p) C = some (nI (chN v n X p left).1, C) := by
  have hn := V.2.2.1
  have hx12 := xok.1
  have hX := fun i hi => (xok.2 i hi).1
  obtain ⟨w1, w2, w3⟩ := nwF_spec hX hp hs hg
  obtain ⟨lk, lr0, lk0, ll0, lr1, lk1, ll1, lr2, lk2, ll2⟩ := Q.f
  have kl := x1.1.1
  have hT2 : ∀ q, p < q → q ≤ n → wrgT v n X n q = 1000000000 ∨ wrgT v n X n q ≤ n - q := fun q a c => wrgT_ok (v := v) (n := n) hX n (Nat.le_refl _) q (by omega) c
  have hup := wrgT_ok (v := v) (n := n) hX n (Nat.le_refl _) p (by omega) (by omega)
  have key : WP (iter (t_X4_nearWord_L3 (b + 33) o (b + 32) (nI p)) 100000 (0, C)) (fun x => Sum.elim (fun _ => False) (fun q => q = (nI (nwF v n X (wrgT v n X n) p), C)) x) := by
    refine WP.it (fun i s => i ≤ nwF v n X (wrgT v n X n) p ∧ s = (nI i, C)) X.1 ?_ 100000 0 _ ⟨Nat.zero_le _, rfl⟩ (Nat.zero_le _) (by omega)
    rintro i s hi ⟨e0, rfl⟩
    have hlt : i < X.1 := by omega
    obtain ⟨W, _⟩ := x1.2 i hlt
    obtain ⟨o1, o2, o3⟩ := xok.2 i hlt
    unfold t_X4_nearWord_L3
    dsimp only
    have d1 : p < 25 := by omega
    have hup2 : c_ar C (b + 33 + 2) p = cI (wrgT v n X n p) := hT p (by omega)
    simp only [tcl_0, tgI_0_0, tpI_0_0, tgR_0_1, tpR_0_1, tgI_0_2, tpI_0_2, kl, sizeL_eq, x1.1.2.1, Option.bind_some]
    rw [if_neg (nI_ge hlt (by omega))]
    simp only [tcl_0, tgI_0_0, tpI_0_0, tgR_0_1, tpR_0_1, tgI_0_2, tpI_0_2, tcl_11, tgI_11_0, tpI_11_0, tgI_11_1, tpI_11_1, tcl_5, tgR_5_0, tpR_5_0, tgR_5_1, tpR_5_1, tgR_5_2, tpR_5_2, tgI_5_3, tpI_5_3, tgJ_5_4, tpJ_5_4, Nat.reduceLT, tld_n, tst_n, tldB_n, tstB_n, tldR3_n, tldR4_n, tldJ_n, tstJ_n, tlen_I, tlen_R, lk, lr0, lk0, ll0, lr1, lk1, ll1, lr2, lk2, ll2, kl, get_eq x1.1 hlt, W.1, Option.bind_some, wrongWith_eq (T := wrgT v n X n) Q W V ⟨o1, o2⟩ o3 hp (fun q a c => hT q c) hT2, d1, hup2]
    rw [cI_n (show wrgT v n X n p < 1000 by omega)]
    have hnp : (wrM v n p (X.2.2.1 i) (X.2.2.2 i)).elim (-1) (fun c => if wrgT v n X n (p + X.2.2.1 i) = 1000000000 then -1 else nI (c + wrgT v n X n (p + X.2.2.1 i))) = nI (wrgT v n X n p) ↔ nearP v n X (wrgT v n X n) p i = true := by
      unfold nearP
      cases hw : wrM v n p (X.2.2.1 i) (X.2.2.2 i) with
      | none =>
        simp only [Option.elim]
        constructor
        · intro h; exact absurd h.symm (nI_nem1 (by omega))
        · intro h; cases h
      | some c =>
        obtain ⟨h1, h2⟩ := wrM_le hw
        simp only [Option.elim]
        rcases hT2 (p + X.2.2.1 i) (by omega) h2 with h3 | h3
        · rw [if_pos h3]
          constructor
          · intro h; exact absurd h.symm (nI_nem1 (by omega))
          · intro h
            have : c + wrgT v n X n (p + X.2.2.1 i) = wrgT v n X n p := by simpa using h
            omega
        · rw [if_neg (by omega), nI_eq (by omega) (by omega)]
          simp
    by_cases hnear : nearP v n X (wrgT v n X n) p i = true
    · rw [if_pos (hnp.mpr hnear)]
      have hiw : i = nwF v n X (wrgT v n X n) p := by
        by_cases hiw : i = nwF v n X (wrgT v n X n) p
        · exact hiw
        · rw [w3 i (by omega)] at hnear; exact absurd hnear (by decide)
      simp only [WP_bind, WP_some, Option.bind_some, Sum.elim_inl, Sum.elim_inr, ↓reduceIte]
      rw [hiw]
    · rw [if_neg (fun z => hnear (hnp.mp z))]
      have hiw : i ≠ nwF v n X (wrgT v n X n) p := fun z => hnear (by rw [z]; exact w2)
      simp only [WP_bind, WP_some, Option.bind_some, Sum.elim_inl, Sum.elim_inr, ↓reduceIte]
      exact ⟨hlt, by omega, by rw [nI_1]⟩
  obtain ⟨x, h4, h5⟩ := key
  unfold t_X4_nearWord
  rw [h4]
  cases x with
  | inl D => exact h5.elim
  | inr q =>
    have h5' : q = (nI (nwF v n X (wrgT v n X n) p), C) := h5
    subst h5'
    rfl
theorem lay0_wp {C : CH} {b o n l0 : Nat} {v : Nat → Nat} {X : WX} (Q : LineS (sh C) (b + 33)) (x1 : WordsC b X C) (xok : WordsOk X) (V : RowV C o n v) (ho : b + 81 ≤ o) (hb : b + 81 ≤ C.1) (hT : ∀ q, q ≤ n → c_al C (b + 34) q = lN (wayT v n X n q)) (hJ : c_jv C (b + 33) = lN l0) (h3 : c_iv C (b + 33) 3 = 0) (h0 : l0 < wayT v n X n (sfM v n 0)) : WP (t_X4_lay (b + 33) o (b + 32) 0 C) (fun D => Fr (b + 33) (b + 36) C D ∧ ∃ J, J ≤ n ∧ c_iv D (b + 33) 3 = nI J ∧ (sqF v n X (chC v n X) l0 J).1 = n ∧ (∀ i, i < J → (sqF v n X (chC v n X) l0 i).1 < n) ∧ ∀ i, i < J → c_ar D (b + 36) i = nI (chC v n X (sqF v n X (chC v n X) l0 i).1 (sqF v n X (chC v n X) l0 i).2).1) := by
  have hn := V.2.2.1
  have hX := fun i hi => (xok.2 i hi).1
  have hx12 := xok.1
  have good := sqF_good (l0 := l0) hn (chC_ok hX) h0
  unfold t_X4_lay
  simp only [WP_bind]
  refine WP.mono (WP.it (Post := fun x => Sum.elim (fun D => Fr (b + 33) (b + 36) C D ∧ ∃ J, J ≤ n ∧ c_iv D (b + 33) 3 = nI J ∧ (sqF v n X (chC v n X) l0 J).1 = n ∧ (∀ i, i < J → (sqF v n X (chC v n X) l0 i).1 < n) ∧ ∀ i, i < J → c_ar D (b + 36) i = nI (chC v n X (sqF v n X (chC v n X) l0 i).1 (sqF v n X (chC v n X) l0 i).2).1) (fun _ => False) x) (fun t s => s.2.1 = nI t ∧ Fr (b + 33) (b + 36) C s.2.2 ∧ (∀ q, q ≤ n → c_al s.2.2 (b + 34) q = lN (wayT v n X n q)) ∧ ∃ j nx, s.1 = nI nx ∧ nx ≤ n ∧ j ≤ t ∧ c_iv s.2.2 (b + 33) 3 = nI j ∧ (sqF v n X (chC v n X) l0 j).1 = sfM v n (max t nx) ∧ c_jv s.2.2 (b + 33) = lN (sqF v n X (chC v n X) l0 j).2 ∧ (∀ i, i < j → (sqF v n X (chC v n X) l0 i).1 < n) ∧ ∀ i, i < j → c_ar s.2.2 (b + 36) i = nI (chC v n X (sqF v n X (chC v n X) l0 i).1 (sqF v n X (chC v n X) l0 i).2).1) n ?_ 100000 0 _ ⟨rfl, Fr.rf _ _ _, hT, 0, 0, rfl, Nat.zero_le _, Nat.le_refl _, h3, rfl , hJ, fun i hi => absurd hi (Nat.not_lt_zero _), fun i hi => absurd hi (Nat.not_lt_zero _)⟩ (Nat.zero_le _) (by omega)) ?_
  · rintro t ⟨nx0, t0, D⟩ ht ⟨e1, F, e2, j, nx, e3, e4, e5, e6, e7 , ej, e8, e9⟩
    dsimp only at e1 F e2 e3 e6 e9
    subst e1
    subst e3
    have Q' := Q.tr F.2.2.1
    have V' := V.fr F (by omega)
    have x1' := x1.fr hb F (by omega) (by omega)
    obtain ⟨lk, lr0, lk0, ll0, lr1, lk1, ll1, lr2, lk2, ll2⟩ := Q'.f
    obtain ⟨wk, wr0, wk0, wl0⟩ := V'.1.f
    have kl := x1'.1.1
    unfold t_X4_lay_L6
    dsimp only
    simp only [tcl_7, tgR_7_0, tpR_7_0, tgI_7_1, tpI_7_1, wk, wr0, wk0, wl0, V'.2.1, Option.bind_some]
    by_cases hlt : t < n
    · rw [if_neg (nI_ge hlt (by omega))]
      simp only [tcl_5, tgR_5_0, tpR_5_0, tgR_5_1, tpR_5_1, tgR_5_2, tpR_5_2, tgI_5_3, tpI_5_3, tgJ_5_4, tpJ_5_4, Nat.reduceLT, tld_n, tst_n, tldB_n, tstB_n, tldR3_n, tldR4_n, tldJ_n, tstJ_n, tlen_I, tlen_R, lk, lr0, lk0, ll0, lr1, lk1, ll1, lr2, lk2, ll2, e6, Option.bind_some]
      rw [if_neg (nI_ge (show j < 24 by omega) (by omega))]
      by_cases hnx : t < nx
      · rw [if_pos (nI_lt hnx (by omega))]
        simp only [WP_bind, WP_some, Option.bind_some, Sum.elim_inl, Sum.elim_inr, ↓reduceIte]
        exact ⟨hlt, nI_1 t, F, e2, j, nx, rfl, e4, by omega, e6, by rw [e7]; congr 1; omega , ej, e8, e9⟩
      · rw [if_neg (nI_nlt (by omega) (by omega))]
        have d1 : t < 24 := by omega
        have hv3 := V.2.2.2.2 t hlt
        simp only [tcl_7, tgR_7_0, tpR_7_0, tgI_7_1, tpI_7_1, Nat.reduceLT, tld_n, tst_n, tldB_n, tstB_n, tldR3_n, tldR4_n, tldJ_n, tstJ_n, tlen_I, tlen_R, wk, wr0, wk0, wl0, d1, Option.bind_some, V'.2.2.2.1 t hlt, silent_eq hv3]
        rw [show max t nx = t by omega] at e7
        by_cases hsg : sg (v t) = true
        · rw [sfM_e (Or.inr hsg)] at e7
          obtain ⟨g1, g2, g3⟩ := good j
          rw [e7] at g1 g3
          have gs := g3 hlt
          obtain ⟨k1, k2, k3⟩ := (chC_ok hX) t (sqF v n X (chC v n X) l0 j).2 hlt gs g1
          have hsq : sqF v n X (chC v n X) l0 (j + 1) = (sfM v n (t + X.2.2.1 (chC v n X t (sqF v n X (chC v n X) l0 j).2).1), (chC v n X t (sqF v n X (chC v n X) l0 j).2).2) := by
            show (if _ then _ else _) = _
            rw [e7, if_pos hlt]
          obtain ⟨o1, o2, o3⟩ := xok.2 _ k1
          simp only [hsg, ↓reduceIte, tcl_5, tgR_5_0, tpR_5_0, tgR_5_1, tpR_5_1, tgR_5_2, tpR_5_2, tgI_5_3, tpI_5_3, tgJ_5_4, tpJ_5_4, lk, lr0, lk0, ll0, lr1, lk1, ll1, lr2, lk2, ll2, Option.bind_some]
          -- behind the choice
          have fin : ∀ E : CH, Fr (b + 33) (b + 33) D E → c_iv E = c_iv D → c_jv E (b + 33) = lN (chC v n X t (sqF v n X (chC v n X) l0 j).2).2 → WP (t_X4_lay_L6_J73 (b + 33) o (b + 32) 0 (nI t) (nI (chC v n X t (sqF v n X (chC v n X) l0 j).2).1) E) (Sum.elim (fun s => t < n ∧ s.2.1 = nI (t + 1) ∧ Fr (b + 33) (b + 36) C s.2.2 ∧ (∀ q, q ≤ n → c_al s.2.2 (b + 34) q = lN (wayT v n X n q)) ∧ ∃ j nx, s.1 = nI nx ∧ nx ≤ n ∧ j ≤ t + 1 ∧ c_iv s.2.2 (b + 33) 3 = nI j ∧ (sqF v n X (chC v n X) l0 j).1 = sfM v n (max (t + 1) nx) ∧ c_jv s.2.2 (b + 33) = lN (sqF v n X (chC v n X) l0 j).2 ∧ (∀ i, i < j → (sqF v n X (chC v n X) l0 i).1 < n) ∧ ∀ i, i < j → c_ar s.2.2 (b + 36) i = nI (chC v n X (sqF v n X (chC v n X) l0 i).1 (sqF v n X (chC v n X) l0 i).2).1) (fun x => Sum.elim (fun D => Fr (b + 33) (b + 36) C D ∧ ∃ J, J ≤ n ∧ c_iv D (b + 33) 3 = nI J ∧ (sqF v n X (chC v n X) l0 J).1 = n ∧ (∀ i, i < J → (sqF v n X (chC v n X) l0 i).1 < n) ∧ ∀ i, i < J → c_ar D (b + 36) i = nI (chC v n X (sqF v n X (chC v n X) l0 i).1 (sqF v n X (chC v n X) l0 i).2).1) (fun _ => False) x)) := by
            intro E FE iE jE
            have x1E := x1'.fr (by rw [F.1]; exact hb) FE (by omega) (by omega)
            have QE := Q'.tr FE.2.2.1
            obtain ⟨lk, lr0, lk0, ll0, lr1, lk1, ll1, lr2, lk2, ll2⟩ := QE.f
            obtain ⟨W, _⟩ := x1E.2 _ k1
            unfold t_X4_lay_L6_J73
            rw [if_neg (nI_nem1 (by omega))]
            have e6E : c_iv E (b + 33) 3 = nI j := by rw [iE]; exact e6
            simp only [WP_bind, WP_some, Option.bind_some, tcl_5, tgR_5_0, tpR_5_0, tgR_5_1, tpR_5_1, tgR_5_2, tpR_5_2, tgI_5_3, tpI_5_3, tgJ_5_4, tpJ_5_4, lk, lr0, lk0, ll0, lr1, lk1, ll1, lr2, lk2, ll2, e6E]
            refine tst_wp lk2 ll2 (show j < 24 by omega) (by omega) (fun G FG iG aG => ?_)
            have FG' : Fr (b + 36) (b + 36) E G := FG
            have aG' : ∀ h, c_ar G (b + 36) h = if h = j then nI (chC v n X t (sqF v n X (chC v n X) l0 j).2).1 else c_ar E (b + 36) h := aG
            obtain ⟨lk, _⟩ := (QE.tr FG.2.2.1).f
            have x1G := x1E.fr (by rw [FE.1, F.1]; exact hb) FG' (by omega) (by omega)
            have klG := x1G.1.1
            have agZ : ∀ a, a ≠ b + 33 → Agr G (s_iv G (up2 (c_iv G) (b + 33) 3 (nI j + 1))) a := fun a ha => (Fr.iv (lo := b + 33) (hi := b + 33) _ (by omega)).ag (by omega)
            have FZ : Fr (b + 33) (b + 36) C (s_iv G (up2 (c_iv G) (b + 33) 3 (nI j + 1))) := F.tr ((FE.mono (by omega) (by omega)).tr ((FG'.mono (by omega) (by omega)).tr (Fr.iv _ (by omega))))
            have x1Z := x1.fr hb FZ (by omega) (by omega)
            obtain ⟨WZ, _⟩ := x1Z.2 _ k1
            have klZ := x1Z.1.1
            have i6 : c_iv G (b + 33) 3 = nI j := by rw [iG]; exact e6E
            simp only [WP_bind, WP_some, Option.bind_some, tcl_5, tgR_5_0, tpR_5_0, tgR_5_1, tpR_5_1, tgR_5_2, tpR_5_2, tgI_5_3, tpI_5_3, tgJ_5_4, tpJ_5_4, tcl_0, tgI_0_0, tpI_0_0, tgR_0_1, tpR_0_1, tgI_0_2, tpI_0_2, lk, i6, klZ]
            rw [get_eq x1Z.1 k1]
            simp only [WP_bind, WP_some, Option.bind_some, tcl_11, tgI_11_0, tpI_11_0, tgI_11_1, tpI_11_1, WZ.1, WZ.2.1, nI_add]
            refine ⟨hlt, nI_1 t, FZ, ?_, j + 1, t + X.2.2.1 (chC v n X t (sqF v n X (chC v n X) l0 j).2).1, rfl, k2, by omega, ?_, ?_ , ?_, fun i hi => ?_, fun i hi => ?_⟩
            · show ∀ q, q ≤ n → c_al G (b + 34) q = _
              rw [(FG'.2.2.2 (b + 34) (by omega)).2.2.1, (FE.2.2.2 (b + 34) (by omega)).2.2.1]
              exact e2
            · simp only [s_iv_1, s_iv_2, s_iv_kd, s_iv_ln, s_iv_iv, s_iv_jv, s_iv_rv, s_iv_ar, s_iv_al, s_iv_ro, s_jv_1, s_jv_2, s_jv_kd, s_jv_ln, s_jv_iv, s_jv_jv, s_jv_rv, s_jv_ar, s_jv_al, s_jv_ro, s_rv_1, s_rv_2, s_rv_kd, s_rv_ln, s_rv_iv, s_rv_jv, s_rv_rv, s_rv_ar, s_rv_al, s_rv_ro, s_ar_1, s_ar_2, s_ar_kd, s_ar_ln, s_ar_iv, s_ar_jv, s_ar_rv, s_ar_ar, s_ar_al, s_ar_ro, s_al_1, s_al_2, s_al_kd, s_al_ln, s_al_iv, s_al_jv, s_al_rv, s_al_ar, s_al_al, s_al_ro, s_ro_1, s_ro_2, s_ro_kd, s_ro_ln, s_ro_iv, s_ro_jv, s_ro_rv, s_ro_ar, s_ro_al, s_ro_ro]; rw [up2_e, nI_1]
            · rw [hsq]
              show sfM v n _ = sfM v n _
              congr 1
              omega
            · rw [hsq]
              show c_jv G (b + 33) = _
              rw [(FG'.2.2.2 (b + 33) (by omega)).2.2.2]
              exact jE
            · by_cases hij : i = j
              · subst hij; rw [e7]; exact hlt
              · exact e8 i (by omega)
            · show c_ar G (b + 36) i = _
              rw [aG']
              by_cases hij : i = j
              · subst hij; rw [if_pos rfl, e7]
              · rw [if_neg hij, (FE.2.2.2 (b + 36) (by omega)).1]; exact e9 i (by omega)
          have g1' := g1
          have hle := wayT_le v n X n t
          rw [wayT_sung hX hlt gs] at g1'
          have hgp : (sqF v n X (chC v n X) l0 j).2 < preS v n X (wayT v n X n) t X.1 := Nat.lt_of_lt_of_le g1' (waySum_pre v n X _ t X.1)
          simp only [WP_bind]
          refine WP.mono (counted_wp (left := (sqF v n X (chC v n X) l0 j).2) Q' x1' xok V' ho (by rw [F.1]; exact hb) hlt e2 ej (by have g9 : (sqF v n X (chC v n X) l0 j).2 < wayT v n X n t := g1; omega) hgp) ?_
          rintro ⟨z, E⟩ ⟨z1, z2, z3, z4⟩
          dsimp only at z1 z2 z3 z4 ⊢
          rw [z1]
          exact fin E z2 z3 z4
        · have hsg' : sg (v t) = false := by simpa using hsg
          simp only [hsg, ↓reduceIte, Bool.false_eq_true, i10, WP_bind, WP_some, Option.bind_some, Sum.elim_inl, Sum.elim_inr, ↓reduceIte]
          exact ⟨hlt, nI_1 t, F, e2, j, nx, rfl, e4, by omega, e6, by rw [e7, sfM_s hn hlt hsg']; congr 1; omega , ej, e8, e9⟩
    · have htn : t = n := by omega
      subst htn
      rw [if_pos (nI_le (by omega) (by omega))]
      simp only [WP_bind, WP_some, Option.bind_some, Sum.elim_inl, Sum.elim_inr, ↓reduceIte]
      refine ⟨F, j, e5, e6, ?_, e8, e9⟩
      rw [e7, sfM_e (Or.inl (by omega))]
      omega
  · rintro x h
    cases x with
    | inl D => exact WP.ret h
    | inr D => exact h.elim
theorem lay1_wp {C : CH} {b o n l0 : Nat} {v : Nat → Nat} {X : WX} (Q : LineS (sh C) (b + 33)) (x1 : WordsC b X C) (xok : WordsOk X) (V : RowV C o n v) (ho : b + 81 ≤ o) (hb : b + 81 ≤ C.1) (hT : ∀ q, q ≤ n → c_ar C (b + 35) q = cI (wrgT v n X n q)) (h3 : c_iv C (b + 33) 3 = 0) (h0 : wrgT v n X n (sfM v n 0) ≠ 1000000000) : WP (t_X4_lay (b + 33) o (b + 32) 1 C) (fun D => Fr (b + 33) (b + 36) C D ∧ ∃ J, J ≤ n ∧ c_iv D (b + 33) 3 = nI J ∧ (sqF v n X (chN v n X) l0 J).1 = n ∧ (∀ i, i < J → (sqF v n X (chN v n X) l0 i).1 < n) ∧ ∀ i, i < J → c_ar D (b + 36) i = nI (chN v n X (sqF v n X (chN v n X) l0 i).1 (sqF v n X (chN v n X) l0 i).2).1) := by
  have hn := V.2.2.1
  have hX := fun i hi => (xok.2 i hi).1
  have hx12 := xok.1
  have good := sqF_good (l0 := l0) hn (chN_ok hn hX) h0
  unfold t_X4_lay
  simp only [WP_bind]
  refine WP.mono (WP.it (Post := fun x => Sum.elim (fun D => Fr (b + 33) (b + 36) C D ∧ ∃ J, J ≤ n ∧ c_iv D (b + 33) 3 = nI J ∧ (sqF v n X (chN v n X) l0 J).1 = n ∧ (∀ i, i < J → (sqF v n X (chN v n X) l0 i).1 < n) ∧ ∀ i, i < J → c_ar D (b + 36) i = nI (chN v n X (sqF v n X (chN v n X) l0 i).1 (sqF v n X (chN v n X) l0 i).2).1) (fun _ => False) x) (fun t s => s.2.1 = nI t ∧ Fr (b + 33) (b + 36) C s.2.2 ∧ (∀ q, q ≤ n → c_ar s.2.2 (b + 35) q = cI (wrgT v n X n q)) ∧ ∃ j nx, s.1 = nI nx ∧ nx ≤ n ∧ j ≤ t ∧ c_iv s.2.2 (b + 33) 3 = nI j ∧ (sqF v n X (chN v n X) l0 j).1 = sfM v n (max t nx)  ∧ (∀ i, i < j → (sqF v n X (chN v n X) l0 i).1 < n) ∧ ∀ i, i < j → c_ar s.2.2 (b + 36) i = nI (chN v n X (sqF v n X (chN v n X) l0 i).1 (sqF v n X (chN v n X) l0 i).2).1) n ?_ 100000 0 _ ⟨rfl, Fr.rf _ _ _, hT, 0, 0, rfl, Nat.zero_le _, Nat.le_refl _, h3, rfl , fun i hi => absurd hi (Nat.not_lt_zero _), fun i hi => absurd hi (Nat.not_lt_zero _)⟩ (Nat.zero_le _) (by omega)) ?_
  · rintro t ⟨nx0, t0, D⟩ ht ⟨e1, F, e2, j, nx, e3, e4, e5, e6, e7 , e8, e9⟩
    dsimp only at e1 F e2 e3 e6 e9
    subst e1
    subst e3
    have Q' := Q.tr F.2.2.1
    have V' := V.fr F (by omega)
    have x1' := x1.fr hb F (by omega) (by omega)
    obtain ⟨lk, lr0, lk0, ll0, lr1, lk1, ll1, lr2, lk2, ll2⟩ := Q'.f
    obtain ⟨wk, wr0, wk0, wl0⟩ := V'.1.f
    have kl := x1'.1.1
    unfold t_X4_lay_L6
    dsimp only
    simp only [tcl_7, tgR_7_0, tpR_7_0, tgI_7_1, tpI_7_1, wk, wr0, wk0, wl0, V'.2.1, Option.bind_some]
    by_cases hlt : t < n
    · rw [if_neg (nI_ge hlt (by omega))]
      simp only [tcl_5, tgR_5_0, tpR_5_0, tgR_5_1, tpR_5_1, tgR_5_2, tpR_5_2, tgI_5_3, tpI_5_3, tgJ_5_4, tpJ_5_4, Nat.reduceLT, tld_n, tst_n, tldB_n, tstB_n, tldR3_n, tldR4_n, tldJ_n, tstJ_n, tlen_I, tlen_R, lk, lr0, lk0, ll0, lr1, lk1, ll1, lr2, lk2, ll2, e6, Option.bind_some]
      rw [if_neg (nI_ge (show j < 24 by omega) (by omega))]
      by_cases hnx : t < nx
      · rw [if_pos (nI_lt hnx (by omega))]
        simp only [WP_bind, WP_some, Option.bind_some, Sum.elim_inl, Sum.elim_inr, ↓reduceIte]
        exact ⟨hlt, nI_1 t, F, e2, j, nx, rfl, e4, by omega, e6, by rw [e7]; congr 1; omega , e8, e9⟩
      · rw [if_neg (nI_nlt (by omega) (by omega))]
        have d1 : t < 24 := by omega
        have hv3 := V.2.2.2.2 t hlt
        simp only [tcl_7, tgR_7_0, tpR_7_0, tgI_7_1, tpI_7_1, Nat.reduceLT, tld_n, tst_n, tldB_n, tstB_n, tldR3_n, tldR4_n, tldJ_n, tstJ_n, tlen_I, tlen_R, wk, wr0, wk0, wl0, d1, Option.bind_some, V'.2.2.2.1 t hlt, silent_eq hv3]
        rw [show max t nx = t by omega] at e7
        by_cases hsg : sg (v t) = true
        · rw [sfM_e (Or.inr hsg)] at e7
          obtain ⟨g1, g2, g3⟩ := good j
          rw [e7] at g1 g3
          have gs := g3 hlt
          obtain ⟨k1, k2, k3⟩ := (chN_ok hn hX) t (sqF v n X (chN v n X) l0 j).2 hlt gs g1
          have hsq : sqF v n X (chN v n X) l0 (j + 1) = (sfM v n (t + X.2.2.1 (chN v n X t (sqF v n X (chN v n X) l0 j).2).1), (chN v n X t (sqF v n X (chN v n X) l0 j).2).2) := by
            show (if _ then _ else _) = _
            rw [e7, if_pos hlt]
          obtain ⟨o1, o2, o3⟩ := xok.2 _ k1
          simp only [hsg, ↓reduceIte, i10, tcl_5, tgR_5_0, tpR_5_0, tgR_5_1, tpR_5_1, tgR_5_2, tpR_5_2, tgI_5_3, tpI_5_3, tgJ_5_4, tpJ_5_4, lk, lr0, lk0, ll0, lr1, lk1, ll1, lr2, lk2, ll2, Option.bind_some]
          -- behind the choice
          have fin : ∀ E : CH, Fr (b + 33) (b + 33) D E → c_iv E = c_iv D →  WP (t_X4_lay_L6_J73 (b + 33) o (b + 32) 1 (nI t) (nI (chN v n X t (sqF v n X (chN v n X) l0 j).2).1) E) (Sum.elim (fun s => t < n ∧ s.2.1 = nI (t + 1) ∧ Fr (b + 33) (b + 36) C s.2.2 ∧ (∀ q, q ≤ n → c_ar s.2.2 (b + 35) q = cI (wrgT v n X n q)) ∧ ∃ j nx, s.1 = nI nx ∧ nx ≤ n ∧ j ≤ t + 1 ∧ c_iv s.2.2 (b + 33) 3 = nI j ∧ (sqF v n X (chN v n X) l0 j).1 = sfM v n (max (t + 1) nx)  ∧ (∀ i, i < j → (sqF v n X (chN v n X) l0 i).1 < n) ∧ ∀ i, i < j → c_ar s.2.2 (b + 36) i = nI (chN v n X (sqF v n X (chN v n X) l0 i).1 (sqF v n X (chN v n X) l0 i).2).1) (fun x => Sum.elim (fun D => Fr (b + 33) (b + 36) C D ∧ ∃ J, J ≤ n ∧ c_iv D (b + 33) 3 = nI J ∧ (sqF v n X (chN v n X) l0 J).1 = n ∧ (∀ i, i < J → (sqF v n X (chN v n X) l0 i).1 < n) ∧ ∀ i, i < J → c_ar D (b + 36) i = nI (chN v n X (sqF v n X (chN v n X) l0 i).1 (sqF v n X (chN v n X) l0 i).2).1) (fun _ => False) x)) := by
            intro E FE iE 
            have x1E := x1'.fr (by rw [F.1]; exact hb) FE (by omega) (by omega)
            have QE := Q'.tr FE.2.2.1
            obtain ⟨lk, lr0, lk0, ll0, lr1, lk1, ll1, lr2, lk2, ll2⟩ := QE.f
            obtain ⟨W, _⟩ := x1E.2 _ k1
            unfold t_X4_lay_L6_J73
            rw [if_neg (nI_nem1 (by omega))]
            have e6E : c_iv E (b + 33) 3 = nI j := by rw [iE]; exact e6
            simp only [WP_bind, WP_some, Option.bind_some, tcl_5, tgR_5_0, tpR_5_0, tgR_5_1, tpR_5_1, tgR_5_2, tpR_5_2, tgI_5_3, tpI_5_3, tgJ_5_4, tpJ_5_4, lk, lr0, lk0, ll0, lr1, lk1, ll1, lr2, lk2, ll2, e6E]
            refine tst_wp lk2 ll2 (show j < 24 by omega) (by omega) (fun G FG iG aG => ?_)
            have FG' : Fr (b + 36) (b + 36) E G := FG
            have aG' : ∀ h, c_ar G (b + 36) h = if h = j then nI (chN v n X t (sqF v n X (chN v n X) l0 j).2).1 else c_ar E (b + 36) h := aG
            obtain ⟨lk, _⟩ := (QE.tr FG.2.2.1).f
            have x1G := x1E.fr (by rw [FE.1, F.1]; exact hb) FG' (by omega) (by omega)
            have klG := x1G.1.1
            have agZ : ∀ a, a ≠ b + 33 → Agr G (s_iv G (up2 (c_iv G) (b + 33) 3 (nI j + 1))) a := fun a ha => (Fr.iv (lo := b + 33) (hi := b + 33) _ (by omega)).ag (by omega)
            have FZ : Fr (b + 33) (b + 36) C (s_iv G (up2 (c_iv G) (b + 33) 3 (nI j + 1))) := F.tr ((FE.mono (by omega) (by omega)).tr ((FG'.mono (by omega) (by omega)).tr (Fr.iv _ (by omega))))
            have x1Z := x1.fr hb FZ (by omega) (by omega)
            obtain ⟨WZ, _⟩ := x1Z.2 _ k1
            have klZ := x1Z.1.1
            have i6 : c_iv G (b + 33) 3 = nI j := by rw [iG]; exact e6E
            simp only [WP_bind, WP_some, Option.bind_some, tcl_5, tgR_5_0, tpR_5_0, tgR_5_1, tpR_5_1, tgR_5_2, tpR_5_2, tgI_5_3, tpI_5_3, tgJ_5_4, tpJ_5_4, tcl_0, tgI_0_0, tpI_0_0, tgR_0_1, tpR_0_1, tgI_0_2, tpI_0_2, lk, i6, klZ]
            rw [get_eq x1Z.1 k1]
            simp only [WP_bind, WP_some, Option.bind_some, tcl_11, tgI_11_0, tpI_11_0, tgI_11_1, tpI_11_1, WZ.1, WZ.2.1, nI_add]
            refine ⟨hlt, nI_1 t, FZ, ?_, j + 1, t + X.2.2.1 (chN v n X t (sqF v n X (chN v n X) l0 j).2).1, rfl, k2, by omega, ?_, ?_ , fun i hi => ?_, fun i hi => ?_⟩
            · show ∀ q, q ≤ n → c_ar G (b + 35) q = _
              rw [(FG'.2.2.2 (b + 35) (by omega)).1, (FE.2.2.2 (b + 35) (by omega)).1]
              exact e2
            · simp only [s_iv_1, s_iv_2, s_iv_kd, s_iv_ln, s_iv_iv, s_iv_jv, s_iv_rv, s_iv_ar, s_iv_al, s_iv_ro, s_jv_1, s_jv_2, s_jv_kd, s_jv_ln, s_jv_iv, s_jv_jv, s_jv_rv, s_jv_ar, s_jv_al, s_jv_ro, s_rv_1, s_rv_2, s_rv_kd, s_rv_ln, s_rv_iv, s_rv_jv, s_rv_rv, s_rv_ar, s_rv_al, s_rv_ro, s_ar_1, s_ar_2, s_ar_kd, s_ar_ln, s_ar_iv, s_ar_jv, s_ar_rv, s_ar_ar, s_ar_al, s_ar_ro, s_al_1, s_al_2, s_al_kd, s_al_ln, s_al_iv, s_al_jv, s_al_rv, s_al_ar, s_al_al, s_al_ro, s_ro_1, s_ro_2, s_ro_kd, s_ro_ln, s_ro_iv, s_ro_jv, s_ro_rv, s_ro_ar, s_ro_al, s_ro_ro]; rw [up2_e, nI_1]
            · rw [hsq]
              show sfM v n _ = sfM v n _
              congr 1
              omega
            · by_cases hij : i = j
              · subst hij; rw [e7]; exact hlt
              · exact e8 i (by omega)
            · show c_ar G (b + 36) i = _
              rw [aG']
              by_cases hij : i = j
              · subst hij; rw [if_pos rfl, e7]
              · rw [if_neg hij, (FE.2.2.2 (b + 36) (by omega)).1]; exact e9 i (by omega)
          rw [near_wp (left := (sqF v n X (chN v n X) l0 j).2) Q' x1' xok V' hlt gs e2 g1]
          simp only [Option.bind_some]
          exact fin D (Fr.rf _ _ _) rfl
        · have hsg' : sg (v t) = false := by simpa using hsg
          simp only [hsg, ↓reduceIte, Bool.false_eq_true, i10, WP_bind, WP_some, Option.bind_some, Sum.elim_inl, Sum.elim_inr, ↓reduceIte]
          exact ⟨hlt, nI_1 t, F, e2, j, nx, rfl, e4, by omega, e6, by rw [e7, sfM_s hn hlt hsg']; congr 1; omega , e8, e9⟩
    · have htn : t = n := by omega
      subst htn
      rw [if_pos (nI_le (by omega) (by omega))]
      simp only [WP_bind, WP_some, Option.bind_some, Sum.elim_inl, Sum.elim_inr, ↓reduceIte]
      refine ⟨F, j, e5, e6, ?_, e8, e9⟩
      rw [e7, sfM_e (Or.inl (by omega))]
      omega
  · rintro x h
    cases x with
    | inl D => exact WP.ret h
    | inr D => exact h.elim
