theorem lnz {C : CH} {a n : Nat} (h : c_ln C a = n) : c_ln C a = n := h
/-- a row is copied -/
theorem copy_wp {C : CH} {x y n m : Nat} (hx : c_kd C x = 20) (hy : c_kd C y = 20) (lx : c_ln C x = n) (ly : c_ln C y = m) (hn : n ≤ 1000) (hm : m ≤ 1000) (hxy : x ≠ y) : WP (t_X11_copy x y C) (fun D => Fr y y C D ∧ c_iv D = c_iv C ∧ (∀ j, j < n → j < m → c_ar D y j = c_ar C x j) ∧ ∀ j, n ≤ j ∨ m ≤ j → c_ar D y j = c_ar C y j) := by
  unfold t_X11_copy
  simp only [WP_bind, WP_some]
  refine WP.it (fun i s => s.1 = nI i ∧ Fr y y C s.2 ∧ c_iv s.2 = c_iv C ∧ (∀ j, j < i → c_ar s.2 y j = c_ar C x j) ∧ ∀ j, i ≤ j → c_ar s.2 y j = c_ar C y j) (min n m) ?_ 100000 0 _ ?_ (Nat.zero_le _) (by omega)
  · rintro i ⟨y0, D⟩ hi ⟨e1, F, e2, e3, e4⟩
    dsimp only at e1 F e2 e3 e4
    subst e1
    have kx : c_kd D x = 20 := by rw [sh_kd F.2.2.1]; exact hx
    have ky : c_kd D y = 20 := by rw [sh_kd F.2.2.1]; exact hy
    have Lx : c_ln D x = n := by rw [sh_ln F.2.2.1]; exact lx
    have Ly : c_ln D y = m := by rw [sh_ln F.2.2.1]; exact ly
    unfold t_X11_copy_L2
    dsimp only
    simp only [Nat.reduceLT, tld_n, tst_n, tldB_n, tstB_n, tldR3_n, tldR4_n, tldJ_n, tstJ_n, tlen_I, tlen_R, kx, ky, Lx, Ly, Option.bind_some]
    by_cases h1 : n ≤ i
    · rw [if_pos (nI_le h1 (by omega))]
      simp only [WP_bind, WP_some, Option.bind_some, Sum.elim_inl, Sum.elim_inr, ↓reduceIte]
      exact ⟨F, e2, fun j p q => e3 j (by omega), fun j p => e4 j (by omega)⟩
    · rw [if_neg (nI_ge (by omega) (by omega))]
      by_cases h2 : m ≤ i
      · rw [if_pos (nI_le h2 (by omega))]
        simp only [WP_bind, WP_some, Option.bind_some, Sum.elim_inl, Sum.elim_inr, ↓reduceIte]
        exact ⟨F, e2, fun j p q => e3 j (by omega), fun j p => e4 j (by omega)⟩
      · rw [if_neg (nI_ge (by omega) (by omega))]
        have c1 : i < n := by omega
        have c2 : i < m := by omega
        have c3 : n < 2147483648 := by omega
        have c4 : m < 2147483648 := by omega
        simp only [WP_bind, WP_some, Option.bind_some, Sum.elim_inl, Sum.elim_inr, ↓reduceIte, Nat.reduceLT, tld_n, tst_n, tldB_n, tstB_n, tldR3_n, tldR4_n, tldJ_n, tstJ_n, tlen_I, tlen_R, kx, ky, Lx, Ly, c1, c2, c3, c4]
        refine ⟨by omega, nI_1 i, F.tr (Fr.ar _ (by omega)), e2, fun j hj => ?_, fun j hj => ?_⟩
        · rw [ar_upd]
          by_cases hji : j = i
          · subst hji
            rw [if_pos rfl, (F.2.2.2 x (by omega)).1]
          · rw [if_neg hji]; exact e3 j (by omega)
        · rw [ar_upd, if_neg (by omega)]; exact e4 j (by omega)
  · exact ⟨rfl, Fr.rf _ _ _, rfl, fun j hj => absurd hj (Nat.not_lt_zero _), fun _ _ => rfl⟩
theorem beginAsTold_wp {C : CH} {o hb : Nat} (A : HaulS (sh C) o) (H : HandsS (sh C) hb) (sep : o + 5 < hb ∨ hb + 6 < o) : WP (t_X1_beginAsTold o hb C) (fun D => Fr o (o + 2) C D ∧ (∀ j, j < 10 → c_ar D (o + 1) j = c_ar C (hb + 6) j) ∧ (∀ j, j < 10 → c_ar D (o + 2) j = c_ar C (hb + 5) j) ∧ c_iv D o 5 = c_iv C hb 7 ∧ c_iv D o 6 = c_iv C hb 8 ∧ c_iv D o 7 = c_iv C o 7) := by
  obtain ⟨hk, hr0, hk0, hl0, hr1, hk1, hl1, hr2, hk2, hl2, hr3, hk3, hl3, hr4, hk4, hl4, hr5, hk5, hl5⟩ := H.f
  obtain ⟨ok, or0, ok0, ol0, or1, ok1, ol1, or2, ok2, ol2, or3, ok3, ol3, or4, ok4, ol4⟩ := A.f
  unfold t_X1_beginAsTold
  simp only [WP_bind, WP_some, Option.bind_some, Sum.elim_inl, Sum.elim_inr, ↓reduceIte, tcl_1, tgR_1_0, tpR_1_0, tgR_1_1, tpR_1_1, tgR_1_2, tpR_1_2, tgR_1_3, tpR_1_3, tgR_1_4, tpR_1_4, tgR_1_5, tpR_1_5, tgI_1_6, tpI_1_6, tgI_1_7, tpI_1_7, tgI_1_8, tpI_1_8, tcl_2, tgR_2_0, tpR_2_0, tgR_2_1, tpR_2_1, tgR_2_2, tpR_2_2, tgR_2_3, tpR_2_3, tgR_2_4, tpR_2_4, tgI_2_5, tpI_2_5, tgI_2_6, tpI_2_6, tgI_2_7, tpI_2_7, hk, hr0, hk0, hl0, hr1, hk1, hl1, hr2, hk2, hl2, hr3, hk3, hl3, hr4, hk4, hl4, hr5, hk5, hl5, ok, or0, ok0, ol0, or1, ok1, ol1, or2, ok2, ol2, or3, ok3, ol3, or4, ok4, ol4]
  refine WP.mono (copy_wp hk5 ok0 hl5 ol0 (by omega) (by omega) (by omega)) (fun D ⟨F, iv, e1, e2⟩ => ?_)
  obtain ⟨hk, hr0, hk0, hl0, hr1, hk1, hl1, hr2, hk2, hl2, hr3, hk3, hl3, hr4, hk4, hl4, hr5, hk5, hl5⟩ := (H.tr F.2.2.1).f
  obtain ⟨ok, or0, ok0, ol0, or1, ok1, ol1, or2, ok2, ol2, or3, ok3, ol3, or4, ok4, ol4⟩ := (A.tr F.2.2.1).f
  simp only [WP_bind, WP_some, Option.bind_some, Sum.elim_inl, Sum.elim_inr, ↓reduceIte, tcl_1, tgR_1_0, tpR_1_0, tgR_1_1, tpR_1_1, tgR_1_2, tpR_1_2, tgR_1_3, tpR_1_3, tgR_1_4, tpR_1_4, tgR_1_5, tpR_1_5, tgI_1_6, tpI_1_6, tgI_1_7, tpI_1_7, tgI_1_8, tpI_1_8, tcl_2, tgR_2_0, tpR_2_0, tgR_2_1, tpR_2_1, tgR_2_2, tpR_2_2, tgR_2_3, tpR_2_3, tgR_2_4, tpR_2_4, tgI_2_5, tpI_2_5, tgI_2_6, tpI_2_6, tgI_2_7, tpI_2_7, hk, hr0, hk0, hl0, hr1, hk1, hl1, hr2, hk2, hl2, hr3, hk3, hl3, hr4, hk4, hl4, hr5, hk5, hl5, ok, or0, ok0, ol0, or1, ok1, ol1, or2, ok2, ol2, or3, ok3, ol3, or4, ok4, ol4]
  refine WP.mono (copy_wp hk4 ok1 hl4 ol1 (by omega) (by omega) (by omega)) (fun E ⟨F2, iv2, g1, g2⟩ => ?_)
  obtain ⟨hk, _⟩ := ((H.tr F.2.2.1).tr F2.2.2.1).f
  obtain ⟨ok, _⟩ := ((A.tr F.2.2.1).tr F2.2.2.1).f
  simp only [WP_bind, WP_some, Option.bind_some, Sum.elim_inl, Sum.elim_inr, ↓reduceIte, tcl_1, tgR_1_0, tpR_1_0, tgR_1_1, tpR_1_1, tgR_1_2, tpR_1_2, tgR_1_3, tpR_1_3, tgR_1_4, tpR_1_4, tgR_1_5, tpR_1_5, tgI_1_6, tpI_1_6, tgI_1_7, tpI_1_7, tgI_1_8, tpI_1_8, tcl_2, tgR_2_0, tpR_2_0, tgR_2_1, tpR_2_1, tgR_2_2, tpR_2_2, tgR_2_3, tpR_2_3, tgR_2_4, tpR_2_4, tgI_2_5, tpI_2_5, tgI_2_6, tpI_2_6, tgI_2_7, tpI_2_7, hk, ok, s_iv_1, s_iv_2, s_iv_kd, s_iv_ln, s_iv_iv, s_iv_jv, s_iv_rv, s_iv_ar, s_iv_al, s_iv_ro, s_jv_1, s_jv_2, s_jv_kd, s_jv_ln, s_jv_iv, s_jv_jv, s_jv_rv, s_jv_ar, s_jv_al, s_jv_ro, s_rv_1, s_rv_2, s_rv_kd, s_rv_ln, s_rv_iv, s_rv_jv, s_rv_rv, s_rv_ar, s_rv_al, s_rv_ro, s_ar_1, s_ar_2, s_ar_kd, s_ar_ln, s_ar_iv, s_ar_jv, s_ar_rv, s_ar_ar, s_ar_al, s_ar_ro, s_al_1, s_al_2, s_al_kd, s_al_ln, s_al_iv, s_al_jv, s_al_rv, s_al_ar, s_al_al, s_al_ro, s_ro_1, s_ro_2, s_ro_kd, s_ro_ln, s_ro_iv, s_ro_jv, s_ro_rv, s_ro_ar, s_ro_al, s_ro_ro]
  refine ⟨((F.mono (by omega) (by omega)).tr (F2.mono (by omega) (by omega))).tr ((Fr.iv (k := 5) _ (by omega)).tr (Fr.iv (k := 6) _ (by omega))), fun j hj => ?_, fun j hj => ?_, ?_, ?_, ?_⟩
  · rw [(F2.2.2.2 (o + 1) (by omega)).1]
    exact e1 j hj hj
  · rw [g1 j hj hj, (F.2.2.2 (hb + 5) (by omega)).1]
  · rw [up2_k (by decide), up2_e, iv2, iv]
  · rw [up2_e, up2_n (by omega), iv2, iv]
  · rw [up2_k (by decide), up2_k (by decide), iv2, iv]
theorem beginFresh_wp {C : CH} {o hb : Nat} (A : HaulS (sh C) o) (H : HandsS (sh C) hb) (sep : o + 5 < hb ∨ hb + 6 < o) : WP (t_X1_beginFresh o hb C) (fun D => Fr o (o + 2) C D ∧ (∀ j, j < 10 → c_ar D (o + 1) j = c_ar C (hb + 1) j) ∧ (∀ j, j < 10 → c_ar D (o + 2) j = 0) ∧ c_iv D o 5 = c_iv C hb 7 ∧ c_iv D o 6 = 0 ∧ c_iv D o 7 = c_iv C o 7) := by
  obtain ⟨hk, hr0, hk0, hl0, hr1, hk1, hl1, hr2, hk2, hl2, hr3, hk3, hl3, hr4, hk4, hl4, hr5, hk5, hl5⟩ := H.f
  obtain ⟨ok, or0, ok0, ol0, or1, ok1, ol1, or2, ok2, ol2, or3, ok3, ol3, or4, ok4, ol4⟩ := A.f
  unfold t_X1_beginFresh
  simp only [WP_bind, WP_some, Option.bind_some, Sum.elim_inl, Sum.elim_inr, ↓reduceIte, tcl_1, tgR_1_0, tpR_1_0, tgR_1_1, tpR_1_1, tgR_1_2, tpR_1_2, tgR_1_3, tpR_1_3, tgR_1_4, tpR_1_4, tgR_1_5, tpR_1_5, tgI_1_6, tpI_1_6, tgI_1_7, tpI_1_7, tgI_1_8, tpI_1_8, tcl_2, tgR_2_0, tpR_2_0, tgR_2_1, tpR_2_1, tgR_2_2, tpR_2_2, tgR_2_3, tpR_2_3, tgR_2_4, tpR_2_4, tgI_2_5, tpI_2_5, tgI_2_6, tpI_2_6, tgI_2_7, tpI_2_7, hk, hr0, hk0, hl0, hr1, hk1, hl1, hr2, hk2, hl2, hr3, hk3, hl3, hr4, hk4, hl4, hr5, hk5, hl5, ok, or0, ok0, ol0, or1, ok1, ol1, or2, ok2, ol2, or3, ok3, ol3, or4, ok4, ol4]
  refine WP.mono (copy_wp hk0 ok0 hl0 ol0 (by omega) (by omega) (by omega)) (fun D ⟨F, iv, e1, e2⟩ => ?_)
  refine WP.mono (WP.it (Post := fun E => Fr (o + 2) (o + 2) D E ∧ c_iv E = c_iv D ∧ ∀ j, j < 10 → c_ar E (o + 2) j = 0) (fun i s => s.1 = nI i ∧ Fr (o + 2) (o + 2) D s.2 ∧ c_iv s.2 = c_iv D ∧ ∀ j, j < i → c_ar s.2 (o + 2) j = 0) 10 ?_ 100000 0 _ ?_ (Nat.zero_le _) (by omega)) (fun E ⟨F2, iv2, g1⟩ => ?_)
  · rintro i ⟨y0, E⟩ hi ⟨e1, F2, e2, e3⟩
    dsimp only at e1 F2 e2 e3
    subst e1
    obtain ⟨ok, or0, ok0, ol0, or1, ok1, ol1, or2, ok2, ol2, or3, ok3, ol3, or4, ok4, ol4⟩ := ((A.tr F.2.2.1).tr F2.2.2.1).f
    unfold t_X1_beginFresh_L13
    dsimp only
    by_cases hlt : i < 10
    · rw [if_neg (show ¬ (10 : Int32) ≤ nI i from nI_ge (b := 10) hlt (by omega))]
      simp only [WP_bind, WP_some, Option.bind_some, Sum.elim_inl, Sum.elim_inr, ↓reduceIte, tcl_2, tgR_2_0, tpR_2_0, tgR_2_1, tpR_2_1, tgR_2_2, tpR_2_2, tgR_2_3, tpR_2_3, tgR_2_4, tpR_2_4, tgI_2_5, tpI_2_5, tgI_2_6, tpI_2_6, tgI_2_7, tpI_2_7, Nat.reduceLT, tld_n, tst_n, tldB_n, tstB_n, tldR3_n, tldR4_n, tldJ_n, tstJ_n, tlen_I, tlen_R, ok, or0, ok0, ol0, or1, ok1, ol1, or2, ok2, ol2, or3, ok3, ol3, or4, ok4, ol4, hlt]
      refine ⟨trivial, nI_1 i, F2.tr (Fr.ar _ (by omega)), e2, fun j hj => ?_⟩
      rw [ar_upd]
      by_cases hji : j = i
      · rw [if_pos hji]
      · rw [if_neg hji]; exact e3 j (by omega)
    · have hii : i = 10 := by omega
      subst hii
      rw [if_pos (show (10 : Int32) ≤ nI 10 by decide)]
      simp only [WP_bind, WP_some, Option.bind_some, Sum.elim_inl, Sum.elim_inr, ↓reduceIte]
      exact ⟨F2, e2, e3⟩
  · exact ⟨rfl, Fr.rf _ _ _, rfl, fun j hj => absurd hj (Nat.not_lt_zero _)⟩
  · obtain ⟨hk, _⟩ := ((H.tr F.2.2.1).tr F2.2.2.1).f
    obtain ⟨ok, _⟩ := ((A.tr F.2.2.1).tr F2.2.2.1).f
    simp only [WP_bind, WP_some, Option.bind_some, Sum.elim_inl, Sum.elim_inr, ↓reduceIte, tcl_1, tgR_1_0, tpR_1_0, tgR_1_1, tpR_1_1, tgR_1_2, tpR_1_2, tgR_1_3, tpR_1_3, tgR_1_4, tpR_1_4, tgR_1_5, tpR_1_5, tgI_1_6, tpI_1_6, tgI_1_7, tpI_1_7, tgI_1_8, tpI_1_8, tcl_2, tgR_2_0, tpR_2_0, tgR_2_1, tpR_2_1, tgR_2_2, tpR_2_2, tgR_2_3, tpR_2_3, tgR_2_4, tpR_2_4, tgI_2_5, tpI_2_5, tgI_2_6, tpI_2_6, tgI_2_7, tpI_2_7, hk, ok, s_iv_1, s_iv_2, s_iv_kd, s_iv_ln, s_iv_iv, s_iv_jv, s_iv_rv, s_iv_ar, s_iv_al, s_iv_ro, s_jv_1, s_jv_2, s_jv_kd, s_jv_ln, s_jv_iv, s_jv_jv, s_jv_rv, s_jv_ar, s_jv_al, s_jv_ro, s_rv_1, s_rv_2, s_rv_kd, s_rv_ln, s_rv_iv, s_rv_jv, s_rv_rv, s_rv_ar, s_rv_al, s_rv_ro, s_ar_1, s_ar_2, s_ar_kd, s_ar_ln, s_ar_iv, s_ar_jv, s_ar_rv, s_ar_ar, s_ar_al, s_ar_ro, s_al_1, s_al_2, s_al_kd, s_al_ln, s_al_iv, s_al_jv, s_al_rv, s_al_ar, s_al_al, s_al_ro, s_ro_1, s_ro_2, s_ro_kd, s_ro_ln, s_ro_iv, s_ro_jv, s_ro_rv, s_ro_ar, s_ro_al, s_ro_ro]
    refine ⟨((F.mono (by omega) (by omega)).tr (F2.mono (by omega) (by omega))).tr ((Fr.iv (k := 5) _ (by omega)).tr (Fr.iv (k := 6) _ (by omega))), fun j hj => ?_, g1, ?_, ?_, ?_⟩
    · rw [(F2.2.2.2 (o + 1) (by omega)).1]
      exact e1 j hj hj
    · rw [up2_k (by decide), up2_e, iv2, iv]
    · rw [up2_e]
    · rw [up2_k (by decide), up2_k (by decide), iv2, iv]
/-- rest: of the hands' own row or of another one -/
theorem restFor_wp {C : CH} {hb a n k : Nat} {P : HP} {now : Nat → Nat} (H : HandsS (sh C) hb) (V : HandV C hb P) (hP : HPok P) (ha : c_kd C a = 20) (la : c_ln C a = 10) (hn : n ≤ 100) (ha1 : a = hb + 6 ∨ a < hb ∨ hb + 6 < a) (hnow : ∀ h, h < P.1 → c_ar C a h = nI (now h)) (hok : nowOk P now) : WP (t_X0_restFor hb (nI n) a C) (fun D => Fr a a C D ∧ c_iv D = c_iv C ∧ (∀ h, h < P.1 → c_ar D a h = nI (rsB P n now h)) ∧ ∀ h, P.1 ≤ h → c_ar D a h = c_ar C a h) := by
  have hn1 := hP.1
  unfold t_X0_restFor
  simp only [WP_bind, WP_some]
  refine WP.it (fun i s => s.1 = nI i ∧ Fr a a C s.2 ∧ c_iv s.2 = c_iv C ∧ (∀ h, h < i → c_ar s.2 a h = nI (rsB P n now h)) ∧ ∀ h, i ≤ h → c_ar s.2 a h = c_ar C a h) P.1 ?_ 100000 0 _ ?_ (Nat.zero_le _) (by omega)
  · rintro i ⟨y0, D⟩ hi ⟨e1, F, e2, e3, e4⟩
    dsimp only at e1 F e2 e3 e4
    subst e1
    have ka : c_kd D a = 20 := by rw [sh_kd F.2.2.1]; exact ha
    have La : c_ln D a = 10 := by rw [sh_ln F.2.2.1]; exact la
    obtain ⟨hk, hr0, hk0, hl0, hr1, hk1, hl1, hr2, hk2, hl2, hr3, hk3, hl3, hr4, hk4, hl4, hr5, hk5, hl5⟩ := (H.tr F.2.2.1).f
    have h6 : c_iv D hb 6 = nI P.1 := by rw [e2]; exact V.1
    unfold t_X0_restFor_L2
    dsimp only
    by_cases hlt : i < P.1
    · have c1 : ¬ nI P.1 ≤ nI i := nI_ge hlt (by omega)
      have c2 : i < 10 := by omega
      have c3 : ¬ nI 10 ≤ nI i := nI_ge c2 (by omega)
      obtain ⟨v1, v2, v3, v4⟩ := V.2 i hlt
      have v1' : c_ar D (hb + 1) i = nI (P.2.1 i) := by rw [(F.2.2.2 (hb + 1) (by omega)).1]; exact v1
      have v3' : c_ar D (hb + 3) i = nI (P.2.2.2.1 i) := by rw [(F.2.2.2 (hb + 3) (by omega)).1]; exact v3
      have v5 : c_ar D a i = nI (now i) := by rw [e4 i (Nat.le_refl _), hnow i hlt]
      have hst := hP.2 i hlt
      have hno := hok i hlt
      have hmul : n * P.2.2.2.1 i ≤ 100 * 30 := Nat.mul_le_mul hn hst.2.2.2.1
      simp only [WP_bind, WP_some, Option.bind_some, Sum.elim_inl, Sum.elim_inr, ↓reduceIte, tcl_1, tgR_1_0, tpR_1_0, tgR_1_1, tpR_1_1, tgR_1_2, tpR_1_2, tgR_1_3, tpR_1_3, tgR_1_4, tpR_1_4, tgR_1_5, tpR_1_5, tgI_1_6, tpI_1_6, tgI_1_7, tpI_1_7, tgI_1_8, tpI_1_8, Nat.reduceLT, tld_n, tst_n, tldB_n, tstB_n, tldR3_n, tldR4_n, tldJ_n, tstJ_n, tlen_I, tlen_R, hk, hr0, hk0, hl0, hr1, hk1, hl1, hr2, hk2, hl2, hr3, hk3, hl3, hr4, hk4, hl4, hr5, hk5, hl5, h6, c1, c2, c3, ka, La, v1', v3', v5, nI_mulI, nI_add]
      refine ⟨hlt, nI_1 i, F.tr (Fr.ar _ (by omega)), e2, fun j hj => ?_, fun j hj => ?_⟩
      · rw [ar_upd]
        by_cases hji : j = i
        · subst hji
          rw [if_pos rfl]
          unfold rsB
          by_cases hy : now j + n * P.2.2.2.1 j < P.2.1 j
          · rw [if_pos (nI_lt hy (by omega))]
            congr 1
            omega
          · rw [if_neg (nI_nlt (by omega) (by omega))]
            congr 1
            omega
        · rw [if_neg hji]; exact e3 j (by omega)
      · rw [ar_upd, if_neg (by omega)]; exact e4 j (by omega)
    · have hii : i = P.1 := by omega
      have c1 : nI P.1 ≤ nI i := nI_le (by omega) (by omega)
      simp only [WP_bind, WP_some, Option.bind_some, Sum.elim_inl, Sum.elim_inr, ↓reduceIte, tcl_1, tgR_1_0, tpR_1_0, tgR_1_1, tpR_1_1, tgR_1_2, tpR_1_2, tgR_1_3, tpR_1_3, tgR_1_4, tpR_1_4, tgR_1_5, tpR_1_5, tgI_1_6, tpI_1_6, tgI_1_7, tpI_1_7, tgI_1_8, tpI_1_8, hk, hr0, hk0, hl0, hr1, hk1, hl1, hr2, hk2, hl2, hr3, hk3, hl3, hr4, hk4, hl4, hr5, hk5, hl5, h6, c1]
      subst hii
      exact ⟨F, e2, e3, e4⟩
  · exact ⟨rfl, Fr.rf _ _ _, rfl, fun j hj => absurd hj (Nat.not_lt_zero _), fun _ _ => rfl⟩
theorem rsB_ok (P : HP) (n : Nat) (now : Nat → Nat) : nowOk P (rsB P n now) := fun h _ => Nat.min_le_left _ _
theorem restAll_wp {M : MS} {d n : Nat} {P : HP} {now : Nat → Nat} (V : RHandV M P) (hP : HPok P) (hd : d < 6) (hn : n ≤ 100) (hnow : Dft M d P now) (hok : nowOk P now) : WP (g_X12_restAll (nI d) (nI n) M) (fun N => FM [] [13] M N ∧ Dft N d P (rsB P n now) ∧ ∀ j, j < 10 * d ∨ 10 * d + P.1 ≤ j → N.2.2.1 13 j = M.2.2.1 13 j) := by
  have hn1 := hP.1
  unfold g_X12_restAll
  simp only [WP_bind, WP_some]
  refine WP.it (fun i s => s.1 = nI i ∧ FM [] [13] M s.2 ∧ (∀ h, h < i → s.2.2.2.1 13 (10 * d + h) = nI (rsB P n now h)) ∧ ∀ j, j < 10 * d ∨ 10 * d + i ≤ j → s.2.2.2.1 13 j = M.2.2.1 13 j) P.1 ?_ 100000 0 _ ?_ (Nat.zero_le _) (by omega)
  · rintro i ⟨y0, N⟩ hi ⟨e1, F, e3, e4⟩
    dsimp only at e1 F e3 e4
    subst e1
    have V' := V.fr F (by decide)
    unfold g_X12_restAll_L2
    dsimp only
    rw [V'.1]
    by_cases hlt : i < P.1
    · rw [if_neg (nI_ge hlt (by omega)), ix10, mld_n (k := 13) (show 10 * d + i < 60 by omega) (by decide), mld_n (k := 10) (show i < 10 by omega) (by decide), mld_n (k := 8) (show i < 10 by omega) (by decide)]
      obtain ⟨v1, v2, v3, v4⟩ := V'.2 i hlt
      have v5 : N.2.2.1 13 (10 * d + i) = nI (now i) := by rw [e4 _ (by omega)]; exact hnow i hlt
      have hst := hP.2 i hlt
      have hno := hok i hlt
      have hmul : n * P.2.2.2.1 i ≤ 100 * 30 := Nat.mul_le_mul hn hst.2.2.2.1
      have key : ∀ z : Int32, z = nI (rsB P n now i) → WP ((mst N 13 (nI (10 * d + i)) z).bind fun M9 => some (Sum.inl (nI i + 1, M9) : (Int32 × MS) ⊕ MS)) (Sum.elim (fun s => i < P.1 ∧ s.1 = nI (i + 1) ∧ FM [] [13] M s.2 ∧ (∀ h, h < i + 1 → s.2.2.2.1 13 (10 * d + h) = nI (rsB P n now h)) ∧ ∀ j, j < 10 * d ∨ 10 * d + (i + 1) ≤ j → s.2.2.2.1 13 j = M.2.2.1 13 j) (fun N => FM [] [13] M N ∧ Dft N d P (rsB P n now) ∧ ∀ j, j < 10 * d ∨ 10 * d + P.1 ≤ j → N.2.2.1 13 j = M.2.2.1 13 j)) := by
        rintro z rfl
        rw [mst_n (k := 13) (show 10 * d + i < 60 by omega) (by decide)]
        simp only [WP_bind, WP_some, Option.bind_some, Sum.elim_inl, Sum.elim_inr, ↓reduceIte]
        refine ⟨hlt, nI_1 i, F.tr (FM.A _ (by decide)), fun h hh => ?_, fun j hj => ?_⟩
        · rw [msA_u]
          by_cases hhi : h = i
          · subst hhi; rw [if_pos rfl]
          · rw [if_neg (by omega)]; exact e3 h (by omega)
        · rw [msA_u, if_neg (by omega)]; exact e4 j (by omega)
      simp only [Option.bind_some, v5, v3, v1, nI_mulI, nI_add]
      by_cases hy : now i + n * P.2.2.2.1 i ≤ P.2.1 i
      · rw [if_pos (nI_le hy (by omega))]
        exact key _ (by unfold rsB; congr 1; omega)
      · rw [if_neg (nI_ge (by omega) (by omega))]
        exact key _ (by unfold rsB; congr 1; omega)
    · have hii : i = P.1 := by omega
      subst hii
      rw [if_pos (nI_le (by omega) (by omega))]
      simp only [WP_bind, WP_some, Option.bind_some, Sum.elim_inl, Sum.elim_inr, ↓reduceIte]
      exact ⟨F, e3, e4⟩
  · exact ⟨rfl, FM.rf _ _ _, fun j hj => absurd hj (Nat.not_lt_zero _), fun _ _ => rfl⟩
/-- how many hands are at their strength -/
def hFull (P : HP) (now : Nat → Nat) (n : Nat) : Nat := hsum (fun h => if now h = P.2.1 h then 1 else 0) n
theorem hFull_le (P : HP) (now : Nat → Nat) (n : Nat) : hFull P now n ≤ n := by
  have := hsum_le (f := fun h => if now h = P.2.1 h then 1 else 0) (B := 1) n (fun i _ => by split <;> omega)
  unfold hFull
  omega
theorem howMany_eq {C : CH} {hb : Nat} {P : HP} {now : Nat → Nat} (H : HandsS (sh C) hb) (V : HandV C hb P) (hP : HPok P) (hnow : ∀ h, h < P.1 → c_ar C (hb + 6) h = nI (now h)) (hok : nowOk P now) : t_X0_howManyAtStrength hb C = some (nI (hFull P now P.1), C) := by
  have hn1 := hP.1
  obtain ⟨hk, hr0, hk0, hl0, hr1, hk1, hl1, hr2, hk2, hl2, hr3, hk3, hl3, hr4, hk4, hl4, hr5, hk5, hl5⟩ := H.f
  have key : WP (iter (t_X0_howManyAtStrength_L4 hb) 100000 (0, 0, C)) (fun e => e = (nI (hFull P now P.1), C)) := by
    refine WP.it (fun i s => s = (nI (hFull P now i), nI i, C)) P.1 ?_ 100000 0 _ ?_ (Nat.zero_le _) (by omega)
    · rintro i s hi rfl
      unfold t_X0_howManyAtStrength_L4
      dsimp only
      simp only [tcl_1, tgR_1_0, tpR_1_0, tgR_1_1, tpR_1_1, tgR_1_2, tpR_1_2, tgR_1_3, tpR_1_3, tgR_1_4, tpR_1_4, tgR_1_5, tpR_1_5, tgI_1_6, tpI_1_6, tgI_1_7, tpI_1_7, tgI_1_8, tpI_1_8, hk, hr0, hk0, hl0, hr1, hk1, hl1, hr2, hk2, hl2, hr3, hk3, hl3, hr4, hk4, hl4, hr5, hk5, hl5, V.1, Option.bind_some]
      by_cases hlt : i < P.1
      · rw [if_neg (nI_ge hlt (by omega))]
        have c2 : i < 10 := by omega
        have hst := hP.2 i hlt
        have hno := hok i hlt
        simp only [tcl_1, tgR_1_0, tpR_1_0, tgR_1_1, tpR_1_1, tgR_1_2, tpR_1_2, tgR_1_3, tpR_1_3, tgR_1_4, tpR_1_4, tgR_1_5, tpR_1_5, tgI_1_6, tpI_1_6, tgI_1_7, tpI_1_7, tgI_1_8, tpI_1_8, Nat.reduceLT, tld_n, tst_n, tldB_n, tstB_n, tldR3_n, tldR4_n, tldJ_n, tstJ_n, tlen_I, tlen_R, hk, hr0, hk0, hl0, hr1, hk1, hl1, hr2, hk2, hl2, hr3, hk3, hl3, hr4, hk4, hl4, hr5, hk5, hl5, c2, Option.bind_some, hnow i hlt, (V.2 i hlt).1]
        have hs : hFull P now (i + 1) = hFull P now i + (if now i = P.2.1 i then 1 else 0) := rfl
        by_cases hz : now i = P.2.1 i
        · rw [if_pos (by rw [hz])]
          simp only [WP_bind, WP_some, Option.bind_some, Sum.elim_inl, Sum.elim_inr, ↓reduceIte]
          refine ⟨hlt, ?_⟩
          rw [hs, if_pos hz, nI_1, nI_1]
        · rw [if_neg (fun z => hz ((nI_eq (by omega) (by omega)).mp z))]
          simp only [WP_bind, WP_some, Option.bind_some, Sum.elim_inl, Sum.elim_inr, ↓reduceIte]
          refine ⟨hlt, ?_⟩
          rw [hs, if_neg hz, nI_1]
          rfl
      · have hii : i = P.1 := by omega
        subst hii
        rw [if_pos (nI_le (by omega) (by omega))]
        simp only [WP_bind, WP_some, Option.bind_some, Sum.elim_inl, Sum.elim_inr, ↓reduceIte]
    · rfl
  obtain ⟨e, h1, rfl⟩ := key
  unfold t_X0_howManyAtStrength
  rw [h1]
  rfl
theorem op_pause {b : Nat} {C : CH} {M : MS} (I : Inv b C M) (x : Int32) : OP b (t_X11_pause b x C) (g_X12_pause x M) := by
  have I0 := I
  obtain ⟨H, S, T, bw, X, R, K, I⟩ := I
  obtain ⟨IB, ⟨h1, hm, hok⟩, _⟩ := id I
  obtain ⟨xk, xr0, xr1, xr2, xr3, xr4, xr6, xr7, xr8, xr9, xr10, xr11⟩ := IB.1.x
  obtain ⟨hk, hr0, hk0, hl0, hr1, hk1, hl1, hr2, hk2, hl2, hr3, hk3, hl3, hr4, hk4, hl4, hr5, hk5, hl5⟩ := IB.1.2.2.1.f
  have tk := IB.1.ts
  have hn := hok.1.1
  unfold t_X11_pause g_X12_pause
  rw [gin_eq (l := 0) (h := 100) x 0 100 M rfl rfl, tw_eq]
  by_cases hv : x < 0 ∨ 100 < x
  · simp only [hv, ↓reduceIte, Option.bind_some]
    exact op_same I0 _
  · obtain ⟨j, hj, rfl⟩ := within_nI (n := 100) rfl hv
    simp only [hv, ↓reduceIte, i10, Option.bind_some, OP, WP_bind, WP_some, tcl_12, tgR_12_0, tpR_12_0, tgR_12_1, tpR_12_1, tgR_12_2, tpR_12_2, tgR_12_3, tpR_12_3, tgR_12_4, tpR_12_4, tgI_12_5, tpI_12_5, tgR_12_6, tpR_12_6, tgR_12_7, tpR_12_7, tgR_12_8, tpR_12_8, tgR_12_9, tpR_12_9, tgR_12_10, tpR_12_10, tgR_12_11, tpR_12_11, tcl_1, tgR_1_0, tpR_1_0, tgR_1_1, tpR_1_1, tgR_1_2, tpR_1_2, tgR_1_3, tpR_1_3, tgR_1_4, tpR_1_4, tgR_1_5, tpR_1_5, tgI_1_6, tpI_1_6, tgI_1_7, tpI_1_7, tgI_1_8, tpI_1_8, xk, xr0, xr1, xr2, xr3, xr4, xr6, xr7, xr8, xr9, xr10, xr11, hk, hr0, hk0, hl0, hr1, hk1, hl1, hr2, hk2, hl2, hr3, hk3, hl3, hr4, hk4, hl4, hr5, hk5, hl5]
    refine WP.mono (restFor_wp (k := 0) IB.1.2.2.1 h1.1 hok.1 hk5 hl5 hj (Or.inl rfl) h1.2.2.2.2 hok.2.2.2.2.2) (fun D ⟨F, iv, e1, e2⟩ => ?_)
    have F' : Fr (b + 10) (b + 10) C D := F
    have St : StS (sh D) b := by rw [F.2.2.1]; exact IB.1
    obtain ⟨xk, xr0, xr1, xr2, xr3, xr4, xr6, xr7, xr8, xr9, xr10, xr11⟩ := St.x
    obtain ⟨hk, hr0, hk0, hl0, hr1, hk1, hl1, hr2, hk2, hl2, hr3, hk3, hl3, hr4, hk4, hl4, hr5, hk5, hl5⟩ := St.2.2.1.f
    have tk := St.ts
    have Vd : HandV (s_iv D (up2 (c_iv D) (b + 18) 5 0)) (b + 4) H.1 := by
      refine ⟨?_, fun h hh => ?_⟩
      · rw [iv_upd, if_neg (by omega), iv]; exact h1.1.1
      · simp only [s_iv_1, s_iv_2, s_iv_kd, s_iv_ln, s_iv_iv, s_iv_jv, s_iv_rv, s_iv_ar, s_iv_al, s_iv_ro, s_jv_1, s_jv_2, s_jv_kd, s_jv_ln, s_jv_iv, s_jv_jv, s_jv_rv, s_jv_ar, s_jv_al, s_jv_ro, s_rv_1, s_rv_2, s_rv_kd, s_rv_ln, s_rv_iv, s_rv_jv, s_rv_rv, s_rv_ar, s_rv_al, s_rv_ro, s_ar_1, s_ar_2, s_ar_kd, s_ar_ln, s_ar_iv, s_ar_jv, s_ar_rv, s_ar_ar, s_ar_al, s_ar_ro, s_al_1, s_al_2, s_al_kd, s_al_ln, s_al_iv, s_al_jv, s_al_rv, s_al_ar, s_al_al, s_al_ro, s_ro_1, s_ro_2, s_ro_kd, s_ro_ln, s_ro_iv, s_ro_jv, s_ro_rv, s_ro_ar, s_ro_al, s_ro_ro]
        rw [(F.2.2.2 (b + 4 + 1) (by omega)).1, (F.2.2.2 (b + 4 + 2) (by omega)).1, (F.2.2.2 (b + 4 + 3) (by omega)).1, (F.2.2.2 (b + 4 + 4) (by omega)).1]
        exact h1.1.2 h hh
    simp only [WP_bind, WP_some, Option.bind_some, tcl_12, tgR_12_0, tpR_12_0, tgR_12_1, tpR_12_1, tgR_12_2, tpR_12_2, tgR_12_3, tpR_12_3, tgR_12_4, tpR_12_4, tgI_12_5, tpI_12_5, tgR_12_6, tpR_12_6, tgR_12_7, tpR_12_7, tgR_12_8, tpR_12_8, tgR_12_9, tpR_12_9, tgR_12_10, tpR_12_10, tgR_12_11, tpR_12_11, tcl_1, tgR_1_0, tpR_1_0, tgR_1_1, tpR_1_1, tgR_1_2, tpR_1_2, tgR_1_3, tpR_1_3, tgR_1_4, tpR_1_4, tgR_1_5, tpR_1_5, tgI_1_6, tpI_1_6, tgI_1_7, tpI_1_7, tgI_1_8, tpI_1_8, tcl_10, tgR_10_0, tpR_10_0, tgR_10_1, tpR_10_1, tgR_10_2, tpR_10_2, tgR_10_3, tpR_10_3, tgI_10_4, tpI_10_4, tgI_10_5, tpI_10_5, tgI_10_6, tpI_10_6, tgI_10_7, tpI_10_7, tgI_10_8, tpI_10_8, xk, xr0, xr1, xr2, xr3, xr4, xr6, xr7, xr8, xr9, xr10, xr11, hk, hr0, hk0, hl0, hr1, hk1, hl1, hr2, hk2, hl2, hr3, hk3, hl3, hr4, hk4, hl4, hr5, hk5, hl5, tk, s_iv_1, s_iv_2, s_iv_kd, s_iv_ln, s_iv_iv, s_iv_jv, s_iv_rv, s_iv_ar, s_iv_al, s_iv_ro, s_jv_1, s_jv_2, s_jv_kd, s_jv_ln, s_jv_iv, s_jv_jv, s_jv_rv, s_jv_ar, s_jv_al, s_jv_ro, s_rv_1, s_rv_2, s_rv_kd, s_rv_ln, s_rv_iv, s_rv_jv, s_rv_rv, s_rv_ar, s_rv_al, s_rv_ro, s_ar_1, s_ar_2, s_ar_kd, s_ar_ln, s_ar_iv, s_ar_jv, s_ar_rv, s_ar_ar, s_ar_al, s_ar_ro, s_al_1, s_al_2, s_al_kd, s_al_ln, s_al_iv, s_al_jv, s_al_rv, s_al_ar, s_al_al, s_al_ro, s_ro_1, s_ro_2, s_ro_kd, s_ro_ln, s_ro_iv, s_ro_jv, s_ro_rv, s_ro_ar, s_ro_al, s_ro_ro]
    rw [howMany_eq (now := rsB H.1 j H.2.2.1) (show HandsS (sh (s_iv D (up2 (c_iv D) (b + 18) 5 0))) (b + 4) from St.2.2.1) Vd hok.1 e1 (rsB_ok _ _ _)]
    simp only [WP_bind, WP_some, Option.bind_some]
    refine WP.mono (restAll_wp (d := 0) hm.1 hok.1 (by omega) hj (fun h hh => by rw [Nat.mul_zero, Nat.zero_add]; exact hm.2.2.2.2 h hh) hok.2.2.2.2.2) (fun N ⟨G, g1, g2⟩ => ?_)
    have g1' : ∀ h, h < H.1.1 → N.2.2.1 13 h = nI (rsB H.1 j H.2.2.1 h) := fun h hh => by
      have := g1 h hh
      rw [Nat.mul_zero, Nat.zero_add] at this
      exact this
    have RV := hm.1.fr G (by decide)
    have key : WP (iter g_X12_pause_L25 100000 (0, 0, N)) (fun e => e = (nI (hFull H.1 (rsB H.1 j H.2.2.1) H.1.1), N)) := by
      refine WP.it (fun i s => s = (nI (hFull H.1 (rsB H.1 j H.2.2.1) i), nI i, N)) H.1.1 ?_ 100000 0 _ ?_ (Nat.zero_le _) (by omega)
      · rintro i s hi rfl
        unfold g_X12_pause_L25
        dsimp only
        rw [RV.1]
        by_cases hlt : i < H.1.1
        · rw [if_neg (nI_ge hlt (by omega)), mld_n (k := 13) (show i < 60 by omega) (by decide), mld_n (k := 8) (show i < 10 by omega) (by decide)]
          have hst := hok.1.2 i hlt
          have hno := rsB_ok H.1 j H.2.2.1 i hlt
          simp only [Option.bind_some, g1' i hlt, (RV.2 i hlt).1]
          have hs : hFull H.1 (rsB H.1 j H.2.2.1) (i + 1) = hFull H.1 (rsB H.1 j H.2.2.1) i + (if rsB H.1 j H.2.2.1 i = H.1.2.1 i then 1 else 0) := rfl
          by_cases hz : rsB H.1 j H.2.2.1 i = H.1.2.1 i
          · rw [if_pos (by rw [hz])]
            simp only [g_X12_pause_L25_J54, g_X12_bit, i10, WP_bind, WP_some, Option.bind_some, Sum.elim_inl, Sum.elim_inr, ↓reduceIte]
            refine ⟨hlt, ?_⟩
            rw [hs, if_pos hz, nI_1, nI_1]
          · rw [if_neg (fun z => hz ((nI_eq (by omega) (by omega)).mp z))]
            simp only [g_X12_pause_L25_J54, g_X12_bit, WP_bind, WP_some, Option.bind_some, Sum.elim_inl, Sum.elim_inr, ↓reduceIte]
            refine ⟨hlt, ?_⟩
            rw [hs, if_neg hz, nI_1, Int32.add_zero]
            rfl
        · have hii : i = H.1.1 := by omega
          subst hii
          rw [if_pos (nI_le (by omega) (by omega))]
          simp only [WP_bind, WP_some, Option.bind_some, Sum.elim_inl, Sum.elim_inr, ↓reduceIte]
      · rfl
    obtain ⟨e, hk1, rfl⟩ := key
    rw [hk1]
    refine WP.ret ⟨rfl, ?_⟩
    refine I.hands (H' := (H.1, H.2.1, rsB H.1 j H.2.2.1, H.2.2.2.1, H.2.2.2.2)) (by show C.1 ≤ D.1; rw [F.1]; exact Nat.le_refl _) F.2.1 (fun a _ => AgS.of F.2.2.1 a) (fun a _ p q => (F'.ag (by omega)).tr ((Fr.iv (lo := b + 18) (hi := b + 18) _ (by omega)).ag (by omega))) (G.mono (fun k h => absurd h List.not_mem_nil) (by decide)) ⟨Vd, ?_, ?_, fun h hh => ?_, e1⟩ ⟨RV, by rw [G.i (by decide)]; exact hm.2.1, by rw [G.i (by decide)]; exact hm.2.2.1, by rw [G.2 12 (by decide)]; exact hm.2.2.2.1, g1'⟩ ⟨hok.1, hok.2.1, hok.2.2.1, hok.2.2.2.1, hok.2.2.2.2.1, rsB_ok _ _ _⟩ ?_
    · show c_iv (s_iv D (up2 (c_iv D) (b + 18) 5 0)) (b + 4) 7 = _
      rw [iv_upd, if_neg (by omega), iv]; exact h1.2.1
    · show c_iv (s_iv D (up2 (c_iv D) (b + 18) 5 0)) (b + 4) 8 = _
      rw [iv_upd, if_neg (by omega), iv]; exact h1.2.2.1
    · show c_ar D (b + 9) h = _
      rw [(F'.2.2.2 (b + 9) (by omega)).1]
      exact h1.2.2.2.1 h hh
    · show c_iv (s_iv D (up2 (c_iv D) (b + 18) 5 0)) (b + 18) 5 = 0
      rw [iv_upd, if_pos ⟨rfl, rfl⟩]
