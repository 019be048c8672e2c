theorem op_same {b : Nat} {C : CH} {M : MS} (I : Inv b C M) (x : Int32) : OP b (some (x, C)) (some (x, M)) := WP.ret (WP.ret ⟨rfl, I⟩)
theorem in_n {n : Nat} {x : Int32} (hn : n ≤ 1000) (h : ¬ (x < 0 ∨ nI n - 1 < x)) : ∃ j : Nat, j < n ∧ x = nI j := by
  cases n with
  | zero =>
    exfalso
    apply h
    by_cases h1 : x < 0
    · exact Or.inl h1
    · refine Or.inr ?_
      have h2 : (nI 0 - 1 : Int32).toInt = -1 := by decide
      have h3 : (0 : Int32).toInt = 0 := rfl
      rw [Int32.lt_iff_toInt_lt] at h1 ⊢
      omega
  | succ n =>
    rw [nI_pred] at h
    obtain ⟨j, h1, h2⟩ := within_nI (n := n) (nI_toInt (by omega)) h
    exact ⟨j, by omega, h2⟩
theorem in_nI {n j : Nat} (hn : n ≤ 1000) (h : j < n) : ¬ (nI j < 0 ∨ nI n - 1 < nI j) := by
  rintro (h1 | h1)
  · exact nI_pos (by omega) h1
  · rw [show n = (n - 1) + 1 by omega, nI_pred] at h1
    exact nI_nlt (by omega) (by omega) h1
theorem has_eq {C : CH} {hb : Nat} {P : HP} (H : HandsS (sh C) hb) (V : HandV C hb P) (x : Int32) : t_X0_has hb x C = some (if x < 0 ∨ nI P.1 - 1 < x then 0 else 1, C) := by
  obtain ⟨hk, _⟩ := H.f
  unfold t_X0_has
  simp only [tcl_1, tgR_1_0, tpR_1_0, tgR_1_1, tpR_1_1, tgR_1_2, tpR_1_2, tgR_1_3, tpR_1_3, tgR_1_4, tpR_1_4, tgR_1_5, tpR_1_5, tgI_1_6, tpI_1_6, tgI_1_7, tpI_1_7, tgI_1_8, tpI_1_8, hk, V.1, Option.bind_some, tw_eq]
  by_cases h : x < 0 ∨ nI P.1 - 1 < x
  · rw [if_pos h]; rfl
  · rw [if_neg h]; rfl
theorem noHand_eq {M : MS} {P : HP} (V : RHandV M P) (x : Int32) : g_X12_noHand x M = some (if x < 0 ∨ nI P.1 - 1 < x then 1 else 0, M) := by
  unfold g_X12_noHand
  rw [gin_eq (l := 0) x 0 (M.1 7 - 1) M rfl rfl, V.1]
  by_cases h : x < 0 ∨ nI P.1 - 1 < x
  · rw [if_pos h, if_pos h]; rfl
  · rw [if_neg h, if_neg h]; rfl
theorem sizeL_eq {C : CH} {o : Nat} (h : c_kd C o = 1) : t_Jx4a65c_size_8abf5 o C = some (c_iv C o 2, C) := by
  unfold t_Jx4a65c_size_8abf5
  simp only [tcl_0, tgI_0_0, tpI_0_0, tgR_0_1, tpR_0_1, tgI_0_2, tpI_0_2, h, Option.bind_some]
theorem op_now {b : Nat} {C : CH} {M : MS} (I : Inv b C M) (x : Int32) : OP b (t_X11_now b x C) (g_X12_now x M) := by
  have I0 := I
  obtain ⟨H, S, T, bw, X, R, K, I⟩ := I
  obtain ⟨IB, ⟨h1, hm, hok⟩, _⟩ := id I
  obtain ⟨xk, xr0, xr1, xr2, xr3, xr4, xr6, xr7, xr8, xr9, xr10, xr11⟩ := IB.1.x
  obtain ⟨hk, hr0, hk0, hl0, hr1, hk1, hl1, hr2, hk2, hl2, hr3, hk3, hl3, hr4, hk4, hl4, hr5, hk5, hl5⟩ := IB.1.2.2.1.f
  have hn := hok.1.1
  unfold t_X11_now g_X12_now
  rw [noHand_eq hm.1]
  simp only [tcl_12, tgR_12_0, tpR_12_0, tgR_12_1, tpR_12_1, tgR_12_2, tpR_12_2, tgR_12_3, tpR_12_3, tgR_12_4, tpR_12_4, tgI_12_5, tpI_12_5, tgR_12_6, tpR_12_6, tgR_12_7, tpR_12_7, tgR_12_8, tpR_12_8, tgR_12_9, tpR_12_9, tgR_12_10, tpR_12_10, tgR_12_11, tpR_12_11, tcl_1, tgR_1_0, tpR_1_0, tgR_1_1, tpR_1_1, tgR_1_2, tpR_1_2, tgR_1_3, tpR_1_3, tgR_1_4, tpR_1_4, tgR_1_5, tpR_1_5, tgI_1_6, tpI_1_6, tgI_1_7, tpI_1_7, tgI_1_8, tpI_1_8, xk, xr0, xr1, xr2, xr3, xr4, xr6, xr7, xr8, xr9, xr10, xr11, hk, Option.bind_some, has_eq IB.1.2.2.1 h1.1]
  by_cases hv : x < 0 ∨ nI H.1.1 - 1 < x
  · simp only [hv, ↓reduceIte, i10]
    exact op_same I0 _
  · obtain ⟨j, hj, rfl⟩ := in_n (by omega) hv
    have hj2 : j < 10 := by omega
    simp only [hv, ↓reduceIte, i10, Nat.reduceLT, tld_n, tst_n, tldB_n, tstB_n, tldR3_n, tldR4_n, tldJ_n, tstJ_n, tlen_I, tlen_R, tcl_12, tgR_12_0, tpR_12_0, tgR_12_1, tpR_12_1, tgR_12_2, tpR_12_2, tgR_12_3, tpR_12_3, tgR_12_4, tpR_12_4, tgI_12_5, tpI_12_5, tgR_12_6, tpR_12_6, tgR_12_7, tpR_12_7, tgR_12_8, tpR_12_8, tgR_12_9, tpR_12_9, tgR_12_10, tpR_12_10, tgR_12_11, tpR_12_11, tcl_1, tgR_1_0, tpR_1_0, tgR_1_1, tpR_1_1, tgR_1_2, tpR_1_2, tgR_1_3, tpR_1_3, tgR_1_4, tpR_1_4, tgR_1_5, tpR_1_5, tgI_1_6, tpI_1_6, tgI_1_7, tpI_1_7, tgI_1_8, tpI_1_8, xk, xr0, xr1, xr2, xr3, xr4, xr6, xr7, xr8, xr9, xr10, xr11, hk, hr0, hk0, hl0, hr1, hk1, hl1, hr2, hk2, hl2, hr3, hk3, hl3, hr4, hk4, hl4, hr5, hk5, hl5, hj2, Option.bind_some, h1.2.2.2.2 j hj]
    rw [mld_n (k := 13) (show j < 60 by omega) (by decide), hm.2.2.2.2 j hj]
    exact op_same I0 _
/-- the hands' numbers and the plan's flag are set: where that is seen -/
theorem ag2 {b : Nat} {C : CH} {k : Nat} {x : Int32} {a : Nat} (h1 : a ≠ b + 4) (h2 : a ≠ b + 18) : Agr C (s_iv (s_iv C (up2 (c_iv C) (b + 4) k x)) (up2 (up2 (c_iv C) (b + 4) k x) (b + 18) 5 0)) a := ((Fr.iv (lo := b + 4) (hi := b + 4) _ (by omega)).ag (by omega)).tr ((Fr.iv (C := s_iv C (up2 (c_iv C) (b + 4) k x)) (lo := b + 18) (hi := b + 18) (a := b + 18) (k := 5) 0 (by omega)).ag (by omega))
theorem op_floor {b : Nat} {C : CH} {M : MS} (I : Inv b C M) (x : Int32) : OP b (t_X11_floor b x C) (g_X12_floor x M) := by
  have I0 := I
  obtain ⟨H, S, T, bw, X, R, K, I⟩ := I
  obtain ⟨IB, ⟨h1, hm, hok⟩, _⟩ := id I
  obtain ⟨xk, xr0, xr1, xr2, xr3, xr4, xr6, xr7, xr8, xr9, xr10, xr11⟩ := IB.1.x
  obtain ⟨hk, hr0, hk0, hl0, hr1, hk1, hl1, hr2, hk2, hl2, hr3, hk3, hl3, hr4, hk4, hl4, hr5, hk5, hl5⟩ := IB.1.2.2.1.f
  have tk := IB.1.ts
  unfold t_X11_floor g_X12_floor
  rw [gin_eq (l := 0) (h := 100) x 0 100 M rfl rfl, tw_eq]
  by_cases hv : x < 0 ∨ 100 < x
  · simp only [hv, ↓reduceIte, Option.bind_some]
    exact op_same I0 _
  · obtain ⟨j, hj, rfl⟩ := within_nI (n := 100) rfl hv
    simp only [hv, ↓reduceIte, i10, Option.bind_some, OP, WP_bind, WP_some, Option.bind_some, Sum.elim_inl, Sum.elim_inr, ↓reduceIte, tcl_12, tgR_12_0, tpR_12_0, tgR_12_1, tpR_12_1, tgR_12_2, tpR_12_2, tgR_12_3, tpR_12_3, tgR_12_4, tpR_12_4, tgI_12_5, tpI_12_5, tgR_12_6, tpR_12_6, tgR_12_7, tpR_12_7, tgR_12_8, tpR_12_8, tgR_12_9, tpR_12_9, tgR_12_10, tpR_12_10, tgR_12_11, tpR_12_11, tcl_1, tgR_1_0, tpR_1_0, tgR_1_1, tpR_1_1, tgR_1_2, tpR_1_2, tgR_1_3, tpR_1_3, tgR_1_4, tpR_1_4, tgR_1_5, tpR_1_5, tgI_1_6, tpI_1_6, tgI_1_7, tpI_1_7, tgI_1_8, tpI_1_8, tcl_10, tgR_10_0, tpR_10_0, tgR_10_1, tpR_10_1, tgR_10_2, tpR_10_2, tgR_10_3, tpR_10_3, tgI_10_4, tpI_10_4, tgI_10_5, tpI_10_5, tgI_10_6, tpI_10_6, tgI_10_7, tpI_10_7, tgI_10_8, tpI_10_8, xk, xr0, xr1, xr2, xr3, xr4, xr6, xr7, xr8, xr9, xr10, xr11, hk, hr0, hk0, hl0, hr1, hk1, hl1, hr2, hk2, hl2, hr3, hk3, hl3, hr4, hk4, hl4, hr5, hk5, hl5, tk, s_iv_1, s_iv_2, s_iv_kd, s_iv_ln, s_iv_iv, s_iv_jv, s_iv_rv, s_iv_ar, s_iv_al, s_iv_ro, s_jv_1, s_jv_2, s_jv_kd, s_jv_ln, s_jv_iv, s_jv_jv, s_jv_rv, s_jv_ar, s_jv_al, s_jv_ro, s_rv_1, s_rv_2, s_rv_kd, s_rv_ln, s_rv_iv, s_rv_jv, s_rv_rv, s_rv_ar, s_rv_al, s_rv_ro, s_ar_1, s_ar_2, s_ar_kd, s_ar_ln, s_ar_iv, s_ar_jv, s_ar_rv, s_ar_ar, s_ar_al, s_ar_ro, s_al_1, s_al_2, s_al_kd, s_al_ln, s_al_iv, s_al_jv, s_al_rv, s_al_ar, s_al_al, s_al_ro, s_ro_1, s_ro_2, s_ro_kd, s_ro_ln, s_ro_iv, s_ro_jv, s_ro_rv, s_ro_ar, s_ro_al, s_ro_ro, h1.2.2.1, hm.2.2.1]
    refine ⟨trivial, I.hands (H' := (H.1, H.2.1, H.2.2.1, H.2.2.2.1, j)) (Nat.le_refl _) rfl (fun a _ => AgS.rf _ _) (fun a _ p q => ag2 (by omega) q) (FM.I _ (by decide)) ⟨⟨?_, h1.1.2⟩, ?_, ?_, h1.2.2.2⟩ ⟨hm.1.fr (FM.I (I := [15]) (A := []) _ (by decide)) (by decide), ?_, msI_e _ _ _, hm.2.2.2⟩ ⟨hok.1, hok.2.1, hj, hok.2.2.2⟩ ?_⟩
    · simp [s_iv_1, s_iv_2, s_iv_kd, s_iv_ln, s_iv_iv, s_iv_jv, s_iv_rv, s_iv_ar, s_iv_al, s_iv_ro, s_jv_1, s_jv_2, s_jv_kd, s_jv_ln, s_jv_iv, s_jv_jv, s_jv_rv, s_jv_ar, s_jv_al, s_jv_ro, s_rv_1, s_rv_2, s_rv_kd, s_rv_ln, s_rv_iv, s_rv_jv, s_rv_rv, s_rv_ar, s_rv_al, s_rv_ro, s_ar_1, s_ar_2, s_ar_kd, s_ar_ln, s_ar_iv, s_ar_jv, s_ar_rv, s_ar_ar, s_ar_al, s_ar_ro, s_al_1, s_al_2, s_al_kd, s_al_ln, s_al_iv, s_al_jv, s_al_rv, s_al_ar, s_al_al, s_al_ro, s_ro_1, s_ro_2, s_ro_kd, s_ro_ln, s_ro_iv, s_ro_jv, s_ro_rv, s_ro_ar, s_ro_al, s_ro_ro, up2, h1.1.1]
    · simp [s_iv_1, s_iv_2, s_iv_kd, s_iv_ln, s_iv_iv, s_iv_jv, s_iv_rv, s_iv_ar, s_iv_al, s_iv_ro, s_jv_1, s_jv_2, s_jv_kd, s_jv_ln, s_jv_iv, s_jv_jv, s_jv_rv, s_jv_ar, s_jv_al, s_jv_ro, s_rv_1, s_rv_2, s_rv_kd, s_rv_ln, s_rv_iv, s_rv_jv, s_rv_rv, s_rv_ar, s_rv_al, s_rv_ro, s_ar_1, s_ar_2, s_ar_kd, s_ar_ln, s_ar_iv, s_ar_jv, s_ar_rv, s_ar_ar, s_ar_al, s_ar_ro, s_al_1, s_al_2, s_al_kd, s_al_ln, s_al_iv, s_al_jv, s_al_rv, s_al_ar, s_al_al, s_al_ro, s_ro_1, s_ro_2, s_ro_kd, s_ro_ln, s_ro_iv, s_ro_jv, s_ro_rv, s_ro_ar, s_ro_al, s_ro_ro, up2, h1.2.1]
    · simp [s_iv_1, s_iv_2, s_iv_kd, s_iv_ln, s_iv_iv, s_iv_jv, s_iv_rv, s_iv_ar, s_iv_al, s_iv_ro, s_jv_1, s_jv_2, s_jv_kd, s_jv_ln, s_jv_iv, s_jv_jv, s_jv_rv, s_jv_ar, s_jv_al, s_jv_ro, s_rv_1, s_rv_2, s_rv_kd, s_rv_ln, s_rv_iv, s_rv_jv, s_rv_rv, s_rv_ar, s_rv_al, s_rv_ro, s_ar_1, s_ar_2, s_ar_kd, s_ar_ln, s_ar_iv, s_ar_jv, s_ar_rv, s_ar_ar, s_ar_al, s_ar_ro, s_al_1, s_al_2, s_al_kd, s_al_ln, s_al_iv, s_al_jv, s_al_rv, s_al_ar, s_al_al, s_al_ro, s_ro_1, s_ro_2, s_ro_kd, s_ro_ln, s_ro_iv, s_ro_jv, s_ro_rv, s_ro_ar, s_ro_al, s_ro_ro, up2]
    · rw [msI_n (by decide)]; exact hm.2.1
    · simp [s_iv_1, s_iv_2, s_iv_kd, s_iv_ln, s_iv_iv, s_iv_jv, s_iv_rv, s_iv_ar, s_iv_al, s_iv_ro, s_jv_1, s_jv_2, s_jv_kd, s_jv_ln, s_jv_iv, s_jv_jv, s_jv_rv, s_jv_ar, s_jv_al, s_jv_ro, s_rv_1, s_rv_2, s_rv_kd, s_rv_ln, s_rv_iv, s_rv_jv, s_rv_rv, s_rv_ar, s_rv_al, s_rv_ro, s_ar_1, s_ar_2, s_ar_kd, s_ar_ln, s_ar_iv, s_ar_jv, s_ar_rv, s_ar_ar, s_ar_al, s_ar_ro, s_al_1, s_al_2, s_al_kd, s_al_ln, s_al_iv, s_al_jv, s_al_rv, s_al_ar, s_al_al, s_al_ro, s_ro_1, s_ro_2, s_ro_kd, s_ro_ln, s_ro_iv, s_ro_jv, s_ro_rv, s_ro_ar, s_ro_al, s_ro_ro, up2]
theorem nI_all {n : Nat} (hn : n ≤ 10) : (1 : Int32) <<< (nI n &&& 31) - 1 = nI (2 ^ n - 1) := by
  rw [nI_shl1 n (by omega), show (1 : Int32) = nI 1 from rfl, nI_subI (Nat.one_le_two_pow)]
theorem pow_le {n : Nat} (hn : n ≤ 10) : 2 ^ n ≤ 1024 := Nat.pow_le_pow_right (by decide) hn
theorem op_crew {b : Nat} {C : CH} {M : MS} (I : Inv b C M) (x : Int32) : OP b (t_X11_crew b x C) (g_X12_crew x M) := by
  have I0 := I
  obtain ⟨H, S, T, bw, X, R, K, I⟩ := I
  obtain ⟨IB, ⟨h1, hm, hok⟩, _⟩ := id I
  obtain ⟨xk, xr0, xr1, xr2, xr3, xr4, xr6, xr7, xr8, xr9, xr10, xr11⟩ := IB.1.x
  obtain ⟨hk, hr0, hk0, hl0, hr1, hk1, hl1, hr2, hk2, hl2, hr3, hk3, hl3, hr4, hk4, hl4, hr5, hk5, hl5⟩ := IB.1.2.2.1.f
  have tk := IB.1.ts
  have hn := hok.1.1
  have hp := pow_le hn
  have hp1 : 1 ≤ 2 ^ H.1.1 := Nat.one_le_two_pow
  unfold t_X11_crew g_X12_crew t_X0_allSet
  rw [hm.1.1, gin_eq (l := 0) x 0 ((1 : Int32) <<< (nI H.1.1 &&& 31) - 1) M rfl rfl]
  simp only [tcl_12, tgR_12_0, tpR_12_0, tgR_12_1, tpR_12_1, tgR_12_2, tpR_12_2, tgR_12_3, tpR_12_3, tgR_12_4, tpR_12_4, tgI_12_5, tpI_12_5, tgR_12_6, tpR_12_6, tgR_12_7, tpR_12_7, tgR_12_8, tpR_12_8, tgR_12_9, tpR_12_9, tgR_12_10, tpR_12_10, tgR_12_11, tpR_12_11, tcl_1, tgR_1_0, tpR_1_0, tgR_1_1, tpR_1_1, tgR_1_2, tpR_1_2, tgR_1_3, tpR_1_3, tgR_1_4, tpR_1_4, tgR_1_5, tpR_1_5, tgI_1_6, tpI_1_6, tgI_1_7, tpI_1_7, tgI_1_8, tpI_1_8, xk, xr0, xr1, xr2, xr3, xr4, xr6, xr7, xr8, xr9, xr10, xr11, hk, Option.bind_some, h1.1.1, tw_eq, nI_all hn]
  by_cases hv : x < 0 ∨ nI (2 ^ H.1.1 - 1) < x
  · simp only [hv, ↓reduceIte, Option.bind_some]
    exact op_same I0 _
  · obtain ⟨j, hj, rfl⟩ := within_nI (n := 2 ^ H.1.1 - 1) (nI_toInt (by omega)) hv
    simp only [hv, ↓reduceIte, i10, Option.bind_some, OP, WP_bind, WP_some, Option.bind_some, Sum.elim_inl, Sum.elim_inr, ↓reduceIte, tcl_12, tgR_12_0, tpR_12_0, tgR_12_1, tpR_12_1, tgR_12_2, tpR_12_2, tgR_12_3, tpR_12_3, tgR_12_4, tpR_12_4, tgI_12_5, tpI_12_5, tgR_12_6, tpR_12_6, tgR_12_7, tpR_12_7, tgR_12_8, tpR_12_8, tgR_12_9, tpR_12_9, tgR_12_10, tpR_12_10, tgR_12_11, tpR_12_11, tcl_1, tgR_1_0, tpR_1_0, tgR_1_1, tpR_1_1, tgR_1_2, tpR_1_2, tgR_1_3, tpR_1_3, tgR_1_4, tpR_1_4, tgR_1_5, tpR_1_5, tgI_1_6, tpI_1_6, tgI_1_7, tpI_1_7, tgI_1_8, tpI_1_8, tcl_10, tgR_10_0, tpR_10_0, tgR_10_1, tpR_10_1, tgR_10_2, tpR_10_2, tgR_10_3, tpR_10_3, tgI_10_4, tpI_10_4, tgI_10_5, tpI_10_5, tgI_10_6, tpI_10_6, tgI_10_7, tpI_10_7, tgI_10_8, tpI_10_8, xk, xr0, xr1, xr2, xr3, xr4, xr6, xr7, xr8, xr9, xr10, xr11, hk, hr0, hk0, hl0, hr1, hk1, hl1, hr2, hk2, hl2, hr3, hk3, hl3, hr4, hk4, hl4, hr5, hk5, hl5, tk, s_iv_1, s_iv_2, s_iv_kd, s_iv_ln, s_iv_iv, s_iv_jv, s_iv_rv, s_iv_ar, s_iv_al, s_iv_ro, s_jv_1, s_jv_2, s_jv_kd, s_jv_ln, s_jv_iv, s_jv_jv, s_jv_rv, s_jv_ar, s_jv_al, s_jv_ro, s_rv_1, s_rv_2, s_rv_kd, s_rv_ln, s_rv_iv, s_rv_jv, s_rv_rv, s_rv_ar, s_rv_al, s_rv_ro, s_ar_1, s_ar_2, s_ar_kd, s_ar_ln, s_ar_iv, s_ar_jv, s_ar_rv, s_ar_ar, s_ar_al, s_ar_ro, s_al_1, s_al_2, s_al_kd, s_al_ln, s_al_iv, s_al_jv, s_al_rv, s_al_ar, s_al_al, s_al_ro, s_ro_1, s_ro_2, s_ro_kd, s_ro_ln, s_ro_iv, s_ro_jv, s_ro_rv, s_ro_ar, s_ro_al, s_ro_ro, h1.2.1, hm.2.1]
    refine ⟨trivial, I.hands (H' := (H.1, H.2.1, H.2.2.1, j, H.2.2.2.2)) (Nat.le_refl _) rfl (fun a _ => AgS.rf _ _) (fun a _ p q => ag2 (by omega) q) (FM.I _ (by decide)) ⟨⟨?_, h1.1.2⟩, ?_, ?_, h1.2.2.2⟩ ⟨hm.1.fr (FM.I (I := [14]) (A := []) _ (by decide)) (by decide), msI_e _ _ _, ?_, hm.2.2.2⟩ ⟨hok.1, by show j < 2 ^ H.1.1; omega, hok.2.2⟩ ?_⟩
    · simp [s_iv_1, s_iv_2, s_iv_kd, s_iv_ln, s_iv_iv, s_iv_jv, s_iv_rv, s_iv_ar, s_iv_al, s_iv_ro, s_jv_1, s_jv_2, s_jv_kd, s_jv_ln, s_jv_iv, s_jv_jv, s_jv_rv, s_jv_ar, s_jv_al, s_jv_ro, s_rv_1, s_rv_2, s_rv_kd, s_rv_ln, s_rv_iv, s_rv_jv, s_rv_rv, s_rv_ar, s_rv_al, s_rv_ro, s_ar_1, s_ar_2, s_ar_kd, s_ar_ln, s_ar_iv, s_ar_jv, s_ar_rv, s_ar_ar, s_ar_al, s_ar_ro, s_al_1, s_al_2, s_al_kd, s_al_ln, s_al_iv, s_al_jv, s_al_rv, s_al_ar, s_al_al, s_al_ro, s_ro_1, s_ro_2, s_ro_kd, s_ro_ln, s_ro_iv, s_ro_jv, s_ro_rv, s_ro_ar, s_ro_al, s_ro_ro, up2, h1.1.1]
    · simp [s_iv_1, s_iv_2, s_iv_kd, s_iv_ln, s_iv_iv, s_iv_jv, s_iv_rv, s_iv_ar, s_iv_al, s_iv_ro, s_jv_1, s_jv_2, s_jv_kd, s_jv_ln, s_jv_iv, s_jv_jv, s_jv_rv, s_jv_ar, s_jv_al, s_jv_ro, s_rv_1, s_rv_2, s_rv_kd, s_rv_ln, s_rv_iv, s_rv_jv, s_rv_rv, s_rv_ar, s_rv_al, s_rv_ro, s_ar_1, s_ar_2, s_ar_kd, s_ar_ln, s_ar_iv, s_ar_jv, s_ar_rv, s_ar_ar, s_ar_al, s_ar_ro, s_al_1, s_al_2, s_al_kd, s_al_ln, s_al_iv, s_al_jv, s_al_rv, s_al_ar, s_al_al, s_al_ro, s_ro_1, s_ro_2, s_ro_kd, s_ro_ln, s_ro_iv, s_ro_jv, s_ro_rv, s_ro_ar, s_ro_al, s_ro_ro, up2]
    · simp [s_iv_1, s_iv_2, s_iv_kd, s_iv_ln, s_iv_iv, s_iv_jv, s_iv_rv, s_iv_ar, s_iv_al, s_iv_ro, s_jv_1, s_jv_2, s_jv_kd, s_jv_ln, s_jv_iv, s_jv_jv, s_jv_rv, s_jv_ar, s_jv_al, s_jv_ro, s_rv_1, s_rv_2, s_rv_kd, s_rv_ln, s_rv_iv, s_rv_jv, s_rv_rv, s_rv_ar, s_rv_al, s_rv_ro, s_ar_1, s_ar_2, s_ar_kd, s_ar_ln, s_ar_iv, s_ar_jv, s_ar_rv, s_ar_ar, s_ar_al, s_ar_ro, s_al_1, s_al_2, s_al_kd, s_al_ln, s_al_iv, s_al_jv, s_al_rv, s_al_ar, s_al_al, s_al_ro, s_ro_1, s_ro_2, s_ro_kd, s_ro_ln, s_ro_iv, s_ro_jv, s_ro_rv, s_ro_ar, s_ro_al, s_ro_ro, up2, h1.2.2.1]
    · rw [msI_n (by decide)]; exact hm.2.2.1
    · simp [s_iv_1, s_iv_2, s_iv_kd, s_iv_ln, s_iv_iv, s_iv_jv, s_iv_rv, s_iv_ar, s_iv_al, s_iv_ro, s_jv_1, s_jv_2, s_jv_kd, s_jv_ln, s_jv_iv, s_jv_jv, s_jv_rv, s_jv_ar, s_jv_al, s_jv_ro, s_rv_1, s_rv_2, s_rv_kd, s_rv_ln, s_rv_iv, s_rv_jv, s_rv_rv, s_rv_ar, s_rv_al, s_rv_ro, s_ar_1, s_ar_2, s_ar_kd, s_ar_ln, s_ar_iv, s_ar_jv, s_ar_rv, s_ar_ar, s_ar_al, s_ar_ro, s_al_1, s_al_2, s_al_kd, s_al_ln, s_al_iv, s_al_jv, s_al_rv, s_al_ar, s_al_al, s_al_ro, s_ro_1, s_ro_2, s_ro_kd, s_ro_ln, s_ro_iv, s_ro_jv, s_ro_rv, s_ro_ar, s_ro_al, s_ro_ro, up2]
theorem op_late {b : Nat} {C : CH} {M : MS} (I : Inv b C M) (x y : Int32) : OP b (t_X11_late b x y C) (g_X12_late x y M) := by
  have I0 := I
  obtain ⟨H, S, T, bw, X, R, K, I⟩ := I
  obtain ⟨IB, ⟨h1, hm, hok⟩, _⟩ := id I
  obtain ⟨xk, xr0, xr1, xr2, xr3, xr4, xr6, xr7, xr8, xr9, xr10, xr11⟩ := IB.1.x
  obtain ⟨hk, hr0, hk0, hl0, hr1, hk1, hl1, hr2, hk2, hl2, hr3, hk3, hl3, hr4, hk4, hl4, hr5, hk5, hl5⟩ := IB.1.2.2.1.f
  have tk := IB.1.ts
  have hn := hok.1.1
  unfold t_X11_late g_X12_late
  rw [noHand_eq hm.1]
  simp only [tcl_12, tgR_12_0, tpR_12_0, tgR_12_1, tpR_12_1, tgR_12_2, tpR_12_2, tgR_12_3, tpR_12_3, tgR_12_4, tpR_12_4, tgI_12_5, tpI_12_5, tgR_12_6, tpR_12_6, tgR_12_7, tpR_12_7, tgR_12_8, tpR_12_8, tgR_12_9, tpR_12_9, tgR_12_10, tpR_12_10, tgR_12_11, tpR_12_11, tcl_1, tgR_1_0, tpR_1_0, tgR_1_1, tpR_1_1, tgR_1_2, tpR_1_2, tgR_1_3, tpR_1_3, tgR_1_4, tpR_1_4, tgR_1_5, tpR_1_5, tgI_1_6, tpI_1_6, tgI_1_7, tpI_1_7, tgI_1_8, tpI_1_8, xk, xr0, xr1, xr2, xr3, xr4, xr6, xr7, xr8, xr9, xr10, xr11, hk, Option.bind_some, has_eq IB.1.2.2.1 h1.1]
  by_cases hv : x < 0 ∨ nI H.1.1 - 1 < x
  · simp only [hv, ↓reduceIte, i10]
    exact op_same I0 _
  · simp only [hv, ↓reduceIte, i10, Option.bind_some]
    rw [gin_eq (l := 0) (h := 3) y 0 3 M rfl rfl, tw_eq]
    obtain ⟨j, hj, rfl⟩ := in_n (by omega) hv
    have hj2 : j < 10 := by omega
    by_cases hv2 : y < 0 ∨ 3 < y
    · simp only [hv2, ↓reduceIte, Option.bind_some]
      exact op_same I0 _
    · obtain ⟨i, hi, rfl⟩ := within_nI (n := 3) rfl hv2
      simp only [hv2, ↓reduceIte, i10, Option.bind_some, OP, WP_bind, WP_some, Option.bind_some, Sum.elim_inl, Sum.elim_inr, ↓reduceIte, tcl_12, tgR_12_0, tpR_12_0, tgR_12_1, tpR_12_1, tgR_12_2, tpR_12_2, tgR_12_3, tpR_12_3, tgR_12_4, tpR_12_4, tgI_12_5, tpI_12_5, tgR_12_6, tpR_12_6, tgR_12_7, tpR_12_7, tgR_12_8, tpR_12_8, tgR_12_9, tpR_12_9, tgR_12_10, tpR_12_10, tgR_12_11, tpR_12_11, tcl_1, tgR_1_0, tpR_1_0, tgR_1_1, tpR_1_1, tgR_1_2, tpR_1_2, tgR_1_3, tpR_1_3, tgR_1_4, tpR_1_4, tgR_1_5, tpR_1_5, tgI_1_6, tpI_1_6, tgI_1_7, tpI_1_7, tgI_1_8, tpI_1_8, tcl_10, tgR_10_0, tpR_10_0, tgR_10_1, tpR_10_1, tgR_10_2, tpR_10_2, tgR_10_3, tpR_10_3, tgI_10_4, tpI_10_4, tgI_10_5, tpI_10_5, tgI_10_6, tpI_10_6, tgI_10_7, tpI_10_7, tgI_10_8, tpI_10_8, Nat.reduceLT, tld_n, tst_n, tldB_n, tstB_n, tldR3_n, tldR4_n, tldJ_n, tstJ_n, tlen_I, tlen_R, xk, xr0, xr1, xr2, xr3, xr4, xr6, xr7, xr8, xr9, xr10, xr11, hk, hr0, hk0, hl0, hr1, hk1, hl1, hr2, hk2, hl2, hr3, hk3, hl3, hr4, hk4, hl4, hr5, hk5, hl5, tk, s_iv_1, s_iv_2, s_iv_kd, s_iv_ln, s_iv_iv, s_iv_jv, s_iv_rv, s_iv_ar, s_iv_al, s_iv_ro, s_jv_1, s_jv_2, s_jv_kd, s_jv_ln, s_jv_iv, s_jv_jv, s_jv_rv, s_jv_ar, s_jv_al, s_jv_ro, s_rv_1, s_rv_2, s_rv_kd, s_rv_ln, s_rv_iv, s_rv_jv, s_rv_rv, s_rv_ar, s_rv_al, s_rv_ro, s_ar_1, s_ar_2, s_ar_kd, s_ar_ln, s_ar_iv, s_ar_jv, s_ar_rv, s_ar_ar, s_ar_al, s_ar_ro, s_al_1, s_al_2, s_al_kd, s_al_ln, s_al_iv, s_al_jv, s_al_rv, s_al_ar, s_al_al, s_al_ro, s_ro_1, s_ro_2, s_ro_kd, s_ro_ln, s_ro_iv, s_ro_jv, s_ro_rv, s_ro_ar, s_ro_al, s_ro_ro, hj2, h1.2.2.2.1 j hj2]
      rw [mld_n (k := 12) (show j < 10 from hj2) (by decide), mst_n (k := 12) (show j < 10 from hj2) (by decide)]
      simp only [WP_bind, WP_some, Option.bind_some, Sum.elim_inl, Sum.elim_inr, ↓reduceIte, hm.2.2.2.1 j hj]
      refine ⟨trivial, I.hands (H' := (H.1, updN H.2.1 j i, H.2.2.1, H.2.2.2.1, H.2.2.2.2)) (Nat.le_refl _) rfl (fun a _ => AgS.rf _ _) (fun a _ p q => ((Fr.ar (lo := b + 9) (hi := b + 9) _ (by omega)).ag (by omega)).tr ((Fr.iv (lo := b + 18) (hi := b + 18) (a := b + 18) (k := 5) 0 (by omega)).ag (by omega))) (FM.A _ (by decide)) ⟨⟨?_, fun h hh => ?_⟩, ?_, ?_, fun h hh => ?_, fun h hh => ?_⟩ ⟨hm.1.fr (FM.A (I := []) (A := [12]) _ (by decide)) (by decide), hm.2.1, hm.2.2.1, fun h hh => ?_, hm.2.2.2.2⟩ ⟨hok.1, hok.2.1, hok.2.2.1, fun h => ?_, fun h hh => ?_, hok.2.2.2.2.2⟩ ?_⟩
      · simp [s_iv_1, s_iv_2, s_iv_kd, s_iv_ln, s_iv_iv, s_iv_jv, s_iv_rv, s_iv_ar, s_iv_al, s_iv_ro, s_jv_1, s_jv_2, s_jv_kd, s_jv_ln, s_jv_iv, s_jv_jv, s_jv_rv, s_jv_ar, s_jv_al, s_jv_ro, s_rv_1, s_rv_2, s_rv_kd, s_rv_ln, s_rv_iv, s_rv_jv, s_rv_rv, s_rv_ar, s_rv_al, s_rv_ro, s_ar_1, s_ar_2, s_ar_kd, s_ar_ln, s_ar_iv, s_ar_jv, s_ar_rv, s_ar_ar, s_ar_al, s_ar_ro, s_al_1, s_al_2, s_al_kd, s_al_ln, s_al_iv, s_al_jv, s_al_rv, s_al_ar, s_al_al, s_al_ro, s_ro_1, s_ro_2, s_ro_kd, s_ro_ln, s_ro_iv, s_ro_jv, s_ro_rv, s_ro_ar, s_ro_al, s_ro_ro, up2, h1.1.1]
      · simp only [s_iv_1, s_iv_2, s_iv_kd, s_iv_ln, s_iv_iv, s_iv_jv, s_iv_rv, s_iv_ar, s_iv_al, s_iv_ro, s_jv_1, s_jv_2, s_jv_kd, s_jv_ln, s_jv_iv, s_jv_jv, s_jv_rv, s_jv_ar, s_jv_al, s_jv_ro, s_rv_1, s_rv_2, s_rv_kd, s_rv_ln, s_rv_iv, s_rv_jv, s_rv_rv, s_rv_ar, s_rv_al, s_rv_ro, s_ar_1, s_ar_2, s_ar_kd, s_ar_ln, s_ar_iv, s_ar_jv, s_ar_rv, s_ar_ar, s_ar_al, s_ar_ro, s_al_1, s_al_2, s_al_kd, s_al_ln, s_al_iv, s_al_jv, s_al_rv, s_al_ar, s_al_al, s_al_ro, s_ro_1, s_ro_2, s_ro_kd, s_ro_ln, s_ro_iv, s_ro_jv, s_ro_rv, s_ro_ar, s_ro_al, s_ro_ro]
        rw [va_n (by omega), va_n (by omega), va_n (by omega), va_n (by omega)]
        exact h1.1.2 h hh
      · simp [s_iv_1, s_iv_2, s_iv_kd, s_iv_ln, s_iv_iv, s_iv_jv, s_iv_rv, s_iv_ar, s_iv_al, s_iv_ro, s_jv_1, s_jv_2, s_jv_kd, s_jv_ln, s_jv_iv, s_jv_jv, s_jv_rv, s_jv_ar, s_jv_al, s_jv_ro, s_rv_1, s_rv_2, s_rv_kd, s_rv_ln, s_rv_iv, s_rv_jv, s_rv_rv, s_rv_ar, s_rv_al, s_rv_ro, s_ar_1, s_ar_2, s_ar_kd, s_ar_ln, s_ar_iv, s_ar_jv, s_ar_rv, s_ar_ar, s_ar_al, s_ar_ro, s_al_1, s_al_2, s_al_kd, s_al_ln, s_al_iv, s_al_jv, s_al_rv, s_al_ar, s_al_al, s_al_ro, s_ro_1, s_ro_2, s_ro_kd, s_ro_ln, s_ro_iv, s_ro_jv, s_ro_rv, s_ro_ar, s_ro_al, s_ro_ro, up2, h1.2.1]
      · simp [s_iv_1, s_iv_2, s_iv_kd, s_iv_ln, s_iv_iv, s_iv_jv, s_iv_rv, s_iv_ar, s_iv_al, s_iv_ro, s_jv_1, s_jv_2, s_jv_kd, s_jv_ln, s_jv_iv, s_jv_jv, s_jv_rv, s_jv_ar, s_jv_al, s_jv_ro, s_rv_1, s_rv_2, s_rv_kd, s_rv_ln, s_rv_iv, s_rv_jv, s_rv_rv, s_rv_ar, s_rv_al, s_rv_ro, s_ar_1, s_ar_2, s_ar_kd, s_ar_ln, s_ar_iv, s_ar_jv, s_ar_rv, s_ar_ar, s_ar_al, s_ar_ro, s_al_1, s_al_2, s_al_kd, s_al_ln, s_al_iv, s_al_jv, s_al_rv, s_al_ar, s_al_al, s_al_ro, s_ro_1, s_ro_2, s_ro_kd, s_ro_ln, s_ro_iv, s_ro_jv, s_ro_rv, s_ro_ar, s_ro_al, s_ro_ro, up2, h1.2.2.1]
      · simp only [s_iv_1, s_iv_2, s_iv_kd, s_iv_ln, s_iv_iv, s_iv_jv, s_iv_rv, s_iv_ar, s_iv_al, s_iv_ro, s_jv_1, s_jv_2, s_jv_kd, s_jv_ln, s_jv_iv, s_jv_jv, s_jv_rv, s_jv_ar, s_jv_al, s_jv_ro, s_rv_1, s_rv_2, s_rv_kd, s_rv_ln, s_rv_iv, s_rv_jv, s_rv_rv, s_rv_ar, s_rv_al, s_rv_ro, s_ar_1, s_ar_2, s_ar_kd, s_ar_ln, s_ar_iv, s_ar_jv, s_ar_rv, s_ar_ar, s_ar_al, s_ar_ro, s_al_1, s_al_2, s_al_kd, s_al_ln, s_al_iv, s_al_jv, s_al_rv, s_al_ar, s_al_al, s_al_ro, s_ro_1, s_ro_2, s_ro_kd, s_ro_ln, s_ro_iv, s_ro_jv, s_ro_rv, s_ro_ar, s_ro_al, s_ro_ro, va_e]
        show upd _ _ _ _ = nI (if h = j then i else H.2.1 h)
        by_cases hhj : h = j
        · subst hhj; rw [upd_e, if_pos rfl]
        · rw [upd_n hhj, if_neg hhj]; exact h1.2.2.2.1 h hh
      · simp only [s_iv_1, s_iv_2, s_iv_kd, s_iv_ln, s_iv_iv, s_iv_jv, s_iv_rv, s_iv_ar, s_iv_al, s_iv_ro, s_jv_1, s_jv_2, s_jv_kd, s_jv_ln, s_jv_iv, s_jv_jv, s_jv_rv, s_jv_ar, s_jv_al, s_jv_ro, s_rv_1, s_rv_2, s_rv_kd, s_rv_ln, s_rv_iv, s_rv_jv, s_rv_rv, s_rv_ar, s_rv_al, s_rv_ro, s_ar_1, s_ar_2, s_ar_kd, s_ar_ln, s_ar_iv, s_ar_jv, s_ar_rv, s_ar_ar, s_ar_al, s_ar_ro, s_al_1, s_al_2, s_al_kd, s_al_ln, s_al_iv, s_al_jv, s_al_rv, s_al_ar, s_al_al, s_al_ro, s_ro_1, s_ro_2, s_ro_kd, s_ro_ln, s_ro_iv, s_ro_jv, s_ro_rv, s_ro_ar, s_ro_al, s_ro_ro]
        rw [va_n (by omega)]
        exact h1.2.2.2.2 h hh
      · rw [msA_u]
        show _ = nI (if h = j then i else H.2.1 h)
        by_cases hhj : h = j
        · rw [if_pos hhj, if_pos hhj]
        · rw [if_neg hhj, if_neg hhj]; exact hm.2.2.2.1 h hh
      · show (if h = j then i else H.2.1 h) ≤ 3
        by_cases hhj : h = j
        · rw [if_pos hhj]; exact hi
        · rw [if_neg hhj]; exact hok.2.2.2.1 h
      · show (if h = j then i else H.2.1 h) = 0
        have hh' : H.1.1 ≤ h := hh
        rw [if_neg (by omega)]
        exact hok.2.2.2.2.1 h hh
      · simp [s_iv_1, s_iv_2, s_iv_kd, s_iv_ln, s_iv_iv, s_iv_jv, s_iv_rv, s_iv_ar, s_iv_al, s_iv_ro, s_jv_1, s_jv_2, s_jv_kd, s_jv_ln, s_jv_iv, s_jv_jv, s_jv_rv, s_jv_ar, s_jv_al, s_jv_ro, s_rv_1, s_rv_2, s_rv_kd, s_rv_ln, s_rv_iv, s_rv_jv, s_rv_rv, s_rv_ar, s_rv_al, s_rv_ro, s_ar_1, s_ar_2, s_ar_kd, s_ar_ln, s_ar_iv, s_ar_jv, s_ar_rv, s_ar_ar, s_ar_al, s_ar_ro, s_al_1, s_al_2, s_al_kd, s_al_ln, s_al_iv, s_al_jv, s_al_rv, s_al_ar, s_al_al, s_al_ro, s_ro_1, s_ro_2, s_ro_kd, s_ro_ln, s_ro_iv, s_ro_jv, s_ro_rv, s_ro_ar, s_ro_al, s_ro_ro, up2]
theorem op_between {b : Nat} {C : CH} {M : MS} (I : Inv b C M) (x : Int32) : OP b (t_X11_between b x C) (g_X12_between x M) := by
  have I0 := I
  obtain ⟨H, S, T, bw, X, R, K, I⟩ := I
  obtain ⟨IB, _, _, _, ⟨b1, bm, bok⟩, _⟩ := id I
  obtain ⟨xk, xr0, xr1, xr2, xr3, xr4, xr6, xr7, xr8, xr9, xr10, xr11⟩ := IB.1.x
  have tk := IB.1.ts
  unfold t_X11_between g_X12_between
  rw [gin_eq (l := 0) (h := 50) x 0 50 M rfl rfl, tw_eq]
  by_cases hv : x < 0 ∨ 50 < x
  · simp only [hv, ↓reduceIte, Option.bind_some]
    exact op_same I0 _
  · obtain ⟨j, hj, rfl⟩ := within_nI (n := 50) rfl hv
    simp only [hv, ↓reduceIte, i10, Option.bind_some, OP, WP_bind, WP_some, Option.bind_some, Sum.elim_inl, Sum.elim_inr, ↓reduceIte, tcl_12, tgR_12_0, tpR_12_0, tgR_12_1, tpR_12_1, tgR_12_2, tpR_12_2, tgR_12_3, tpR_12_3, tgR_12_4, tpR_12_4, tgI_12_5, tpI_12_5, tgR_12_6, tpR_12_6, tgR_12_7, tpR_12_7, tgR_12_8, tpR_12_8, tgR_12_9, tpR_12_9, tgR_12_10, tpR_12_10, tgR_12_11, tpR_12_11, tcl_10, tgR_10_0, tpR_10_0, tgR_10_1, tpR_10_1, tgR_10_2, tpR_10_2, tgR_10_3, tpR_10_3, tgI_10_4, tpI_10_4, tgI_10_5, tpI_10_5, tgI_10_6, tpI_10_6, tgI_10_7, tpI_10_7, tgI_10_8, tpI_10_8, xk, xr0, xr1, xr2, xr3, xr4, xr6, xr7, xr8, xr9, xr10, xr11, tk, s_iv_1, s_iv_2, s_iv_kd, s_iv_ln, s_iv_iv, s_iv_jv, s_iv_rv, s_iv_ar, s_iv_al, s_iv_ro, s_jv_1, s_jv_2, s_jv_kd, s_jv_ln, s_jv_iv, s_jv_jv, s_jv_rv, s_jv_ar, s_jv_al, s_jv_ro, s_rv_1, s_rv_2, s_rv_kd, s_rv_ln, s_rv_iv, s_rv_jv, s_rv_rv, s_rv_ar, s_rv_al, s_rv_ro, s_ar_1, s_ar_2, s_ar_kd, s_ar_ln, s_ar_iv, s_ar_jv, s_ar_rv, s_ar_ar, s_ar_al, s_ar_ro, s_al_1, s_al_2, s_al_kd, s_al_ln, s_al_iv, s_al_jv, s_al_rv, s_al_ar, s_al_al, s_al_ro, s_ro_1, s_ro_2, s_ro_kd, s_ro_ln, s_ro_iv, s_ro_jv, s_ro_rv, s_ro_ar, s_ro_al, s_ro_ro, b1, bm]
    refine ⟨trivial, I.betw (w := j) (Nat.le_refl _) rfl (fun a _ => AgS.rf _ _) (fun a _ p q => ((Fr.iv (lo := b) (hi := b) _ (by omega)).ag (by omega)).tr ((Fr.iv (C := s_iv C (up2 (c_iv C) b 5 (nI j))) (lo := b + 18) (hi := b + 18) (a := b + 18) (k := 5) 0 (by omega)).ag (by omega))) (FM.I _ (by decide)) ?_ (msI_e _ _ _) hj ?_⟩
    · simp [s_iv_1, s_iv_2, s_iv_kd, s_iv_ln, s_iv_iv, s_iv_jv, s_iv_rv, s_iv_ar, s_iv_al, s_iv_ro, s_jv_1, s_jv_2, s_jv_kd, s_jv_ln, s_jv_iv, s_jv_jv, s_jv_rv, s_jv_ar, s_jv_al, s_jv_ro, s_rv_1, s_rv_2, s_rv_kd, s_rv_ln, s_rv_iv, s_rv_jv, s_rv_rv, s_rv_ar, s_rv_al, s_rv_ro, s_ar_1, s_ar_2, s_ar_kd, s_ar_ln, s_ar_iv, s_ar_jv, s_ar_rv, s_ar_ar, s_ar_al, s_ar_ro, s_al_1, s_al_2, s_al_kd, s_al_ln, s_al_iv, s_al_jv, s_al_rv, s_al_ar, s_al_al, s_al_ro, s_ro_1, s_ro_2, s_ro_kd, s_ro_ln, s_ro_iv, s_ro_jv, s_ro_rv, s_ro_ar, s_ro_al, s_ro_ro, up2]
    · simp [s_iv_1, s_iv_2, s_iv_kd, s_iv_ln, s_iv_iv, s_iv_jv, s_iv_rv, s_iv_ar, s_iv_al, s_iv_ro, s_jv_1, s_jv_2, s_jv_kd, s_jv_ln, s_jv_iv, s_jv_jv, s_jv_rv, s_jv_ar, s_jv_al, s_jv_ro, s_rv_1, s_rv_2, s_rv_kd, s_rv_ln, s_rv_iv, s_rv_jv, s_rv_rv, s_rv_ar, s_rv_al, s_rv_ro, s_ar_1, s_ar_2, s_ar_kd, s_ar_ln, s_ar_iv, s_ar_jv, s_ar_rv, s_ar_ar, s_ar_al, s_ar_ro, s_al_1, s_al_2, s_al_kd, s_al_ln, s_al_iv, s_al_jv, s_al_rv, s_al_ar, s_al_al, s_al_ro, s_ro_1, s_ro_2, s_ro_kd, s_ro_ln, s_ro_iv, s_ro_jv, s_ro_rv, s_ro_ar, s_ro_al, s_ro_ro, up2]
theorem op_wipe {b : Nat} {C : CH} {M : MS} (I : Inv b C M) : OP b (t_X11_wipe b C) (g_X12_wipe M) := by
  obtain ⟨H, S, T, bw, X, R, K, I⟩ := I
  obtain ⟨IB, _, _, _, _, _, _, ⟨k1, km, kok⟩, _⟩ := id I
  obtain ⟨xk, xr0, xr1, xr2, xr3, xr4, xr6, xr7, xr8, xr9, xr10, xr11⟩ := IB.1.x
  obtain ⟨mk, mr0, mk0, ml0, mr1, mk1, ml1⟩ := IB.1.2.2.2.2.2.2.1.f
  unfold t_X11_wipe g_X12_wipe
  simp only [OP, WP_bind, WP_some, Option.bind_some, Sum.elim_inl, Sum.elim_inr, ↓reduceIte, tcl_12, tgR_12_0, tpR_12_0, tgR_12_1, tpR_12_1, tgR_12_2, tpR_12_2, tgR_12_3, tpR_12_3, tgR_12_4, tpR_12_4, tgI_12_5, tpI_12_5, tgR_12_6, tpR_12_6, tgR_12_7, tpR_12_7, tgR_12_8, tpR_12_8, tgR_12_9, tpR_12_9, tgR_12_10, tpR_12_10, tgR_12_11, tpR_12_11, tcl_6, tgR_6_0, tpR_6_0, tgR_6_1, tpR_6_1, tgI_6_2, tpI_6_2, xk, xr0, xr1, xr2, xr3, xr4, xr6, xr7, xr8, xr9, xr10, xr11, mk, mr0, mk0, ml0, mr1, mk1, ml1, k1.1, km.1]
  refine ⟨trivial, I.mark (R' := (0, K.2)) (Nat.le_refl _) rfl (fun a _ => AgS.rf _ _) (fun a _ h1 => (Fr.iv (lo := b + 37) (hi := b + 37) _ (by omega)).ag (by omega)) (FM.I _ (by decide)) ⟨?_, fun k hk => absurd hk (Nat.not_lt_zero _)⟩ ⟨?_, fun k hk => absurd hk (Nat.not_lt_zero _)⟩ ⟨Nat.zero_le _, fun k hk => absurd hk (Nat.not_lt_zero _)⟩⟩
  · rw [iv_upd, if_pos ⟨rfl, rfl⟩]; rfl
  · rw [msI_e]; rfl
theorem op_mark {b : Nat} {C : CH} {M : MS} (I : Inv b C M) (x y : Int32) : OP b (t_X11_mark b x y C) (g_X12_mark x y M) := by
  have I0 := I
  obtain ⟨H, S, T, bw, X, R, K, I⟩ := I
  obtain ⟨IB, _, _, _, _, _, _, ⟨k1, km, kok⟩, _⟩ := id I
  obtain ⟨xk, xr0, xr1, xr2, xr3, xr4, xr6, xr7, xr8, xr9, xr10, xr11⟩ := IB.1.x
  obtain ⟨mk, mr0, mk0, ml0, mr1, mk1, ml1⟩ := IB.1.2.2.2.2.2.2.1.f
  have hK := kok.1
  unfold t_X11_mark g_X12_mark
  rw [gin_eq (l := 0) (h := 299) x 0 299 M rfl rfl, tw_eq]
  by_cases hv : x < 0 ∨ 299 < x
  · simp only [hv, ↓reduceIte, Option.bind_some]
    exact op_same I0 _
  · simp only [hv, ↓reduceIte, Option.bind_some, i10]
    rw [gin_eq (l := 0) (h := 5000) y 0 5000 M rfl rfl, tw_eq]
    obtain ⟨j, hj, rfl⟩ := within_nI (n := 299) rfl hv
    by_cases hv2 : y < 0 ∨ 5000 < y
    · simp only [hv2, ↓reduceIte, Option.bind_some]
      exact op_same I0 _
    · obtain ⟨i, hi, rfl⟩ := within_nI (n := 5000) rfl hv2
      simp only [hv2, ↓reduceIte, i10, Option.bind_some, tcl_12, tgR_12_0, tpR_12_0, tgR_12_1, tpR_12_1, tgR_12_2, tpR_12_2, tgR_12_3, tpR_12_3, tgR_12_4, tpR_12_4, tgI_12_5, tpI_12_5, tgR_12_6, tpR_12_6, tgR_12_7, tpR_12_7, tgR_12_8, tpR_12_8, tgR_12_9, tpR_12_9, tgR_12_10, tpR_12_10, tgR_12_11, tpR_12_11, tcl_6, tgR_6_0, tpR_6_0, tgR_6_1, tpR_6_1, tgI_6_2, tpI_6_2, xk, xr0, xr1, xr2, xr3, xr4, xr6, xr7, xr8, xr9, xr10, xr11, mk, mr0, mk0, ml0, mr1, mk1, ml1, t_X5_add, k1.1, km.1]
      by_cases hz : K.1 < 60
      · have c3 : nI K.1 < 60 := nI_lt (b := 60) hz (by omega)
        have c4 : ¬ nI K.1 = 60 := fun z => by have := (nI_eq (b := 60) (by omega) (by omega)).mp z; omega
        simp only [OP, c3, c4, ↓reduceIte, hz, WP_bind, WP_some, Option.bind_some, Sum.elim_inl, Sum.elim_inr, ↓reduceIte, tcl_6, tgR_6_0, tpR_6_0, tgR_6_1, tpR_6_1, tgI_6_2, tpI_6_2, Nat.reduceLT, tld_n, tst_n, tldB_n, tstB_n, tldR3_n, tldR4_n, tldJ_n, tstJ_n, tlen_I, tlen_R, tcl_12, tgR_12_0, tpR_12_0, tgR_12_1, tpR_12_1, tgR_12_2, tpR_12_2, tgR_12_3, tpR_12_3, tgR_12_4, tpR_12_4, tgI_12_5, tpI_12_5, tgR_12_6, tpR_12_6, tgR_12_7, tpR_12_7, tgR_12_8, tpR_12_8, tgR_12_9, tpR_12_9, tgR_12_10, tpR_12_10, tgR_12_11, tpR_12_11, mk, mr0, mk0, ml0, mr1, mk1, ml1, xk, xr0, xr1, xr2, xr3, xr4, xr6, xr7, xr8, xr9, xr10, xr11, s_iv_1, s_iv_2, s_iv_kd, s_iv_ln, s_iv_iv, s_iv_jv, s_iv_rv, s_iv_ar, s_iv_al, s_iv_ro, s_jv_1, s_jv_2, s_jv_kd, s_jv_ln, s_jv_iv, s_jv_jv, s_jv_rv, s_jv_ar, s_jv_al, s_jv_ro, s_rv_1, s_rv_2, s_rv_kd, s_rv_ln, s_rv_iv, s_rv_jv, s_rv_rv, s_rv_ar, s_rv_al, s_rv_ro, s_ar_1, s_ar_2, s_ar_kd, s_ar_ln, s_ar_iv, s_ar_jv, s_ar_rv, s_ar_ar, s_ar_al, s_ar_ro, s_al_1, s_al_2, s_al_kd, s_al_ln, s_al_iv, s_al_jv, s_al_rv, s_al_ar, s_al_al, s_al_ro, s_ro_1, s_ro_2, s_ro_kd, s_ro_ln, s_ro_iv, s_ro_jv, s_ro_rv, s_ro_ar, s_ro_al, s_ro_ro, i10, k1.1, up2_e]
        rw [mst_n (k := 36) (show K.1 < 60 from hz) (by decide)]
        simp only [WP_bind, WP_some, Option.bind_some, Sum.elim_inl, Sum.elim_inr, ↓reduceIte, Option.bind_some]
        have e5 : (msA M 36 (upd (M.2.2.1 36) K.1 (nI j))).1 35 = nI K.1 := km.1
        rw [e5, mst_n (k := 37) (show K.1 < 60 from hz) (by decide)]
        simp only [WP_bind, WP_some, Option.bind_some, Sum.elim_inl, Sum.elim_inr, ↓reduceIte, Option.bind_some]
        have e6 : (msA (msA M 36 (upd (M.2.2.1 36) K.1 (nI j))) 37 (upd ((msA M 36 (upd (M.2.2.1 36) K.1 (nI j))).2.2.1 37) K.1 (nI i))).1 35 = nI K.1 := km.1
        refine ⟨by rw [e6, msI_e], I.mark (R' := (K.1 + 1, updN K.2.1 K.1 j, updN K.2.2 K.1 i)) (Nat.le_refl _) rfl (fun a _ => AgS.rf _ _) (fun a _ h1 => ((Fr.ar (lo := b + 37) (hi := b + 39) _ (by omega)).tr ((Fr.ar (lo := b + 37) (hi := b + 39) _ (by omega)).tr (Fr.iv (k := 2) _ (by omega)))).ag (by omega)) ((FM.A _ (by decide)).tr ((FM.A _ (by decide)).tr (FM.I _ (by decide)))) ⟨?_, fun k hk => ?_⟩ ⟨?_, fun k hk => ?_⟩ ⟨by show K.1 + 1 ≤ 60; omega, fun k hk => ?_⟩⟩
        · simp only [s_iv_1, s_iv_2, s_iv_kd, s_iv_ln, s_iv_iv, s_iv_jv, s_iv_rv, s_iv_ar, s_iv_al, s_iv_ro, s_jv_1, s_jv_2, s_jv_kd, s_jv_ln, s_jv_iv, s_jv_jv, s_jv_rv, s_jv_ar, s_jv_al, s_jv_ro, s_rv_1, s_rv_2, s_rv_kd, s_rv_ln, s_rv_iv, s_rv_jv, s_rv_rv, s_rv_ar, s_rv_al, s_rv_ro, s_ar_1, s_ar_2, s_ar_kd, s_ar_ln, s_ar_iv, s_ar_jv, s_ar_rv, s_ar_ar, s_ar_al, s_ar_ro, s_al_1, s_al_2, s_al_kd, s_al_ln, s_al_iv, s_al_jv, s_al_rv, s_al_ar, s_al_al, s_al_ro, s_ro_1, s_ro_2, s_ro_kd, s_ro_ln, s_ro_iv, s_ro_jv, s_ro_rv, s_ro_ar, s_ro_al, s_ro_ro, up2_e]; exact nI_1 _
        · simp only [s_iv_1, s_iv_2, s_iv_kd, s_iv_ln, s_iv_iv, s_iv_jv, s_iv_rv, s_iv_ar, s_iv_al, s_iv_ro, s_jv_1, s_jv_2, s_jv_kd, s_jv_ln, s_jv_iv, s_jv_jv, s_jv_rv, s_jv_ar, s_jv_al, s_jv_ro, s_rv_1, s_rv_2, s_rv_kd, s_rv_ln, s_rv_iv, s_rv_jv, s_rv_rv, s_rv_ar, s_rv_al, s_rv_ro, s_ar_1, s_ar_2, s_ar_kd, s_ar_ln, s_ar_iv, s_ar_jv, s_ar_rv, s_ar_ar, s_ar_al, s_ar_ro, s_al_1, s_al_2, s_al_kd, s_al_ln, s_al_iv, s_al_jv, s_al_rv, s_al_ar, s_al_al, s_al_ro, s_ro_1, s_ro_2, s_ro_kd, s_ro_ln, s_ro_iv, s_ro_jv, s_ro_rv, s_ro_ar, s_ro_al, s_ro_ro, va_e]
          rw [va_n (show b + 38 ≠ b + 39 by omega), va_n (show b + 39 ≠ b + 38 by omega), va_e]
          show upd _ _ _ _ = nI (if k = K.1 then j else K.2.1 k) ∧ upd _ _ _ _ = nI (if k = K.1 then i else K.2.2 k)
          by_cases hkr : k = K.1
          · subst hkr; rw [upd_e, upd_e, if_pos rfl, if_pos rfl]; exact ⟨rfl, rfl⟩
          · rw [upd_n hkr, upd_n hkr, if_neg hkr, if_neg hkr]; exact k1.2 k (by have : k < K.1 + 1 := hk; omega)
        · rw [msI_e, e6]; exact nI_1 _
        · show upd _ _ _ _ = nI (if k = K.1 then j else K.2.1 k) ∧ upd _ _ _ _ = nI (if k = K.1 then i else K.2.2 k)
          by_cases hkr : k = K.1
          · subst hkr; rw [upd_e, upd_e, if_pos rfl, if_pos rfl]; exact ⟨rfl, rfl⟩
          · rw [upd_n hkr, upd_n hkr, if_neg hkr, if_neg hkr]; exact km.2 k (by have : k < K.1 + 1 := hk; omega)
        · show (if k = K.1 then j else K.2.1 k) < 300 ∧ (if k = K.1 then i else K.2.2 k) ≤ 5000
          by_cases hkr : k = K.1
          · rw [if_pos hkr, if_pos hkr]; exact ⟨by omega, hi⟩
          · rw [if_neg hkr, if_neg hkr]; exact kok.2 k (by have : k < K.1 + 1 := hk; omega)
      · have c3 : ¬ nI K.1 < 60 := nI_nlt (b := 60) (by omega) (by omega)
        have c4 : nI K.1 = 60 := by rw [show K.1 = 60 by omega]; rfl
        rw [if_pos c4]
        simp only [c3, ↓reduceIte, Option.bind_some]
        exact op_same I0 _
theorem op_count {b : Nat} {C : CH} {M : MS} (I : Inv b C M) (x : Int32) : t_X11_count b x C = (g_X12_count x M).map (fun q => (q.1, C)) ∧ ∃ v, g_X12_count x M = some (v, M) := by
  obtain ⟨H, S, T, bw, X, R, K, I⟩ := I
  obtain ⟨IB, ⟨h1, hm, hok⟩, ⟨s1, sm, sok⟩, ⟨t1, tm, tok⟩, _, ⟨x1, xm, xok⟩, ⟨w1, wm, wok⟩, ⟨k1, km, kok⟩, ⟨n, l1, l2, l3, l4⟩, pl⟩ := I
  obtain ⟨xk, xr0, xr1, xr2, xr3, xr4, xr6, xr7, xr8, xr9, xr10, xr11⟩ := IB.1.x
  obtain ⟨hk, _⟩ := IB.1.2.2.1.f
  obtain ⟨ok, _⟩ := IB.1.2.2.2.1.f
  obtain ⟨mk, _⟩ := IB.1.2.2.2.2.2.2.1.f
  obtain ⟨wk, _⟩ := IB.1.2.1.f
  obtain ⟨q1, q2, q3⟩ := IB.1.li
  unfold t_X11_count g_X12_count
  simp only [tcl_12, tgR_12_0, tpR_12_0, tgR_12_1, tpR_12_1, tgR_12_2, tpR_12_2, tgR_12_3, tpR_12_3, tgR_12_4, tpR_12_4, tgI_12_5, tpI_12_5, tgR_12_6, tpR_12_6, tgR_12_7, tpR_12_7, tgR_12_8, tpR_12_8, tgR_12_9, tpR_12_9, tgR_12_10, tpR_12_10, tgR_12_11, tpR_12_11, tcl_0, tgI_0_0, tpI_0_0, tgR_0_1, tpR_0_1, tgI_0_2, tpI_0_2, tcl_1, tgR_1_0, tpR_1_0, tgR_1_1, tpR_1_1, tgR_1_2, tpR_1_2, tgR_1_3, tpR_1_3, tgR_1_4, tpR_1_4, tgR_1_5, tpR_1_5, tgI_1_6, tpI_1_6, tgI_1_7, tpI_1_7, tgI_1_8, tpI_1_8, tcl_2, tgR_2_0, tpR_2_0, tgR_2_1, tpR_2_1, tgR_2_2, tpR_2_2, tgR_2_3, tpR_2_3, tgR_2_4, tpR_2_4, tgI_2_5, tpI_2_5, tgI_2_6, tpI_2_6, tgI_2_7, tpI_2_7, tcl_6, tgR_6_0, tpR_6_0, tgR_6_1, tpR_6_1, tgI_6_2, tpI_6_2, tcl_7, tgR_7_0, tpR_7_0, tgI_7_1, tpI_7_1, xk, xr0, xr1, xr2, xr3, xr4, xr6, xr7, xr8, xr9, xr10, xr11, hk, ok, mk, wk, q1, q2, q3, sizeL_eq, Option.bind_some, s1.1.2.1, t1.1.2.1, x1.1.2.1, h1.1.1, h1.2.1, h1.2.2.1, w1.1, k1.1, l2, sm.1, hm.1.1, hm.2.1, hm.2.2.1, tm.1, xm.1, km.1, wm.1, l3]
  by_cases e0 : x = 0
  · rw [if_pos e0, if_pos e0]
    exact ⟨rfl, _, rfl⟩
  rw [if_neg e0, if_neg e0]
  by_cases e1 : x = 1
  · rw [if_pos e1, if_pos e1]
    exact ⟨rfl, _, rfl⟩
  rw [if_neg e1, if_neg e1]
  by_cases e2 : x = 2
  · rw [if_pos e2, if_pos e2]
    exact ⟨rfl, _, rfl⟩
  rw [if_neg e2, if_neg e2]
  by_cases e3 : x = 3
  · rw [if_pos e3, if_pos e3]
    exact ⟨rfl, _, rfl⟩
  rw [if_neg e3, if_neg e3]
  by_cases e4 : x = 4
  · rw [if_pos e4, if_pos e4]
    exact ⟨rfl, _, rfl⟩
  rw [if_neg e4, if_neg e4]
  by_cases e5 : x = 5
  · rw [if_pos e5, if_pos e5]
    exact ⟨rfl, _, rfl⟩
  rw [if_neg e5, if_neg e5]
  by_cases e6 : x = 6
  · rw [if_pos e6, if_pos e6]
    exact ⟨rfl, _, rfl⟩
  rw [if_neg e6, if_neg e6]
  by_cases e7 : x = 7
  · rw [if_pos e7, if_pos e7]
    exact ⟨rfl, _, rfl⟩
  rw [if_neg e7, if_neg e7]
  by_cases e8 : x = 8
  · rw [if_pos e8, if_pos e8]
    exact ⟨rfl, _, rfl⟩
  rw [if_neg e8, if_neg e8]
  exact ⟨rfl, _, rfl⟩
theorem op_count' {b : Nat} {C : CH} {M : MS} (I : Inv b C M) (x : Int32) : OP b (t_X11_count b x C) (g_X12_count x M) := by
  obtain ⟨h1, v, h2⟩ := op_count I x
  rw [h1, h2]
  exact op_same I _
theorem latest_eq {b a k : Nat} {C : CH} {M : MS} {n : Nat} (I0 : Inv b C M) (xk : c_kd C b = 13) (xr3 : c_rv C b 3 = some (b + 11)) (ok : c_kd C (b + 11) = 3) (l1 : n ≤ 300) (l2 : c_iv C (b + 11) 7 = nI n) (ka : c_kd C a = 20) (la : c_ln C a = 300) (hk : mlen k = 300) (l4 : ∀ t, t < n → c_ar C a t = M.2.2.1 k t) (x : Int32) : OP b ((t_X11_ofLatest b a x C).bind fun q5 => some (q5.1, q5.2)) (if 0 ≤ x then (if nI n ≤ x then (some ((-1), M)) else ((mld M k x).bind fun v3 => some (v3, M))) else (some ((-2), M))) := by
  unfold t_X11_ofLatest
  by_cases h0 : 0 ≤ x
  · have h0' : ¬ x < 0 := by
      rw [Int32.lt_iff_toInt_lt]
      rw [Int32.le_iff_toInt_le] at h0
      omega
    obtain ⟨j, hj, rfl⟩ := nI_of h0'
    simp only [h0, ↓reduceIte, tcl_12, tgR_12_0, tpR_12_0, tgR_12_1, tpR_12_1, tgR_12_2, tpR_12_2, tgR_12_3, tpR_12_3, tgR_12_4, tpR_12_4, tgI_12_5, tpI_12_5, tgR_12_6, tpR_12_6, tgR_12_7, tpR_12_7, tgR_12_8, tpR_12_8, tgR_12_9, tpR_12_9, tgR_12_10, tpR_12_10, tgR_12_11, tpR_12_11, tcl_2, tgR_2_0, tpR_2_0, tgR_2_1, tpR_2_1, tgR_2_2, tpR_2_2, tgR_2_3, tpR_2_3, tgR_2_4, tpR_2_4, tgI_2_5, tpI_2_5, tgI_2_6, tpI_2_6, tgI_2_7, tpI_2_7, xk, xr3, ok, l2, Option.bind_some]
    by_cases h1 : n ≤ j
    · have c1 : nI n ≤ nI j := nI_le h1 hj
      simp only [c1, ↓reduceIte, Option.bind_some]
      exact op_same I0 _
    · have c1 : ¬ nI n ≤ nI j := nI_ge (by omega) (by omega)
      have c2 : ¬ nI 300 ≤ nI j := nI_ge (by omega) (by omega)
      have c3 : j < 300 := by omega
      simp only [c1, ↓reduceIte, Option.bind_some, Nat.reduceLT, tld_n, tst_n, tldB_n, tstB_n, tldR3_n, tldR4_n, tldJ_n, tstJ_n, tlen_I, tlen_R, ka, la, c2, c3]
      rw [mld_n (show j < mlen k by omega) (by omega), l4 j (by omega)]
      exact op_same I0 _
  · simp only [h0, ↓reduceIte, Option.bind_some]
    exact op_same I0 _
theorem op_won {b : Nat} {C : CH} {M : MS} (I : Inv b C M) (x : Int32) : OP b (t_X11_won b x C) (g_X12_won x M) := by
  have I0 := I
  obtain ⟨H, S, T, bw, X, R, K, I⟩ := I
  obtain ⟨IB, _, _, _, _, _, _, _, ⟨n, l1, l2, l3, l4⟩, pl⟩ := I
  obtain ⟨xk, xr0, xr1, xr2, xr3, xr4, xr6, xr7, xr8, xr9, xr10, xr11⟩ := IB.1.x
  obtain ⟨ok, or0, ok0, ol0, or1, ok1, ol1, or2, ok2, ol2, or3, ok3, ol3, or4, ok4, ol4⟩ := IB.1.2.2.2.1.f
  unfold t_X11_won g_X12_won
  simp only [tcl_12, tgR_12_0, tpR_12_0, tgR_12_1, tpR_12_1, tgR_12_2, tpR_12_2, tgR_12_3, tpR_12_3, tgR_12_4, tpR_12_4, tgI_12_5, tpI_12_5, tgR_12_6, tpR_12_6, tgR_12_7, tpR_12_7, tgR_12_8, tpR_12_8, tgR_12_9, tpR_12_9, tgR_12_10, tpR_12_10, tgR_12_11, tpR_12_11, tcl_2, tgR_2_0, tpR_2_0, tgR_2_1, tpR_2_1, tgR_2_2, tpR_2_2, tgR_2_3, tpR_2_3, tgR_2_4, tpR_2_4, tgI_2_5, tpI_2_5, tgI_2_6, tpI_2_6, tgI_2_7, tpI_2_7, xk, xr0, xr1, xr2, xr3, xr4, xr6, xr7, xr8, xr9, xr10, xr11, ok, or0, ok0, ol0, or1, ok1, ol1, or2, ok2, ol2, or3, ok3, ol3, or4, ok4, ol4, Option.bind_some, l3]
  exact latest_eq (k := 17) I0 xk xr3 ok l1 l2 ok2 ol2 rfl (fun t ht => (l4 t ht).1) x
theorem op_force {b : Nat} {C : CH} {M : MS} (I : Inv b C M) (x : Int32) : OP b (t_X11_force b x C) (g_X12_force x M) := by
  have I0 := I
  obtain ⟨H, S, T, bw, X, R, K, I⟩ := I
  obtain ⟨IB, _, _, _, _, _, _, _, ⟨n, l1, l2, l3, l4⟩, pl⟩ := I
  obtain ⟨xk, xr0, xr1, xr2, xr3, xr4, xr6, xr7, xr8, xr9, xr10, xr11⟩ := IB.1.x
  obtain ⟨ok, or0, ok0, ol0, or1, ok1, ol1, or2, ok2, ol2, or3, ok3, ol3, or4, ok4, ol4⟩ := IB.1.2.2.2.1.f
  unfold t_X11_force g_X12_force
  simp only [tcl_12, tgR_12_0, tpR_12_0, tgR_12_1, tpR_12_1, tgR_12_2, tpR_12_2, tgR_12_3, tpR_12_3, tgR_12_4, tpR_12_4, tgI_12_5, tpI_12_5, tgR_12_6, tpR_12_6, tgR_12_7, tpR_12_7, tgR_12_8, tpR_12_8, tgR_12_9, tpR_12_9, tgR_12_10, tpR_12_10, tgR_12_11, tpR_12_11, tcl_2, tgR_2_0, tpR_2_0, tgR_2_1, tpR_2_1, tgR_2_2, tpR_2_2, tgR_2_3, tpR_2_3, tgR_2_4, tpR_2_4, tgI_2_5, tpI_2_5, tgI_2_6, tpI_2_6, tgI_2_7, tpI_2_7, xk, xr0, xr1, xr2, xr3, xr4, xr6, xr7, xr8, xr9, xr10, xr11, ok, or0, ok0, ol0, or1, ok1, ol1, or2, ok2, ol2, or3, ok3, ol3, or4, ok4, ol4, Option.bind_some, l3]
  exact latest_eq (k := 18) I0 xk xr3 ok l1 l2 ok3 ol3 rfl (fun t ht => (l4 t ht).2) x
