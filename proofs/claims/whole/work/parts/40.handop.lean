theorem tst_wp {K : CH → Prop} {C : CH} {a j n : Nat} {x : Int32} (ka : c_kd C a = 20) (la : c_ln C a = n) (hj : j < n) (hn : n ≤ 1000) (hK : ∀ D, Fr a a C D → c_iv D = c_iv C → (∀ h, c_ar D a h = if h = j then x else c_ar C a h) → K D) : WP (tst C 0 a (nI j) x) K := by
  rw [tst_n ka (by omega) (by omega)]
  exact WP.ret (hK _ (Fr.ar _ (by omega)) rfl (fun h => ar_upd _ _ _ _ _))
theorem mst_wp {K : MS → Prop} {N : MS} {k j : Nat} {i x : Int32} (e : i = nI j) (h : j < mlen k) (h2 : mlen k < 2147483648) (hK : ∀ N', FM [] [k] N N' → N'.1 = N.1 → (∀ h, N'.2.2.1 k h = if h = j then x else N.2.2.1 k h) → K N') : WP (mst N k i x) K := by
  rw [e, mst_n h h2]
  exact WP.ret (hK _ (FM.A _ (List.mem_singleton.mpr rfl)) rfl (fun h => msA_u _ _ _ _ _))
theorem handsAdd_wp {C : CH} {hb n : Nat} {s t r bb : Int32} (H : HandsS (sh C) hb) (h6 : c_iv C hb 6 = nI n) (hn : n < 10) : WP (t_X0_add hb s t r bb C) (fun q => q.1 = 1 ∧ Fr hb (hb + 6) C q.2 ∧ c_iv q.2 hb 6 = nI (n + 1) ∧ c_iv q.2 hb 7 = c_iv C hb 7 ||| nI (2 ^ n) ∧ c_iv q.2 hb 8 = c_iv C hb 8 ∧ (∀ h, c_ar q.2 (hb + 1) h = if h = n then s else c_ar C (hb + 1) h) ∧ (∀ h, c_ar q.2 (hb + 2) h = if h = n then t else c_ar C (hb + 2) h) ∧ (∀ h, c_ar q.2 (hb + 3) h = if h = n then r else c_ar C (hb + 3) h) ∧ (∀ h, c_ar q.2 (hb + 4) h = if h = n then bb else c_ar C (hb + 4) h) ∧ c_ar q.2 (hb + 5) = c_ar C (hb + 5) ∧ ∀ h, c_ar q.2 (hb + 6) h = if h = n then s else c_ar C (hb + 6) h) := by
  obtain ⟨hk, hr0, hk0, hl0, hr1, hk1, hl1, hr2, hk2, hl2, hr3, hk3, hl3, hr4, hk4, hl4, hr5, hk5, hl5⟩ := H.f
  unfold t_X0_add
  have c3 : nI n < 10 := nI_lt (b := 10) hn (by omega)
  simp only [WP_bind, WP_some, Option.bind_some, tcl_1, tgR_1_0, tpR_1_0, tgR_1_1, tpR_1_1, tgR_1_2, tpR_1_2, tgR_1_3, tpR_1_3, tgR_1_4, tpR_1_4, tgR_1_5, tpR_1_5, tgI_1_6, tpI_1_6, tgI_1_7, tpI_1_7, tgI_1_8, tpI_1_8, hk, hr0, hk0, hl0, hr1, hk1, hl1, hr2, hk2, hl2, hr3, hk3, hl3, hr4, hk4, hl4, hr5, hk5, hl5, h6, c3, ↓reduceIte]
  refine tst_wp hk0 hl0 hn (by omega) (fun D1 F1 i1 a1 => ?_)
  have H1 := H.tr F1.2.2.1
  obtain ⟨hk, hr0, hk0, hl0, hr1, hk1, hl1, hr2, hk2, hl2, hr3, hk3, hl3, hr4, hk4, hl4, hr5, hk5, hl5⟩ := H1.f
  simp only [WP_bind, WP_some, Option.bind_some, tcl_1, tgR_1_0, tpR_1_0, tgR_1_1, tpR_1_1, tgR_1_2, tpR_1_2, tgR_1_3, tpR_1_3, tgR_1_4, tpR_1_4, tgR_1_5, tpR_1_5, tgI_1_6, tpI_1_6, tgI_1_7, tpI_1_7, tgI_1_8, tpI_1_8, hk, hr0, hk0, hl0, hr1, hk1, hl1, hr2, hk2, hl2, hr3, hk3, hl3, hr4, hk4, hl4, hr5, hk5, hl5, i1, h6]
  refine tst_wp hk1 hl1 hn (by omega) (fun D2 F2 i2 a2 => ?_)
  have H2 := H1.tr F2.2.2.1
  obtain ⟨hk, hr0, hk0, hl0, hr1, hk1, hl1, hr2, hk2, hl2, hr3, hk3, hl3, hr4, hk4, hl4, hr5, hk5, hl5⟩ := H2.f
  simp only [WP_bind, WP_some, Option.bind_some, tcl_1, tgR_1_0, tpR_1_0, tgR_1_1, tpR_1_1, tgR_1_2, tpR_1_2, tgR_1_3, tpR_1_3, tgR_1_4, tpR_1_4, tgR_1_5, tpR_1_5, tgI_1_6, tpI_1_6, tgI_1_7, tpI_1_7, tgI_1_8, tpI_1_8, hk, hr0, hk0, hl0, hr1, hk1, hl1, hr2, hk2, hl2, hr3, hk3, hl3, hr4, hk4, hl4, hr5, hk5, hl5, i2, i1, h6]
  refine tst_wp hk2 hl2 hn (by omega) (fun D3 F3 i3 a3 => ?_)
  have H3 := H2.tr F3.2.2.1
  obtain ⟨hk, hr0, hk0, hl0, hr1, hk1, hl1, hr2, hk2, hl2, hr3, hk3, hl3, hr4, hk4, hl4, hr5, hk5, hl5⟩ := H3.f
  simp only [WP_bind, WP_some, Option.bind_some, tcl_1, tgR_1_0, tpR_1_0, tgR_1_1, tpR_1_1, tgR_1_2, tpR_1_2, tgR_1_3, tpR_1_3, tgR_1_4, tpR_1_4, tgR_1_5, tpR_1_5, tgI_1_6, tpI_1_6, tgI_1_7, tpI_1_7, tgI_1_8, tpI_1_8, hk, hr0, hk0, hl0, hr1, hk1, hl1, hr2, hk2, hl2, hr3, hk3, hl3, hr4, hk4, hl4, hr5, hk5, hl5, i3, i2, i1, h6]
  refine tst_wp hk3 hl3 hn (by omega) (fun D4 F4 i4 a4 => ?_)
  have H4 := H3.tr F4.2.2.1
  obtain ⟨hk, hr0, hk0, hl0, hr1, hk1, hl1, hr2, hk2, hl2, hr3, hk3, hl3, hr4, hk4, hl4, hr5, hk5, hl5⟩ := H4.f
  simp only [WP_bind, WP_some, Option.bind_some, tcl_1, tgR_1_0, tpR_1_0, tgR_1_1, tpR_1_1, tgR_1_2, tpR_1_2, tgR_1_3, tpR_1_3, tgR_1_4, tpR_1_4, tgR_1_5, tpR_1_5, tgI_1_6, tpI_1_6, tgI_1_7, tpI_1_7, tgI_1_8, tpI_1_8, hk, hr0, hk0, hl0, hr1, hk1, hl1, hr2, hk2, hl2, hr3, hk3, hl3, hr4, hk4, hl4, hr5, hk5, hl5, i4, i3, i2, i1, h6]
  refine tst_wp hk5 hl5 hn (by omega) (fun D5 F5 i5 a5 => ?_)
  have H5 := H4.tr F5.2.2.1
  obtain ⟨hk, hr0, hk0, hl0, hr1, hk1, hl1, hr2, hk2, hl2, hr3, hk3, hl3, hr4, hk4, hl4, hr5, hk5, hl5⟩ := H5.f
  have i5' : c_iv D5 = c_iv C := by rw [i5, i4, i3, i2, i1]
  simp only [WP_bind, WP_some, Option.bind_some, tcl_1, tgR_1_0, tpR_1_0, tgR_1_1, tpR_1_1, tgR_1_2, tpR_1_2, tgR_1_3, tpR_1_3, tgR_1_4, tpR_1_4, tgR_1_5, tpR_1_5, tgI_1_6, tpI_1_6, tgI_1_7, tpI_1_7, tgI_1_8, tpI_1_8, hk, hr0, hk0, hl0, hr1, hk1, hl1, hr2, hk2, hl2, hr3, hk3, hl3, hr4, hk4, hl4, hr5, hk5, hl5, i5', h6, s_iv_1, s_iv_2, s_iv_kd, s_iv_ln, s_iv_iv, s_iv_jv, s_iv_rv, s_iv_ar, s_iv_al, s_iv_ro, s_jv_1, s_jv_2, s_jv_kd, s_jv_ln, s_jv_iv, s_jv_jv, s_jv_rv, s_jv_ar, s_jv_al, s_jv_ro, s_rv_1, s_rv_2, s_rv_kd, s_rv_ln, s_rv_iv, s_rv_jv, s_rv_rv, s_rv_ar, s_rv_al, s_rv_ro, s_ar_1, s_ar_2, s_ar_kd, s_ar_ln, s_ar_iv, s_ar_jv, s_ar_rv, s_ar_ar, s_ar_al, s_ar_ro, s_al_1, s_al_2, s_al_kd, s_al_ln, s_al_iv, s_al_jv, s_al_rv, s_al_ar, s_al_al, s_al_ro, s_ro_1, s_ro_2, s_ro_kd, s_ro_ln, s_ro_iv, s_ro_jv, s_ro_rv, s_ro_ar, s_ro_al, s_ro_ro, nI_shl1 n (by omega), up2_k (show (6 : Nat) ≠ 7 by decide)]
  refine ⟨trivial, ?_, ?_, ?_, ?_, fun h => ?_, fun h => ?_, fun h => ?_, fun h => ?_, ?_, fun h => ?_⟩
  · refine ((((F1.mono (by omega) (by omega)).tr (F2.mono (by omega) (by omega))).tr (F3.mono (by omega) (by omega))).tr ((F4.mono (by omega) (by omega)).tr (F5.mono (by omega) (by omega)))).tr ?_
    rw [← i5']
    exact (Fr.iv (k := 7) _ (by omega)).tr (Fr.iv (k := 6) _ (by omega))
  · rw [up2_e, nI_1]
  · rw [up2_k (by decide), up2_e]
  · rw [up2_k (by decide), up2_k (by decide)]
  · rw [(F5.2.2.2 (hb + 1) (by omega)).1, (F4.2.2.2 (hb + 1) (by omega)).1, (F3.2.2.2 (hb + 1) (by omega)).1, (F2.2.2.2 (hb + 1) (by omega)).1]
    exact a1 h
  · rw [(F5.2.2.2 (hb + 2) (by omega)).1, (F4.2.2.2 (hb + 2) (by omega)).1, (F3.2.2.2 (hb + 2) (by omega)).1, a2 h, (F1.2.2.2 (hb + 2) (by omega)).1]
  · rw [(F5.2.2.2 (hb + 3) (by omega)).1, (F4.2.2.2 (hb + 3) (by omega)).1, a3 h, (F2.2.2.2 (hb + 3) (by omega)).1, (F1.2.2.2 (hb + 3) (by omega)).1]
  · rw [(F5.2.2.2 (hb + 4) (by omega)).1, a4 h, (F3.2.2.2 (hb + 4) (by omega)).1, (F2.2.2.2 (hb + 4) (by omega)).1, (F1.2.2.2 (hb + 4) (by omega)).1]
  · rw [(F5.2.2.2 (hb + 5) (by omega)).1, (F4.2.2.2 (hb + 5) (by omega)).1, (F3.2.2.2 (hb + 5) (by omega)).1, (F2.2.2.2 (hb + 5) (by omega)).1, (F1.2.2.2 (hb + 5) (by omega)).1]
  · rw [a5 h, (F4.2.2.2 (hb + 6) (by omega)).1, (F3.2.2.2 (hb + 6) (by omega)).1, (F2.2.2.2 (hb + 6) (by omega)).1, (F1.2.2.2 (hb + 6) (by omega)).1]
theorem updN_nI (f : Nat → Nat) (n x h : Nat) : nI (updN f n x h) = if h = n then nI x else nI (f h) := by
  unfold updN
  by_cases e : h = n
  · rw [if_pos e, if_pos e]
  · rw [if_neg e, if_neg e]
theorem updN_le {f : Nat → Nat} {n x B h : Nat} (h1 : x ≤ B) (h2 : h ≠ n → f h ≤ B) : updN f n x h ≤ B := by
  unfold updN
  by_cases e : h = n
  · rw [if_pos e]; exact h1
  · rw [if_neg e]; exact h2 e
theorem op_hand {b : Nat} {C : CH} {M : MS} (I : Inv b C M) (sx tx rx bx : Int32) : OP b (t_X11_hand b sx tx rx bx C) (g_X12_hand sx tx rx bx M) := by
  have I0 := I
  obtain ⟨H, S, T, bw, X, R, K, I⟩ := I
  obtain ⟨IB, ⟨h1, hm, hok⟩, _⟩ := id I
  obtain ⟨xk, xr0, xr1, xr2, xr3, xr4, xr6, xr7, xr8, xr9, xr10, xr11⟩ := IB.1.x
  obtain ⟨hk, _⟩ := IB.1.2.2.1.f
  have tk := IB.1.ts
  have hn := hok.1.1
  unfold t_X11_hand g_X12_hand
  rw [gin_eq (l := 1) (h := 100) sx 1 100 M rfl rfl, tw_eq]
  by_cases hv1 : sx < 1 ∨ 100 < sx
  · simp only [hv1, ↓reduceIte, Option.bind_some]
    exact op_same I0 _
  simp only [hv1, ↓reduceIte, Option.bind_some, i10]
  rw [gin_eq (l := 0) (h := 30) tx 0 30 M rfl rfl, tw_eq]
  by_cases hv2 : tx < 0 ∨ 30 < tx
  · simp only [hv2, ↓reduceIte, Option.bind_some]
    exact op_same I0 _
  simp only [hv2, ↓reduceIte, Option.bind_some, i10]
  rw [gin_eq (l := 0) (h := 30) rx 0 30 M rfl rfl, tw_eq]
  by_cases hv3 : rx < 0 ∨ 30 < rx
  · simp only [hv3, ↓reduceIte, Option.bind_some]
    exact op_same I0 _
  simp only [hv3, ↓reduceIte, Option.bind_some, i10]
  rw [gin_eq (l := 0) (h := 30) bx 0 30 M rfl rfl, tw_eq]
  by_cases hv4 : bx < 0 ∨ 30 < bx
  · simp only [hv4, ↓reduceIte, Option.bind_some]
    exact op_same I0 _
  simp only [hv4, ↓reduceIte, Option.bind_some, i10, tcl_12, tgR_12_0, tpR_12_0, tgR_12_1, tpR_12_1, tgR_12_2, tpR_12_2, tgR_12_3, tpR_12_3, tgR_12_4, tpR_12_4, tgI_12_5, tpI_12_5, tgR_12_6, tpR_12_6, tgR_12_7, tpR_12_7, tgR_12_8, tpR_12_8, tgR_12_9, tpR_12_9, tgR_12_10, tpR_12_10, tgR_12_11, tpR_12_11, tcl_1, tgR_1_0, tpR_1_0, tgR_1_1, tpR_1_1, tgR_1_2, tpR_1_2, tgR_1_3, tpR_1_3, tgR_1_4, tpR_1_4, tgR_1_5, tpR_1_5, tgI_1_6, tpI_1_6, tgI_1_7, tpI_1_7, tgI_1_8, tpI_1_8, xk, xr0, xr1, xr2, xr3, xr4, xr6, xr7, xr8, xr9, xr10, xr11, hk]
  obtain ⟨s, hs1, hs2, rfl⟩ := within1_nI (n := 100) rfl hv1
  obtain ⟨t, ht, rfl⟩ := within_nI (n := 30) rfl hv2
  obtain ⟨r, hr, rfl⟩ := within_nI (n := 30) rfl hv3
  obtain ⟨bb, hbb, rfl⟩ := within_nI (n := 30) rfl hv4
  rw [hm.1.1]
  by_cases hz : H.1.1 < 10
  · have c4 : ¬ nI H.1.1 = 10 := fun z => by have := (nI_eq (b := 10) (by omega) (by omega)).mp z; omega
    simp only [OP, c4, ↓reduceIte, WP_bind, WP_some]
    refine WP.mono (handsAdd_wp IB.1.2.2.1 h1.1.1 hz) ?_
    rintro ⟨q, D⟩ ⟨e0, F, e6, e7, e8, a1, a2, a3, a4, a5, a6⟩
    dsimp only at e0 F e6 e7 e8 a1 a2 a3 a4 a5 a6
    subst e0
    have F' : Fr (b + 4) (b + 10) C D := F
    have St : StS (sh D) b := by rw [F.2.2.1]; exact IB.1
    obtain ⟨xk, xr0, xr1, xr2, xr3, xr4, xr6, xr7, xr8, xr9, xr10, xr11⟩ := St.x
    obtain ⟨hk, _⟩ := St.2.2.1.f
    have tk := St.ts
    simp only [i10, ↓reduceIte, WP_bind, WP_some, Option.bind_some, tcl_12, tgR_12_0, tpR_12_0, tgR_12_1, tpR_12_1, tgR_12_2, tpR_12_2, tgR_12_3, tpR_12_3, tgR_12_4, tpR_12_4, tgI_12_5, tpI_12_5, tgR_12_6, tpR_12_6, tgR_12_7, tpR_12_7, tgR_12_8, tpR_12_8, tgR_12_9, tpR_12_9, tgR_12_10, tpR_12_10, tgR_12_11, tpR_12_11, tcl_1, tgR_1_0, tpR_1_0, tgR_1_1, tpR_1_1, tgR_1_2, tpR_1_2, tgR_1_3, tpR_1_3, tgR_1_4, tpR_1_4, tgR_1_5, tpR_1_5, tgI_1_6, tpI_1_6, tgI_1_7, tpI_1_7, tgI_1_8, tpI_1_8, tcl_10, tgR_10_0, tpR_10_0, tgR_10_1, tpR_10_1, tgR_10_2, tpR_10_2, tgR_10_3, tpR_10_3, tgI_10_4, tpI_10_4, tgI_10_5, tpI_10_5, tgI_10_6, tpI_10_6, tgI_10_7, tpI_10_7, tgI_10_8, tpI_10_8, xk, xr0, xr1, xr2, xr3, xr4, xr6, xr7, xr8, xr9, xr10, xr11, hk, tk, s_iv_1, s_iv_2, s_iv_kd, s_iv_ln, s_iv_iv, s_iv_jv, s_iv_rv, s_iv_ar, s_iv_al, s_iv_ro, s_jv_1, s_jv_2, s_jv_kd, s_jv_ln, s_jv_iv, s_jv_jv, s_jv_rv, s_jv_ar, s_jv_al, s_jv_ro, s_rv_1, s_rv_2, s_rv_kd, s_rv_ln, s_rv_iv, s_rv_jv, s_rv_rv, s_rv_ar, s_rv_al, s_rv_ro, s_ar_1, s_ar_2, s_ar_kd, s_ar_ln, s_ar_iv, s_ar_jv, s_ar_rv, s_ar_ar, s_ar_al, s_ar_ro, s_al_1, s_al_2, s_al_kd, s_al_ln, s_al_iv, s_al_jv, s_al_rv, s_al_ar, s_al_al, s_al_ro, s_ro_1, s_ro_2, s_ro_kd, s_ro_ln, s_ro_iv, s_ro_jv, s_ro_rv, s_ro_ar, s_ro_al, s_ro_ro, up2_n (show b + 4 ≠ b + 18 by omega), e6]
    refine mst_wp rfl (show H.1.1 < 10 from hz) (by decide) (fun N1 G1 i1 r1 => ?_)
    refine mst_wp (by rw [i1]; exact hm.1.1) (show H.1.1 < 10 from hz) (by decide) (fun N2 G2 i2 r2 => ?_)
    refine mst_wp (by rw [i2, i1]; exact hm.1.1) (show H.1.1 < 10 from hz) (by decide) (fun N3 G3 i3 r3 => ?_)
    refine mst_wp (by rw [i3, i2, i1]; exact hm.1.1) (show H.1.1 < 10 from hz) (by decide) (fun N4 G4 i4 r4 => ?_)
    refine mst_wp (by rw [i4, i3, i2, i1]; exact hm.1.1) (show H.1.1 < 10 from hz) (by decide) (fun N5 G5 i5 r5 => ?_)
    refine mst_wp (by rw [i5, i4, i3, i2, i1]; exact hm.1.1) (show H.1.1 < 60 by omega) (by decide) (fun N6 G6 i6 r6 => ?_)
    have i6' : N6.1 = M.1 := by rw [i6, i5, i4, i3, i2, i1]
    have x7 : N6.1 7 = nI H.1.1 := by rw [i6']; exact hm.1.1
    have x14 : N6.1 14 = nI H.2.2.2.1 := by rw [i6']; exact hm.2.1
    have x15 : N6.1 15 = nI H.2.2.2.2 := by rw [i6']; exact hm.2.2.1
    have y7 : (msI N6 14 (nI (H.2.2.2.1 ||| 2 ^ H.1.1))).1 7 = nI H.1.1 := x7
    simp only [x7, x14, nI_shl1 H.1.1 (show H.1.1 < 31 by omega), nI_orI, y7]
    have GM : FM [7, 14, 15] [8, 9, 10, 11, 12, 13] M (msI (msI N6 14 (nI (H.2.2.2.1 ||| 2 ^ H.1.1))) 7 (nI H.1.1 + 1)) := by
      refine (((G1.mono ?_ ?_).tr (G2.mono ?_ ?_)).tr ((G3.mono ?_ ?_).tr (G4.mono ?_ ?_))).tr (((G5.mono ?_ ?_).tr (G6.mono ?_ ?_)).tr ((FM.I _ ?_).tr (FM.I _ ?_))) <;> decide
    have z8 : ∀ h, N6.2.2.1 8 h = if h = H.1.1 then nI s else M.2.2.1 8 h := fun h => by rw [G6.2 8 (by decide), G5.2 8 (by decide), G4.2 8 (by decide), G3.2 8 (by decide), G2.2 8 (by decide)]; exact r1 h
    have z9 : ∀ h, N6.2.2.1 9 h = if h = H.1.1 then nI t else M.2.2.1 9 h := fun h => by rw [G6.2 9 (by decide), G5.2 9 (by decide), G4.2 9 (by decide), G3.2 9 (by decide), r2 h, G1.2 9 (by decide)]
    have z10 : ∀ h, N6.2.2.1 10 h = if h = H.1.1 then nI r else M.2.2.1 10 h := fun h => by rw [G6.2 10 (by decide), G5.2 10 (by decide), G4.2 10 (by decide), r3 h, G2.2 10 (by decide), G1.2 10 (by decide)]
    have z11 : ∀ h, N6.2.2.1 11 h = if h = H.1.1 then nI bb else M.2.2.1 11 h := fun h => by rw [G6.2 11 (by decide), G5.2 11 (by decide), r4 h, G3.2 11 (by decide), G2.2 11 (by decide), G1.2 11 (by decide)]
    have z12 : ∀ h, N6.2.2.1 12 h = if h = H.1.1 then 0 else M.2.2.1 12 h := fun h => by rw [G6.2 12 (by decide), r5 h, G4.2 12 (by decide), G3.2 12 (by decide), G2.2 12 (by decide), G1.2 12 (by decide)]
    have z13 : ∀ h, N6.2.2.1 13 h = if h = H.1.1 then nI s else M.2.2.1 13 h := fun h => by rw [r6 h, G5.2 13 (by decide), G4.2 13 (by decide), G3.2 13 (by decide), G2.2 13 (by decide), G1.2 13 (by decide)]
    refine ⟨by rw [msI_e, nI_1], I.hands (H' := ((H.1.1 + 1, updN H.1.2.1 H.1.1 s, updN H.1.2.2.1 H.1.1 t, updN H.1.2.2.2.1 H.1.1 r, updN H.1.2.2.2.2 H.1.1 bb), H.2.1, updN H.2.2.1 H.1.1 s, H.2.2.2.1 ||| 2 ^ H.1.1, H.2.2.2.2)) (by show C.1 ≤ D.1; rw [F.1]; exact Nat.le_refl _) F.2.1 (fun a _ => AgS.of F.2.2.1 a) (fun a _ p q => (F'.ag (by omega)).tr ((Fr.iv (lo := b + 18) (hi := b + 18) _ (by omega)).ag (by omega))) GM ⟨⟨?_, fun h hh => ?_⟩, ?_, ?_, fun h hh => ?_, fun h hh => ?_⟩ ⟨⟨?_, fun h hh => ?_⟩, ?_, ?_, fun h hh => ?_, fun h hh => ?_⟩ ⟨⟨?_, fun h hh => ?_⟩, ?_, hok.2.2.1, hok.2.2.2.1, fun h hh => ?_, fun h hh => ?_⟩ ?_⟩
    · simp only [s_iv_1, s_iv_2, s_iv_kd, s_iv_ln, s_iv_iv, s_iv_jv, s_iv_rv, s_iv_ar, s_iv_al, s_iv_ro, s_jv_1, s_jv_2, s_jv_kd, s_jv_ln, s_jv_iv, s_jv_jv, s_jv_rv, s_jv_ar, s_jv_al, s_jv_ro, s_rv_1, s_rv_2, s_rv_kd, s_rv_ln, s_rv_iv, s_rv_jv, s_rv_rv, s_rv_ar, s_rv_al, s_rv_ro, s_ar_1, s_ar_2, s_ar_kd, s_ar_ln, s_ar_iv, s_ar_jv, s_ar_rv, s_ar_ar, s_ar_al, s_ar_ro, s_al_1, s_al_2, s_al_kd, s_al_ln, s_al_iv, s_al_jv, s_al_rv, s_al_ar, s_al_al, s_al_ro, s_ro_1, s_ro_2, s_ro_kd, s_ro_ln, s_ro_iv, s_ro_jv, s_ro_rv, s_ro_ar, s_ro_al, s_ro_ro]; rw [up2_n (by omega)]; exact e6
    · have hh' : h < H.1.1 + 1 := hh
      have old : ∀ e : h ≠ H.1.1, _ := fun e => h1.1.2 h (by omega)
      simp only [s_iv_1, s_iv_2, s_iv_kd, s_iv_ln, s_iv_iv, s_iv_jv, s_iv_rv, s_iv_ar, s_iv_al, s_iv_ro, s_jv_1, s_jv_2, s_jv_kd, s_jv_ln, s_jv_iv, s_jv_jv, s_jv_rv, s_jv_ar, s_jv_al, s_jv_ro, s_rv_1, s_rv_2, s_rv_kd, s_rv_ln, s_rv_iv, s_rv_jv, s_rv_rv, s_rv_ar, s_rv_al, s_rv_ro, s_ar_1, s_ar_2, s_ar_kd, s_ar_ln, s_ar_iv, s_ar_jv, s_ar_rv, s_ar_ar, s_ar_al, s_ar_ro, s_al_1, s_al_2, s_al_kd, s_al_ln, s_al_iv, s_al_jv, s_al_rv, s_al_ar, s_al_al, s_al_ro, s_ro_1, s_ro_2, s_ro_kd, s_ro_ln, s_ro_iv, s_ro_jv, s_ro_rv, s_ro_ar, s_ro_al, s_ro_ro, updN_nI]
      rw [a1 h, a2 h, a3 h, a4 h]
      by_cases e : h = H.1.1
      · simp only [e, ↓reduceIte, and_self]
      · simp only [e, ↓reduceIte]; exact old e
    · simp only [s_iv_1, s_iv_2, s_iv_kd, s_iv_ln, s_iv_iv, s_iv_jv, s_iv_rv, s_iv_ar, s_iv_al, s_iv_ro, s_jv_1, s_jv_2, s_jv_kd, s_jv_ln, s_jv_iv, s_jv_jv, s_jv_rv, s_jv_ar, s_jv_al, s_jv_ro, s_rv_1, s_rv_2, s_rv_kd, s_rv_ln, s_rv_iv, s_rv_jv, s_rv_rv, s_rv_ar, s_rv_al, s_rv_ro, s_ar_1, s_ar_2, s_ar_kd, s_ar_ln, s_ar_iv, s_ar_jv, s_ar_rv, s_ar_ar, s_ar_al, s_ar_ro, s_al_1, s_al_2, s_al_kd, s_al_ln, s_al_iv, s_al_jv, s_al_rv, s_al_ar, s_al_al, s_al_ro, s_ro_1, s_ro_2, s_ro_kd, s_ro_ln, s_ro_iv, s_ro_jv, s_ro_rv, s_ro_ar, s_ro_al, s_ro_ro]; rw [up2_n (by omega), e7, h1.2.1, nI_orI]
    · simp only [s_iv_1, s_iv_2, s_iv_kd, s_iv_ln, s_iv_iv, s_iv_jv, s_iv_rv, s_iv_ar, s_iv_al, s_iv_ro, s_jv_1, s_jv_2, s_jv_kd, s_jv_ln, s_jv_iv, s_jv_jv, s_jv_rv, s_jv_ar, s_jv_al, s_jv_ro, s_rv_1, s_rv_2, s_rv_kd, s_rv_ln, s_rv_iv, s_rv_jv, s_rv_rv, s_rv_ar, s_rv_al, s_rv_ro, s_ar_1, s_ar_2, s_ar_kd, s_ar_ln, s_ar_iv, s_ar_jv, s_ar_rv, s_ar_ar, s_ar_al, s_ar_ro, s_al_1, s_al_2, s_al_kd, s_al_ln, s_al_iv, s_al_jv, s_al_rv, s_al_ar, s_al_al, s_al_ro, s_ro_1, s_ro_2, s_ro_kd, s_ro_ln, s_ro_iv, s_ro_jv, s_ro_rv, s_ro_ar, s_ro_al, s_ro_ro]; rw [up2_n (by omega), e8]; exact h1.2.2.1
    · simp only [s_iv_1, s_iv_2, s_iv_kd, s_iv_ln, s_iv_iv, s_iv_jv, s_iv_rv, s_iv_ar, s_iv_al, s_iv_ro, s_jv_1, s_jv_2, s_jv_kd, s_jv_ln, s_jv_iv, s_jv_jv, s_jv_rv, s_jv_ar, s_jv_al, s_jv_ro, s_rv_1, s_rv_2, s_rv_kd, s_rv_ln, s_rv_iv, s_rv_jv, s_rv_rv, s_rv_ar, s_rv_al, s_rv_ro, s_ar_1, s_ar_2, s_ar_kd, s_ar_ln, s_ar_iv, s_ar_jv, s_ar_rv, s_ar_ar, s_ar_al, s_ar_ro, s_al_1, s_al_2, s_al_kd, s_al_ln, s_al_iv, s_al_jv, s_al_rv, s_al_ar, s_al_al, s_al_ro, s_ro_1, s_ro_2, s_ro_kd, s_ro_ln, s_ro_iv, s_ro_jv, s_ro_rv, s_ro_ar, s_ro_al, s_ro_ro]
      have a5' : c_ar D (b + 9) = c_ar C (b + 9) := a5
      rw [a5']; exact h1.2.2.2.1 h hh
    · have hh' : h < H.1.1 + 1 := hh
      have a6' : ∀ h, c_ar D (b + 10) h = if h = H.1.1 then nI s else c_ar C (b + 10) h := a6
      simp only [s_iv_1, s_iv_2, s_iv_kd, s_iv_ln, s_iv_iv, s_iv_jv, s_iv_rv, s_iv_ar, s_iv_al, s_iv_ro, s_jv_1, s_jv_2, s_jv_kd, s_jv_ln, s_jv_iv, s_jv_jv, s_jv_rv, s_jv_ar, s_jv_al, s_jv_ro, s_rv_1, s_rv_2, s_rv_kd, s_rv_ln, s_rv_iv, s_rv_jv, s_rv_rv, s_rv_ar, s_rv_al, s_rv_ro, s_ar_1, s_ar_2, s_ar_kd, s_ar_ln, s_ar_iv, s_ar_jv, s_ar_rv, s_ar_ar, s_ar_al, s_ar_ro, s_al_1, s_al_2, s_al_kd, s_al_ln, s_al_iv, s_al_jv, s_al_rv, s_al_ar, s_al_al, s_al_ro, s_ro_1, s_ro_2, s_ro_kd, s_ro_ln, s_ro_iv, s_ro_jv, s_ro_rv, s_ro_ar, s_ro_al, s_ro_ro, updN_nI]
      rw [a6' h]
      by_cases e : h = H.1.1
      · simp only [e, ↓reduceIte]
      · simp only [e, ↓reduceIte]; exact h1.2.2.2.2 h (by omega)
    · rw [msI_e, nI_1]
    · have hh' : h < H.1.1 + 1 := hh
      have old : ∀ e : h ≠ H.1.1, _ := fun e => hm.1.2 h (by omega)
      show N6.2.2.1 8 h = _ ∧ N6.2.2.1 9 h = _ ∧ N6.2.2.1 10 h = _ ∧ N6.2.2.1 11 h = _
      simp only [updN_nI]
      rw [z8 h, z9 h, z10 h, z11 h]
      by_cases e : h = H.1.1
      · simp only [e, ↓reduceIte, and_self]
      · simp only [e, ↓reduceIte]; exact old e
    · rw [msI_n (by decide), msI_e]
    · rw [msI_n (by decide), msI_n (by decide)]; exact x15
    · have hh' : h < H.1.1 + 1 := hh
      show N6.2.2.1 12 h = _
      rw [z12 h]
      by_cases e : h = H.1.1
      · rw [if_pos e, e, hok.2.2.2.2.1 H.1.1 (Nat.le_refl _)]; rfl
      · rw [if_neg e]; exact hm.2.2.2.1 h (by omega)
    · have hh' : h < H.1.1 + 1 := hh
      show N6.2.2.1 13 h = _
      rw [z13 h, updN_nI]
      by_cases e : h = H.1.1
      · simp only [e, ↓reduceIte]
      · simp only [e, ↓reduceIte]; exact hm.2.2.2.2 h (by omega)
    · show H.1.1 + 1 ≤ 10; omega
    · have hh' : h < H.1.1 + 1 := hh
      show 1 ≤ updN H.1.2.1 H.1.1 s h ∧ updN H.1.2.1 H.1.1 s h ≤ 100 ∧ updN H.1.2.2.1 H.1.1 t h ≤ 30 ∧ updN H.1.2.2.2.1 H.1.1 r h ≤ 30 ∧ updN H.1.2.2.2.2 H.1.1 bb h ≤ 30
      unfold updN
      by_cases e : h = H.1.1
      · simp only [e, ↓reduceIte]; exact ⟨hs1, hs2, ht, hr, hbb⟩
      · simp only [e, ↓reduceIte]; exact hok.1.2 h (by omega)
    · show H.2.2.2.1 ||| 2 ^ H.1.1 < 2 ^ (H.1.1 + 1)
      have h3 : H.2.2.2.1 < 2 ^ (H.1.1 + 1) := Nat.lt_of_lt_of_le hok.2.1 (Nat.pow_le_pow_right (by decide) (by omega))
      exact Nat.or_lt_two_pow h3 (Nat.pow_lt_pow_right (by decide) (by omega))
    · have hh' : H.1.1 + 1 ≤ h := hh
      exact hok.2.2.2.2.1 h (by omega)
    · have hh' : h < H.1.1 + 1 := hh
      show updN H.2.2.1 H.1.1 s h ≤ updN H.1.2.1 H.1.1 s h
      unfold updN
      by_cases e : h = H.1.1
      · simp only [e, ↓reduceIte]; exact Nat.le_refl _
      · simp only [e, ↓reduceIte]; exact hok.2.2.2.2.2 h (by omega)
    · simp only [s_iv_1, s_iv_2, s_iv_kd, s_iv_ln, s_iv_iv, s_iv_jv, s_iv_rv, s_iv_ar, s_iv_al, s_iv_ro, s_jv_1, s_jv_2, s_jv_kd, s_jv_ln, s_jv_iv, s_jv_jv, s_jv_rv, s_jv_ar, s_jv_al, s_jv_ro, s_rv_1, s_rv_2, s_rv_kd, s_rv_ln, s_rv_iv, s_rv_jv, s_rv_rv, s_rv_ar, s_rv_al, s_rv_ro, s_ar_1, s_ar_2, s_ar_kd, s_ar_ln, s_ar_iv, s_ar_jv, s_ar_rv, s_ar_ar, s_ar_al, s_ar_ro, s_al_1, s_al_2, s_al_kd, s_al_ln, s_al_iv, s_al_jv, s_al_rv, s_al_ar, s_al_al, s_al_ro, s_ro_1, s_ro_2, s_ro_kd, s_ro_ln, s_ro_iv, s_ro_jv, s_ro_rv, s_ro_ar, s_ro_al, s_ro_ro]; exact up2_e _ _ _ _
  · have c4 : nI H.1.1 = 10 := by rw [show H.1.1 = 10 by omega]; rfl
    rw [if_pos c4]
    unfold t_X0_add
    have c3 : ¬ nI H.1.1 < 10 := nI_nlt (b := 10) (by omega) (by omega)
    simp only [tcl_1, tgR_1_0, tpR_1_0, tgR_1_1, tpR_1_1, tgR_1_2, tpR_1_2, tgR_1_3, tpR_1_3, tgR_1_4, tpR_1_4, tgR_1_5, tpR_1_5, tgI_1_6, tpI_1_6, tgI_1_7, tpI_1_7, tgI_1_8, tpI_1_8, hk, h1.1.1, c3, ↓reduceIte, Option.bind_some]
    exact op_same I0 _
