theorem BF_le : ∀ f, f < 4 → BF f ≤ 302 := by decide
theorem rfind_wp {M : MS} {H : HX} {S : SX} {T : TX} {bw : Nat} (hm : HandsM H M) (hok : HandsOk H) (sm : SongsM S M) (sok : SongsOk S) (tm : TasksM T M) (tok : TasksOk T) (h26 : M.1 26 = nI bw) (hbw : bw ≤ 50) (hT : 0 < T.1) : ∃ N', g_X12_findPlan M = some (bI (planM H S T bw).1, N') ∧ FM [20, 21] [13, 19, 27, 28, 29] M N' ∧ (∀ j, j < 10 → N'.2.2.1 13 j = M.2.2.1 13 j) ∧ (planM H S T bw).1 ≤ 1000000000 ∧ ((planM H S T bw).1 ≠ 1000000000 → ∀ i, i < T.1 → N'.2.2.1 28 i = nI ((planM H S T bw).2 i)) := by
  have h4 := tok.1
  have h6 := sok.1
  obtain ⟨N1, hN1, G1, i1, a1⟩ := mst_wp (K := fun N1 => FM [] [29] M N1 ∧ N1.1 = M.1 ∧ ∀ h, N1.2.2.1 29 h = if h = 0 then 0 else M.2.2.1 29 h) (N := M) (k := 29) (j := 0) (i := 0) (x := 0) rfl (by decide) (by decide) (fun N2 a c e => ⟨a, c, e⟩)
  obtain ⟨N2, hN2, G2, i2, a2⟩ := mst_wp (K := fun N2 => FM [] [27] N1 N2 ∧ N2.1 = N1.1 ∧ ∀ h, N2.2.2.1 27 h = if h = 0 then 0 else N1.2.2.1 27 h) (N := N1) (k := 27) (j := 0) (i := 0) (x := 0) rfl (by decide) (by decide) (fun N2 a c e => ⟨a, c, e⟩)
  have R0 : RP M N2 H T (1000000000, fun _ => 0) (fun _ => 0) 0 H.2.2.1 0 := ⟨(G1.mono (fun k h => absurd h List.not_mem_nil) (by decide)).tr (G2.mono (fun k h => absurd h List.not_mem_nil) (by decide)), fun j hj => by rw [G2.2 13 (by decide), G1.2 13 (by decide)], by rw [i2, i1], by rw [G2.2 17 (by decide), G1.2 17 (by decide)], by rw [G2.2 18 (by decide), G1.2 18 (by decide)], fun z => absurd rfl z, fun i hi => absurd hi (Nat.not_lt_zero _), fun h hh => by rw [Nat.mul_zero, Nat.zero_add, G2.2 13 (by decide), G1.2 13 (by decide)]; exact hm.2.2.2.2 h hh, by rw [G2.2 29 (by decide), a1, if_pos rfl]; rfl⟩
  obtain ⟨f, hf⟩ : ∃ f, T.1 = f + 1 := ⟨T.1 - 1, by omega⟩
  obtain ⟨N3, ⟨m, hm1, hm2⟩, R3, c2, c3, _⟩ := rsearch hm hok sm sok tm tok h26 hbw f 0 (by omega) S.1 0 N2 (1000000000, fun _ => 0) (fun _ => 0) H.2.2.1 0 (by omega) (by rw [a2, if_pos rfl]; rfl) R0 (Nat.le_refl _) hok.2.2.2.2.2 (Nat.zero_le _)
  have epl : plS (plD H S T bw f (0 + 1)) H S T bw 0 (nwD H.1 bw 0 H.2.2.1) (spD bw 0 0) (fun _ => 0) S.1 0 (1000000000, fun _ => 0) = planM H S T bw := by
    unfold planM
    rw [hf]
    rfl
  rw [epl] at R3 c2 hm2
  obtain ⟨GG, oo, q16, q17, q18, q28, q27, qd, q29⟩ := R3
  have hb := BF_le f (by omega)
  have hbS : BF f * S.1 ≤ 302 * 6 := Nat.mul_le_mul hb h6
  have n0 : N3.1 0 = nI S.1 := by rw [GG.i (by decide)]; exact sm.1
  have e1 : g_X12_findPlan_L18 (bI (planM H S T bw).1, nI 0, N3) = some (.inl (bI (planM H S T bw).1, -1, N3)) := by
    unfold g_X12_findPlan_L18
    dsimp only
    rw [if_neg (show ¬ nI 0 < 0 by decide), mld_n (k := 27) (by decide) (by decide), c3]
    simp only [Option.bind_some]
    rw [if_pos n0.symm, if_pos (show nI 0 + (-1) < 0 by decide)]
    rw [show nI 0 + (-1) = (-1 : Int32) by decide]
  have e2 : g_X12_findPlan_L18 (bI (planM H S T bw).1, -1, N3) = some (.inr (bI (planM H S T bw).1, N3)) := by
    unfold g_X12_findPlan_L18
    dsimp only
    rw [if_pos (show (-1 : Int32) < 0 by decide)]
  have run : iter g_X12_findPlan_L18 100000 ((-1), 0, N2) = some (bI (planM H S T bw).1, N3) := by
    have h9 := hm2 (100000 - m)
    rw [show 100000 - m + m = 100000 by omega] at h9
    have hb0 : (bI (1000000000, fun _ : Nat => (0 : Nat)).1 : Int32) = -1 := by
      unfold bI
      rw [if_pos rfl]
    rw [hb0] at h9
    rw [show ((-1 : Int32), (0 : Int32), N2) = ((-1 : Int32), nI 0, N2) from rfl, h9]
    rw [show 100000 - m = (100000 - m - 2) + 1 + 1 by omega, iter_one e1]
    unfold iter
    rw [e2]
  refine ⟨N3, ?_, ⟨fun q hq => ?_, fun q hq => ?_⟩, oo, c2, q28⟩
  · unfold g_X12_findPlan
    rw [hN1, Option.bind_some, hN2, Option.bind_some, run, Option.bind_some]
  · by_cases h16 : q = 16
    · rw [h16]; exact q16
    · exact GG.1 q (by simp only [List.mem_cons, List.not_mem_nil, or_false] at hq ⊢; omega)
  · by_cases h17 : q = 17
    · rw [h17]; exact q17
    · by_cases h18 : q = 18
      · rw [h18]; exact q18
      · exact GG.2 q (by simp only [List.mem_cons, List.not_mem_nil, or_false] at hq ⊢; omega)
theorem isEmpty_eq {C : CH} {o n : Nat} (h : c_kd C o = 1) (h2 : c_iv C o 2 = nI n) (hn : n ≤ 1000) : t_Jx4a65c_isEmpty_aae02 o C = some (if n = 0 then 1 else 0, C) := by
  unfold t_Jx4a65c_isEmpty_aae02
  simp only [tcl_0, tgI_0_0, tpI_0_0, tgR_0_1, tpR_0_1, tgI_0_2, tpI_0_2, h, h2, Option.bind_some]
  by_cases h0 : n = 0
  · rw [if_pos (by rw [h0]; rfl), if_pos h0]
  · rw [if_neg (nI_ne0 (by omega) (by omega)), if_neg h0]
theorem planInv {b : Nat} {H : HX} {S : SX} {T : TX} {bw : Nat} {X : WX} {R : RX} {K : KX} {C D : CH} {M N : MS} (I : InvX b H S T bw X R K C M) (F : Fr (b + 18) (b + 31) C D) (p5 : c_iv D (b + 18) 5 = 1) (p4 : c_iv D (b + 18) 4 = nI (planM H S T bw).1) (ps : (planM H S T bw).1 ≠ 1000000000 → ∀ i, i < T.1 → c_ar D (b + 31) i = nI ((planM H S T bw).2 i)) (G : FM [20, 21] [13, 19, 27, 28, 29] M N) (on : ∀ j, j < 10 → N.2.2.1 13 j = M.2.2.1 13 j) : Inv b D N := I.scr (by rw [F.1]; exact Nat.le_refl _) F.2.1 (fun a _ => AgS.of F.2.2.1 a) (fun a _ h1 _ _ => F.ag (by omega)) (G.mono (by decide) (by decide)) on (Or.inr ⟨p5, p4, ps⟩)
theorem op_plan {b : Nat} {C : CH} {M : MS} (I : Inv b C M) : OP b (t_X11_plan b C) (g_X12_plan M) := by
  have I0 := I
  obtain ⟨H, S, T, bw, X, R, K, I⟩ := I
  obtain ⟨IB, ⟨h1, hm, hok⟩, ⟨s1, sm, sok⟩, ⟨t1, tm, tok⟩, ⟨b1, bm, bok⟩, _, _, _, _, pl⟩ := id I
  obtain ⟨xk, xr0, xr1, xr2, xr3, xr4, xr6, xr7, xr8, xr9, xr10, xr11⟩ := IB.1.x
  have h4 := tok.1
  have h6 := sok.1
  obtain ⟨kl1, kl2, _⟩ := IB.1.li
  have tk := IB.1.ts
  unfold t_X11_plan g_X12_plan
  simp only [tcl_12, tgR_12_0, tpR_12_0, tgR_12_1, tpR_12_1, tgR_12_2, tpR_12_2, tgR_12_3, tpR_12_3, tgR_12_4, tpR_12_4, tgI_12_5, tpI_12_5, tgR_12_6, tpR_12_6, tgR_12_7, tpR_12_7, tgR_12_8, tpR_12_8, tgR_12_9, tpR_12_9, tgR_12_10, tpR_12_10, tgR_12_11, tpR_12_11, tcl_0, tgI_0_0, tpI_0_0, tgR_0_1, tpR_0_1, tgI_0_2, tpI_0_2, xk, xr0, xr1, xr2, xr3, xr4, xr6, xr7, xr8, xr9, xr10, xr11, kl2, isEmpty_eq kl2 t1.1.2.1 (show T.1 ≤ 1000 by omega), Option.bind_some, tm.1, sm.1]
  by_cases hT : T.1 = 0
  · simp only [hT, ↓reduceIte, i10]
    rw [if_pos (show nI 0 = 0 from rfl)]
    exact op_same I0 _
  simp only [hT, ↓reduceIte, tcl_12, tgR_12_0, tpR_12_0, tgR_12_1, tpR_12_1, tgR_12_2, tpR_12_2, tgR_12_3, tpR_12_3, tgR_12_4, tpR_12_4, tgI_12_5, tpI_12_5, tgR_12_6, tpR_12_6, tgR_12_7, tpR_12_7, tgR_12_8, tpR_12_8, tgR_12_9, tpR_12_9, tgR_12_10, tpR_12_10, tgR_12_11, tpR_12_11, tcl_0, tgI_0_0, tpI_0_0, tgR_0_1, tpR_0_1, tgI_0_2, tpI_0_2, xk, xr0, xr1, xr2, xr3, xr4, xr6, xr7, xr8, xr9, xr10, xr11, kl1, isEmpty_eq kl1 s1.1.2.1 (show S.1 ≤ 1000 by omega), Option.bind_some]
  rw [if_neg (nI_ne0 (show 0 < T.1 by omega) (by omega))]
  by_cases hS : S.1 = 0
  · simp only [hS, ↓reduceIte, i10]
    rw [if_pos (show nI 0 = 0 from rfl)]
    exact op_same I0 _
  rw [if_neg (nI_ne0 (show 0 < S.1 by omega) (by omega))]
  simp only [OP, hS, ↓reduceIte, tcl_12, tgR_12_0, tpR_12_0, tgR_12_1, tpR_12_1, tgR_12_2, tpR_12_2, tgR_12_3, tpR_12_3, tgR_12_4, tpR_12_4, tgI_12_5, tpI_12_5, tgR_12_6, tpR_12_6, tgR_12_7, tpR_12_7, tgR_12_8, tpR_12_8, tgR_12_9, tpR_12_9, tgR_12_10, tpR_12_10, tgR_12_11, tpR_12_11, tcl_10, tgR_10_0, tpR_10_0, tgR_10_1, tpR_10_1, tgR_10_2, tpR_10_2, tgR_10_3, tpR_10_3, tgI_10_4, tpI_10_4, tgI_10_5, tpI_10_5, tgI_10_6, tpI_10_6, tgI_10_7, tpI_10_7, tgI_10_8, tpI_10_8, xk, xr0, xr1, xr2, xr3, xr4, xr6, xr7, xr8, xr9, xr10, xr11, tk, b1, Option.bind_some, WP_bind, WP_some]
  refine WP.mono (findPlan_wp IB h1 hok s1 sok t1 tok bok (by omega) pl) (fun D ⟨F, p5, p4, ps⟩ => ?_)
  obtain ⟨N, hN, G, on, ple, p28⟩ := rfind_wp hm hok sm sok tm tok bm bok (show 0 < T.1 by omega)
  have StD : StS (sh D) b := by rw [F.2.2.1]; exact IB.1
  obtain ⟨xk, xr0, xr1, xr2, xr3, xr4, xr6, xr7, xr8, xr9, xr10, xr11⟩ := StD.x
  have tkD := StD.ts
  have fin := planInv I F p5 p4 ps G on
  rw [hN]
  simp only [tcl_12, tgR_12_0, tpR_12_0, tgR_12_1, tpR_12_1, tgR_12_2, tpR_12_2, tgR_12_3, tpR_12_3, tgR_12_4, tpR_12_4, tgI_12_5, tpI_12_5, tgR_12_6, tpR_12_6, tgR_12_7, tpR_12_7, tgR_12_8, tpR_12_8, tgR_12_9, tpR_12_9, tgR_12_10, tpR_12_10, tgR_12_11, tpR_12_11, tcl_10, tgR_10_0, tpR_10_0, tgR_10_1, tpR_10_1, tgR_10_2, tpR_10_2, tgR_10_3, tpR_10_3, tgI_10_4, tpI_10_4, tgI_10_5, tpI_10_5, tgI_10_6, tpI_10_6, tgI_10_7, tpI_10_7, tgI_10_8, tpI_10_8, xk, xr0, xr1, xr2, xr3, xr4, xr6, xr7, xr8, xr9, xr10, xr11, tkD, p4, Option.bind_some, WP_some]
  by_cases hp : (planM H S T bw).1 = 1000000000
  · rw [if_pos (show nI (planM H S T bw).1 = 1000000000 by rw [hp]; rfl)]
    refine WP.ret ⟨?_, fin⟩
    unfold bI
    rw [if_pos hp]
  · rw [if_neg (show ¬ nI (planM H S T bw).1 = 1000000000 from fun z => hp ((nI_eq (b := 1000000000) (by omega) (by omega)).mp z))]
    refine WP.ret ⟨?_, fin⟩
    unfold bI
    rw [if_neg hp]
theorem op_planAt {b : Nat} {C : CH} {M : MS} (I : Inv b C M) (x : Int32) : OP b (t_X11_planAt b x C) (g_X12_planAt x M) := by
  have I0 := I
  obtain ⟨H, S, T, bw, X, R, K, I⟩ := I
  obtain ⟨IB, ⟨h1, hm, hok⟩, ⟨s1, sm, sok⟩, ⟨t1, tm, tok⟩, ⟨b1, bm, bok⟩, _, _, _, _, pl⟩ := id I
  obtain ⟨xk, xr0, xr1, xr2, xr3, xr4, xr6, xr7, xr8, xr9, xr10, xr11⟩ := IB.1.x
  have h4 := tok.1
  have h6 := sok.1
  obtain ⟨kl1, kl2, _⟩ := IB.1.li
  have tk := IB.1.ts
  unfold t_X11_planAt g_X12_planAt
  rw [gin_eq (l := 0) x 0 (M.1 22 - 1) M rfl rfl, tm.1]
  simp only [tcl_12, tgR_12_0, tpR_12_0, tgR_12_1, tpR_12_1, tgR_12_2, tpR_12_2, tgR_12_3, tpR_12_3, tgR_12_4, tpR_12_4, tgI_12_5, tpI_12_5, tgR_12_6, tpR_12_6, tgR_12_7, tpR_12_7, tgR_12_8, tpR_12_8, tgR_12_9, tpR_12_9, tgR_12_10, tpR_12_10, tgR_12_11, tpR_12_11, tcl_0, tgI_0_0, tpI_0_0, tgR_0_1, tpR_0_1, tgI_0_2, tpI_0_2, xk, xr0, xr1, xr2, xr3, xr4, xr6, xr7, xr8, xr9, xr10, xr11, kl2, sizeL_eq, t1.1.2.1, tw_eq, Option.bind_some, sm.1]
  by_cases hv : x < 0 ∨ nI T.1 - 1 < x
  · simp only [hv, ↓reduceIte]
    exact op_same I0 _
  obtain ⟨i, hi, rfl⟩ := in_n (by omega) hv
  simp only [hv, ↓reduceIte, i10, tcl_12, tgR_12_0, tpR_12_0, tgR_12_1, tpR_12_1, tgR_12_2, tpR_12_2, tgR_12_3, tpR_12_3, tgR_12_4, tpR_12_4, tgI_12_5, tpI_12_5, tgR_12_6, tpR_12_6, tgR_12_7, tpR_12_7, tgR_12_8, tpR_12_8, tgR_12_9, tpR_12_9, tgR_12_10, tpR_12_10, tgR_12_11, tpR_12_11, tcl_0, tgI_0_0, tpI_0_0, tgR_0_1, tpR_0_1, tgI_0_2, tpI_0_2, xk, xr0, xr1, xr2, xr3, xr4, xr6, xr7, xr8, xr9, xr10, xr11, kl1, isEmpty_eq kl1 s1.1.2.1 (show S.1 ≤ 1000 by omega), Option.bind_some]
  by_cases hS : S.1 = 0
  · simp only [hS, ↓reduceIte, i10]
    rw [if_pos (show nI 0 = 0 from rfl)]
    exact op_same I0 _
  rw [if_neg (nI_ne0 (show 0 < S.1 by omega) (by omega))]
  simp only [OP, hS, ↓reduceIte, tcl_12, tgR_12_0, tpR_12_0, tgR_12_1, tpR_12_1, tgR_12_2, tpR_12_2, tgR_12_3, tpR_12_3, tgR_12_4, tpR_12_4, tgI_12_5, tpI_12_5, tgR_12_6, tpR_12_6, tgR_12_7, tpR_12_7, tgR_12_8, tpR_12_8, tgR_12_9, tpR_12_9, tgR_12_10, tpR_12_10, tgR_12_11, tpR_12_11, tcl_10, tgR_10_0, tpR_10_0, tgR_10_1, tpR_10_1, tgR_10_2, tpR_10_2, tgR_10_3, tpR_10_3, tgI_10_4, tpI_10_4, tgI_10_5, tpI_10_5, tgI_10_6, tpI_10_6, tgI_10_7, tpI_10_7, tgI_10_8, tpI_10_8, xk, xr0, xr1, xr2, xr3, xr4, xr6, xr7, xr8, xr9, xr10, xr11, tk, b1, Option.bind_some, WP_bind, WP_some]
  refine WP.mono (findPlan_wp IB h1 hok s1 sok t1 tok bok (by omega) pl) (fun D ⟨F, p5, p4, ps⟩ => ?_)
  obtain ⟨N, hN, G, on, ple, p28⟩ := rfind_wp hm hok sm sok tm tok bm bok (show 0 < T.1 by omega)
  have StD : StS (sh D) b := by rw [F.2.2.1]; exact IB.1
  obtain ⟨xk, xr0, xr1, xr2, xr3, xr4, xr6, xr7, xr8, xr9, xr10, xr11⟩ := StD.x
  obtain ⟨tkD, _, _, _, _, _, _, _, _, _, tr3, k31, l31⟩ := StD.2.2.2.2.1.f
  have fin := planInv I F p5 p4 ps G on
  have d4 : i < 4 := by omega
  rw [hN]
  simp only [tcl_12, tgR_12_0, tpR_12_0, tgR_12_1, tpR_12_1, tgR_12_2, tpR_12_2, tgR_12_3, tpR_12_3, tgR_12_4, tpR_12_4, tgI_12_5, tpI_12_5, tgR_12_6, tpR_12_6, tgR_12_7, tpR_12_7, tgR_12_8, tpR_12_8, tgR_12_9, tpR_12_9, tgR_12_10, tpR_12_10, tgR_12_11, tpR_12_11, tcl_10, tgR_10_0, tpR_10_0, tgR_10_1, tpR_10_1, tgR_10_2, tpR_10_2, tgR_10_3, tpR_10_3, tgI_10_4, tpI_10_4, tgI_10_5, tpI_10_5, tgI_10_6, tpI_10_6, tgI_10_7, tpI_10_7, tgI_10_8, tpI_10_8, Nat.reduceLT, tld_n, tst_n, tldB_n, tstB_n, tldR3_n, tldR4_n, tldJ_n, tstJ_n, tlen_I, tlen_R, xk, xr0, xr1, xr2, xr3, xr4, xr6, xr7, xr8, xr9, xr10, xr11, tkD, tr3, k31, l31, d4, p4, Option.bind_some, WP_some]
  by_cases hp : (planM H S T bw).1 = 1000000000
  · rw [if_pos (show nI (planM H S T bw).1 = 1000000000 by rw [hp]; rfl)]
    refine WP.ret ?_
    rw [if_pos ((bI_neg _ (by omega)).mpr hp)]
    exact WP.ret ⟨rfl, fin⟩
  · rw [if_neg (show ¬ nI (planM H S T bw).1 = 1000000000 from fun z => hp ((nI_eq (b := 1000000000) (by omega) (by omega)).mp z))]
    refine WP.ret ?_
    rw [if_neg (fun z => hp ((bI_neg _ (by omega)).mp z)), mld_n (k := 28) (show i < 4 from d4) (by decide)]
    exact WP.ret ⟨by show c_ar D (b + 31) i = N.2.2.1 28 i; rw [ps hp i hi, p28 hp i hi], fin⟩
