def nwD (P : HP) (bw d : Nat) (nu : Nat → Nat) : Nat → Nat := if d = 0 then nu else rsB P bw nu
def spD (bw d bt : Nat) : Nat := if d = 0 then bt else bt + bw
theorem nwD_ok {P : HP} {bw d : Nat} {nu : Nat → Nat} (h : nowOk P nu) : nowOk P (nwD P bw d nu) := by
  unfold nwD
  split
  · exact h
  · exact rsB_ok _ _ _
theorem rgo_wp {N : MS} {H : HX} {S : SX} {T : TX} {bw d s bt : Nat} {nu : Nat → Nat} (hm : HandsM H N) (hok : HandsOk H) (sm : SongsM S N) (sok : SongsOk S) (tm : TasksM T N) (tok : TasksOk T) (h26 : N.1 26 = nI bw) (hbw : bw ≤ 50) (hd : d < T.1) (hs : s < S.1) (hnu : Dft N d H.1 nu) (hnok : nowOk H.1 nu) (hbt : N.2.2.1 29 d = nI bt) (hvs : 1 ≤ S.2.2.1 s) : WP (g_X12_go (nI d) (nI s) N) (fun q => q.1 = (if (rOf H S T (nwD H.1 bw d nu) s d).1 = 2 then 1 else 0) ∧ FM [16, 20, 21] [13, 17, 18, 19, 29] N q.2 ∧ q.2.1 16 = N.1 16 ∧ q.2.2.2.1 17 = N.2.2.1 17 ∧ q.2.2.2.1 18 = N.2.2.1 18 ∧ RK N q.2 d ∧ ((rOf H S T (nwD H.1 bw d nu) s d).1 = 2 → Dft q.2 (d + 1) H.1 (nOf H S T (nwD H.1 bw d nu) s d) ∧ q.2.2.2.1 29 (d + 1) = nI (spD bw d bt + (rOf H S T (nwD H.1 bw d nu) s d).2))) := by
  have h4 := tok.1
  have h6 := sok.1
  have hn1 := hok.1.1
  obtain ⟨o1, o2, o3, o4⟩ := tok.2 d hd
  have hWk : HWok H.1 (wOf H S T s d) := ⟨hok.2.1, fun h _ => hok.2.2.2.1 h, fun t => sBt_le sok hs hvs t, o3, o4⟩
  unfold g_X12_go
  simp only [WP_bind, nI_1]
  refine WP.mono (carry_wp (d := d) (e := d + 1) (now := nu) hok.1 hm.1.1 (by omega) (by omega) (by omega) hnu) (fun N1 ⟨G1, dr1, o13⟩ => ?_)
  -- behind the rest
  have main : ∀ N2 : MS, FM [] [13] N N2 → Dft N2 (d + 1) H.1 (nwD H.1 bw d nu) → (∀ j, j < 10 * (d + 1) ∨ 10 * (d + 1) + H.1.1 ≤ j → N2.2.2.1 13 j = N.2.2.1 13 j) → WP (g_X12_go_J23 (nI d) (nI s) N2) (fun q => q.1 = (if (rOf H S T (nwD H.1 bw d nu) s d).1 = 2 then 1 else 0) ∧ FM [16, 20, 21] [13, 17, 18, 19, 29] N q.2 ∧ q.2.1 16 = N.1 16 ∧ q.2.2.2.1 17 = N.2.2.1 17 ∧ q.2.2.2.1 18 = N.2.2.1 18 ∧ RK N q.2 d ∧ ((rOf H S T (nwD H.1 bw d nu) s d).1 = 2 → Dft q.2 (d + 1) H.1 (nOf H S T (nwD H.1 bw d nu) s d) ∧ q.2.2.2.1 29 (d + 1) = nI (spD bw d bt + (rOf H S T (nwD H.1 bw d nu) s d).2))) := by
    intro N2 G2 dr2 o2'
    obtain ⟨t23, t24, t25⟩ := tm.2 d hd
    have m23 : mld N2 23 (nI d) = some (nI (T.2.2.1 d)) := by rw [mld_n (k := 23) (show d < 4 by omega) (by decide), G2.2 23 (by decide), t23]
    have m24 : mld N2 24 (nI d) = some (nI (T.2.2.2.1 d)) := by rw [mld_n (k := 24) (show d < 4 by omega) (by decide), G2.2 24 (by decide), t24]
    have m25 : mld N2 25 (nI d) = some (nI (T.2.2.2.2 d)) := by rw [mld_n (k := 25) (show d < 4 by omega) (by decide), G2.2 25 (by decide), t25]
    have e14 : N2.1 14 = nI H.2.2.2.1 := by rw [G2.i (by decide)]; exact hm.2.1
    unfold g_X12_go_J23
    simp only [m23, m24, m25, e14, Option.bind_some, WP_bind, nI_1]
    refine WP.mono (work_wp (nt := 0) (d := d + 1) (now0 := nwD H.1 bw d nu) (goal := T.2.2.1 d) (fl := H.2.2.2.2) (W := wOf H S T s d) (hm.1.fr G2 (by decide)) ((sm.2 s hs).fr G2 (by decide)) rfl hok.1 hWk (by omega) (by omega) dr2 (nwD_ok hnok) (by rw [G2.2 12 (by decide)]; exact hm.2.2.2.1) (by rw [G2.i (by decide)]; exact hm.2.2.1) hok.2.2.1 (by omega)) ?_
    rintro ⟨pv, N3⟩ ⟨w1, w2, w3, w4, w5, _⟩
    dsimp only at w1 w2 w3 w4 w5 ⊢
    obtain ⟨w5a, w5b, w5c⟩ := w5 rfl
    have hZ : hRun H.1 (wOf H S T s d) H.2.2.2.2 (T.2.2.1 d) (nwD H.1 bw d nu) 300 0 = rOf H S T (nwD H.1 bw d nu) s d := rfl
    rw [hZ] at w1 w3
    have hrl := hRun_le (P := H.1) (W := wOf H S T s d) (fl := H.2.2.2.2) (goal := T.2.2.1 d) (now := nwD H.1 bw d nu) 300 0
    rw [hZ] at hrl
    have hpos := hrl.2.2 (by decide)
    have m29 : mld N3 29 (nI d) = some (nI bt) := by rw [mld_n (k := 29) (show d < 5 by omega) (by decide), w2.2 29 (by decide), G2.2 29 (by decide), hbt]
    have e26 : N3.1 26 = nI bw := by rw [w2.i (by decide), G2.i (by decide)]; exact h26
    have hnO : nOf H S T (nwD H.1 bw d nu) s d = (hSt H.1 (wOf H S T s d) (nwD H.1 bw d nu) (rOf H S T (nwD H.1 bw d nu) s d).2).1 := rfl
    rw [m29]
    simp only [WP_some, e26]
    have last : ∀ z : Nat, bt + z = spD bw d bt → WP (g_X12_go_J80 (nI d) (nI s) pv (nI z) (nI bt) (nI (d + 1)) N3) (fun q => q.1 = (if (rOf H S T (nwD H.1 bw d nu) s d).1 = 2 then 1 else 0) ∧ FM [16, 20, 21] [13, 17, 18, 19, 29] N q.2 ∧ q.2.1 16 = N.1 16 ∧ q.2.2.2.1 17 = N.2.2.1 17 ∧ q.2.2.2.1 18 = N.2.2.1 18 ∧ RK N q.2 d ∧ ((rOf H S T (nwD H.1 bw d nu) s d).1 = 2 → Dft q.2 (d + 1) H.1 (nOf H S T (nwD H.1 bw d nu) s d) ∧ q.2.2.2.1 29 (d + 1) = nI (spD bw d bt + (rOf H S T (nwD H.1 bw d nu) s d).2))) := by
      intro z hz
      unfold g_X12_go_J80
      simp only [WP_bind]
      refine mst_wp rfl (show d + 1 < 5 by omega) (by decide) (fun N4 G4 i4 r4 => ?_)
      have G34 : FM [16, 20, 21] [13, 17, 18, 19, 29] N N4 := (G2.mono (fun k h => absurd h List.not_mem_nil) (by decide)).tr ((w2.mono (fun k h => h) (by decide)).tr (G4.mono (fun k h => absurd h List.not_mem_nil) (by decide)))
      have q16 : N4.1 16 = N.1 16 := by rw [i4, w5a, G2.i (by decide)]
      have q17 : N4.2.2.1 17 = N.2.2.1 17 := by rw [G4.2 17 (by decide), w5b, G2.2 17 (by decide)]
      have q18 : N4.2.2.1 18 = N.2.2.1 18 := by rw [G4.2 18 (by decide), w5c, G2.2 18 (by decide)]
      have rk : RK N N4 d := ⟨fun i hi => by rw [G34.2 27 (by decide)], fun i hi => by rw [r4, if_neg (by omega), w2.2 29 (by decide), G2.2 29 (by decide)], fun j hj => by rw [G4.2 13 (by decide), w4 j (by omega), o2' j (by omega)]⟩
      by_cases hr : (rOf H S T (nwD H.1 bw d nu) s d).1 = 2
      · rw [if_pos hr] at w1
        rw [if_neg (by rw [w1]; exact nI_nle (by omega) (by omega))]
        refine WP.ret ⟨by rw [if_pos hr], G34, q16, q17, q18, rk, fun _ => ⟨fun h hh => ?_, ?_⟩⟩
        · rw [G4.2 13 (by decide), hnO]; exact w3 h hh
        · rw [r4, if_pos rfl, w1, nI_add, nI_add, hz]
      · rw [if_neg hr] at w1
        have hle : pv ≤ 0 := by
          rw [w1]
          have h3 := nI_sub_neg (a := 0) (b := (rOf H S T (nwD H.1 bw d nu) s d).2) (by omega) (by omega)
          rw [Int32.le_iff_toInt_le]
          rw [Int32.lt_iff_toInt_lt] at h3
          have h9 : (0 : Int32) - nI (rOf H S T (nwD H.1 bw d nu) s d).2 = nI 0 - nI (rOf H S T (nwD H.1 bw d nu) s d).2 := rfl
          rw [h9]
          omega
        rw [if_pos hle]
        exact WP.ret ⟨by rw [if_neg hr], G34, q16, q17, q18, rk, fun z => absurd z hr⟩
    by_cases hd0 : d = 0
    · rw [if_pos (show nI d ≤ 0 by rw [hd0]; decide)]
      exact last 0 (by unfold spD; rw [if_pos hd0]; rfl)
    · rw [if_neg (nI_nle (by omega) (by omega))]
      exact last bw (by unfold spD; rw [if_neg hd0])
  by_cases hd0 : d = 0
  · rw [if_pos (show nI d ≤ 0 by rw [hd0]; decide)]
    refine main N1 G1 ?_ o13
    unfold nwD
    rw [if_pos hd0]
    exact dr1
  · rw [if_neg (nI_nle (by omega) (by omega))]
    have e26 : N1.1 26 = nI bw := by rw [G1.i (by decide)]; exact h26
    simp only [WP_bind, e26]
    refine WP.mono (restAll_wp (d := d + 1) (hm.1.fr G1 (by decide)) hok.1 (by omega) (by omega) dr1 hnok) (fun N2 ⟨G2, dr2, o2'⟩ => ?_)
    refine main N2 (G1.tr G2) ?_ (fun j hj => by rw [o2' j hj, o13 j hj])
    unfold nwD
    rw [if_neg hd0]
    exact dr2
