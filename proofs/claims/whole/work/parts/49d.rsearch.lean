def BF : Nat → Nat
  | 0 => 1
  | f + 1 => 2 + BF f * 6
theorem bI_neg (e : Nat) (h : e < 2 ^ 31) : (bI e < 0) ↔ e = 1000000000 := by
  unfold bI
  by_cases he : e = 1000000000
  · rw [if_pos he]; exact ⟨fun _ => he, fun _ => by decide⟩
  · rw [if_neg he]; exact ⟨fun z => absurd z (nI_pos h), fun z => absurd z he⟩
/-- one song's round at depth d: what it makes of the way and the best -/
theorem rround {M : MS} {H : HX} {S : SX} {T : TX} {bw : Nat} (hm : HandsM H M) (hok : HandsOk H) (sm : SongsM S M) (sok : SongsOk S) (tm : TasksM T M) (tok : TasksOk T) (h26 : M.1 26 = nI bw) (hbw : bw ≤ 50) {d s bt : Nat} {N : MS} {acc : Nat × (Nat → Nat)} {way nu : Nat → Nat} (hd : d < T.1) (hs : s < S.1) (h27 : N.2.2.1 27 d = nI s) (R : RP M N H T acc way d nu bt) (hacc : acc.1 ≤ 1000000000) (hnok : nowOk H.1 nu) (hbt : bt ≤ 400 * d) : (¬ (rOf H S T (nwD H.1 bw d nu) s d).1 = 2 → ∃ N', g_X12_findPlan_L18 (bI acc.1, nI d, N) = some (.inl (bI acc.1, nI d, N')) ∧ RP M N' H T acc way d nu bt ∧ N'.2.2.1 27 d = nI (s + 1) ∧ RK N N' d) ∧ ((rOf H S T (nwD H.1 bw d nu) s d).1 = 2 → d + 1 ≠ T.1 → ∃ N', g_X12_findPlan_L18 (bI acc.1, nI d, N) = some (.inl (bI acc.1, nI (d + 1), N')) ∧ RP M N' H T acc (updN way d s) (d + 1) (nOf H S T (nwD H.1 bw d nu) s d) (spD bw d bt + (rOf H S T (nwD H.1 bw d nu) s d).2) ∧ N'.2.2.1 27 (d + 1) = nI 0 ∧ RK N N' d ∧ N'.2.2.1 27 d = nI s) := by
  have h4 := tok.1
  have h6 := sok.1
  have hn1 := hok.1.1
  obtain ⟨G, o13, r16, r17, r18, r28, r27, rdf, r29⟩ := id R
  have hmN : HandsM H N := hm.fr G (by decide) (by decide) o13 hn1
  have smN := sm.fr G (by decide) (by decide)
  have tmN := tm.fr G (by decide) (by decide)
  have hvs := (sm.2 s hs).2.2.2.2.1
  obtain ⟨⟨p, N1⟩, hgo, g1, g2, g3, g4, g5, g6, g7⟩ := rgo_wp hmN hok smN sok tmN tok (by rw [G.i (by decide)]; exact h26) hbw hd hs rdf hnok r29 hvs
  dsimp only at g1 g2 g3 g4 g5 g6 g7
  have m27 : mld N 27 (nI d) = some (nI s) := by rw [mld_n (k := 27) (show d < 4 by omega) (by decide), h27]
  have m271 : mld N1 27 (nI d) = some (nI s) := by rw [mld_n (k := 27) (show d < 4 by omega) (by decide), g2.2 27 (by decide), h27]
  have hne : ¬ nI s = N.1 0 := by rw [smN.1]; exact fun z => by have := (nI_eq (by omega) (by omega)).mp z; omega
  have GM1 : FM [16, 20, 21] [13, 17, 18, 19, 27, 28, 29] M N1 := G.tr (g2.mono (fun k h => h) (by decide))
  have o131 : ∀ j, j < 10 → N1.2.2.1 13 j = M.2.2.1 13 j := fun j hj => by rw [g6.2.2 j (by omega), o13 j hj]
  have n22 : N1.1 22 = nI T.1 := by rw [GM1.i (by decide)]; exact tm.1
  have start : g_X12_findPlan_L18 (bI acc.1, nI d, N) = (if p = 0 then ((mld N1 27 (nI d)).bind fun v32 => (mst N1 27 (nI d) (v32 + 1)).bind fun M34 => some (.inl (bI acc.1, nI d, M34))) else (if (N1.1 22) ≤ (nI d + 1) then (if bI acc.1 < 0 then (g_X12_findPlan_L18_J122 (nI d) N1) else ((mld N1 29 (N1.1 22)).bind fun v28 => if bI acc.1 ≤ v28 then (g_X12_findPlan_L18_J160 (bI acc.1) (nI d) N1) else (g_X12_findPlan_L18_J122 (nI d) N1))) else ((mst N1 27 (nI d + 1) 0).bind fun M31 => some (.inl (bI acc.1, nI d + 1, M31))))) := by
    unfold g_X12_findPlan_L18
    dsimp only
    rw [if_neg (nI_pos (by omega)), m27]
    simp only [Option.bind_some]
    rw [if_neg hne, hgo]
    rfl
  refine ⟨fun hr => ?_, fun hr hnl => ?_⟩
  · rw [if_neg hr] at g1
    rw [start, if_pos g1, m271]
    simp only [Option.bind_some]
    obtain ⟨N2, hN2, G2, i2, a2⟩ := mst_wp (K := fun N2 => FM [] [27] N1 N2 ∧ N2.1 = N1.1 ∧ ∀ h, N2.2.2.1 27 h = if h = d then nI s + 1 else N1.2.2.1 27 h) (N := N1) (k := 27) (j := d) (i := nI d) (x := nI s + 1) rfl (show d < 4 by omega) (by decide) (fun N2 a c e => ⟨a, c, e⟩)
    rw [hN2]
    refine ⟨N2, rfl, ⟨GM1.tr (G2.mono (fun k h => absurd h List.not_mem_nil) (by decide)), fun j hj => by rw [G2.2 13 (by decide)]; exact o131 j hj, by rw [i2, g3, r16], by rw [G2.2 17 (by decide), g4, r17], by rw [G2.2 18 (by decide), g5, r18], fun z i hi => by rw [G2.2 28 (by decide), g2.2 28 (by decide)]; exact r28 z i hi, fun i hi => by rw [a2, if_neg (by omega), g2.2 27 (by decide)]; exact r27 i hi, fun h hh => by rw [G2.2 13 (by decide), g6.2.2 _ (by omega)]; exact rdf h hh, by rw [G2.2 29 (by decide), g6.2.1 d (Nat.le_refl _)]; exact r29⟩, by rw [a2, if_pos rfl, nI_1], ⟨fun i hi => by rw [a2, if_neg (by omega)]; exact g6.1 i hi, fun i hi => by rw [G2.2 29 (by decide)]; exact g6.2.1 i hi, fun j hj => by rw [G2.2 13 (by decide)]; exact g6.2.2 j hj⟩⟩
  · rw [if_pos hr] at g1
    obtain ⟨gd, gb⟩ := g7 hr
    rw [start, if_neg (by rw [g1]; decide), n22, nI_1, if_neg (nI_ge (by omega) (by omega))]
    obtain ⟨N2, hN2, G2, i2, a2⟩ := mst_wp (K := fun N2 => FM [] [27] N1 N2 ∧ N2.1 = N1.1 ∧ ∀ h, N2.2.2.1 27 h = if h = d + 1 then 0 else N1.2.2.1 27 h) (N := N1) (k := 27) (j := d + 1) (i := nI (d + 1)) (x := 0) rfl (show d + 1 < 4 by omega) (by decide) (fun N2 a c e => ⟨a, c, e⟩)
    rw [hN2]
    refine ⟨N2, rfl, ⟨GM1.tr (G2.mono (fun k h => absurd h List.not_mem_nil) (by decide)), fun j hj => by rw [G2.2 13 (by decide)]; exact o131 j hj, by rw [i2, g3, r16], by rw [G2.2 17 (by decide), g4, r17], by rw [G2.2 18 (by decide), g5, r18], fun z i hi => by rw [G2.2 28 (by decide), g2.2 28 (by decide)]; exact r28 z i hi, fun i hi => ?_, fun h hh => by rw [G2.2 13 (by decide)]; exact gd h hh, by rw [G2.2 29 (by decide)]; exact gb⟩, by rw [a2, if_pos rfl]; rfl, ⟨fun i hi => by rw [a2, if_neg (by omega)]; exact g6.1 i hi, fun i hi => by rw [G2.2 29 (by decide)]; exact g6.2.1 i hi, fun j hj => by rw [G2.2 13 (by decide)]; exact g6.2.2 j hj⟩, by rw [a2, if_neg (by omega), g2.2 27 (by decide)]; exact h27⟩
    rw [a2, if_neg (by omega), g2.2 27 (by decide), updN_nI]
    by_cases hid : i = d
    · rw [if_pos hid, hid]; exact h27
    · rw [if_neg hid]; exact r27 i (by omega)
theorem keepWay_wp {N : MS} {n : Nat} {x1 x2 : Int32} (hn : n ≤ 4) (h22 : N.1 22 = nI n) : WP (iter (g_X12_findPlan_L134 x1 x2) 100000 (0, N)) (fun N' => FM [] [28] N N' ∧ N'.1 = N.1 ∧ ∀ i, i < n → N'.2.2.1 28 i = N.2.2.1 27 i) := by
  refine WP.it (fun i x => x.1 = nI i ∧ FM [] [28] N x.2 ∧ x.2.1 = N.1 ∧ ∀ j, j < i → x.2.2.2.1 28 j = N.2.2.1 27 j) n ?_ 100000 0 _ ⟨rfl, FM.rf _ _ _, rfl, fun j hj => absurd hj (Nat.not_lt_zero _)⟩ (Nat.zero_le _) (by omega)
  rintro i ⟨y, N1⟩ hi ⟨e1, F, e2, e3⟩
  dsimp only at e1 F e2 e3
  subst e1
  unfold g_X12_findPlan_L134
  dsimp only
  rw [e2, h22]
  by_cases hlt : i < n
  · rw [if_neg (nI_ge hlt (by omega)), mld_n (k := 27) (show i < 4 by omega) (by decide)]
    simp only [WP_bind, WP_some, Option.bind_some]
    refine mst_wp rfl (show i < 4 by omega) (by decide) (fun N2 G2 i2 r2 => ?_)
    refine ⟨hlt, nI_1 i, F.tr G2, by rw [i2, e2], fun j hj => ?_⟩
    rw [r2]
    by_cases hji : j = i
    · subst hji; rw [if_pos rfl, F.2 27 (by decide)]
    · rw [if_neg hji]; exact e3 j (by omega)
  · have hii : i = n := by omega
    subst hii
    rw [if_pos (nI_le (by omega) (by omega))]
    simp only [WP_bind, WP_some, Option.bind_some, Sum.elim_inl, Sum.elim_inr, ↓reduceIte]
    exact ⟨F, e2, e3⟩
theorem rleaf {M : MS} {H : HX} {S : SX} {T : TX} {bw : Nat} (hm : HandsM H M) (hok : HandsOk H) (sm : SongsM S M) (sok : SongsOk S) (tm : TasksM T M) (tok : TasksOk T) (h26 : M.1 26 = nI bw) (hbw : bw ≤ 50) {d s bt : Nat} {N : MS} {acc : Nat × (Nat → Nat)} {way nu : Nat → Nat} (hd : d < T.1) (hs : s < S.1) (h27 : N.2.2.1 27 d = nI s) (R : RP M N H T acc way d nu bt) (hacc : acc.1 ≤ 1000000000) (hnok : nowOk H.1 nu) (hbt : bt ≤ 400 * d) (hr : (rOf H S T (nwD H.1 bw d nu) s d).1 = 2) (hl : d + 1 = T.1) : ∃ N', g_X12_findPlan_L18 (bI acc.1, nI d, N) = some (.inl (bI (if spD bw d bt + (rOf H S T (nwD H.1 bw d nu) s d).2 < acc.1 then (spD bw d bt + (rOf H S T (nwD H.1 bw d nu) s d).2, updN way d s) else acc).1, nI d, N')) ∧ RP M N' H T (if spD bw d bt + (rOf H S T (nwD H.1 bw d nu) s d).2 < acc.1 then (spD bw d bt + (rOf H S T (nwD H.1 bw d nu) s d).2, updN way d s) else acc) way d nu bt ∧ N'.2.2.1 27 d = nI (s + 1) ∧ RK N N' d := by
  have h4 := tok.1
  have h6 := sok.1
  have hn1 := hok.1.1
  obtain ⟨G, o13, r16, r17, r18, r28, r27, rdf, r29⟩ := id R
  have hmN : HandsM H N := hm.fr G (by decide) (by decide) o13 hn1
  have smN := sm.fr G (by decide) (by decide)
  have tmN := tm.fr G (by decide) (by decide)
  have hvs := (sm.2 s hs).2.2.2.2.1
  obtain ⟨⟨p, N1⟩, hgo, g1, g2, g3, g4, g5, g6, g7⟩ := rgo_wp hmN hok smN sok tmN tok (by rw [G.i (by decide)]; exact h26) hbw hd hs rdf hnok r29 hvs
  dsimp only at g1 g2 g3 g4 g5 g6 g7
  obtain ⟨gd, gb⟩ := g7 hr
  have hrl := (hRun_le (P := H.1) (W := wOf H S T s d) (fl := H.2.2.2.2) (goal := T.2.2.1 d) (now := nwD H.1 bw d nu) 300 0).2.1
  have hZ : hRun H.1 (wOf H S T s d) H.2.2.2.2 (T.2.2.1 d) (nwD H.1 bw d nu) 300 0 = rOf H S T (nwD H.1 bw d nu) s d := rfl
  rw [hZ] at hrl
  have hsp : spD bw d bt ≤ 400 * d + 50 := by unfold spD; split <;> omega
  generalize hX : spD bw d bt + (rOf H S T (nwD H.1 bw d nu) s d).2 = X at gb ⊢
  have hX2 : X < 100000 := by omega
  have m27 : mld N 27 (nI d) = some (nI s) := by rw [mld_n (k := 27) (show d < 4 by omega) (by decide), h27]
  have hne : ¬ nI s = N.1 0 := by rw [smN.1]; exact fun z => by have := (nI_eq (by omega) (by omega)).mp z; omega
  have GM1 : FM [16, 20, 21] [13, 17, 18, 19, 27, 28, 29] M N1 := G.tr (g2.mono (fun k h => h) (by decide))
  have o131 : ∀ j, j < 10 → N1.2.2.1 13 j = M.2.2.1 13 j := fun j hj => by rw [g6.2.2 j (by omega), o13 j hj]
  have n22 : N1.1 22 = nI T.1 := by rw [GM1.i (by decide)]; exact tm.1
  have m29 : mld N1 29 (nI T.1) = some (nI X) := by rw [← hl, mld_n (k := 29) (show d + 1 < 5 by omega) (by decide), gb]
  rw [if_pos hr] at g1
  have start : g_X12_findPlan_L18 (bI acc.1, nI d, N) = (if bI acc.1 < 0 then (g_X12_findPlan_L18_J122 (nI d) N1) else (if bI acc.1 ≤ nI X then (g_X12_findPlan_L18_J160 (bI acc.1) (nI d) N1) else (g_X12_findPlan_L18_J122 (nI d) N1))) := by
    unfold g_X12_findPlan_L18
    dsimp only
    rw [if_neg (nI_pos (by omega)), m27]
    simp only [Option.bind_some]
    rw [if_neg hne, hgo]
    simp only [Option.bind_some]
    rw [if_neg (by rw [g1]; decide), n22, nI_1, if_pos (nI_le (by omega) (by omega)), m29]
    rfl
  -- the way goes on
  have go160 : ∀ (N2 : MS) (acc2 : Nat × (Nat → Nat)) (x : Int32), FM [] [28] N1 N2 → N2.1 = N1.1 → (acc2.1 ≠ 1000000000 → ∀ i, i < T.1 → N2.2.2.1 28 i = nI (acc2.2 i)) → ∃ N', g_X12_findPlan_L18_J160 x (nI d) N2 = some (.inl (x, nI d, N')) ∧ RP M N' H T acc2 way d nu bt ∧ N'.2.2.1 27 d = nI (s + 1) ∧ RK N N' d := by
    intro N2 acc2 x G2 i2 b2
    have m272 : mld N2 27 (nI d) = some (nI s) := by rw [mld_n (k := 27) (show d < 4 by omega) (by decide), G2.2 27 (by decide), g2.2 27 (by decide), h27]
    obtain ⟨N3, hN3, G3, i3, a3⟩ := mst_wp (K := fun N3 => FM [] [27] N2 N3 ∧ N3.1 = N2.1 ∧ ∀ h, N3.2.2.1 27 h = if h = d then nI s + 1 else N2.2.2.1 27 h) (N := N2) (k := 27) (j := d) (i := nI d) (x := nI s + 1) rfl (show d < 4 by omega) (by decide) (fun N2 a c e => ⟨a, c, e⟩)
    unfold g_X12_findPlan_L18_J160
    rw [m272]
    simp only [Option.bind_some]
    rw [hN3]
    refine ⟨N3, rfl, ⟨GM1.tr ((G2.mono (fun k h => absurd h List.not_mem_nil) (by decide)).tr (G3.mono (fun k h => absurd h List.not_mem_nil) (by decide))), fun j hj => by rw [G3.2 13 (by decide), G2.2 13 (by decide)]; exact o131 j hj, by rw [i3, i2, g3, r16], by rw [G3.2 17 (by decide), G2.2 17 (by decide), g4, r17], by rw [G3.2 18 (by decide), G2.2 18 (by decide), g5, r18], fun z i hi => by rw [G3.2 28 (by decide)]; exact b2 z i hi, fun i hi => by rw [a3, if_neg (by omega), G2.2 27 (by decide), g2.2 27 (by decide)]; exact r27 i hi, fun h hh => by rw [G3.2 13 (by decide), G2.2 13 (by decide), g6.2.2 _ (by omega)]; exact rdf h hh, by rw [G3.2 29 (by decide), G2.2 29 (by decide), g6.2.1 d (Nat.le_refl _)]; exact r29⟩, by rw [a3, if_pos rfl, nI_1], ⟨fun i hi => by rw [a3, if_neg (by omega), G2.2 27 (by decide)]; exact g6.1 i hi, fun i hi => by rw [G3.2 29 (by decide), G2.2 29 (by decide)]; exact g6.2.1 i hi, fun j hj => by rw [G3.2 13 (by decide), G2.2 13 (by decide)]; exact g6.2.2 j hj⟩⟩
  have go122 : ∃ N', g_X12_findPlan_L18_J122 (nI d) N1 = some (.inl (nI X, nI d, N')) ∧ RP M N' H T (X, updN way d s) way d nu bt ∧ N'.2.2.1 27 d = nI (s + 1) ∧ RK N N' d := by
    obtain ⟨N2, hN2, G2, i2, b2⟩ := keepWay_wp (x1 := nI X) (x2 := nI d) h4 n22
    unfold g_X12_findPlan_L18_J122
    rw [n22, m29]
    simp only [Option.bind_some]
    rw [hN2]
    simp only [Option.bind_some]
    refine go160 N2 (X, updN way d s) (nI X) G2 i2 (fun _ i hi => ?_)
    rw [b2 i hi, g2.2 27 (by decide)]
    show _ = nI (updN way d s i)
    rw [updN_nI]
    by_cases hid : i = d
    · rw [if_pos hid, hid]; exact h27
    · rw [if_neg hid]; exact r27 i (by omega)
  have bX : bI X = nI X := by unfold bI; rw [if_neg (by omega)]
  rw [start]
  by_cases hn : acc.1 = 1000000000
  · rw [if_pos ((bI_neg _ (by omega)).mpr hn), if_pos (show X < acc.1 by omega)]
    show ∃ N', _ = some (Sum.inl (bI X, nI d, N')) ∧ _
    rw [bX]
    exact go122
  · have bA : bI acc.1 = nI acc.1 := by unfold bI; rw [if_neg hn]
    rw [if_neg (fun z => hn ((bI_neg _ (by omega)).mp z))]
    by_cases hlt : X < acc.1
    · rw [if_neg (by rw [bA]; exact nI_ge hlt (by omega)), if_pos hlt]
      show ∃ N', _ = some (Sum.inl (bI X, nI d, N')) ∧ _
      rw [bX]
      exact go122
    · rw [if_pos (by rw [bA]; exact nI_le (by omega) (by omega)), if_neg hlt]
      exact go160 N1 acc (bI acc.1) (FM.rf _ _ _) rfl (fun z i hi => by rw [g2.2 28 (by decide)]; exact r28 z i hi)
