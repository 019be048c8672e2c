theorem rpop {d s : Nat} {x : Int32} {S : SX} {N : MS} (h0 : N.1 0 = nI S.1) (hd : d + 1 < 4) (h27 : N.2.2.1 27 (d + 1) = nI S.1) (h27d : N.2.2.1 27 d = nI s) : ∃ N', g_X12_findPlan_L18 (x, nI (d + 1), N) = some (.inl (x, nI d, N')) ∧ FM [] [27] N N' ∧ N'.1 = N.1 ∧ N'.2.2.1 27 d = nI (s + 1) ∧ ∀ i, i ≠ d → N'.2.2.1 27 i = N.2.2.1 27 i := by
  obtain ⟨N3, hN3, G3, i3, a3⟩ := mst_wp (K := fun N3 => FM [] [27] N N3 ∧ N3.1 = N.1 ∧ ∀ h, N3.2.2.1 27 h = if h = d then nI s + 1 else N.2.2.1 27 h) (N := N) (k := 27) (j := d) (i := nI d) (x := nI s + 1) rfl (show d < 4 by omega) (by decide) (fun N2 a c e => ⟨a, c, e⟩)
  refine ⟨N3, ?_, G3, i3, by rw [a3, if_pos rfl, nI_1], fun i hi => by rw [a3, if_neg hi]⟩
  unfold g_X12_findPlan_L18
  dsimp only
  rw [if_neg (nI_pos (by omega)), mld_n (k := 27) (show d + 1 < 4 by omega) (by decide), h27]
  simp only [Option.bind_some]
  rw [if_pos h0.symm, nI_m1, if_neg (nI_pos (by omega)), mld_n (k := 27) (show d < 4 by omega) (by decide), h27d]
  simp only [Option.bind_some]
  rw [hN3]
  rfl
section RSEARCH
variable {M : MS} {H : HX} {S : SX} {T : TX} {bw : Nat}
theorem rsearch (hm : HandsM H M) (hok : HandsOk H) (sm : SongsM S M) (sok : SongsOk S) (tm : TasksM T M) (tok : TasksOk T) (h26 : M.1 26 = nI bw) (hbw : bw ≤ 50) : ∀ f d, d + (f + 1) = T.1 → ∀ k s (N : MS) (acc : Nat × (Nat → Nat)) way nu bt, s + k = S.1 → N.2.2.1 27 d = nI s → RP M N H T acc way d nu bt → acc.1 ≤ 1000000000 → nowOk H.1 nu → bt ≤ 400 * d → ∃ (N' : MS), Rch g_X12_findPlan_L18 (BF f * k) (bI acc.1, nI d, N) (bI (plS (plD H S T bw f (d + 1)) H S T bw d (nwD H.1 bw d nu) (spD bw d bt) way k s acc).1, nI d, N') ∧ RP M N' H T (plS (plD H S T bw f (d + 1)) H S T bw d (nwD H.1 bw d nu) (spD bw d bt) way k s acc) way d nu bt ∧ (plS (plD H S T bw f (d + 1)) H S T bw d (nwD H.1 bw d nu) (spD bw d bt) way k s acc).1 ≤ 1000000000 ∧ N'.2.2.1 27 d = nI S.1 ∧ RK N N' d := by
  have h4 := tok.1
  have h6 := sok.1
  have hn1 := hok.1.1
  intro f
  induction f with
  | zero =>
    intro d hdT k
    induction k with
    | zero =>
      intro s N acc way nu bt hsk h27 R hacc hnok hbt
      exact ⟨N, Rch.rf _, R, hacc, by rw [h27, show s = S.1 by omega], RK.rf _ _⟩
    | succ k ihk =>
      intro s N acc way nu bt hsk h27 R hacc hnok hbt
      have hrr := rround hm hok sm sok tm tok h26 hbw (d := d) (s := s) (by omega) (by omega) h27 R hacc hnok hbt
      have step : ∀ acc2 : Nat × (Nat → Nat), acc2.1 ≤ 1000000000 → (∃ N', g_X12_findPlan_L18 (bI acc.1, nI d, N) = some (.inl (bI acc2.1, nI d, N')) ∧ RP M N' H T acc2 way d nu bt ∧ N'.2.2.1 27 d = nI (s + 1) ∧ RK N N' d) → ∃ N', Rch g_X12_findPlan_L18 (BF 0 * (k + 1)) (bI acc.1, nI d, N) (bI (plS (plD H S T bw 0 (d + 1)) H S T bw d (nwD H.1 bw d nu) (spD bw d bt) way k (s + 1) acc2).1, nI d, N') ∧ RP M N' H T (plS (plD H S T bw 0 (d + 1)) H S T bw d (nwD H.1 bw d nu) (spD bw d bt) way k (s + 1) acc2) way d nu bt ∧ (plS (plD H S T bw 0 (d + 1)) H S T bw d (nwD H.1 bw d nu) (spD bw d bt) way k (s + 1) acc2).1 ≤ 1000000000 ∧ N'.2.2.1 27 d = nI S.1 ∧ RK N N' d := by
        rintro acc2 ha2 ⟨N1, e1, R1, e2, K1⟩
        obtain ⟨N2, c1, R2, c2, c3, K2⟩ := ihk (s + 1) N1 acc2 way nu bt (by omega) e2 R1 ha2 hnok hbt
        exact ⟨N2, ((Rch.one e1).tr c1).mono (by show 1 + 1 * k ≤ 1 * (k + 1); omega), R2, c2, c3, K1.tr K2⟩
      unfold plS
      by_cases hr : (rOf H S T (nwD H.1 bw d nu) s d).1 = 2
      · rw [if_pos hr, if_pos (show d + 1 = T.1 by omega)]
        refine step _ ?_ (rleaf hm hok sm sok tm tok h26 hbw (by omega) (by omega) h27 R hacc hnok hbt hr (by omega))
        split
        · show spD bw d bt + _ ≤ _
          omega
        · exact hacc
      · rw [if_neg hr]
        exact step acc hacc (hrr.1 hr)
  | succ f ihf =>
    intro d hdT k
    induction k with
    | zero =>
      intro s N acc way nu bt hsk h27 R hacc hnok hbt
      exact ⟨N, Rch.rf _, R, hacc, by rw [h27, show s = S.1 by omega], RK.rf _ _⟩
    | succ k ihk =>
      intro s N acc way nu bt hsk h27 R hacc hnok hbt
      have hrr := rround hm hok sm sok tm tok h26 hbw (d := d) (s := s) (by omega) (by omega) h27 R hacc hnok hbt
      have step : ∀ (acc2 : Nat × (Nat → Nat)) (N1 : MS), acc2.1 ≤ 1000000000 → Rch g_X12_findPlan_L18 (BF (f + 1)) (bI acc.1, nI d, N) (bI acc2.1, nI d, N1) → RP M N1 H T acc2 way d nu bt → N1.2.2.1 27 d = nI (s + 1) → RK N N1 d → ∃ N', Rch g_X12_findPlan_L18 (BF (f + 1) * (k + 1)) (bI acc.1, nI d, N) (bI (plS (plD H S T bw (f + 1) (d + 1)) H S T bw d (nwD H.1 bw d nu) (spD bw d bt) way k (s + 1) acc2).1, nI d, N') ∧ RP M N' H T (plS (plD H S T bw (f + 1) (d + 1)) H S T bw d (nwD H.1 bw d nu) (spD bw d bt) way k (s + 1) acc2) way d nu bt ∧ (plS (plD H S T bw (f + 1) (d + 1)) H S T bw d (nwD H.1 bw d nu) (spD bw d bt) way k (s + 1) acc2).1 ≤ 1000000000 ∧ N'.2.2.1 27 d = nI S.1 ∧ RK N N' d := by
        intro acc2 N1 ha2 e1 R1 e2 K1
        obtain ⟨N2, c1, R2, c2, c3, K2⟩ := ihk (s + 1) N1 acc2 way nu bt (by omega) e2 R1 ha2 hnok hbt
        exact ⟨N2, (e1.tr c1).mono (by rw [Nat.mul_succ]; omega), R2, c2, c3, K1.tr K2⟩
      unfold plS
      by_cases hr : (rOf H S T (nwD H.1 bw d nu) s d).1 = 2
      · rw [if_pos hr, if_neg (show ¬ d + 1 = T.1 by omega)]
        obtain ⟨N1, e1, R1, z1, K1, z2⟩ := hrr.2 hr (by omega)
        have hnok2 : nowOk H.1 (nOf H S T (nwD H.1 bw d nu) s d) := hSt_ok (nwD_ok hnok) _
        have hrl := (hRun_le (P := H.1) (W := wOf H S T s d) (fl := H.2.2.2.2) (goal := T.2.2.1 d) (now := nwD H.1 bw d nu) 300 0).2.1
        have hZ : hRun H.1 (wOf H S T s d) H.2.2.2.2 (T.2.2.1 d) (nwD H.1 bw d nu) 300 0 = rOf H S T (nwD H.1 bw d nu) s d := rfl
        rw [hZ] at hrl
        have hsp : spD bw d bt ≤ 400 * d + 50 := by unfold spD; split <;> omega
        obtain ⟨N2, c1, R2, c2, c3, K2⟩ := ihf (d + 1) (by omega) S.1 0 N1 acc (updN way d s) (nOf H S T (nwD H.1 bw d nu) s d) (spD bw d bt + (rOf H S T (nwD H.1 bw d nu) s d).2) (by omega) z1 R1 hacc hnok2 (by omega)
        have en : nwD H.1 bw (d + 1) (nOf H S T (nwD H.1 bw d nu) s d) = rsB H.1 bw (nOf H S T (nwD H.1 bw d nu) s d) := by unfold nwD; rw [if_neg (by omega)]
        have es : spD bw (d + 1) (spD bw d bt + (rOf H S T (nwD H.1 bw d nu) s d).2) = spD bw d bt + (rOf H S T (nwD H.1 bw d nu) s d).2 + bw := by show (if d + 1 = 0 then _ else _) = _; rw [if_neg (by omega)]
        rw [en, es] at c1 R2 c2
        have epl : plS (plD H S T bw f (d + 1 + 1)) H S T bw (d + 1) (rsB H.1 bw (nOf H S T (nwD H.1 bw d nu) s d)) (spD bw d bt + (rOf H S T (nwD H.1 bw d nu) s d).2 + bw) (updN way d s) S.1 0 acc = plD H S T bw (f + 1) (d + 1) (rsB H.1 bw (nOf H S T (nwD H.1 bw d nu) s d)) (spD bw d bt + (rOf H S T (nwD H.1 bw d nu) s d).2 + bw) (updN way d s) acc := rfl
        rw [epl] at c1 R2 c2
        obtain ⟨GG, oo, q16, q17, q18, q28, q27, qd, q29⟩ := R2
        have n0 : N2.1 0 = nI S.1 := by rw [GG.i (by decide)]; exact sm.1
        have n27d : N2.2.2.1 27 d = nI s := by rw [K2.1 d (by omega)]; exact z2
        obtain ⟨N3, e3, G3, i3, p1, p2⟩ := rpop (d := d) (s := s) (x := bI (plD H S T bw (f + 1) (d + 1) (rsB H.1 bw (nOf H S T (nwD H.1 bw d nu) s d)) (spD bw d bt + (rOf H S T (nwD H.1 bw d nu) s d).2 + bw) (updN way d s) acc).1) n0 (by omega) c3 n27d
        obtain ⟨_, _, _, _, _, _, r27, rdf, r29⟩ := R
        refine step _ N3 c2 (((Rch.one e1).tr (c1.tr (Rch.one e3))).mono ?_) ⟨GG.tr (G3.mono (fun k h => absurd h List.not_mem_nil) (by decide)), fun j hj => by rw [G3.2 13 (by decide)]; exact oo j hj, by rw [i3]; exact q16, by rw [G3.2 17 (by decide)]; exact q17, by rw [G3.2 18 (by decide)]; exact q18, fun z i hi => by rw [G3.2 28 (by decide)]; exact q28 z i hi, fun i hi => ?_, fun h hh => ?_, ?_⟩ p1 ⟨fun i hi => ?_, fun i hi => ?_, fun j hj => ?_⟩
        · show 1 + (BF f * S.1 + 1) ≤ 2 + BF f * 6
          have := Nat.mul_le_mul_left (BF f) h6
          omega
        · rw [p2 i (by omega), K2.1 i (by omega), K1.1 i hi]; exact r27 i hi
        · rw [G3.2 13 (by decide), K2.2.2 _ (by omega), K1.2.2 _ (by omega)]; exact rdf h hh
        · rw [G3.2 29 (by decide), K2.2.1 d (by omega), K1.2.1 d (Nat.le_refl _)]; exact r29
        · rw [p2 i (by omega), K2.1 i (by omega), K1.1 i hi]
        · rw [G3.2 29 (by decide), K2.2.1 i (by omega), K1.2.1 i hi]
        · rw [G3.2 13 (by decide), K2.2.2 j (by omega), K1.2.2 j hj]
      · rw [if_neg hr]
        obtain ⟨N1, e1, R1, e2, K1⟩ := hrr.1 hr
        exact step acc N1 hacc ((Rch.one e1).mono (by show 1 ≤ 2 + BF f * 6; omega)) R1 e2 K1
end RSEARCH
