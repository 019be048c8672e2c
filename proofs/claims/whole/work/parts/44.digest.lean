abbrev OPJ (b : Nat) (x : Option (Int64 × CH)) (y : Option (Int64 × MS)) : Prop := WP x (fun r => WP y (fun q => r.1 = q.1 ∧ Inv b r.2 q.2))
def hfold (step : Nat → Int64 → Int64) : Nat → Int64 → Int64
  | 0, h => h
  | n + 1, h => step n (hfold step n h)
theorem loopC {C : CH} {body : Int64 × Int32 × CH → Option ((Int64 × Int32 × CH) ⊕ (Int64 × CH))} (step : Nat → Int64 → Int64) (n : Nat) (h0 : Int64) (hs : ∀ i h, i < n → body (h, nI i, C) = some (.inl (step i h, nI i + 1, C))) (he : ∀ h, body (h, nI n, C) = some (.inr (h, C))) (hn : n < 100000) : iter body 100000 (h0, 0, C) = some (hfold step n h0, C) :=
  iter_seq (fun i => (hfold step i h0, nI i, C)) n _ (fun i hi => by rw [hs i _ hi, nI_1]; rfl) (he _) 100000 hn
theorem loopM {M : MS} {body : Int32 × MS → Option ((Int32 × MS) ⊕ MS)} (step : Nat → Int64 → Int64) (n : Nat) (h0 : Int64) (hs : ∀ i h, i < n → body (nI i, msJ M h) = some (.inl (nI i + 1, msJ M (step i h)))) (he : ∀ h, body (nI n, msJ M h) = some (.inr (msJ M h))) (hn : n < 100000) : iter body 100000 (0, msJ M h0) = some (msJ M (hfold step n h0)) :=
  iter_seq (fun i => (nI i, msJ M (hfold step i h0))) n _ (fun i hi => by rw [hs i _ hi, nI_1]; rfl) (he _) 100000 hn
theorem note_eq (x : Int64) (M : MS) (h : Int64) : g_X12_note x (msJ M h) = some (msJ M (31 * h + x)) := rfl
theorem mldJ1 (M : MS) (h : Int64) (k : Nat) (i : Int32) : mld (msJ M h) k i = mld M k i := rfl
theorem msJ1 (M : MS) (h : Int64) (k : Nat) : (msJ M h).1 k = M.1 k := rfl
/-- one number, and two, three .. of them -/
def mx1 (f : Nat → Nat) (i : Nat) (h : Int64) : Int64 := 31 * h + (nI (f i)).toInt64
def mx2 (f g : Nat → Nat) (i : Nat) (h : Int64) : Int64 := 31 * (31 * h + (nI (f i)).toInt64) + (nI (g i)).toInt64
def mx3 (f g k : Nat → Nat) (i : Nat) (h : Int64) : Int64 := 31 * (31 * (31 * h + (nI (f i)).toInt64) + (nI (g i)).toInt64) + (nI (k i)).toInt64
theorem rowMix_eq {C : CH} {o n : Nat} {f : Nat → Nat} (W : RowS (sh C) o) (hn : n ≤ 24) (h1 : c_iv C o 1 = nI n) (h2 : ∀ k, k < n → c_ar C (o + 1) k = nI (f k)) (h : Int64) : t_X6_mixedInto o h C = some (hfold (mx1 f) n h, C) := by
  obtain ⟨wk, wr0, wk0, wl0⟩ := W.f
  unfold t_X6_mixedInto
  rw [loopC (mx1 f) n h (fun i h hi => ?_) (fun h => ?_) (by omega)]
  · rfl
  · unfold t_X6_mixedInto_L5
    have c1 : ¬ nI n ≤ nI i := nI_ge hi (by omega)
    have c2 : i < 24 := by omega
    simp only [tcl_7, tgR_7_0, tpR_7_0, tgI_7_1, tpI_7_1, Nat.reduceLT, tld_n, tst_n, tldB_n, tstB_n, tldR3_n, tldR4_n, tldJ_n, tstJ_n, tlen_I, tlen_R, wk, wr0, wk0, wl0, h1, c1, c2, ↓reduceIte, Option.bind_some, h2 i hi]
    rfl
  · unfold t_X6_mixedInto_L5
    have c1 : nI n ≤ nI n := nI_le (Nat.le_refl _) (by omega)
    simp only [tcl_7, tgR_7_0, tpR_7_0, tgI_7_1, tpI_7_1, wk, wr0, wk0, wl0, h1, c1, ↓reduceIte, Option.bind_some]
def songStep (S : SX) (s : Nat) (h : Int64) : Int64 := hfold (mx1 (S.2.2.2.2.2 s)) (S.2.2.2.1 s) (hfold (mx1 (S.2.2.2.2.1 s)) (S.2.2.1 s) (mx2 S.2.2.1 S.2.2.2.1 s h))
theorem songMix_eq {C : CH} {o vs rs : Nat} {v r : Nat → Nat} (G : SongS (sh C) o) (V : SongV C o vs rs v r) (h : Int64) : t_X7_mixedInto o h C = some (hfold (mx1 r) rs (hfold (mx1 v) vs (31 * (31 * h + (nI vs).toInt64) + (nI rs).toInt64)), C) := by
  obtain ⟨gk, gr0, gr1, gk1, gr2, gk2, gl2, gk3, gr4, gk4, gl4⟩ := G.f
  obtain ⟨v1, v2, v3, v4, v5, v6, v7⟩ := V
  unfold t_X7_mixedInto
  simp only [tcl_8, tgR_8_0, tpR_8_0, tgR_8_1, tpR_8_1, tcl_7, tgR_7_0, tpR_7_0, tgI_7_1, tpI_7_1, gk, gr0, gr1, gk1, gr2, gk2, gl2, gk3, gr4, gk4, gl4, Option.bind_some, v1, v2]
  rw [rowMix_eq G.2.2.2.1 (by omega) v1 v3]
  simp only [Option.bind_some, tcl_7, tgR_7_0, tpR_7_0, tgI_7_1, tpI_7_1, gk, gr0, gr1, gk1, gr2, gk2, gl2, gk3, gr4, gk4, gl4]
  rw [rowMix_eq G.2.2.2.2 (by omega) v2 v4]
  rfl
def handStep (H : HX) (i : Nat) (h : Int64) : Int64 := mx3 H.1.2.2.2.2 H.2.1 H.2.2.1 i (mx3 H.1.2.1 H.1.2.2.1 H.1.2.2.2.1 i h)
theorem op_digest {b : Nat} {C : CH} {M : MS} (I : Inv b C M) : OPJ b (t_X11_digest b C) (g_X12_digest M) := by
  have I0 := I
  obtain ⟨H, S, T, bw, X, R, K, I⟩ := I
  obtain ⟨IB, ⟨h1, hm, hok⟩, ⟨s1, sm, sok⟩, ⟨t1, tm, tok⟩, _, ⟨x1, xm, xok⟩, ⟨w1, wm, wok⟩, ⟨k1, km, kok⟩, ⟨n, l1, l2, l3, l4⟩, pl⟩ := I
  obtain ⟨xk, xr0, xr1, xr2, xr3, xr4, xr6, xr7, xr8, xr9, xr10, xr11⟩ := IB.1.x
  obtain ⟨hk, hr0, hk0, hl0, hr1, hk1, hl1, hr2, hk2, hl2, hr3, hk3, hl3, hr4, hk4, hl4, hr5, hk5, hl5⟩ := IB.1.2.2.1.f
  obtain ⟨ok, or0, ok0, ol0, or1, ok1, ol1, or2, ok2, ol2, or3, ok3, ol3, or4, ok4, ol4⟩ := IB.1.2.2.2.1.f
  obtain ⟨mk, mr0, mk0, ml0, mr1, mk1, ml1⟩ := IB.1.2.2.2.2.2.2.1.f
  obtain ⟨wk, _⟩ := IB.1.2.1.f
  obtain ⟨q1, q2, q3⟩ := IB.1.li
  have hh1 := hok.1.1
  have hs6 := sok.1
  have ht4 := tok.1
  have hx12 := xok.1
  have hk60 := kok.1
  have hr24 := wok.1
  -- the counts
  have cnt : ∃ v : Nat → Int32, ∀ i, i < 9 → t_X11_count b (nI i) C = some (v i, C) ∧ ∀ h, g_X12_count (nI i) (msJ M h) = some (v i, msJ M h) := by
    refine ⟨fun i => ((g_X12_count (nI i) M).map Prod.fst).getD 0, fun i hi => ?_⟩
    obtain ⟨e1, v, e2⟩ := op_count I0 (nI i)
    dsimp only
    rw [e1, e2]
    refine ⟨rfl, fun h => ?_⟩
    obtain ⟨e3, v3, e4⟩ := op_count (M := msJ M h) (show Inv b C (msJ M h) from I0) (nI i)
    rw [e4]
    rw [e1, e2, e4] at e3
    have : v = v3 := congrArg Prod.fst (Option.some.inj e3)
    rw [this]
    rfl
  obtain ⟨v, hv⟩ := cnt
  have st1 : iter (t_X11_digest_L6 b) 100000 (283, 0, C) = some (hfold (fun i h => 31 * h + (v i).toInt64) 9 283, C) := by
    refine loopC _ 9 283 (fun i h hi => ?_) (fun h => ?_) (by omega)
    · unfold t_X11_digest_L6
      have c1 : ¬ (8 : Int32) < nI i := nI_nlt (a := 8) (by omega) (by omega)
      simp only [c1, ↓reduceIte, tcl_12, tgR_12_0, tpR_12_0, tgR_12_1, tpR_12_1, tgR_12_2, tpR_12_2, tgR_12_3, tpR_12_3, tgR_12_4, tpR_12_4, tgI_12_5, tpI_12_5, tgR_12_6, tpR_12_6, tgR_12_7, tpR_12_7, tgR_12_8, tpR_12_8, tgR_12_9, tpR_12_9, tgR_12_10, tpR_12_10, tgR_12_11, tpR_12_11, xk, Option.bind_some, (hv i hi).1]
    · unfold t_X11_digest_L6
      have c1 : (8 : Int32) < nI 9 := by decide
      simp only [c1, ↓reduceIte]
  have sm1 : iter g_X12_digest_L9 100000 (0, msJ M 283) = some (msJ M (hfold (fun i h => 31 * h + (v i).toInt64) 9 283)) := by
    refine loopM _ 9 283 (fun i h hi => ?_) (fun h => ?_) (by omega)
    · unfold g_X12_digest_L9
      have c1 : ¬ (9 : Int32) ≤ nI i := nI_ge (b := 9) (by omega) (by omega)
      simp only [c1, ↓reduceIte, Option.bind_some, (hv i hi).2 h, note_eq]
    · unfold g_X12_digest_L9
      have c1 : (9 : Int32) ≤ nI 9 := by decide
      simp only [c1, ↓reduceIte]
  -- the reference's loops
  have sm2 : ∀ h0, iter g_X12_digest_L33 100000 (0, msJ M h0) = some (msJ M (hfold (mx1 R.2) R.1 h0)) := by
    intro h0
    refine loopM _ R.1 h0 (fun i h hi => ?_) (fun h => ?_) (by omega)
    · unfold g_X12_digest_L33
      have c1 : ¬ nI R.1 ≤ nI i := nI_ge hi (by omega)
      simp only [msJ1, wm.1, c1, ↓reduceIte, mldJ1]
      rw [mld_n (k := 6) (show i < 24 by omega) (by decide), wm.2 i hi]
      rfl
    · unfold g_X12_digest_L33
      have c1 : nI R.1 ≤ nI R.1 := nI_le (Nat.le_refl _) (by omega)
      simp only [msJ1, wm.1, c1, ↓reduceIte]
  have sm3 : ∀ h0, iter g_X12_digest_L60 100000 (0, msJ M h0) = some (msJ M (hfold (songStep S) S.1 h0)) := by
    intro h0
    refine loopM _ S.1 h0 (fun i h hi => ?_) (fun h => ?_) (by omega)
    · unfold g_X12_digest_L60
      have c1 : ¬ nI S.1 ≤ nI i := nI_ge hi (by omega)
      obtain ⟨v1, v2, v3, v4, v5, v6, v7⟩ := sm.2 i hi
      have la : ∀ h0, iter (g_X12_digest_L92 (nI i)) 100000 (0, msJ M h0) = some (msJ M (hfold (mx1 (S.2.2.2.2.1 i)) (S.2.2.1 i) h0)) := by
        intro h0
        refine loopM _ (S.2.2.1 i) h0 (fun k h hk => ?_) (fun h => ?_) (by omega)
        · unfold g_X12_digest_L92
          dsimp only
          simp only [mldJ1]
          rw [mld_n (k := 1) (show i < 6 by omega) (by decide), v1]
          simp only [Option.bind_some]
          rw [if_neg (nI_ge hk (by omega)), ix24, mld_n (k := 3) (show 24 * i + k < 144 by omega) (by decide), v3 k hk]
          rfl
        · unfold g_X12_digest_L92
          dsimp only
          simp only [mldJ1]
          rw [mld_n (k := 1) (show i < 6 by omega) (by decide), v1]
          simp only [Option.bind_some]
          rw [if_pos (nI_le (Nat.le_refl _) (by omega))]
      have lb : ∀ h0, iter (g_X12_digest_L126 (nI i)) 100000 (0, msJ M h0) = some (msJ M (hfold (mx1 (S.2.2.2.2.2 i)) (S.2.2.2.1 i) h0)) := by
        intro h0
        refine loopM _ (S.2.2.2.1 i) h0 (fun k h hk => ?_) (fun h => ?_) (by omega)
        · unfold g_X12_digest_L126
          dsimp only
          simp only [mldJ1]
          rw [mld_n (k := 2) (show i < 6 by omega) (by decide), v2]
          simp only [Option.bind_some]
          rw [if_neg (nI_ge hk (by omega)), ix12, mld_n (k := 4) (show 12 * i + k < 72 by omega) (by decide), v4 k hk]
          rfl
        · unfold g_X12_digest_L126
          dsimp only
          simp only [mldJ1]
          rw [mld_n (k := 2) (show i < 6 by omega) (by decide), v2]
          simp only [Option.bind_some]
          rw [if_pos (nI_le (Nat.le_refl _) (by omega))]
      simp only [msJ1, sm.1, c1, ↓reduceIte, mldJ1]
      rw [mld_n (k := 1) (show i < 6 by omega) (by decide), v1]
      simp only [Option.bind_some, note_eq, mldJ1]
      rw [mld_n (k := 2) (show i < 6 by omega) (by decide), v2]
      simp only [Option.bind_some, note_eq, la, lb]
      rfl
    · unfold g_X12_digest_L60
      have c1 : nI S.1 ≤ nI S.1 := nI_le (Nat.le_refl _) (by omega)
      simp only [msJ1, sm.1, c1, ↓reduceIte]
  have sm4 : ∀ h0, iter g_X12_digest_L166 100000 (0, msJ M h0) = some (msJ M (hfold (handStep H) H.1.1 h0)) := by
    intro h0
    refine loopM _ H.1.1 h0 (fun i h hi => ?_) (fun h => ?_) (by omega)
    · unfold g_X12_digest_L166
      have c1 : ¬ nI H.1.1 ≤ nI i := nI_ge hi (by omega)
      obtain ⟨v1, v2, v3, v4⟩ := hm.1.2 i hi
      have e8 := mld_n (M := M) (k := 8) (show i < 10 by omega) (by decide)
      have e9 := mld_n (M := M) (k := 9) (show i < 10 by omega) (by decide)
      have e10 := mld_n (M := M) (k := 10) (show i < 10 by omega) (by decide)
      have e11 := mld_n (M := M) (k := 11) (show i < 10 by omega) (by decide)
      have e12 := mld_n (M := M) (k := 12) (show i < 10 by omega) (by decide)
      have e13 := mld_n (M := M) (k := 13) (show i < 60 by omega) (by decide)
      simp only [msJ1, hm.1.1, c1, ↓reduceIte, mldJ1, e8, e9, e10, e11, e12, e13, Option.bind_some, note_eq, v1, v2, v3, v4, hm.2.2.2.1 i hi, hm.2.2.2.2 i hi]
      rfl
    · unfold g_X12_digest_L166
      have c1 : nI H.1.1 ≤ nI H.1.1 := nI_le (Nat.le_refl _) (by omega)
      simp only [msJ1, hm.1.1, c1, ↓reduceIte]
  have sm5 : ∀ h0, iter g_X12_digest_L248 100000 (0, msJ M h0) = some (msJ M (hfold (fun i h => 31 * h + (M.2.2.1 17 i).toInt64) n h0)) := by
    intro h0
    refine loopM _ n h0 (fun i h hi => ?_) (fun h => ?_) (by omega)
    · unfold g_X12_digest_L248
      have c1 : ¬ nI n ≤ nI i := nI_ge hi (by omega)
      simp only [msJ1, l3, c1, ↓reduceIte, mldJ1]
      rw [mld_n (k := 17) (show i < 300 by omega) (by decide)]
      rfl
    · unfold g_X12_digest_L248
      have c1 : nI n ≤ nI n := nI_le (Nat.le_refl _) (by omega)
      simp only [msJ1, l3, c1, ↓reduceIte]
  have sm6 : ∀ h0, iter g_X12_digest_L275 100000 (0, msJ M h0) = some (msJ M (hfold (fun i h => 31 * h + (M.2.2.1 18 i).toInt64) n h0)) := by
    intro h0
    refine loopM _ n h0 (fun i h hi => ?_) (fun h => ?_) (by omega)
    · unfold g_X12_digest_L275
      have c1 : ¬ nI n ≤ nI i := nI_ge hi (by omega)
      simp only [msJ1, l3, c1, ↓reduceIte, mldJ1]
      rw [mld_n (k := 18) (show i < 300 by omega) (by decide)]
      rfl
    · unfold g_X12_digest_L275
      have c1 : nI n ≤ nI n := nI_le (Nat.le_refl _) (by omega)
      simp only [msJ1, l3, c1, ↓reduceIte]
  have sm7 : ∀ h0, iter g_X12_digest_L302 100000 (0, msJ M h0) = some (msJ M (hfold (mx3 T.2.2.1 T.2.2.2.1 T.2.2.2.2) T.1 h0)) := by
    intro h0
    refine loopM _ T.1 h0 (fun i h hi => ?_) (fun h => ?_) (by omega)
    · unfold g_X12_digest_L302
      have c1 : ¬ nI T.1 ≤ nI i := nI_ge hi (by omega)
      obtain ⟨v1, v2, v3⟩ := tm.2 i hi
      have e8 := mld_n (M := M) (k := 23) (show i < 4 by omega) (by decide)
      have e9 := mld_n (M := M) (k := 24) (show i < 4 by omega) (by decide)
      have e10 := mld_n (M := M) (k := 25) (show i < 4 by omega) (by decide)
      simp only [msJ1, tm.1, c1, ↓reduceIte, mldJ1, e8, e9, e10, Option.bind_some, note_eq, v1, v2, v3]
      rfl
    · unfold g_X12_digest_L302
      have c1 : nI T.1 ≤ nI T.1 := nI_le (Nat.le_refl _) (by omega)
      simp only [msJ1, tm.1, c1, ↓reduceIte]
  have sm8 : ∀ h0, iter g_X12_digest_L351 100000 (0, msJ M h0) = some (msJ M (hfold (mx2 X.2.2.1 X.2.2.2) X.1 h0)) := by
    intro h0
    refine loopM _ X.1 h0 (fun i h hi => ?_) (fun h => ?_) (by omega)
    · unfold g_X12_digest_L351
      have c1 : ¬ nI X.1 ≤ nI i := nI_ge hi (by omega)
      obtain ⟨v1, v2⟩ := xm.2 i hi
      have e8 := mld_n (M := M) (k := 31) (show i < 12 by omega) (by decide)
      have e9 := mld_n (M := M) (k := 32) (show i < 12 by omega) (by decide)
      simp only [msJ1, xm.1, c1, ↓reduceIte, mldJ1, e8, e9, Option.bind_some, note_eq, v1, v2]
      rfl
    · unfold g_X12_digest_L351
      have c1 : nI X.1 ≤ nI X.1 := nI_le (Nat.le_refl _) (by omega)
      simp only [msJ1, xm.1, c1, ↓reduceIte]
  have sm9 : ∀ h0, iter g_X12_digest_L389 100000 (0, msJ M h0) = some (msJ M (hfold (mx2 K.2.1 K.2.2) K.1 h0)) := by
    intro h0
    refine loopM _ K.1 h0 (fun i h hi => ?_) (fun h => ?_) (by omega)
    · unfold g_X12_digest_L389
      have c1 : ¬ nI K.1 ≤ nI i := nI_ge hi (by omega)
      obtain ⟨v1, v2⟩ := km.2 i hi
      have e8 := mld_n (M := M) (k := 36) (show i < 60 by omega) (by decide)
      have e9 := mld_n (M := M) (k := 37) (show i < 60 by omega) (by decide)
      simp only [msJ1, km.1, c1, ↓reduceIte, mldJ1, e8, e9, Option.bind_some, note_eq, v1, v2]
      rfl
    · unfold g_X12_digest_L389
      have c1 : nI K.1 ≤ nI K.1 := nI_le (Nat.le_refl _) (by omega)
      simp only [msJ1, km.1, c1, ↓reduceIte]
  -- the class's loops
  have st3 : ∀ h0, iter (t_X11_digest_L42 b) 100000 (h0, 0, C) = some (hfold (songStep S) S.1 h0, C) := by
    intro h0
    refine loopC _ S.1 h0 (fun i h hi => ?_) (fun h => ?_) (by omega)
    · unfold t_X11_digest_L42
      have c1 : ¬ nI S.1 ≤ nI i := nI_ge hi (by omega)
      obtain ⟨y1, y2, _⟩ := s1.2 i hi
      obtain ⟨gk, _⟩ := y1.f
      simp only [tcl_12, tgR_12_0, tpR_12_0, tgR_12_1, tpR_12_1, tgR_12_2, tpR_12_2, tgR_12_3, tpR_12_3, tgR_12_4, tpR_12_4, tgI_12_5, tpI_12_5, tgR_12_6, tpR_12_6, tgR_12_7, tpR_12_7, tgR_12_8, tpR_12_8, tgR_12_9, tpR_12_9, tgR_12_10, tpR_12_10, tgR_12_11, tpR_12_11, tcl_0, tgI_0_0, tpI_0_0, tgR_0_1, tpR_0_1, tgI_0_2, tpI_0_2, tcl_8, tgR_8_0, tpR_8_0, tgR_8_1, tpR_8_1, xk, xr0, xr1, xr2, xr3, xr4, xr6, xr7, xr8, xr9, xr10, xr11, q1, sizeL_eq, s1.1.2.1, c1, ↓reduceIte, Option.bind_some, get_eq s1.1 hi, gk, songMix_eq y1 y2]
      rfl
    · unfold t_X11_digest_L42
      have c1 : nI S.1 ≤ nI S.1 := nI_le (Nat.le_refl _) (by omega)
      simp only [tcl_12, tgR_12_0, tpR_12_0, tgR_12_1, tpR_12_1, tgR_12_2, tpR_12_2, tgR_12_3, tpR_12_3, tgR_12_4, tpR_12_4, tgI_12_5, tpI_12_5, tgR_12_6, tpR_12_6, tgR_12_7, tpR_12_7, tgR_12_8, tpR_12_8, tgR_12_9, tpR_12_9, tgR_12_10, tpR_12_10, tgR_12_11, tpR_12_11, tcl_0, tgI_0_0, tpI_0_0, tgR_0_1, tpR_0_1, tgI_0_2, tpI_0_2, xk, xr0, xr1, xr2, xr3, xr4, xr6, xr7, xr8, xr9, xr10, xr11, q1, sizeL_eq, s1.1.2.1, c1, ↓reduceIte, Option.bind_some]
  have st4 : ∀ h0, t_X0_mixedInto (b + 4) h0 C = some (hfold (handStep H) H.1.1 h0, C) := by
    intro h0
    unfold t_X0_mixedInto
    rw [loopC (handStep H) H.1.1 h0 (fun i h hi => ?_) (fun h => ?_) (by omega)]
    · rfl
    · unfold t_X0_mixedInto_L5
      have c1 : ¬ nI H.1.1 ≤ nI i := nI_ge hi (by omega)
      have c2 : i < 10 := by omega
      obtain ⟨v1, v2, v3, v4⟩ := h1.1.2 i hi
      have v5 : c_ar C (b + 4 + 5) i = nI (H.2.1 i) := h1.2.2.2.1 i c2
      have v6 : c_ar C (b + 4 + 6) i = nI (H.2.2.1 i) := h1.2.2.2.2 i hi
      simp only [tcl_1, tgR_1_0, tpR_1_0, tgR_1_1, tpR_1_1, tgR_1_2, tpR_1_2, tgR_1_3, tpR_1_3, tgR_1_4, tpR_1_4, tgR_1_5, tpR_1_5, tgI_1_6, tpI_1_6, tgI_1_7, tpI_1_7, tgI_1_8, tpI_1_8, Nat.reduceLT, tld_n, tst_n, tldB_n, tstB_n, tldR3_n, tldR4_n, tldJ_n, tstJ_n, tlen_I, tlen_R, hk, hr0, hk0, hl0, hr1, hk1, hl1, hr2, hk2, hl2, hr3, hk3, hl3, hr4, hk4, hl4, hr5, hk5, hl5, h1.1.1, c1, c2, ↓reduceIte, Option.bind_some, v1, v2, v3, v4, v5, v6]
      rfl
    · unfold t_X0_mixedInto_L5
      have c1 : nI H.1.1 ≤ nI H.1.1 := nI_le (Nat.le_refl _) (by omega)
      simp only [tcl_1, tgR_1_0, tpR_1_0, tgR_1_1, tpR_1_1, tgR_1_2, tpR_1_2, tgR_1_3, tpR_1_3, tgR_1_4, tpR_1_4, tgR_1_5, tpR_1_5, tgI_1_6, tpI_1_6, tgI_1_7, tpI_1_7, tgI_1_8, tpI_1_8, hk, hr0, hk0, hl0, hr1, hk1, hl1, hr2, hk2, hl2, hr3, hk3, hl3, hr4, hk4, hl4, hr5, hk5, hl5, h1.1.1, c1, ↓reduceIte, Option.bind_some]
  have st5 : ∀ h0, t_X1_mixedInto (b + 11) h0 C = some (hfold (fun i h => 31 * h + (M.2.2.1 18 i).toInt64) n (hfold (fun i h => 31 * h + (M.2.2.1 17 i).toInt64) n h0), C) := by
    intro h0
    unfold t_X1_mixedInto
    rw [loopC (fun i h => 31 * h + (M.2.2.1 17 i).toInt64) n h0 (fun i h hi => ?_) (fun h => ?_) (by omega)]
    · simp only [Option.bind_some]
      rw [loopC (fun i h => 31 * h + (M.2.2.1 18 i).toInt64) n _ (fun i h hi => ?_) (fun h => ?_) (by omega)]
      · rfl
      · unfold t_X1_mixedInto_L38
        have c1 : ¬ nI n ≤ nI i := nI_ge hi (by omega)
        have c2 : i < 300 := by omega
        have v5 : c_ar C (b + 11 + 4) i = M.2.2.1 18 i := (l4 i hi).2
        simp only [tcl_2, tgR_2_0, tpR_2_0, tgR_2_1, tpR_2_1, tgR_2_2, tpR_2_2, tgR_2_3, tpR_2_3, tgR_2_4, tpR_2_4, tgI_2_5, tpI_2_5, tgI_2_6, tpI_2_6, tgI_2_7, tpI_2_7, Nat.reduceLT, tld_n, tst_n, tldB_n, tstB_n, tldR3_n, tldR4_n, tldJ_n, tstJ_n, tlen_I, tlen_R, ok, or0, ok0, ol0, or1, ok1, ol1, or2, ok2, ol2, or3, ok3, ol3, or4, ok4, ol4, l2, c1, c2, ↓reduceIte, Option.bind_some, v5]
      · unfold t_X1_mixedInto_L38
        have c1 : nI n ≤ nI n := nI_le (Nat.le_refl _) (by omega)
        simp only [tcl_2, tgR_2_0, tpR_2_0, tgR_2_1, tpR_2_1, tgR_2_2, tpR_2_2, tgR_2_3, tpR_2_3, tgR_2_4, tpR_2_4, tgI_2_5, tpI_2_5, tgI_2_6, tpI_2_6, tgI_2_7, tpI_2_7, ok, or0, ok0, ol0, or1, ok1, ol1, or2, ok2, ol2, or3, ok3, ol3, or4, ok4, ol4, l2, c1, ↓reduceIte, Option.bind_some]
    · unfold t_X1_mixedInto_L5
      have c1 : ¬ nI n ≤ nI i := nI_ge hi (by omega)
      have c2 : i < 300 := by omega
      have v5 : c_ar C (b + 11 + 3) i = M.2.2.1 17 i := (l4 i hi).1
      simp only [tcl_2, tgR_2_0, tpR_2_0, tgR_2_1, tpR_2_1, tgR_2_2, tpR_2_2, tgR_2_3, tpR_2_3, tgR_2_4, tpR_2_4, tgI_2_5, tpI_2_5, tgI_2_6, tpI_2_6, tgI_2_7, tpI_2_7, Nat.reduceLT, tld_n, tst_n, tldB_n, tstB_n, tldR3_n, tldR4_n, tldJ_n, tstJ_n, tlen_I, tlen_R, ok, or0, ok0, ol0, or1, ok1, ol1, or2, ok2, ol2, or3, ok3, ol3, or4, ok4, ol4, l2, c1, c2, ↓reduceIte, Option.bind_some, v5]
    · unfold t_X1_mixedInto_L5
      have c1 : nI n ≤ nI n := nI_le (Nat.le_refl _) (by omega)
      simp only [tcl_2, tgR_2_0, tpR_2_0, tgR_2_1, tpR_2_1, tgR_2_2, tpR_2_2, tgR_2_3, tpR_2_3, tgR_2_4, tpR_2_4, tgI_2_5, tpI_2_5, tgI_2_6, tpI_2_6, tgI_2_7, tpI_2_7, ok, or0, ok0, ol0, or1, ok1, ol1, or2, ok2, ol2, or3, ok3, ol3, or4, ok4, ol4, l2, c1, ↓reduceIte, Option.bind_some]
  have st7 : ∀ h0, iter (t_X11_digest_L95 b) 100000 (h0, 0, C) = some (hfold (mx3 T.2.2.1 T.2.2.2.1 T.2.2.2.2) T.1 h0, C) := by
    intro h0
    refine loopC _ T.1 h0 (fun i h hi => ?_) (fun h => ?_) (by omega)
    · unfold t_X11_digest_L95
      have c1 : ¬ nI T.1 ≤ nI i := nI_ge hi (by omega)
      obtain ⟨⟨y1, y2, y3, y4⟩, _⟩ := t1.2 i hi
      simp only [tcl_12, tgR_12_0, tpR_12_0, tgR_12_1, tpR_12_1, tgR_12_2, tpR_12_2, tgR_12_3, tpR_12_3, tgR_12_4, tpR_12_4, tgI_12_5, tpI_12_5, tgR_12_6, tpR_12_6, tgR_12_7, tpR_12_7, tgR_12_8, tpR_12_8, tgR_12_9, tpR_12_9, tgR_12_10, tpR_12_10, tgR_12_11, tpR_12_11, tcl_0, tgI_0_0, tpI_0_0, tgR_0_1, tpR_0_1, tgI_0_2, tpI_0_2, tcl_9, tgI_9_0, tpI_9_0, tgI_9_1, tpI_9_1, tgI_9_2, tpI_9_2, xk, xr0, xr1, xr2, xr3, xr4, xr6, xr7, xr8, xr9, xr10, xr11, q2, sizeL_eq, t1.1.2.1, c1, ↓reduceIte, Option.bind_some, get_eq t1.1 hi, y1, t_X8_mixedInto, y2, y3, y4]
      rfl
    · unfold t_X11_digest_L95
      have c1 : nI T.1 ≤ nI T.1 := nI_le (Nat.le_refl _) (by omega)
      simp only [tcl_12, tgR_12_0, tpR_12_0, tgR_12_1, tpR_12_1, tgR_12_2, tpR_12_2, tgR_12_3, tpR_12_3, tgR_12_4, tpR_12_4, tgI_12_5, tpI_12_5, tgR_12_6, tpR_12_6, tgR_12_7, tpR_12_7, tgR_12_8, tpR_12_8, tgR_12_9, tpR_12_9, tgR_12_10, tpR_12_10, tgR_12_11, tpR_12_11, tcl_0, tgI_0_0, tpI_0_0, tgR_0_1, tpR_0_1, tgI_0_2, tpI_0_2, xk, xr0, xr1, xr2, xr3, xr4, xr6, xr7, xr8, xr9, xr10, xr11, q2, sizeL_eq, t1.1.2.1, c1, ↓reduceIte, Option.bind_some]
  have st8 : ∀ h0, iter (t_X11_digest_L130 b) 100000 (h0, 0, C) = some (hfold (mx2 X.2.2.1 X.2.2.2) X.1 h0, C) := by
    intro h0
    refine loopC _ X.1 h0 (fun i h hi => ?_) (fun h => ?_) (by omega)
    · unfold t_X11_digest_L130
      have c1 : ¬ nI X.1 ≤ nI i := nI_ge hi (by omega)
      obtain ⟨⟨y1, y2, y3⟩, _⟩ := x1.2 i hi
      simp only [tcl_12, tgR_12_0, tpR_12_0, tgR_12_1, tpR_12_1, tgR_12_2, tpR_12_2, tgR_12_3, tpR_12_3, tgR_12_4, tpR_12_4, tgI_12_5, tpI_12_5, tgR_12_6, tpR_12_6, tgR_12_7, tpR_12_7, tgR_12_8, tpR_12_8, tgR_12_9, tpR_12_9, tgR_12_10, tpR_12_10, tgR_12_11, tpR_12_11, tcl_0, tgI_0_0, tpI_0_0, tgR_0_1, tpR_0_1, tgI_0_2, tpI_0_2, tcl_11, tgI_11_0, tpI_11_0, tgI_11_1, tpI_11_1, xk, xr0, xr1, xr2, xr3, xr4, xr6, xr7, xr8, xr9, xr10, xr11, q3, sizeL_eq, x1.1.2.1, c1, ↓reduceIte, Option.bind_some, get_eq x1.1 hi, y1, t_X10_mixedInto, y2, y3]
      rfl
    · unfold t_X11_digest_L130
      have c1 : nI X.1 ≤ nI X.1 := nI_le (Nat.le_refl _) (by omega)
      simp only [tcl_12, tgR_12_0, tpR_12_0, tgR_12_1, tpR_12_1, tgR_12_2, tpR_12_2, tgR_12_3, tpR_12_3, tgR_12_4, tpR_12_4, tgI_12_5, tpI_12_5, tgR_12_6, tpR_12_6, tgR_12_7, tpR_12_7, tgR_12_8, tpR_12_8, tgR_12_9, tpR_12_9, tgR_12_10, tpR_12_10, tgR_12_11, tpR_12_11, tcl_0, tgI_0_0, tpI_0_0, tgR_0_1, tpR_0_1, tgI_0_2, tpI_0_2, xk, xr0, xr1, xr2, xr3, xr4, xr6, xr7, xr8, xr9, xr10, xr11, q3, sizeL_eq, x1.1.2.1, c1, ↓reduceIte, Option.bind_some]
  have st9 : ∀ h0, t_X5_mixedInto (b + 37) h0 C = some (hfold (mx2 K.2.1 K.2.2) K.1 h0, C) := by
    intro h0
    unfold t_X5_mixedInto
    rw [loopC (mx2 K.2.1 K.2.2) K.1 h0 (fun i h hi => ?_) (fun h => ?_) (by omega)]
    · rfl
    · unfold t_X5_mixedInto_L5
      have c1 : ¬ nI K.1 ≤ nI i := nI_ge hi (by omega)
      have c2 : i < 60 := by omega
      have v5 : c_ar C (b + 37 + 1) i = nI (K.2.1 i) := (k1.2 i hi).1
      have v6 : c_ar C (b + 37 + 2) i = nI (K.2.2 i) := (k1.2 i hi).2
      simp only [tcl_6, tgR_6_0, tpR_6_0, tgR_6_1, tpR_6_1, tgI_6_2, tpI_6_2, Nat.reduceLT, tld_n, tst_n, tldB_n, tstB_n, tldR3_n, tldR4_n, tldJ_n, tstJ_n, tlen_I, tlen_R, mk, mr0, mk0, ml0, mr1, mk1, ml1, k1.1, c1, c2, ↓reduceIte, Option.bind_some, v5, v6]
      rfl
    · unfold t_X5_mixedInto_L5
      have c1 : nI K.1 ≤ nI K.1 := nI_le (Nat.le_refl _) (by omega)
      simp only [tcl_6, tgR_6_0, tpR_6_0, tgR_6_1, tpR_6_1, tgI_6_2, tpI_6_2, mk, mr0, mk0, ml0, mr1, mk1, ml1, k1.1, c1, ↓reduceIte, Option.bind_some]
  unfold t_X11_digest g_X12_digest
  rw [st1]
  simp only [Option.bind_some, tcl_12, tgR_12_0, tpR_12_0, tgR_12_1, tpR_12_1, tgR_12_2, tpR_12_2, tgR_12_3, tpR_12_3, tgR_12_4, tpR_12_4, tgI_12_5, tpI_12_5, tgR_12_6, tpR_12_6, tgR_12_7, tpR_12_7, tgR_12_8, tpR_12_8, tgR_12_9, tpR_12_9, tgR_12_10, tpR_12_10, tgR_12_11, tpR_12_11, tcl_7, tgR_7_0, tpR_7_0, tgI_7_1, tpI_7_1, tcl_1, tgR_1_0, tpR_1_0, tgR_1_1, tpR_1_1, tgR_1_2, tpR_1_2, tgR_1_3, tpR_1_3, tgR_1_4, tpR_1_4, tgR_1_5, tpR_1_5, tgI_1_6, tpI_1_6, tgI_1_7, tpI_1_7, tgI_1_8, tpI_1_8, tcl_2, tgR_2_0, tpR_2_0, tgR_2_1, tpR_2_1, tgR_2_2, tpR_2_2, tgR_2_3, tpR_2_3, tgR_2_4, tpR_2_4, tgI_2_5, tpI_2_5, tgI_2_6, tpI_2_6, tgI_2_7, tpI_2_7, tcl_6, tgR_6_0, tpR_6_0, tgR_6_1, tpR_6_1, tgI_6_2, tpI_6_2, xk, xr0, xr1, xr2, xr3, xr4, xr6, xr7, xr8, xr9, xr10, xr11, wk, hk, ok, mk, rowMix_eq IB.1.2.1 hr24 w1.1 w1.2, st3, st4, st5, st7, st8, st9, sm1, sm2, sm3, sm4, sm5, sm6, sm7, sm8, sm9]
  exact WP.ret (WP.ret ⟨rfl, I0⟩)
