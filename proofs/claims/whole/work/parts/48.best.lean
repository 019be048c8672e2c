/-! BEST: whom to put to the rope -/
def minF (now : Nat → Nat) (init : Nat) : Nat → Nat
  | 0 => init
  | n + 1 => min (minF now init n) (now n)
theorem minF_le (now : Nat → Nat) (init : Nat) : ∀ n, minF now init n ≤ init
  | 0 => Nat.le_refl _
  | n + 1 => by have := minF_le now init n; unfold minF; omega
theorem minF_eq {now : Nat → Nat} : ∀ n, (∀ h, h < n → now h ≤ 100) → 1 ≤ n → minF now 1000 n = minF now 100 n
  | 0, _, h => by omega
  | 1, h, _ => by have := h 0 (by omega); simp only [minF]; omega
  | n + 2, h, _ => by
    have := minF_eq (n + 1) (fun i hi => h i (by omega)) (by omega)
    unfold minF
    rw [this]
theorem leastNow_eq {C : CH} {o : Nat} {P : HP} {now : Nat → Nat} (A : HaulS (sh C) o) (hP : HPok P) (hn : ∀ h, h < P.1 → c_ar C (o + 1) h = nI (now h)) (hok : nowOk P now) : t_X1_leastNow o (nI P.1) C = some (nI (minF now 100 P.1), C) := by
  obtain ⟨ok, or0, ok0, ol0, or1, ok1, ol1, or2, ok2, ol2, or3, ok3, ol3, or4, ok4, ol4⟩ := A.f
  have hn1 := hP.1
  have key : WP (iter (t_X1_leastNow_L5 o (nI P.1)) 100000 (100, 0, C)) (fun r => r = (nI (minF now 100 P.1), C)) := by
    refine WP.it (fun i s => s = (nI (minF now 100 i), nI i, C)) P.1 ?_ 100000 0 _ rfl (Nat.zero_le _) (by omega)
    rintro i s hi rfl
    unfold t_X1_leastNow_L5
    dsimp only
    by_cases hlt : i < P.1
    · have d1 : i < 10 := by omega
      have hm := minF_le now 100 i
      have hst := hP.2 i hlt
      have hno := hok i hlt
      rw [if_neg (nI_ge hlt (by omega))]
      simp only [tcl_2, tgR_2_0, tpR_2_0, tgR_2_1, tpR_2_1, tgR_2_2, tpR_2_2, tgR_2_3, tpR_2_3, tgR_2_4, tpR_2_4, tgI_2_5, tpI_2_5, tgI_2_6, tpI_2_6, tgI_2_7, tpI_2_7, Nat.reduceLT, tld_n, tst_n, tldB_n, tstB_n, tldR3_n, tldR4_n, tldJ_n, tstJ_n, tlen_I, tlen_R, ok, or0, ok0, ol0, or1, ok1, ol1, or2, ok2, ol2, or3, ok3, ol3, or4, ok4, ol4, d1, hn i hlt, Option.bind_some, WP_bind, WP_some, Option.bind_some, Sum.elim_inl, Sum.elim_inr, ↓reduceIte]
      refine ⟨hlt, ?_⟩
      have e : minF now 100 (i + 1) = min (minF now 100 i) (now i) := rfl
      rw [e, nI_1]
      by_cases hc : now i < minF now 100 i
      · rw [if_pos (nI_lt hc (by omega)), show min (minF now 100 i) (now i) = now i by omega]
      · rw [if_neg (nI_nlt (by omega) (by omega)), show min (minF now 100 i) (now i) = minF now 100 i by omega]
    · have hii : i = P.1 := by omega
      subst hii
      rw [if_pos (nI_le (by omega) (by omega))]
      simp only [WP_bind, WP_some, Option.bind_some, Sum.elim_inl, Sum.elim_inr, ↓reduceIte]
  obtain ⟨e, h4, rfl⟩ := key
  unfold t_X1_leastNow
  rw [h4]
  rfl
theorem rleastNow_eq {M : MS} {d : Nat} {P : HP} {now : Nat → Nat} (hP : HPok P) (h7 : M.1 7 = nI P.1) (hd : d < 6) (hn : Dft M d P now) (hok : nowOk P now) : g_X12_leastNow (nI d) M = some (nI (minF now 1000 P.1), M) := by
  have hn1 := hP.1
  have key : WP (iter (g_X12_leastNow_L6 (nI d)) 100000 (1000, 0, M)) (fun r => r = (nI (minF now 1000 P.1), M)) := by
    refine WP.it (fun i s => s = (nI (minF now 1000 i), nI i, M)) P.1 ?_ 100000 0 _ rfl (Nat.zero_le _) (by omega)
    rintro i s hi rfl
    unfold g_X12_leastNow_L6
    dsimp only
    rw [h7]
    by_cases hlt : i < P.1
    · have hm := minF_le now 1000 i
      have hst := hP.2 i hlt
      have hno := hok i hlt
      rw [if_neg (nI_ge hlt (by omega)), ix10, mld_n (k := 13) (show 10 * d + i < 60 by omega) (by decide), hn i hlt]
      simp only [Option.bind_some]
      have e : minF now 1000 (i + 1) = min (minF now 1000 i) (now i) := rfl
      by_cases hc : minF now 1000 i ≤ now i
      · rw [if_pos (nI_le hc (by omega))]
        refine WP.ret ⟨hlt, ?_⟩
        rw [e, nI_1, show min (minF now 1000 i) (now i) = minF now 1000 i by omega]
      · rw [if_neg (nI_ge (by omega) (by omega))]
        refine WP.ret ⟨hlt, ?_⟩
        rw [e, nI_1, show min (minF now 1000 i) (now i) = now i by omega]
    · have hii : i = P.1 := by omega
      subst hii
      rw [if_pos (nI_le (by omega) (by omega))]
      simp only [WP_bind, WP_some, Option.bind_some, Sum.elim_inl, Sum.elim_inr, ↓reduceIte]
  obtain ⟨e, h4, rfl⟩ := key
  unfold g_X12_leastNow
  rw [h4]
  rfl
theorem ones_eq {c : Nat} (hc : c < 1024) (M : MS) : g_X12_ones (nI c) M = some (nI (cntB c 10), M) := by
  have h12 : cntB c 12 = cntB c 10 := by
    have h1 : cntB c 12 = cntB c 10 + (if c.testBit 10 = true then 1 else 0) + (if c.testBit 11 = true then 1 else 0) := rfl
    rw [h1, Nat.testBit_lt_two_pow (show c < 2 ^ 10 from hc), Nat.testBit_lt_two_pow (Nat.lt_of_lt_of_le hc (show 1024 ≤ 2 ^ 11 by decide))]
    rfl
  have key : WP (iter (g_X12_ones_L4 (nI c)) 100000 (0, 0, M)) (fun r => r = (nI (cntB c 12), M)) := by
    refine WP.it (fun i s => s = (nI (cntB c i), nI i, M)) 12 ?_ 100000 0 _ rfl (Nat.zero_le _) (by omega)
    rintro i s hi rfl
    unfold g_X12_ones_L4
    dsimp only
    by_cases hlt : i < 12
    · rw [if_neg (show ¬ (12 : Int32) ≤ nI i from nI_ge (b := 12) hlt (by omega))]
      refine WP.ret ⟨hlt, ?_⟩
      have e : cntB c (i + 1) = cntB c i + (if c.testBit i = true then 1 else 0) := rfl
      rw [e, nI_1]
      by_cases hb : c.testBit i = true
      · rw [(nI_bit (by omega) (by omega)).mpr hb, if_pos hb, nI_1]
      · have hb' : c.testBit i = false := by simpa using hb
        rw [(nI_bit0 (by omega) (by omega)).mpr hb', if_neg hb, Int32.add_zero]
        rfl
    · have hii : i = 12 := by omega
      subst hii
      rw [if_pos (show (12 : Int32) ≤ nI 12 by decide)]
      simp only [WP_bind, WP_some, Option.bind_some, Sum.elim_inl, Sum.elim_inr, ↓reduceIte]
  obtain ⟨e, h4, rfl⟩ := key
  unfold g_X12_ones
  rw [h4, h12]
  rfl
theorem carry_wp {M : MS} {d e : Nat} {P : HP} {now : Nat → Nat} (hP : HPok P) (h7 : M.1 7 = nI P.1) (hd : d < 6) (he : e < 6) (hde : d ≠ e) (hn : Dft M d P now) : WP (g_X12_carry (nI d) (nI e) M) (fun N => FM [] [13] M N ∧ Dft N e P now ∧ ∀ j, j < 10 * e ∨ 10 * e + P.1 ≤ j → N.2.2.1 13 j = M.2.2.1 13 j) := by
  have hn1 := hP.1
  unfold g_X12_carry
  simp only [WP_bind, WP_some]
  refine WP.it (fun i x => x.1 = nI i ∧ FM [] [13] M x.2 ∧ (∀ h, h < i → x.2.2.2.1 13 (10 * e + h) = nI (now h)) ∧ ∀ j, j < 10 * e ∨ 10 * e + i ≤ j → x.2.2.2.1 13 j = M.2.2.1 13 j) P.1 ?_ 100000 0 _ ⟨rfl, FM.rf _ _ _, fun h hh => absurd hh (Nat.not_lt_zero _), fun _ _ => rfl⟩ (Nat.zero_le _) (by omega)
  rintro i ⟨y, N⟩ hi ⟨e1, F, e2, e3⟩
  dsimp only at e1 F e2 e3
  subst e1
  unfold g_X12_carry_L2
  dsimp only
  rw [F.i (by decide), h7]
  by_cases hlt : i < P.1
  · rw [if_neg (nI_ge hlt (by omega)), ix10, ix10, mld_n (k := 13) (show 10 * d + i < 60 by omega) (by decide), e3 (10 * d + i) (by omega), hn i hlt]
    simp only [WP_bind, WP_some, Option.bind_some]
    refine mst_wp rfl (show 10 * e + i < 60 by omega) (by decide) (fun N2 G2 i2 r2 => ?_)
    refine ⟨hlt, nI_1 i, F.tr G2, fun h hh => ?_, fun j hj => ?_⟩
    · rw [r2]
      by_cases hhi : h = i
      · subst hhi; rw [if_pos rfl]
      · rw [if_neg (by omega)]; exact e2 h (by omega)
    · rw [r2, if_neg (by omega)]; exact e3 j (by omega)
  · have hii : i = P.1 := by omega
    subst hii
    rw [if_pos (nI_le (by omega) (by omega))]
    simp only [WP_bind, WP_some, Option.bind_some, Sum.elim_inl, Sum.elim_inr, ↓reduceIte]
    exact ⟨F, e2, e3⟩
/-- the best crew's state -/
def BestR (b : Nat) (C D : CH) (M N : MS) (best few most : Int32) : Prop := Fr (b + 18) (b + 24) C D ∧ c_iv D (b + 18) 4 = c_iv C (b + 18) 4 ∧ c_iv D (b + 18) 5 = c_iv C (b + 18) 5 ∧ FM [16, 20, 21] [13, 17, 18, 19] M N ∧ (∀ j, j < 10 → N.2.2.1 13 j = M.2.2.1 13 j) ∧ N.1 16 = M.1 16 ∧ N.2.2.1 17 = M.2.2.1 17 ∧ N.2.2.1 18 = M.2.2.1 18 ∧ ((c_iv D (b + 18) 7 = 1000000000 ∧ best = -1) ∨ ∃ bb c0, 1 ≤ bb ∧ bb ≤ 300 ∧ c_iv D (b + 18) 7 = nI bb ∧ few = nI bb ∧ c0 < 1024 ∧ c_iv D (b + 18) 6 = nI c0 ∧ best = nI c0 ∧ c_iv D (b + 18) 8 = most)
theorem op_best {b : Nat} {C : CH} {M : MS} (I : Inv b C M) (x tx kx wx : Int32) : OP b (t_X11_best b x tx kx wx C) (g_X12_best x tx kx wx M) := by
  have I0 := I
  obtain ⟨H, S, T, bw, X, R, K, I⟩ := I
  obtain ⟨IB, ⟨h1, hm, hok⟩, ⟨s1, sm, sok⟩, ⟨t1, tm, tok⟩, _, _, _, _, _, pl⟩ := id I
  obtain ⟨xk, xr0, xr1, xr2, xr3, xr4, xr6, xr7, xr8, xr9, xr10, xr11⟩ := IB.1.x
  have hb := IB.2.1
  have h6 := sok.1
  have h4 := tok.1
  have hn1 := hok.1.1
  have hw := hok.1.pow hok.2.1
  have kl := IB.1.li.2.1
  have tk := IB.1.ts
  obtain ⟨hk0, _⟩ := IB.1.2.2.1.f
  unfold t_X11_best g_X12_best
  rw [noSong_eq sm]
  by_cases hv : x < 0 ∨ nI S.1 - 1 < x
  · simp only [hv, ↓reduceIte, i10, tcl_12, tgR_12_0, tpR_12_0, tgR_12_1, tpR_12_1, tgR_12_2, tpR_12_2, tgR_12_3, tpR_12_3, tgR_12_4, tpR_12_4, tgI_12_5, tpI_12_5, tgR_12_6, tpR_12_6, tgR_12_7, tpR_12_7, tgR_12_8, tpR_12_8, tgR_12_9, tpR_12_9, tgR_12_10, tpR_12_10, tgR_12_11, tpR_12_11, xk, Option.bind_some, (songOf_eq IB s1 x).1 hv, Option.elim]
    exact op_same I0 _
  obtain ⟨s, hs, rfl⟩ := in_n (by omega) hv
  simp only [hv, ↓reduceIte, tcl_12, tgR_12_0, tpR_12_0, tgR_12_1, tpR_12_1, tgR_12_2, tpR_12_2, tgR_12_3, tpR_12_3, tgR_12_4, tpR_12_4, tgI_12_5, tpI_12_5, tgR_12_6, tpR_12_6, tgR_12_7, tpR_12_7, tgR_12_8, tpR_12_8, tgR_12_9, tpR_12_9, tgR_12_10, tpR_12_10, tgR_12_11, tpR_12_11, tcl_0, tgI_0_0, tpI_0_0, tgR_0_1, tpR_0_1, tgI_0_2, tpI_0_2, tcl_1, tgR_1_0, tpR_1_0, tgR_1_1, tpR_1_1, tgR_1_2, tpR_1_2, tgR_1_3, tpR_1_3, tgR_1_4, tpR_1_4, tgR_1_5, tpR_1_5, tgI_1_6, tpI_1_6, tgI_1_7, tpI_1_7, tgI_1_8, tpI_1_8, xk, xr0, xr1, xr2, xr3, xr4, xr6, xr7, xr8, xr9, xr10, xr11, kl, hk0, sizeL_eq, t1.1.2.1, h1.1.1, Option.bind_some, (songOf_eq IB s1 (nI s)).2 s hs h6 rfl, Option.elim, tw_eq]
  rw [gin_eq (l := 0) tx 0 (M.1 22 - 1) M rfl rfl, tm.1]
  by_cases hv2 : tx < 0 ∨ nI T.1 - 1 < tx
  · simp only [hv2, ↓reduceIte, Option.bind_some]
    exact op_same I0 _
  obtain ⟨i, hi, rfl⟩ := in_n (by omega) hv2
  simp only [hv2, ↓reduceIte, i10, Option.bind_some, tcl_12, tgR_12_0, tpR_12_0, tgR_12_1, tpR_12_1, tgR_12_2, tpR_12_2, tgR_12_3, tpR_12_3, tgR_12_4, tpR_12_4, tgI_12_5, tpI_12_5, tgR_12_6, tpR_12_6, tgR_12_7, tpR_12_7, tgR_12_8, tpR_12_8, tgR_12_9, tpR_12_9, tgR_12_10, tpR_12_10, tgR_12_11, tpR_12_11, tcl_1, tgR_1_0, tpR_1_0, tgR_1_1, tpR_1_1, tgR_1_2, tpR_1_2, tgR_1_3, tpR_1_3, tgR_1_4, tpR_1_4, tgR_1_5, tpR_1_5, tgI_1_6, tpI_1_6, tgI_1_7, tpI_1_7, tgI_1_8, tpI_1_8, xk, xr0, xr1, xr2, xr3, xr4, xr6, xr7, xr8, xr9, xr10, xr11, hk0, h1.1.1, tw_eq]
  rw [gin_eq (l := 1) kx 1 (M.1 7) M rfl rfl, hm.1.1]
  by_cases hv3 : kx < 1 ∨ nI H.1.1 < kx
  · simp only [hv3, ↓reduceIte, Option.bind_some]
    exact op_same I0 _
  obtain ⟨k, hk1, hk2, rfl⟩ := within1_nI (n := H.1.1) (nI_toInt (by omega)) hv3
  simp only [hv3, ↓reduceIte, i10, Option.bind_some, tw_eq]
  rw [gin_eq (l := 0) (h := 2) wx 0 2 M rfl rfl]
  by_cases hv4 : wx < 0 ∨ 2 < wx
  · simp only [hv4, ↓reduceIte, Option.bind_some]
    exact op_same I0 _
  obtain ⟨q1, q2, q3, q4, q5⟩ := s1.2 s hs
  obtain ⟨u1, u2, u3⟩ := t1.2 i hi
  obtain ⟨o1, o2, o3, o4⟩ := tok.2 i hi
  have hvs := q2.2.2.2.2.1
  have kT := u1.1
  simp only [OP, hv4, ↓reduceIte, i10, Option.bind_some, WP_bind, WP_some, tcl_12, tgR_12_0, tpR_12_0, tgR_12_1, tpR_12_1, tgR_12_2, tpR_12_2, tgR_12_3, tpR_12_3, tgR_12_4, tpR_12_4, tgI_12_5, tpI_12_5, tgR_12_6, tpR_12_6, tgR_12_7, tpR_12_7, tgR_12_8, tpR_12_8, tgR_12_9, tpR_12_9, tgR_12_10, tpR_12_10, tgR_12_11, tpR_12_11, tcl_0, tgI_0_0, tpI_0_0, tgR_0_1, tpR_0_1, tgI_0_2, tpI_0_2, tcl_9, tgI_9_0, tpI_9_0, tgI_9_1, tpI_9_1, tgI_9_2, tpI_9_2, tcl_10, tgR_10_0, tpR_10_0, tgR_10_1, tpR_10_1, tgR_10_2, tpR_10_2, tgR_10_3, tpR_10_3, tgI_10_4, tpI_10_4, tgI_10_5, tpI_10_5, tgI_10_6, tpI_10_6, tgI_10_7, tpI_10_7, tgI_10_8, tpI_10_8, xk, xr0, xr1, xr2, xr3, xr4, xr6, xr7, xr8, xr9, xr10, xr11, kl, tk, get_eq t1.1 hi, kT, t_X9_findCrew]
  generalize hE : s_iv C (up2 (c_iv C) (b + 18) 7 1000000000) = E
  have FE : Fr (b + 18) (b + 24) C E := by rw [← hE]; exact Fr.iv _ (by omega)
  have iE : ∀ k, c_iv E (b + 18) k = if k = 7 then 1000000000 else c_iv C (b + 18) k := fun k => by
    rw [← hE, iv_upd]
    by_cases hk : k = 7
    · rw [if_pos ⟨rfl, hk⟩, if_pos hk]
    · rw [if_neg (fun z => hk z.2), if_neg hk]
  have R0 : BestR b C E M M (-1) 0 0 := ⟨FE, by rw [iE, if_neg (by decide)], by rw [iE, if_neg (by decide)], FM.rf _ _ _, fun _ _ => rfl, rfl, rfl, rfl, Or.inl ⟨by rw [iE, if_pos rfl], rfl⟩⟩
  have hp1 : 1 ≤ 2 ^ H.1.1 := Nat.one_le_two_pow
  have hpw := pow_le hn1
  have hall1 : nI (2 ^ H.1.1) - 1 = nI (2 ^ H.1.1 - 1) := by rw [show (1 : Int32) = nI 1 from rfl, nI_subI hp1]
  refine WP.mono (WP.it2 (body' := g_X12_best_L66 (nI s) (nI i) (nI k) wx) (Post := fun (D : CH) (q : Int32 × Int32 × Int32 × MS) => BestR b C D M q.2.2.2 q.1 q.2.1 q.2.2.1) (fun (j : Nat) (y : Int32 × CH) (z : Int32 × Int32 × Int32 × Int32 × MS) => y.1 = nI (j + 1) ∧ z.2.2.2.1 = nI (j + 1) ∧ BestR b C y.2 M z.2.2.2.2 z.1 z.2.1 z.2.2.1) (2 ^ H.1.1 - 1) ?_ 100000 0 _ ((-1), 0, 0, 1, M) ⟨rfl, rfl, R0⟩ (Nat.zero_le _) (by omega)) ?_
  · rintro j ⟨y, D⟩ ⟨best, few, most, z, N⟩ hj ⟨e1, e2, R1⟩
    dsimp only at e1 e2 R1
    subst e1
    subst e2
    obtain ⟨FD, i4, i5, GN, on, l16, l17, l18, r9⟩ := id R1
    have StD : StS (sh D) b := by rw [FD.2.2.1]; exact IB.1
    obtain ⟨hk, _⟩ := StD.2.2.1.f
    have VD : HandV D (b + 4) H.1 := h1.1.fr FD (by omega)
    have tkD := StD.ts
    have hmN : HandsM H N := hm.fr GN (by decide) (by decide) on hn1
    unfold t_X9_findCrew_L9 g_X12_best_L66
    dsimp only
    simp only [tcl_1, tgR_1_0, tpR_1_0, tgR_1_1, tpR_1_1, tgR_1_2, tpR_1_2, tgR_1_3, tpR_1_3, tgR_1_4, tpR_1_4, tgR_1_5, tpR_1_5, tgI_1_6, tpI_1_6, tgI_1_7, tpI_1_7, tgI_1_8, tpI_1_8, hk, t_X0_allSet, VD.1, Option.bind_some, hall1, hmN.1.1, nI_shl1 H.1.1 (show H.1.1 < 31 by omega), bc_eq]
    by_cases hlt : j + 1 < 2 ^ H.1.1
    · have hc : j + 1 < 1024 := by omega
      rw [if_neg (nI_nlt (by omega) (by omega)), if_neg (nI_ge hlt (by omega)), ones_eq hc, bc_dec (j + 1) hc]
      simp only [Option.bind_some]
      by_cases hcnt : nI (cntB (j + 1) 10) = nI k
      case neg =>
        rw [if_neg hcnt, if_neg hcnt]
        simp only [WP_bind, WP_some, Option.bind_some, Sum.elim_inl, Sum.elim_inr, ↓reduceIte]
        exact ⟨by omega, nI_1 _, nI_1 _, R1⟩
      case pos =>
      rw [if_pos hcnt, if_pos hcnt]
      have tsr : c_rv D (b + 18) 0 = some (b + 19) := StD.2.2.2.2.1.2.1
      have A : HaulS (sh D) (b + 19) := StD.2.2.2.2.1.2.2.1
      obtain ⟨ok, _⟩ := A.f
      simp only [tcl_10, tgR_10_0, tpR_10_0, tgR_10_1, tpR_10_1, tgR_10_2, tpR_10_2, tgR_10_3, tpR_10_3, tgI_10_4, tpI_10_4, tgI_10_5, tpI_10_5, tgI_10_6, tpI_10_6, tgI_10_7, tpI_10_7, tgI_10_8, tpI_10_8, tcl_2, tgR_2_0, tpR_2_0, tgR_2_1, tpR_2_1, tgR_2_2, tpR_2_2, tgR_2_3, tpR_2_3, tgR_2_4, tpR_2_4, tgI_2_5, tpI_2_5, tgI_2_6, tpI_2_6, tgI_2_7, tpI_2_7, tkD, tsr, ok, Option.bind_some, WP_bind, WP_some, t_X9_tryCrew]
      refine WP.mono (beginAsTold_wp A StD.2.2.1 (by omega)) (fun D1 ⟨F1, b1, b2, b3, b4, b5⟩ => ?_)
      have F1' : Fr (b + 19) (b + 21) D D1 := F1
      have tk1 : c_kd D1 (b + 18) = 11 := by rw [sh_kd F1.2.2.1]; exact tkD
      have ts1 : c_rv D1 (b + 18) 0 = some (b + 19) := by rw [sh_rv F1.2.2.1]; exact tsr
      obtain ⟨ok1', _⟩ := (A.tr F1.2.2.1).f
      simp only [tcl_10, tgR_10_0, tpR_10_0, tgR_10_1, tpR_10_1, tgR_10_2, tpR_10_2, tgR_10_3, tpR_10_3, tgI_10_4, tpI_10_4, tgI_10_5, tpI_10_5, tgI_10_6, tpI_10_6, tgI_10_7, tpI_10_7, tgI_10_8, tpI_10_8, tcl_2, tgR_2_0, tpR_2_0, tgR_2_1, tpR_2_1, tgR_2_2, tpR_2_2, tgR_2_3, tpR_2_3, tgR_2_4, tpR_2_4, tgI_2_5, tpI_2_5, tgI_2_6, tpI_2_6, tgI_2_7, tpI_2_7, tk1, ts1, ok1', Option.bind_some, WP_bind, WP_some, s_iv_1, s_iv_2, s_iv_kd, s_iv_ln, s_iv_iv, s_iv_jv, s_iv_rv, s_iv_ar, s_iv_al, s_iv_ro, s_jv_1, s_jv_2, s_jv_kd, s_jv_ln, s_jv_iv, s_jv_jv, s_jv_rv, s_jv_ar, s_jv_al, s_jv_ro, s_rv_1, s_rv_2, s_rv_kd, s_rv_ln, s_rv_iv, s_rv_jv, s_rv_rv, s_rv_ar, s_rv_al, s_rv_ro, s_ar_1, s_ar_2, s_ar_kd, s_ar_ln, s_ar_iv, s_ar_jv, s_ar_rv, s_ar_ar, s_ar_al, s_ar_ro, s_al_1, s_al_2, s_al_kd, s_al_ln, s_al_iv, s_al_jv, s_al_rv, s_al_ar, s_al_al, s_al_ro, s_ro_1, s_ro_2, s_ro_kd, s_ro_ln, s_ro_iv, s_ro_jv, s_ro_rv, s_ro_ar, s_ro_al, s_ro_ro, up2_n (show b + 18 ≠ b + 19 by omega)]
      generalize hD2 : s_iv D1 (up2 (c_iv D1) (b + 19) 5 (nI (j + 1))) = D2
      have F2 : Fr (b + 19) (b + 21) D D2 := by rw [← hD2]; exact F1'.tr (Fr.iv _ (by omega))
      have i25 : c_iv D2 (b + 19) 5 = nI (j + 1) := by rw [← hD2, iv_upd, if_pos ⟨rfl, rfl⟩]
      have i26 : c_iv D2 (b + 19) 6 = nI H.2.2.2.2 := by
        rw [← hD2, iv_upd, if_neg (by omega), b4, (FD.2.2.2 (b + 4) (by omega)).2.1]; exact h1.2.2.1
      have a2 : c_ar D2 = c_ar D1 := by rw [← hD2]; rfl
      have FD2 : Fr (b + 18) (b + 24) C D2 := FD.tr (F2.mono (by omega) (by omega))
      have i7 : c_iv D1 (b + 18) 7 = c_iv D (b + 18) 7 := by rw [(F1'.2.2.2 (b + 18) (by omega)).2.1]
      have StD2 : StS (sh D2) b := by rw [FD2.2.2.1]; exact IB.1
      have A2 : HaulS (sh D2) (b + 19) := StD2.2.2.2.2.1.2.2.1
      have hWk : HWok H.1 (j + 1, H.2.1, sBt (S.2.2.1 s) (S.2.2.2.1 s) (S.2.2.2.2.1 s) (S.2.2.2.2.2 s), T.2.2.2.1 i, T.2.2.2.2 i) := ⟨hlt, fun h _ => hok.2.2.2.1 h, fun t => sBt_le sok hs hvs t, o3, o4⟩
      have hn2 : ∀ h, h < H.1.1 → c_ar D2 (b + 19 + 1) h = nI (H.2.2.1 h) := fun h hh => by
        rw [a2, b1 h (by omega), (FD.2.2.2 (b + 4 + 6) (by omega)).1]; exact h1.2.2.2.2 h hh
      have hl2 : ∀ h, h < H.1.1 → c_ar D2 (b + 19 + 2) h = nI (H.2.1 h) := fun h hh => by
        rw [a2, b2 h (by omega), (FD.2.2.2 (b + 4 + 5) (by omega)).1]; exact h1.2.2.2.1 h (by omega)
      have ok2' : c_kd D2 (b + 19) = 3 := A2.f.1
      have i27 : c_iv D2 (b + 18) = c_iv D (b + 18) := (F2.2.2.2 (b + 18) (by omega)).2.1
      -- the reference works
      have MP := carry_wp (d := 0) (e := 1) (now := H.2.2.1) hok.1 hmN.1.1 (by omega) (by omega) (by omega) (fun h hh => by rw [Nat.mul_zero, Nat.zero_add]; exact hmN.2.2.2.2 h hh)
      obtain ⟨N2, hN2, GN2, d2, o13⟩ := MP
      have on2 : ∀ j, j < 10 → N2.2.2.1 13 j = M.2.2.1 13 j := fun j hj => by rw [o13 j (by omega), on j hj]
      have GN2' : FM [16, 20, 21] [13, 17, 18, 19] M N2 := GN.tr (GN2.mono (fun k h => absurd h List.not_mem_nil) (by decide))
      have hmN2 : HandsM H N2 := hm.fr GN2' (by decide) (by decide) on2 hn1
      have tmN2 := tm.fr GN2' (by decide) (by decide)
      obtain ⟨g1, g2, g3⟩ := tmN2.2 i hi
      have WK := work_wp (nt := 0) (d := 1) (now0 := H.2.2.1) (goal := T.2.2.1 i) (W := (j + 1, H.2.1, sBt (S.2.2.1 s) (S.2.2.2.1 s) (S.2.2.2.2.1 s) (S.2.2.2.2.2 s), T.2.2.2.1 i, T.2.2.2.2 i)) hmN2.1 ((sm.2 s hs).fr GN2' (by decide)) rfl hok.1 hWk (by omega) (by omega) d2 hok.2.2.2.2.2 hmN2.2.2.2.1 hmN2.2.2.1 hok.2.2.1 (by omega)
      obtain ⟨⟨pv, N3⟩, hN3, w1, w2, w3, w4, w5, w6⟩ := WK
      dsimp only at hN3 w1 w2 w3 w4 w5 w6
      have GN3 : FM [16, 20, 21] [13, 17, 18, 19] M N3 := GN2'.tr w2
      have on3 : ∀ j, j < 10 → N3.2.2.1 13 j = M.2.2.1 13 j := fun j hj => by rw [w4 j (by omega), on2 j hj]
      obtain ⟨w5a, w5b, w5c⟩ := w5 rfl
      have hN31 : N3.1 7 = nI H.1.1 := by rw [GN3.i (by decide)]; exact hm.1.1
      have lm1 : N3.1 16 = M.1 16 := by rw [w5a, GN2.i (by decide), l16]
      have lm2 : N3.2.2.1 17 = M.2.2.1 17 := by rw [w5b, GN2.2 17 (by decide), l17]
      have lm3 : N3.2.2.1 18 = M.2.2.1 18 := by rw [w5c, GN2.2 18 (by decide), l18]
      have hrl := hRun_le (P := H.1) (W := (j + 1, H.2.1, sBt (S.2.2.1 s) (S.2.2.2.1 s) (S.2.2.2.2.1 s) (S.2.2.2.2.2 s), T.2.2.2.1 i, T.2.2.2.2 i)) (fl := H.2.2.2.2) (goal := T.2.2.1 i) (now := H.2.2.1) 300 0
      have hRm := fun f k hf => hRun_mono (P := H.1) (W := (j + 1, H.2.1, sBt (S.2.2.1 s) (S.2.2.2.1 s) (S.2.2.2.2.1 s) (S.2.2.2.2.2 s), T.2.2.2.1 i, T.2.2.2.2 i)) (fl := H.2.2.2.2) (goal := T.2.2.1 i) (now := H.2.2.1) f 300 0 k hf
      have ln3 := rleastNow_eq (d := 1) hok.1 hN31 (by omega) w3 (hSt_ok hok.2.2.2.2.2 _)
      have hnowok := hSt_ok (W := (j + 1, H.2.1, sBt (S.2.2.1 s) (S.2.2.2.1 s) (S.2.2.2.2.1 s) (S.2.2.2.2.2 s), T.2.2.2.1 i, T.2.2.2.2 i)) hok.2.2.2.2.2
      have m23 : mld N2 23 (nI i) = some (nI (T.2.2.1 i)) := by rw [mld_n (k := 23) (show i < 4 by omega) (by decide), g1]
      have m24 : mld N2 24 (nI i) = some (nI (T.2.2.2.1 i)) := by rw [mld_n (k := 24) (show i < 4 by omega) (by decide), g2]
      have m25 : mld N2 25 (nI i) = some (nI (T.2.2.2.2 i)) := by rw [mld_n (k := 25) (show i < 4 by omega) (by decide), g3]
      have gow := fun mo hmo hmm => go_wp (W := (j + 1, H.2.1, sBt (S.2.2.1 s) (S.2.2.2.1 s) (S.2.2.2.2.1 s) (S.2.2.2.2.2 s), T.2.2.2.1 i, T.2.2.2.2 i)) (mo := mo) (most := c_iv D1 (b + 18) 7) StD2.2.2.1 A2 (q1.tr FD2.2.2.1) (h1.1.fr FD2 (by omega)) (q2.fr FD2 (by omega)) (u1.fr FD2 (by omega)) rfl hok.1 hWk (by omega) (by omega) (by omega) i25 i26 hok.2.2.1 (by omega) hn2 hl2 hok.2.2.2.2.2 hmo hmm
      generalize hWW : ((j + 1, H.2.1, sBt (S.2.2.1 s) (S.2.2.2.1 s) (S.2.2.2.2.1 s) (S.2.2.2.2.2 s), T.2.2.2.1 i, T.2.2.2.2 i) : HW) = W at gow w1 w2 w3 w4 w5 w6 hrl hRm ln3 hnowok hWk
      generalize hZ : hRun H.1 W H.2.2.2.2 (T.2.2.1 i) H.2.2.1 300 0 = Z at w1 w3 hrl hRm ln3
      have hmn : minF (hSt H.1 W H.2.2.1 Z.2).1 1000 H.1.1 = minF (hSt H.1 W H.2.2.1 Z.2).1 100 H.1.1 := minF_eq H.1.1 (fun h hh => by have := hnowok Z.2 h hh; have := (hok.1.2 h hh).2.1; omega) (by omega)
      have hmb := minF_le (hSt H.1 W H.2.2.1 Z.2).1 100 H.1.1
      rw [hmn] at ln3
      generalize hmnv : minF (hSt H.1 W H.2.2.1 Z.2).1 100 H.1.1 = mn at ln3 hmb
      -- nothing better: what stands stays
      have keepR : ∀ G : CH, Fr (b + 19) (b + 24) D2 G → BestR b C G M N3 best few most := by
        intro G FG
        have e : c_iv G (b + 18) = c_iv D (b + 18) := by rw [(FG.2.2.2 (b + 18) (by omega)).2.1, i27]
        refine ⟨FD2.tr (FG.mono (by omega) (by omega)), by rw [e]; exact i4, by rw [e]; exact i5, GN3, on3, lm1, lm2, lm3, ?_⟩
        rw [e]
        exact r9
      -- it is taken
      have takeR : ∀ (G : CH) (kk : Nat) (Kp : CH → Prop), Fr (b + 19) (b + 24) D2 G → c_iv G (b + 19) 7 = nI kk → 1 ≤ kk → kk ≤ 300 → (∀ G', BestR b C G' M N3 (nI (j + 1)) (nI kk) (nI mn) → Kp G') → WP (t_X9_tryCrew_J71 (b + 18) (b + 4) (S.2.1 s) (T.2.1 i) (nI (j + 1)) (nI mn) G) Kp := by
        intro G kk Kp FG h7 hk1 hk3 hK
        have FCG : Fr (b + 18) (b + 24) C G := FD2.tr (FG.mono (by omega) (by omega))
        have StG : StS (sh G) b := by rw [FCG.2.2.1]; exact IB.1
        have tkG := StG.ts
        have tsG : c_rv G (b + 18) 0 = some (b + 19) := StG.2.2.2.2.1.2.1
        obtain ⟨okG, _⟩ := (StG.2.2.2.2.1.2.2.1 : HaulS (sh G) (b + 19)).f
        have e : c_iv G (b + 18) = c_iv D (b + 18) := by rw [(FG.2.2.2 (b + 18) (by omega)).2.1, i27]
        unfold t_X9_tryCrew_J71
        simp only [tcl_10, tgR_10_0, tpR_10_0, tgR_10_1, tpR_10_1, tgR_10_2, tpR_10_2, tgR_10_3, tpR_10_3, tgI_10_4, tpI_10_4, tgI_10_5, tpI_10_5, tgI_10_6, tpI_10_6, tgI_10_7, tpI_10_7, tgI_10_8, tpI_10_8, tcl_2, tgR_2_0, tpR_2_0, tgR_2_1, tpR_2_1, tgR_2_2, tpR_2_2, tgR_2_3, tpR_2_3, tgR_2_4, tpR_2_4, tgI_2_5, tpI_2_5, tgI_2_6, tpI_2_6, tgI_2_7, tpI_2_7, tkG, tsG, okG, Option.bind_some, WP_bind, WP_some, s_iv_1, s_iv_2, s_iv_kd, s_iv_ln, s_iv_iv, s_iv_jv, s_iv_rv, s_iv_ar, s_iv_al, s_iv_ro, s_jv_1, s_jv_2, s_jv_kd, s_jv_ln, s_jv_iv, s_jv_jv, s_jv_rv, s_jv_ar, s_jv_al, s_jv_ro, s_rv_1, s_rv_2, s_rv_kd, s_rv_ln, s_rv_iv, s_rv_jv, s_rv_rv, s_rv_ar, s_rv_al, s_rv_ro, s_ar_1, s_ar_2, s_ar_kd, s_ar_ln, s_ar_iv, s_ar_jv, s_ar_rv, s_ar_ar, s_ar_al, s_ar_ro, s_al_1, s_al_2, s_al_kd, s_al_ln, s_al_iv, s_al_jv, s_al_rv, s_al_ar, s_al_al, s_al_ro, s_ro_1, s_ro_2, s_ro_kd, s_ro_ln, s_ro_iv, s_ro_jv, s_ro_rv, s_ro_ar, s_ro_al, s_ro_ro, up2_n (show b + 19 ≠ b + 18 by omega), h7]
        refine hK _ ⟨FCG.tr ((Fr.iv (k := 6) _ (by omega)).tr ((Fr.iv (k := 7) _ (by omega)).tr (Fr.iv (k := 8) _ (by omega)))), ?_, ?_, GN3, on3, lm1, lm2, lm3, Or.inr ⟨kk, j + 1, hk1, hk3, ?_, rfl, hc, ?_, rfl, ?_⟩⟩
        · simp only [s_iv_1, s_iv_2, s_iv_kd, s_iv_ln, s_iv_iv, s_iv_jv, s_iv_rv, s_iv_ar, s_iv_al, s_iv_ro, s_jv_1, s_jv_2, s_jv_kd, s_jv_ln, s_jv_iv, s_jv_jv, s_jv_rv, s_jv_ar, s_jv_al, s_jv_ro, s_rv_1, s_rv_2, s_rv_kd, s_rv_ln, s_rv_iv, s_rv_jv, s_rv_rv, s_rv_ar, s_rv_al, s_rv_ro, s_ar_1, s_ar_2, s_ar_kd, s_ar_ln, s_ar_iv, s_ar_jv, s_ar_rv, s_ar_ar, s_ar_al, s_ar_ro, s_al_1, s_al_2, s_al_kd, s_al_ln, s_al_iv, s_al_jv, s_al_rv, s_al_ar, s_al_al, s_al_ro, s_ro_1, s_ro_2, s_ro_kd, s_ro_ln, s_ro_iv, s_ro_jv, s_ro_rv, s_ro_ar, s_ro_al, s_ro_ro]; rw [up2_k (by decide), up2_k (by decide), up2_k (by decide), e]; exact i4
        · simp only [s_iv_1, s_iv_2, s_iv_kd, s_iv_ln, s_iv_iv, s_iv_jv, s_iv_rv, s_iv_ar, s_iv_al, s_iv_ro, s_jv_1, s_jv_2, s_jv_kd, s_jv_ln, s_jv_iv, s_jv_jv, s_jv_rv, s_jv_ar, s_jv_al, s_jv_ro, s_rv_1, s_rv_2, s_rv_kd, s_rv_ln, s_rv_iv, s_rv_jv, s_rv_rv, s_rv_ar, s_rv_al, s_rv_ro, s_ar_1, s_ar_2, s_ar_kd, s_ar_ln, s_ar_iv, s_ar_jv, s_ar_rv, s_ar_ar, s_ar_al, s_ar_ro, s_al_1, s_al_2, s_al_kd, s_al_ln, s_al_iv, s_al_jv, s_al_rv, s_al_ar, s_al_al, s_al_ro, s_ro_1, s_ro_2, s_ro_kd, s_ro_ln, s_ro_iv, s_ro_jv, s_ro_rv, s_ro_ar, s_ro_al, s_ro_ro]; rw [up2_k (by decide), up2_k (by decide), up2_k (by decide), e]; exact i5
        · simp only [s_iv_1, s_iv_2, s_iv_kd, s_iv_ln, s_iv_iv, s_iv_jv, s_iv_rv, s_iv_ar, s_iv_al, s_iv_ro, s_jv_1, s_jv_2, s_jv_kd, s_jv_ln, s_jv_iv, s_jv_jv, s_jv_rv, s_jv_ar, s_jv_al, s_jv_ro, s_rv_1, s_rv_2, s_rv_kd, s_rv_ln, s_rv_iv, s_rv_jv, s_rv_rv, s_rv_ar, s_rv_al, s_rv_ro, s_ar_1, s_ar_2, s_ar_kd, s_ar_ln, s_ar_iv, s_ar_jv, s_ar_rv, s_ar_ar, s_ar_al, s_ar_ro, s_al_1, s_al_2, s_al_kd, s_al_ln, s_al_iv, s_al_jv, s_al_rv, s_al_ar, s_al_al, s_al_ro, s_ro_1, s_ro_2, s_ro_kd, s_ro_ln, s_ro_iv, s_ro_jv, s_ro_rv, s_ro_ar, s_ro_al, s_ro_ro]; rw [up2_k (by decide), up2_e]
        · simp only [s_iv_1, s_iv_2, s_iv_kd, s_iv_ln, s_iv_iv, s_iv_jv, s_iv_rv, s_iv_ar, s_iv_al, s_iv_ro, s_jv_1, s_jv_2, s_jv_kd, s_jv_ln, s_jv_iv, s_jv_jv, s_jv_rv, s_jv_ar, s_jv_al, s_jv_ro, s_rv_1, s_rv_2, s_rv_kd, s_rv_ln, s_rv_iv, s_rv_jv, s_rv_rv, s_rv_ar, s_rv_al, s_rv_ro, s_ar_1, s_ar_2, s_ar_kd, s_ar_ln, s_ar_iv, s_ar_jv, s_ar_rv, s_ar_ar, s_ar_al, s_ar_ro, s_al_1, s_al_2, s_al_kd, s_al_ln, s_al_iv, s_al_jv, s_al_rv, s_al_ar, s_al_al, s_al_ro, s_ro_1, s_ro_2, s_ro_kd, s_ro_ln, s_ro_iv, s_ro_jv, s_ro_rv, s_ro_ar, s_ro_al, s_ro_ro]; rw [up2_k (by decide), up2_k (by decide), up2_e]
        · simp only [s_iv_1, s_iv_2, s_iv_kd, s_iv_ln, s_iv_iv, s_iv_jv, s_iv_rv, s_iv_ar, s_iv_al, s_iv_ro, s_jv_1, s_jv_2, s_jv_kd, s_jv_ln, s_jv_iv, s_jv_jv, s_jv_rv, s_jv_ar, s_jv_al, s_jv_ro, s_rv_1, s_rv_2, s_rv_kd, s_rv_ln, s_rv_iv, s_rv_jv, s_rv_rv, s_rv_ar, s_rv_al, s_rv_ro, s_ar_1, s_ar_2, s_ar_kd, s_ar_ln, s_ar_iv, s_ar_jv, s_ar_rv, s_ar_ar, s_ar_al, s_ar_ro, s_al_1, s_al_2, s_al_kd, s_al_ln, s_al_iv, s_al_jv, s_al_rv, s_al_ar, s_al_al, s_al_ro, s_ro_1, s_ro_2, s_ro_kd, s_ro_ln, s_ro_iv, s_ro_jv, s_ro_rv, s_ro_ar, s_ro_al, s_ro_ro]; rw [up2_e]
      have hlt' : j < 2 ^ H.1.1 - 1 := by omega
      have hZ3 : Z.2 ≤ 300 := by omega
      have hZ1 : 1 ≤ Z.2 := by have := hrl.2.2 (by decide); omega
      have pneg : ¬ Z.1 = 2 → pv ≤ 0 := by
        intro hz
        rw [w1, if_neg hz]
        have h3 := nI_sub_neg (a := 0) (b := Z.2) (by omega) (by omega)
        rw [Int32.le_iff_toInt_le]
        rw [Int32.lt_iff_toInt_lt] at h3
        have h4 : (0 : Int32) - nI Z.2 = nI 0 - nI Z.2 := rfl
        rw [h4]
        omega
      have ppos : Z.1 = 2 → pv = nI Z.2 ∧ ¬ pv ≤ 0 := by
        intro hz
        rw [w1, if_pos hz]
        exact ⟨rfl, nI_nle (by omega) (by omega)⟩
      -- behind a haul that is done
      have after : ∀ (G : CH) (Kp : CH → Prop), GoV D2 G (b + 19) H.1 W H.2.2.1 Z.2 → WP (if nI Z.2 < c_iv D (b + 18) 7 then t_X9_tryCrew_J71 (b + 18) (b + 4) (S.2.1 s) (T.2.1 i) (nI (j + 1)) (nI mn) G else (if nI mn ≤ c_iv D (b + 18) 8 then some G else t_X9_tryCrew_J71 (b + 18) (b + 4) (S.2.1 s) (T.2.1 i) (nI (j + 1)) (nI mn) G)) Kp → WP (if (1 : Int32) = 0 then some G else (tgR G (b + 18) 10 0).bind fun v18 => (tgI G (b + 4) 1 6).bind fun v20 => (tcl G v18 2).bind fun _ => (t_X1_leastNow v18 v20 G).bind fun q22 => (tgR q22.2 (b + 18) 10 0).bind fun v25 => (tgI q22.2 v25 2 7).bind fun v27 => (tgI q22.2 (b + 18) 10 7).bind fun v29 => if v27 < v29 then t_X9_tryCrew_J71 (b + 18) (b + 4) (S.2.1 s) (T.2.1 i) (nI (j + 1)) q22.1 q22.2 else (tgI q22.2 (b + 18) 10 8).bind fun v42 => if q22.1 ≤ v42 then some q22.2 else t_X9_tryCrew_J71 (b + 18) (b + 4) (S.2.1 s) (T.2.1 i) (nI (j + 1)) q22.1 q22.2) Kp := by
        intro G Kp GV hK
        obtain ⟨FG, g5, g6, g2, g7, gn, gn2, gw⟩ := GV
        have FG' : Fr (b + 19) (b + 24) D2 G := FG
        have FCG : Fr (b + 18) (b + 24) C G := FD2.tr (FG'.mono (by omega) (by omega))
        have StG : StS (sh G) b := by rw [FCG.2.2.1]; exact IB.1
        have tkG := StG.ts
        have tsG : c_rv G (b + 18) 0 = some (b + 19) := StG.2.2.2.2.1.2.1
        have AG : HaulS (sh G) (b + 19) := StG.2.2.2.2.1.2.2.1
        obtain ⟨okG, _⟩ := AG.f
        obtain ⟨hkG, _⟩ := StG.2.2.1.f
        have VG : HandV G (b + 4) H.1 := h1.1.fr FCG (by omega)
        have e : c_iv G (b + 18) = c_iv D (b + 18) := by rw [(FG'.2.2.2 (b + 18) (by omega)).2.1, i27]
        have lnG := leastNow_eq AG hok.1 gn (hnowok Z.2)
        rw [hmnv] at lnG
        simp only [i10, ↓reduceIte, tcl_10, tgR_10_0, tpR_10_0, tgR_10_1, tpR_10_1, tgR_10_2, tpR_10_2, tgR_10_3, tpR_10_3, tgI_10_4, tpI_10_4, tgI_10_5, tpI_10_5, tgI_10_6, tpI_10_6, tgI_10_7, tpI_10_7, tgI_10_8, tpI_10_8, tcl_2, tgR_2_0, tpR_2_0, tgR_2_1, tpR_2_1, tgR_2_2, tpR_2_2, tgR_2_3, tpR_2_3, tgR_2_4, tpR_2_4, tgI_2_5, tpI_2_5, tgI_2_6, tpI_2_6, tgI_2_7, tpI_2_7, tcl_1, tgR_1_0, tpR_1_0, tgR_1_1, tpR_1_1, tgR_1_2, tpR_1_2, tgR_1_3, tpR_1_3, tgR_1_4, tpR_1_4, tgR_1_5, tpR_1_5, tgI_1_6, tpI_1_6, tgI_1_7, tpI_1_7, tgI_1_8, tpI_1_8, tkG, tsG, okG, hkG, VG.1, lnG, g7, e, Option.bind_some]
        exact hK
      rcases id r9 with ⟨r7, rb⟩ | ⟨bb, c0, hb1, hb3, r7, rf, hc0, r6, rb, r8⟩
      · have i7' : c_iv D1 (b + 18) 7 = 1000000000 := by rw [i7]; exact r7
        refine WP.mono (gow 300 (Nat.le_refl _) (fun t ht => by rw [i7']; exact ⟨fun z => absurd z (nI_ge (b := 1000000000) (by omega) (by omega)), fun z => by omega⟩)) ?_
        rintro ⟨dn, G⟩ ⟨z1, GV⟩
        dsimp only at z1 GV ⊢
        rw [hZ] at z1 GV
        by_cases hd : Z.1 = 2
        · rw [if_pos hd] at z1
          subst z1
          obtain ⟨p1, p2⟩ := ppos hd
          refine after G _ GV ?_
          rw [if_pos (by rw [r7]; exact nI_lt (b := 1000000000) (by omega) (by omega))]
          refine takeR G Z.2 _ GV.1 GV.2.2.2.2.1 hZ1 hZ3 (fun G' R' => ?_)
          refine ⟨N2, hN2, _, m23, _, m24, _, m25, (pv, N3), hN3, (nI mn, N3), ln3, Sum.inl (nI (j + 1), pv, nI mn, nI (j + 1) + 1, N3), ?_, hlt', nI_1 _, nI_1 _, ?_⟩
          · dsimp only
            rw [if_neg p2, if_pos (by rw [rb]; decide)]
            rfl
          · dsimp only
            rw [p1]
            exact R'
        · rw [if_neg hd] at z1
          subst z1
          rw [if_pos rfl]
          refine WP.ret ⟨N2, hN2, _, m23, _, m24, _, m25, (pv, N3), hN3, (nI mn, N3), ln3, Sum.inl (best, few, most, nI (j + 1) + 1, N3), ?_, hlt', nI_1 _, nI_1 _, keepR G GV.1⟩
          dsimp only
          rw [if_pos (pneg hd)]
      · have i7' : c_iv D1 (b + 18) 7 = nI bb := by rw [i7]; exact r7
        have hRb := hRm bb Z.2 hb3
        refine WP.mono (gow bb hb3 (fun t ht => by rw [i7']; exact nI_leI (by omega) (by omega))) ?_
        rintro ⟨dn, G⟩ ⟨z1, GV⟩
        dsimp only at z1 GV ⊢
        have nb : ¬ best < 0 := by rw [rb]; exact nI_pos (by omega)
        by_cases hd : Z.1 = 2 ∧ Z.2 ≤ bb
        · have hZe : Z = (2, Z.2) := by rw [← hd.1]
          have hbz : hRun H.1 W H.2.2.2.2 (T.2.2.1 i) H.2.2.1 bb 0 = (2, Z.2) := hRb.mpr ⟨hZe, by omega⟩
          rw [hbz] at z1 GV
          rw [if_pos rfl] at z1
          subst z1
          obtain ⟨p1, p2⟩ := ppos hd.1
          refine after G _ GV ?_
          rw [r7]
          by_cases hlt2 : Z.2 < bb
          · rw [if_pos (nI_lt hlt2 (by omega))]
            refine takeR G Z.2 _ GV.1 GV.2.2.2.2.1 hZ1 hZ3 (fun G' R' => ?_)
            refine ⟨N2, hN2, _, m23, _, m24, _, m25, (pv, N3), hN3, (nI mn, N3), ln3, Sum.inl (nI (j + 1), pv, nI mn, nI (j + 1) + 1, N3), ?_, hlt', nI_1 _, nI_1 _, ?_⟩
            · dsimp only
              rw [if_neg p2, if_neg nb, if_pos (by rw [p1, rf]; exact nI_lt hlt2 (by omega))]
              rfl
            · dsimp only
              rw [p1]
              exact R'
          · have heq : Z.2 = bb := by omega
            rw [if_neg (nI_nlt (by omega) (by omega)), r8]
            by_cases hle : nI mn ≤ most
            · rw [if_pos hle]
              refine WP.ret ⟨N2, hN2, _, m23, _, m24, _, m25, (pv, N3), hN3, (nI mn, N3), ln3, Sum.inl (best, few, most, nI (j + 1) + 1, N3), ?_, hlt', nI_1 _, nI_1 _, keepR G GV.1⟩
              dsimp only
              rw [if_neg p2, if_neg nb, if_neg (by rw [p1, rf]; exact nI_nlt (by omega) (by omega)), if_pos (by rw [p1, rf, heq]), if_pos hle]
            · rw [if_neg hle]
              refine takeR G Z.2 _ GV.1 GV.2.2.2.2.1 hZ1 hZ3 (fun G' R' => ?_)
              refine ⟨N2, hN2, _, m23, _, m24, _, m25, (pv, N3), hN3, (nI mn, N3), ln3, Sum.inl (nI (j + 1), pv, nI mn, nI (j + 1) + 1, N3), ?_, hlt', nI_1 _, nI_1 _, ?_⟩
              · dsimp only
                rw [if_neg p2, if_neg nb, if_neg (by rw [p1, rf]; exact nI_nlt (by omega) (by omega)), if_pos (by rw [p1, rf, heq]), if_neg hle]
                rfl
              · dsimp only
                rw [p1]
                exact R'
        · have hnd : ¬ (hRun H.1 W H.2.2.2.2 (T.2.2.1 i) H.2.2.1 bb 0).1 = 2 := fun z => by
            have h9 : hRun H.1 W H.2.2.2.2 (T.2.2.1 i) H.2.2.1 bb 0 = (2, (hRun H.1 W H.2.2.2.2 (T.2.2.1 i) H.2.2.1 bb 0).2) := by rw [← z]
            have h10 := (hRm bb _ hb3).mp h9
            apply hd
            rw [h10.1]
            exact ⟨rfl, by have := h10.2; omega⟩
          rw [if_neg hnd] at z1
          subst z1
          rw [if_pos rfl]
          refine WP.ret ⟨N2, hN2, _, m23, _, m24, _, m25, (pv, N3), hN3, (nI mn, N3), ln3, Sum.inl (best, few, most, nI (j + 1) + 1, N3), ?_, hlt', nI_1 _, nI_1 _, keepR G GV.1⟩
          dsimp only
          by_cases hz2 : Z.1 = 2
          · obtain ⟨p1, p2⟩ := ppos hz2
            have hgt : bb < Z.2 := by
              by_cases hh : Z.2 ≤ bb
              · exact absurd ⟨hz2, hh⟩ hd
              · omega
            rw [if_neg p2, if_neg nb, if_neg (by rw [p1, rf]; exact nI_nlt (by omega) (by omega)), if_neg (by rw [p1, rf]; exact fun z => by have := (nI_eq (by omega) (by omega)).mp z; omega)]
          · rw [if_pos (pneg hz2)]
    · rw [if_pos (nI_lt (by omega) (by omega)), if_pos (nI_le (by omega) (by omega))]
      simp only [WP_bind, WP_some, Option.bind_some, Sum.elim_inl, Sum.elim_inr, ↓reduceIte]
      exact R1
  · rintro D9 ⟨⟨bs, fw, ms, N9⟩, h9, FD, i4, i5, GN, on, l16, l17, l18, r9⟩
    rw [h9]
    have StD : StS (sh D9) b := by rw [FD.2.2.1]; exact IB.1
    obtain ⟨xk, xr0, xr1, xr2, xr3, xr4, xr6, xr7, xr8, xr9, xr10, xr11⟩ := StD.x
    have tk9 := StD.ts
    have p18 : PlanC b H S T bw D9 := by
      unfold PlanC
      rw [i4, i5, (FD.2.2.2 (b + 31) (by omega)).1]
      exact pl
    have fin : Inv b D9 N9 := by
      have F20 : FM [20, 21] [13, 19] M N9 := ⟨fun q hq => by
        by_cases h16 : q = 16
        · rw [h16]; exact l16
        · exact GN.1 q (by simp only [List.mem_cons, List.not_mem_nil, or_false] at hq ⊢; omega), fun q hq => by
        by_cases h17 : q = 17
        · rw [h17]; exact l17
        · by_cases h18 : q = 18
          · rw [h18]; exact l18
          · exact GN.2 q (by simp only [List.mem_cons, List.not_mem_nil, or_false] at hq ⊢; omega)⟩
      exact I.scr (by rw [FD.1]; exact Nat.le_refl _) FD.2.1 (fun a _ => AgS.of FD.2.2.1 a) (fun a _ h1 _ _ => FD.ag (by omega)) (F20.mono (by decide) (by decide)) on p18
    rcases r9 with ⟨r7, rb⟩ | ⟨bb, c0, hb1, hb3, r7, rf, hc0, r6, rb, r8⟩
    · dsimp only at rb
      simp only [tcl_12, tgR_12_0, tpR_12_0, tgR_12_1, tpR_12_1, tgR_12_2, tpR_12_2, tgR_12_3, tpR_12_3, tgR_12_4, tpR_12_4, tgI_12_5, tpI_12_5, tgR_12_6, tpR_12_6, tgR_12_7, tpR_12_7, tgR_12_8, tpR_12_8, tgR_12_9, tpR_12_9, tgR_12_10, tpR_12_10, tgR_12_11, tpR_12_11, tcl_10, tgR_10_0, tpR_10_0, tgR_10_1, tpR_10_1, tgR_10_2, tpR_10_2, tgR_10_3, tpR_10_3, tgI_10_4, tpI_10_4, tgI_10_5, tpI_10_5, tgI_10_6, tpI_10_6, tgI_10_7, tpI_10_7, tgI_10_8, tpI_10_8, xk, xr0, xr1, xr2, xr3, xr4, xr6, xr7, xr8, xr9, xr10, xr11, tk9, r7, Option.bind_some, ↓reduceIte, WP_some]
      rw [rb, if_neg (show ¬ (0 : Int32) ≤ -1 by decide)]
      exact WP.ret ⟨rfl, fin⟩
    · dsimp only at rb rf r8
      have nfar : ¬ nI bb = 1000000000 := fun z => by have := (nI_eq (b := 1000000000) (by omega) (by omega)).mp z; omega
      have c9 : (0 : Int32) ≤ bs := by rw [rb]; exact nI_pos' (by omega)
      simp only [tcl_12, tgR_12_0, tpR_12_0, tgR_12_1, tpR_12_1, tgR_12_2, tpR_12_2, tgR_12_3, tpR_12_3, tgR_12_4, tpR_12_4, tgI_12_5, tpI_12_5, tgR_12_6, tpR_12_6, tgR_12_7, tpR_12_7, tgR_12_8, tpR_12_8, tgR_12_9, tpR_12_9, tgR_12_10, tpR_12_10, tgR_12_11, tpR_12_11, tcl_10, tgR_10_0, tpR_10_0, tgR_10_1, tpR_10_1, tgR_10_2, tpR_10_2, tgR_10_3, tpR_10_3, tgI_10_4, tpI_10_4, tgI_10_5, tpI_10_5, tgI_10_6, tpI_10_6, tgI_10_7, tpI_10_7, tgI_10_8, tpI_10_8, xk, xr0, xr1, xr2, xr3, xr4, xr6, xr7, xr8, xr9, xr10, xr11, tk9, r7, r6, r8, nfar, Option.bind_some, ↓reduceIte, WP_some, c9]
      by_cases w0 : wx = 0
      · simp only [w0, ↓reduceIte, WP_some]
        exact ⟨rb.symm, fin⟩
      · by_cases w1 : wx = 1
        · simp only [w1, ↓reduceIte, i10, WP_some]
          exact ⟨rf.symm, fin⟩
        · simp only [w0, w1, ↓reduceIte, WP_some]
          exact ⟨trivial, fin⟩
