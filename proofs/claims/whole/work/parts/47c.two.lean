theorem cntB_pos {c : Nat} : ∀ n, 1 ≤ cntB c n → ∃ a, a < n ∧ c.testBit a = true
  | 0, h => absurd h (Nat.not_succ_le_zero _)
  | n + 1, h => by
    have h1 : cntB c (n + 1) = cntB c n + (if c.testBit n = true then 1 else 0) := rfl
    by_cases hb : c.testBit n = true
    · exact ⟨n, by omega, hb⟩
    · rw [if_neg hb] at h1
      obtain ⟨a, h2, h3⟩ := cntB_pos (c := c) n (by omega)
      exact ⟨a, by omega, h3⟩
theorem cntB_two {c : Nat} : ∀ n, 2 ≤ cntB c n → ∃ a d, a < d ∧ d < n ∧ c.testBit a = true ∧ c.testBit d = true
  | 0, h => absurd h (Nat.not_succ_le_zero _)
  | n + 1, h => by
    have h1 : cntB c (n + 1) = cntB c n + (if c.testBit n = true then 1 else 0) := rfl
    by_cases hb : c.testBit n = true
    · rw [if_pos hb] at h1
      obtain ⟨a, h2, h3⟩ := cntB_pos (c := c) n (by omega)
      exact ⟨a, n, h2, by omega, h3, hb⟩
    · rw [if_neg hb] at h1
      obtain ⟨a, d, h2, h3, h4⟩ := cntB_two (c := c) n (by omega)
      exact ⟨a, d, h2, by omega, h4⟩
theorem cntB_ge1 {c a : Nat} (ha : c.testBit a = true) : ∀ n, a < n → 1 ≤ cntB c n
  | 0, h => absurd h (Nat.not_lt_zero _)
  | n + 1, h => by
    have h1 : cntB c (n + 1) = cntB c n + (if c.testBit n = true then 1 else 0) := rfl
    by_cases han : a = n
    · rw [← han, if_pos ha] at h1; rw [han] at h1; omega
    · have := cntB_ge1 ha n (by omega)
      omega
theorem cntB_ge2 {c a d : Nat} (ha : c.testBit a = true) (hd : c.testBit d = true) (had : a < d) : ∀ n, d < n → 2 ≤ cntB c n
  | 0, h => absurd h (Nat.not_lt_zero _)
  | n + 1, h => by
    have h1 : cntB c (n + 1) = cntB c n + (if c.testBit n = true then 1 else 0) := rfl
    by_cases hdn : d = n
    · have h2 := cntB_ge1 ha n (by omega)
      rw [← hdn, if_pos hd] at h1
      rw [hdn] at h1
      omega
    · have := cntB_ge2 ha hd had n (by omega)
      omega
def ch0 : CH := (0, (0, 0), fun _ => 0, fun _ => 0, fun _ _ => 0, fun _ => 0, fun _ _ => none, fun _ _ => 0, fun _ _ => 0, fun _ _ => none)
def bcI (x : Int32) : Int32 := ((t_J6_bitCount_0f7a4 x ch0).map Prod.fst).getD 0
theorem bc_eq (x : Int32) (C : CH) : t_J6_bitCount_0f7a4 x C = some (bcI x, C) := rfl
theorem bc_dec : ∀ c, c < 1024 → bcI (nI c) = nI (cntB c 10) := by decide +kernel
theorem iter_one {σ ρ : Type} {body : σ → Option (σ ⊕ ρ)} {s s' : σ} {n : Nat} (h : body s = some (.inl s')) : iter body (n + 1) s = iter body n s' := by
  conv => lhs; unfold iter
  rw [h]
/-- no two hands of the set: the reference finds none -/
theorem two_none {M : MS} {H : HX} {x1 x2 x3 x4 : Int32} (hm : HandsM H M) (hok : HandsOk H) (hno : ∀ a d, a < d → d < H.1.1 → ¬ (H.2.2.2.1.testBit a = true ∧ H.2.2.2.1.testBit d = true)) : iter (g_X12_two_L39 x1 x2 x3 x4) 100000 ((-1), 0, M) = some ((-1), M) := by
  have hn1 := hok.1.1
  have key : WP (iter (g_X12_two_L39 x1 x2 x3 x4) 100000 ((-1), 0, M)) (fun r => r = ((-1), M)) := by
    refine WP.it (fun a y => y = ((-1), nI a, M)) H.1.1 ?_ 100000 0 _ rfl (Nat.zero_le _) (by omega)
    rintro a y ha rfl
    unfold g_X12_two_L39
    dsimp only
    rw [hm.1.1]
    by_cases hlt : a < H.1.1
    · rw [if_neg (nI_ge hlt (by omega))]
      simp only [WP_bind, WP_some]
      refine WP.mono (WP.it (Post := fun r => r = ((-1 : Int32), M)) (fun d y => y = ((-1), nI (a + 1 + d), M)) (H.1.1 - (a + 1)) ?_ 100000 0 _ (by rw [nI_1]) (Nat.zero_le _) (by omega)) ?_
      · rintro d y hd rfl
        unfold g_X12_two_L54
        dsimp only
        rw [hm.1.1]
        by_cases hlt2 : a + 1 + d < H.1.1
        · rw [if_neg (nI_ge hlt2 (by omega)), isOf_eq hok hm.2.1 (show a < 31 by omega)]
          have h9 := hno a (a + 1 + d) (by omega) hlt2
          simp only [Option.bind_some]
          by_cases hb1 : H.2.2.2.1.testBit a = true
          · have hb2 : ¬ H.2.2.2.1.testBit (a + 1 + d) = true := fun z => h9 ⟨hb1, z⟩
            simp only [hb1, ↓reduceIte, i10]
            rw [isOf_eq hok hm.2.1 (show a + 1 + d < 31 by omega)]
            simp only [hb2, ↓reduceIte, Bool.false_eq_true, WP_bind, WP_some, Option.bind_some, Sum.elim_inl, Sum.elim_inr, ↓reduceIte]
            exact ⟨by omega, by rw [nI_1]; rfl⟩
          · simp only [hb1, ↓reduceIte, Bool.false_eq_true, WP_bind, WP_some, Option.bind_some, Sum.elim_inl, Sum.elim_inr, ↓reduceIte]
            exact ⟨by omega, by rw [nI_1]; rfl⟩
        · rw [if_pos (nI_le (by omega) (by omega))]
          simp only [WP_bind, WP_some, Option.bind_some, Sum.elim_inl, Sum.elim_inr, ↓reduceIte]
      · rintro r rfl
        simp only [WP_bind, WP_some, Option.bind_some, Sum.elim_inl, Sum.elim_inr, ↓reduceIte]
        exact ⟨hlt, by rw [nI_1]⟩
    · have haa : a = H.1.1 := by omega
      subst haa
      rw [if_pos (nI_le (by omega) (by omega))]
      simp only [WP_bind, WP_some, Option.bind_some, Sum.elim_inl, Sum.elim_inr, ↓reduceIte]
  obtain ⟨e, h4, rfl⟩ := key
  exact h4
def TwoR (b : Nat) (E D : CH) (M N : MS) (least : Int32) (fnd : Prop) : Prop := Fr (b + 40) (b + 46) E D ∧ FM [20, 21, 39, 40, 41, 42] [13, 19, 38] M N ∧ (∀ j, j < 10 → N.2.2.1 13 j = M.2.2.1 13 j) ∧ ((c_iv D (b + 40) 5 = 1000000000 ∧ least = -1 ∧ ¬ fnd) ∨ (c_iv D (b + 40) 5 = least ∧ c_iv D (b + 40) 1 = N.1 39 ∧ c_iv D (b + 40) 2 = N.1 40 ∧ c_iv D (b + 40) 3 = N.1 41 ∧ c_iv D (b + 40) 4 = N.1 42 ∧ ∃ d, d ≤ 1800000 ∧ least = nI d))
theorem TwoR.mono {b : Nat} {E D : CH} {M N : MS} {least : Int32} {f g : Prop} (h : TwoR b E D M N least f) (hg : g → f) : TwoR b E D M N least g := by
  obtain ⟨h1, h2, h3, h4⟩ := h
  refine ⟨h1, h2, h3, ?_⟩
  rcases h4 with ⟨h5, h6, h7⟩ | h4
  · exact Or.inl ⟨h5, h6, fun z => h7 (hg z)⟩
  · exact Or.inr h4
theorem op_two {b : Nat} {C : CH} {M : MS} (I : Inv b C M) (x lx px wx : Int32) : OP b (t_X11_two b x lx px wx C) (g_X12_two x lx px wx M) := by
  have I0 := I
  obtain ⟨H, S, T, bw, X, R, K, I⟩ := I
  obtain ⟨IB, ⟨h1, hm, hok⟩, ⟨s1, sm, sok⟩, _, _, _, _, ⟨k1, km, kok⟩, _, pl⟩ := id I
  obtain ⟨xk, xr0, xr1, xr2, xr3, xr4, xr6, xr7, xr8, xr9, xr10, xr11⟩ := IB.1.x
  have hb := IB.2.1
  have h6 := sok.1
  have hn1 := hok.1.1
  have hw := hok.1.pow hok.2.1
  unfold t_X11_two g_X12_two
  rw [noSong_eq sm]
  by_cases hv : x < 0 ∨ nI S.1 - 1 < x
  · simp only [hv, ↓reduceIte, i10, tcl_12, tgR_12_0, tpR_12_0, tgR_12_1, tpR_12_1, tgR_12_2, tpR_12_2, tgR_12_3, tpR_12_3, tgR_12_4, tpR_12_4, tgI_12_5, tpI_12_5, tgR_12_6, tpR_12_6, tgR_12_7, tpR_12_7, tgR_12_8, tpR_12_8, tgR_12_9, tpR_12_9, tgR_12_10, tpR_12_10, tgR_12_11, tpR_12_11, xk, Option.bind_some, (songOf_eq IB s1 x).1 hv, Option.elim]
    exact op_same I0 _
  obtain ⟨s, hs, rfl⟩ := in_n (by omega) hv
  have e1t : ¬ ((1 : Int32) < 1 ∨ 3000 < (1 : Int32)) := by decide
  simp only [hv, ↓reduceIte, i10, tcl_12, tgR_12_0, tpR_12_0, tgR_12_1, tpR_12_1, tgR_12_2, tpR_12_2, tgR_12_3, tpR_12_3, tgR_12_4, tpR_12_4, tgI_12_5, tpI_12_5, tgR_12_6, tpR_12_6, tgR_12_7, tpR_12_7, tgR_12_8, tpR_12_8, tgR_12_9, tpR_12_9, tgR_12_10, tpR_12_10, tgR_12_11, tpR_12_11, xk, Option.bind_some, (songOf_eq IB s1 (nI s)).2 s hs h6 rfl, Option.elim, isWeight_eq, gisTask_eq, e1t, false_or]
  by_cases hv2 : (lx < 0 ∨ 1000 < lx) ∨ (px < 0 ∨ 50 < px)
  · simp only [hv2, ↓reduceIte]
    exact op_same I0 _
  obtain ⟨l, hl, rfl⟩ := within_nI (n := 1000) rfl (fun z => hv2 (Or.inl z))
  obtain ⟨p, hp, rfl⟩ := within_nI (n := 50) rfl (fun z => hv2 (Or.inr z))
  simp only [hv2, ↓reduceIte, i10]
  rw [gin_eq (l := 0) (h := 4) wx 0 4 M rfl rfl, tw_eq]
  by_cases hv3 : wx < 0 ∨ 4 < wx
  · simp only [hv3, ↓reduceIte, Option.bind_some]
    exact op_same I0 _
  obtain ⟨hk0, _⟩ := IB.1.2.2.1.f
  have hpw : 2 ^ H.1.1 ≤ 1024 := pow_le hn1
  simp only [hv3, ↓reduceIte, i10, Option.bind_some, tcl_12, tgR_12_0, tpR_12_0, tgR_12_1, tpR_12_1, tgR_12_2, tpR_12_2, tgR_12_3, tpR_12_3, tgR_12_4, tpR_12_4, tgI_12_5, tpI_12_5, tgR_12_6, tpR_12_6, tgR_12_7, tpR_12_7, tgR_12_8, tpR_12_8, tgR_12_9, tpR_12_9, tgR_12_10, tpR_12_10, tgR_12_11, tpR_12_11, tcl_1, tgR_1_0, tpR_1_0, tgR_1_1, tpR_1_1, tgR_1_2, tpR_1_2, tgR_1_3, tpR_1_3, tgR_1_4, tpR_1_4, tgR_1_5, tpR_1_5, tgI_1_6, tpI_1_6, tgI_1_7, tpI_1_7, tgI_1_8, tpI_1_8, xk, xr0, xr1, xr2, xr3, xr4, xr6, xr7, xr8, xr9, xr10, xr11, hk0, h1.2.1, bc_eq, bc_dec H.2.2.2.1 hw]
  have hbits : ∀ d, H.2.2.2.1.testBit d = true → d < H.1.1 := fun d hd => by
    by_cases hdn : d < H.1.1
    · exact hdn
    · exfalso
      have := Nat.testBit_lt_two_pow (Nat.lt_of_lt_of_le hok.2.1 (Nat.pow_le_pow_right (by decide) (show H.1.1 ≤ d by omega)))
      rw [this] at hd
      exact absurd hd (by decide)
  have hc10 := cntB_le H.2.2.2.1 10
  by_cases hb2 : 2 ≤ cntB H.2.2.2.1 10
  case neg =>
    rw [if_neg (show ¬ (2 : Int32) ≤ nI (cntB H.2.2.2.1 10) from nI_ge (b := 2) (by omega) (by omega)), two_none hm hok (fun a d p1 p2 p3 => hb2 (cntB_ge2 p3.1 p3.2 p1 10 (by omega)))]
    simp only [Option.bind_some]
    rw [if_neg (show ¬ (0 : Int32) ≤ -1 by decide)]
    exact op_same I0 _
  case pos =>
  rw [if_pos (show (2 : Int32) ≤ nI (cntB H.2.2.2.1 10) from nI_le (a := 2) (by omega) (by omega))]
  obtain ⟨pa, pd, pad, pd10, pba, pbd⟩ := cntB_two 10 hb2
  simp only [OP, WP_bind, WP_some, Option.bind_some, tcl_12, tgR_12_0, tpR_12_0, tgR_12_1, tpR_12_1, tgR_12_2, tpR_12_2, tgR_12_3, tpR_12_3, tgR_12_4, tpR_12_4, tgI_12_5, tpI_12_5, tgR_12_6, tpR_12_6, tgR_12_7, tpR_12_7, tgR_12_8, tpR_12_8, tgR_12_9, tpR_12_9, tgR_12_10, tpR_12_10, tgR_12_11, tpR_12_11, xk, xr0, xr1, xr2, xr3, xr4, xr6, xr7, xr8, xr9, xr10, xr11]
  obtain ⟨q1, q2, q3, q4, q5⟩ := s1.2 s hs
  have hvs := q2.2.2.2.2.1
  refine WP.mono (newTask_wp (C := C) 1000000000 (nI l) (nI p)) (fun E ⟨n1, n2, n3, n4, n5, n6, n7⟩ => ?_)
  have StE : StS (sh E) b := IB.1.ag (fun a p q _ _ _ => (n7 a (by omega)).s) ((n7 _ (by omega)).1.trans IB.1.li.1) ((n7 _ (by omega)).1.trans IB.1.li.2.1) ((n7 _ (by omega)).1.trans IB.1.li.2.2)
  obtain ⟨xk, xr0, xr1, xr2, xr3, xr4, xr6, xr7, xr8, xr9, xr10, xr11⟩ := StE.x
  have LS : LateS (sh E) (b + 40) := StE.2.2.2.2.2.2.2.1
  have lk : c_kd E (b + 40) = 5 := LS.1
  have L : LtV E b (S.2.1 s) C.1 H.1 K (S.2.2.1 s) (S.2.2.2.1 s) (S.2.2.2.2.1 s) (S.2.2.2.2.2 s) H.2.2.2.1 l p := ⟨LS, StE.2.2.1, q1.ag (fun a p q => (n7 a (by omega)).s), h1.1.ag (fun a p q => n7 a (by omega)), q2.ag (fun a p q => n7 a (by omega)), ⟨n3, n4, n5, n6⟩, ⟨StE.2.2.2.2.2.2.1, by rw [(n7 _ (by omega)).2.2.2.2.1]; exact k1.1, by rw [(n7 (b + 37 + 1) (by omega)).2.2.2.2.2.1, (n7 (b + 37 + 2) (by omega)).2.2.2.2.2.1]; exact k1.2, kok⟩, by rw [(n7 _ (by omega)).2.2.2.2.1]; exact h1.2.1, q3, hb⟩
  simp only [WP_bind, WP_some, Option.bind_some, tcl_12, tgR_12_0, tpR_12_0, tgR_12_1, tpR_12_1, tgR_12_2, tpR_12_2, tgR_12_3, tpR_12_3, tgR_12_4, tpR_12_4, tgI_12_5, tpI_12_5, tgR_12_6, tpR_12_6, tgR_12_7, tpR_12_7, tgR_12_8, tpR_12_8, tgR_12_9, tpR_12_9, tgR_12_10, tpR_12_10, tgR_12_11, tpR_12_11, tcl_4, tgR_4_0, tpR_4_0, tgI_4_1, tpI_4_1, tgI_4_2, tpI_4_2, tgI_4_3, tpI_4_3, tgI_4_4, tpI_4_4, tgI_4_5, tpI_4_5, xk, xr0, xr1, xr2, xr3, xr4, xr6, xr7, xr8, xr9, xr10, xr11, lk, t_X3_findTwo]
  -- both sides' way to a trial with one hand late
  have one : ∀ (D : CH) (lt : Nat → Nat) (Kp : Int32 × CH → Prop), Fr (b + 40) (b + 46) E D → (∀ h, lt h ≤ 3) → c_iv D (b + 41) 5 = nI H.2.2.2.1 → c_iv D (b + 41) 6 = 0 → (∀ h, h < 10 → c_ar D (b + 42) h = c_ar D (b + 5) h) → (∀ h, h < H.1.1 → c_ar D (b + 43) h = nI (lt h)) → (∀ D', Fr (b + 41) (b + 46) D D' → Kp (nI (mS H.1 (wLt H S s l p lt) K), D')) → WP (t_X3_sumOfTrial (b + 40) (b + 4) (S.2.1 s) C.1 (b + 37) D) Kp := by
    intro D lt Kp F hlt hc hf hn hll hK
    refine WP.mono (trial_wp (lt := lt) hok (wLt_ok hok sok hs hvs hl hp hlt) (L.fr F) hc hf hn hll) ?_
    rintro ⟨z, D'⟩ ⟨z1, z2⟩
    dsimp only at z1 z2
    rw [z1]
    exact hK D' z2
  have two : ∀ (N : MS) (lt : Nat → Nat) (xa la xb lb : Int32) (Kp : Int32 × MS → Prop), FM [20, 21, 39, 40, 41, 42] [13, 19, 38] M N → (∀ j, j < 10 → N.2.2.1 13 j = M.2.2.1 13 j) → (∀ h, lt h ≤ 3) → (∀ h, h < H.1.1 → (if nI h = xa then la else if nI h = xb then lb else 0) = nI (lt h)) → (∀ N', FM [20, 21] [13, 19, 38] N N' → (∀ j, j < 10 → N'.2.2.1 13 j = N.2.2.1 13 j) → Kp (nI (mS H.1 (wLt H S s l p lt) K), N')) → WP (g_X12_sumOf (nI s) (nI l) (nI p) xa la xb lb N) Kp := by
    intro N lt xa la xb lb Kp F h13 hlt hh hK
    refine WP.mono (sumOf_wp (H := H) (K := K) (W := wLt H S s l p lt) (hm.fr F (by decide) (by decide) h13 hn1) hok.1 (wLt_ok hok sok hs hvs hl hp hlt) (by omega) ((sm.2 s hs).fr F (by decide)) rfl (km.fr F (by decide) (by decide)) kok rfl hh) ?_
    rintro ⟨z, N'⟩ ⟨z1, z2, z3⟩
    dsimp only at z1 z2 z3
    rw [z1]
    exact hK N' z2 z3
  generalize hE2 : s_iv E (up2 (c_iv E) (b + 40) 5 1000000000) = E2
  have FE2 : Fr (b + 40) (b + 46) E E2 := by
    rw [← hE2]
    exact Fr.iv (k := 5) _ (by omega)
  have i25 : c_iv E2 (b + 40) 5 = 1000000000 := by rw [← hE2, iv_upd, if_pos ⟨rfl, rfl⟩]
  have R0 : TwoR b E E2 M M (-1) False := ⟨FE2, FM.rf _ _ _, fun _ _ => rfl, Or.inl ⟨i25, rfl, fun z => z⟩⟩
  -- a pair is tried
  have pair : ∀ (D : CH) (N : MS) (least : Int32) (fnd : Prop) (a d : Nat), a < d → d < H.1.1 → TwoR b E D M N least fnd → WP (t_X3_tryPair (b + 40) (b + 4) (S.2.1 s) C.1 (b + 37) (nI a) (nI d) D) (fun D' => WP (g_X12_tryTwo (nI s) (nI l) (nI p) (nI a) (nI d) least N) (fun q => TwoR b E D' M q.2 q.1 True)) := by
    intro D0 N0 least0 fnd a d had hdn R00
    unfold t_X3_tryPair g_X12_tryTwo
    simp only [WP_bind, WP_some]
    refine WP.mono (WP.it (Post := fun D' => ∃ least N, TwoR b E D' M N least True ∧ iter (g_X12_tryTwo_L7 (nI s) (nI l) (nI p) (nI a) (nI d)) 100000 (least0, 0, N0) = iter (g_X12_tryTwo_L7 (nI s) (nI l) (nI p) (nI a) (nI d)) 99991 (least, nI 9, N)) (fun k y => y.1 = nI (k + 1) ∧ ∃ least N, TwoR b E y.2 M N least (fnd ∨ 0 < k) ∧ iter (g_X12_tryTwo_L7 (nI s) (nI l) (nI p) (nI a) (nI d)) 100000 (least0, 0, N0) = iter (g_X12_tryTwo_L7 (nI s) (nI l) (nI p) (nI a) (nI d)) (99991 + (9 - 3 * k)) (least, nI (3 * k), N)) 3 ?_ 100000 0 _ ⟨rfl, least0, N0, R00.mono (fun z => by rcases z with z | z; exact z; exact absurd z (Nat.lt_irrefl _)), rfl⟩ (Nat.zero_le _) (by omega)) ?_
    · rintro k ⟨y, D⟩ hk ⟨e1, least, N, R1, hq⟩
      dsimp only at e1 R1 hq
      subst e1
      unfold t_X3_tryPair_L3
      dsimp only
      by_cases hlt : k < 3
      · rw [if_neg (show ¬ (3 : Int32) < nI (k + 1) from nI_nlt (a := 3) (by omega) (by omega))]
        simp only [WP_bind, WP_some]
        refine WP.mono (WP.it (Post := fun D' => ∃ least N, TwoR b E D' M N least True ∧ iter (g_X12_tryTwo_L7 (nI s) (nI l) (nI p) (nI a) (nI d)) 100000 (least0, 0, N0) = iter (g_X12_tryTwo_L7 (nI s) (nI l) (nI p) (nI a) (nI d)) (99991 + (9 - 3 * (k + 1))) (least, nI (3 * (k + 1)), N)) (fun i y => y.1 = nI (i + 1) ∧ ∃ least N, TwoR b E y.2 M N least ((fnd ∨ 0 < k) ∨ 0 < i) ∧ iter (g_X12_tryTwo_L7 (nI s) (nI l) (nI p) (nI a) (nI d)) 100000 (least0, 0, N0) = iter (g_X12_tryTwo_L7 (nI s) (nI l) (nI p) (nI a) (nI d)) (99991 + (9 - (3 * k + i))) (least, nI (3 * k + i), N)) 3 ?_ 100000 0 _ ⟨rfl, least, N, R1.mono (fun z => by rcases z with z | z; exact z; exact absurd z (Nat.lt_irrefl _)), hq⟩ (Nat.zero_le _) (by omega)) ?_
        · rintro i ⟨y, D⟩ hi ⟨e1, least, N, R1, hq⟩
          dsimp only at e1 R1 hq
          subst e1
          obtain ⟨FD, GN, on, r4⟩ := id R1
          unfold t_X3_tryPair_L12
          dsimp only
          by_cases hlti : i < 3
          · rw [if_neg (show ¬ (3 : Int32) < nI (i + 1) from nI_nlt (a := 3) (by omega) (by omega))]
            have LD := L.fr FD
            have lkD : c_kd D (b + 40) = 5 := LD.1.1
            have lrD : c_rv D (b + 40) 0 = some (b + 41) := LD.1.2.1
            obtain ⟨ok, _⟩ := LD.1.2.2.f
            have v7 : c_iv D (b + 4) 7 = nI H.2.2.2.1 := LD.2.2.2.2.2.2.2.1
            simp only [tcl_4, tgR_4_0, tpR_4_0, tgI_4_1, tpI_4_1, tgI_4_2, tpI_4_2, tgI_4_3, tpI_4_3, tgI_4_4, tpI_4_4, tgI_4_5, tpI_4_5, tcl_2, tgR_2_0, tpR_2_0, tgR_2_1, tpR_2_1, tgR_2_2, tpR_2_2, tgR_2_3, tpR_2_3, tgR_2_4, tpR_2_4, tgI_2_5, tpI_2_5, tgI_2_6, tpI_2_6, tgI_2_7, tpI_2_7, lkD, lrD, ok, Option.bind_some, WP_bind, WP_some]
            refine WP.mono (beginFresh_wp (o := b + 41) (hb := b + 4) LD.1.2.2 LD.2.1 (by omega)) (fun D0 ⟨F0, a0, l0, c0, f0, _⟩ => ?_)
            have F0' : Fr (b + 41) (b + 43) D D0 := F0
            have L0 := LD.fr (F0'.mono (by omega) (by omega))
            have lk0 : c_kd D0 (b + 40) = 5 := L0.1.1
            have lr0 : c_rv D0 (b + 40) 0 = some (b + 41) := L0.1.2.1
            obtain ⟨ok, or0, ok0, ol0, or1, ok1, ol1, or2, ok2, ol2, or3, ok3, ol3, or4, ok4, ol4⟩ := L0.1.2.2.f
            simp only [tcl_4, tgR_4_0, tpR_4_0, tgI_4_1, tpI_4_1, tgI_4_2, tpI_4_2, tgI_4_3, tpI_4_3, tgI_4_4, tpI_4_4, tgI_4_5, tpI_4_5, tcl_2, tgR_2_0, tpR_2_0, tgR_2_1, tpR_2_1, tgR_2_2, tpR_2_2, tgR_2_3, tpR_2_3, tgR_2_4, tpR_2_4, tgI_2_5, tpI_2_5, tgI_2_6, tpI_2_6, tgI_2_7, tpI_2_7, lk0, lr0, ok, or0, ok0, ol0, or1, ok1, ol1, or2, ok2, ol2, or3, ok3, ol3, or4, ok4, ol4, Option.bind_some, WP_bind, WP_some]
            refine tst_wp ok1 ol1 (show a < 10 by omega) (by omega) (fun D2 F2 i2 a2 => ?_)
            have F2' : Fr (b + 43) (b + 43) D0 D2 := F2
            have a2' : ∀ h, c_ar D2 (b + 43) h = if h = a then nI (k + 1) else c_ar D0 (b + 43) h := a2
            have L2 := L0.fr (F2'.mono (by omega) (by omega))
            have lk2 : c_kd D2 (b + 40) = 5 := L2.1.1
            have lr2 : c_rv D2 (b + 40) 0 = some (b + 41) := L2.1.2.1
            obtain ⟨ok, or0, ok0, ol0, or1, ok1, ol1, or2, ok2, ol2, or3, ok3, ol3, or4, ok4, ol4⟩ := L2.1.2.2.f
            simp only [tcl_4, tgR_4_0, tpR_4_0, tgI_4_1, tpI_4_1, tgI_4_2, tpI_4_2, tgI_4_3, tpI_4_3, tgI_4_4, tpI_4_4, tgI_4_5, tpI_4_5, tcl_2, tgR_2_0, tpR_2_0, tgR_2_1, tpR_2_1, tgR_2_2, tpR_2_2, tgR_2_3, tpR_2_3, tgR_2_4, tpR_2_4, tgI_2_5, tpI_2_5, tgI_2_6, tpI_2_6, tgI_2_7, tpI_2_7, lk2, lr2, ok, or0, ok0, ol0, or1, ok1, ol1, or2, ok2, ol2, or3, ok3, ol3, or4, ok4, ol4, Option.bind_some, WP_bind, WP_some]
            refine tst_wp ok1 ol1 (show d < 10 by omega) (by omega) (fun D3 F3 i3 a3 => ?_)
            have F3' : Fr (b + 43) (b + 43) D2 D3 := F3
            have a3' : ∀ h, c_ar D3 (b + 43) h = if h = d then nI (i + 1) else c_ar D2 (b + 43) h := a3
            have FD3 : Fr (b + 40) (b + 46) E D3 := FD.tr ((F0'.mono (by omega) (by omega)).tr ((F2'.mono (by omega) (by omega)).tr (F3'.mono (by omega) (by omega))))
            have lk3 : c_kd D3 (b + 40) = 5 := (L.fr FD3).1.1
            simp only [tcl_4, tgR_4_0, tpR_4_0, tgI_4_1, tpI_4_1, tgI_4_2, tpI_4_2, tgI_4_3, tpI_4_3, tgI_4_4, tpI_4_4, tgI_4_5, tpI_4_5, lk3, WP_some]
            refine one D3 (lt2 a (k + 1) d (i + 1)) _ FD3 (lt2_le (by omega) (by omega)) (by rw [i3, i2, c0]; exact v7) (by rw [i3, i2]; exact f0) (fun h hh => by rw [(F3'.2.2.2 (b + 42) (by omega)).1, (F3'.2.2.2 (b + 5) (by omega)).1, (F2'.2.2.2 (b + 42) (by omega)).1, (F2'.2.2.2 (b + 5) (by omega)).1, (F0'.2.2.2 (b + 5) (by omega)).1]; exact a0 h hh) (fun h hh => ?_) (fun D4 F4 => ?_)
            · rw [a3', a2']
              unfold lt2
              have l0' : c_ar D0 (b + 43) h = 0 := l0 h (by omega)
              by_cases hha : h = a
              · rw [if_neg (by omega), if_pos hha, if_pos hha]
              · by_cases hhd : h = d
                · rw [if_pos hhd, if_neg hha, if_pos hhd]
                · rw [if_neg hhd, if_neg hha, if_neg hha, if_neg hhd, l0']; rfl
            · have iv4 : c_iv D4 (b + 40) = c_iv D (b + 40) := by rw [(F4.2.2.2 (b + 40) (by omega)).2.1, i3, i2, (F0'.2.2.2 (b + 40) (by omega)).2.1]
              have FD4 : Fr (b + 40) (b + 46) E D4 := FD3.tr (F4.mono (by omega) (by omega))
              have lk4 : c_kd D4 (b + 40) = 5 := (L.fr FD4).1.1
              obtain ⟨⟨z9, N9⟩, hN9, zz, GN9, on9⟩ := two N (lt2 a (k + 1) d (i + 1)) (nI a) (nI (k + 1)) (nI d) (nI (i + 1)) (fun q => q.1 = nI (mS H.1 (wLt H S s l p (lt2 a (k + 1) d (i + 1))) K) ∧ FM [20, 21] [13, 19, 38] N q.2 ∧ ∀ j, j < 10 → q.2.2.2.1 13 j = N.2.2.1 13 j) GN on (lt2_le (by omega) (by omega)) (fun h hh => by
                unfold lt2
                by_cases hha : h = a
                · rw [if_pos (by rw [hha]), if_pos hha]
                · rw [if_neg (fun z => hha ((nI_eq (by omega) (by omega)).mp z)), if_neg hha]
                  by_cases hhd : h = d
                  · rw [if_pos (by rw [hhd]), if_pos hhd]
                  · rw [if_neg (fun z => hhd ((nI_eq (by omega) (by omega)).mp z)), if_neg hhd]; rfl) (fun N' a c => ⟨rfl, a, c⟩)
              dsimp only at zz GN9 on9
              subst zz
              have hmS := mS_le hok.1 (W := wLt H S s l p (lt2 a (k + 1) d (i + 1))) kok
              generalize hms : mS H.1 (wLt H S s l p (lt2 a (k + 1) d (i + 1))) K = ms at hmS hN9 ⊢
              have GN9' : FM [20, 21, 39, 40, 41, 42] [13, 19, 38] M N9 := GN.tr (GN9.mono (by decide) (fun k h => h))
              have on9' : ∀ j, j < 10 → N9.2.2.1 13 j = M.2.2.1 13 j := fun j hj => by rw [on9 j hj, on j hj]
              have x3 : nI (3 * k + i) / 3 = nI k := by rw [show (3 : Int32) = nI 3 from rfl, pk_div (by omega) (by omega) (by omega)]; congr 1; omega
              have xr : nI (3 * k + i) - nI (3 * k + i) / 3 * 3 = nI i := by rw [show (3 : Int32) = nI 3 from rfl, pk_rem (by omega) (by omega) (by omega)]; congr 1; omega
              have xk1 : (1 : Int32) + nI k = nI (k + 1) := by rw [show (1 : Int32) = nI 1 from rfl, nI_add]; congr 1; omega
              have xi1 : (1 : Int32) + nI i = nI (i + 1) := by rw [show (1 : Int32) = nI 1 from rfl, nI_add]; congr 1; omega
              -- the reference's round
              have hbody : g_X12_tryTwo_L7 (nI s) (nI l) (nI p) (nI a) (nI d) (least, nI (3 * k + i), N) = (if least < 0 then (g_X12_tryTwo_L7_J51 (nI s) (nI l) (nI p) (nI a) (nI d) (nI (3 * k + i)) (nI ms) N9) else (if least ≤ nI ms then (some (.inl (least, nI (3 * k + i) + 1, N9))) else (g_X12_tryTwo_L7_J51 (nI s) (nI l) (nI p) (nI a) (nI d) (nI (3 * k + i)) (nI ms) N9))) := by
                unfold g_X12_tryTwo_L7
                dsimp only
                rw [if_neg (show ¬ (9 : Int32) ≤ nI (3 * k + i) from nI_ge (b := 9) (by omega) (by omega)), xr, x3, xk1, xi1, hN9]
                rfl
              have hJ : g_X12_tryTwo_L7_J51 (nI s) (nI l) (nI p) (nI a) (nI d) (nI (3 * k + i)) (nI ms) N9 = some (.inl (nI ms, nI (3 * k + i + 1), msI (msI (msI (msI N9 39 (nI a)) 40 (nI d)) 41 (nI (k + 1))) 42 (nI (i + 1)))) := by
                unfold g_X12_tryTwo_L7_J51
                rw [xr, x3, xk1, xi1, nI_1]
                rfl
              rw [show 99991 + (9 - (3 * k + i)) = 99991 + (9 - (3 * k + (i + 1))) + 1 by omega] at hq
              -- the class takes it
              have take : g_X12_tryTwo_L7 (nI s) (nI l) (nI p) (nI a) (nI d) (least, nI (3 * k + i), N) = g_X12_tryTwo_L7_J51 (nI s) (nI l) (nI p) (nI a) (nI d) (nI (3 * k + i)) (nI ms) N9 → ¬ c_iv D4 (b + 40) 5 ≤ nI ms → WP ((tgI D4 (b + 40) 4 5).bind fun v23 => if v23 ≤ nI ms then (some (Sum.inl (nI (i + 1) + 1, D4) : (Int32 × CH) ⊕ CH)) else ((tpF D4 (b + 40) 4 5 (.int (nI ms))).bind fun h26 => (tpF h26 (b + 40) 4 1 (.int (nI a))).bind fun h28 => (tpF h28 (b + 40) 4 2 (.int (nI d))).bind fun h30 => (tpF h30 (b + 40) 4 3 (.int (nI (k + 1)))).bind fun h32 => (tpF h32 (b + 40) 4 4 (.int (nI (i + 1)))).bind fun h34 => some (.inl (nI (i + 1) + 1, h34)))) (Sum.elim (fun y => i < 3 ∧ y.1 = nI (i + 1 + 1) ∧ ∃ least N, TwoR b E y.2 M N least ((fnd ∨ 0 < k) ∨ 0 < i + 1) ∧ iter (g_X12_tryTwo_L7 (nI s) (nI l) (nI p) (nI a) (nI d)) 100000 (least0, 0, N0) = iter (g_X12_tryTwo_L7 (nI s) (nI l) (nI p) (nI a) (nI d)) (99991 + (9 - (3 * k + (i + 1)))) (least, nI (3 * k + (i + 1)), N)) (fun D' => ∃ least N, TwoR b E D' M N least True ∧ iter (g_X12_tryTwo_L7 (nI s) (nI l) (nI p) (nI a) (nI d)) 100000 (least0, 0, N0) = iter (g_X12_tryTwo_L7 (nI s) (nI l) (nI p) (nI a) (nI d)) (99991 + (9 - 3 * (k + 1))) (least, nI (3 * (k + 1)), N))) := by
                intro hb1 hc
                rw [hJ] at hb1
                rw [iter_one hb1] at hq
                simp only [tcl_4, tgR_4_0, tpR_4_0, tgI_4_1, tpI_4_1, tgI_4_2, tpI_4_2, tgI_4_3, tpI_4_3, tgI_4_4, tpI_4_4, tgI_4_5, tpI_4_5, lk4, hc, ↓reduceIte, Option.bind_some, WP_some, s_iv_1, s_iv_2, s_iv_kd, s_iv_ln, s_iv_iv, s_iv_jv, s_iv_rv, s_iv_ar, s_iv_al, s_iv_ro, s_jv_1, s_jv_2, s_jv_kd, s_jv_ln, s_jv_iv, s_jv_jv, s_jv_rv, s_jv_ar, s_jv_al, s_jv_ro, s_rv_1, s_rv_2, s_rv_kd, s_rv_ln, s_rv_iv, s_rv_jv, s_rv_rv, s_rv_ar, s_rv_al, s_rv_ro, s_ar_1, s_ar_2, s_ar_kd, s_ar_ln, s_ar_iv, s_ar_jv, s_ar_rv, s_ar_ar, s_ar_al, s_ar_ro, s_al_1, s_al_2, s_al_kd, s_al_ln, s_al_iv, s_al_jv, s_al_rv, s_al_ar, s_al_al, s_al_ro, s_ro_1, s_ro_2, s_ro_kd, s_ro_ln, s_ro_iv, s_ro_jv, s_ro_rv, s_ro_ar, s_ro_al, s_ro_ro, WP_bind, WP_some, Option.bind_some, Sum.elim_inl, Sum.elim_inr, ↓reduceIte]
                refine ⟨hlti, nI_1 _, nI ms, _, ⟨FD4.tr ((Fr.iv (k := 5) _ (by omega)).tr ((Fr.iv (k := 1) _ (by omega)).tr ((Fr.iv (k := 2) _ (by omega)).tr ((Fr.iv (k := 3) _ (by omega)).tr (Fr.iv (k := 4) _ (by omega)))))), GN9'.tr ((FM.I _ (by decide)).tr ((FM.I _ (by decide)).tr ((FM.I _ (by decide)).tr (FM.I _ (by decide))))), on9', Or.inr ⟨?_, ?_, ?_, ?_, ?_, ms, hmS, rfl⟩⟩, hq⟩
                · simp [s_iv_1, s_iv_2, s_iv_kd, s_iv_ln, s_iv_iv, s_iv_jv, s_iv_rv, s_iv_ar, s_iv_al, s_iv_ro, s_jv_1, s_jv_2, s_jv_kd, s_jv_ln, s_jv_iv, s_jv_jv, s_jv_rv, s_jv_ar, s_jv_al, s_jv_ro, s_rv_1, s_rv_2, s_rv_kd, s_rv_ln, s_rv_iv, s_rv_jv, s_rv_rv, s_rv_ar, s_rv_al, s_rv_ro, s_ar_1, s_ar_2, s_ar_kd, s_ar_ln, s_ar_iv, s_ar_jv, s_ar_rv, s_ar_ar, s_ar_al, s_ar_ro, s_al_1, s_al_2, s_al_kd, s_al_ln, s_al_iv, s_al_jv, s_al_rv, s_al_ar, s_al_al, s_al_ro, s_ro_1, s_ro_2, s_ro_kd, s_ro_ln, s_ro_iv, s_ro_jv, s_ro_rv, s_ro_ar, s_ro_al, s_ro_ro, up2]
                · simp [s_iv_1, s_iv_2, s_iv_kd, s_iv_ln, s_iv_iv, s_iv_jv, s_iv_rv, s_iv_ar, s_iv_al, s_iv_ro, s_jv_1, s_jv_2, s_jv_kd, s_jv_ln, s_jv_iv, s_jv_jv, s_jv_rv, s_jv_ar, s_jv_al, s_jv_ro, s_rv_1, s_rv_2, s_rv_kd, s_rv_ln, s_rv_iv, s_rv_jv, s_rv_rv, s_rv_ar, s_rv_al, s_rv_ro, s_ar_1, s_ar_2, s_ar_kd, s_ar_ln, s_ar_iv, s_ar_jv, s_ar_rv, s_ar_ar, s_ar_al, s_ar_ro, s_al_1, s_al_2, s_al_kd, s_al_ln, s_al_iv, s_al_jv, s_al_rv, s_al_ar, s_al_al, s_al_ro, s_ro_1, s_ro_2, s_ro_kd, s_ro_ln, s_ro_iv, s_ro_jv, s_ro_rv, s_ro_ar, s_ro_al, s_ro_ro, up2, msI, upd]
                · simp [s_iv_1, s_iv_2, s_iv_kd, s_iv_ln, s_iv_iv, s_iv_jv, s_iv_rv, s_iv_ar, s_iv_al, s_iv_ro, s_jv_1, s_jv_2, s_jv_kd, s_jv_ln, s_jv_iv, s_jv_jv, s_jv_rv, s_jv_ar, s_jv_al, s_jv_ro, s_rv_1, s_rv_2, s_rv_kd, s_rv_ln, s_rv_iv, s_rv_jv, s_rv_rv, s_rv_ar, s_rv_al, s_rv_ro, s_ar_1, s_ar_2, s_ar_kd, s_ar_ln, s_ar_iv, s_ar_jv, s_ar_rv, s_ar_ar, s_ar_al, s_ar_ro, s_al_1, s_al_2, s_al_kd, s_al_ln, s_al_iv, s_al_jv, s_al_rv, s_al_ar, s_al_al, s_al_ro, s_ro_1, s_ro_2, s_ro_kd, s_ro_ln, s_ro_iv, s_ro_jv, s_ro_rv, s_ro_ar, s_ro_al, s_ro_ro, up2, msI, upd]
                · simp [s_iv_1, s_iv_2, s_iv_kd, s_iv_ln, s_iv_iv, s_iv_jv, s_iv_rv, s_iv_ar, s_iv_al, s_iv_ro, s_jv_1, s_jv_2, s_jv_kd, s_jv_ln, s_jv_iv, s_jv_jv, s_jv_rv, s_jv_ar, s_jv_al, s_jv_ro, s_rv_1, s_rv_2, s_rv_kd, s_rv_ln, s_rv_iv, s_rv_jv, s_rv_rv, s_rv_ar, s_rv_al, s_rv_ro, s_ar_1, s_ar_2, s_ar_kd, s_ar_ln, s_ar_iv, s_ar_jv, s_ar_rv, s_ar_ar, s_ar_al, s_ar_ro, s_al_1, s_al_2, s_al_kd, s_al_ln, s_al_iv, s_al_jv, s_al_rv, s_al_ar, s_al_al, s_al_ro, s_ro_1, s_ro_2, s_ro_kd, s_ro_ln, s_ro_iv, s_ro_jv, s_ro_rv, s_ro_ar, s_ro_al, s_ro_ro, up2, msI, upd]
                · simp [s_iv_1, s_iv_2, s_iv_kd, s_iv_ln, s_iv_iv, s_iv_jv, s_iv_rv, s_iv_ar, s_iv_al, s_iv_ro, s_jv_1, s_jv_2, s_jv_kd, s_jv_ln, s_jv_iv, s_jv_jv, s_jv_rv, s_jv_ar, s_jv_al, s_jv_ro, s_rv_1, s_rv_2, s_rv_kd, s_rv_ln, s_rv_iv, s_rv_jv, s_rv_rv, s_rv_ar, s_rv_al, s_rv_ro, s_ar_1, s_ar_2, s_ar_kd, s_ar_ln, s_ar_iv, s_ar_jv, s_ar_rv, s_ar_ar, s_ar_al, s_ar_ro, s_al_1, s_al_2, s_al_kd, s_al_ln, s_al_iv, s_al_jv, s_al_rv, s_al_ar, s_al_al, s_al_ro, s_ro_1, s_ro_2, s_ro_kd, s_ro_ln, s_ro_iv, s_ro_jv, s_ro_rv, s_ro_ar, s_ro_al, s_ro_ro, up2, msI, upd]
              rcases r4 with ⟨r5, r6, _⟩ | ⟨r5, r1, r2, r3, r7, d0, hd0, hl0⟩
              · refine WP_bind.mp (take ?_ ?_)
                · rw [hbody, if_pos (by rw [r6]; decide)]
                · rw [iv4, r5]; exact nI_ge (b := 1000000000) (by omega) (by omega)
              · have hneg : ¬ least < 0 := by rw [hl0]; exact nI_pos (by omega)
                by_cases hc : least ≤ nI ms
                · have hb1 := hbody
                  rw [if_neg hneg, if_pos hc, nI_1] at hb1
                  rw [iter_one hb1] at hq
                  have r5' : c_iv D4 (b + 40) 5 = least := by rw [iv4]; exact r5
                  simp only [tcl_4, tgR_4_0, tpR_4_0, tgI_4_1, tpI_4_1, tgI_4_2, tpI_4_2, tgI_4_3, tpI_4_3, tgI_4_4, tpI_4_4, tgI_4_5, tpI_4_5, lk4, r5', hc, Option.bind_some, WP_some, WP_bind, WP_some, Option.bind_some, Sum.elim_inl, Sum.elim_inr, ↓reduceIte]
                  exact ⟨hlti, nI_1 _, least, N9, ⟨FD4, GN9', on9', Or.inr ⟨r5', by rw [iv4, r1, GN9.i (by decide)], by rw [iv4, r2, GN9.i (by decide)], by rw [iv4, r3, GN9.i (by decide)], by rw [iv4, r7, GN9.i (by decide)], d0, hd0, hl0⟩⟩, hq⟩
                · refine WP_bind.mp (take ?_ ?_)
                  · rw [hbody, if_neg hneg, if_neg hc]
                  · rw [iv4, r5]; exact hc
          · have hii : i = 3 := by omega
            subst hii
            rw [if_pos (show (3 : Int32) < nI (3 + 1) by decide)]
            simp only [WP_bind, WP_some, Option.bind_some, Sum.elim_inl, Sum.elim_inr, ↓reduceIte]
            exact ⟨least, N, R1.mono (fun _ => Or.inr (by omega)), hq⟩
        · rintro D' ⟨least, N, R2, hq2⟩
          simp only [WP_bind, WP_some, Option.bind_some, Sum.elim_inl, Sum.elim_inr, ↓reduceIte]
          exact ⟨hlt, nI_1 _, least, N, R2.mono (fun _ => trivial), hq2⟩
      · have hkk : k = 3 := by omega
        subst hkk
        rw [if_pos (show (3 : Int32) < nI (3 + 1) by decide)]
        simp only [WP_bind, WP_some, Option.bind_some, Sum.elim_inl, Sum.elim_inr, ↓reduceIte]
        exact ⟨least, N, R1.mono (fun _ => Or.inr (by omega)), hq⟩
    · rintro D' ⟨least, N, R2, hq2⟩
      rw [hq2]
      have hend : iter (g_X12_tryTwo_L7 (nI s) (nI l) (nI p) (nI a) (nI d)) 99991 (least, nI 9, N) = some (least, N) := by
        have hb9 : g_X12_tryTwo_L7 (nI s) (nI l) (nI p) (nI a) (nI d) (least, nI 9, N) = some (.inr (least, N)) := by
          unfold g_X12_tryTwo_L7
          dsimp only
          rw [if_pos (show (9 : Int32) ≤ nI 9 by decide)]
        show iter _ (99990 + 1) _ = _
        unfold iter
        rw [hb9]
      rw [hend]
      exact WP.ret R2
  refine WP.mono (WP.it2 (body' := g_X12_two_L39 (nI s) (nI l) (nI p) wx) (Post := fun (D : CH) (q : Int32 × MS) => TwoR b E D M q.2 q.1 (∃ a d, a < d ∧ d < H.1.1 ∧ H.2.2.2.1.testBit a = true ∧ H.2.2.2.1.testBit d = true)) (fun (a : Nat) (y : Int32 × CH) (z : Int32 × Int32 × MS) => y.1 = nI a ∧ z.2.1 = nI a ∧ TwoR b E y.2 M z.2.2 z.1 (∃ a' d, a' < a ∧ a' < d ∧ d < H.1.1 ∧ H.2.2.2.1.testBit a' = true ∧ H.2.2.2.1.testBit d = true)) H.1.1 ?_ 100000 0 _ ((-1), 0, M) ⟨rfl, rfl, R0.mono (fun ⟨a', d, z, _⟩ => absurd z (Nat.not_lt_zero _))⟩ (Nat.zero_le _) (by omega)) ?_
  · rintro a ⟨y, D⟩ ⟨least, z, N⟩ ha ⟨e1, e2, R1⟩
    dsimp only at e1 e2 R1
    subst e1
    subst e2
    obtain ⟨FD, GN, on, r4⟩ := id R1
    have LD := L.fr FD
    obtain ⟨hk, _⟩ := LD.2.1.f
    have v6 : c_iv D (b + 4) 6 = nI H.1.1 := LD.2.2.2.1.1
    have n7' : N.1 7 = nI H.1.1 := by rw [GN.i (by decide)]; exact hm.1.1
    unfold t_X3_findTwo_L9 g_X12_two_L39
    dsimp only
    simp only [tcl_1, tgR_1_0, tpR_1_0, tgR_1_1, tpR_1_1, tgR_1_2, tpR_1_2, tgR_1_3, tpR_1_3, tgR_1_4, tpR_1_4, tgR_1_5, tpR_1_5, tgI_1_6, tpI_1_6, tgI_1_7, tpI_1_7, tgI_1_8, tpI_1_8, hk, v6, Option.bind_some, n7']
    by_cases hlt : a < H.1.1
    · rw [if_neg (nI_ge hlt (by omega)), if_neg (nI_ge hlt (by omega))]
      simp only [WP_bind, WP_some, nI_1]
      refine WP.mono (WP.it2 (body' := g_X12_two_L54 (nI s) (nI l) (nI p) wx (nI a)) (Post := fun (D : CH) (q : Int32 × MS) => TwoR b E D M q.2 q.1 ((∃ a' d, a' < a ∧ a' < d ∧ d < H.1.1 ∧ H.2.2.2.1.testBit a' = true ∧ H.2.2.2.1.testBit d = true) ∨ ∃ d, a < d ∧ d < H.1.1 ∧ H.2.2.2.1.testBit a = true ∧ H.2.2.2.1.testBit d = true)) (fun (i : Nat) (y : Int32 × CH) (z : Int32 × Int32 × MS) => y.1 = nI (a + 1 + i) ∧ z.2.1 = nI (a + 1 + i) ∧ TwoR b E y.2 M z.2.2 z.1 ((∃ a' d, a' < a ∧ a' < d ∧ d < H.1.1 ∧ H.2.2.2.1.testBit a' = true ∧ H.2.2.2.1.testBit d = true) ∨ ∃ d, a < d ∧ d < a + 1 + i ∧ d < H.1.1 ∧ H.2.2.2.1.testBit a = true ∧ H.2.2.2.1.testBit d = true)) (H.1.1 - (a + 1)) ?_ 100000 0 _ (least, nI (a + 1), N) ⟨rfl, rfl, R1.mono (fun z => ?_)⟩ (Nat.zero_le _) (by omega)) ?_
      · rintro i ⟨y, D⟩ ⟨least, z, N⟩ hi ⟨e1, e2, R1⟩
        dsimp only at e1 e2 R1
        subst e1
        subst e2
        obtain ⟨FD, GN, on, r4⟩ := id R1
        have LD := L.fr FD
        obtain ⟨hk, _⟩ := LD.2.1.f
        have v6 : c_iv D (b + 4) 6 = nI H.1.1 := LD.2.2.2.1.1
        have v7 : c_iv D (b + 4) 7 = nI H.2.2.2.1 := LD.2.2.2.2.2.2.2.1
        have lkD : c_kd D (b + 40) = 5 := LD.1.1
        have n7' : N.1 7 = nI H.1.1 := by rw [GN.i (by decide)]; exact hm.1.1
        have n14 : N.1 14 = nI H.2.2.2.1 := by rw [GN.i (by decide)]; exact hm.2.1
        unfold t_X3_findTwo_L24 g_X12_two_L54
        dsimp only
        simp only [tcl_1, tgR_1_0, tpR_1_0, tgR_1_1, tpR_1_1, tgR_1_2, tpR_1_2, tgR_1_3, tpR_1_3, tgR_1_4, tpR_1_4, tgR_1_5, tpR_1_5, tgI_1_6, tpI_1_6, tgI_1_7, tpI_1_7, tgI_1_8, tpI_1_8, hk, v6, v7, Option.bind_some, n7']
        by_cases hlti : a + 1 + i < H.1.1
        · rw [if_neg (nI_ge hlti (by omega)), if_neg (nI_ge hlti (by omega))]
          simp only [tcl_1, tgR_1_0, tpR_1_0, tgR_1_1, tpR_1_1, tgR_1_2, tpR_1_2, tgR_1_3, tpR_1_3, tgR_1_4, tpR_1_4, tgR_1_5, tpR_1_5, tgI_1_6, tpI_1_6, tgI_1_7, tpI_1_7, tgI_1_8, tpI_1_8, hk, v7, Option.bind_some, tisIn_eq D (show H.2.2.2.1 < 2 ^ 31 by omega) (show a < 31 by omega), tisIn_eq D (show H.2.2.2.1 < 2 ^ 31 by omega) (show a + 1 + i < 31 by omega), isOf_eq hok n14 (show a < 31 by omega), isOf_eq hok n14 (show a + 1 + i < 31 by omega)]
          have skip : ¬ (H.2.2.2.1.testBit a = true ∧ H.2.2.2.1.testBit (a + 1 + i) = true) → TwoR b E D M N least ((∃ a' d, a' < a ∧ a' < d ∧ d < H.1.1 ∧ H.2.2.2.1.testBit a' = true ∧ H.2.2.2.1.testBit d = true) ∨ ∃ d, a < d ∧ d < a + 1 + (i + 1) ∧ d < H.1.1 ∧ H.2.2.2.1.testBit a = true ∧ H.2.2.2.1.testBit d = true) := fun h => R1.mono (fun z => by
            rcases z with z | ⟨d, z1, z2, z3, z4, z5⟩
            · exact Or.inl z
            · by_cases hd : d = a + 1 + i
              · exact absurd ⟨z4, by rw [← hd]; exact z5⟩ h
              · exact Or.inr ⟨d, z1, by omega, z3, z4, z5⟩)
          by_cases hb1 : H.2.2.2.1.testBit a = true
          · simp only [hb1, ↓reduceIte, i10]
            by_cases hb2' : H.2.2.2.1.testBit (a + 1 + i) = true
            · simp only [hb2', ↓reduceIte, i10, tcl_4, tgR_4_0, tpR_4_0, tgI_4_1, tpI_4_1, tgI_4_2, tpI_4_2, tgI_4_3, tpI_4_3, tgI_4_4, tpI_4_4, tgI_4_5, tpI_4_5, lkD, Option.bind_some, WP_bind, WP_some]
              refine WP.mono (pair D N least _ a (a + 1 + i) (by omega) hlti R1) ?_
              rintro D' ⟨⟨l9, N9⟩, h9, R9⟩
              rw [h9]
              simp only [WP_bind, WP_some, Option.bind_some, Sum.elim_inl, Sum.elim_inr, ↓reduceIte]
              exact ⟨by omega, nI_1 _, nI_1 _, R9.mono (fun _ => trivial)⟩
            · simp only [hb2', ↓reduceIte, Bool.false_eq_true, WP_bind, WP_some, Option.bind_some, Sum.elim_inl, Sum.elim_inr, ↓reduceIte]
              exact ⟨by omega, nI_1 _, nI_1 _, (skip (fun z => hb2' z.2)).mono (fun z => by simpa [hb1] using z)⟩
          · simp only [hb1, ↓reduceIte, Bool.false_eq_true, WP_bind, WP_some, Option.bind_some, Sum.elim_inl, Sum.elim_inr, ↓reduceIte]
            exact ⟨by omega, nI_1 _, nI_1 _, (skip (fun z => hb1 z.1)).mono (fun z => by simpa [hb1] using z)⟩
        · rw [if_pos (nI_le (by omega) (by omega)), if_pos (nI_le (by omega) (by omega))]
          simp only [WP_bind, WP_some, Option.bind_some, Sum.elim_inl, Sum.elim_inr, ↓reduceIte]
          exact R1.mono (fun z => by
            rcases z with z | ⟨d, z1, z2, z3⟩
            · exact Or.inl z
            · exact Or.inr ⟨d, z1, by omega, z2, z3⟩)
      · rcases z with z | ⟨d, z1, z2, _⟩
        · exact z
        · omega
      · rintro D9 ⟨⟨l9, N9⟩, h9, R9⟩
        rw [h9]
        simp only [WP_bind, WP_some, Option.bind_some, Sum.elim_inl, Sum.elim_inr, ↓reduceIte]
        refine ⟨hlt, trivial, trivial, R9.mono (fun ⟨a', d, z1, z2, z3, z4, z5⟩ => ?_)⟩
        by_cases haa : a' = a
        · subst haa; exact Or.inr ⟨d, z2, z3, z4, z5⟩
        · exact Or.inl ⟨a', d, by omega, z2, z3, z4, z5⟩
    · have haa : a = H.1.1 := by omega
      subst haa
      rw [if_pos (nI_le (by omega) (by omega)), if_pos (nI_le (by omega) (by omega))]
      simp only [WP_bind, WP_some, Option.bind_some, Sum.elim_inl, Sum.elim_inr, ↓reduceIte]
      exact R1.mono (fun ⟨a', d, z1, z2⟩ => ⟨a', d, by omega, z1, z2⟩)
  · rintro D9 ⟨⟨l9, N9⟩, h9, FD, GN, on, r4⟩
    rw [h9]
    have StD : StS (sh D9) b := by rw [FD.2.2.1]; exact StE
    obtain ⟨xk, xr0, xr1, xr2, xr3, xr4, xr6, xr7, xr8, xr9, xr10, xr11⟩ := StD.x
    have lk9 : c_kd D9 (b + 40) = 5 := (L.fr FD).1.1
    have fin : Inv b D9 N9 := I.scr (by rw [FD.1, n1]; omega) (by rw [FD.2.1, n2]) (fun a ha => by
      have z1 := (n7 a (by omega)).s
      have z2 : AgS (sh E) (sh D9) a := AgS.of FD.2.2.1 a
      exact ⟨z2.1.trans z1.1, z2.2.1.trans z1.2.1, z2.2.2.1.trans z1.2.2.1, z2.2.2.2.trans z1.2.2.2⟩) (fun a ha _ _ h3 => (n7 a (by omega)).tr (FD.ag (by omega))) (GN.mono (by decide) (by decide)) on (pl.ag ((n7 _ (by omega)).tr (FD.ag (by omega))) ((n7 _ (by omega)).tr (FD.ag (by omega))))
    rcases r4 with ⟨_, _, r6⟩ | ⟨r5, r1, r2, r3, r7, d0, hd0, hl0⟩
    · exact absurd ⟨pa, pd, pad, hbits pd pbd, pba, pbd⟩ r6
    · dsimp only at r5 r1 r2 r3 r7 hl0 GN on
      have c9 : (0 : Int32) ≤ l9 := by rw [hl0]; exact nI_pos' (by omega)
      simp only [tcl_12, tgR_12_0, tpR_12_0, tgR_12_1, tpR_12_1, tgR_12_2, tpR_12_2, tgR_12_3, tpR_12_3, tgR_12_4, tpR_12_4, tgI_12_5, tpI_12_5, tgR_12_6, tpR_12_6, tgR_12_7, tpR_12_7, tgR_12_8, tpR_12_8, tgR_12_9, tpR_12_9, tgR_12_10, tpR_12_10, tgR_12_11, tpR_12_11, tcl_4, tgR_4_0, tpR_4_0, tgI_4_1, tpI_4_1, tgI_4_2, tpI_4_2, tgI_4_3, tpI_4_3, tgI_4_4, tpI_4_4, tgI_4_5, tpI_4_5, xk, xr0, xr1, xr2, xr3, xr4, xr6, xr7, xr8, xr9, xr10, xr11, lk9, r5, r1, r2, r3, r7, Option.bind_some, WP_some, c9, ↓reduceIte]
      by_cases w0 : wx = 0
      · simp only [w0, ↓reduceIte, WP_some]
        exact ⟨trivial, fin⟩
      · by_cases w1 : wx = 1
        · simp only [w1, ↓reduceIte, i10, WP_some]
          exact ⟨trivial, fin⟩
        · by_cases w2 : wx = 2
          · simp only [w2, ↓reduceIte, WP_some, show ((2 : Int32) = 0) = False from eq_false (by decide), show ((2 : Int32) = 1) = False from eq_false (by decide)]
            exact ⟨trivial, fin⟩
          · by_cases w3 : wx = 3
            · simp only [w3, ↓reduceIte, WP_some, show ((3 : Int32) = 0) = False from eq_false (by decide), show ((3 : Int32) = 1) = False from eq_false (by decide), show ((3 : Int32) = 2) = False from eq_false (by decide)]
              exact ⟨trivial, fin⟩
            · simp only [w0, w1, w2, w3, ↓reduceIte, WP_some]
              exact ⟨trivial, fin⟩
