theorem newWord_wp {C : CH} (n m : Int32) : WP (t_X10_init C.1 n m (tnew C (.inr (11, [.int 0, .int 0])))) (fun D => D.1 = C.1 + 1 ∧ D.2.1 = C.2.1 ∧ c_kd D C.1 = 12 ∧ c_iv D C.1 0 = n ∧ c_iv D C.1 1 = m ∧ ∀ a, a ≠ C.1 → Agr C D a) := by
  have k : c_kd (tnew C (.inr (11, [.int 0, .int 0]))) C.1 = 12 := by simp [tnew, c_kd, va_up, tkd]
  have ag : ∀ a, a ≠ C.1 → Agr C (tnew C (.inr (11, [.int 0, .int 0]))) a := fun a ha => ⟨va_n ha, va_n ha, va_n ha, va_n ha, va_n ha, va_n ha, va_n ha, va_n ha⟩
  have e1 : (tnew C (.inr (11, [.int 0, .int 0]))).1 = C.1 + 1 := rfl
  have e2 : (tnew C (.inr (11, [.int 0, .int 0]))).2.1 = C.2.1 := rfl
  generalize tnew C (.inr (11, [.int 0, .int 0])) = E at k ag e1 e2 ⊢
  unfold t_X10_init
  simp only [WP_bind, WP_some, Option.bind_some, Sum.elim_inl, Sum.elim_inr, ↓reduceIte, tcl_11, tgI_11_0, tpI_11_0, tgI_11_1, tpI_11_1, k, s_iv_1, s_iv_2, s_iv_kd, s_iv_ln, s_iv_iv, s_iv_jv, s_iv_rv, s_iv_ar, s_iv_al, s_iv_ro, s_jv_1, s_jv_2, s_jv_kd, s_jv_ln, s_jv_iv, s_jv_jv, s_jv_rv, s_jv_ar, s_jv_al, s_jv_ro, s_rv_1, s_rv_2, s_rv_kd, s_rv_ln, s_rv_iv, s_rv_jv, s_rv_rv, s_rv_ar, s_rv_al, s_rv_ro, s_ar_1, s_ar_2, s_ar_kd, s_ar_ln, s_ar_iv, s_ar_jv, s_ar_rv, s_ar_ar, s_ar_al, s_ar_ro, s_al_1, s_al_2, s_al_kd, s_al_ln, s_al_iv, s_al_jv, s_al_rv, s_al_ar, s_al_al, s_al_ro, s_ro_1, s_ro_2, s_ro_kd, s_ro_ln, s_ro_iv, s_ro_jv, s_ro_rv, s_ro_ar, s_ro_al, s_ro_ro]
  refine ⟨e1, e2, trivial, ?_, ?_, fun a ha => (ag a ha).tr (((Fr.iv (lo := C.1) (hi := C.1) (k := 0) _ (by omega)).tr (Fr.iv (k := 1) _ (by omega))).ag (by omega))⟩
  · simp [up2]
  · simp [up2]
theorem op_word {b : Nat} {C : CH} {M : MS} (I : Inv b C M) (nx mx : Int32) : OP b (t_X11_word b nx mx C) (g_X12_word nx mx M) := by
  have I0 := I
  obtain ⟨H, S, T, bw, X, R, K, I⟩ := I
  obtain ⟨IB, _, _, _, _, ⟨t1, tm, tok⟩, _⟩ := id I
  obtain ⟨xk, xr0, xr1, xr2, xr3, xr4, xr6, xr7, xr8, xr9, xr10, xr11⟩ := IB.1.x
  have hb := IB.2.1
  have h4 := tok.1
  have kl := IB.1.li.2.2
  unfold t_X11_word g_X12_word
  rw [gin_eq (l := 1) (h := 5) nx 1 5 M rfl rfl, tw_eq]
  by_cases hv : nx < 1 ∨ 5 < nx
  · simp only [hv, ↓reduceIte, Option.bind_some]
    exact op_same I0 _
  obtain ⟨n, hn1, hn2, rfl⟩ := within1_nI (n := 5) rfl hv
  simp only [hv, ↓reduceIte, Option.bind_some, i10]
  rw [gin_eq (l := 0) mx 0 ((1 : Int32) <<< (nI n &&& 31) - 1) M rfl rfl, tw_eq, nI_all (show n ≤ 10 by omega)]
  have hp := pow_le (show n ≤ 10 by omega)
  have hp1 : 1 ≤ 2 ^ n := Nat.one_le_two_pow
  by_cases hv2 : mx < 0 ∨ nI (2 ^ n - 1) < mx
  · simp only [hv2, ↓reduceIte, Option.bind_some]
    exact op_same I0 _
  obtain ⟨m, hm2, rfl⟩ := within_nI (n := 2 ^ n - 1) (nI_toInt (by omega)) hv2
  simp only [hv2, ↓reduceIte, i10, tcl_12, tgR_12_0, tpR_12_0, tgR_12_1, tpR_12_1, tgR_12_2, tpR_12_2, tgR_12_3, tpR_12_3, tgR_12_4, tpR_12_4, tgI_12_5, tpI_12_5, tgR_12_6, tpR_12_6, tgR_12_7, tpR_12_7, tgR_12_8, tpR_12_8, tgR_12_9, tpR_12_9, tgR_12_10, tpR_12_10, tgR_12_11, tpR_12_11, tcl_0, tgI_0_0, tpI_0_0, tgR_0_1, tpR_0_1, tgI_0_2, tpI_0_2, xk, xr0, xr1, xr2, xr3, xr4, xr6, xr7, xr8, xr9, xr10, xr11, kl, sizeL_eq, t1.1.2.1, tm.1, Option.bind_some]
  by_cases hz : X.1 < 12
  · have c3 : nI X.1 < 12 := nI_lt (b := 12) hz (by omega)
    have c4 : ¬ nI X.1 = 12 := fun z => by have := (nI_eq (b := 12) (by omega) (by omega)).mp z; omega
    obtain ⟨_, _, ea, hea, he23, _, _, _, her, _⟩ := id t1.1
    simp only [OP, c3, c4, ↓reduceIte, WP_bind, WP_some, Option.bind_some]
    refine WP.mono (newWord_wp (C := C) (nI n) (nI m)) (fun D ⟨n1, n2, n3, n4, n5, n7⟩ => ?_)
    have kl2 : c_kd D (b + 32) = 1 := (n7 _ (by omega)).1.trans kl
    simp only [WP_bind, WP_some, Option.bind_some, tcl_0, tgI_0_0, tpI_0_0, tgR_0_1, tpR_0_1, tgI_0_2, tpI_0_2, kl2]
    have LD : ListC D b (b + 32) X.1 X.2.1 := t1.1.ag (Or.inr trivial) (by omega) n2 (fun a _ ha _ => n7 a (by omega)) (by omega)
    have heaD : c_rv D (b + 32) 1 = some ea := by rw [(n7 _ (by omega)).2.2.1]; exact hea
    refine WP.mono (add_wp (x := C.1) LD heaD (by omega) (by rw [n3]; decide) (by omega) (fun i hi => ?_) (by omega) (by omega)) ?_
    · obtain ⟨z1, z2, z3⟩ := t1.2 i hi
      rw [(n7 _ (by omega)).1, z1.1]
      exact ⟨by decide, by decide, by omega⟩
    rintro ⟨q, G⟩ ⟨a1, a2, ⟨e', a3, a4, a5⟩, a6, a7, a8, a9⟩
    dsimp only at a1 a2 a3 a4 a5 a6 a7 a8 a9 ⊢
    have agG : ∀ a, a < C.1 → a ≠ b + 32 → a ≠ ea ∨ c_ln C ea = 0 → Agr C G a := fun a ha h1 h2 => (n7 a (by omega)).tr (a8 a (by omega) h1 (by
      rcases h2 with h2 | h2
      · exact Or.inl h2
      · by_cases hac : a = ea
        · exact Or.inr ((n7 ea (by omega)).2.1.trans h2)
        · exact Or.inl hac))
    have IBG : BaseC b G := IB.add (Or.inr (Or.inr rfl)) hea he23 her (by omega) (by rw [a2, n2]) a6 ⟨e', a3, a4, by
      rcases a5 with ⟨a5, a5'⟩ | a5
      · by_cases hec : ea = C.1
        · exact Or.inr (by omega)
        · exact Or.inl ⟨a5, fun z => a5' ((n7 ea hec).2.1.trans z)⟩
      · exact Or.inr (by omega)⟩ (fun a ha h1 h2 => (agG a ha h1 h2).s)
    obtain ⟨xk, xr0, xr1, xr2, xr3, xr4, xr6, xr7, xr8, xr9, xr10, xr11⟩ := IBG.1.x
    simp only [WP_bind, WP_some, Option.bind_some, tcl_12, tgR_12_0, tpR_12_0, tgR_12_1, tpR_12_1, tgR_12_2, tpR_12_2, tgR_12_3, tpR_12_3, tgR_12_4, tpR_12_4, tgI_12_5, tpI_12_5, tgR_12_6, tpR_12_6, tgR_12_7, tpR_12_7, tgR_12_8, tpR_12_8, tgR_12_9, tpR_12_9, tgR_12_10, tpR_12_10, tgR_12_11, tpR_12_11, tcl_0, tgI_0_0, tpI_0_0, tgR_0_1, tpR_0_1, tgI_0_2, tpI_0_2, xk, xr0, xr1, xr2, xr3, xr4, xr6, xr7, xr8, xr9, xr10, xr11, a6, sizeL_eq, a7.2.1]
    have hmt := tm.1
    refine mst_wp rfl (show X.1 < 12 from hz) (by decide) (fun N1 G1 i1 r1 => ?_)
    refine mst_wp (by rw [i1]; exact hmt) (show X.1 < 12 from hz) (by decide) (fun N2 G2 i2 r2 => ?_)
    have i3' : N2.1 30 = nI X.1 := by rw [i2, i1]; exact hmt
    simp only [i3']
    have GM : FM [30] [31, 32] M (msI N2 30 (nI X.1 + 1)) := by
      refine ((G1.mono ?_ ?_).tr (G2.mono ?_ ?_)).tr (FM.I _ ?_) <;> decide
    have z31 : ∀ h, N2.2.2.1 31 h = if h = X.1 then nI n else M.2.2.1 31 h := fun h => by rw [G2.2 31 (by decide)]; exact r1 h
    have z32 : ∀ h, N2.2.2.1 32 h = if h = X.1 then nI m else M.2.2.1 32 h := fun h => by rw [r2 h, G1.2 32 (by decide)]
    refine ⟨by rw [msI_e, nI_1], I.words (X' := (X.1 + 1, updN X.2.1 X.1 C.1, updN X.2.2.1 X.1 n, updN X.2.2.2 X.1 m)) (by show C.1 ≤ G.1; omega) (by show G.2.1 = _; rw [a2, n2]) hea her IBG agG GM ⟨a7, fun i hi => ?_⟩ ⟨?_, fun i hi => ?_⟩ ⟨by show X.1 + 1 ≤ 12; omega, fun i hi => ?_⟩⟩
    · have hi' : i < X.1 + 1 := hi
      show WordV _ (updN X.2.1 X.1 C.1 i) (updN X.2.2.1 X.1 n i) (updN X.2.2.2 X.1 m i) ∧ b + 81 ≤ updN X.2.1 X.1 C.1 i ∧ updN X.2.1 X.1 C.1 i < G.1
      unfold updN
      by_cases e : i = X.1
      · simp only [e, ↓reduceIte]
        have hce : C.1 ≠ ea ∨ c_ln D ea = 0 := by
          by_cases hce : C.1 = ea
          · exfalso
            rw [← hce] at heaD
            obtain ⟨_, _, e9, z1, z2, _⟩ := LD
            rw [heaD] at z1; cases z1
            rw [n3] at z2; exact absurd z2 (by decide)
          · exact Or.inl hce
        exact ⟨WordV.ag ⟨n3, n4, n5⟩ (a8 C.1 (by omega) (by omega) hce), by omega, by omega⟩
      · simp only [e, ↓reduceIte]
        obtain ⟨z1, z2, z3⟩ := t1.2 i (by omega)
        have hne : X.2.1 i ≠ ea := fun y => by rw [← y, z1.1] at he23; exact absurd he23 (by decide)
        exact ⟨z1.ag (agG _ z3 (by omega) (Or.inl hne)), z2, by omega⟩
    · rw [msI_e, nI_1]
    · have hi' : i < X.1 + 1 := hi
      show N2.2.2.1 31 i = _ ∧ N2.2.2.1 32 i = _
      simp only [updN_nI]
      rw [z31, z32]
      by_cases e : i = X.1
      · simp only [e, ↓reduceIte, and_self]
      · simp only [e, ↓reduceIte]; exact tm.2 i (by omega)
    · have hi' : i < X.1 + 1 := hi
      show 1 ≤ updN X.2.2.1 X.1 n i ∧ updN X.2.2.1 X.1 n i ≤ 5 ∧ updN X.2.2.2 X.1 m i < 2 ^ updN X.2.2.1 X.1 n i
      unfold updN
      by_cases e : i = X.1
      · simp only [e, ↓reduceIte]; exact ⟨hn1, hn2, by omega⟩
      · simp only [e, ↓reduceIte]; exact tok.2 i (by omega)
  · have c3 : ¬ nI X.1 < 12 := nI_nlt (b := 12) (by omega) (by omega)
    have c4 : nI X.1 = 12 := by rw [show X.1 = 12 by omega]; rfl
    rw [if_pos c4]
    simp only [c3, ↓reduceIte, Option.bind_some]
    exact op_same I0 _
/-- a row takes what another one has -/
theorem take_wp {C : CH} {v r : Nat} {K : CH → Prop} (V : RowS (sh C) v) (W : RowS (sh C) r) (hvr : v + 1 < r ∨ r + 1 < v) (hK : ∀ D, D.1 = C.1 → D.2.1 = C.2.1 → sh D = sh C → (∀ a, a ≠ v → a ≠ v + 1 → a ≠ r → Agr C D a) → (∀ j, j < 24 → c_ar D (v + 1) j = c_ar C (r + 1) j) → c_iv D v 1 = c_iv C r 1 → c_iv D r 1 = 0 → K D) : WP (t_X6_take v r C) K := by
  obtain ⟨vk, vr, vk0, vl0⟩ := V.f
  obtain ⟨wk, wr, wk0, wl0⟩ := W.f
  unfold t_X6_take
  simp only [WP_bind, WP_some, Option.bind_some, tcl_7, tgR_7_0, tpR_7_0, tgI_7_1, tpI_7_1, vk, vr, wk, wr]
  refine WP.mono (copy_wp wk0 vk0 wl0 vl0 (by omega) (by omega) (by omega)) (fun D ⟨F, iv, e1, e2⟩ => ?_)
  have vkD : c_kd D v = 8 := by rw [sh_kd F.2.2.1]; exact vk
  have wkD : c_kd D r = 8 := by rw [sh_kd F.2.2.1]; exact wk
  simp only [WP_bind, WP_some, Option.bind_some, tcl_7, tgR_7_0, tpR_7_0, tgI_7_1, tpI_7_1, vkD, wkD, s_iv_1, s_iv_2, s_iv_kd, s_iv_ln, s_iv_iv, s_iv_jv, s_iv_rv, s_iv_ar, s_iv_al, s_iv_ro, s_jv_1, s_jv_2, s_jv_kd, s_jv_ln, s_jv_iv, s_jv_jv, s_jv_rv, s_jv_ar, s_jv_al, s_jv_ro, s_rv_1, s_rv_2, s_rv_kd, s_rv_ln, s_rv_iv, s_rv_jv, s_rv_rv, s_rv_ar, s_rv_al, s_rv_ro, s_ar_1, s_ar_2, s_ar_kd, s_ar_ln, s_ar_iv, s_ar_jv, s_ar_rv, s_ar_ar, s_ar_al, s_ar_ro, s_al_1, s_al_2, s_al_kd, s_al_ln, s_al_iv, s_al_jv, s_al_rv, s_al_ar, s_al_al, s_al_ro, s_ro_1, s_ro_2, s_ro_kd, s_ro_ln, s_ro_iv, s_ro_jv, s_ro_rv, s_ro_ar, s_ro_al, s_ro_ro, iv]
  refine hK _ F.1 F.2.1 F.2.2.1 (fun a h1 h2 h3 => (F.ag (by omega)).tr ⟨rfl, rfl, rfl, rfl, ?_, rfl, rfl, rfl⟩) (fun j hj => e1 j hj hj) ?_ ?_
  · simp only [s_iv_1, s_iv_2, s_iv_kd, s_iv_ln, s_iv_iv, s_iv_jv, s_iv_rv, s_iv_ar, s_iv_al, s_iv_ro, s_jv_1, s_jv_2, s_jv_kd, s_jv_ln, s_jv_iv, s_jv_jv, s_jv_rv, s_jv_ar, s_jv_al, s_jv_ro, s_rv_1, s_rv_2, s_rv_kd, s_rv_ln, s_rv_iv, s_rv_jv, s_rv_rv, s_rv_ar, s_rv_al, s_rv_ro, s_ar_1, s_ar_2, s_ar_kd, s_ar_ln, s_ar_iv, s_ar_jv, s_ar_rv, s_ar_ar, s_ar_al, s_ar_ro, s_al_1, s_al_2, s_al_kd, s_al_ln, s_al_iv, s_al_jv, s_al_rv, s_al_ar, s_al_al, s_al_ro, s_ro_1, s_ro_2, s_ro_kd, s_ro_ln, s_ro_iv, s_ro_jv, s_ro_rv, s_ro_ar, s_ro_al, s_ro_ro, iv]
    funext k
    rw [up2_n h3, up2_n h1]
  · simp only [s_iv_1, s_iv_2, s_iv_kd, s_iv_ln, s_iv_iv, s_iv_jv, s_iv_rv, s_iv_ar, s_iv_al, s_iv_ro, s_jv_1, s_jv_2, s_jv_kd, s_jv_ln, s_jv_iv, s_jv_jv, s_jv_rv, s_jv_ar, s_jv_al, s_jv_ro, s_rv_1, s_rv_2, s_rv_kd, s_rv_ln, s_rv_iv, s_rv_jv, s_rv_rv, s_rv_ar, s_rv_al, s_rv_ro, s_ar_1, s_ar_2, s_ar_kd, s_ar_ln, s_ar_iv, s_ar_jv, s_ar_rv, s_ar_ar, s_ar_al, s_ar_ro, s_al_1, s_al_2, s_al_kd, s_al_ln, s_al_iv, s_al_jv, s_al_rv, s_al_ar, s_al_al, s_al_ro, s_ro_1, s_ro_2, s_ro_kd, s_ro_ln, s_ro_iv, s_ro_jv, s_ro_rv, s_ro_ar, s_ro_al, s_ro_ro]
    rw [up2_n (by omega), up2_e]
  · simp only [s_iv_1, s_iv_2, s_iv_kd, s_iv_ln, s_iv_iv, s_iv_jv, s_iv_rv, s_iv_ar, s_iv_al, s_iv_ro, s_jv_1, s_jv_2, s_jv_kd, s_jv_ln, s_jv_iv, s_jv_jv, s_jv_rv, s_jv_ar, s_jv_al, s_jv_ro, s_rv_1, s_rv_2, s_rv_kd, s_rv_ln, s_rv_iv, s_rv_jv, s_rv_rv, s_rv_ar, s_rv_al, s_rv_ro, s_ar_1, s_ar_2, s_ar_kd, s_ar_ln, s_ar_iv, s_ar_jv, s_ar_rv, s_ar_ar, s_ar_al, s_ar_ro, s_al_1, s_al_2, s_al_kd, s_al_ln, s_al_iv, s_al_jv, s_al_rv, s_al_ar, s_al_al, s_al_ro, s_ro_1, s_ro_2, s_ro_kd, s_ro_ln, s_ro_iv, s_ro_jv, s_ro_rv, s_ro_ar, s_ro_al, s_ro_ro]
    rw [up2_e]
theorem newRow_wp {h : CH} : WP (t_X6_init h.1 (tnew h (.inr (7, [.null, .int 0])))) (fun D => D.1 = h.1 + 2 ∧ D.2.1 = h.2.1 ∧ RowS (sh D) h.1 ∧ c_iv D h.1 1 = 0 ∧ ∀ a, a < h.1 → Agr h D a) := by
  unfold t_X6_init
  have k : c_kd (tnew (tnew h (.inr (7, [.null, .int 0]))) (.inl (0, 24, .inl fun _ => 0))) h.1 = 8 := by
    show va_up (va_up (c_kd h) h.1 _) (h.1 + 1) _ h.1 = 8
    rw [va_n (by omega), va_e]; rfl
  simp only [WP_bind, WP_some, Option.bind_some, tcl_7, tgR_7_0, tpR_7_0, tgI_7_1, tpI_7_1, k]
  refine ⟨rfl, rfl, ⟨k, ?_, ?_, ?_⟩, ?_, fun a ha => ?_⟩
  · show up2 _ h.1 0 (some (h.1 + 1)) h.1 0 = _
    exact up2_e _ _ _ _
  · show va_up _ (h.1 + 1) _ (h.1 + 1) = 20
    rw [va_e]; rfl
  · show va_up _ (h.1 + 1) _ (h.1 + 1) = 24
    rw [va_e]; rfl
  · show va_up (va_up (c_iv h) h.1 _) (h.1 + 1) _ h.1 1 = 0
    rw [va_n (by omega), va_e]
  · have e1 : Agr h (tnew h (.inr (7, [.null, .int 0]))) a := ⟨va_n (by omega), va_n (by omega), va_n (by omega), va_n (by omega), va_n (by omega), va_n (by omega), va_n (by omega), va_n (by omega)⟩
    have e2 : Agr (tnew h (.inr (7, [.null, .int 0]))) (tnew (tnew h (.inr (7, [.null, .int 0]))) (.inl (0, 24, .inl fun _ => 0))) a := by
      have h1 : a ≠ (tnew h (.inr (7, [.null, .int 0]))).1 := by show a ≠ h.1 + 1; omega
      exact ⟨va_n h1, va_n h1, va_n h1, va_n h1, va_n h1, va_n h1, va_n h1, va_n h1⟩
    refine (e1.tr e2).tr ⟨rfl, rfl, ?_, rfl, rfl, rfl, rfl, rfl⟩
    simp only [s_iv_1, s_iv_2, s_iv_kd, s_iv_ln, s_iv_iv, s_iv_jv, s_iv_rv, s_iv_ar, s_iv_al, s_iv_ro, s_jv_1, s_jv_2, s_jv_kd, s_jv_ln, s_jv_iv, s_jv_jv, s_jv_rv, s_jv_ar, s_jv_al, s_jv_ro, s_rv_1, s_rv_2, s_rv_kd, s_rv_ln, s_rv_iv, s_rv_jv, s_rv_rv, s_rv_ar, s_rv_al, s_rv_ro, s_ar_1, s_ar_2, s_ar_kd, s_ar_ln, s_ar_iv, s_ar_jv, s_ar_rv, s_ar_ar, s_ar_al, s_ar_ro, s_al_1, s_al_2, s_al_kd, s_al_ln, s_al_iv, s_al_jv, s_al_rv, s_al_ar, s_al_al, s_al_ro, s_ro_1, s_ro_2, s_ro_kd, s_ro_ln, s_ro_iv, s_ro_jv, s_ro_rv, s_ro_ar, s_ro_al, s_ro_ro]
    funext k
    exact up2_n (by omega)
theorem newSong_wp {C : CH} : WP (t_X7_init C.1 (tnew C (.inr (8, [.null, .null])))) (fun D => D.1 = C.1 + 5 ∧ D.2.1 = C.2.1 ∧ SongS (sh D) C.1 ∧ c_iv D (C.1 + 1) 1 = 0 ∧ c_iv D (C.1 + 3) 1 = 0 ∧ ∀ a, a < C.1 → Agr C D a) := by
  have k : c_kd (tnew C (.inr (8, [.null, .null]))) C.1 = 9 := by
    show va_up (c_kd C) C.1 _ C.1 = 9
    rw [va_e]; rfl
  have ag : ∀ a, a ≠ C.1 → Agr C (tnew C (.inr (8, [.null, .null]))) a := fun a ha => ⟨va_n ha, va_n ha, va_n ha, va_n ha, va_n ha, va_n ha, va_n ha, va_n ha⟩
  have e1 : (tnew C (.inr (8, [.null, .null]))).1 = C.1 + 1 := rfl
  have e2 : (tnew C (.inr (8, [.null, .null]))).2.1 = C.2.1 := rfl
  generalize tnew C (.inr (8, [.null, .null])) = E at k ag e1 e2 ⊢
  unfold t_X7_init
  simp only [WP_bind, WP_some, Option.bind_some]
  refine WP.mono newRow_wp (fun A ⟨a1, a2, a3, a4, a5⟩ => ?_)
  have kA : c_kd A C.1 = 9 := (a5 _ (by omega)).1.trans k
  simp only [WP_bind, WP_some, Option.bind_some, tcl_8, tgR_8_0, tpR_8_0, tgR_8_1, tpR_8_1, kA]
  have b1 : (s_rv A (up2 (c_rv A) C.1 0 (some E.1))).1 = C.1 + 3 := by show A.1 = _; omega
  have b2 : (s_rv A (up2 (c_rv A) C.1 0 (some E.1))).2.1 = C.2.1 := by show A.2.1 = _; rw [a2, e2]
  have b3 : RowS (sh (s_rv A (up2 (c_rv A) C.1 0 (some E.1)))) (C.1 + 1) := by
    rw [← e1]
    exact a3.ag (fun a p q => ⟨rfl, rfl, by show up2 _ C.1 0 _ a = _; funext j; exact up2_n (by omega), rfl⟩)
  have b4 : c_iv (s_rv A (up2 (c_rv A) C.1 0 (some E.1))) (C.1 + 1) 1 = 0 := by rw [← e1]; exact a4
  have b5 : ∀ a, a < C.1 → Agr C (s_rv A (up2 (c_rv A) C.1 0 (some E.1))) a := fun a ha => ((ag a (by omega)).tr (a5 a (by omega))).tr ⟨rfl, rfl, by show up2 _ C.1 0 _ a = _; funext j; exact up2_n (by omega), rfl, rfl, rfl, rfl, rfl⟩
  have b6 : c_kd (s_rv A (up2 (c_rv A) C.1 0 (some E.1))) C.1 = 9 := kA
  have b7 : c_rv (s_rv A (up2 (c_rv A) C.1 0 (some E.1))) C.1 0 = some (C.1 + 1) := by
    simp only [s_iv_1, s_iv_2, s_iv_kd, s_iv_ln, s_iv_iv, s_iv_jv, s_iv_rv, s_iv_ar, s_iv_al, s_iv_ro, s_jv_1, s_jv_2, s_jv_kd, s_jv_ln, s_jv_iv, s_jv_jv, s_jv_rv, s_jv_ar, s_jv_al, s_jv_ro, s_rv_1, s_rv_2, s_rv_kd, s_rv_ln, s_rv_iv, s_rv_jv, s_rv_rv, s_rv_ar, s_rv_al, s_rv_ro, s_ar_1, s_ar_2, s_ar_kd, s_ar_ln, s_ar_iv, s_ar_jv, s_ar_rv, s_ar_ar, s_ar_al, s_ar_ro, s_al_1, s_al_2, s_al_kd, s_al_ln, s_al_iv, s_al_jv, s_al_rv, s_al_ar, s_al_al, s_al_ro, s_ro_1, s_ro_2, s_ro_kd, s_ro_ln, s_ro_iv, s_ro_jv, s_ro_rv, s_ro_ar, s_ro_al, s_ro_ro]; rw [up2_e, e1]
  generalize s_rv A (up2 (c_rv A) C.1 0 (some E.1)) = G at b1 b2 b3 b4 b5 b6 b7 ⊢
  refine WP.mono newRow_wp (fun B ⟨d1, d2, d3, d4, d5⟩ => ?_)
  have kB : c_kd B C.1 = 9 := (d5 _ (by omega)).1.trans b6
  simp only [WP_bind, WP_some, Option.bind_some, tcl_8, tgR_8_0, tpR_8_0, tgR_8_1, tpR_8_1, kB]
  rw [b1] at d3 d4
  refine ⟨?_, ?_, ⟨kB, ?_, ?_, ?_, ?_⟩, ?_, d4, fun a ha => ?_⟩
  · show B.1 = _; omega
  · show B.2.1 = _; rw [d2, b2]
  · show up2 (c_rv B) C.1 1 _ C.1 0 = _
    rw [up2_k (by decide), (d5 _ (by omega)).2.2.1]; exact b7
  · show up2 (c_rv B) C.1 1 (some G.1) C.1 1 = _
    rw [up2_e, b1]
  · have h1 : RowS (sh B) (C.1 + 1) := b3.ag (fun a p q => (d5 a (by omega)).s)
    exact h1.ag (fun a p q => ⟨rfl, rfl, by show up2 _ C.1 1 _ a = _; funext j; exact up2_n (by omega), rfl⟩)
  · exact d3.ag (fun a p q => ⟨rfl, rfl, by show up2 _ C.1 1 _ a = _; funext j; exact up2_n (by omega), rfl⟩)
  · show c_iv B (C.1 + 1) 1 = 0
    rw [(d5 _ (by omega)).2.2.2.2.1]; exact b4
  · exact ((b5 a ha).tr (d5 a (by omega))).tr ⟨rfl, rfl, by show up2 _ C.1 1 _ a = _; funext j; exact up2_n (by omega), rfl, rfl, rfl, rfl, rfl⟩
section KEEP3
variable {b : Nat} {H : HX} {S : SX} {T : TX} {bw : Nat} {X : WX} {R : RX} {K : KX} {C C' : CH} {M M' : MS}
theorem InvX.songs (I : InvX b H S T bw X R K C M) (h0 : C.1 ≤ C'.1) (h2 : C'.2.1 = C.2.1) {ea : Nat} (hea : c_rv C (b + 3) 1 = some ea) (hr : ea < b ∨ b + 81 ≤ ea) (IB' : BaseC b C') (ag : ∀ a, a < C.1 → a ≠ b + 1 → a ≠ b + 3 → a ≠ b + 18 → a ≠ ea ∨ c_ln C ea = 0 → Agr C C' a) (F : FM [0, 5] [1, 2, 3] M M') {S' : SX} (r1 : SongsC b S' C') (r2 : SongsM S' M') (r3 : SongsOk S') (hp : c_iv C' (b + 18) 5 = 0) (w1' : c_iv C' (b + 1) 1 = 0) (wm' : M'.1 5 = 0) : Inv b C' M' := by
  obtain ⟨IB, ⟨h1, hm, hok⟩, ⟨s1, sm, sok⟩, ⟨t1, tm, tok⟩, ⟨b1, bm, bok⟩, ⟨x1, xm, xok⟩, ⟨w1, wm, wok⟩, ⟨k1, km, kok⟩, la, pl⟩ := I
  have hb := IB.2.1
  have sp := IB.2.2.2.2.2.2
  have hkea : c_kd C ea = 23 := by
    obtain ⟨_, _, e, z1, z2, _⟩ := s1.1
    rw [hea] at z1; cases z1; exact z2
  refine ⟨H, S', T, bw, X, (0, R.2), K, IB', ⟨h1.ag (fun a p q => ag a (by omega) (by omega) (by omega) (by omega) (by omega)), hm.fr F (by decide) (by decide) (fun j _ => by rw [F.2 13 (by decide)]) hok.1.1, hok⟩, ⟨r1, r2, r3⟩, ⟨t1.ag h0 h2 hb (fun a p q z => ag a q (by omega) (by omega) (by omega) (by
    by_cases hk : c_kd C a = 23
    · exact sp.ne (by omega) (by omega) (by omega) hea (z hk)
    · exact Or.inl (fun y => hk (by rw [y]; exact hkea)))), tm.fr F (by decide) (by decide), tok⟩, ⟨by rw [(ag b (by omega) (by omega) (by omega) (by omega) (by omega)).2.2.2.2.1]; exact b1, by rw [F.i (by decide)]; exact bm, bok⟩, ⟨x1.ag h0 h2 hb (fun a p q z => ag a q (by omega) (by omega) (by omega) (by
    by_cases hk : c_kd C a = 23
    · exact sp.ne (by omega) (by omega) (by omega) hea (z hk)
    · exact Or.inl (fun y => hk (by rw [y]; exact hkea)))), xm.fr F (by decide) (by decide), xok⟩, ⟨⟨w1', fun k hk => absurd hk (Nat.not_lt_zero _)⟩, ⟨wm', fun k hk => absurd hk (Nat.not_lt_zero _)⟩, ⟨Nat.zero_le _, fun k hk => absurd hk (Nat.not_lt_zero _)⟩⟩, ⟨k1.ag (fun a p q => ag a (by omega) (by omega) (by omega) (by omega) (by omega)), km.fr F (by decide) (by decide), kok⟩, la.ag (fun a p q => ag a (by omega) (by omega) (by omega) (by omega) (by omega)) (F.i (by decide)) (F.2 17 (by decide)) (F.2 18 (by decide)), Or.inl hp⟩
theorem InvX.refr (I : InvX b H S T bw X R K C M) {o : Nat} (ho : b + 81 ≤ o) (ho8 : c_kd C (o + 3) = 8) (ho20 : c_kd C (o + 4) = 20) (h0 : C'.1 = C.1) (h2 : C'.2.1 = C.2.1) (hs : sh C' = sh C) (ag : ∀ a, a ≠ b + 1 → a ≠ b + 18 → a ≠ o + 3 → a ≠ o + 4 → Agr C C' a) (F : FM [5] [2, 4] M M') {S' : SX} (r1 : ListC C' b (b + 3) S.1 S.2.1 → SongsC b S' C') (r2 : SongsM S' M') (r3 : SongsOk S') (hp : c_iv C' (b + 18) 5 = 0) (w1' : c_iv C' (b + 1) 1 = 0) (wm' : M'.1 5 = 0) : Inv b C' M' := by
  obtain ⟨IB, ⟨h1, hm, hok⟩, ⟨s1, sm, sok⟩, ⟨t1, tm, tok⟩, ⟨b1, bm, bok⟩, ⟨x1, xm, xok⟩, ⟨w1, wm, wok⟩, ⟨k1, km, kok⟩, la, pl⟩ := I
  have hb := IB.2.1
  have hl : ∀ {l n : Nat} {el : Nat → Nat}, (l = b + 3 ∨ l = b + 17 ∨ l = b + 32) → ListC C b l n el → ListC C' b l n el := by
    intro l n el hl L
    obtain ⟨k1, k2, ea, k3, k4, k5, k6, k7, k8, k9, k10⟩ := L
    obtain ⟨g1, g2, g3, g4, g5, g6, g7, g8⟩ := ag l (by omega) (by omega) (by omega) (by omega)
    have e3 : ea ≠ o + 3 := fun z => by rw [z, ho8] at k4; exact absurd k4 (by decide)
    have e4 : ea ≠ o + 4 := fun z => by rw [z, ho20] at k4; exact absurd k4 (by decide)
    obtain ⟨e1, e2, e3, e4, e5, e6, e7, e8⟩ := ag ea (by omega) (by omega) e3 e4
    exact ⟨by rw [g1]; exact k1, by rw [g5]; exact k2, ea, by rw [g3]; exact k3, by rw [e1]; exact k4, by rw [e2]; exact k5, by rw [e2]; exact k6, by rw [e2, h2]; exact k7, k8, by omega, by rw [e4]; exact k10⟩
  have nk : ∀ a, c_kd C a ≠ 8 → c_kd C a ≠ 20 → a ≠ o + 3 ∧ a ≠ o + 4 := fun a p q => ⟨fun z => p (by rw [z]; exact ho8), fun z => q (by rw [z]; exact ho20)⟩
  refine ⟨H, S', T, bw, X, (0, R.2), K, IB.ag (by omega) h2 (fun a _ => AgS.of hs a), ⟨h1.ag (fun a p q => ag a (by omega) (by omega) (by omega) (by omega)), hm.fr F (by decide) (by decide) (fun j _ => by rw [F.2 13 (by decide)]) hok.1.1, hok⟩, ⟨r1 (hl (by omega) s1.1), r2, r3⟩, ⟨⟨hl (by omega) t1.1, fun i hi => ?_⟩, tm.fr F (by decide) (by decide), tok⟩, ⟨by rw [(ag b (by omega) (by omega) (by omega) (by omega)).2.2.2.2.1]; exact b1, by rw [F.i (by decide)]; exact bm, bok⟩, ⟨⟨hl (by omega) x1.1, fun i hi => ?_⟩, xm.fr F (by decide) (by decide), xok⟩, ⟨⟨w1', fun k hk => absurd hk (Nat.not_lt_zero _)⟩, ⟨wm', fun k hk => absurd hk (Nat.not_lt_zero _)⟩, ⟨Nat.zero_le _, fun k hk => absurd hk (Nat.not_lt_zero _)⟩⟩, ⟨k1.ag (fun a p q => ag a (by omega) (by omega) (by omega) (by omega)), km.fr F (by decide) (by decide), kok⟩, la.ag (fun a p q => ag a (by omega) (by omega) (by omega) (by omega)) (F.i (by decide)) (F.2 17 (by decide)) (F.2 18 (by decide)), Or.inl hp⟩
  · obtain ⟨z1, z2, z3⟩ := t1.2 i hi
    obtain ⟨y1, y2⟩ := nk (T.2.1 i) (by rw [z1.1]; decide) (by rw [z1.1]; decide)
    exact ⟨z1.ag (ag _ (by omega) (by omega) y1 y2), z2, by omega⟩
  · obtain ⟨z1, z2, z3⟩ := x1.2 i hi
    obtain ⟨y1, y2⟩ := nk (X.2.1 i) (by rw [z1.1]; decide) (by rw [z1.1]; decide)
    exact ⟨z1.ag (ag _ (by omega) (by omega) y1 y2), z2, by omega⟩
end KEEP3
theorem ix12 (d i : Nat) : 12 * nI d + nI i = nI (12 * d + i) := by rw [show (12 : Int32) = nI 12 from rfl, nI_mulI, nI_add]
theorem ix24 (d i : Nat) : 24 * nI d + nI i = nI (24 * d + i) := by rw [show (24 : Int32) = nI 24 from rfl, nI_mulI, nI_add]
theorem op_refrain {b : Nat} {C : CH} {M : MS} (I : Inv b C M) (x : Int32) : OP b (t_X11_refrain b x C) (g_X12_refrain x M) := by
  have I0 := I
  obtain ⟨H, S, T, bw, X, R, K, I⟩ := I
  obtain ⟨IB, _, ⟨s1, sm, sok⟩, _, _, _, ⟨w1, wm, wok⟩, _⟩ := id I
  obtain ⟨xk, xr0, xr1, xr2, xr3, xr4, xr6, xr7, xr8, xr9, xr10, xr11⟩ := IB.1.x
  obtain ⟨wk, wr0, wk0, wl0⟩ := IB.1.2.1.f
  have hb := IB.2.1
  have h6 := sok.1
  have h24 := wok.1
  unfold t_X11_refrain g_X12_refrain
  rw [noSong_eq sm]
  by_cases hv : x < 0 ∨ nI S.1 - 1 < x
  · simp only [hv, ↓reduceIte, i10, tcl_12, tgR_12_0, tpR_12_0, tgR_12_1, tpR_12_1, tgR_12_2, tpR_12_2, tgR_12_3, tpR_12_3, tgR_12_4, tpR_12_4, tgI_12_5, tpI_12_5, tgR_12_6, tpR_12_6, tgR_12_7, tpR_12_7, tgR_12_8, tpR_12_8, tgR_12_9, tpR_12_9, tgR_12_10, tpR_12_10, tgR_12_11, tpR_12_11, xk, Option.bind_some, (songOf_eq IB s1 x).1 hv, Option.elim]
    exact op_same I0 _
  obtain ⟨j, hj, rfl⟩ := in_n (by omega) hv
  obtain ⟨q1, q2, q3, q4, q5⟩ := s1.2 j hj
  obtain ⟨gk, gr0, gr1, gk1, gr2, gk2, gl2, gk3, gr4, gk4, gl4⟩ := q1.f
  simp only [hv, ↓reduceIte, i10, tcl_12, tgR_12_0, tpR_12_0, tgR_12_1, tpR_12_1, tgR_12_2, tpR_12_2, tgR_12_3, tpR_12_3, tgR_12_4, tpR_12_4, tgI_12_5, tpI_12_5, tgR_12_6, tpR_12_6, tgR_12_7, tpR_12_7, tgR_12_8, tpR_12_8, tgR_12_9, tpR_12_9, tgR_12_10, tpR_12_10, tgR_12_11, tpR_12_11, tcl_7, tgR_7_0, tpR_7_0, tgI_7_1, tpI_7_1, xk, xr0, xr1, xr2, xr3, xr4, xr6, xr7, xr8, xr9, xr10, xr11, wk, Option.bind_some, (songOf_eq IB s1 (nI j)).2 j hj h6 rfl, Option.elim, w1.1, wm.1]
  by_cases hz : R.1 ≤ 12
  · have c1 : nI R.1 ≤ 12 := nI_le (b := 12) hz (by omega)
    simp only [OP, c1, ↓reduceIte, WP_bind, WP_some, Option.bind_some, tcl_8, tgR_8_0, tpR_8_0, tgR_8_1, tpR_8_1, tcl_7, tgR_7_0, tpR_7_0, tgI_7_1, tpI_7_1, tcl_12, tgR_12_0, tpR_12_0, tgR_12_1, tpR_12_1, tgR_12_2, tpR_12_2, tgR_12_3, tpR_12_3, tgR_12_4, tpR_12_4, tgI_12_5, tpI_12_5, tgR_12_6, tpR_12_6, tgR_12_7, tpR_12_7, tgR_12_8, tpR_12_8, tgR_12_9, tpR_12_9, tgR_12_10, tpR_12_10, tgR_12_11, tpR_12_11, gk, gr0, gr1, gk1, gr2, gk2, gl2, gk3, gr4, gk4, gl4, xk, xr0, xr1, xr2, xr3, xr4, xr6, xr7, xr8, xr9, xr10, xr11]
    refine take_wp q1.2.2.2.2 IB.1.2.1 (by omega) (fun D d1 d2 d3 d4 d5 d6 d7 => ?_)
    have St : StS (sh D) b := by rw [d3]; exact IB.1
    have SD : SongS (sh D) (S.2.1 j) := q1.tr d3
    obtain ⟨xk, xr0, xr1, xr2, xr3, xr4, xr6, xr7, xr8, xr9, xr10, xr11⟩ := St.x
    have tk := St.ts
    obtain ⟨gk, gr0, gr1, gk1, gr2, gk2, gl2, gk3, gr4, gk4, gl4⟩ := SD.f
    simp only [WP_bind, WP_some, Option.bind_some, tcl_12, tgR_12_0, tpR_12_0, tgR_12_1, tpR_12_1, tgR_12_2, tpR_12_2, tgR_12_3, tpR_12_3, tgR_12_4, tpR_12_4, tgI_12_5, tpI_12_5, tgR_12_6, tpR_12_6, tgR_12_7, tpR_12_7, tgR_12_8, tpR_12_8, tgR_12_9, tpR_12_9, tgR_12_10, tpR_12_10, tgR_12_11, tpR_12_11, tcl_10, tgR_10_0, tpR_10_0, tgR_10_1, tpR_10_1, tgR_10_2, tpR_10_2, tgR_10_3, tpR_10_3, tgI_10_4, tpI_10_4, tgI_10_5, tpI_10_5, tgI_10_6, tpI_10_6, tgI_10_7, tpI_10_7, tgI_10_8, tpI_10_8, tcl_8, tgR_8_0, tpR_8_0, tgR_8_1, tpR_8_1, tcl_7, tgR_7_0, tpR_7_0, tgI_7_1, tpI_7_1, xk, xr0, xr1, xr2, xr3, xr4, xr6, xr7, xr8, xr9, xr10, xr11, tk, s_iv_1, s_iv_2, s_iv_kd, s_iv_ln, s_iv_iv, s_iv_jv, s_iv_rv, s_iv_ar, s_iv_al, s_iv_ro, s_jv_1, s_jv_2, s_jv_kd, s_jv_ln, s_jv_iv, s_jv_jv, s_jv_rv, s_jv_ar, s_jv_al, s_jv_ro, s_rv_1, s_rv_2, s_rv_kd, s_rv_ln, s_rv_iv, s_rv_jv, s_rv_rv, s_rv_ar, s_rv_al, s_rv_ro, s_ar_1, s_ar_2, s_ar_kd, s_ar_ln, s_ar_iv, s_ar_jv, s_ar_rv, s_ar_ar, s_ar_al, s_ar_ro, s_al_1, s_al_2, s_al_kd, s_al_ln, s_al_iv, s_al_jv, s_al_rv, s_al_ar, s_al_al, s_al_ro, s_ro_1, s_ro_2, s_ro_kd, s_ro_ln, s_ro_iv, s_ro_jv, s_ro_rv, s_ro_ar, s_ro_al, s_ro_ro, gk, gr0, gr1, gk1, gr2, gk2, gl2, gk3, gr4, gk4, gl4, up2_n (show S.2.1 j + 3 ≠ b + 18 by omega), d6, w1.1]
    have agZ : ∀ a, a ≠ b + 18 → Agr D (s_iv D (up2 (c_iv D) (b + 18) 5 0)) a := fun a ha => (Fr.iv (lo := b + 18) (hi := b + 18) _ (by omega)).ag (by omega)
    -- the reference's loop
    refine WP.mono (WP.it (Post := fun N => FM [] [4] M N ∧ (∀ k, k < R.1 → N.2.2.1 4 (12 * j + k) = nI (R.2 k)) ∧ ∀ i, i < 12 * j ∨ 12 * j + R.1 ≤ i → N.2.2.1 4 i = M.2.2.1 4 i) (fun i s => s.1 = nI i ∧ FM [] [4] M s.2 ∧ (∀ k, k < i → s.2.2.2.1 4 (12 * j + k) = nI (R.2 k)) ∧ ∀ z, z < 12 * j ∨ 12 * j + i ≤ z → s.2.2.2.1 4 z = M.2.2.1 4 z) R.1 ?_ 100000 0 _ ?_ (Nat.zero_le _) (by omega)) ?_
    · rintro i ⟨y0, N⟩ hi ⟨e1, F, e3, e4⟩
      dsimp only at e1 F e3 e4
      subst e1
      unfold g_X12_refrain_L25
      dsimp only
      rw [F.i (by decide), wm.1]
      by_cases hlt : i < R.1
      · rw [if_neg (nI_ge hlt (by omega)), mld_n (k := 6) (show i < 24 by omega) (by decide), ix12]
        simp only [WP_bind, WP_some, Option.bind_some]
        refine mst_wp rfl (show 12 * j + i < 72 by omega) (by decide) (fun N2 G2 i2 r2 => ?_)
        simp only [WP_bind, WP_some, Option.bind_some, Sum.elim_inl, Sum.elim_inr, ↓reduceIte]
        refine ⟨hlt, nI_1 i, F.tr G2, fun k hk => ?_, fun z hz => ?_⟩
        · rw [r2]
          by_cases hki : k = i
          · subst hki
            rw [if_pos rfl, F.2 6 (by decide)]
            exact wm.2 k hlt
          · rw [if_neg (by omega)]; exact e3 k (by omega)
        · rw [r2, if_neg (by omega)]; exact e4 z (by omega)
      · have hii : i = R.1 := by omega
        subst hii
        rw [if_pos (nI_le (by omega) (by omega))]
        simp only [WP_bind, WP_some, Option.bind_some, Sum.elim_inl, Sum.elim_inr, ↓reduceIte]
        exact ⟨F, e3, e4⟩
    · exact ⟨rfl, FM.rf _ _ _, fun k hk => absurd hk (Nat.not_lt_zero _), fun _ _ => rfl⟩
    · rintro N ⟨F, e3, e4⟩
      have n5 : N.1 5 = nI R.1 := by rw [F.i (by decide)]; exact wm.1
      refine mst_wp rfl (show j < 6 by omega) (by decide) (fun N2 G2 i2 r2 => ?_)
      have r2j : (msI N2 5 0).2.2.1 2 j = nI R.1 := by show N2.2.2.1 2 j = _; rw [r2, if_pos rfl, n5]
      rw [mld_n (k := 2) (show j < 6 by omega) (by decide), r2j]
      have FM' : FM [5] [2, 4] M (msI N2 5 0) := by
        refine ((F.mono ?_ ?_).tr (G2.mono ?_ ?_)).tr (FM.I _ ?_) <;> decide
      refine WP.ret ⟨rfl, ?_⟩
      refine I.refr (o := S.2.1 j) (S' := (S.1, S.2.1, S.2.2.1, updN S.2.2.2.1 j R.1, S.2.2.2.2.1, fun s => if s = j then R.2 else S.2.2.2.2.2 s)) q3 (by rw [← sh_kd d3]; exact gk3) (by rw [← sh_kd d3]; exact gk4) d1 d2 d3 (fun a p1 p2 p3 p4 => (d4 a p3 p4 p1).tr (agZ a p2)) FM' (fun L => ⟨L, fun s hs => ?_⟩) ⟨?_, fun s hs => ?_⟩ ⟨h6, fun s hs => ?_⟩ ?_ ?_ (msI_e _ _ _)
      · obtain ⟨y1, y2, y3, y4, y5⟩ := s1.2 s hs
        have hs' : s < S.1 := hs
        refine ⟨y1.tr d3, ?_, y3, by show S.2.1 s + 4 < D.1; omega, y5⟩
        by_cases e : s = j
        · subst e
          show SongV _ (S.2.1 s) (S.2.2.1 s) (updN S.2.2.2.1 s R.1 s) (S.2.2.2.2.1 s) (if s = s then R.2 else S.2.2.2.2.2 s)
          rw [if_pos rfl, show updN S.2.2.2.1 s R.1 s = R.1 by unfold updN; rw [if_pos rfl]]
          obtain ⟨v1, v2, v3, v4, v5, v6, v7⟩ := y2
          refine ⟨?_, ?_, fun k hk => ?_, fun k hk => ?_, v5, v6, hz⟩
          · simp only [s_iv_1, s_iv_2, s_iv_kd, s_iv_ln, s_iv_iv, s_iv_jv, s_iv_rv, s_iv_ar, s_iv_al, s_iv_ro, s_jv_1, s_jv_2, s_jv_kd, s_jv_ln, s_jv_iv, s_jv_jv, s_jv_rv, s_jv_ar, s_jv_al, s_jv_ro, s_rv_1, s_rv_2, s_rv_kd, s_rv_ln, s_rv_iv, s_rv_jv, s_rv_rv, s_rv_ar, s_rv_al, s_rv_ro, s_ar_1, s_ar_2, s_ar_kd, s_ar_ln, s_ar_iv, s_ar_jv, s_ar_rv, s_ar_ar, s_ar_al, s_ar_ro, s_al_1, s_al_2, s_al_kd, s_al_ln, s_al_iv, s_al_jv, s_al_rv, s_al_ar, s_al_al, s_al_ro, s_ro_1, s_ro_2, s_ro_kd, s_ro_ln, s_ro_iv, s_ro_jv, s_ro_rv, s_ro_ar, s_ro_al, s_ro_ro]
            rw [up2_n (by omega), (d4 _ (by omega) (by omega) (by omega)).2.2.2.2.1]; exact v1
          · simp only [s_iv_1, s_iv_2, s_iv_kd, s_iv_ln, s_iv_iv, s_iv_jv, s_iv_rv, s_iv_ar, s_iv_al, s_iv_ro, s_jv_1, s_jv_2, s_jv_kd, s_jv_ln, s_jv_iv, s_jv_jv, s_jv_rv, s_jv_ar, s_jv_al, s_jv_ro, s_rv_1, s_rv_2, s_rv_kd, s_rv_ln, s_rv_iv, s_rv_jv, s_rv_rv, s_rv_ar, s_rv_al, s_rv_ro, s_ar_1, s_ar_2, s_ar_kd, s_ar_ln, s_ar_iv, s_ar_jv, s_ar_rv, s_ar_ar, s_ar_al, s_ar_ro, s_al_1, s_al_2, s_al_kd, s_al_ln, s_al_iv, s_al_jv, s_al_rv, s_al_ar, s_al_al, s_al_ro, s_ro_1, s_ro_2, s_ro_kd, s_ro_ln, s_ro_iv, s_ro_jv, s_ro_rv, s_ro_ar, s_ro_al, s_ro_ro]
            rw [up2_n (by omega), d6]; exact w1.1
          · show c_ar D (S.2.1 s + 2) k = _
            rw [(d4 _ (by omega) (by omega) (by omega)).2.2.2.2.2.1]; exact v3 k hk
          · show c_ar D (S.2.1 s + 3 + 1) k = _
            rw [d5 k (by omega)]; exact w1.2 k hk
        · show SongV _ (S.2.1 s) (S.2.2.1 s) (updN S.2.2.2.1 j R.1 s) (S.2.2.2.2.1 s) (if s = j then R.2 else S.2.2.2.2.2 s)
          rw [if_neg e, show updN S.2.2.2.1 j R.1 s = S.2.2.2.1 s by unfold updN; rw [if_neg e]]
          have hdis : S.2.1 s + 5 ≤ S.2.1 j ∨ S.2.1 j + 5 ≤ S.2.1 s := by
            rcases Nat.lt_or_gt_of_ne e with h | h
            · exact Or.inl (q5 s h)
            · exact Or.inr (y5 j h)
          exact y2.ag (fun a p q => (d4 a (by omega) (by omega) (by omega)).tr (agZ a (by omega)))
      · rw [FM'.i (by decide)]; exact sm.1
      · obtain ⟨v1, v2, v3, v4, v5, v6, v7⟩ := sm.2 s hs
        have hs' : s < S.1 := hs
        show RSongV (msI N2 5 0) s (S.2.2.1 s) (updN S.2.2.2.1 j R.1 s) (S.2.2.2.2.1 s) (if s = j then R.2 else S.2.2.2.2.2 s)
        have g1 : (msI N2 5 0).2.2.1 1 = M.2.2.1 1 := FM'.2 1 (by decide)
        have g3 : (msI N2 5 0).2.2.1 3 = M.2.2.1 3 := FM'.2 3 (by decide)
        have g4 : ∀ i, (msI N2 5 0).2.2.1 4 i = N.2.2.1 4 i := fun i => congrFun (G2.2 4 (by decide)) i
        have g2 : ∀ i, (msI N2 5 0).2.2.1 2 i = if i = j then nI R.1 else M.2.2.1 2 i := fun i => by
          show N2.2.2.1 2 i = _
          rw [r2, n5, F.2 2 (by decide)]
        by_cases e : s = j
        · subst e
          rw [if_pos rfl, show updN S.2.2.2.1 s R.1 s = R.1 by unfold updN; rw [if_pos rfl]]
          refine ⟨by rw [g1]; exact v1, by rw [g2, if_pos rfl], by rw [g3]; exact v3, fun k hk => ?_, v5, v6, hz⟩
          rw [g4]; exact e3 k hk
        · rw [if_neg e, show updN S.2.2.2.1 j R.1 s = S.2.2.2.1 s by unfold updN; rw [if_neg e]]
          refine ⟨by rw [g1]; exact v1, by rw [g2, if_neg e]; exact v2, by rw [g3]; exact v3, fun k hk => ?_, v5, v6, v7⟩
          rw [g4, e4 _ (by omega)]; exact v4 k hk
      · refine ⟨(sok.2 s hs).1, fun k hk => ?_⟩
        have hk' : k < updN S.2.2.2.1 j R.1 s := hk
        show (if s = j then R.2 else S.2.2.2.2.2 s) k ≤ 3
        unfold updN at hk'
        by_cases e : s = j
        · rw [if_pos e] at hk' ⊢; exact wok.2 k hk'
        · rw [if_neg e] at hk' ⊢; exact (sok.2 s hs).2 k hk'
      · simp only [s_iv_1, s_iv_2, s_iv_kd, s_iv_ln, s_iv_iv, s_iv_jv, s_iv_rv, s_iv_ar, s_iv_al, s_iv_ro, s_jv_1, s_jv_2, s_jv_kd, s_jv_ln, s_jv_iv, s_jv_jv, s_jv_rv, s_jv_ar, s_jv_al, s_jv_ro, s_rv_1, s_rv_2, s_rv_kd, s_rv_ln, s_rv_iv, s_rv_jv, s_rv_rv, s_rv_ar, s_rv_al, s_rv_ro, s_ar_1, s_ar_2, s_ar_kd, s_ar_ln, s_ar_iv, s_ar_jv, s_ar_rv, s_ar_ar, s_ar_al, s_ar_ro, s_al_1, s_al_2, s_al_kd, s_al_ln, s_al_iv, s_al_jv, s_al_rv, s_al_ar, s_al_al, s_al_ro, s_ro_1, s_ro_2, s_ro_kd, s_ro_ln, s_ro_iv, s_ro_jv, s_ro_rv, s_ro_ar, s_ro_al, s_ro_ro]; exact up2_e _ _ _ _
      · simp only [s_iv_1, s_iv_2, s_iv_kd, s_iv_ln, s_iv_iv, s_iv_jv, s_iv_rv, s_iv_ar, s_iv_al, s_iv_ro, s_jv_1, s_jv_2, s_jv_kd, s_jv_ln, s_jv_iv, s_jv_jv, s_jv_rv, s_jv_ar, s_jv_al, s_jv_ro, s_rv_1, s_rv_2, s_rv_kd, s_rv_ln, s_rv_iv, s_rv_jv, s_rv_rv, s_rv_ar, s_rv_al, s_rv_ro, s_ar_1, s_ar_2, s_ar_kd, s_ar_ln, s_ar_iv, s_ar_jv, s_ar_rv, s_ar_ar, s_ar_al, s_ar_ro, s_al_1, s_al_2, s_al_kd, s_al_ln, s_al_iv, s_al_jv, s_al_rv, s_al_ar, s_al_al, s_al_ro, s_ro_1, s_ro_2, s_ro_kd, s_ro_ln, s_ro_iv, s_ro_jv, s_ro_rv, s_ro_ar, s_ro_al, s_ro_ro]; rw [up2_n (by omega)]; exact d7
  · have c1 : ¬ nI R.1 ≤ 12 := nI_ge (a := 12) (by omega) (by omega)
    simp only [c1, ↓reduceIte]
    exact op_same I0 _
theorem op_song {b : Nat} {C : CH} {M : MS} (I : Inv b C M) : OP b (t_X11_song b C) (g_X12_song M) := by
  have I0 := I
  obtain ⟨H, S, T, bw, X, R, K, I⟩ := I
  obtain ⟨IB, _, ⟨s1, sm, sok⟩, _, _, _, ⟨w1, wm, wok⟩, _⟩ := id I
  obtain ⟨xk, xr0, xr1, xr2, xr3, xr4, xr6, xr7, xr8, xr9, xr10, xr11⟩ := IB.1.x
  obtain ⟨wk, wr0, wk0, wl0⟩ := IB.1.2.1.f
  have hb := IB.2.1
  have h6 := sok.1
  have h24 := wok.1
  have kl := IB.1.li.1
  unfold t_X11_song g_X12_song
  simp only [tcl_12, tgR_12_0, tpR_12_0, tgR_12_1, tpR_12_1, tgR_12_2, tpR_12_2, tgR_12_3, tpR_12_3, tgR_12_4, tpR_12_4, tgI_12_5, tpI_12_5, tgR_12_6, tpR_12_6, tgR_12_7, tpR_12_7, tgR_12_8, tpR_12_8, tgR_12_9, tpR_12_9, tgR_12_10, tpR_12_10, tgR_12_11, tpR_12_11, tcl_7, tgR_7_0, tpR_7_0, tgI_7_1, tpI_7_1, tcl_0, tgI_0_0, tpI_0_0, tgR_0_1, tpR_0_1, tgI_0_2, tpI_0_2, xk, xr0, xr1, xr2, xr3, xr4, xr6, xr7, xr8, xr9, xr10, xr11, wk, Option.bind_some, w1.1, wm.1, kl, sizeL_eq, s1.1.2.1, sm.1]
  by_cases hr0 : R.1 = 0
  · have c1 : nI R.1 = 0 := by rw [hr0]; rfl
    rw [if_pos c1, if_pos c1]
    exact op_same I0 _
  have c1 : ¬ nI R.1 = 0 := nI_ne0 (by omega) (by omega)
  rw [if_neg c1, if_neg c1]
  by_cases hz : S.1 < 6
  · have c3 : nI S.1 < 6 := nI_lt (b := 6) hz (by omega)
    have c4 : ¬ nI S.1 = 6 := fun z => by have := (nI_eq (b := 6) (by omega) (by omega)).mp z; omega
    obtain ⟨_, _, ea, hea, he23, _, _, _, her, _⟩ := id s1.1
    simp only [OP, c3, c4, ↓reduceIte, WP_bind, WP_some, Option.bind_some]
    refine WP.mono newSong_wp (fun D ⟨n1, n2, n3, n4, n5, n7⟩ => ?_)
    have StD : StS (sh D) b := IB.1.ag (fun a p q _ _ _ => (n7 a (by omega)).s) ((n7 _ (by omega)).1.trans IB.1.li.1) ((n7 _ (by omega)).1.trans IB.1.li.2.1) ((n7 _ (by omega)).1.trans IB.1.li.2.2)
    obtain ⟨xk, xr0, xr1, xr2, xr3, xr4, xr6, xr7, xr8, xr9, xr10, xr11⟩ := StD.x
    obtain ⟨gk, gr0, gr1, gk1, gr2, gk2, gl2, gk3, gr4, gk4, gl4⟩ := n3.f
    simp only [WP_bind, WP_some, Option.bind_some, tcl_12, tgR_12_0, tpR_12_0, tgR_12_1, tpR_12_1, tgR_12_2, tpR_12_2, tgR_12_3, tpR_12_3, tgR_12_4, tpR_12_4, tgI_12_5, tpI_12_5, tgR_12_6, tpR_12_6, tgR_12_7, tpR_12_7, tgR_12_8, tpR_12_8, tgR_12_9, tpR_12_9, tgR_12_10, tpR_12_10, tgR_12_11, tpR_12_11, tcl_8, tgR_8_0, tpR_8_0, tgR_8_1, tpR_8_1, tcl_7, tgR_7_0, tpR_7_0, tgI_7_1, tpI_7_1, xk, xr0, xr1, xr2, xr3, xr4, xr6, xr7, xr8, xr9, xr10, xr11, gk, gr0, gr1, gk1, gr2, gk2, gl2, gk3, gr4, gk4, gl4]
    refine take_wp n3.2.2.2.1 StD.2.1 (by omega) (fun E d1 d2 d3 d4 d5 d6 d7 => ?_)
    have StE : StS (sh E) b := by rw [d3]; exact StD
    have SE : SongS (sh E) C.1 := n3.tr d3
    obtain ⟨xk, xr0, xr1, xr2, xr3, xr4, xr6, xr7, xr8, xr9, xr10, xr11⟩ := StE.x
    have kl2 : c_kd E (b + 3) = 1 := StE.li.1
    simp only [WP_bind, WP_some, Option.bind_some, tcl_12, tgR_12_0, tpR_12_0, tgR_12_1, tpR_12_1, tgR_12_2, tpR_12_2, tgR_12_3, tpR_12_3, tgR_12_4, tpR_12_4, tgI_12_5, tpI_12_5, tgR_12_6, tpR_12_6, tgR_12_7, tpR_12_7, tgR_12_8, tpR_12_8, tgR_12_9, tpR_12_9, tgR_12_10, tpR_12_10, tgR_12_11, tpR_12_11, tcl_0, tgI_0_0, tpI_0_0, tgR_0_1, tpR_0_1, tgI_0_2, tpI_0_2, xk, xr0, xr1, xr2, xr3, xr4, xr6, xr7, xr8, xr9, xr10, xr11, kl2]
    have agE : ∀ a, a < C.1 → a ≠ b + 1 → Agr C E a := fun a ha h1 => (n7 a ha).tr (d4 a (by omega) (by omega) h1)
    have LD : ListC E b (b + 3) S.1 S.2.1 := s1.1.ag (Or.inr trivial) (by omega) (by rw [d2, n2]) (fun a hr ha _ => agE a ha (by omega)) (by omega)
    have heaD : c_rv E (b + 3) 1 = some ea := by rw [(agE _ (by omega) (by omega)).2.2.1]; exact hea
    have hel : ea < C.1 := by
      obtain ⟨_, _, e9, z1, _, _, _, _, _, z9, _⟩ := s1.1
      rw [hea] at z1; cases z1; exact z9
    have kC : c_kd E C.1 = 9 := SE.f.1
    refine WP.mono (add_wp (x := C.1) LD heaD (by omega) (by rw [kC]; decide) (by omega) (fun i hi => ?_) (by omega) (by omega)) ?_
    · obtain ⟨z1, z2, z3, z4, z5⟩ := s1.2 i hi
      have hk9 : c_kd C (S.2.1 i) = 9 := z1.f.1
      rw [(agE _ (by omega) (by omega)).1, hk9]
      exact ⟨by decide, by decide, by omega⟩
    rintro ⟨q, G⟩ ⟨a1, a2, ⟨e', a3, a4, a5⟩, a6, a7, a8, a9⟩
    dsimp only at a1 a2 a3 a4 a5 a6 a7 a8 a9 ⊢
    have lnE : c_ln E ea = c_ln C ea := (agE ea hel (by omega)).2.1
    have agG : ∀ a, a < C.1 → a ≠ b + 1 → a ≠ b + 3 → a ≠ ea ∨ c_ln C ea = 0 → Agr C G a := fun a ha h0 h1 h2 => (agE a ha h0).tr (a8 a (by omega) h1 (by rw [lnE]; exact h2))
    have agS1 : ∀ a, a < C.1 → a ≠ b + 3 → a ≠ ea ∨ c_ln C ea = 0 → AgS (sh C) (sh G) a := by
      intro a ha h1 h2
      have z1 := (n7 a ha).s
      have z2 : AgS (sh D) (sh E) a := AgS.of d3 a
      have z3 := (a8 a (by omega) h1 (by rw [lnE]; exact h2)).s
      exact ⟨z3.1.trans (z2.1.trans z1.1), z3.2.1.trans (z2.2.1.trans z1.2.1), z3.2.2.1.trans (z2.2.2.1.trans z1.2.2.1), z3.2.2.2.trans (z2.2.2.2.trans z1.2.2.2)⟩
    have IBG : BaseC b G := IB.add (Or.inl rfl) hea he23 her (by omega) (by rw [a2, d2, n2]) a6 ⟨e', a3, a4, by
      rcases a5 with ⟨a5, a5'⟩ | a5
      · exact Or.inl ⟨a5, fun z => a5' (by rw [lnE]; exact z)⟩
      · exact Or.inr (by omega)⟩ agS1
    obtain ⟨xk, xr0, xr1, xr2, xr3, xr4, xr6, xr7, xr8, xr9, xr10, xr11⟩ := IBG.1.x
    have tk := IBG.1.ts
    simp only [WP_bind, WP_some, Option.bind_some, tcl_12, tgR_12_0, tpR_12_0, tgR_12_1, tpR_12_1, tgR_12_2, tpR_12_2, tgR_12_3, tpR_12_3, tgR_12_4, tpR_12_4, tgI_12_5, tpI_12_5, tgR_12_6, tpR_12_6, tgR_12_7, tpR_12_7, tgR_12_8, tpR_12_8, tgR_12_9, tpR_12_9, tgR_12_10, tpR_12_10, tgR_12_11, tpR_12_11, tcl_0, tgI_0_0, tpI_0_0, tgR_0_1, tpR_0_1, tgI_0_2, tpI_0_2, tcl_10, tgR_10_0, tpR_10_0, tgR_10_1, tpR_10_1, tgR_10_2, tpR_10_2, tgR_10_3, tpR_10_3, tgI_10_4, tpI_10_4, tgI_10_5, tpI_10_5, tgI_10_6, tpI_10_6, tgI_10_7, tpI_10_7, tgI_10_8, tpI_10_8, xk, xr0, xr1, xr2, xr3, xr4, xr6, xr7, xr8, xr9, xr10, xr11, tk, a6, sizeL_eq, s_iv_1, s_iv_2, s_iv_kd, s_iv_ln, s_iv_iv, s_iv_jv, s_iv_rv, s_iv_ar, s_iv_al, s_iv_ro, s_jv_1, s_jv_2, s_jv_kd, s_jv_ln, s_jv_iv, s_jv_jv, s_jv_rv, s_jv_ar, s_jv_al, s_jv_ro, s_rv_1, s_rv_2, s_rv_kd, s_rv_ln, s_rv_iv, s_rv_jv, s_rv_rv, s_rv_ar, s_rv_al, s_rv_ro, s_ar_1, s_ar_2, s_ar_kd, s_ar_ln, s_ar_iv, s_ar_jv, s_ar_rv, s_ar_ar, s_ar_al, s_ar_ro, s_al_1, s_al_2, s_al_kd, s_al_ln, s_al_iv, s_al_jv, s_al_rv, s_al_ar, s_al_al, s_al_ro, s_ro_1, s_ro_2, s_ro_kd, s_ro_ln, s_ro_iv, s_ro_jv, s_ro_rv, s_ro_ar, s_ro_al, s_ro_ro, up2_n (show b + 3 ≠ b + 18 by omega), a7.2.1]
    have agZ : ∀ a, a ≠ b + 18 → Agr G (s_iv G (up2 (c_iv G) (b + 18) 5 0)) a := fun a ha => (Fr.iv (lo := b + 18) (hi := b + 18) _ (by omega)).ag (by omega)
    -- the new song's cells are not the list's row
    have neC : ∀ a, C.1 ≤ a → a ≠ ea ∨ c_ln E ea = 0 := fun a h => Or.inl (by omega)
    have agN : ∀ a, C.1 ≤ a → a < C.1 + 5 → Agr E (s_iv G (up2 (c_iv G) (b + 18) 5 0)) a := fun a h1 h2 => (a8 a (by omega) (by omega) (neC a h1)).tr (agZ a (by omega))
    refine WP.mono (WP.it (Post := fun N => FM [] [3] M N ∧ (∀ k, k < R.1 → N.2.2.1 3 (24 * S.1 + k) = nI (R.2 k)) ∧ ∀ i, i < 24 * S.1 → N.2.2.1 3 i = M.2.2.1 3 i) (fun i s => s.1 = nI i ∧ FM [] [3] M s.2 ∧ (∀ k, k < i → s.2.2.2.1 3 (24 * S.1 + k) = nI (R.2 k)) ∧ ∀ z, z < 24 * S.1 → s.2.2.2.1 3 z = M.2.2.1 3 z) R.1 ?_ 100000 0 _ ?_ (Nat.zero_le _) (by omega)) ?_
    · rintro i ⟨y0, N⟩ hi ⟨e1, F, e3, e4⟩
      dsimp only at e1 F e3 e4
      subst e1
      unfold g_X12_song_L24
      dsimp only
      rw [F.i (by decide), F.i (by decide), wm.1, sm.1]
      by_cases hlt : i < R.1
      · rw [if_neg (nI_ge hlt (by omega)), mld_n (k := 6) (show i < 24 by omega) (by decide), ix24]
        simp only [WP_bind, WP_some, Option.bind_some]
        refine mst_wp rfl (show 24 * S.1 + i < 144 by omega) (by decide) (fun N2 G2 i2 r2 => ?_)
        simp only [WP_bind, WP_some, Option.bind_some, Sum.elim_inl, Sum.elim_inr, ↓reduceIte]
        refine ⟨hlt, nI_1 i, F.tr G2, fun k hk => ?_, fun z hz => ?_⟩
        · rw [r2]
          by_cases hki : k = i
          · subst hki
            rw [if_pos rfl, F.2 6 (by decide)]
            exact wm.2 k hlt
          · rw [if_neg (by omega)]; exact e3 k (by omega)
        · rw [r2, if_neg (by omega)]; exact e4 z (by omega)
      · have hii : i = R.1 := by omega
        subst hii
        rw [if_pos (nI_le (by omega) (by omega))]
        simp only [WP_bind, WP_some, Option.bind_some, Sum.elim_inl, Sum.elim_inr, ↓reduceIte]
        exact ⟨F, e3, e4⟩
    · exact ⟨rfl, FM.rf _ _ _, fun k hk => absurd hk (Nat.not_lt_zero _), fun _ _ => rfl⟩
    · rintro N ⟨F, e3, e4⟩
      have n5' : N.1 5 = nI R.1 := by rw [F.i (by decide)]; exact wm.1
      have n0' : N.1 0 = nI S.1 := by rw [F.i (by decide)]; exact sm.1
      refine mst_wp n0' (show S.1 < 6 from hz) (by decide) (fun N1 G1 i1 r1 => ?_)
      refine mst_wp (by rw [i1]; exact n0') (show S.1 < 6 from hz) (by decide) (fun N2 G2 i2 r2 => ?_)
      have x0 : (msI N2 5 0).1 0 = nI S.1 := by rw [msI_n (by decide), i2, i1]; exact n0'
      simp only [x0]
      have FM' : FM [0, 5] [1, 2, 3] M (msI (msI N2 5 0) 0 (nI S.1 + 1)) := by
        refine ((F.mono ?_ ?_).tr ((G1.mono ?_ ?_).tr (G2.mono ?_ ?_))).tr ((FM.I _ ?_).tr (FM.I _ ?_)) <;> decide
      refine ⟨by rw [msI_e, nI_1], ?_⟩
      have g1 : ∀ i, (msI (msI N2 5 0) 0 (nI S.1 + 1)).2.2.1 1 i = if i = S.1 then nI R.1 else M.2.2.1 1 i := fun i => by
        show N2.2.2.1 1 i = _
        rw [G2.2 1 (by decide), r1, n5', F.2 1 (by decide)]
      have g2 : ∀ i, (msI (msI N2 5 0) 0 (nI S.1 + 1)).2.2.1 2 i = if i = S.1 then 0 else M.2.2.1 2 i := fun i => by
        show N2.2.2.1 2 i = _
        rw [r2, G1.2 2 (by decide), F.2 2 (by decide)]
      have g3 : ∀ i, (msI (msI N2 5 0) 0 (nI S.1 + 1)).2.2.1 3 i = N.2.2.1 3 i := fun i => by
        show N2.2.2.1 3 i = _
        rw [G2.2 3 (by decide), G1.2 3 (by decide)]
      have g4 : (msI (msI N2 5 0) 0 (nI S.1 + 1)).2.2.1 4 = M.2.2.1 4 := FM'.2 4 (by decide)
      refine I.songs (S' := (S.1 + 1, updN S.2.1 S.1 C.1, updN S.2.2.1 S.1 R.1, updN S.2.2.2.1 S.1 0, fun s => if s = S.1 then R.2 else S.2.2.2.2.1 s, S.2.2.2.2.2)) (by show C.1 ≤ G.1; omega) (by show G.2.1 = _; rw [a2, d2, n2]) hea her (IBG.ag (Nat.le_refl _) rfl (fun a _ => AgS.rf _ _)) (fun a ha p1 p2 p3 p4 => (agG a ha p1 p2 p4).tr (agZ a p3)) FM' ⟨a7.ag (Or.inr trivial) (Nat.le_refl _) rfl (fun a _ _ _ => agZ a (by omega)) (by omega), fun s hs => ?_⟩ ⟨?_, fun s hs => ?_⟩ ⟨by show S.1 + 1 ≤ 6; omega, fun s hs => ?_⟩ ?_ ?_ ?_
      · have hs' : s < S.1 + 1 := hs
        show SongS _ (updN S.2.1 S.1 C.1 s) ∧ SongV _ (updN S.2.1 S.1 C.1 s) (updN S.2.2.1 S.1 R.1 s) (updN S.2.2.2.1 S.1 0 s) (if s = S.1 then R.2 else S.2.2.2.2.1 s) (S.2.2.2.2.2 s) ∧ b + 81 ≤ updN S.2.1 S.1 C.1 s ∧ updN S.2.1 S.1 C.1 s + 4 < G.1 ∧ ∀ s', s' < s → updN S.2.1 S.1 C.1 s' + 5 ≤ updN S.2.1 S.1 C.1 s
        unfold updN
        by_cases e : s = S.1
        · subst e
          simp only [↓reduceIte]
          refine ⟨SE.ag (fun a p q => (agN a p (by omega)).s), ⟨?_, ?_, fun k hk => ?_, fun k hk => absurd hk (Nat.not_lt_zero _), by omega, h24, Nat.zero_le _⟩, by omega, by omega, fun s' hs2 => ?_⟩
          · rw [(agN (C.1 + 1) (by omega) (by omega)).2.2.2.2.1, d6, (n7 _ (by omega)).2.2.2.2.1]; exact w1.1
          · rw [(agN (C.1 + 3) (by omega) (by omega)).2.2.2.2.1, (d4 _ (by omega) (by omega) (by omega)).2.2.2.2.1]; exact n5
          · rw [(agN (C.1 + 2) (by omega) (by omega)).2.2.2.2.2.1]
            have h9 := d5 k (by omega)
            rw [show C.1 + 2 = C.1 + 1 + 1 by omega, h9, (n7 _ (by omega)).2.2.2.2.2.1]
            exact w1.2 k hk
          · rw [if_neg (by omega)]
            have := (s1.2 s' hs2).2.2.2.1
            omega
        · simp only [e, ↓reduceIte]
          obtain ⟨y1, y2, y3, y4, y5⟩ := s1.2 s (by omega)
          have nk : ∀ a, S.2.1 s ≤ a → a ≤ S.2.1 s + 4 → a ≠ ea := by
            intro a p q z
            obtain ⟨gk, gr0, gr1, gk1, gr2, gk2, gl2, gk3, gr4, gk4, gl4⟩ := y1.f
            have : a = S.2.1 s ∨ a = S.2.1 s + 1 ∨ a = S.2.1 s + 2 ∨ a = S.2.1 s + 3 ∨ a = S.2.1 s + 4 := by omega
            rw [← z] at he23
            rcases this with rfl | rfl | rfl | rfl | rfl
            · rw [gk] at he23; exact absurd he23 (by decide)
            · rw [gk1] at he23; exact absurd he23 (by decide)
            · rw [gk2] at he23; exact absurd he23 (by decide)
            · rw [gk3] at he23; exact absurd he23 (by decide)
            · rw [gk4] at he23; exact absurd he23 (by decide)
          have ag5 : ∀ a, S.2.1 s ≤ a → a ≤ S.2.1 s + 4 → Agr C (s_iv G (up2 (c_iv G) (b + 18) 5 0)) a := fun a p q => (agG a (by omega) (by omega) (by omega) (Or.inl (nk a p q))).tr (agZ a (by omega))
          refine ⟨y1.ag (fun a p q => (ag5 a p q).s), y2.ag ag5, y3, by omega, fun s' hs2 => ?_⟩
          rw [if_neg (by omega)]
          exact y5 s' hs2
      · rw [msI_e, nI_1]
      · have hs' : s < S.1 + 1 := hs
        show RSongV _ s (updN S.2.2.1 S.1 R.1 s) (updN S.2.2.2.1 S.1 0 s) (if s = S.1 then R.2 else S.2.2.2.2.1 s) (S.2.2.2.2.2 s)
        unfold updN
        by_cases e : s = S.1
        · subst e
          simp only [↓reduceIte]
          refine ⟨by rw [g1, if_pos rfl], by rw [g2, if_pos rfl]; rfl, fun k hk => by rw [g3]; exact e3 k hk, fun k hk => absurd hk (Nat.not_lt_zero _), by omega, h24, Nat.zero_le _⟩
        · simp only [e, ↓reduceIte]
          obtain ⟨v1, v2, v3, v4, v5, v6, v7⟩ := sm.2 s (by omega)
          refine ⟨by rw [g1, if_neg e]; exact v1, by rw [g2, if_neg e]; exact v2, fun k hk => ?_, fun k hk => ?_, v5, v6, v7⟩
          · rw [g3, e4 _ (by omega)]; exact v3 k hk
          · rw [g4]; exact v4 k hk
      · have hs' : s < S.1 + 1 := hs
        show (∀ k, k < updN S.2.2.1 S.1 R.1 s → (if s = S.1 then R.2 else S.2.2.2.2.1 s) k ≤ 3) ∧ ∀ k, k < updN S.2.2.2.1 S.1 0 s → S.2.2.2.2.2 s k ≤ 3
        unfold updN
        by_cases e : s = S.1
        · simp only [e, ↓reduceIte]
          exact ⟨wok.2, fun k hk => absurd hk (Nat.not_lt_zero _)⟩
        · simp only [e, ↓reduceIte]
          exact sok.2 s (by omega)
      · simp only [s_iv_1, s_iv_2, s_iv_kd, s_iv_ln, s_iv_iv, s_iv_jv, s_iv_rv, s_iv_ar, s_iv_al, s_iv_ro, s_jv_1, s_jv_2, s_jv_kd, s_jv_ln, s_jv_iv, s_jv_jv, s_jv_rv, s_jv_ar, s_jv_al, s_jv_ro, s_rv_1, s_rv_2, s_rv_kd, s_rv_ln, s_rv_iv, s_rv_jv, s_rv_rv, s_rv_ar, s_rv_al, s_rv_ro, s_ar_1, s_ar_2, s_ar_kd, s_ar_ln, s_ar_iv, s_ar_jv, s_ar_rv, s_ar_ar, s_ar_al, s_ar_ro, s_al_1, s_al_2, s_al_kd, s_al_ln, s_al_iv, s_al_jv, s_al_rv, s_al_ar, s_al_al, s_al_ro, s_ro_1, s_ro_2, s_ro_kd, s_ro_ln, s_ro_iv, s_ro_jv, s_ro_rv, s_ro_ar, s_ro_al, s_ro_ro]; exact up2_e _ _ _ _
      · simp only [s_iv_1, s_iv_2, s_iv_kd, s_iv_ln, s_iv_iv, s_iv_jv, s_iv_rv, s_iv_ar, s_iv_al, s_iv_ro, s_jv_1, s_jv_2, s_jv_kd, s_jv_ln, s_jv_iv, s_jv_jv, s_jv_rv, s_jv_ar, s_jv_al, s_jv_ro, s_rv_1, s_rv_2, s_rv_kd, s_rv_ln, s_rv_iv, s_rv_jv, s_rv_rv, s_rv_ar, s_rv_al, s_rv_ro, s_ar_1, s_ar_2, s_ar_kd, s_ar_ln, s_ar_iv, s_ar_jv, s_ar_rv, s_ar_ar, s_ar_al, s_ar_ro, s_al_1, s_al_2, s_al_kd, s_al_ln, s_al_iv, s_al_jv, s_al_rv, s_al_ar, s_al_al, s_al_ro, s_ro_1, s_ro_2, s_ro_kd, s_ro_ln, s_ro_iv, s_ro_jv, s_ro_rv, s_ro_ar, s_ro_al, s_ro_ro]
        rw [up2_n (by omega), (a8 (b + 1) (by omega) (by omega) (by omega)).2.2.2.2.1]; exact d7
      · rw [msI_n (by decide), msI_e]
  · have c3 : ¬ nI S.1 < 6 := nI_nlt (b := 6) (by omega) (by omega)
    have c4 : nI S.1 = 6 := by rw [show S.1 = 6 by omega]; rfl
    rw [if_pos c4]
    simp only [c3, ↓reduceIte, Option.bind_some]
    exact op_same I0 _
