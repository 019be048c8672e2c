theorem get_eq {C : CH} {b o n j : Nat} {el : Nat → Nat} (L : ListC C b o n el) (hj : j < n) : t_Jx4a65c_get_915e3 o (nI j) C = some (el j, C) := by
  obtain ⟨k1, k2, ea, k3, k4, k5, k6, k7, k8, k9, k10⟩ := L
  unfold t_Jx4a65c_get_915e3 t_J15_checkIndex_7cf53 t_J3_checkIndex_8e157 t_Jx4a65c_elementData_915e3
  have c1 : ¬ nI j < 0 := nI_pos (by omega)
  have c2 : nI j < nI n := nI_lt hj (by omega)
  have c3 : j < c_ln C ea := by omega
  have c4 : c_ln C ea < 2147483648 := by omega
  simp only [tcl_0, tgI_0_0, tpI_0_0, tgR_0_1, tpR_0_1, tgI_0_2, tpI_0_2, k1, k2, Option.bind_some, c1, c2, ↓reduceIte, k3, Nat.reduceLT, tld_n, tst_n, tldB_n, tstB_n, tldR3_n, tldR4_n, tldJ_n, tstJ_n, tlen_I, tlen_R, k4, c3, c4, k10 j hj]
theorem songOf_eq {b : Nat} {S : SX} {C : CH} (IB : BaseC b C) (s1 : SongsC b S C) (x : Int32) : (x < 0 ∨ nI S.1 - 1 < x → t_X11_songOf b x C = some (none, C)) ∧ ∀ j, j < S.1 → S.1 ≤ 6 → x = nI j → t_X11_songOf b x C = some (some (S.2.1 j), C) := by
  obtain ⟨xk, xr0, xr1, xr2, xr3, xr4, xr6, xr7, xr8, xr9, xr10, xr11⟩ := IB.1.x
  have k3 := IB.1.li.1
  refine ⟨fun hv => ?_, fun j hj h6 e => ?_⟩
  · unfold t_X11_songOf
    simp only [tcl_12, tgR_12_0, tpR_12_0, tgR_12_1, tpR_12_1, tgR_12_2, tpR_12_2, tgR_12_3, tpR_12_3, tgR_12_4, tpR_12_4, tgI_12_5, tpI_12_5, tgR_12_6, tpR_12_6, tgR_12_7, tpR_12_7, tgR_12_8, tpR_12_8, tgR_12_9, tpR_12_9, tgR_12_10, tpR_12_10, tgR_12_11, tpR_12_11, tcl_0, tgI_0_0, tpI_0_0, tgR_0_1, tpR_0_1, tgI_0_2, tpI_0_2, xk, xr0, xr1, xr2, xr3, xr4, xr6, xr7, xr8, xr9, xr10, xr11, k3, sizeL_eq, Option.bind_some, tw_eq, s1.1.2.1, hv, ↓reduceIte]
  · subst e
    have hv := in_nI (show S.1 ≤ 1000 by omega) hj
    obtain ⟨gk, _⟩ := (s1.2 j hj).1.f
    unfold t_X11_songOf
    simp only [tcl_12, tgR_12_0, tpR_12_0, tgR_12_1, tpR_12_1, tgR_12_2, tpR_12_2, tgR_12_3, tpR_12_3, tgR_12_4, tpR_12_4, tgI_12_5, tpI_12_5, tgR_12_6, tpR_12_6, tgR_12_7, tpR_12_7, tgR_12_8, tpR_12_8, tgR_12_9, tpR_12_9, tgR_12_10, tpR_12_10, tgR_12_11, tpR_12_11, tcl_0, tgI_0_0, tpI_0_0, tgR_0_1, tpR_0_1, tgI_0_2, tpI_0_2, tcl_8, tgR_8_0, tpR_8_0, tgR_8_1, tpR_8_1, xk, xr0, xr1, xr2, xr3, xr4, xr6, xr7, xr8, xr9, xr10, xr11, k3, sizeL_eq, Option.bind_some, tw_eq, s1.1.2.1, hv, ↓reduceIte, i10, get_eq s1.1 hj, gk]
theorem noSong_eq {S : SX} {M : MS} (sm : SongsM S M) (x : Int32) : g_X12_noSong x M = some (if x < 0 ∨ nI S.1 - 1 < x then 1 else 0, M) := by
  unfold g_X12_noSong
  rw [gin_eq (l := 0) x 0 (M.1 0 - 1) M rfl rfl, sm.1]
  by_cases h : x < 0 ∨ nI S.1 - 1 < x
  · rw [if_pos h, if_pos h]; rfl
  · rw [if_neg h, if_neg h]; rfl
theorem op_beatAt {b : Nat} {C : CH} {M : MS} (I : Inv b C M) (x y : Int32) : OP b (t_X11_beatAt b x y C) (g_X12_beatAt x y M) := by
  have I0 := I
  obtain ⟨H, S, T, bw, X, R, K, I⟩ := I
  obtain ⟨IB, _, ⟨s1, sm, sok⟩, _⟩ := id I
  obtain ⟨xk, xr0, xr1, xr2, xr3, xr4, xr6, xr7, xr8, xr9, xr10, xr11⟩ := IB.1.x
  have h6 := sok.1
  unfold t_X11_beatAt g_X12_beatAt
  rw [noSong_eq sm]
  by_cases hv : x < 0 ∨ nI S.1 - 1 < x
  · simp only [hv, ↓reduceIte, i10, tcl_12, tgR_12_0, tpR_12_0, tgR_12_1, tpR_12_1, tgR_12_2, tpR_12_2, tgR_12_3, tpR_12_3, tgR_12_4, tpR_12_4, tgI_12_5, tpI_12_5, tgR_12_6, tpR_12_6, tgR_12_7, tpR_12_7, tgR_12_8, tpR_12_8, tgR_12_9, tpR_12_9, tgR_12_10, tpR_12_10, tgR_12_11, tpR_12_11, xk, Option.bind_some, (songOf_eq IB s1 x).1 hv, Option.elim]
    exact op_same I0 _
  · obtain ⟨j, hj, rfl⟩ := in_n (by omega) hv
    obtain ⟨q1, q2, _⟩ := s1.2 j hj
    obtain ⟨gk, _⟩ := q1.f
    simp only [hv, ↓reduceIte, i10, tcl_12, tgR_12_0, tpR_12_0, tgR_12_1, tpR_12_1, tgR_12_2, tpR_12_2, tgR_12_3, tpR_12_3, tgR_12_4, tpR_12_4, tgI_12_5, tpI_12_5, tgR_12_6, tpR_12_6, tgR_12_7, tpR_12_7, tgR_12_8, tpR_12_8, tgR_12_9, tpR_12_9, tgR_12_10, tpR_12_10, tgR_12_11, tpR_12_11, xk, Option.bind_some, (songOf_eq IB s1 (nI j)).2 j hj h6 rfl, Option.elim]
    rw [gin_eq (l := 0) (h := 1000) y 0 1000 M rfl rfl, tw_eq]
    by_cases hv2 : y < 0 ∨ 1000 < y
    · simp only [hv2, ↓reduceIte, Option.bind_some]
      exact op_same I0 _
    · obtain ⟨i, hi, rfl⟩ := within_nI (n := 1000) rfl hv2
      simp only [hv2, ↓reduceIte, i10, Option.bind_some, tcl_8, tgR_8_0, tpR_8_0, tgR_8_1, tpR_8_1, gk, sungAt_eq q1 q2 (show i < 2 ^ 31 by omega), beatOf_eq (sm.2 j hj) (show j < 6 by omega) (show i < 2 ^ 31 by omega)]
      exact op_same I0 _
theorem sBt_le {S : SX} (h : SongsOk S) {s : Nat} (hs : s < S.1) (hv : 1 ≤ S.2.2.1 s) (t : Nat) : sBt (S.2.2.1 s) (S.2.2.2.1 s) (S.2.2.2.2.1 s) (S.2.2.2.2.2 s) t ≤ 3 := by
  unfold sBt
  have hm : t % (S.2.2.1 s + S.2.2.2.1 s) < S.2.2.1 s + S.2.2.2.1 s := Nat.mod_lt _ (by omega)
  split
  · next h1 => exact (h.2 s hs).1 _ h1
  · exact (h.2 s hs).2 _ (by omega)
/-- a new task, for one haul or for the list -/
theorem newTask_wp {C : CH} (g l s : Int32) : WP (t_X8_init C.1 g l s (tnew C (.inr (9, [.int 0, .int 0, .int 0])))) (fun D => D.1 = C.1 + 1 ∧ D.2.1 = C.2.1 ∧ c_kd D C.1 = 10 ∧ c_iv D C.1 0 = g ∧ c_iv D C.1 1 = l ∧ c_iv D C.1 2 = s ∧ ∀ a, a ≠ C.1 → Agr C D a) := by
  have k : c_kd (tnew C (.inr (9, [.int 0, .int 0, .int 0]))) C.1 = 10 := by simp [tnew, c_kd, va_up, tkd]
  have ag : ∀ a, a ≠ C.1 → Agr C (tnew C (.inr (9, [.int 0, .int 0, .int 0]))) a := fun a ha => ⟨va_n ha, va_n ha, va_n ha, va_n ha, va_n ha, va_n ha, va_n ha, va_n ha⟩
  have e1 : (tnew C (.inr (9, [.int 0, .int 0, .int 0]))).1 = C.1 + 1 := rfl
  have e2 : (tnew C (.inr (9, [.int 0, .int 0, .int 0]))).2.1 = C.2.1 := rfl
  generalize tnew C (.inr (9, [.int 0, .int 0, .int 0])) = E at k ag e1 e2 ⊢
  unfold t_X8_init
  simp only [WP_bind, WP_some, Option.bind_some, Sum.elim_inl, Sum.elim_inr, ↓reduceIte, tcl_9, tgI_9_0, tpI_9_0, tgI_9_1, tpI_9_1, tgI_9_2, tpI_9_2, k, s_iv_1, s_iv_2, s_iv_kd, s_iv_ln, s_iv_iv, s_iv_jv, s_iv_rv, s_iv_ar, s_iv_al, s_iv_ro, s_jv_1, s_jv_2, s_jv_kd, s_jv_ln, s_jv_iv, s_jv_jv, s_jv_rv, s_jv_ar, s_jv_al, s_jv_ro, s_rv_1, s_rv_2, s_rv_kd, s_rv_ln, s_rv_iv, s_rv_jv, s_rv_rv, s_rv_ar, s_rv_al, s_rv_ro, s_ar_1, s_ar_2, s_ar_kd, s_ar_ln, s_ar_iv, s_ar_jv, s_ar_rv, s_ar_ar, s_ar_al, s_ar_ro, s_al_1, s_al_2, s_al_kd, s_al_ln, s_al_iv, s_al_jv, s_al_rv, s_al_ar, s_al_al, s_al_ro, s_ro_1, s_ro_2, s_ro_kd, s_ro_ln, s_ro_iv, s_ro_jv, s_ro_rv, s_ro_ar, s_ro_al, s_ro_ro]
  refine ⟨e1, e2, trivial, ?_, ?_, ?_, fun a ha => (ag a ha).tr (((Fr.iv (lo := C.1) (hi := C.1) (k := 0) _ (by omega)).tr ((Fr.iv (k := 1) _ (by omega)).tr (Fr.iv (k := 2) _ (by omega)))).ag (by omega))⟩
  · simp [up2]
  · simp [up2]
  · simp [up2]
theorem isWeight_eq (x y : Int32) (C : CH) : t_X11_isWeight x y C = some (if (x < 0 ∨ 1000 < x) ∨ (y < 0 ∨ 50 < y) then 0 else 1, C) := by
  unfold t_X11_isWeight
  simp only [tw_eq, Option.bind_some]
  by_cases h1 : x < 0 ∨ 1000 < x
  · simp only [h1, ↓reduceIte, true_or]
  · by_cases h2 : y < 0 ∨ 50 < y
    · simp only [h1, h2, ↓reduceIte, i10, or_true]
    · simp only [h1, h2, ↓reduceIte, i10, or_self]
theorem isTask_eq (w x y : Int32) (C : CH) : t_X11_isTask w x y C = some (if (w < 1 ∨ 3000 < w) ∨ (x < 0 ∨ 1000 < x) ∨ (y < 0 ∨ 50 < y) then 0 else 1, C) := by
  unfold t_X11_isTask
  simp only [tw_eq, Option.bind_some, isWeight_eq]
  by_cases h1 : w < 1 ∨ 3000 < w
  · simp only [h1, ↓reduceIte, true_or]
  · by_cases h2 : (x < 0 ∨ 1000 < x) ∨ (y < 0 ∨ 50 < y)
    · simp only [h1, h2, ↓reduceIte, i10, or_true]
    · simp only [h1, h2, ↓reduceIte, i10, or_self]
theorem gisTask_eq (w x y : Int32) (M : MS) : g_X12_isTask w x y M = some (if (w < 1 ∨ 3000 < w) ∨ (x < 0 ∨ 1000 < x) ∨ (y < 0 ∨ 50 < y) then 0 else 1, M) := by
  unfold g_X12_isTask
  rw [gin_eq (l := 1) (h := 3000) w 1 3000 M rfl rfl]
  by_cases h1 : w < 1 ∨ 3000 < w
  · simp only [h1, ↓reduceIte, true_or, Option.bind_some]
  · simp only [h1, ↓reduceIte, Option.bind_some, i10]
    rw [gin_eq (l := 0) (h := 1000) x 0 1000 M rfl rfl]
    by_cases h2 : x < 0 ∨ 1000 < x
    · simp only [h2, ↓reduceIte, true_or, or_true, Option.bind_some]
    · simp only [h2, ↓reduceIte, Option.bind_some, i10]
      rw [gin_eq (l := 0) (h := 50) y 0 50 M rfl rfl]
      by_cases h3 : y < 0 ∨ 50 < y
      · simp only [h3, ↓reduceIte, or_true, Option.bind_some]
      · simp only [h3, ↓reduceIte, Option.bind_some, i10, or_self]
theorem within1_nI {x hi : Int32} {n : Nat} (hM : hi.toInt = n) (h : ¬ (x < 1 ∨ hi < x)) : ∃ j : Nat, 1 ≤ j ∧ j ≤ n ∧ x = nI j := by
  have h1 : ¬ x < 1 := fun z => h (Or.inl z)
  rw [Int32.lt_iff_toInt_lt] at h1
  have e1 : (1 : Int32).toInt = 1 := rfl
  obtain ⟨j, h2, h3⟩ := within_nI (n := n) hM (x := x) (by
    rintro (z | z)
    · rw [Int32.lt_iff_toInt_lt] at z
      have e0 : (0 : Int32).toInt = 0 := rfl
      omega
    · exact h (Or.inr z))
  refine ⟨j, ?_, h2, h3⟩
  by_cases hj : j = 0
  · subst hj
    subst h3
    have : (nI 0).toInt = 0 := rfl
    omega
  · omega
theorem wOk {H : HX} {S : SX} (hok : HandsOk H) (sok : SongsOk S) {s l p : Nat} (hs : s < S.1) (hv : 1 ≤ S.2.2.1 s) (hl : l ≤ 1000) (hp : p ≤ 50) : HWok H.1 (H.2.2.2.1, H.2.1, sBt (S.2.2.1 s) (S.2.2.2.1 s) (S.2.2.2.2.1 s) (S.2.2.2.2.2 s), l, p) := ⟨hok.2.1, fun h _ => hok.2.2.2.1 h, fun t => sBt_le sok hs hv t, hl, hp⟩
theorem Agr.of {C C' : CH} {lo hi : Nat} (F : Fr lo hi C C') (a : Nat) (h : a < lo ∨ hi < a) : Agr C C' a := F.ag h
theorem InvX.haul {b : Nat} {H : HX} {S : SX} {T : TX} {bw : Nat} {X : WX} {R : RX} {K : KX} {C C' : CH} {M M' : MS} (I : InvX b H S T bw X R K C M) (h0 : C.1 ≤ C'.1) (h2 : C'.2.1 = C.2.1) (hs : ∀ a, a < C.1 → AgS (sh C) (sh C') a) (ag : ∀ a, a < C.1 → a < b + 4 ∨ b + 16 < a → a ≠ b + 18 → Agr C C' a) (F : FM [16, 20, 21] [13, 17, 18, 19] M M') {H' : HX} (r1 : HandsC b H' C') (r2 : HandsM H' M') (r3 : HandsOk H') (hp : c_iv C' (b + 18) 5 = 0) (la : LastR b C' M') : Inv b C' M' := by
  obtain ⟨IB, ⟨h1, hm, hok⟩, ⟨s1, sm, sok⟩, ⟨t1, tm, tok⟩, ⟨b1, bm, bok⟩, ⟨x1, xm, xok⟩, ⟨w1, wm, wok⟩, ⟨k1, km, kok⟩, _, pl⟩ := I
  have hb := IB.2.1
  refine ⟨H', S, T, bw, X, R, K, IB.ag h0 h2 hs, ⟨r1, r2, r3⟩, ⟨s1.ag h0 h2 hb (fun a p q _ => ag a q (by omega) (by omega)), sm.fr F (by decide) (by decide), sok⟩, ⟨t1.ag h0 h2 hb (fun a p q _ => ag a q (by omega) (by omega)), tm.fr F (by decide) (by decide), tok⟩, ⟨by rw [(ag b (by omega) (by omega) (by omega)).2.2.2.2.1]; exact b1, by rw [F.i (by decide)]; exact bm, bok⟩, ⟨x1.ag h0 h2 hb (fun a p q _ => ag a q (by omega) (by omega)), xm.fr F (by decide) (by decide), xok⟩, ⟨w1.ag (ag _ (by omega) (by omega) (by omega)) (ag _ (by omega) (by omega) (by omega)), wm.fr F (by decide) (by decide), wok⟩, ⟨k1.ag (fun a p q => ag a (by omega) (by omega) (by omega)), km.fr F (by decide) (by decide), kok⟩, la, Or.inl hp⟩
theorem op_haul {b : Nat} {C : CH} {M : MS} (I : Inv b C M) (x gx lx px : Int32) : OP b (t_X11_haul b x gx lx px C) (g_X12_haul x gx lx px M) := by
  have I0 := I
  obtain ⟨H, S, T, bw, X, R, K, I⟩ := I
  obtain ⟨IB, ⟨h1, hm, hok⟩, ⟨s1, sm, sok⟩, _⟩ := id I
  obtain ⟨xk, xr0, xr1, xr2, xr3, xr4, xr6, xr7, xr8, xr9, xr10, xr11⟩ := IB.1.x
  have hb := IB.2.1
  have h6 := sok.1
  have hn := hok.1.1
  unfold t_X11_haul g_X12_haul
  rw [noSong_eq sm]
  by_cases hv : x < 0 ∨ nI S.1 - 1 < x
  · simp only [hv, ↓reduceIte, i10, tcl_12, tgR_12_0, tpR_12_0, tgR_12_1, tpR_12_1, tgR_12_2, tpR_12_2, tgR_12_3, tpR_12_3, tgR_12_4, tpR_12_4, tgI_12_5, tpI_12_5, tgR_12_6, tpR_12_6, tgR_12_7, tpR_12_7, tgR_12_8, tpR_12_8, tgR_12_9, tpR_12_9, tgR_12_10, tpR_12_10, tgR_12_11, tpR_12_11, xk, Option.bind_some, (songOf_eq IB s1 x).1 hv, Option.elim]
    exact op_same I0 _
  · obtain ⟨j, hj, rfl⟩ := in_n (by omega) hv
    simp only [hv, ↓reduceIte, i10, tcl_12, tgR_12_0, tpR_12_0, tgR_12_1, tpR_12_1, tgR_12_2, tpR_12_2, tgR_12_3, tpR_12_3, tgR_12_4, tpR_12_4, tgI_12_5, tpI_12_5, tgR_12_6, tpR_12_6, tgR_12_7, tpR_12_7, tgR_12_8, tpR_12_8, tgR_12_9, tpR_12_9, tgR_12_10, tpR_12_10, tgR_12_11, tpR_12_11, xk, Option.bind_some, (songOf_eq IB s1 (nI j)).2 j hj h6 rfl, Option.elim, isTask_eq, gisTask_eq]
    by_cases hv2 : (gx < 1 ∨ 3000 < gx) ∨ (lx < 0 ∨ 1000 < lx) ∨ (px < 0 ∨ 50 < px)
    · simp only [hv2, ↓reduceIte]
      exact op_same I0 _
    · obtain ⟨g, hg1, hg2, rfl⟩ := within1_nI (n := 3000) rfl (fun z => hv2 (Or.inl z))
      obtain ⟨l, hl, rfl⟩ := within_nI (n := 1000) rfl (fun z => hv2 (Or.inr (Or.inl z)))
      obtain ⟨p, hp, rfl⟩ := within_nI (n := 50) rfl (fun z => hv2 (Or.inr (Or.inr z)))
      simp only [hv2, ↓reduceIte, i10]
      obtain ⟨q1, q2, q3, q4, q5⟩ := s1.2 j hj
      have hWk := wOk hok sok hj q2.2.2.2.2.1 hl hp
      obtain ⟨ok, _⟩ := IB.1.2.2.2.1.f
      simp only [OP, WP_bind, WP_some, Option.bind_some, tcl_12, tgR_12_0, tpR_12_0, tgR_12_1, tpR_12_1, tgR_12_2, tpR_12_2, tgR_12_3, tpR_12_3, tgR_12_4, tpR_12_4, tgI_12_5, tpI_12_5, tgR_12_6, tpR_12_6, tgR_12_7, tpR_12_7, tgR_12_8, tpR_12_8, tgR_12_9, tpR_12_9, tgR_12_10, tpR_12_10, tgR_12_11, tpR_12_11, tcl_2, tgR_2_0, tpR_2_0, tgR_2_1, tpR_2_1, tgR_2_2, tpR_2_2, tgR_2_3, tpR_2_3, tgR_2_4, tpR_2_4, tgI_2_5, tpI_2_5, tgI_2_6, tpI_2_6, tgI_2_7, tpI_2_7, xk, xr0, xr1, xr2, xr3, xr4, xr6, xr7, xr8, xr9, xr10, xr11, ok]
      -- the rows are laid out for it
      refine WP.mono (beginAsTold_wp IB.1.2.2.2.1 IB.1.2.2.1 (by omega)) (fun D ⟨F, e1, e2, e3, e4, e5⟩ => ?_)
      have StD : StS (sh D) b := by rw [F.2.2.1]; exact IB.1
      obtain ⟨xk, xr0, xr1, xr2, xr3, xr4, xr6, xr7, xr8, xr9, xr10, xr11⟩ := StD.x
      simp only [WP_bind, WP_some, Option.bind_some, tcl_12, tgR_12_0, tpR_12_0, tgR_12_1, tpR_12_1, tgR_12_2, tpR_12_2, tgR_12_3, tpR_12_3, tgR_12_4, tpR_12_4, tgI_12_5, tpI_12_5, tgR_12_6, tpR_12_6, tgR_12_7, tpR_12_7, tgR_12_8, tpR_12_8, tgR_12_9, tpR_12_9, tgR_12_10, tpR_12_10, tgR_12_11, tpR_12_11, xk, xr0, xr1, xr2, xr3, xr4, xr6, xr7, xr8, xr9, xr10, xr11]
      -- the task is made
      refine WP.mono (newTask_wp (C := D) (nI g) (nI l) (nI p)) (fun E ⟨n1, n2, n3, n4, n5, n6, n7⟩ => ?_)
      have hD : D.1 = C.1 := F.1
      have StE : StS (sh E) b := StD.ag (fun a p q _ _ _ => (n7 a (by omega)).s) ((n7 _ (by omega)).1.trans StD.li.1) ((n7 _ (by omega)).1.trans StD.li.2.1) ((n7 _ (by omega)).1.trans StD.li.2.2)
      obtain ⟨ok, _⟩ := StE.2.2.2.1.f
      simp only [WP_bind, WP_some, Option.bind_some, tcl_2, tgR_2_0, tpR_2_0, tgR_2_1, tpR_2_1, tgR_2_2, tpR_2_2, tgR_2_3, tpR_2_3, tgR_2_4, tpR_2_4, tgI_2_5, tpI_2_5, tgI_2_6, tpI_2_6, tgI_2_7, tpI_2_7, ok]
      have agE : ∀ a, a < C.1 → a < b + 11 ∨ b + 13 < a → Agr C E a := fun a ha hr => (F.ag (by omega)).tr (n7 a (by omega))
      have a12 := n7 (b + 11 + 1) (by omega)
      have a13 := n7 (b + 11 + 2) (by omega)
      have a11 := n7 (b + 11) (by omega)
      have VE : HandV E (b + 4) H.1 := h1.1.ag (fun a p q => agE a (by omega) (by omega))
      have SE : SongS (sh E) (S.2.1 j) := q1.ag (fun a p q => (agE a (by omega) (by omega)).s)
      have SVE := q2.ag (C' := E) (fun a p q => agE a (by omega) (by omega))
      have TE : TaskV E D.1 g l p := ⟨n3, n4, n5, n6⟩
      have hcE : c_iv E (b + 11) 5 = nI H.2.2.2.1 := by rw [a11.2.2.2.2.1, e3]; exact h1.2.1
      have hfE : c_iv E (b + 11) 6 = nI H.2.2.2.2 := by rw [a11.2.2.2.2.1, e4]; exact h1.2.2.1
      have hnE : ∀ h, h < H.1.1 → c_ar E (b + 11 + 1) h = nI (H.2.2.1 h) := fun h hh => by rw [a12.2.2.2.2.2.1, e1 h (by omega)]; exact h1.2.2.2.2 h hh
      have hlE : ∀ h, h < H.1.1 → c_ar E (b + 11 + 2) h = nI (H.2.1 h) := fun h hh => by rw [a13.2.2.2.2.2.1, e2 h (by omega)]; exact h1.2.2.2.1 h (by omega)
      refine WP.mono (go_wp (W := (H.2.2.2.1, H.2.1, sBt (S.2.2.1 j) (S.2.2.2.1 j) (S.2.2.2.2.1 j) (S.2.2.2.2.2 j), l, p)) (mo := 300) StE.2.2.1 StE.2.2.2.1 SE VE SVE TE rfl hok.1 hWk (by omega) (by omega) (by omega) hcE hfE hok.2.2.1 (by omega) hnE hlE hok.2.2.2.2.2 (Nat.le_refl _) (fun t ht => ⟨fun z => absurd z (nI_ge (b := 300) ht (by omega)), fun z => by omega⟩)) ?_
      rintro ⟨dn, G⟩ ⟨z1, GV⟩
      dsimp only at z1 GV ⊢
      have FG : Fr (b + 11) (b + 16) E G := GV.1
      have StG : StS (sh G) b := by rw [FG.2.2.1]; exact StE
      obtain ⟨xk, xr0, xr1, xr2, xr3, xr4, xr6, xr7, xr8, xr9, xr10, xr11⟩ := StG.x
      obtain ⟨hk, hr0, hk0, hl0, hr1, hk1, hl1, hr2, hk2, hl2, hr3, hk3, hl3, hr4, hk4, hl4, hr5, hk5, hl5⟩ := StG.2.2.1.f
      obtain ⟨ok, or0, ok0, ol0, or1, ok1, ol1, or2, ok2, ol2, or3, ok3, ol3, or4, ok4, ol4⟩ := StG.2.2.2.1.f
      simp only [WP_bind, WP_some, Option.bind_some, tcl_12, tgR_12_0, tpR_12_0, tgR_12_1, tpR_12_1, tgR_12_2, tpR_12_2, tgR_12_3, tpR_12_3, tgR_12_4, tpR_12_4, tgI_12_5, tpI_12_5, tgR_12_6, tpR_12_6, tgR_12_7, tpR_12_7, tgR_12_8, tpR_12_8, tgR_12_9, tpR_12_9, tgR_12_10, tpR_12_10, tgR_12_11, tpR_12_11, tcl_1, tgR_1_0, tpR_1_0, tgR_1_1, tpR_1_1, tgR_1_2, tpR_1_2, tgR_1_3, tpR_1_3, tgR_1_4, tpR_1_4, tgR_1_5, tpR_1_5, tgI_1_6, tpI_1_6, tgI_1_7, tpI_1_7, tgI_1_8, tpI_1_8, tcl_2, tgR_2_0, tpR_2_0, tgR_2_1, tpR_2_1, tgR_2_2, tpR_2_2, tgR_2_3, tpR_2_3, tgR_2_4, tpR_2_4, tgI_2_5, tpI_2_5, tgI_2_6, tpI_2_6, tgI_2_7, tpI_2_7, xk, xr0, xr1, xr2, xr3, xr4, xr6, xr7, xr8, xr9, xr10, xr11, hk, hr0, hk0, hl0, hr1, hk1, hl1, hr2, hk2, hl2, hr3, hk3, hl3, hr4, hk4, hl4, hr5, hk5, hl5, ok, or0, ok0, ol0, or1, ok1, ol1, or2, ok2, ol2, or3, ok3, ol3, or4, ok4, ol4]
      refine WP.mono (copy_wp ok0 hk5 ol0 hl5 (by omega) (by omega) (by omega)) (fun Q ⟨FQ, ivQ, c1, c2⟩ => ?_)
      have StQ : StS (sh Q) b := by rw [FQ.2.2.1]; exact StG
      obtain ⟨xk, xr0, xr1, xr2, xr3, xr4, xr6, xr7, xr8, xr9, xr10, xr11⟩ := StQ.x
      obtain ⟨ok, _⟩ := StQ.2.2.2.1.f
      have tk := StQ.ts
      have e75 : ∀ a k, a ≠ b + 18 → c_iv (s_iv Q (up2 (c_iv Q) (b + 18) 5 0)) a k = c_iv G a k := fun a k ha => by rw [iv_upd, if_neg (fun z => ha z.1), ivQ]
      have e70 : c_iv (s_iv Q (up2 (c_iv Q) (b + 18) 5 0)) (b + 18) 5 = 0 := by rw [iv_upd, if_pos ⟨rfl, rfl⟩]
      have shQ : sh (s_iv Q (up2 (c_iv Q) (b + 18) 5 0)) = sh Q := rfl
      have arQ : c_ar (s_iv Q (up2 (c_iv Q) (b + 18) 5 0)) = c_ar Q := rfl
      have agQ : ∀ a, a ≠ b + 18 → Agr Q (s_iv Q (up2 (c_iv Q) (b + 18) 5 0)) a := fun a ha => (Fr.iv (lo := b + 18) (hi := b + 18) _ (by omega)).ag (by omega)
      have oneQ : (s_iv Q (up2 (c_iv Q) (b + 18) 5 0)).1 = Q.1 := rfl
      have twoQ : (s_iv Q (up2 (c_iv Q) (b + 18) 5 0)).2.1 = Q.2.1 := rfl
      have k11 : c_kd (s_iv Q (up2 (c_iv Q) (b + 18) 5 0)) (b + 11) = 3 := ok
      have kb : c_kd (s_iv Q (up2 (c_iv Q) (b + 18) 5 0)) b = 13 := xk
      have rb : c_rv (s_iv Q (up2 (c_iv Q) (b + 18) 5 0)) b 3 = some (b + 11) := xr3
      simp only [WP_bind, WP_some, Option.bind_some, tcl_12, tgR_12_0, tpR_12_0, tgR_12_1, tpR_12_1, tgR_12_2, tpR_12_2, tgR_12_3, tpR_12_3, tgR_12_4, tpR_12_4, tgI_12_5, tpI_12_5, tgR_12_6, tpR_12_6, tgR_12_7, tpR_12_7, tgR_12_8, tpR_12_8, tgR_12_9, tpR_12_9, tgR_12_10, tpR_12_10, tgR_12_11, tpR_12_11, tcl_10, tgR_10_0, tpR_10_0, tgR_10_1, tpR_10_1, tgR_10_2, tpR_10_2, tgR_10_3, tpR_10_3, tgI_10_4, tpI_10_4, tgI_10_5, tpI_10_5, tgI_10_6, tpI_10_6, tgI_10_7, tpI_10_7, tgI_10_8, tpI_10_8, xk, xr0, xr1, xr2, xr3, xr4, xr6, xr7, xr8, xr9, xr10, xr11, tk]
      generalize s_iv Q (up2 (c_iv Q) (b + 18) 5 0) = Z at e75 e70 shQ arQ agQ oneQ twoQ k11 kb rb ⊢
      -- the reference's side
      have wk := work_wp (nt := 1) (d := 0) (now0 := H.2.2.1) (goal := g) (W := (H.2.2.2.1, H.2.1, sBt (S.2.2.1 j) (S.2.2.2.1 j) (S.2.2.2.2.1 j) (S.2.2.2.2.2 j), l, p)) hm.1 (sm.2 j hj) rfl hok.1 hWk (by omega) (by omega) (fun h hh => by rw [Nat.mul_zero, Nat.zero_add]; exact hm.2.2.2.2 h hh) hok.2.2.2.2.2 hm.2.2.2.1 hm.2.2.1 hok.2.2.1 (by omega)
      have hz2 := hRun_le (P := H.1) (W := (H.2.2.2.1, H.2.1, sBt (S.2.2.1 j) (S.2.2.2.1 j) (S.2.2.2.2.1 j) (S.2.2.2.2.2 j), l, p)) (fl := H.2.2.2.2) (goal := g) (now := H.2.2.1) 300 0
      generalize hW' : ((H.2.2.2.1, H.2.1, sBt (S.2.2.1 j) (S.2.2.2.1 j) (S.2.2.2.2.1 j) (S.2.2.2.2.2 j), l, p) : HW) = W at GV z1 wk hz2 hWk
      have hW1 : W.1 = H.2.2.2.1 := by rw [← hW']
      have hW4 : W.2.2.2.1 = l := by rw [← hW']
      have hW5 : W.2.2.2.2 = p := by rw [← hW']
      rw [hW1, hW4, hW5] at wk
      rw [hm.2.1]
      have fin : ∀ N : MS, FM [16, 20, 21] [13, 17, 18, 19] M N → Dft N 0 H.1 (hSt H.1 W H.2.2.1 (hRun H.1 W H.2.2.2.2 g H.2.2.1 300 0).2).1 → (N.1 16 = nI (hRun H.1 W H.2.2.2.2 g H.2.2.1 300 0).2 ∧ ∀ t, t < (hRun H.1 W H.2.2.2.2 g H.2.2.1 300 0).2 → N.2.2.1 17 t = nI (hSt H.1 W H.2.2.1 (t + 1)).2 ∧ N.2.2.1 18 t = nI (hForce H.1 W (hSt H.1 W H.2.2.1 t).1 t)) → Inv b Z N := by
        intro N FN DN LN
        obtain ⟨_, g5, g6, g2, g7, gn, gn2, gw⟩ := GV
        have agZ : ∀ a, a < C.1 → a < b + 4 ∨ b + 16 < a → a ≠ b + 18 → Agr C Z a := fun a ha h1 h2 => ((agE a ha (by omega)).tr (FG.ag (by omega))).tr ((FQ.ag (by omega)).tr (agQ a h2))
        have agH : ∀ a, b + 4 ≤ a → a < b + 10 → Agr C Z a := fun a h1 h2 => ((agE a (by omega) (by omega)).tr (FG.ag (by omega))).tr ((FQ.ag (by omega)).tr (agQ a (by omega)))
        have h10 := agE (b + 10) (by omega) (by omega)
        refine I.haul (H' := (H.1, H.2.1, (hSt H.1 W H.2.2.1 (hRun H.1 W H.2.2.2.2 g H.2.2.1 300 0).2).1, H.2.2.2.1, H.2.2.2.2)) (by rw [oneQ, FQ.1, FG.1, n1, hD]; omega) (by rw [twoQ, FQ.2.1, FG.2.1, n2, F.2.1]) (fun a ha => ?_) agZ FN ⟨⟨?_, fun h hh => ?_⟩, ?_, ?_, fun h hh => ?_, fun h hh => ?_⟩ ⟨hm.1.fr FN (by decide), by rw [FN.i (by decide)]; exact hm.2.1, by rw [FN.i (by decide)]; exact hm.2.2.1, by rw [FN.2 12 (by decide)]; exact hm.2.2.2.1, fun h hh => ?_⟩ ⟨hok.1, hok.2.1, hok.2.2.1, hok.2.2.2.1, hok.2.2.2.2.1, hSt_ok hok.2.2.2.2.2 _⟩ e70 ⟨(hRun H.1 W H.2.2.2.2 g H.2.2.1 300 0).2, by omega, ?_, LN.1, fun t ht => ?_⟩
        · rw [shQ, FQ.2.2.1, FG.2.2.1]
          have h3 : AgS (sh C) (sh D) a := AgS.of F.2.2.1 a
          have h4 := (n7 a (by omega)).s
          exact ⟨h4.1.trans h3.1, h4.2.1.trans h3.2.1, h4.2.2.1.trans h3.2.2.1, h4.2.2.2.trans h3.2.2.2⟩
        · rw [(agH (b + 4) (by omega) (by omega)).2.2.2.2.1]; exact h1.1.1
        · rw [(agH (b + 4 + 1) (by omega) (by omega)).2.2.2.2.2.1, (agH (b + 4 + 2) (by omega) (by omega)).2.2.2.2.2.1, (agH (b + 4 + 3) (by omega) (by omega)).2.2.2.2.2.1, (agH (b + 4 + 4) (by omega) (by omega)).2.2.2.2.2.1]
          exact h1.1.2 h hh
        · rw [(agH (b + 4) (by omega) (by omega)).2.2.2.2.1]; exact h1.2.1
        · rw [(agH (b + 4) (by omega) (by omega)).2.2.2.2.1]; exact h1.2.2.1
        · rw [(agH (b + 9) (by omega) (by omega)).2.2.2.2.2.1]; exact h1.2.2.2.1 h hh
        · have hh' : h < H.1.1 := hh
          rw [arQ]
          exact (c1 h (by omega) (by omega)).trans (gn h hh')
        · have := DN h hh
          rw [Nat.mul_zero, Nat.zero_add] at this
          exact this
        · rw [e75 _ _ (by omega)]; exact g7
        · rw [arQ, (FQ.2.2.2 (b + 14) (by omega)).1, (FQ.2.2.2 (b + 15) (by omega)).1, (LN.2 t ht).1, (LN.2 t ht).2]
          exact gw t ht
      have g7 : c_iv G (b + 11) 7 = nI (hRun H.1 W H.2.2.2.2 g H.2.2.1 300 0).2 := GV.2.2.2.2.1
      by_cases hdone : (hRun H.1 W H.2.2.2.2 g H.2.2.1 300 0).1 = 2
      · rw [if_pos hdone] at z1
        simp only [z1, i10, ↓reduceIte, WP_bind, WP_some, Option.bind_some, tcl_12, tgR_12_0, tpR_12_0, tgR_12_1, tpR_12_1, tgR_12_2, tpR_12_2, tgR_12_3, tpR_12_3, tgR_12_4, tpR_12_4, tgI_12_5, tpI_12_5, tgR_12_6, tpR_12_6, tgR_12_7, tpR_12_7, tgR_12_8, tpR_12_8, tgR_12_9, tpR_12_9, tgR_12_10, tpR_12_10, tgR_12_11, tpR_12_11, tcl_2, tgR_2_0, tpR_2_0, tgR_2_1, tpR_2_1, tgR_2_2, tpR_2_2, tgR_2_3, tpR_2_3, tgR_2_4, tpR_2_4, tgI_2_5, tpI_2_5, tgI_2_6, tpI_2_6, tgI_2_7, tpI_2_7, kb, rb, k11, e75 (b + 11) 7 (by omega), g7]
        refine WP.mono wk ?_
        rintro ⟨y, N⟩ ⟨w1, w2, w3, w4, w5, w6⟩
        dsimp only at w1 w2 w3 w4 w5 w6 ⊢
        rw [if_pos hdone] at w1
        have c0 : (0 : Int32) ≤ y := by rw [w1]; exact nI_pos' (by omega)
        simp only [c0, ↓reduceIte, WP_some]
        exact ⟨w1.symm, fin N w2 w3 (w6 (by decide))⟩
      · rw [if_neg hdone] at z1
        simp only [z1, ↓reduceIte, WP_bind, WP_some, Option.bind_some, tcl_12, tgR_12_0, tpR_12_0, tgR_12_1, tpR_12_1, tgR_12_2, tpR_12_2, tgR_12_3, tpR_12_3, tgR_12_4, tpR_12_4, tgI_12_5, tpI_12_5, tgR_12_6, tpR_12_6, tgR_12_7, tpR_12_7, tgR_12_8, tpR_12_8, tgR_12_9, tpR_12_9, tgR_12_10, tpR_12_10, tgR_12_11, tpR_12_11, tcl_2, tgR_2_0, tpR_2_0, tgR_2_1, tpR_2_1, tgR_2_2, tpR_2_2, tgR_2_3, tpR_2_3, tgR_2_4, tpR_2_4, tgI_2_5, tpI_2_5, tgI_2_6, tpI_2_6, tgI_2_7, tpI_2_7, kb, rb, k11, e75 (b + 11) 7 (by omega), g7]
        refine WP.mono wk ?_
        rintro ⟨y, N⟩ ⟨w1, w2, w3, w4, w5, w6⟩
        dsimp only at w1 w2 w3 w4 w5 w6 ⊢
        rw [if_neg hdone] at w1
        have c0 : ¬ (0 : Int32) ≤ y := by
          rw [w1, show (0 : Int32) = nI 0 from rfl]
          intro z
          have h3 := nI_sub_neg (a := 0) (b := (hRun H.1 W H.2.2.2.2 g H.2.2.1 300 0).2) (by omega) (by omega)
          rw [Int32.lt_iff_toInt_lt] at h3
          rw [Int32.le_iff_toInt_le] at z
          have h4 : (nI 0).toInt = (0 : Int32).toInt := rfl
          omega
        simp only [c0, ↓reduceIte, WP_some]
        refine ⟨?_, fin N w2 w3 (w6 (by decide))⟩
        rw [w1, Int32.zero_sub, Int32.sub_eq_add_neg]
