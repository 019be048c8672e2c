def lt2 (a k c m : Nat) : Nat → Nat := fun h => if h = a then k else if h = c then m else 0
/-- how the search for the late ones hauls -/
def wLt (H : HX) (S : SX) (s l p : Nat) (lt : Nat → Nat) : HW := (H.2.2.2.1, lt, sBt (S.2.2.1 s) (S.2.2.2.1 s) (S.2.2.2.2.1 s) (S.2.2.2.2.2 s), l, p)
/-- a trial with hands late -/
theorem trial_wp {C : CH} {b sg tk : Nat} {H : HX} {S : SX} {s : Nat} {K : KX} {l p : Nat} {lt : Nat → Nat} (hok : HandsOk H) (hW : HWok H.1 (wLt H S s l p lt)) (L : LtV C b sg tk H.1 K (S.2.2.1 s) (S.2.2.2.1 s) (S.2.2.2.2.1 s) (S.2.2.2.2.2 s) H.2.2.2.1 l p) (hc : c_iv C (b + 41) 5 = nI H.2.2.2.1) (hf : c_iv C (b + 41) 6 = 0) (hn : ∀ h, h < 10 → c_ar C (b + 42) h = c_ar C (b + 5) h) (hl : ∀ h, h < H.1.1 → c_ar C (b + 43) h = nI (lt h)) : WP (t_X3_sumOfTrial (b + 40) (b + 4) sg tk (b + 37) C) (fun q => q.1 = nI (mS H.1 (wLt H S s l p lt) K) ∧ Fr (b + 41) (b + 46) C q.2) := by
  have hn1 := hok.1.1
  have h4 : HandV C (b + 4) H.1 := L.2.2.2.1
  refine sumTrial_wp (W := wLt H S s l p lt) hok.1 hW rfl L hc hf (fun h hh => ?_) hl
  rw [hn h (by omega)]
  exact (h4.2 h hh).1
/-- the search's state: the class's and the reference's -/
def WhoR (b : Nat) (E D : CH) (M N : MS) (least : Int32) : Prop := Fr (b + 40) (b + 46) E D ∧ FM [20, 21, 39, 40, 41, 42] [13, 19, 38] M N ∧ (∀ j, j < 10 → N.2.2.1 13 j = M.2.2.1 13 j) ∧ c_iv D (b + 40) 5 = least ∧ c_iv D (b + 40) 1 = N.1 39 ∧ c_iv D (b + 40) 3 = N.1 41 ∧ ∃ d, d ≤ 1800000 ∧ least = nI d
theorem isOf_eq {M : MS} {H : HX} (hok : HandsOk H) (h14 : M.1 14 = nI H.2.2.2.1) {a : Nat} (ha : a < 31) : g_X12_isOf (nI a) M = some (if H.2.2.2.1.testBit a = true then 1 else 0, M) := by
  have hw := hok.1.pow hok.2.1
  unfold g_X12_isOf
  rw [h14]
  by_cases h : H.2.2.2.1.testBit a = true
  · rw [if_pos ((nI_bit (by omega) ha).mpr h), if_pos h]
  · rw [if_neg (fun z => h ((nI_bit (by omega) ha).mp z)), if_neg h]
theorem wLt_ok {H : HX} {S : SX} {s l p : Nat} {lt : Nat → Nat} (hok : HandsOk H) (sok : SongsOk S) (hs : s < S.1) (hv : 1 ≤ S.2.2.1 s) (hl : l ≤ 1000) (hp : p ≤ 50) (hlt : ∀ h, lt h ≤ 3) : HWok H.1 (wLt H S s l p lt) := ⟨hok.2.1, fun h _ => hlt h, fun t => sBt_le sok hs hv t, hl, hp⟩
theorem lt2_le {a k c m : Nat} (hk : k ≤ 3) (hm : m ≤ 3) (h : Nat) : lt2 a k c m h ≤ 3 := by unfold lt2; split; exact hk; split; exact hm; omega
theorem op_who {b : Nat} {C : CH} {M : MS} (I : Inv b C M) (x lx px wx : Int32) : OP b (t_X11_who b x lx px wx C) (g_X12_who x lx px wx M) := by
  have I0 := I
  obtain ⟨H, S, T, bw, X, R, K, I⟩ := I
  obtain ⟨IB, ⟨h1, hm, hok⟩, ⟨s1, sm, sok⟩, _, _, _, _, ⟨k1, km, kok⟩, _, pl⟩ := id I
  obtain ⟨xk, xr0, xr1, xr2, xr3, xr4, xr6, xr7, xr8, xr9, xr10, xr11⟩ := IB.1.x
  have hb := IB.2.1
  have h6 := sok.1
  have hn1 := hok.1.1
  have hw := hok.1.pow hok.2.1
  unfold t_X11_who g_X12_who
  rw [noSong_eq sm]
  by_cases hv : x < 0 ∨ nI S.1 - 1 < x
  · simp only [hv, ↓reduceIte, i10, tcl_12, tgR_12_0, tpR_12_0, tgR_12_1, tpR_12_1, tgR_12_2, tpR_12_2, tgR_12_3, tpR_12_3, tgR_12_4, tpR_12_4, tgI_12_5, tpI_12_5, tgR_12_6, tpR_12_6, tgR_12_7, tpR_12_7, tgR_12_8, tpR_12_8, tgR_12_9, tpR_12_9, tgR_12_10, tpR_12_10, tgR_12_11, tpR_12_11, xk, Option.bind_some, (songOf_eq IB s1 x).1 hv, Option.elim]
    exact op_same I0 _
  obtain ⟨s, hs, rfl⟩ := in_n (by omega) hv
  have e1t : ¬ ((1 : Int32) < 1 ∨ 3000 < (1 : Int32)) := by decide
  simp only [hv, ↓reduceIte, i10, tcl_12, tgR_12_0, tpR_12_0, tgR_12_1, tpR_12_1, tgR_12_2, tpR_12_2, tgR_12_3, tpR_12_3, tgR_12_4, tpR_12_4, tgI_12_5, tpI_12_5, tgR_12_6, tpR_12_6, tgR_12_7, tpR_12_7, tgR_12_8, tpR_12_8, tgR_12_9, tpR_12_9, tgR_12_10, tpR_12_10, tgR_12_11, tpR_12_11, xk, Option.bind_some, (songOf_eq IB s1 (nI s)).2 s hs h6 rfl, Option.elim, isWeight_eq, gisTask_eq, e1t, false_or]
  by_cases hv2 : (lx < 0 ∨ 1000 < lx) ∨ (px < 0 ∨ 50 < px)
  · simp only [hv2, ↓reduceIte]
    exact op_same I0 _
  obtain ⟨l, hl, rfl⟩ := within_nI (n := 1000) rfl (fun z => hv2 (Or.inl z))
  obtain ⟨p, hp, rfl⟩ := within_nI (n := 50) rfl (fun z => hv2 (Or.inr z))
  simp only [hv2, ↓reduceIte, i10]
  rw [gin_eq (l := 0) (h := 2) wx 0 2 M rfl rfl, tw_eq]
  by_cases hv3 : wx < 0 ∨ 2 < wx
  · simp only [hv3, ↓reduceIte, Option.bind_some]
    exact op_same I0 _
  simp only [OP, hv3, ↓reduceIte, i10, Option.bind_some, WP_bind, WP_some, tcl_12, tgR_12_0, tpR_12_0, tgR_12_1, tpR_12_1, tgR_12_2, tpR_12_2, tgR_12_3, tpR_12_3, tgR_12_4, tpR_12_4, tgI_12_5, tpI_12_5, tgR_12_6, tpR_12_6, tgR_12_7, tpR_12_7, tgR_12_8, tpR_12_8, tgR_12_9, tpR_12_9, tgR_12_10, tpR_12_10, tgR_12_11, tpR_12_11, xk, xr0, xr1, xr2, xr3, xr4, xr6, xr7, xr8, xr9, xr10, xr11]
  obtain ⟨q1, q2, q3, q4, q5⟩ := s1.2 s hs
  have hvs := q2.2.2.2.2.1
  refine WP.mono (newTask_wp (C := C) 1000000000 (nI l) (nI p)) (fun E ⟨n1, n2, n3, n4, n5, n6, n7⟩ => ?_)
  have StE : StS (sh E) b := IB.1.ag (fun a p q _ _ _ => (n7 a (by omega)).s) ((n7 _ (by omega)).1.trans IB.1.li.1) ((n7 _ (by omega)).1.trans IB.1.li.2.1) ((n7 _ (by omega)).1.trans IB.1.li.2.2)
  obtain ⟨xk, xr0, xr1, xr2, xr3, xr4, xr6, xr7, xr8, xr9, xr10, xr11⟩ := StE.x
  have LS : LateS (sh E) (b + 40) := StE.2.2.2.2.2.2.2.1
  have lk : c_kd E (b + 40) = 5 := LS.1
  have L : LtV E b (S.2.1 s) C.1 H.1 K (S.2.2.1 s) (S.2.2.2.1 s) (S.2.2.2.2.1 s) (S.2.2.2.2.2 s) H.2.2.2.1 l p := ⟨LS, StE.2.2.1, q1.ag (fun a p q => (n7 a (by omega)).s), h1.1.ag (fun a p q => n7 a (by omega)), q2.ag (fun a p q => n7 a (by omega)), ⟨n3, n4, n5, n6⟩, ⟨StE.2.2.2.2.2.2.1, by rw [(n7 _ (by omega)).2.2.2.2.1]; exact k1.1, by rw [(n7 (b + 37 + 1) (by omega)).2.2.2.2.2.1, (n7 (b + 37 + 2) (by omega)).2.2.2.2.2.1]; exact k1.2, kok⟩, by rw [(n7 _ (by omega)).2.2.2.2.1]; exact h1.2.1, q3, hb⟩
  simp only [WP_bind, WP_some, Option.bind_some, tcl_12, tgR_12_0, tpR_12_0, tgR_12_1, tpR_12_1, tgR_12_2, tpR_12_2, tgR_12_3, tpR_12_3, tgR_12_4, tpR_12_4, tgI_12_5, tpI_12_5, tgR_12_6, tpR_12_6, tgR_12_7, tpR_12_7, tgR_12_8, tpR_12_8, tgR_12_9, tpR_12_9, tgR_12_10, tpR_12_10, tgR_12_11, tpR_12_11, tcl_4, tgR_4_0, tpR_4_0, tgI_4_1, tpI_4_1, tgI_4_2, tpI_4_2, tgI_4_3, tpI_4_3, tgI_4_4, tpI_4_4, tgI_4_5, tpI_4_5, xk, xr0, xr1, xr2, xr3, xr4, xr6, xr7, xr8, xr9, xr10, xr11, lk, t_X3_findOne]
  -- both sides' way to a trial with one hand late
  have one : ∀ (D : CH) (lt : Nat → Nat) (Kp : Int32 × CH → Prop), Fr (b + 40) (b + 46) E D → (∀ h, lt h ≤ 3) → c_iv D (b + 41) 5 = nI H.2.2.2.1 → c_iv D (b + 41) 6 = 0 → (∀ h, h < 10 → c_ar D (b + 42) h = c_ar D (b + 5) h) → (∀ h, h < H.1.1 → c_ar D (b + 43) h = nI (lt h)) → (∀ D', Fr (b + 41) (b + 46) D D' → Kp (nI (mS H.1 (wLt H S s l p lt) K), D')) → WP (t_X3_sumOfTrial (b + 40) (b + 4) (S.2.1 s) C.1 (b + 37) D) Kp := by
    intro D lt Kp F hlt hc hf hn hll hK
    refine WP.mono (trial_wp (lt := lt) hok (wLt_ok hok sok hs hvs hl hp hlt) (L.fr F) hc hf hn hll) ?_
    rintro ⟨z, D'⟩ ⟨z1, z2⟩
    dsimp only at z1 z2
    rw [z1]
    exact hK D' z2
  have two : ∀ (N : MS) (lt : Nat → Nat) (xa la xb lb : Int32) (Kp : Int32 × MS → Prop), FM [20, 21, 39, 40, 41, 42] [13, 19, 38] M N → (∀ j, j < 10 → N.2.2.1 13 j = M.2.2.1 13 j) → (∀ h, lt h ≤ 3) → (∀ h, h < H.1.1 → (if nI h = xa then la else if nI h = xb then lb else 0) = nI (lt h)) → (∀ N', FM [20, 21] [13, 19, 38] N N' → (∀ j, j < 10 → N'.2.2.1 13 j = N.2.2.1 13 j) → Kp (nI (mS H.1 (wLt H S s l p lt) K), N')) → WP (g_X12_sumOf (nI s) (nI l) (nI p) xa la xb lb N) Kp := by
    intro N lt xa la xb lb Kp F h13 hlt hh hK
    refine WP.mono (sumOf_wp (H := H) (K := K) (W := wLt H S s l p lt) (hm.fr F (by decide) (by decide) h13 hn1) hok.1 (wLt_ok hok sok hs hvs hl hp hlt) (by omega) ((sm.2 s hs).fr F (by decide)) rfl (km.fr F (by decide) (by decide)) kok rfl hh) ?_
    rintro ⟨z, N'⟩ ⟨z1, z2, z3⟩
    dsimp only at z1 z2 z3
    rw [z1]
    exact hK N' z2 z3
  have hSr : c_rv E (b + 40) 0 = some (b + 41) := LS.2.1
  obtain ⟨ok, _⟩ := LS.2.2.f
  simp only [tcl_4, tgR_4_0, tpR_4_0, tgI_4_1, tpI_4_1, tgI_4_2, tpI_4_2, tgI_4_3, tpI_4_3, tgI_4_4, tpI_4_4, tgI_4_5, tpI_4_5, s_iv_1, s_iv_2, s_iv_kd, s_iv_ln, s_iv_iv, s_iv_jv, s_iv_rv, s_iv_ar, s_iv_al, s_iv_ro, s_jv_1, s_jv_2, s_jv_kd, s_jv_ln, s_jv_iv, s_jv_jv, s_jv_rv, s_jv_ar, s_jv_al, s_jv_ro, s_rv_1, s_rv_2, s_rv_kd, s_rv_ln, s_rv_iv, s_rv_jv, s_rv_rv, s_rv_ar, s_rv_al, s_rv_ro, s_ar_1, s_ar_2, s_ar_kd, s_ar_ln, s_ar_iv, s_ar_jv, s_ar_rv, s_ar_ar, s_ar_al, s_ar_ro, s_al_1, s_al_2, s_al_kd, s_al_ln, s_al_iv, s_al_jv, s_al_rv, s_al_ar, s_al_al, s_al_ro, s_ro_1, s_ro_2, s_ro_kd, s_ro_ln, s_ro_iv, s_ro_jv, s_ro_rv, s_ro_ar, s_ro_al, s_ro_ro, lk, hSr, tcl_2, tgR_2_0, tpR_2_0, tgR_2_1, tpR_2_1, tgR_2_2, tpR_2_2, tgR_2_3, tpR_2_3, tgR_2_4, tpR_2_4, tgI_2_5, tpI_2_5, tgI_2_6, tpI_2_6, tgI_2_7, tpI_2_7, ok, WP_some]
  generalize hE2 : s_iv (s_iv E (up2 (c_iv E) (b + 40) 1 (-1))) (up2 (up2 (c_iv E) (b + 40) 1 (-1)) (b + 40) 3 0) = E2
  have FE2 : Fr (b + 40) (b + 46) E E2 := by
    rw [← hE2]
    exact (Fr.iv (k := 1) (-1) (by omega)).tr (Fr.iv (k := 3) 0 (by omega))
  have i21 : c_iv E2 (b + 40) 1 = -1 := by rw [← hE2]; simp [s_iv_1, s_iv_2, s_iv_kd, s_iv_ln, s_iv_iv, s_iv_jv, s_iv_rv, s_iv_ar, s_iv_al, s_iv_ro, s_jv_1, s_jv_2, s_jv_kd, s_jv_ln, s_jv_iv, s_jv_jv, s_jv_rv, s_jv_ar, s_jv_al, s_jv_ro, s_rv_1, s_rv_2, s_rv_kd, s_rv_ln, s_rv_iv, s_rv_jv, s_rv_rv, s_rv_ar, s_rv_al, s_rv_ro, s_ar_1, s_ar_2, s_ar_kd, s_ar_ln, s_ar_iv, s_ar_jv, s_ar_rv, s_ar_ar, s_ar_al, s_ar_ro, s_al_1, s_al_2, s_al_kd, s_al_ln, s_al_iv, s_al_jv, s_al_rv, s_al_ar, s_al_al, s_al_ro, s_ro_1, s_ro_2, s_ro_kd, s_ro_ln, s_ro_iv, s_ro_jv, s_ro_rv, s_ro_ar, s_ro_al, s_ro_ro, up2]
  have i23 : c_iv E2 (b + 40) 3 = 0 := by rw [← hE2]; simp [s_iv_1, s_iv_2, s_iv_kd, s_iv_ln, s_iv_iv, s_iv_jv, s_iv_rv, s_iv_ar, s_iv_al, s_iv_ro, s_jv_1, s_jv_2, s_jv_kd, s_jv_ln, s_jv_iv, s_jv_jv, s_jv_rv, s_jv_ar, s_jv_al, s_jv_ro, s_rv_1, s_rv_2, s_rv_kd, s_rv_ln, s_rv_iv, s_rv_jv, s_rv_rv, s_rv_ar, s_rv_al, s_rv_ro, s_ar_1, s_ar_2, s_ar_kd, s_ar_ln, s_ar_iv, s_ar_jv, s_ar_rv, s_ar_ar, s_ar_al, s_ar_ro, s_al_1, s_al_2, s_al_kd, s_al_ln, s_al_iv, s_al_jv, s_al_rv, s_al_ar, s_al_al, s_al_ro, s_ro_1, s_ro_2, s_ro_kd, s_ro_ln, s_ro_iv, s_ro_jv, s_ro_rv, s_ro_ar, s_ro_al, s_ro_ro, up2]
  have L2 := L.fr FE2
  refine WP.mono (beginFresh_wp (o := b + 41) (hb := b + 4) L2.1.2.2 L2.2.1 (by omega)) (fun D0 ⟨F0, a0, l0, c0, f0, _⟩ => ?_)
  have F0' : Fr (b + 41) (b + 43) E2 D0 := F0
  have FD0 : Fr (b + 40) (b + 46) E D0 := FE2.tr (F0'.mono (by omega) (by omega))
  have lk0 : c_kd D0 (b + 40) = 5 := (L.fr FD0).1.1
  simp only [tcl_4, tgR_4_0, tpR_4_0, tgI_4_1, tpI_4_1, tgI_4_2, tpI_4_2, tgI_4_3, tpI_4_3, tgI_4_4, tpI_4_4, tgI_4_5, tpI_4_5, lk0, WP_some]
  have c7 : c_iv E2 (b + 4) 7 = nI H.2.2.2.1 := L2.2.2.2.2.2.2.2.1
  refine one D0 (fun _ => 0) _ FD0 (fun _ => by omega) (by rw [c0]; exact c7) f0 (fun h hh => by rw [(F0'.2.2.2 (b + 5) (by omega)).1]; exact a0 h hh) (fun h hh => l0 h (by omega)) (fun D1 F1 => ?_)
  have lk1 : c_kd D1 (b + 40) = 5 := by rw [sh_kd F1.2.2.1]; exact lk0
  simp only [tcl_4, tgR_4_0, tpR_4_0, tgI_4_1, tpI_4_1, tgI_4_2, tpI_4_2, tgI_4_3, tpI_4_3, tgI_4_4, tpI_4_4, tgI_4_5, tpI_4_5, lk1, WP_some]
  generalize hD2 : s_iv D1 (up2 (c_iv D1) (b + 40) 5 (nI (mS H.1 (wLt H S s l p fun _ => 0) K))) = D2
  have FD2 : Fr (b + 40) (b + 46) E D2 := by
    rw [← hD2]
    exact FD0.tr ((F1.mono (by omega) (by omega)).tr (Fr.iv (k := 5) _ (by omega)))
  have j5 : c_iv D2 (b + 40) 5 = nI (mS H.1 (wLt H S s l p fun _ => 0) K) := by rw [← hD2, iv_upd, if_pos ⟨rfl, rfl⟩]
  have jo : ∀ k, k ≠ 5 → c_iv D2 (b + 40) k = c_iv E2 (b + 40) k := fun k hk => by rw [← hD2, iv_upd, if_neg (by omega), (F1.2.2.2 (b + 40) (by omega)).2.1, (F0'.2.2.2 (b + 40) (by omega)).2.1]
  -- the reference's first sum
  obtain ⟨⟨z0, N0⟩, hN0, zz, GN0, on0⟩ := two M (fun _ => 0) (-1) 0 (-1) 0 (fun q => q.1 = nI (mS H.1 (wLt H S s l p fun _ => 0) K) ∧ FM [20, 21] [13, 19, 38] M q.2 ∧ ∀ j, j < 10 → q.2.2.2.1 13 j = M.2.2.1 13 j) (FM.rf _ _ _) (fun _ _ => rfl) (fun _ => by omega) (fun h hh => by rw [if_neg (nI_nem1 (by omega)), if_neg (nI_nem1 (by omega))]; rfl) (fun N' a c => ⟨rfl, a, c⟩)
  dsimp only at zz GN0 on0
  subst zz
  rw [hN0]
  simp only [WP_some]
  have R0 : WhoR b E D2 M (msI (msI N0 39 (-1)) 41 0) (nI (mS H.1 (wLt H S s l p fun _ => 0) K)) := ⟨FD2, (GN0.mono (by decide) (fun k h => h)).tr ((FM.I _ (by decide)).tr (FM.I _ (by decide))), on0, j5, by rw [jo 1 (by decide), i21, msI_n (by decide), msI_e], by rw [jo 3 (by decide), i23, msI_e], _, mS_le hok.1 kok, rfl⟩
  refine WP.mono (WP.it2 (body' := g_X12_who_L59 (nI s) (nI l) (nI p) wx) (Post := fun (D : CH) (q : Int32 × MS) => WhoR b E D M q.2 q.1) (fun (a : Nat) (y : Int32 × CH) (z : Int32 × Int32 × MS) => y.1 = nI a ∧ z.2.1 = nI a ∧ WhoR b E y.2 M z.2.2 z.1) H.1.1 ?_ 100000 0 _ ((nI (mS H.1 (wLt H S s l p fun _ => 0) K)), 0, msI (msI N0 39 (-1)) 41 0) ⟨rfl, rfl, R0⟩ (Nat.zero_le _) (by omega)) ?_
  · rintro a ⟨y, D⟩ ⟨least, z, N⟩ ha ⟨e1, e2, R1⟩
    dsimp only at e1 e2 R1
    subst e1
    subst e2
    obtain ⟨FD, GN, on, r5, r1, r3, d, hd, hleast⟩ := id R1
    have LD := L.fr FD
    obtain ⟨hk, _⟩ := LD.2.1.f
    have v6 : c_iv D (b + 4) 6 = nI H.1.1 := LD.2.2.2.1.1
    have n7' : N.1 7 = nI H.1.1 := by rw [GN.i (by decide)]; exact hm.1.1
    unfold t_X3_findOne_L34 g_X12_who_L59
    dsimp only
    simp only [tcl_1, tgR_1_0, tpR_1_0, tgR_1_1, tpR_1_1, tgR_1_2, tpR_1_2, tgR_1_3, tpR_1_3, tgR_1_4, tpR_1_4, tgR_1_5, tpR_1_5, tgI_1_6, tpI_1_6, tgI_1_7, tpI_1_7, tgI_1_8, tpI_1_8, hk, v6, Option.bind_some, n7']
    by_cases hlt : a < H.1.1
    · rw [if_neg (nI_ge hlt (by omega)), if_neg (nI_ge hlt (by omega))]
      simp only [WP_bind, WP_some]
      refine WP.mono (WP.it2 (body' := g_X12_who_L71 (nI s) (nI l) (nI p) wx (nI a)) (Post := fun (D : CH) (q : Int32 × MS) => WhoR b E D M q.2 q.1) (fun (i : Nat) (y : Int32 × CH) (z : Int32 × Int32 × MS) => y.1 = nI (i + 1) ∧ z.2.1 = nI (i + 1) ∧ WhoR b E y.2 M z.2.2 z.1) 3 ?_ 100000 0 _ (least, 1, N) ⟨rfl, rfl, R1⟩ (Nat.zero_le _) (by omega)) ?_
      · rintro i ⟨y, D⟩ ⟨least, z, N⟩ hi ⟨e1, e2, R1⟩
        dsimp only at e1 e2 R1
        subst e1
        subst e2
        obtain ⟨FD, GN, on, r5, r1, r3, d, hd, hleast⟩ := id R1
        have LD := L.fr FD
        obtain ⟨hk, _⟩ := LD.2.1.f
        have v7 : c_iv D (b + 4) 7 = nI H.2.2.2.1 := LD.2.2.2.2.2.2.2.1
        have n14 : N.1 14 = nI H.2.2.2.1 := by rw [GN.i (by decide)]; exact hm.2.1
        unfold t_X3_findOne_L46 g_X12_who_L71
        dsimp only
        by_cases hlti : i < 3
        · rw [if_neg (show ¬ (3 : Int32) < nI (i + 1) from nI_nlt (a := 3) (by omega) (by omega)), if_neg (show ¬ (4 : Int32) ≤ nI (i + 1) from nI_ge (b := 4) (by omega) (by omega))]
          simp only [tcl_1, tgR_1_0, tpR_1_0, tgR_1_1, tpR_1_1, tgR_1_2, tpR_1_2, tgR_1_3, tpR_1_3, tgR_1_4, tpR_1_4, tgR_1_5, tpR_1_5, tgI_1_6, tpI_1_6, tgI_1_7, tpI_1_7, tgI_1_8, tpI_1_8, hk, v7, Option.bind_some, tisIn_eq D (show H.2.2.2.1 < 2 ^ 31 by omega) (show a < 31 by omega), isOf_eq hok n14 (show a < 31 by omega)]
          by_cases hbit : H.2.2.2.1.testBit a = true
          · have lkD : c_kd D (b + 40) = 5 := LD.1.1
            have lrD : c_rv D (b + 40) 0 = some (b + 41) := LD.1.2.1
            obtain ⟨ok, _⟩ := LD.1.2.2.f
            simp only [hbit, ↓reduceIte, i10, tcl_4, tgR_4_0, tpR_4_0, tgI_4_1, tpI_4_1, tgI_4_2, tpI_4_2, tgI_4_3, tpI_4_3, tgI_4_4, tpI_4_4, tgI_4_5, tpI_4_5, tcl_2, tgR_2_0, tpR_2_0, tgR_2_1, tpR_2_1, tgR_2_2, tpR_2_2, tgR_2_3, tpR_2_3, tgR_2_4, tpR_2_4, tgI_2_5, tpI_2_5, tgI_2_6, tpI_2_6, tgI_2_7, tpI_2_7, lkD, lrD, ok, Option.bind_some, WP_bind, WP_some]
            refine WP.mono (beginFresh_wp (o := b + 41) (hb := b + 4) LD.1.2.2 LD.2.1 (by omega)) (fun D0 ⟨F0, a0, l0, c0, f0, _⟩ => ?_)
            have F0' : Fr (b + 41) (b + 43) D D0 := F0
            have L0 := LD.fr (F0'.mono (by omega) (by omega))
            have lk0 : c_kd D0 (b + 40) = 5 := L0.1.1
            have lr0 : c_rv D0 (b + 40) 0 = some (b + 41) := L0.1.2.1
            obtain ⟨ok, or0, ok0, ol0, or1, ok1, ol1, or2, ok2, ol2, or3, ok3, ol3, or4, ok4, ol4⟩ := L0.1.2.2.f
            simp only [tcl_4, tgR_4_0, tpR_4_0, tgI_4_1, tpI_4_1, tgI_4_2, tpI_4_2, tgI_4_3, tpI_4_3, tgI_4_4, tpI_4_4, tgI_4_5, tpI_4_5, tcl_2, tgR_2_0, tpR_2_0, tgR_2_1, tpR_2_1, tgR_2_2, tpR_2_2, tgR_2_3, tpR_2_3, tgR_2_4, tpR_2_4, tgI_2_5, tpI_2_5, tgI_2_6, tpI_2_6, tgI_2_7, tpI_2_7, lk0, lr0, ok, or0, ok0, ol0, or1, ok1, ol1, or2, ok2, ol2, or3, ok3, ol3, or4, ok4, ol4, Option.bind_some, WP_bind, WP_some]
            refine tst_wp ok1 ol1 (show a < 10 by omega) (by omega) (fun D3 F3 i3 a3 => ?_)
            have F3' : Fr (b + 43) (b + 43) D0 D3 := F3
            have a3' : ∀ h, c_ar D3 (b + 43) h = if h = a then nI (i + 1) else c_ar D0 (b + 43) h := a3
            have FD3 : Fr (b + 40) (b + 46) E D3 := FD.tr ((F0'.mono (by omega) (by omega)).tr (F3'.mono (by omega) (by omega)))
            have lk3 : c_kd D3 (b + 40) = 5 := (L.fr FD3).1.1
            simp only [tcl_4, tgR_4_0, tpR_4_0, tgI_4_1, tpI_4_1, tgI_4_2, tpI_4_2, tgI_4_3, tpI_4_3, tgI_4_4, tpI_4_4, tgI_4_5, tpI_4_5, lk3, WP_some]
            have c0' : c_iv D0 (b + 41) 5 = nI H.2.2.2.1 := by rw [c0]; exact v7
            refine one D3 (lt2 a (i + 1) a 0) _ FD3 (lt2_le (by omega) (by omega)) (by rw [i3]; exact c0') (by rw [i3]; exact f0) (fun h hh => by rw [(F3'.2.2.2 (b + 42) (by omega)).1, (F3'.2.2.2 (b + 5) (by omega)).1, (F0'.2.2.2 (b + 5) (by omega)).1]; exact a0 h hh) (fun h hh => ?_) (fun D4 F4 => ?_)
            · rw [a3']
              unfold lt2
              by_cases hha : h = a
              · rw [if_pos hha, if_pos hha]
              · have l0' : c_ar D0 (b + 43) h = 0 := l0 h (by omega)
                rw [if_neg hha, if_neg hha, if_neg hha, l0']; rfl
            · have iv4 : c_iv D4 (b + 40) = c_iv D (b + 40) := by rw [(F4.2.2.2 (b + 40) (by omega)).2.1, i3, (F0'.2.2.2 (b + 40) (by omega)).2.1]
              have FD4 : Fr (b + 40) (b + 46) E D4 := FD3.tr (F4.mono (by omega) (by omega))
              have lk4 : c_kd D4 (b + 40) = 5 := (L.fr FD4).1.1
              obtain ⟨⟨z9, N9⟩, hN9, zz, GN9, on9⟩ := two N (lt2 a (i + 1) a 0) (nI a) (nI (i + 1)) (-1) 0 (fun q => q.1 = nI (mS H.1 (wLt H S s l p (lt2 a (i + 1) a 0)) K) ∧ FM [20, 21] [13, 19, 38] N q.2 ∧ ∀ j, j < 10 → q.2.2.2.1 13 j = N.2.2.1 13 j) GN on (lt2_le (by omega) (by omega)) (fun h hh => by
                unfold lt2
                by_cases hha : h = a
                · rw [if_pos (by rw [hha]), if_pos hha]
                · rw [if_neg (fun z => hha ((nI_eq (by omega) (by omega)).mp z)), if_neg (nI_nem1 (by omega)), if_neg hha, if_neg hha]; rfl) (fun N' a c => ⟨rfl, a, c⟩)
              dsimp only at zz GN9 on9
              subst zz
              have hmS := mS_le hok.1 (W := wLt H S s l p (lt2 a (i + 1) a 0)) kok
              have GN9' : FM [20, 21, 39, 40, 41, 42] [13, 19, 38] M N9 := GN.tr (GN9.mono (by decide) (fun k h => h))
              have on9' : ∀ j, j < 10 → N9.2.2.1 13 j = M.2.2.1 13 j := fun j hj => by rw [on9 j hj, on j hj]
              have r5' : c_iv D4 (b + 40) 5 = least := by rw [iv4]; exact r5
              simp only [tcl_4, tgR_4_0, tpR_4_0, tgI_4_1, tpI_4_1, tgI_4_2, tpI_4_2, tgI_4_3, tpI_4_3, tgI_4_4, tpI_4_4, tgI_4_5, tpI_4_5, lk4, r5', Option.bind_some, WP_some, hN9]
              by_cases hc : least ≤ nI (mS H.1 (wLt H S s l p (lt2 a (i + 1) a 0)) K)
              · simp only [hc, WP_bind, WP_some, Option.bind_some, Sum.elim_inl, Sum.elim_inr, ↓reduceIte]
                exact ⟨hlti, nI_1 _, nI_1 _, FD4, GN9', on9', r5', by rw [iv4, r1, GN9.i (by decide)], by rw [iv4, r3, GN9.i (by decide)], d, hd, hleast⟩
              · simp only [hc, WP_bind, WP_some, Option.bind_some, Sum.elim_inl, Sum.elim_inr, ↓reduceIte, tcl_4, tgR_4_0, tpR_4_0, tgI_4_1, tpI_4_1, tgI_4_2, tpI_4_2, tgI_4_3, tpI_4_3, tgI_4_4, tpI_4_4, tgI_4_5, tpI_4_5, lk4, s_iv_1, s_iv_2, s_iv_kd, s_iv_ln, s_iv_iv, s_iv_jv, s_iv_rv, s_iv_ar, s_iv_al, s_iv_ro, s_jv_1, s_jv_2, s_jv_kd, s_jv_ln, s_jv_iv, s_jv_jv, s_jv_rv, s_jv_ar, s_jv_al, s_jv_ro, s_rv_1, s_rv_2, s_rv_kd, s_rv_ln, s_rv_iv, s_rv_jv, s_rv_rv, s_rv_ar, s_rv_al, s_rv_ro, s_ar_1, s_ar_2, s_ar_kd, s_ar_ln, s_ar_iv, s_ar_jv, s_ar_rv, s_ar_ar, s_ar_al, s_ar_ro, s_al_1, s_al_2, s_al_kd, s_al_ln, s_al_iv, s_al_jv, s_al_rv, s_al_ar, s_al_al, s_al_ro, s_ro_1, s_ro_2, s_ro_kd, s_ro_ln, s_ro_iv, s_ro_jv, s_ro_rv, s_ro_ar, s_ro_al, s_ro_ro]
                refine ⟨hlti, nI_1 _, nI_1 _, FD4.tr ((Fr.iv (k := 5) _ (by omega)).tr ((Fr.iv (k := 1) _ (by omega)).tr (Fr.iv (k := 3) _ (by omega)))), GN9'.tr ((FM.I _ (by decide)).tr (FM.I _ (by decide))), on9', ?_, ?_, ?_, _, hmS, rfl⟩
                · simp [s_iv_1, s_iv_2, s_iv_kd, s_iv_ln, s_iv_iv, s_iv_jv, s_iv_rv, s_iv_ar, s_iv_al, s_iv_ro, s_jv_1, s_jv_2, s_jv_kd, s_jv_ln, s_jv_iv, s_jv_jv, s_jv_rv, s_jv_ar, s_jv_al, s_jv_ro, s_rv_1, s_rv_2, s_rv_kd, s_rv_ln, s_rv_iv, s_rv_jv, s_rv_rv, s_rv_ar, s_rv_al, s_rv_ro, s_ar_1, s_ar_2, s_ar_kd, s_ar_ln, s_ar_iv, s_ar_jv, s_ar_rv, s_ar_ar, s_ar_al, s_ar_ro, s_al_1, s_al_2, s_al_kd, s_al_ln, s_al_iv, s_al_jv, s_al_rv, s_al_ar, s_al_al, s_al_ro, s_ro_1, s_ro_2, s_ro_kd, s_ro_ln, s_ro_iv, s_ro_jv, s_ro_rv, s_ro_ar, s_ro_al, s_ro_ro, up2]
                · simp [s_iv_1, s_iv_2, s_iv_kd, s_iv_ln, s_iv_iv, s_iv_jv, s_iv_rv, s_iv_ar, s_iv_al, s_iv_ro, s_jv_1, s_jv_2, s_jv_kd, s_jv_ln, s_jv_iv, s_jv_jv, s_jv_rv, s_jv_ar, s_jv_al, s_jv_ro, s_rv_1, s_rv_2, s_rv_kd, s_rv_ln, s_rv_iv, s_rv_jv, s_rv_rv, s_rv_ar, s_rv_al, s_rv_ro, s_ar_1, s_ar_2, s_ar_kd, s_ar_ln, s_ar_iv, s_ar_jv, s_ar_rv, s_ar_ar, s_ar_al, s_ar_ro, s_al_1, s_al_2, s_al_kd, s_al_ln, s_al_iv, s_al_jv, s_al_rv, s_al_ar, s_al_al, s_al_ro, s_ro_1, s_ro_2, s_ro_kd, s_ro_ln, s_ro_iv, s_ro_jv, s_ro_rv, s_ro_ar, s_ro_al, s_ro_ro, up2, msI, upd]
                · simp [s_iv_1, s_iv_2, s_iv_kd, s_iv_ln, s_iv_iv, s_iv_jv, s_iv_rv, s_iv_ar, s_iv_al, s_iv_ro, s_jv_1, s_jv_2, s_jv_kd, s_jv_ln, s_jv_iv, s_jv_jv, s_jv_rv, s_jv_ar, s_jv_al, s_jv_ro, s_rv_1, s_rv_2, s_rv_kd, s_rv_ln, s_rv_iv, s_rv_jv, s_rv_rv, s_rv_ar, s_rv_al, s_rv_ro, s_ar_1, s_ar_2, s_ar_kd, s_ar_ln, s_ar_iv, s_ar_jv, s_ar_rv, s_ar_ar, s_ar_al, s_ar_ro, s_al_1, s_al_2, s_al_kd, s_al_ln, s_al_iv, s_al_jv, s_al_rv, s_al_ar, s_al_al, s_al_ro, s_ro_1, s_ro_2, s_ro_kd, s_ro_ln, s_ro_iv, s_ro_jv, s_ro_rv, s_ro_ar, s_ro_al, s_ro_ro, up2, msI, upd]
          · simp only [hbit, ↓reduceIte, Bool.false_eq_true, WP_bind, WP_some, Option.bind_some, Sum.elim_inl, Sum.elim_inr, ↓reduceIte]
            exact R1
        · have hii : i = 3 := by omega
          subst hii
          rw [if_pos (show (3 : Int32) < nI (3 + 1) by decide), if_pos (show (4 : Int32) ≤ nI (3 + 1) by decide)]
          simp only [WP_bind, WP_some, Option.bind_some, Sum.elim_inl, Sum.elim_inr, ↓reduceIte]
          exact R1
      · rintro D9 ⟨⟨l9, N9⟩, h9, R9⟩
        rw [h9]
        simp only [WP_bind, WP_some, Option.bind_some, Sum.elim_inl, Sum.elim_inr, ↓reduceIte]
        exact ⟨hlt, nI_1 a, nI_1 a, R9⟩
    · have haa : a = H.1.1 := by omega
      subst haa
      rw [if_pos (nI_le (by omega) (by omega)), if_pos (nI_le (by omega) (by omega))]
      simp only [WP_bind, WP_some, Option.bind_some, Sum.elim_inl, Sum.elim_inr, ↓reduceIte]
      exact R1
  · rintro D9 ⟨⟨l9, N9⟩, h9, FD, GN, on, r5, r1, r3, d, hd, hleast⟩
    rw [h9]
    have StD : StS (sh D9) b := by rw [FD.2.2.1]; exact StE
    obtain ⟨xk, xr0, xr1, xr2, xr3, xr4, xr6, xr7, xr8, xr9, xr10, xr11⟩ := StD.x
    have lk9 : c_kd D9 (b + 40) = 5 := (L.fr FD).1.1
    have fin : Inv b D9 N9 := I.scr (by rw [FD.1, n1]; omega) (by rw [FD.2.1, n2]) (fun a ha => by
      have z1 := (n7 a (by omega)).s
      have z2 : AgS (sh E) (sh D9) a := AgS.of FD.2.2.1 a
      exact ⟨z2.1.trans z1.1, z2.2.1.trans z1.2.1, z2.2.2.1.trans z1.2.2.1, z2.2.2.2.trans z1.2.2.2⟩) (fun a ha _ _ h3 => (n7 a (by omega)).tr (FD.ag (by omega))) (GN.mono (by decide) (by decide)) on (pl.ag ((n7 _ (by omega)).tr (FD.ag (by omega))) ((n7 _ (by omega)).tr (FD.ag (by omega))))
    simp only [tcl_12, tgR_12_0, tpR_12_0, tgR_12_1, tpR_12_1, tgR_12_2, tpR_12_2, tgR_12_3, tpR_12_3, tgR_12_4, tpR_12_4, tgI_12_5, tpI_12_5, tgR_12_6, tpR_12_6, tgR_12_7, tpR_12_7, tgR_12_8, tpR_12_8, tgR_12_9, tpR_12_9, tgR_12_10, tpR_12_10, tgR_12_11, tpR_12_11, tcl_4, tgR_4_0, tpR_4_0, tgI_4_1, tpI_4_1, tgI_4_2, tpI_4_2, tgI_4_3, tpI_4_3, tgI_4_4, tpI_4_4, tgI_4_5, tpI_4_5, xk, xr0, xr1, xr2, xr3, xr4, xr6, xr7, xr8, xr9, xr10, xr11, lk9, r5, r1, r3, Option.bind_some, WP_some]
    by_cases w0 : wx = 0
    · simp only [w0, ↓reduceIte, WP_some]
      exact ⟨trivial, fin⟩
    · by_cases w1 : wx = 1
      · simp only [w1, ↓reduceIte, i10, WP_some]
        exact ⟨trivial, fin⟩
      · simp only [w0, w1, ↓reduceIte, WP_some]
        exact ⟨trivial, fin⟩
