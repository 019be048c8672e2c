/-! THE CALLS, pair by pair -/
abbrev OP (b : Nat) (x : Option (Int32 × CH)) (y : Option (Int32 × MS)) : Prop := WP x (fun r => WP y (fun q => r.1 = q.1 ∧ Inv b r.2 q.2))
theorem FM.i {I A : List Nat} {M M' : MS} (F : FM I A M M') {k : Nat} (h : k ∉ I) : M'.1 k = M.1 k := F.1 k h
section KEEP
variable {b : Nat} {H : HX} {S : SX} {T : TX} {bw : Nat} {X : WX} {R : RX} {K : KX} {C C' : CH} {M M' : MS}
theorem InvX.row (I : InvX b H S T bw X R K C M) (h0 : C.1 ≤ C'.1) (h2 : C'.2.1 = C.2.1) (hs : ∀ a, a < C.1 → AgS (sh C) (sh C') a) (ag : ∀ a, a < C.1 → a ≠ b + 1 → a ≠ b + 2 → Agr C C' a) (F : FM [5] [6] M M') {R' : RX} (r1 : RowC b R' C') (r2 : RowM R' M') (r3 : RowOk R') : Inv b C' M' := by
  obtain ⟨IB, ⟨h1, hm, hok⟩, ⟨s1, sm, sok⟩, ⟨t1, tm, tok⟩, ⟨b1, bm, bok⟩, ⟨x1, xm, xok⟩, ⟨_, _, _⟩, ⟨k1, km, kok⟩, la, pl⟩ := I
  have hb := IB.2.1
  refine ⟨H, S, T, bw, X, R', K, IB.ag h0 h2 hs, ⟨h1.ag (fun a p q => ag a (by omega) (by omega) (by omega)), hm.fr F (by decide) (by decide) (fun j _ => by rw [F.2 13 (by decide)]) hok.1.1, hok⟩, ⟨s1.ag h0 h2 hb (fun a p q _ => ag a q (by omega) (by omega)), sm.fr F (by decide) (by decide), sok⟩, ⟨t1.ag h0 h2 hb (fun a p q _ => ag a q (by omega) (by omega)), tm.fr F (by decide) (by decide), tok⟩, ⟨by rw [(ag b (by omega) (by omega) (by omega)).2.2.2.2.1]; exact b1, by rw [F.i (by decide)]; exact bm, bok⟩, ⟨x1.ag h0 h2 hb (fun a p q _ => ag a q (by omega) (by omega)), xm.fr F (by decide) (by decide), xok⟩, ⟨r1, r2, r3⟩, ⟨k1.ag (fun a p q => ag a (by omega) (by omega) (by omega)), km.fr F (by decide) (by decide), kok⟩, la.ag (fun a p q => ag a (by omega) (by omega) (by omega)) (F.i (by decide)) (F.2 17 (by decide)) (F.2 18 (by decide)), pl.ag (ag _ (by omega) (by omega) (by omega)) (ag _ (by omega) (by omega) (by omega))⟩
theorem InvX.mark (I : InvX b H S T bw X R K C M) (h0 : C.1 ≤ C'.1) (h2 : C'.2.1 = C.2.1) (hs : ∀ a, a < C.1 → AgS (sh C) (sh C') a) (ag : ∀ a, a < C.1 → a < b + 37 ∨ b + 39 < a → Agr C C' a) (F : FM [35] [36, 37] M M') {R' : KX} (r1 : MarkC b R' C') (r2 : MarkM R' M') (r3 : MarkOk R') : Inv b C' M' := by
  obtain ⟨IB, ⟨h1, hm, hok⟩, ⟨s1, sm, sok⟩, ⟨t1, tm, tok⟩, ⟨b1, bm, bok⟩, ⟨x1, xm, xok⟩, ⟨w1, wm, wok⟩, ⟨k1, km, kok⟩, la, pl⟩ := I
  have hb := IB.2.1
  refine ⟨H, S, T, bw, X, R, R', IB.ag h0 h2 hs, ⟨h1.ag (fun a p q => ag a (by omega) (by omega)), hm.fr F (by decide) (by decide) (fun j _ => by rw [F.2 13 (by decide)]) hok.1.1, hok⟩, ⟨s1.ag h0 h2 hb (fun a p q _ => ag a q (by omega)), sm.fr F (by decide) (by decide), sok⟩, ⟨t1.ag h0 h2 hb (fun a p q _ => ag a q (by omega)), tm.fr F (by decide) (by decide), tok⟩, ⟨by rw [(ag b (by omega) (by omega)).2.2.2.2.1]; exact b1, by rw [F.i (by decide)]; exact bm, bok⟩, ⟨x1.ag h0 h2 hb (fun a p q _ => ag a q (by omega)), xm.fr F (by decide) (by decide), xok⟩, ⟨w1.ag (ag _ (by omega) (by omega)) (ag _ (by omega) (by omega)), wm.fr F (by decide) (by decide), wok⟩, ⟨r1, r2, r3⟩, la.ag (fun a p q => ag a (by omega) (by omega)) (F.i (by decide)) (F.2 17 (by decide)) (F.2 18 (by decide)), pl.ag (ag _ (by omega) (by omega)) (ag _ (by omega) (by omega))⟩
/-- the hands change, and the plan is no longer known -/
theorem InvX.hands (I : InvX b H S T bw X R K C M) (h0 : C.1 ≤ C'.1) (h2 : C'.2.1 = C.2.1) (hs : ∀ a, a < C.1 → AgS (sh C) (sh C') a) (ag : ∀ a, a < C.1 → a < b + 4 ∨ b + 10 < a → a ≠ b + 18 → Agr C C' a) (F : FM [7, 14, 15] [8, 9, 10, 11, 12, 13] M M') {H' : HX} (r1 : HandsC b H' C') (r2 : HandsM H' M') (r3 : HandsOk H') (hp : c_iv C' (b + 18) 5 = 0) : Inv b C' M' := by
  obtain ⟨IB, ⟨h1, hm, hok⟩, ⟨s1, sm, sok⟩, ⟨t1, tm, tok⟩, ⟨b1, bm, bok⟩, ⟨x1, xm, xok⟩, ⟨w1, wm, wok⟩, ⟨k1, km, kok⟩, la, pl⟩ := I
  have hb := IB.2.1
  refine ⟨H', S, T, bw, X, R, K, IB.ag h0 h2 hs, ⟨r1, r2, r3⟩, ⟨s1.ag h0 h2 hb (fun a p q _ => ag a q (by omega) (by omega)), sm.fr F (by decide) (by decide), sok⟩, ⟨t1.ag h0 h2 hb (fun a p q _ => ag a q (by omega) (by omega)), tm.fr F (by decide) (by decide), tok⟩, ⟨by rw [(ag b (by omega) (by omega) (by omega)).2.2.2.2.1]; exact b1, by rw [F.i (by decide)]; exact bm, bok⟩, ⟨x1.ag h0 h2 hb (fun a p q _ => ag a q (by omega) (by omega)), xm.fr F (by decide) (by decide), xok⟩, ⟨w1.ag (ag _ (by omega) (by omega) (by omega)) (ag _ (by omega) (by omega) (by omega)), wm.fr F (by decide) (by decide), wok⟩, ⟨k1.ag (fun a p q => ag a (by omega) (by omega) (by omega)), km.fr F (by decide) (by decide), kok⟩, la.ag (fun a p q => ag a (by omega) (by omega) (by omega)) (F.i (by decide)) (F.2 17 (by decide)) (F.2 18 (by decide)), Or.inl hp⟩
theorem InvX.betw (I : InvX b H S T bw X R K C M) (h0 : C.1 ≤ C'.1) (h2 : C'.2.1 = C.2.1) (hs : ∀ a, a < C.1 → AgS (sh C) (sh C') a) (ag : ∀ a, a < C.1 → a ≠ b → a ≠ b + 18 → Agr C C' a) (F : FM [26] [] M M') {w : Nat} (r1 : c_iv C' b 5 = nI w) (r2 : M'.1 26 = nI w) (r3 : w ≤ 50) (hp : c_iv C' (b + 18) 5 = 0) : Inv b C' M' := by
  obtain ⟨IB, ⟨h1, hm, hok⟩, ⟨s1, sm, sok⟩, ⟨t1, tm, tok⟩, ⟨b1, bm, bok⟩, ⟨x1, xm, xok⟩, ⟨w1, wm, wok⟩, ⟨k1, km, kok⟩, la, pl⟩ := I
  have hb := IB.2.1
  refine ⟨H, S, T, w, X, R, K, IB.ag h0 h2 hs, ⟨h1.ag (fun a p q => ag a (by omega) (by omega) (by omega)), hm.fr F (by decide) (by decide) (fun j _ => by rw [F.2 13 (by decide)]) hok.1.1, hok⟩, ⟨s1.ag h0 h2 hb (fun a p q _ => ag a q (by omega) (by omega)), sm.fr F (by decide) (by decide), sok⟩, ⟨t1.ag h0 h2 hb (fun a p q _ => ag a q (by omega) (by omega)), tm.fr F (by decide) (by decide), tok⟩, ⟨r1, r2, r3⟩, ⟨x1.ag h0 h2 hb (fun a p q _ => ag a q (by omega) (by omega)), xm.fr F (by decide) (by decide), xok⟩, ⟨w1.ag (ag _ (by omega) (by omega) (by omega)) (ag _ (by omega) (by omega) (by omega)), wm.fr F (by decide) (by decide), wok⟩, ⟨k1.ag (fun a p q => ag a (by omega) (by omega) (by omega)), km.fr F (by decide) (by decide), kok⟩, la.ag (fun a p q => ag a (by omega) (by omega) (by omega)) (F.i (by decide)) (F.2 17 (by decide)) (F.2 18 (by decide)), Or.inl hp⟩
/-- only what is scratch changes -/
theorem InvX.scr (I : InvX b H S T bw X R K C M) (h0 : C.1 ≤ C'.1) (h2 : C'.2.1 = C.2.1) (hs : ∀ a, a < C.1 → AgS (sh C) (sh C') a) (ag : ∀ a, a < C.1 → ¬ (b + 18 ≤ a ∧ a ≤ b + 31) → ¬ (b + 33 ≤ a ∧ a ≤ b + 36) → ¬ (b + 40 ≤ a ∧ a ≤ b + 50) → Agr C C' a) (F : FM [20, 21, 39, 40, 41, 42, 45] [13, 19, 27, 28, 29, 34, 38, 43, 44] M M') (h13 : ∀ j, j < 10 → M'.2.2.1 13 j = M.2.2.1 13 j) (hp : PlanC b H S T bw C') : Inv b C' M' := by
  obtain ⟨IB, ⟨h1, hm, hok⟩, ⟨s1, sm, sok⟩, ⟨t1, tm, tok⟩, ⟨b1, bm, bok⟩, ⟨x1, xm, xok⟩, ⟨w1, wm, wok⟩, ⟨k1, km, kok⟩, la, pl⟩ := I
  have hb := IB.2.1
  refine ⟨H, S, T, bw, X, R, K, IB.ag h0 h2 hs, ⟨h1.ag (fun a p q => ag a (by omega) (by omega) (by omega) (by omega)), hm.fr F (by decide) (by decide) h13 hok.1.1, hok⟩, ⟨s1.ag h0 h2 hb (fun a p q _ => ag a q (by omega) (by omega) (by omega)), sm.fr F (by decide) (by decide), sok⟩, ⟨t1.ag h0 h2 hb (fun a p q _ => ag a q (by omega) (by omega) (by omega)), tm.fr F (by decide) (by decide), tok⟩, ⟨by rw [(ag b (by omega) (by omega) (by omega) (by omega)).2.2.2.2.1]; exact b1, by rw [F.i (by decide)]; exact bm, bok⟩, ⟨x1.ag h0 h2 hb (fun a p q _ => ag a q (by omega) (by omega) (by omega)), xm.fr F (by decide) (by decide), xok⟩, ⟨w1.ag (ag _ (by omega) (by omega) (by omega) (by omega)) (ag _ (by omega) (by omega) (by omega) (by omega)), wm.fr F (by decide) (by decide), wok⟩, ⟨k1.ag (fun a p q => ag a (by omega) (by omega) (by omega) (by omega)), km.fr F (by decide) (by decide), kok⟩, la.ag (fun a p q => ag a (by omega) (by omega) (by omega) (by omega)) (F.i (by decide)) (F.2 17 (by decide)) (F.2 18 (by decide)), hp⟩
end KEEP
/-- the object's own fields -/
theorem StS.x {C : CH} {b : Nat} (h : StS (sh C) b) : c_kd C b = 13 ∧ c_rv C b 0 = some (b + 1) ∧ c_rv C b 1 = some (b + 3) ∧ c_rv C b 2 = some (b + 4) ∧ c_rv C b 3 = some (b + 11) ∧ c_rv C b 4 = some (b + 17) ∧ c_rv C b 6 = some (b + 18) ∧ c_rv C b 7 = some (b + 32) ∧ c_rv C b 8 = some (b + 33) ∧ c_rv C b 9 = some (b + 37) ∧ c_rv C b 10 = some (b + 40) ∧ c_rv C b 11 = some (b + 47) := h.1
theorem StS.ts {C : CH} {b : Nat} (h : StS (sh C) b) : c_kd C (b + 18) = 11 := h.2.2.2.2.1.1
theorem StS.li {C : CH} {b : Nat} (h : StS (sh C) b) : c_kd C (b + 3) = 1 ∧ c_kd C (b + 17) = 1 ∧ c_kd C (b + 32) = 1 := h.2.2.2.2.2.2.2.2.2
/-- an argument within small bounds is a small number -/
theorem within_nI {x hi : Int32} {n : Nat} (hM : hi.toInt = n) (h : ¬ (x < 0 ∨ hi < x)) : ∃ j : Nat, j ≤ n ∧ x = nI j := by
  have h1 : ¬ x < 0 := fun z => h (Or.inl z)
  have h2 : x ≤ hi := by
    rw [Int32.le_iff_toInt_le]
    have : ¬ hi.toInt < x.toInt := fun z => h (Or.inr (Int32.lt_iff_toInt_lt.mpr z))
    omega
  exact nI_of2 hM h1 h2
theorem op_rest {b : Nat} {C : CH} {M : MS} (I : Inv b C M) : OP b (t_X11_rest b C) (g_X12_rest M) := by
  obtain ⟨H, S, T, bw, X, R, K, I⟩ := I
  obtain ⟨IB, _, _, _, _, _, ⟨w1, wm, wok⟩, _⟩ := id I
  obtain ⟨xk, xr0, xr1, xr2, xr3, xr4, xr6, xr7, xr8, xr9, xr10, xr11⟩ := IB.1.x
  obtain ⟨wk, wr0, wk0, wl0⟩ := IB.1.2.1.f
  unfold t_X11_rest g_X12_rest
  simp only [OP, WP_bind, WP_some, Option.bind_some, Sum.elim_inl, Sum.elim_inr, ↓reduceIte, tcl_12, tgR_12_0, tpR_12_0, tgR_12_1, tpR_12_1, tgR_12_2, tpR_12_2, tgR_12_3, tpR_12_3, tgR_12_4, tpR_12_4, tgI_12_5, tpI_12_5, tgR_12_6, tpR_12_6, tgR_12_7, tpR_12_7, tgR_12_8, tpR_12_8, tgR_12_9, tpR_12_9, tgR_12_10, tpR_12_10, tgR_12_11, tpR_12_11, tcl_7, tgR_7_0, tpR_7_0, tgI_7_1, tpI_7_1, xk, xr0, xr1, xr2, xr3, xr4, xr6, xr7, xr8, xr9, xr10, xr11, wk, wr0, wk0, wl0, w1.1, wm.1]
  refine ⟨trivial, I.row (R' := (0, R.2)) (Nat.le_refl _) rfl (fun a _ => AgS.rf _ _) (fun a _ h1 h2 => (Fr.iv (lo := b + 1) (hi := b + 1) _ (by omega)).ag (by omega)) (FM.I _ (by decide)) ⟨?_, fun k hk => absurd hk (Nat.not_lt_zero _)⟩ ⟨?_, fun k hk => absurd hk (Nat.not_lt_zero _)⟩ ⟨Nat.zero_le _, fun k hk => absurd hk (Nat.not_lt_zero _)⟩⟩
  · rw [iv_upd, if_pos ⟨rfl, rfl⟩]; rfl
  · rw [msI_e]; rfl
theorem op_beat {b : Nat} {C : CH} {M : MS} (I : Inv b C M) (v : Int32) : OP b (t_X11_beat b v C) (g_X12_beat v M) := by
  obtain ⟨H, S, T, bw, X, R, K, I⟩ := I
  obtain ⟨IB, _, _, _, _, _, ⟨w1, wm, wok⟩, _⟩ := id I
  obtain ⟨xk, xr0, xr1, xr2, xr3, xr4, xr6, xr7, xr8, xr9, xr10, xr11⟩ := IB.1.x
  obtain ⟨wk, wr0, wk0, wl0⟩ := IB.1.2.1.f
  have hR := wok.1
  unfold t_X11_beat g_X12_beat
  rw [gin_eq (l := 0) (h := 3) v 0 3 M rfl rfl]
  by_cases hv : v < 0 ∨ 3 < v
  · have e1 : (if v < 0 ∨ 3 < v then (0 : Int32) else 1) = 0 := if_pos hv
    simp only [OP, WP_bind, WP_some, e1, ↓reduceIte]
    have key : WP (some ((-2 : Int32), C)) (fun r => r.1 = -2 ∧ Inv b r.2 M) := WP.ret ⟨rfl, _, _, _, _, _, _, _, I⟩
    by_cases h1 : v < 0
    · rw [if_pos h1]; exact key
    · rw [if_neg h1]
      have h2 : ¬ v ≤ 3 := by
        rcases hv with h | h
        · exact absurd h h1
        · rw [Int32.lt_iff_toInt_lt] at h
          rw [Int32.le_iff_toInt_le]
          omega
      rw [if_neg h2]
      exact key
  · obtain ⟨j, hj, rfl⟩ := within_nI (n := 3) rfl hv
    have e1 : (if nI j < 0 ∨ 3 < nI j then (0 : Int32) else 1) = 1 := if_neg hv
    have c1 : ¬ nI j < 0 := nI_pos (by omega)
    have c2 : nI j ≤ 3 := nI_le (b := 3) hj (by omega)
    rw [e1]
    simp only [OP, WP_bind, WP_some, i10, ↓reduceIte, c1, c2, tcl_12, tgR_12_0, tpR_12_0, tgR_12_1, tpR_12_1, tgR_12_2, tpR_12_2, tgR_12_3, tpR_12_3, tgR_12_4, tpR_12_4, tgI_12_5, tpI_12_5, tgR_12_6, tpR_12_6, tgR_12_7, tpR_12_7, tgR_12_8, tpR_12_8, tgR_12_9, tpR_12_9, tgR_12_10, tpR_12_10, tgR_12_11, tpR_12_11, tcl_7, tgR_7_0, tpR_7_0, tgI_7_1, tpI_7_1, xk, xr0, xr1, xr2, xr3, xr4, xr6, xr7, xr8, xr9, xr10, xr11, wk, wr0, wk0, wl0, t_X6_add, Option.bind_some, w1.1, Nat.reduceLT, tld_n, tst_n, tldB_n, tstB_n, tldR3_n, tldR4_n, tldJ_n, tstJ_n, tlen_I, tlen_R, wm.1]
    by_cases hz : R.1 < 24
    · have c3 : nI R.1 < nI 24 := nI_lt hz (by omega)
      have c4 : ¬ nI R.1 = 24 := fun z => by have := (nI_eq (b := 24) (by omega) (by omega)).mp z; omega
      simp only [c3, c4, ↓reduceIte, hz, WP_bind, WP_some, Option.bind_some, Sum.elim_inl, Sum.elim_inr, ↓reduceIte, tcl_7, tgR_7_0, tpR_7_0, tgI_7_1, tpI_7_1, Nat.reduceLT, tld_n, tst_n, tldB_n, tstB_n, tldR3_n, tldR4_n, tldJ_n, tstJ_n, tlen_I, tlen_R, tcl_12, tgR_12_0, tpR_12_0, tgR_12_1, tpR_12_1, tgR_12_2, tpR_12_2, tgR_12_3, tpR_12_3, tgR_12_4, tpR_12_4, tgI_12_5, tpI_12_5, tgR_12_6, tpR_12_6, tgR_12_7, tpR_12_7, tgR_12_8, tpR_12_8, tgR_12_9, tpR_12_9, tgR_12_10, tpR_12_10, tgR_12_11, tpR_12_11, wk, wr0, wk0, wl0, xk, xr0, xr1, xr2, xr3, xr4, xr6, xr7, xr8, xr9, xr10, xr11, s_iv_1, s_iv_2, s_iv_kd, s_iv_ln, s_iv_iv, s_iv_jv, s_iv_rv, s_iv_ar, s_iv_al, s_iv_ro, s_jv_1, s_jv_2, s_jv_kd, s_jv_ln, s_jv_iv, s_jv_jv, s_jv_rv, s_jv_ar, s_jv_al, s_jv_ro, s_rv_1, s_rv_2, s_rv_kd, s_rv_ln, s_rv_iv, s_rv_jv, s_rv_rv, s_rv_ar, s_rv_al, s_rv_ro, s_ar_1, s_ar_2, s_ar_kd, s_ar_ln, s_ar_iv, s_ar_jv, s_ar_rv, s_ar_ar, s_ar_al, s_ar_ro, s_al_1, s_al_2, s_al_kd, s_al_ln, s_al_iv, s_al_jv, s_al_rv, s_al_ar, s_al_al, s_al_ro, s_ro_1, s_ro_2, s_ro_kd, s_ro_ln, s_ro_iv, s_ro_jv, s_ro_rv, s_ro_ar, s_ro_al, s_ro_ro, i10, w1.1]
      rw [mst_n (k := 6) (show R.1 < 24 from hz) (by decide)]
      simp only [WP_bind, WP_some, Option.bind_some, Sum.elim_inl, Sum.elim_inr, ↓reduceIte, up2_e]
      have e5 : (msA M 6 (upd (M.2.2.1 6) R.1 (nI j))).1 5 = nI R.1 := wm.1
      refine ⟨by rw [e5, msI_e], I.row (R' := (R.1 + 1, updN R.2 R.1 j)) (Nat.le_refl _) rfl (fun a _ => AgS.rf _ _) (fun a _ h1 h2 => ((Fr.ar (lo := b + 1) (hi := b + 2) _ (by omega)).tr (Fr.iv (k := 1) _ (by omega))).ag (by omega)) (by
        refine (FM.A _ ?_).tr (FM.I _ ?_)
        · decide
        · decide) ⟨?_, fun k hk => ?_⟩ ⟨?_, fun k hk => ?_⟩ ⟨by show R.1 + 1 ≤ 24; omega, fun k hk => ?_⟩⟩
      · simp only [s_iv_1, s_iv_2, s_iv_kd, s_iv_ln, s_iv_iv, s_iv_jv, s_iv_rv, s_iv_ar, s_iv_al, s_iv_ro, s_jv_1, s_jv_2, s_jv_kd, s_jv_ln, s_jv_iv, s_jv_jv, s_jv_rv, s_jv_ar, s_jv_al, s_jv_ro, s_rv_1, s_rv_2, s_rv_kd, s_rv_ln, s_rv_iv, s_rv_jv, s_rv_rv, s_rv_ar, s_rv_al, s_rv_ro, s_ar_1, s_ar_2, s_ar_kd, s_ar_ln, s_ar_iv, s_ar_jv, s_ar_rv, s_ar_ar, s_ar_al, s_ar_ro, s_al_1, s_al_2, s_al_kd, s_al_ln, s_al_iv, s_al_jv, s_al_rv, s_al_ar, s_al_al, s_al_ro, s_ro_1, s_ro_2, s_ro_kd, s_ro_ln, s_ro_iv, s_ro_jv, s_ro_rv, s_ro_ar, s_ro_al, s_ro_ro, up2_e]; exact nI_1 _
      · simp only [s_iv_1, s_iv_2, s_iv_kd, s_iv_ln, s_iv_iv, s_iv_jv, s_iv_rv, s_iv_ar, s_iv_al, s_iv_ro, s_jv_1, s_jv_2, s_jv_kd, s_jv_ln, s_jv_iv, s_jv_jv, s_jv_rv, s_jv_ar, s_jv_al, s_jv_ro, s_rv_1, s_rv_2, s_rv_kd, s_rv_ln, s_rv_iv, s_rv_jv, s_rv_rv, s_rv_ar, s_rv_al, s_rv_ro, s_ar_1, s_ar_2, s_ar_kd, s_ar_ln, s_ar_iv, s_ar_jv, s_ar_rv, s_ar_ar, s_ar_al, s_ar_ro, s_al_1, s_al_2, s_al_kd, s_al_ln, s_al_iv, s_al_jv, s_al_rv, s_al_ar, s_al_al, s_al_ro, s_ro_1, s_ro_2, s_ro_kd, s_ro_ln, s_ro_iv, s_ro_jv, s_ro_rv, s_ro_ar, s_ro_al, s_ro_ro, va_e]
        show upd _ _ _ _ = nI (if k = R.1 then j else R.2 k)
        by_cases hkr : k = R.1
        · subst hkr; rw [upd_e, if_pos rfl]
        · rw [upd_n hkr, if_neg hkr]; exact w1.2 k (by have : k < R.1 + 1 := hk; omega)
      · rw [msI_e, e5]; exact nI_1 _
      · show (msA M 6 (upd (M.2.2.1 6) R.1 (nI j))).2.2.1 6 k = nI (if k = R.1 then j else R.2 k)
        rw [msA_u]
        by_cases hkr : k = R.1
        · rw [if_pos hkr, if_pos hkr]
        · rw [if_neg hkr, if_neg hkr]; exact wm.2 k (by have : k < R.1 + 1 := hk; omega)
      · show (if k = R.1 then j else R.2 k) ≤ 3
        by_cases hkr : k = R.1
        · rw [if_pos hkr]; exact hj
        · rw [if_neg hkr]; exact wok.2 k (by have : k < R.1 + 1 := hk; omega)
    · have c3 : ¬ nI R.1 < nI 24 := nI_nlt (by omega) (by omega)
      have c4 : nI R.1 = 24 := by rw [show R.1 = 24 by omega]; rfl
      rw [if_pos c4]
      simp only [c3, ↓reduceIte, WP_bind, WP_some, Option.bind_some, Sum.elim_inl, Sum.elim_inr, ↓reduceIte]
      exact ⟨trivial, _, _, _, _, _, _, _, I⟩
