theorem BaseC.add {b : Nat} {C C' : CH} {o ea : Nat} (IB : BaseC b C) (ho : o = b + 3 ∨ o = b + 17 ∨ o = b + 32) (hea : c_rv C o 1 = some ea) (hea2 : c_kd C ea = 23) (h8 : ea < b ∨ b + 81 ≤ ea) (h0 : C.1 ≤ C'.1) (h2 : C'.2.1 = C.2.1) (ho1 : c_kd C' o = 1) (ex : ∃ e', c_rv C' o 1 = some e' ∧ e' < C'.1 ∧ (e' = ea ∧ c_ln C ea ≠ 0 ∨ C.1 ≤ e')) (ag : ∀ a, a < C.1 → a ≠ o → a ≠ ea ∨ c_ln C ea = 0 → AgS (sh C) (sh C') a) : BaseC b C' := by
  obtain ⟨h3, h4, h5, h6, h7, h8', e1, e2, e3, k1, k2, k3, k4, k5, k6, k7, k8, k9, kr⟩ := IB
  have hbo : b ≤ o ∧ o ≤ b + 32 := by clear kr ex ag h8; omega
  have hs3 : ∀ o', (o' = b + 3 ∨ o' = b + 17 ∨ o' = b + 32) → b ≤ o' ∧ o' ≤ b + 32 := fun o' h => by clear kr ex ag h8 ho; omega
  have hne : ∀ a, b ≤ a → a ≤ b + 80 → a ≠ ea := fun a p q => by clear kr ex ag ho hbo; omega
  have g : ∀ a, a < C.1 → a ≠ o → a ≠ ea ∨ c_ln C ea = 0 → AgS (sh C) (sh C') a := ag
  have kdl : ∀ o', (o' = b + 3 ∨ o' = b + 17 ∨ o' = b + 32) → c_kd C' o' = 1 := by
    intro o' ho'
    by_cases hoo : o' = o
    · rw [hoo]; exact ho1
    · have h9 := (g o' (by have := hs3 o' ho'; clear kr ex h8 ho ho'; omega) hoo (Or.inl (hne o' (hs3 o' ho').1 (by have := (hs3 o' ho').2; clear kr ex h8 ho ho'; omega)))).1
      have h10 : c_kd C o' = 1 := by
        rcases ho' with rfl | rfl | rfl
        · exact h3.li.1
        · exact h3.li.2.1
        · exact h3.li.2.2
      exact h9.trans h10
  have rvl : ∀ o', (o' = b + 3 ∨ o' = b + 17 ∨ o' = b + 32) → o' ≠ o → c_rv C' o' 1 = c_rv C o' 1 := fun o' ho' hoo => congrFun (g o' (by have := hs3 o' ho'; clear kr ex h8 ho ho'; omega) hoo (Or.inl (hne o' (hs3 o' ho').1 (by have := (hs3 o' ho').2; clear kr ex h8 ho ho'; omega)))).2.2.1 1
  have hk0 : ∀ e, (e < b ∨ b + 81 ≤ e) → e ≠ o := fun e he => by clear kr ex h8 ho; omega
  have lnl : ∀ e, e < C.1 → (e = ea → c_ln C ea = 0) → (e < b ∨ b + 81 ≤ e) → c_ln C' e = c_ln C e := fun e he h heo => (g e he (hk0 e heo) (by by_cases hee : e = ea; exact Or.inr (h hee); exact Or.inl hee)).2.1
  refine ⟨h3.ag (fun a p q n1 n2 n3 => g a (by clear kr ex h8 ho; omega) (by clear kr ex h8; omega) (Or.inl (hne a p (by clear kr ex h8 ho; omega)))) (kdl _ (Or.inl rfl)) (kdl _ (Or.inr (Or.inl rfl))) (kdl _ (Or.inr (Or.inr rfl))), by clear kr ex h8 ho; omega, fun a p q => ?_, by rw [h2]; exact h6, ?_, ?_, ?_⟩
  · have hae : a ≠ ea := hne a (by clear kr ex h8 ho; omega) q
    exact (g a (by clear kr ex h8 ho; omega) (by clear kr ex h8 ho; omega) (Or.inl hae)).1.trans (h5 a p q)
  · rw [h2]
    by_cases hz : C.2.1.1 = ea
    · exact (g _ (by clear kr ex h8 ho; omega) (by clear kr ex h8 ho; omega) (Or.inr (by rw [← hz]; exact h8'))).1.trans h7
    · exact (g _ (by clear kr ex h8 ho; omega) (by clear kr ex h8 ho; omega) (Or.inl hz)).1.trans h7
  · rw [h2]
    by_cases hz : C.2.1.1 = ea
    · exact (g _ (by clear kr ex h8 ho; omega) (by clear kr ex h8 ho; omega) (Or.inr (by rw [← hz]; exact h8'))).2.1.trans h8'
    · exact (g _ (by clear kr ex h8 ho; omega) (by clear kr ex h8 ho; omega) (Or.inl hz)).2.1.trans h8'
  · obtain ⟨e', x1, x2, x3⟩ := ex
    obtain ⟨r1, r2, r3⟩ := kr
    have x5 : e' < b ∨ b + 81 ≤ e' := by
      rcases x3 with ⟨x3, _⟩ | x3
      · rw [x3]; exact h8
      · exact Or.inr (by clear h8 ho r1 r2 r3; omega)
    have y4 : e1 < C'.1 := Nat.lt_of_lt_of_le k4 h0
    have y5 : e2 < C'.1 := Nat.lt_of_lt_of_le k5 h0
    have y6 : e3 < C'.1 := Nat.lt_of_lt_of_le k6 h0
    have n1 : b + 3 ≠ b + 17 := by simp
    have n2 : b + 3 ≠ b + 32 := by simp
    have n3 : b + 17 ≠ b + 32 := by simp
    rcases ho with ho | ho | ho
    · have hee : ea = e1 := by rw [ho, k1] at hea; exact (Option.some.inj hea).symm
      subst hee
      refine ⟨e', e2, e3, by rw [← ho]; exact x1, (rvl _ (Or.inr (Or.inl rfl)) (by rw [ho]; simp)).trans k2, (rvl _ (Or.inr (Or.inr rfl)) (by rw [ho]; simp)).trans k3, x2, y5, y6, ?_, ?_, ?_, x5, r2, r3⟩
      · intro z
        rcases x3 with ⟨x3, x4⟩ | x3
        · exact absurd (k7 (by rw [← x3, z])) x4
        · exact absurd x3 (by clear h8 r1 r2 r3 x5; omega)
      · intro z
        rcases x3 with ⟨x3, x4⟩ | x3
        · exact absurd (k8 (by rw [← x3, z])) x4
        · exact absurd x3 (by clear h8 r1 r2 r3 x5; omega)
      · intro z
        rw [lnl e2 k5 (fun y => k7 y.symm) r2]
        exact k9 z
    · have hee : ea = e2 := by rw [ho, k2] at hea; exact (Option.some.inj hea).symm
      subst hee
      refine ⟨e1, e', e3, (rvl _ (Or.inl rfl) (by rw [ho]; simp)).trans k1, by rw [← ho]; exact x1, (rvl _ (Or.inr (Or.inr rfl)) (by rw [ho]; simp)).trans k3, y4, x2, y6, ?_, ?_, ?_, r1, x5, r3⟩
      · intro z
        rcases x3 with ⟨x3, x4⟩ | x3
        · exact absurd (by have := k7 (by rw [z, x3]); rw [z, x3] at this; exact this) x4
        · exact absurd x3 (by clear h8 r1 r2 r3 x5; omega)
      · intro z
        rw [lnl e1 k4 (fun y => by have := k7 y; rw [y] at this; exact this) r1]
        exact k8 z
      · intro z
        rcases x3 with ⟨x3, x4⟩ | x3
        · exact absurd (k9 (by rw [← x3, z])) x4
        · exact absurd x3 (by clear h8 r1 r2 r3 x5; omega)
    · have hee : ea = e3 := by rw [ho, k3] at hea; exact (Option.some.inj hea).symm
      subst hee
      refine ⟨e1, e2, e', (rvl _ (Or.inl rfl) (by rw [ho]; simp)).trans k1, (rvl _ (Or.inr (Or.inl rfl)) (by rw [ho]; simp)).trans k2, by rw [← ho]; exact x1, y4, y5, x2, ?_, ?_, ?_, r1, r2, x5⟩
      · intro z
        rw [lnl e1 k4 (fun y => by have := k8 y; rw [y] at this; exact this) r1]
        exact k7 z
      · intro z
        rcases x3 with ⟨x3, x4⟩ | x3
        · exact absurd (by have := k8 (by rw [z, x3]); rw [z, x3] at this; exact this) x4
        · exact absurd x3 (by clear h8 r1 r2 r3 x5; omega)
      · intro z
        rcases x3 with ⟨x3, x4⟩ | x3
        · exact absurd (by have := k9 (by rw [z, x3]); rw [z, x3] at this; exact this) x4
        · exact absurd x3 (by clear h8 r1 r2 r3 x5; omega)
/-- the other lists' rows are not the one that an add may write to -/
theorem SepL.ne {b : Nat} {C : CH} (h : SepL b C) {o o' e e' : Nat} (ho : o = b + 3 ∨ o = b + 17 ∨ o = b + 32) (ho' : o' = b + 3 ∨ o' = b + 17 ∨ o' = b + 32) (hn : o ≠ o') (h1 : c_rv C o 1 = some e) (h2 : c_rv C o' 1 = some e') : e' ≠ e ∨ c_ln C e = 0 := by
  obtain ⟨e1, e2, e3, k1, k2, k3, k4, k5, k6, k7, k8, k9, _⟩ := h
  by_cases hz : e' = e
  · refine Or.inr ?_
    subst hz
    rcases ho with rfl | rfl | rfl <;> rcases ho' with rfl | rfl | rfl
    · exact absurd rfl hn
    · rw [k1] at h1; rw [k2] at h2; cases h1; cases h2; exact k7 rfl
    · rw [k1] at h1; rw [k3] at h2; cases h1; cases h2; exact k8 rfl
    · rw [k2] at h1; rw [k1] at h2; cases h1; cases h2; exact k7 rfl
    · exact absurd rfl hn
    · rw [k2] at h1; rw [k3] at h2; cases h1; cases h2; exact k9 rfl
    · rw [k3] at h1; rw [k1] at h2; cases h1; cases h2; exact k8 rfl
    · rw [k3] at h1; rw [k2] at h2; cases h1; cases h2; exact k9 rfl
    · exact absurd rfl hn
  · exact Or.inl hz
section KEEP2
variable {b : Nat} {H : HX} {S : SX} {T : TX} {bw : Nat} {X : WX} {R : RX} {K : KX} {C C' : CH} {M M' : MS}
theorem InvX.tasks (I : InvX b H S T bw X R K C M) (h0 : C.1 ≤ C'.1) (h2 : C'.2.1 = C.2.1) {ea : Nat} (hea : c_rv C (b + 17) 1 = some ea) (hr : ea < b ∨ b + 81 ≤ ea) (IB' : BaseC b C') (ag : ∀ a, a < C.1 → a ≠ b + 17 → a ≠ b + 18 → a ≠ ea ∨ c_ln C ea = 0 → Agr C C' a) (F : FM [22] [23, 24, 25] M M') {T' : TX} (r1 : TasksC b T' C') (r2 : TasksM T' M') (r3 : TasksOk T') (hp : c_iv C' (b + 18) 5 = 0) : Inv b C' M' := by
  obtain ⟨IB, ⟨h1, hm, hok⟩, ⟨s1, sm, sok⟩, ⟨t1, tm, tok⟩, ⟨b1, bm, bok⟩, ⟨x1, xm, xok⟩, ⟨w1, wm, wok⟩, ⟨k1, km, kok⟩, la, pl⟩ := I
  have hb := IB.2.1
  have sp := IB.2.2.2.2.2.2
  have hkea : c_kd C ea = 23 := by
    obtain ⟨_, _, e, z1, z2, _⟩ := t1.1
    rw [hea] at z1; cases z1; exact z2
  refine ⟨H, S, T', bw, X, R, K, IB', ⟨h1.ag (fun a p q => ag a (by omega) (by omega) (by omega) (by omega)), hm.fr F (by decide) (by decide) (fun j _ => by rw [F.2 13 (by decide)]) hok.1.1, hok⟩, ⟨s1.ag h0 h2 hb (fun a p q z => ag a q (by omega) (by omega) (by
    by_cases hk : c_kd C a = 23
    · exact sp.ne (by omega) (by omega) (by omega) hea (z hk)
    · exact Or.inl (fun y => hk (by rw [y]; exact hkea)))), sm.fr F (by decide) (by decide), sok⟩, ⟨r1, r2, r3⟩, ⟨by rw [(ag b (by omega) (by omega) (by omega) (by omega)).2.2.2.2.1]; exact b1, by rw [F.i (by decide)]; exact bm, bok⟩, ⟨x1.ag h0 h2 hb (fun a p q z => ag a q (by omega) (by omega) (by
    by_cases hk : c_kd C a = 23
    · exact sp.ne (by omega) (by omega) (by omega) hea (z hk)
    · exact Or.inl (fun y => hk (by rw [y]; exact hkea)))), xm.fr F (by decide) (by decide), xok⟩, ⟨w1.ag (ag _ (by omega) (by omega) (by omega) (by omega)) (ag _ (by omega) (by omega) (by omega) (by omega)), wm.fr F (by decide) (by decide), wok⟩, ⟨k1.ag (fun a p q => ag a (by omega) (by omega) (by omega) (by omega)), km.fr F (by decide) (by decide), kok⟩, la.ag (fun a p q => ag a (by omega) (by omega) (by omega) (by omega)) (F.i (by decide)) (F.2 17 (by decide)) (F.2 18 (by decide)), Or.inl hp⟩
theorem InvX.words (I : InvX b H S T bw X R K C M) (h0 : C.1 ≤ C'.1) (h2 : C'.2.1 = C.2.1) {ea : Nat} (hea : c_rv C (b + 32) 1 = some ea) (hr : ea < b ∨ b + 81 ≤ ea) (IB' : BaseC b C') (ag : ∀ a, a < C.1 → a ≠ b + 32 → a ≠ ea ∨ c_ln C ea = 0 → Agr C C' a) (F : FM [30] [31, 32] M M') {X' : WX} (r1 : WordsC b X' C') (r2 : WordsM X' M') (r3 : WordsOk X') : Inv b C' M' := by
  obtain ⟨IB, ⟨h1, hm, hok⟩, ⟨s1, sm, sok⟩, ⟨t1, tm, tok⟩, ⟨b1, bm, bok⟩, ⟨x1, xm, xok⟩, ⟨w1, wm, wok⟩, ⟨k1, km, kok⟩, la, pl⟩ := I
  have hb := IB.2.1
  have sp := IB.2.2.2.2.2.2
  have hkea : c_kd C ea = 23 := by
    obtain ⟨_, _, e, z1, z2, _⟩ := x1.1
    rw [hea] at z1; cases z1; exact z2
  refine ⟨H, S, T, bw, X', R, K, IB', ⟨h1.ag (fun a p q => ag a (by omega) (by omega) (by omega)), hm.fr F (by decide) (by decide) (fun j _ => by rw [F.2 13 (by decide)]) hok.1.1, hok⟩, ⟨s1.ag h0 h2 hb (fun a p q z => ag a q (by omega) (by
    by_cases hk : c_kd C a = 23
    · exact sp.ne (by omega) (by omega) (by omega) hea (z hk)
    · exact Or.inl (fun y => hk (by rw [y]; exact hkea)))), sm.fr F (by decide) (by decide), sok⟩, ⟨t1.ag h0 h2 hb (fun a p q z => ag a q (by omega) (by
    by_cases hk : c_kd C a = 23
    · exact sp.ne (by omega) (by omega) (by omega) hea (z hk)
    · exact Or.inl (fun y => hk (by rw [y]; exact hkea)))), tm.fr F (by decide) (by decide), tok⟩, ⟨by rw [(ag b (by omega) (by omega) (by omega)).2.2.2.2.1]; exact b1, by rw [F.i (by decide)]; exact bm, bok⟩, ⟨r1, r2, r3⟩, ⟨w1.ag (ag _ (by omega) (by omega) (by omega)) (ag _ (by omega) (by omega) (by omega)), wm.fr F (by decide) (by decide), wok⟩, ⟨k1.ag (fun a p q => ag a (by omega) (by omega) (by omega)), km.fr F (by decide) (by decide), kok⟩, la.ag (fun a p q => ag a (by omega) (by omega) (by omega)) (F.i (by decide)) (F.2 17 (by decide)) (F.2 18 (by decide)), pl.ag (ag _ (by omega) (by omega) (by omega)) (ag _ (by omega) (by omega) (by omega))⟩
end KEEP2
theorem op_task {b : Nat} {C : CH} {M : MS} (I : Inv b C M) (gx lx px : Int32) : OP b (t_X11_task b gx lx px C) (g_X12_task gx lx px M) := by
  have I0 := I
  obtain ⟨H, S, T, bw, X, R, K, I⟩ := I
  obtain ⟨IB, _, _, ⟨t1, tm, tok⟩, _⟩ := id I
  obtain ⟨xk, xr0, xr1, xr2, xr3, xr4, xr6, xr7, xr8, xr9, xr10, xr11⟩ := IB.1.x
  have hb := IB.2.1
  have h4 := tok.1
  have kl := IB.1.li.2.1
  unfold t_X11_task g_X12_task
  simp only [isTask_eq, gisTask_eq, Option.bind_some]
  by_cases hv2 : (gx < 1 ∨ 3000 < gx) ∨ (lx < 0 ∨ 1000 < lx) ∨ (px < 0 ∨ 50 < px)
  · simp only [hv2, ↓reduceIte]
    exact op_same I0 _
  obtain ⟨g, hg1, hg2, rfl⟩ := within1_nI (n := 3000) rfl (fun z => hv2 (Or.inl z))
  obtain ⟨l, hl, rfl⟩ := within_nI (n := 1000) rfl (fun z => hv2 (Or.inr (Or.inl z)))
  obtain ⟨p, hp, rfl⟩ := within_nI (n := 50) rfl (fun z => hv2 (Or.inr (Or.inr z)))
  simp only [hv2, ↓reduceIte, i10, tcl_12, tgR_12_0, tpR_12_0, tgR_12_1, tpR_12_1, tgR_12_2, tpR_12_2, tgR_12_3, tpR_12_3, tgR_12_4, tpR_12_4, tgI_12_5, tpI_12_5, tgR_12_6, tpR_12_6, tgR_12_7, tpR_12_7, tgR_12_8, tpR_12_8, tgR_12_9, tpR_12_9, tgR_12_10, tpR_12_10, tgR_12_11, tpR_12_11, tcl_0, tgI_0_0, tpI_0_0, tgR_0_1, tpR_0_1, tgI_0_2, tpI_0_2, xk, xr0, xr1, xr2, xr3, xr4, xr6, xr7, xr8, xr9, xr10, xr11, kl, sizeL_eq, t1.1.2.1, tm.1, Option.bind_some]
  by_cases hz : T.1 < 4
  · have c3 : nI T.1 < 4 := nI_lt (b := 4) hz (by omega)
    have c4 : ¬ nI T.1 = 4 := fun z => by have := (nI_eq (b := 4) (by omega) (by omega)).mp z; omega
    obtain ⟨_, _, ea, hea, he23, _, _, _, her, _⟩ := id t1.1
    simp only [OP, c3, c4, ↓reduceIte, WP_bind, WP_some, Option.bind_some]
    refine WP.mono (newTask_wp (C := C) (nI g) (nI l) (nI p)) (fun D ⟨n1, n2, n3, n4, n5, n6, n7⟩ => ?_)
    have kl2 : c_kd D (b + 17) = 1 := (n7 _ (by omega)).1.trans kl
    simp only [WP_bind, WP_some, Option.bind_some, tcl_0, tgI_0_0, tpI_0_0, tgR_0_1, tpR_0_1, tgI_0_2, tpI_0_2, kl2]
    have LD : ListC D b (b + 17) T.1 T.2.1 := t1.1.ag (Or.inr trivial) (by omega) n2 (fun a _ ha _ => n7 a (by omega)) (by omega)
    have heaD : c_rv D (b + 17) 1 = some ea := by rw [(n7 _ (by omega)).2.2.1]; exact hea
    refine WP.mono (add_wp (x := C.1) LD heaD (by omega) (by rw [n3]; decide) (by omega) (fun i hi => ?_) (by omega) (by omega)) ?_
    · obtain ⟨z1, z2, z3⟩ := t1.2 i hi
      rw [(n7 _ (by omega)).1, z1.1]
      exact ⟨by decide, by decide, by omega⟩
    rintro ⟨q, G⟩ ⟨a1, a2, ⟨e', a3, a4, a5⟩, a6, a7, a8, a9⟩
    dsimp only at a1 a2 a3 a4 a5 a6 a7 a8 a9 ⊢
    have agG : ∀ a, a < C.1 → a ≠ b + 17 → a ≠ ea ∨ c_ln C ea = 0 → Agr C G a := fun a ha h1 h2 => (n7 a (by omega)).tr (a8 a (by omega) h1 (by
      rcases h2 with h2 | h2
      · exact Or.inl h2
      · by_cases hac : a = ea
        · exact Or.inr ((n7 ea (by omega)).2.1.trans h2)
        · exact Or.inl hac))
    have IBG : BaseC b G := IB.add (Or.inr (Or.inl rfl)) hea he23 her (by omega) (by rw [a2, n2]) a6 ⟨e', a3, a4, by
      rcases a5 with ⟨a5, a5'⟩ | a5
      · by_cases hec : ea = C.1
        · exact Or.inr (by omega)
        · exact Or.inl ⟨a5, fun z => a5' ((n7 ea hec).2.1.trans z)⟩
      · exact Or.inr (by omega)⟩ (fun a ha h1 h2 => (agG a ha h1 h2).s)
    obtain ⟨xk, xr0, xr1, xr2, xr3, xr4, xr6, xr7, xr8, xr9, xr10, xr11⟩ := IBG.1.x
    have tk := IBG.1.ts
    simp only [WP_bind, WP_some, Option.bind_some, tcl_12, tgR_12_0, tpR_12_0, tgR_12_1, tpR_12_1, tgR_12_2, tpR_12_2, tgR_12_3, tpR_12_3, tgR_12_4, tpR_12_4, tgI_12_5, tpI_12_5, tgR_12_6, tpR_12_6, tgR_12_7, tpR_12_7, tgR_12_8, tpR_12_8, tgR_12_9, tpR_12_9, tgR_12_10, tpR_12_10, tgR_12_11, tpR_12_11, tcl_0, tgI_0_0, tpI_0_0, tgR_0_1, tpR_0_1, tgI_0_2, tpI_0_2, tcl_10, tgR_10_0, tpR_10_0, tgR_10_1, tpR_10_1, tgR_10_2, tpR_10_2, tgR_10_3, tpR_10_3, tgI_10_4, tpI_10_4, tgI_10_5, tpI_10_5, tgI_10_6, tpI_10_6, tgI_10_7, tpI_10_7, tgI_10_8, tpI_10_8, xk, xr0, xr1, xr2, xr3, xr4, xr6, xr7, xr8, xr9, xr10, xr11, tk, a6, sizeL_eq, s_iv_1, s_iv_2, s_iv_kd, s_iv_ln, s_iv_iv, s_iv_jv, s_iv_rv, s_iv_ar, s_iv_al, s_iv_ro, s_jv_1, s_jv_2, s_jv_kd, s_jv_ln, s_jv_iv, s_jv_jv, s_jv_rv, s_jv_ar, s_jv_al, s_jv_ro, s_rv_1, s_rv_2, s_rv_kd, s_rv_ln, s_rv_iv, s_rv_jv, s_rv_rv, s_rv_ar, s_rv_al, s_rv_ro, s_ar_1, s_ar_2, s_ar_kd, s_ar_ln, s_ar_iv, s_ar_jv, s_ar_rv, s_ar_ar, s_ar_al, s_ar_ro, s_al_1, s_al_2, s_al_kd, s_al_ln, s_al_iv, s_al_jv, s_al_rv, s_al_ar, s_al_al, s_al_ro, s_ro_1, s_ro_2, s_ro_kd, s_ro_ln, s_ro_iv, s_ro_jv, s_ro_rv, s_ro_ar, s_ro_al, s_ro_ro, up2_n (show b + 17 ≠ b + 18 by omega), a7.2.1]
    have hmt := tm.1
    refine mst_wp rfl (show T.1 < 4 from hz) (by decide) (fun N1 G1 i1 r1 => ?_)
    refine mst_wp (by rw [i1]; exact hmt) (show T.1 < 4 from hz) (by decide) (fun N2 G2 i2 r2 => ?_)
    refine mst_wp (by rw [i2, i1]; exact hmt) (show T.1 < 4 from hz) (by decide) (fun N3 G3 i3 r3 => ?_)
    have i3' : N3.1 22 = nI T.1 := by rw [i3, i2, i1]; exact hmt
    simp only [i3']
    have GM : FM [22] [23, 24, 25] M (msI N3 22 (nI T.1 + 1)) := by
      refine ((G1.mono ?_ ?_).tr (G2.mono ?_ ?_)).tr ((G3.mono ?_ ?_).tr (FM.I _ ?_)) <;> decide
    have z23 : ∀ h, N3.2.2.1 23 h = if h = T.1 then nI g else M.2.2.1 23 h := fun h => by rw [G3.2 23 (by decide), G2.2 23 (by decide)]; exact r1 h
    have z24 : ∀ h, N3.2.2.1 24 h = if h = T.1 then nI l else M.2.2.1 24 h := fun h => by rw [G3.2 24 (by decide), r2 h, G1.2 24 (by decide)]
    have z25 : ∀ h, N3.2.2.1 25 h = if h = T.1 then nI p else M.2.2.1 25 h := fun h => by rw [r3 h, G2.2 25 (by decide), G1.2 25 (by decide)]
    have agZ : ∀ a, a ≠ b + 18 → Agr G (s_iv G (up2 (c_iv G) (b + 18) 5 0)) a := fun a ha => (Fr.iv (lo := b + 18) (hi := b + 18) _ (by omega)).ag (by omega)
    refine ⟨by rw [msI_e, nI_1], I.tasks (T' := (T.1 + 1, updN T.2.1 T.1 C.1, updN T.2.2.1 T.1 g, updN T.2.2.2.1 T.1 l, updN T.2.2.2.2 T.1 p)) (by show C.1 ≤ G.1; omega) (by show G.2.1 = _; rw [a2, n2]) hea her (IBG.ag (Nat.le_refl _) rfl (fun a _ => AgS.rf _ _)) (fun a ha h1 h2 h3 => (agG a ha h1 h3).tr (agZ a h2)) GM ⟨a7.ag (Or.inr trivial) (Nat.le_refl _) rfl (fun a _ _ _ => agZ a (by omega)) (by omega), fun i hi => ?_⟩ ⟨?_, fun i hi => ?_⟩ ⟨by show T.1 + 1 ≤ 4; omega, fun i hi => ?_⟩ ?_⟩
    · have hi' : i < T.1 + 1 := hi
      show TaskV _ (updN T.2.1 T.1 C.1 i) (updN T.2.2.1 T.1 g i) (updN T.2.2.2.1 T.1 l i) (updN T.2.2.2.2 T.1 p i) ∧ b + 81 ≤ updN T.2.1 T.1 C.1 i ∧ updN T.2.1 T.1 C.1 i < G.1
      unfold updN
      by_cases e : i = T.1
      · simp only [e, ↓reduceIte]
        have hce : C.1 ≠ ea ∨ c_ln D ea = 0 := by
          by_cases hce : C.1 = ea
          · exfalso
            rw [← hce] at heaD
            obtain ⟨_, _, e9, z1, z2, _⟩ := LD
            rw [heaD] at z1; cases z1
            rw [n3] at z2; exact absurd z2 (by decide)
          · exact Or.inl hce
        have h9 : TaskV G C.1 g l p := TaskV.ag ⟨n3, n4, n5, n6⟩ (a8 C.1 (by omega) (by omega) hce)
        exact ⟨h9.ag (agZ _ (by omega)), by omega, by omega⟩
      · simp only [e, ↓reduceIte]
        obtain ⟨z1, z2, z3⟩ := t1.2 i (by omega)
        have hne : T.2.1 i ≠ ea := fun y => by rw [← y, z1.1] at he23; exact absurd he23 (by decide)
        exact ⟨(z1.ag (agG _ z3 (by omega) (Or.inl hne))).ag (agZ _ (by omega)), z2, by omega⟩
    · rw [msI_e, nI_1]
    · have hi' : i < T.1 + 1 := hi
      show N3.2.2.1 23 i = _ ∧ N3.2.2.1 24 i = _ ∧ N3.2.2.1 25 i = _
      simp only [updN_nI]
      rw [z23, z24, z25]
      by_cases e : i = T.1
      · simp only [e, ↓reduceIte, and_self]
      · simp only [e, ↓reduceIte]; exact tm.2 i (by omega)
    · have hi' : i < T.1 + 1 := hi
      show 1 ≤ updN T.2.2.1 T.1 g i ∧ updN T.2.2.1 T.1 g i ≤ 3000 ∧ updN T.2.2.2.1 T.1 l i ≤ 1000 ∧ updN T.2.2.2.2 T.1 p i ≤ 50
      unfold updN
      by_cases e : i = T.1
      · simp only [e, ↓reduceIte]; exact ⟨hg1, hg2, hl, hp⟩
      · simp only [e, ↓reduceIte]; exact tok.2 i (by omega)
    · simp only [s_iv_1, s_iv_2, s_iv_kd, s_iv_ln, s_iv_iv, s_iv_jv, s_iv_rv, s_iv_ar, s_iv_al, s_iv_ro, s_jv_1, s_jv_2, s_jv_kd, s_jv_ln, s_jv_iv, s_jv_jv, s_jv_rv, s_jv_ar, s_jv_al, s_jv_ro, s_rv_1, s_rv_2, s_rv_kd, s_rv_ln, s_rv_iv, s_rv_jv, s_rv_rv, s_rv_ar, s_rv_al, s_rv_ro, s_ar_1, s_ar_2, s_ar_kd, s_ar_ln, s_ar_iv, s_ar_jv, s_ar_rv, s_ar_ar, s_ar_al, s_ar_ro, s_al_1, s_al_2, s_al_kd, s_al_ln, s_al_iv, s_al_jv, s_al_rv, s_al_ar, s_al_al, s_al_ro, s_ro_1, s_ro_2, s_ro_kd, s_ro_ln, s_ro_iv, s_ro_jv, s_ro_rv, s_ro_ar, s_ro_al, s_ro_ro]; exact up2_e _ _ _ _
  · have c3 : ¬ nI T.1 < 4 := nI_nlt (b := 4) (by omega) (by omega)
    have c4 : nI T.1 = 4 := by rw [show T.1 = 4 by omega]; rfl
    rw [if_pos c4]
    simp only [c3, ↓reduceIte, Option.bind_some]
    exact op_same I0 _
