/-- how far two songs are apart -/
def far2 (S : SX) (s o : Nat) : Nat := ed (S.2.2.2.2.1 s) (S.2.2.2.2.1 o) (S.2.2.1 s) (S.2.2.1 o) + ed (S.2.2.2.2.2 s) (S.2.2.2.2.2 o) (S.2.2.2.1 s) (S.2.2.2.1 o)
theorem distance_wp {C : CH} {b s o : Nat} {S : SX} (Q : KinS (sh C) (b + 47)) (s1 : SongsC b S C) (sok : SongsOk S) (hs : s < S.1) (ho : o < S.1) : WP (t_X2_distance (b + 47) (S.2.1 s) (S.2.1 o) C) (fun r => r.1 = nI (far2 S s o) ∧ Fr (b + 48) (b + 48) C r.2 ∧ c_iv r.2 = c_iv C) := by
  obtain ⟨a1, a2, a3, a4, a5⟩ := s1.2 s hs
  obtain ⟨b1, b2, b3, b4, b5⟩ := s1.2 o ho
  obtain ⟨qk, _⟩ := Q.f
  unfold t_X2_distance
  obtain ⟨gk, gr0, gr1, _⟩ := a1.f
  obtain ⟨fk, fr0, fr1, _⟩ := b1.f
  simp only [WP_bind, WP_some, Option.bind_some, tcl_8, tgR_8_0, tpR_8_0, tgR_8_1, tpR_8_1, tcl_3, tgR_3_0, tpR_3_0, tgR_3_1, tpR_3_1, tgR_3_2, tpR_3_2, gk, gr0, fk, fr0, qk]
  obtain ⟨v1, v2, v3, v4, v5, v6, v7⟩ := a2
  obtain ⟨w1, w2, w3, w4, w5, w6, w7⟩ := b2
  refine WP.mono (changes_wp (x := S.2.2.2.2.1 s) (y := S.2.2.2.2.1 o) Q a1.2.2.2.1 b1.2.2.2.1 v1 w1 v6 w6 v3 w3 (sok.2 s hs).1 (sok.2 o ho).1 (by omega) (by omega)) ?_
  rintro ⟨z, D⟩ ⟨e1, F, e2⟩
  dsimp only at e1 F e2
  subst e1
  have F' : Fr (b + 48) (b + 48) C D := F
  have hsh := F.2.2.1
  obtain ⟨gk, gr0, gr1, _⟩ := (a1.tr hsh).f
  obtain ⟨fk, fr0, fr1, _⟩ := (b1.tr hsh).f
  have Q' : KinS (sh D) (b + 47) := Q.ag (fun a _ _ => AgS.of hsh a)
  obtain ⟨qk, _⟩ := Q'.f
  simp only [WP_bind, WP_some, Option.bind_some, tcl_8, tgR_8_0, tpR_8_0, tgR_8_1, tpR_8_1, tcl_3, tgR_3_0, tpR_3_0, tgR_3_1, tpR_3_1, tgR_3_2, tpR_3_2, gk, gr1, fk, fr1, qk]
  refine WP.mono (changes_wp (x := S.2.2.2.2.2 s) (y := S.2.2.2.2.2 o) Q' (a1.tr hsh).2.2.2.2 (b1.tr hsh).2.2.2.2 (by rw [e2]; exact v2) (by rw [e2]; exact w2) (by omega) (by omega) (fun k hk => ?_) (fun k hk => ?_) (sok.2 s hs).2 (sok.2 o ho).2 (by omega) (by omega)) ?_
  · rw [(F'.2.2.2 _ (by omega)).1]; exact v4 k hk
  · rw [(F'.2.2.2 _ (by omega)).1]; exact w4 k hk
  · rintro ⟨z, E⟩ ⟨e1, F2, e3⟩
    dsimp only at e1 F2 e3
    subst e1
    have F2' : Fr (b + 48) (b + 48) D E := F2
    exact ⟨nI_add _ _, F'.tr F2', by rw [e3, e2]⟩
theorem apartOf_wp {M : MS} {s o : Nat} {S : SX} (sm : SongsM S M) (sok : SongsOk S) (hs : s < S.1) (ho : o < S.1) : WP (g_X12_apartOf (nI s) (nI o) M) (fun r => r.1 = nI (far2 S s o) ∧ FM [] [43] M r.2) := by
  obtain ⟨v1, v2, v3, v4, v5, v6, v7⟩ := sm.2 s hs
  obtain ⟨w1, w2, w3, w4, w5, w6, w7⟩ := sm.2 o ho
  have h6 := sok.1
  unfold g_X12_apartOf
  simp only [WP_bind, WP_some]
  refine WP.mono (apartBy1_wp (x := S.2.2.2.2.1 s) (y := S.2.2.2.2.1 o) (by omega) (by omega) v1 w1 v6 w6 v3 w3 (sok.2 s hs).1 (sok.2 o ho).1) ?_
  rintro ⟨z, N⟩ ⟨e1, F⟩
  dsimp only at e1 F
  subst e1
  dsimp only
  refine WP.mono (apartBy0_wp (x := S.2.2.2.2.2 s) (y := S.2.2.2.2.2 o) (by omega) (by omega) (by rw [F.2 2 (by decide)]; exact v2) (by rw [F.2 2 (by decide)]; exact w2) v7 w7 (by rw [F.2 4 (by decide)]; exact v4) (by rw [F.2 4 (by decide)]; exact w4) (sok.2 s hs).2 (sok.2 o ho).2) ?_
  rintro ⟨z, N2⟩ ⟨e1, F2⟩
  dsimp only at e1 F2
  subst e1
  exact ⟨nI_add _ _, F.tr F2⟩
theorem far2_le {S : SX} {M : MS} (sm : SongsM S M) {s o : Nat} (hs : s < S.1) (ho : o < S.1) : far2 S s o ≤ 100 := by
  obtain ⟨_, _, _, _, _, v6, v7⟩ := sm.2 s hs
  obtain ⟨_, _, _, _, _, w6, w7⟩ := sm.2 o ho
  have h1 := ed_le (S.2.2.2.2.1 s) (S.2.2.2.2.1 o) (S.2.2.1 s) (S.2.2.1 o)
  have h2 := ed_le (S.2.2.2.2.2 s) (S.2.2.2.2.2 o) (S.2.2.2.1 s) (S.2.2.2.1 o)
  unfold far2
  omega
theorem op_apart {b : Nat} {C : CH} {M : MS} (I : Inv b C M) (x y : Int32) : OP b (t_X11_apart b x y C) (g_X12_apart x y M) := by
  have I0 := I
  obtain ⟨H, S, T, bw, X, R, K, I⟩ := I
  obtain ⟨IB, _, ⟨s1, sm, sok⟩, _, _, _, _, _, _, pl⟩ := id I
  obtain ⟨xk, xr0, xr1, xr2, xr3, xr4, xr6, xr7, xr8, xr9, xr10, xr11⟩ := IB.1.x
  have hb := IB.2.1
  have h6 := sok.1
  obtain ⟨qk, _⟩ := IB.1.2.2.2.2.2.2.2.2.1.f
  unfold t_X11_apart g_X12_apart
  rw [noSong_eq sm]
  have sy := fun hy => (songOf_eq IB s1 y).1 hy
  by_cases hv : x < 0 ∨ nI S.1 - 1 < x
  · simp only [hv, ↓reduceIte, i10, tcl_12, tgR_12_0, tpR_12_0, tgR_12_1, tpR_12_1, tgR_12_2, tpR_12_2, tgR_12_3, tpR_12_3, tgR_12_4, tpR_12_4, tgI_12_5, tpI_12_5, tgR_12_6, tpR_12_6, tgR_12_7, tpR_12_7, tgR_12_8, tpR_12_8, tgR_12_9, tpR_12_9, tgR_12_10, tpR_12_10, tgR_12_11, tpR_12_11, xk, Option.bind_some, (songOf_eq IB s1 x).1 hv, Option.elim]
    by_cases hv2 : y < 0 ∨ nI S.1 - 1 < y
    · simp only [(songOf_eq IB s1 y).1 hv2, Option.bind_some]
      exact op_same I0 _
    · obtain ⟨j, hj, rfl⟩ := in_n (by omega) hv2
      simp only [(songOf_eq IB s1 (nI j)).2 j hj h6 rfl, Option.bind_some]
      exact op_same I0 _
  · obtain ⟨i, hi, rfl⟩ := in_n (by omega) hv
    simp only [hv, ↓reduceIte, i10, tcl_12, tgR_12_0, tpR_12_0, tgR_12_1, tpR_12_1, tgR_12_2, tpR_12_2, tgR_12_3, tpR_12_3, tgR_12_4, tpR_12_4, tgI_12_5, tpI_12_5, tgR_12_6, tpR_12_6, tgR_12_7, tpR_12_7, tgR_12_8, tpR_12_8, tgR_12_9, tpR_12_9, tgR_12_10, tpR_12_10, tgR_12_11, tpR_12_11, xk, Option.bind_some, (songOf_eq IB s1 (nI i)).2 i hi h6 rfl, Option.elim]
    rw [noSong_eq sm]
    by_cases hv2 : y < 0 ∨ nI S.1 - 1 < y
    · simp only [hv2, ↓reduceIte, i10, (songOf_eq IB s1 y).1 hv2, Option.bind_some]
      exact op_same I0 _
    · obtain ⟨j, hj, rfl⟩ := in_n (by omega) hv2
      simp only [OP, hv2, ↓reduceIte, (songOf_eq IB s1 (nI j)).2 j hj h6 rfl, Option.bind_some, WP_bind, WP_some, tcl_12, tgR_12_0, tpR_12_0, tgR_12_1, tpR_12_1, tgR_12_2, tpR_12_2, tgR_12_3, tpR_12_3, tgR_12_4, tpR_12_4, tgI_12_5, tpI_12_5, tgR_12_6, tpR_12_6, tgR_12_7, tpR_12_7, tgR_12_8, tpR_12_8, tgR_12_9, tpR_12_9, tgR_12_10, tpR_12_10, tgR_12_11, tpR_12_11, tcl_3, tgR_3_0, tpR_3_0, tgR_3_1, tpR_3_1, tgR_3_2, tpR_3_2, xk, xr0, xr1, xr2, xr3, xr4, xr6, xr7, xr8, xr9, xr10, xr11, qk]
      refine WP.mono (distance_wp IB.1.2.2.2.2.2.2.2.2.1 s1 sok hi hj) ?_
      rintro ⟨z, D⟩ ⟨e1, F, e2⟩
      dsimp only at e1 F e2
      subst e1
      refine WP.mono (apartOf_wp sm sok hi hj) ?_
      rintro ⟨z, N⟩ ⟨e1, F2⟩
      dsimp only at e1 F2
      subst e1
      exact ⟨rfl, I.scr (by rw [F.1]; exact Nat.le_refl _) F.2.1 (fun a _ => AgS.of F.2.2.1 a) (fun a _ _ _ h3 => F.ag (by omega)) (F2.mono (fun k h => absurd h List.not_mem_nil) (by decide)) (fun j _ => by rw [F2.2 13 (by decide)]) (pl.ag (F.ag (by omega)) (F.ag (by omega)))⟩
/-- the search for what hangs next: the class's numbers and the reference's -/
def TRel (ns inn : Nat) (fnd : Prop) (l nx t bst l2 t2 : Int32) : Prop := l2 = l ∧ t2 = t ∧ ((l = 1000000000 ∧ ¬ fnd) ∨ ∃ d a, d < 1000 ∧ l = nI d ∧ a < ns ∧ inn.testBit a = false ∧ bst = nI a ∧ nx = nI a)
theorem TRel.mono {ns inn : Nat} {f g : Prop} {l nx t bst l2 t2 : Int32} (h : TRel ns inn f l nx t bst l2 t2) (hfg : g → f) : TRel ns inn g l nx t bst l2 t2 := by
  obtain ⟨h1, h2, h3⟩ := h
  refine ⟨h1, h2, ?_⟩
  rcases h3 with ⟨h3, h4⟩ | h3
  · exact Or.inl ⟨h3, fun z => h4 (hfg z)⟩
  · exact Or.inr h3
def HungC (D : CH) (q inn : Nat) : Prop := ∀ s, s < 6 → c_ar D (q + 3) s = if inn.testBit s = true then 1 else 0
theorem SongsC.fr {C D : CH} {b lo hi : Nat} {S : SX} (s1 : SongsC b S C) (hb : b + 81 ≤ C.1) (F : Fr lo hi C D) (h1 : b + 4 ≤ lo) (h2 : hi ≤ b + 80) : SongsC b S D := s1.ag (by rw [F.1]; exact Nat.le_refl _) F.2.1 hb (fun a p q _ => F.ag (by omega))
theorem hungInner {b : Nat} {S : SX} {C D : CH} {N : MS} {inn s : Nat} {l nx t bst xq : Int32} {fnd : Prop} (Q : KinS (sh C) (b + 47)) (s1 : SongsC b S C) (hb : b + 81 ≤ C.1) (sok : SongsOk S) (hs : s < S.1) (hinn : inn < 2 ^ 31) (h0 : inn.testBit 0 = true) (hsb : inn.testBit s = false) (F : Fr (b + 48) (b + 48) C D) (HC : HungC D (b + 47) inn) (sm : SongsM S N) (R : TRel S.1 inn fnd l nx t bst l t) :
    WP (iter (t_X2_hangNearest_L30 (b + 47) (b + 3) (nI s)) 100000 (l, nx, t, 0, D)) (fun r => WP (iter (g_X12_findTree_L48 (nI inn) xq (nI s)) 100000 (bst, l, t, 0, N)) (fun r' => TRel S.1 inn True r.1 r.2.1 r.2.2.1 r'.1 r'.2.1 r'.2.2.1 ∧ Fr (b + 48) (b + 48) C r.2.2.2 ∧ FM [] [43] N r'.2.2.2)) := by
  have h6 := sok.1
  refine WP.it2 (fun r x y => x.2.2.2.1 = nI r ∧ y.2.2.2.1 = nI r ∧ TRel S.1 inn (fnd ∨ 0 < r) x.1 x.2.1 x.2.2.1 y.1 y.2.1 y.2.2.1 ∧ Fr (b + 48) (b + 48) C x.2.2.2.2 ∧ FM [] [43] N y.2.2.2.2) S.1 ?_ 100000 0 _ _ ?_ (Nat.zero_le _) (by omega)
  · rintro r ⟨l, nx, t, ri, E⟩ ⟨bst, l2, t2, ri2, N2⟩ hr ⟨e1, e2, R, G, GM⟩
    dsimp only at e1 e2 R G GM
    subst e1
    subst e2
    have s1' := s1.fr hb G (by omega) (by omega)
    have Q' : KinS (sh E) (b + 47) := Q.ag (fun a _ _ => AgS.of G.2.2.1 a)
    obtain ⟨qk, qr0, qk0, ql0, qr1, qk1, ql1, qr2, qk2, ql2⟩ := Q'.f
    have kl := s1'.1.1
    unfold t_X2_hangNearest_L30 g_X12_findTree_L48
    dsimp only
    simp only [tcl_0, tgI_0_0, tpI_0_0, tgR_0_1, tpR_0_1, tgI_0_2, tpI_0_2, kl, sizeL_eq, s1'.1.2.1, Option.bind_some, GM.i (show 0 ∉ ([] : List Nat) by decide), sm.1]
    by_cases hlt : r < S.1
    · have c1 : ¬ nI S.1 ≤ nI r := nI_ge hlt (by omega)
      have c2 : ¬ (6 : Int32) ≤ nI r := nI_ge (b := 6) (by omega) (by omega)
      have d1 : s < 6 := by omega
      have d2 : r < 6 := by omega
      have hcs : c_ar E (b + 47 + 3) s = 0 := by
        rw [(G.2.2.2 _ (by omega)).1, ← (F.2.2.2 _ (by omega)).1, HC s d1, hsb]; rfl
      have hcr : c_ar E (b + 47 + 3) r = if inn.testBit r = true then 1 else 0 := by
        rw [(G.2.2.2 _ (by omega)).1, ← (F.2.2.2 _ (by omega)).1, HC r d2]
      have c3 : ((nI inn >>> (nI s &&& 31)) &&& 1) = 0 := (nI_bit0 hinn (by omega)).mpr hsb
      simp only [c1, c2, ↓reduceIte, tcl_3, tgR_3_0, tpR_3_0, tgR_3_1, tpR_3_1, tgR_3_2, tpR_3_2, Nat.reduceLT, tld_n, tst_n, tldB_n, tstB_n, tldR3_n, tldR4_n, tldJ_n, tstJ_n, tlen_I, tlen_R, qk, qr0, qk0, ql0, qr1, qk1, ql1, qr2, qk2, ql2, d1, d2, hcs, hcr, Option.bind_some, c3]
      by_cases hrb : inn.testBit r = true
      · have c4 : ((nI inn >>> (nI r &&& 31)) &&& 1) = 1 := (nI_bit hinn (by omega)).mpr hrb
        obtain ⟨a1, _⟩ := s1'.2 s hs
        obtain ⟨b1, _⟩ := s1'.2 r hlt
        obtain ⟨gk, _⟩ := a1.f
        obtain ⟨fk, _⟩ := b1.f
        simp only [hrb, ↓reduceIte, i10, c4, tcl_0, tgI_0_0, tpI_0_0, tgR_0_1, tpR_0_1, tgI_0_2, tpI_0_2, tcl_8, tgR_8_0, tpR_8_0, tgR_8_1, tpR_8_1, tcl_3, tgR_3_0, tpR_3_0, tgR_3_1, tpR_3_1, tgR_3_2, tpR_3_2, kl, get_eq s1'.1 hs, get_eq s1'.1 hlt, gk, fk, qk, Option.bind_some, WP_bind, WP_some]
        refine WP.mono (distance_wp Q' s1' sok hs hlt) ?_
        rintro ⟨z, E2⟩ ⟨e1, G2, e2⟩
        dsimp only at e1 G2 e2
        subst e1
        have hfar := far2_le sm hs hlt
        have sm' := sm.fr GM (by decide) (by decide)
        have G3 := G.tr G2
        obtain ⟨r1, r2, r3⟩ := R
        subst r1
        subst r2
        dsimp only
        have big : ¬ (1000000000 : Int32) ≤ nI (far2 S s r) := nI_ge (b := 1000000000) (by omega) (by omega)
        by_cases hc : l2 ≤ nI (far2 S s r)
        · rw [if_pos hc]
          simp only [WP_some]
          refine WP.mono (apartOf_wp sm' sok hs hlt) ?_
          rintro ⟨z, N3⟩ ⟨e1, GM2⟩
          dsimp only at e1 GM2
          subst e1
          simp only [g_X12_findTree_L48_J89, hc, WP_bind, WP_some, Option.bind_some, Sum.elim_inl, Sum.elim_inr, ↓reduceIte]
          refine ⟨hlt, nI_1 r, nI_1 r, ⟨rfl, rfl, ?_⟩, G3, GM.tr GM2⟩
          rcases r3 with ⟨r3, _⟩ | r3
          · rw [r3] at hc; exact absurd hc big
          · exact Or.inr r3
        · rw [if_neg hc]
          simp only [WP_some]
          refine WP.mono (apartOf_wp sm' sok hs hlt) ?_
          rintro ⟨z, N3⟩ ⟨e1, GM2⟩
          dsimp only at e1 GM2
          subst e1
          simp only [g_X12_findTree_L48_J89, hc, WP_bind, WP_some, Option.bind_some, Sum.elim_inl, Sum.elim_inr, ↓reduceIte]
          exact ⟨hlt, nI_1 r, nI_1 r, ⟨rfl, rfl, Or.inr ⟨far2 S s r, s, by omega, rfl, hs, hsb, rfl, rfl⟩⟩, G3, GM.tr GM2⟩
      · have hrb' : inn.testBit r = false := by simpa using hrb
        have c4 : ¬ ((nI inn >>> (nI r &&& 31)) &&& 1) = 1 := fun z => hrb ((nI_bit hinn (by omega)).mp z)
        have hr0 : r ≠ 0 := fun z => by rw [z, h0] at hrb'; exact absurd hrb' (by decide)
        obtain ⟨r1, r2, r3⟩ := R
        subst r1
        subst r2
        have hc : l2 ≤ 1000000000 := by
          rcases r3 with ⟨r3, _⟩ | ⟨d, a, r4, r5, _⟩
          · rw [r3]; decide
          · rw [r5]; exact nI_le (b := 1000000000) (by omega) (by omega)
        simp only [hrb, ↓reduceIte, Bool.false_eq_true, c4, g_X12_findTree_L48_J89, hc, WP_bind, WP_some, Option.bind_some, Sum.elim_inl, Sum.elim_inr, ↓reduceIte]
        refine ⟨hlt, nI_1 r, nI_1 r, TRel.mono ⟨rfl, rfl, r3⟩ (fun z => ?_), G, GM⟩
        rcases z with z | z
        · exact Or.inl z
        · exact Or.inr (by omega)
    · have hii : r = S.1 := by omega
      subst hii
      have c1 : nI S.1 ≤ nI S.1 := nI_le (Nat.le_refl _) (by omega)
      simp only [c1, WP_bind, WP_some, Option.bind_some, Sum.elim_inl, Sum.elim_inr, ↓reduceIte]
      exact ⟨R.mono (fun _ => Or.inr (by omega)), G, GM⟩
  · refine ⟨rfl, rfl, R.mono (fun z => ?_), F, FM.rf _ _ _⟩
    rcases z with z | z
    · exact z
    · exact absurd z (Nat.lt_irrefl _)
/-- all pairs are looked at -/
theorem hungOuter {b : Nat} {S : SX} {C : CH} {M : MS} {inn : Nat} {xq : Int32} (Q : KinS (sh C) (b + 47)) (s1 : SongsC b S C) (hb : b + 81 ≤ C.1) (sok : SongsOk S) (hinn : inn < 2 ^ 31) (h0 : inn.testBit 0 = true) (HC : HungC C (b + 47) inn) (sm : SongsM S M) :
    WP (iter (t_X2_hangNearest_L11 (b + 47) (b + 3)) 100000 (1000000000, 0, (-1), 0, C)) (fun r => WP (iter (g_X12_findTree_L36 (nI inn) xq) 100000 ((-1), 1000000000, (-1), 0, M)) (fun r' => TRel S.1 inn (∃ s, s < S.1 ∧ inn.testBit s = false) r.1 r.2.1 r.2.2.1 r'.1 r'.2.1 r'.2.2.1 ∧ Fr (b + 48) (b + 48) C r.2.2.2 ∧ FM [] [43] M r'.2.2.2)) := by
  have h6 := sok.1
  refine WP.it2 (fun s x y => x.2.2.2.1 = nI s ∧ y.2.2.2.1 = nI s ∧ TRel S.1 inn (∃ s', s' < s ∧ inn.testBit s' = false) x.1 x.2.1 x.2.2.1 y.1 y.2.1 y.2.2.1 ∧ Fr (b + 48) (b + 48) C x.2.2.2.2 ∧ FM [] [43] M y.2.2.2.2) S.1 ?_ 100000 0 _ _ ?_ (Nat.zero_le _) (by omega)
  · rintro s ⟨l, nx, t, si, E⟩ ⟨bst, l2, t2, si2, N⟩ hs ⟨e1, e2, R, G, GM⟩
    dsimp only at e1 e2 R G GM
    subst e1
    subst e2
    have s1' := s1.fr hb G (by omega) (by omega)
    have Q' : KinS (sh E) (b + 47) := Q.ag (fun a _ _ => AgS.of G.2.2.1 a)
    have kl := s1'.1.1
    obtain ⟨r1, r2, r3⟩ := R
    subst r1
    subst r2
    unfold t_X2_hangNearest_L11 g_X12_findTree_L36
    dsimp only
    simp only [tcl_0, tgI_0_0, tpI_0_0, tgR_0_1, tpR_0_1, tgI_0_2, tpI_0_2, kl, sizeL_eq, s1'.1.2.1, Option.bind_some, GM.i (show 0 ∉ ([] : List Nat) by decide), sm.1]
    by_cases hlt : s < S.1
    · have c1 : ¬ nI S.1 ≤ nI s := nI_ge hlt (by omega)
      have c2 : ¬ (6 : Int32) ≤ nI s := nI_ge (b := 6) (by omega) (by omega)
      simp only [c1, c2, ↓reduceIte]
      by_cases hsb : inn.testBit s = true
      · -- it hangs already: nothing changes
        have key : WP (iter (t_X2_hangNearest_L30 (b + 47) (b + 3) (nI s)) 100000 (l2, nx, t2, 0, E)) (fun r => r = (l2, nx, t2, E)) := by
          refine WP.it (fun r x => x = (l2, nx, t2, nI r, E)) S.1 ?_ 100000 0 _ rfl (Nat.zero_le _) (by omega)
          rintro r x hr rfl
          obtain ⟨qk, qr0, qk0, ql0, qr1, qk1, ql1, qr2, qk2, ql2⟩ := Q'.f
          unfold t_X2_hangNearest_L30
          dsimp only
          simp only [tcl_0, tgI_0_0, tpI_0_0, tgR_0_1, tpR_0_1, tgI_0_2, tpI_0_2, kl, sizeL_eq, s1'.1.2.1, Option.bind_some]
          by_cases hrl : r < S.1
          · have c1 : ¬ nI S.1 ≤ nI r := nI_ge hrl (by omega)
            have c2 : ¬ (6 : Int32) ≤ nI r := nI_ge (b := 6) (by omega) (by omega)
            have d1 : s < 6 := by omega
            have hcs : c_ar E (b + 47 + 3) s = 1 := by
              rw [(G.2.2.2 _ (by omega)).1, HC s d1, hsb]; rfl
            simp only [c1, c2, ↓reduceIte, tcl_3, tgR_3_0, tpR_3_0, tgR_3_1, tpR_3_1, tgR_3_2, tpR_3_2, Nat.reduceLT, tld_n, tst_n, tldB_n, tstB_n, tldR3_n, tldR4_n, tldJ_n, tstJ_n, tlen_I, tlen_R, qk, qr0, qk0, ql0, qr1, qk1, ql1, qr2, qk2, ql2, d1, hcs, Option.bind_some, i10, WP_bind, WP_some, Option.bind_some, Sum.elim_inl, Sum.elim_inr, ↓reduceIte]
            exact ⟨hrl, by rw [nI_1]⟩
          · have hii : r = S.1 := by omega
            subst hii
            have c1 : nI S.1 ≤ nI S.1 := nI_le (Nat.le_refl _) (by omega)
            simp only [c1, WP_bind, WP_some, Option.bind_some, Sum.elim_inl, Sum.elim_inr, ↓reduceIte]
        obtain ⟨_, k1, rfl⟩ := key
        have key2 : iter (g_X12_findTree_L48 (nI inn) xq (nI s)) 100000 (bst, l2, t2, 0, N) = some (bst, l2, t2, N) := by
          have c3 : ¬ ((nI inn >>> (nI s &&& 31)) &&& 1) = 0 := fun z => by rw [(nI_bit0 hinn (by omega)).mp z] at hsb; exact absurd hsb (by decide)
          have hb1 : g_X12_findTree_L48 (nI inn) xq (nI s) (bst, l2, t2, 0, N) = some (.inr (bst, l2, t2, N)) := by
            unfold g_X12_findTree_L48
            dsimp only
            by_cases hz : N.1 0 ≤ 0
            · rw [if_pos hz]
            · rw [if_neg hz, if_neg c3]
          show iter _ (99999 + 1) _ = _
          unfold iter
          rw [hb1]
        rw [k1, key2]
        simp only [WP_bind, WP_some, Option.bind_some, Sum.elim_inl, Sum.elim_inr, ↓reduceIte]
        refine ⟨hlt, nI_1 s, nI_1 s, TRel.mono ⟨rfl, rfl, r3⟩ ?_, G, GM⟩
        rintro ⟨s', p, q⟩
        by_cases hss : s' = s
        · rw [hss, hsb] at q; exact absurd q (by decide)
        · exact ⟨s', by omega, q⟩
      · have hsb' : inn.testBit s = false := by simpa using hsb
        simp only [WP_bind, WP_some]
        refine WP.mono (hungInner (xq := xq) Q s1 hb sok hlt hinn h0 hsb' G (fun s hs => by rw [(G.2.2.2 _ (by omega)).1]; exact HC s hs) (sm.fr GM (by decide) (by decide)) ⟨rfl, rfl, r3⟩) ?_
        rintro ⟨l3, nx3, t3, E3⟩ h
        simp only [WP_bind, WP_some]
        refine WP.mono h ?_
        rintro ⟨b4, l4, t4, N4⟩ ⟨R4, G4, GM4⟩
        dsimp only at R4 G4 GM4 ⊢
        exact ⟨hlt, nI_1 s, nI_1 s, R4.mono (fun _ => trivial), G4, GM.tr GM4⟩
    · have hii : s = S.1 := by omega
      subst hii
      have c1 : nI S.1 ≤ nI S.1 := nI_le (Nat.le_refl _) (by omega)
      simp only [c1, WP_bind, WP_some, Option.bind_some, Sum.elim_inl, Sum.elim_inr, ↓reduceIte]
      exact ⟨⟨rfl, rfl, r3⟩, G, GM⟩
  · refine ⟨rfl, rfl, ⟨rfl, rfl, Or.inl ⟨rfl, ?_⟩⟩, Fr.rf _ _ _, FM.rf _ _ _⟩
    rintro ⟨s', p, _⟩
    exact absurd p (Nat.not_lt_zero _)
def cntB (inn n : Nat) : Nat := hsum (fun s => if inn.testBit s = true then 1 else 0) n
theorem cntB_le (inn n : Nat) : cntB inn n ≤ n := by
  have := hsum_le (f := fun s => if inn.testBit s = true then 1 else 0) (B := 1) n (fun i _ => by split <;> omega)
  unfold cntB
  omega
theorem cntB_all {inn : Nat} : ∀ (n : Nat), cntB inn n = n → ∀ s, s < n → inn.testBit s = true
  | 0, _, s, hs => absurd hs (Nat.not_lt_zero _)
  | n + 1, h, s, hs => by
    have h1 : cntB inn (n + 1) = cntB inn n + (if inn.testBit n = true then 1 else 0) := rfl
    have h2 := cntB_le inn n
    have h3 : inn.testBit n = true := by
      by_cases hb : inn.testBit n = true
      · exact hb
      · rw [if_neg hb] at h1; omega
    rw [if_pos h3] at h1
    by_cases hsn : s = n
    · rw [hsn]; exact h3
    · exact cntB_all n (by omega) s (by omega)
theorem cntB_full {inn : Nat} : ∀ (n : Nat), (∀ s, s < n → inn.testBit s = true) → cntB inn n = n
  | 0, _ => rfl
  | n + 1, h => by
    have h1 : cntB inn (n + 1) = cntB inn n + (if inn.testBit n = true then 1 else 0) := rfl
    rw [h1, if_pos (h n (by omega)), cntB_full n (fun s hs => h s (by omega))]
theorem or_bit (inn a s : Nat) : (inn ||| 2 ^ a).testBit s = (inn.testBit s || decide (a = s)) := by rw [Nat.testBit_or, Nat.testBit_two_pow]
theorem cntB_or {inn a : Nat} (ha : inn.testBit a = false) : ∀ n, cntB (inn ||| 2 ^ a) n = cntB inn n + (if a < n then 1 else 0)
  | 0 => rfl
  | n + 1 => by
    have h1 : cntB (inn ||| 2 ^ a) (n + 1) = cntB (inn ||| 2 ^ a) n + (if (inn ||| 2 ^ a).testBit n = true then 1 else 0) := rfl
    have h2 : cntB inn (n + 1) = cntB inn n + (if inn.testBit n = true then 1 else 0) := rfl
    rw [h1, h2, cntB_or ha n, or_bit]
    by_cases han : a = n
    · subst han
      simp [ha]
    · by_cases hlt : a < n
      · have : a < n + 1 := by omega
        simp [han, hlt, this]
        omega
      · have : ¬ a < n + 1 := by omega
        simp [han, hlt, this]
theorem tstB_wp {K : CH → Prop} {C : CH} {a j n : Nat} {x : Int32} (ka : c_kd C a = 22) (la : c_ln C a = n) (hj : j < n) (hn : n ≤ 1000) (hK : ∀ D, Fr a a C D → c_iv D = c_iv C → (∀ h, c_ar D a h = if h = j then x else c_ar C a h) → K D) : WP (tst C 2 a (nI j) x) K := by
  rw [tstB_n ka (by omega) (by omega)]
  exact WP.ret (hK _ (Fr.ar _ (by omega)) rfl (fun h => ar_upd _ _ _ _ _))
theorem tree_wp {b : Nat} {S : SX} {C : CH} {M : MS} (Q : KinS (sh C) (b + 47)) (s1 : SongsC b S C) (hb : b + 81 ≤ C.1) (sok : SongsOk S) (sm : SongsM S M) : WP (t_X2_growTree (b + 47) (b + 3) C) (fun r => WP (g_X12_findTree M) (fun N => r.1 = N.1 45 ∧ Fr (b + 47) (b + 50) C r.2 ∧ FM [45] [43, 44] M N ∧ ∀ s, s < S.1 → c_ar r.2 (b + 49) s = N.2.2.1 44 s)) := by
  have h6 := sok.1
  unfold t_X2_growTree g_X12_findTree
  simp only [WP_bind, WP_some]
  refine WP.mono (WP.it (Post := fun D => Fr (b + 47) (b + 50) C D ∧ HungC D (b + 47) 1 ∧ ∀ s, s < 6 → c_ar D (b + 49) s = -1) (fun i x => x.1 = nI i ∧ Fr (b + 47) (b + 50) C x.2 ∧ (∀ s, s < i → c_ar x.2 (b + 50) s = if (1 : Nat).testBit s = true then 1 else 0) ∧ ∀ s, s < i → c_ar x.2 (b + 49) s = -1) 6 ?_ 100000 0 _ ?_ (Nat.zero_le _) (by omega)) ?_
  · rintro i ⟨y, D⟩ hi ⟨e1, F, e2, e3⟩
    dsimp only at e1 F e2 e3
    subst e1
    obtain ⟨qk, qr0, qk0, ql0, qr1, qk1, ql1, qr2, qk2, ql2⟩ := (Q.ag (fun a _ _ => AgS.of F.2.2.1 a)).f
    unfold t_X2_growTree_L2
    dsimp only
    by_cases hlt : i < 6
    · rw [if_neg (show ¬ (6 : Int32) ≤ nI i from nI_ge (b := 6) hlt (by omega))]
      simp only [tcl_3, tgR_3_0, tpR_3_0, tgR_3_1, tpR_3_1, tgR_3_2, tpR_3_2, qk, qr0, qk0, ql0, qr1, qk1, ql1, qr2, qk2, ql2, Option.bind_some]
      have fin : ∀ z : Int32, (z = 0 ∨ z = 1) → z = (if (1 : Nat).testBit i = true then 1 else 0) → WP (t_X2_growTree_L2_J22 (b + 47) (b + 3) (nI i) z (nI i) (b + 47 + 3) D) (Sum.elim (fun x => i < 6 ∧ x.1 = nI (i + 1) ∧ Fr (b + 47) (b + 50) C x.2 ∧ (∀ s, s < i + 1 → c_ar x.2 (b + 50) s = if (1 : Nat).testBit s = true then 1 else 0) ∧ ∀ s, s < i + 1 → c_ar x.2 (b + 49) s = -1) (fun D => Fr (b + 47) (b + 50) C D ∧ HungC D (b + 47) 1 ∧ ∀ s, s < 6 → c_ar D (b + 49) s = -1)) := by
        intro z hz1 hz2
        unfold t_X2_growTree_L2_J22
        have hzz : hzb z = some () := by unfold hzb; rw [if_pos hz1]
        simp only [hzz, Option.bind_some, WP_bind, WP_some]
        refine tstB_wp qk2 ql2 hlt (by omega) (fun E FE iE aE => ?_)
        obtain ⟨qk, qr0, qk0, ql0, qr1, qk1, ql1, qr2, qk2, ql2⟩ := ((Q.ag (fun a _ _ => AgS.of F.2.2.1 a)).ag (fun a _ _ => AgS.of FE.2.2.1 a)).f
        simp only [tcl_3, tgR_3_0, tpR_3_0, tgR_3_1, tpR_3_1, tgR_3_2, tpR_3_2, qk, qr0, qk0, ql0, qr1, qk1, ql1, qr2, qk2, ql2, Option.bind_some, WP_bind, WP_some]
        refine tst_wp qk1 ql1 hlt (by omega) (fun G FG iG aG => ?_)
        have FE' : Fr (b + 50) (b + 50) D E := FE
        have FG' : Fr (b + 49) (b + 49) E G := FG
        refine ⟨hlt, nI_1 i, F.tr ((FE'.mono (by omega) (by omega)).tr (FG'.mono (by omega) (by omega))), fun s hs => ?_, fun s hs => ?_⟩
        · rw [(FG'.2.2.2 (b + 50) (by omega)).1]
          have aE' : ∀ h, c_ar E (b + 50) h = if h = i then z else c_ar D (b + 50) h := aE
          rw [aE']
          by_cases hsi : s = i
          · subst hsi; rw [if_pos rfl]; exact hz2
          · rw [if_neg hsi]; exact e2 s (by omega)
        · have aG' : ∀ h, c_ar G (b + 49) h = if h = i then -1 else c_ar E (b + 49) h := aG
          rw [aG']
          by_cases hsi : s = i
          · rw [if_pos hsi]
          · rw [if_neg hsi, (FE'.2.2.2 (b + 49) (by omega)).1]; exact e3 s (by omega)
      by_cases hi0 : i = 0
      · rw [if_pos (show nI i = 0 by rw [hi0]; rfl)]
        exact fin 1 (Or.inr rfl) (by rw [hi0]; decide)
      · rw [if_neg (nI_ne0 (by omega) (by omega))]
        refine fin 0 (Or.inl rfl) ?_
        have : (1 : Nat).testBit i = false := by
          have h9 : ∀ i, i < 6 → i ≠ 0 → (1 : Nat).testBit i = false := by decide
          exact h9 i hlt hi0
        rw [this]; rfl
    · have hii : i = 6 := by omega
      subst hii
      rw [if_pos (show (6 : Int32) ≤ nI 6 by decide)]
      simp only [WP_bind, WP_some, Option.bind_some, Sum.elim_inl, Sum.elim_inr, ↓reduceIte]
      exact ⟨F, e2, e3⟩
  · exact ⟨rfl, Fr.rf _ _ _, fun s hs => absurd hs (Nat.not_lt_zero _), fun s hs => absurd hs (Nat.not_lt_zero _)⟩
  · rintro A ⟨FA, HA, gA⟩
    obtain ⟨N0, hN0, G0, i0, r0⟩ := mst_wp (K := fun N0 => FM [] [44] (msI M 45 0) N0 ∧ N0.1 = (msI M 45 0).1 ∧ ∀ h, N0.2.2.1 44 h = if h = 0 then -1 else (msI M 45 0).2.2.1 44 h) (N := msI M 45 0) (k := 44) (j := 0) (i := 0) (x := -1) rfl (by decide) (by decide) (fun N0 G0 i0 r0 => ⟨G0, i0, r0⟩)
    rw [hN0]
    simp only [WP_some]
    have GM0 : FM [45] [43, 44] M N0 := (FM.I (A := [43, 44]) _ (by decide)).tr (G0.mono (fun k h => absurd h List.not_mem_nil) (by decide))
    have n45 : N0.1 45 = 0 := by rw [i0]; exact msI_e _ _ _
    have n44 : N0.2.2.1 44 0 = -1 := by rw [r0, if_pos rfl]
    refine WP.it2 (Post := fun (r : Int32 × CH) (N : MS) => r.1 = N.1 45 ∧ Fr (b + 47) (b + 50) C r.2 ∧ FM [45] [43, 44] M N ∧ ∀ s, s < S.1 → c_ar r.2 (b + 49) s = N.2.2.1 44 s) (fun (i : Nat) (x : Int32 × Int32 × CH) (y : Int32 × Int32 × MS) => ∃ inn, inn < 64 ∧ inn.testBit 0 = true ∧ (0 < S.1 → cntB inn S.1 = i + 1) ∧ x.2.1 = nI (i + 1) ∧ y.2.1 = nI (i + 1) ∧ y.1 = nI inn ∧ x.1 = y.2.2.1 45 ∧ HungC x.2.2 (b + 47) inn ∧ Fr (b + 47) (b + 50) C x.2.2 ∧ FM [45] [43, 44] M y.2.2 ∧ ∀ s, s < S.1 → inn.testBit s = true → c_ar x.2.2 (b + 49) s = y.2.2.2.2.1 44 s) (S.1 - 1) ?_ 100000 0 _ _ ?_ (Nat.zero_le _) (by omega)
    · rintro i ⟨sum, y1, D⟩ ⟨inx, y2, N⟩ hi ⟨inn, p1, p2, p3, p4, p5, p6, p7, p8, p9, p10, p11⟩
      dsimp only at p4 p5 p6 p7 p8 p9 p10 p11
      subst p4
      subst p5
      subst p6
      have s1' := s1.fr hb p9 (by omega) (by omega)
      have kl := s1'.1.1
      have Q' : KinS (sh D) (b + 47) := Q.ag (fun a _ _ => AgS.of p9.2.2.1 a)
      obtain ⟨qk, _⟩ := Q'.f
      have sm' := sm.fr p10 (by decide) (by decide)
      unfold t_X2_growTree_L40 g_X12_findTree_L16
      dsimp only
      simp only [tcl_0, tgI_0_0, tpI_0_0, tgR_0_1, tpR_0_1, tgI_0_2, tpI_0_2, kl, sizeL_eq, s1'.1.2.1, Option.bind_some, sm'.1]
      by_cases hlt : i + 1 < S.1
      · have c1 : ¬ nI S.1 ≤ nI (i + 1) := nI_ge hlt (by omega)
        simp only [c1, ↓reduceIte, tcl_3, tgR_3_0, tpR_3_0, tgR_3_1, tpR_3_1, tgR_3_2, tpR_3_2, qk, Option.bind_some, t_X2_hangNearest, WP_bind, WP_some]
        have hb1 : b + 81 ≤ D.1 := by rw [p9.1]; exact hb
        refine WP.mono (hungOuter (xq := nI (i + 1)) Q' s1' hb1 sok (by omega) p2 p8 sm') ?_
        rintro ⟨l, nx, t, E⟩ h
        obtain ⟨⟨bst, l2, t2, N2⟩, k1, R, G, GM⟩ := h
        dsimp only at R G GM
        obtain ⟨r1, r2, r3⟩ := R
        subst r1
        subst r2
        rcases r3 with ⟨_, r3⟩ | ⟨d, a, a1, a2, a3, a4, a5, a6⟩
        · exfalso
          apply r3
          by_cases hex : ∃ s, s < S.1 ∧ inn.testBit s = false
          · exact hex
          · have hall : ∀ s, s < S.1 → inn.testBit s = true := fun s hs => by
              by_cases hbb : inn.testBit s = true
              · exact hbb
              · exact absurd ⟨s, hs, by simpa using hbb⟩ hex
            have := cntB_full S.1 hall
            have := p3 (by omega)
            omega
        · subst a5
          subst a6
          subst a2
          have ha6 : a < 6 := by omega
          obtain ⟨qk, qr0, qk0, ql0, qr1, qk1, ql1, qr2, qk2, ql2⟩ := (Q'.ag (fun a _ _ => AgS.of G.2.2.1 a)).f
          simp only [tcl_3, tgR_3_0, tpR_3_0, tgR_3_1, tpR_3_1, tgR_3_2, tpR_3_2, qk, qr0, qk0, ql0, qr1, qk1, ql1, qr2, qk2, ql2, Option.bind_some, WP_bind, WP_some]
          refine tstB_wp qk2 ql2 ha6 (by omega) (fun E1 FE iE aE => ?_)
          obtain ⟨qk, qr0, qk0, ql0, qr1, qk1, ql1, qr2, qk2, ql2⟩ := ((Q'.ag (fun a _ _ => AgS.of G.2.2.1 a)).ag (fun a _ _ => AgS.of FE.2.2.1 a)).f
          simp only [tcl_3, tgR_3_0, tpR_3_0, tgR_3_1, tpR_3_1, tgR_3_2, tpR_3_2, qk, qr0, qk0, ql0, qr1, qk1, ql1, qr2, qk2, ql2, Option.bind_some, WP_bind, WP_some]
          refine tst_wp qk1 ql1 ha6 (by omega) (fun E2 FG iG aG => ?_)
          rw [k1]
          simp only [WP_bind, WP_some, Option.bind_some]
          refine mst_wp (j := a) rfl (show a < 6 from ha6) (by decide) (fun N3 G3 i3 r3 => ?_)
          have FE' : Fr (b + 50) (b + 50) E E1 := FE
          have FG' : Fr (b + 49) (b + 49) E1 E2 := FG
          have aE' : ∀ h, c_ar E1 (b + 50) h = if h = a then 1 else c_ar E (b + 50) h := aE
          have aG' : ∀ h, c_ar E2 (b + 49) h = if h = a then t2 else c_ar E1 (b + 49) h := aG
          have n45' : N3.1 45 = N.1 45 := by rw [i3]; exact GM.i (by decide)
          simp only [WP_bind, WP_some, Option.bind_some, Sum.elim_inl, Sum.elim_inr, ↓reduceIte, nI_shl1 a (show a < 31 by omega), nI_orI]
          refine ⟨by omega, inn ||| 2 ^ a, Nat.or_lt_two_pow (n := 6) p1 (Nat.pow_lt_pow_right (by decide) ha6), by rw [or_bit, p2]; rfl, fun _ => ?_, nI_1 _, nI_1 _, rfl, by rw [msI_e, n45', p7], fun s hs => ?_, p9.tr ((G.mono (by omega) (by omega)).tr ((FE'.mono (by omega) (by omega)).tr (FG'.mono (by omega) (by omega)))), p10.tr ((GM.mono (fun k h => absurd h List.not_mem_nil) (by decide)).tr ((G3.mono (fun k h => absurd h List.not_mem_nil) (by decide)).tr (FM.I _ (by decide)))), fun s hs hsb => ?_⟩
          · rw [cntB_or a4, if_pos a3, p3 (by omega)]
          · show c_ar E2 (b + 50) s = _
            rw [(FG'.2.2.2 (b + 50) (by omega)).1, aE', or_bit]
            have h8 : c_ar E (b + 50) s = if inn.testBit s = true then 1 else 0 := by rw [(G.2.2.2 (b + 50) (by omega)).1]; exact p8 s hs
            by_cases hsa : s = a
            · subst hsa; simp
            · rw [if_neg hsa, h8]
              have : decide (a = s) = false := by simp; omega
              rw [this, Bool.or_false]
          · show c_ar E2 (b + 49) s = N3.2.2.1 44 s
            rw [aG', r3]
            by_cases hsa : s = a
            · rw [if_pos hsa, if_pos hsa]
            · rw [if_neg hsa, if_neg hsa, (FE'.2.2.2 (b + 49) (by omega)).1, (G.2.2.2 (b + 49) (by omega)).1, GM.2 44 (by decide)]
              refine p11 s hs ?_
              rw [or_bit] at hsb
              have : decide (a = s) = false := by simp; omega
              rw [this, Bool.or_false] at hsb
              exact hsb
      · have c1 : nI S.1 ≤ nI (i + 1) := nI_le (by omega) (by omega)
        simp only [c1, WP_bind, WP_some, Option.bind_some, Sum.elim_inl, Sum.elim_inr, ↓reduceIte]
        refine ⟨p7, p9, p10, fun s hs => p11 s hs (cntB_all S.1 ?_ s hs)⟩
        have := p3 (by omega)
        have := cntB_le inn S.1
        omega
    · refine ⟨1, by decide, by decide, fun h => ?_, rfl, rfl, rfl, n45.symm, HA, FA, GM0, fun s hs hsb => ?_⟩
      · have h9 : ∀ n, n < 7 → 0 < n → cntB 1 n = 1 := by decide
        exact h9 S.1 (by omega) h
      · have hs0 : s = 0 := by
          have h9 : ∀ i, i < 6 → i ≠ 0 → (1 : Nat).testBit i = false := by decide
          by_cases hs0 : s = 0
          · exact hs0
          · rw [h9 s (by omega) hs0] at hsb; exact absurd hsb (by decide)
        subst hs0
        show c_ar A (b + 49) 0 = N0.2.2.1 44 0
        rw [gA 0 (by omega), n44]
theorem op_hangs {b : Nat} {C : CH} {M : MS} (I : Inv b C M) (x : Int32) : OP b (t_X11_hangs b x C) (g_X12_hangs x M) := by
  have I0 := I
  obtain ⟨H, S, T, bw, X, R, K, I⟩ := I
  obtain ⟨IB, _, ⟨s1, sm, sok⟩, _, _, _, _, _, _, pl⟩ := id I
  obtain ⟨xk, xr0, xr1, xr2, xr3, xr4, xr6, xr7, xr8, xr9, xr10, xr11⟩ := IB.1.x
  have hb := IB.2.1
  have h6 := sok.1
  have kl := IB.1.li.1
  obtain ⟨qk, _⟩ := IB.1.2.2.2.2.2.2.2.2.1.f
  unfold t_X11_hangs g_X12_hangs
  rw [noSong_eq sm]
  simp only [tcl_12, tgR_12_0, tpR_12_0, tgR_12_1, tpR_12_1, tgR_12_2, tpR_12_2, tgR_12_3, tpR_12_3, tgR_12_4, tpR_12_4, tgI_12_5, tpI_12_5, tgR_12_6, tpR_12_6, tgR_12_7, tpR_12_7, tgR_12_8, tpR_12_8, tgR_12_9, tpR_12_9, tgR_12_10, tpR_12_10, tgR_12_11, tpR_12_11, tcl_0, tgI_0_0, tpI_0_0, tgR_0_1, tpR_0_1, tgI_0_2, tpI_0_2, xk, xr0, xr1, xr2, xr3, xr4, xr6, xr7, xr8, xr9, xr10, xr11, kl, sizeL_eq, s1.1.2.1, tw_eq, Option.bind_some]
  by_cases hv : x < 0 ∨ nI S.1 - 1 < x
  · simp only [hv, ↓reduceIte, i10]
    exact op_same I0 _
  · obtain ⟨j, hj, rfl⟩ := in_n (by omega) hv
    simp only [OP, hv, ↓reduceIte, i10, tcl_12, tgR_12_0, tpR_12_0, tgR_12_1, tpR_12_1, tgR_12_2, tpR_12_2, tgR_12_3, tpR_12_3, tgR_12_4, tpR_12_4, tgI_12_5, tpI_12_5, tgR_12_6, tpR_12_6, tgR_12_7, tpR_12_7, tgR_12_8, tpR_12_8, tgR_12_9, tpR_12_9, tgR_12_10, tpR_12_10, tgR_12_11, tpR_12_11, tcl_3, tgR_3_0, tpR_3_0, tgR_3_1, tpR_3_1, tgR_3_2, tpR_3_2, xk, xr0, xr1, xr2, xr3, xr4, xr6, xr7, xr8, xr9, xr10, xr11, qk, Option.bind_some, WP_bind, WP_some]
    refine WP.mono (tree_wp IB.1.2.2.2.2.2.2.2.2.1 s1 hb sok sm) ?_
    rintro ⟨z, D⟩ ⟨N, k1, e1, F, FN, e2⟩
    dsimp only at e1 F FN e2
    rw [k1]
    have St : StS (sh D) b := by rw [F.2.2.1]; exact IB.1
    obtain ⟨xk, xr0, xr1, xr2, xr3, xr4, xr6, xr7, xr8, xr9, xr10, xr11⟩ := St.x
    obtain ⟨qk, qr0, qk0, ql0, qr1, qk1, ql1, qr2, qk2, ql2⟩ := St.2.2.2.2.2.2.2.2.1.f
    have d1 : j < 6 := by omega
    have e2' : c_ar D (b + 47 + 2) j = N.2.2.1 44 j := e2 j hj
    simp only [tcl_12, tgR_12_0, tpR_12_0, tgR_12_1, tpR_12_1, tgR_12_2, tpR_12_2, tgR_12_3, tpR_12_3, tgR_12_4, tpR_12_4, tgI_12_5, tpI_12_5, tgR_12_6, tpR_12_6, tgR_12_7, tpR_12_7, tgR_12_8, tpR_12_8, tgR_12_9, tpR_12_9, tgR_12_10, tpR_12_10, tgR_12_11, tpR_12_11, tcl_3, tgR_3_0, tpR_3_0, tgR_3_1, tpR_3_1, tgR_3_2, tpR_3_2, Nat.reduceLT, tld_n, tst_n, tldB_n, tstB_n, tldR3_n, tldR4_n, tldJ_n, tstJ_n, tlen_I, tlen_R, xk, xr0, xr1, xr2, xr3, xr4, xr6, xr7, xr8, xr9, xr10, xr11, qk, qr0, qk0, ql0, qr1, qk1, ql1, qr2, qk2, ql2, d1, e2', Option.bind_some, WP_bind, WP_some]
    rw [mld_n (k := 44) (show j < 6 from d1) (by decide)]
    refine WP.ret ⟨rfl, I.scr (by rw [F.1]; exact Nat.le_refl _) F.2.1 (fun a _ => AgS.of F.2.2.1 a) (fun a _ _ _ h3 => F.ag (by omega)) (FN.mono (by decide) (by decide)) (fun j _ => by rw [FN.2 13 (by decide)]) (pl.ag (F.ag (by omega)) (F.ag (by omega)))⟩
theorem op_tree {b : Nat} {C : CH} {M : MS} (I : Inv b C M) : OP b (t_X11_tree b C) (g_X12_tree M) := by
  have I0 := I
  obtain ⟨H, S, T, bw, X, R, K, I⟩ := I
  obtain ⟨IB, _, ⟨s1, sm, sok⟩, _, _, _, _, _, _, pl⟩ := id I
  obtain ⟨xk, xr0, xr1, xr2, xr3, xr4, xr6, xr7, xr8, xr9, xr10, xr11⟩ := IB.1.x
  have hb := IB.2.1
  obtain ⟨qk, _⟩ := IB.1.2.2.2.2.2.2.2.2.1.f
  unfold t_X11_tree g_X12_tree
  simp only [OP, tcl_12, tgR_12_0, tpR_12_0, tgR_12_1, tpR_12_1, tgR_12_2, tpR_12_2, tgR_12_3, tpR_12_3, tgR_12_4, tpR_12_4, tgI_12_5, tpI_12_5, tgR_12_6, tpR_12_6, tgR_12_7, tpR_12_7, tgR_12_8, tpR_12_8, tgR_12_9, tpR_12_9, tgR_12_10, tpR_12_10, tgR_12_11, tpR_12_11, tcl_3, tgR_3_0, tpR_3_0, tgR_3_1, tpR_3_1, tgR_3_2, tpR_3_2, xk, xr0, xr1, xr2, xr3, xr4, xr6, xr7, xr8, xr9, xr10, xr11, qk, Option.bind_some, WP_bind, WP_some]
  refine WP.mono (tree_wp IB.1.2.2.2.2.2.2.2.2.1 s1 hb sok sm) ?_
  rintro ⟨z, D⟩ ⟨N, k1, e1, F, FN, e2⟩
  dsimp only at e1 F FN e2
  rw [k1]
  exact WP.ret ⟨e1, I.scr (by rw [F.1]; exact Nat.le_refl _) F.2.1 (fun a _ => AgS.of F.2.2.1 a) (fun a _ _ _ h3 => F.ag (by omega)) (FN.mono (by decide) (by decide)) (fun j _ => by rw [FN.2 13 (by decide)]) (pl.ag (F.ag (by omega)) (F.ag (by omega)))⟩
