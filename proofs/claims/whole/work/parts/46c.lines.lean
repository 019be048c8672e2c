theorem WordsC.fr {C D : CH} {b lo hi : Nat} {X : WX} (s1 : WordsC b X C) (hb : b + 81 ≤ C.1) (F : Fr lo hi C D) (h1 : b + 33 ≤ lo) (h2 : hi ≤ b + 80) : WordsC b X D := s1.ag (by rw [F.1]; exact Nat.le_refl _) F.2.1 hb (fun a p q _ => F.ag (by omega))
theorem RowV.fr {C D : CH} {o n lo hi : Nat} {v : Nat → Nat} (V : RowV C o n v) (F : Fr lo hi C D) (h : hi < o ∨ o + 1 < lo) : RowV D o n v := by
  obtain ⟨h1, h2, h3, h4, h5⟩ := V
  refine ⟨h1.tr F.2.2.1, by rw [(F.2.2.2 o (by omega)).2.1]; exact h2, h3, by rw [(F.2.2.2 (o + 1) (by omega)).1]; exact h4, h5⟩
theorem LineS.tr {K K' : SHP} {o : Nat} (e : K' = K) (h : LineS K o) : LineS K' o := by rw [e]; exact h
theorem tstJ_wp {K : CH → Prop} {C : CH} {a j n : Nat} {x : Int64} (ka : c_kd C a = 21) (la : c_ln C a = n) (hj : j < n) (hn : n ≤ 1000) (hK : ∀ D, Fr a a C D → c_iv D = c_iv C → (∀ h, c_al D a h = if h = j then x else c_al C a h) → K D) : WP (tstJ C a (nI j) x) K := by
  rw [tstJ_n ka (by omega) (by omega)]
  refine WP.ret (hK _ (Fr.al _ (by omega)) rfl (fun h => ?_))
  simp only [s_al_al, va_e]
  rfl
theorem mstJ_wp {K : MS → Prop} {N : MS} {j : Nat} {i : Int32} {x : Int64} (e : i = nI j) (h : j < 25) (hK : ∀ N', FM [] [] N N' → (∀ h, N'.2.2.2 h = if h = j then x else N.2.2.2 h) → K N') : WP (mstJ N i x) K := by
  rw [e, mstJ_n h]
  exact WP.ret (hK _ ⟨fun _ _ => rfl, fun _ _ => rfl⟩ (fun h => rfl))
theorem lN_cap {a : Nat} (h : a ≤ 2000000000000000) : (if lN a < 1000000000000000 then lN a else 1000000000000000) = lN (min 1000000000000000 a) := by
  have e : (1000000000000000 : Int64) = lN 1000000000000000 := rfl
  by_cases hl : a < 1000000000000000
  · rw [e, if_pos ((pk_lLT (by omega) (by omega)).mpr hl)]; congr 1; omega
  · rw [e, if_neg (fun z => hl ((pk_lLT (by omega) (by omega)).mp z))]; congr 1; omega
theorem countWays_eq {C : CH} {b o n p : Nat} {v T : Nat → Nat} {X : WX} (Q : LineS (sh C) (b + 33)) (x1 : WordsC b X C) (xok : WordsOk X) (V : RowV C o n v) (hp : p < n) (hT : ∀ q, p < q → q ≤ n → c_al C (b + 34) q = lN (T q)) (hT2 : ∀ q, T q ≤ 1000000000000000) : t_X4_countWays (b + 33) o (b + 32) (nI p) C = some (lN (waySum v n X T p X.1), C) := by
  have hn := V.2.2.1
  have hx12 := xok.1
  obtain ⟨lk, lr0, lk0, ll0, lr1, lk1, ll1, lr2, lk2, ll2⟩ := Q.f
  have kl := x1.1.1
  unfold t_X4_countWays
  have key : WP (iter (t_X4_countWays_L6 (b + 33) o (b + 32) (nI p)) 100000 (0, 0, C)) (fun r => r = (lN (waySum v n X T p X.1), C)) := by
    refine WP.it (fun i s => s = (lN (waySum v n X T p i), nI i, C)) X.1 ?_ 100000 0 _ rfl (Nat.zero_le _) (by omega)
    rintro i s hi rfl
    unfold t_X4_countWays_L6
    dsimp only
    simp only [tcl_0, tgI_0_0, tpI_0_0, tgR_0_1, tpR_0_1, tgI_0_2, tpI_0_2, kl, sizeL_eq, x1.1.2.1, Option.bind_some]
    by_cases hlt : i < X.1
    · obtain ⟨W, w2, w3⟩ := x1.2 i hlt
      obtain ⟨o1, o2, o3⟩ := xok.2 i hlt
      rw [if_neg (nI_ge hlt (by omega))]
      simp only [tcl_0, tgI_0_0, tpI_0_0, tgR_0_1, tpR_0_1, tgI_0_2, tpI_0_2, tcl_11, tgI_11_0, tpI_11_0, tgI_11_1, tpI_11_1, kl, get_eq x1.1 hlt, W.1, Option.bind_some, wrongIf_eq W V ⟨o1, o2⟩ o3 (show p ≤ 24 by omega)]
      have hs : waySum v n X T p (i + 1) = if wrM v n p (X.2.2.1 i) (X.2.2.2 i) = some 0 then min 1000000000000000 (waySum v n X T p i + T (p + X.2.2.1 i)) else waySum v n X T p i := rfl
      cases hw : wrM v n p (X.2.2.1 i) (X.2.2.2 i) with
      | none =>
        rw [hw, if_neg (by simp)] at hs
        rw [if_neg (show ¬ wI none = 0 by decide)]
        simp only [WP_bind, WP_some, Option.bind_some, Sum.elim_inl, Sum.elim_inr, ↓reduceIte]
        exact ⟨hlt, by rw [hs, nI_1]⟩
      | some c =>
        obtain ⟨h1, h2⟩ := wrM_le hw
        by_cases hc : c = 0
        · subst hc
          rw [hw, if_pos rfl] at hs
          rw [if_pos (show wI (some 0) = 0 from rfl)]
          have d1 : p + X.2.2.1 i < 25 := by omega
          have ht : c_al C (b + 33 + 1) (p + X.2.2.1 i) = lN (T (p + X.2.2.1 i)) := hT _ (by omega) h2
          have h5 := waySum_le v n X T p i
          have h6 := hT2 (p + X.2.2.1 i)
          simp only [tcl_5, tgR_5_0, tpR_5_0, tgR_5_1, tpR_5_1, tgR_5_2, tpR_5_2, tgI_5_3, tpI_5_3, tgJ_5_4, tpJ_5_4, tcl_11, tgI_11_0, tpI_11_0, tgI_11_1, tpI_11_1, Nat.reduceLT, tld_n, tst_n, tldB_n, tstB_n, tldR3_n, tldR4_n, tldJ_n, tstJ_n, tlen_I, tlen_R, lk, lr0, lk0, ll0, lr1, lk1, ll1, lr2, lk2, ll2, W.1, W.2.1, nI_add, d1, Option.bind_some, ht, lN_add, lN_cap (show waySum v n X T p i + T (p + X.2.2.1 i) ≤ 2000000000000000 by omega), WP_bind, WP_some, Option.bind_some, Sum.elim_inl, Sum.elim_inr, ↓reduceIte]
          exact ⟨hlt, by rw [hs, nI_1]⟩
        · rw [hw, if_neg (by simp [hc])] at hs
          rw [if_neg (show ¬ wI (some c) = 0 from nI_ne0 (by omega) (by omega))]
          simp only [WP_bind, WP_some, Option.bind_some, Sum.elim_inl, Sum.elim_inr, ↓reduceIte]
          exact ⟨hlt, by rw [hs, nI_1]⟩
    · have hii : i = X.1 := by omega
      subst hii
      rw [if_pos (nI_le (by omega) (by omega))]
      simp only [WP_bind, WP_some, Option.bind_some, Sum.elim_inl, Sum.elim_inr, ↓reduceIte]
  obtain ⟨e, h4, rfl⟩ := key
  rw [h4]
  rfl
theorem howMany_wp {C : CH} {b o n : Nat} {v : Nat → Nat} {X : WX} (Q : LineS (sh C) (b + 33)) (x1 : WordsC b X C) (xok : WordsOk X) (V : RowV C o n v) (hb : b + 81 ≤ C.1) (ho : b + 81 ≤ o) : WP (t_X4_howMany (b + 33) o (b + 32) C) (fun r => r.1 = lN (wayT v n X n 0) ∧ Fr (b + 34) (b + 34) C r.2 ∧ ∀ q, q ≤ n → c_al r.2 (b + 34) q = lN (wayT v n X n q)) := by
  have hn := V.2.2.1
  obtain ⟨lk, lr0, lk0, ll0, lr1, lk1, ll1, lr2, lk2, ll2⟩ := Q.f
  obtain ⟨wk, _⟩ := V.1.f
  unfold t_X4_howMany
  simp only [WP_bind, WP_some, Option.bind_some, tcl_5, tgR_5_0, tpR_5_0, tgR_5_1, tpR_5_1, tgR_5_2, tpR_5_2, tgI_5_3, tpI_5_3, tgJ_5_4, tpJ_5_4, tcl_7, tgR_7_0, tpR_7_0, tgI_7_1, tpI_7_1, lk, lr0, lk0, ll0, lr1, lk1, ll1, lr2, lk2, ll2, wk, V.2.1]
  refine tstJ_wp lk0 ll0 (show n < 25 by omega) (by omega) (fun D0 F0 i0 a0 => ?_)
  have V0 := V.fr F0 (by omega)
  obtain ⟨wk, _⟩ := V0.1.f
  have F0' : Fr (b + 34) (b + 34) C D0 := F0
  have a0' : ∀ h, c_al D0 (b + 34) h = if h = n then 1 else c_al C (b + 34) h := a0
  simp only [WP_bind, WP_some, Option.bind_some, tcl_7, tgR_7_0, tpR_7_0, tgI_7_1, tpI_7_1, wk, V0.2.1, dnI_0]
  refine WP.mono (WP.it (Post := fun D => Fr (b + 34) (b + 34) C D ∧ ∀ q, q ≤ n → c_al D (b + 34) q = lN (wayT v n X n q)) (fun k s => s.1 = dnI n k ∧ Fr (b + 34) (b + 34) C s.2 ∧ ∀ q, n - k ≤ q → q ≤ n → c_al s.2 (b + 34) q = lN (wayT v n X k q)) n ?_ 100000 0 _ ?_ (Nat.zero_le _) (by omega)) ?_
  · rintro k ⟨y, D⟩ hk ⟨e1, F, e2⟩
    dsimp only at e1 F e2
    subst e1
    have V' := V.fr F (by omega)
    have Q' := Q.tr F.2.2.1
    have x1' := x1.fr hb F (by omega) (by omega)
    obtain ⟨lk, lr0, lk0, ll0, lr1, lk1, ll1, lr2, lk2, ll2⟩ := Q'.f
    obtain ⟨wk, wr0, wk0, wl0⟩ := V'.1.f
    unfold t_X4_howMany_L17
    dsimp only
    by_cases hlt : k < n
    · have ed : dnI n k = nI (n - 1 - k) := by unfold dnI; rw [if_pos hlt]
      rw [ed]
      have hp : n - (k + 1) = n - 1 - k := by omega
      have d1 : n - 1 - k < 24 := by omega
      have d2 : n - 1 - k < n := by omega
      have hv3 := V.2.2.2.2 (n - 1 - k) d2
      rw [if_neg (nI_pos (by omega))]
      simp only [tcl_5, tgR_5_0, tpR_5_0, tgR_5_1, tpR_5_1, tgR_5_2, tpR_5_2, tgI_5_3, tpI_5_3, tgJ_5_4, tpJ_5_4, tcl_7, tgR_7_0, tpR_7_0, tgI_7_1, tpI_7_1, Nat.reduceLT, tld_n, tst_n, tldB_n, tstB_n, tldR3_n, tldR4_n, tldJ_n, tstJ_n, tlen_I, tlen_R, lk, lr0, lk0, ll0, lr1, lk1, ll1, lr2, lk2, ll2, wk, wr0, wk0, wl0, d1, Option.bind_some, V'.2.2.2.1 (n - 1 - k) d2, silent_eq hv3]
      have fin : ∀ z : Int64, z = lN (wayT v n X (k + 1) (n - 1 - k)) → WP ((tstJ D (b + 33 + 1) (nI (n - 1 - k)) z).bind fun h22 => some (Sum.inl (nI (n - 1 - k) + (-1), h22) : (Int32 × CH) ⊕ CH)) (Sum.elim (fun s => k < n ∧ s.1 = dnI n (k + 1) ∧ Fr (b + 34) (b + 34) C s.2 ∧ ∀ q, n - (k + 1) ≤ q → q ≤ n → c_al s.2 (b + 34) q = lN (wayT v n X (k + 1) q)) (fun D => Fr (b + 34) (b + 34) C D ∧ ∀ q, q ≤ n → c_al D (b + 34) q = lN (wayT v n X n q))) := by
        rintro z rfl
        simp only [WP_bind, WP_some]
        refine tstJ_wp lk0 ll0 (show n - 1 - k < 25 by omega) (by omega) (fun E FE iE aE => ?_)
        have FE' : Fr (b + 34) (b + 34) D E := FE
        have aE' : ∀ h, c_al E (b + 34) h = if h = n - 1 - k then lN (wayT v n X (k + 1) (n - 1 - k)) else c_al D (b + 34) h := aE
        refine ⟨hlt, dnI_s hlt, F.tr FE', fun q h1 h2 => ?_⟩
        rw [aE']
        by_cases hq : q = n - 1 - k
        · subst hq; rw [if_pos rfl]
        · rw [if_neg hq, e2 q (by omega) h2]
          show _ = lN (updN _ (n - (k + 1)) _ q)
          rw [updN_n (by omega)]
      have hval : wayT v n X (k + 1) (n - 1 - k) = if sg (v (n - 1 - k)) = true then waySum v n X (wayT v n X k) (n - 1 - k) X.1 else wayT v n X k (n - 1 - k + 1) := by
        show updN _ (n - (k + 1)) _ _ = _
        rw [hp, updN_e]
      by_cases hsg : sg (v (n - 1 - k)) = true
      · simp only [hsg, ↓reduceIte, tcl_5, tgR_5_0, tpR_5_0, tgR_5_1, tpR_5_1, tgR_5_2, tpR_5_2, tgI_5_3, tpI_5_3, tgJ_5_4, tpJ_5_4, lk, lr0, lk0, ll0, lr1, lk1, ll1, lr2, lk2, ll2, Option.bind_some, countWays_eq Q' x1' xok V' d2 (T := wayT v n X k) (fun q a c => e2 q (by omega) c) (wayT_le v n X k)]
        exact fin _ (by rw [hval, if_pos hsg])
      · have d3 : n - 1 - k + 1 < 25 := by omega
        have hal : c_al D (b + 33 + 1) (n - 1 - k + 1) = lN (wayT v n X k (n - 1 - k + 1)) := e2 (n - 1 - k + 1) (by omega) (by omega)
        simp only [hsg, ↓reduceIte, Bool.false_eq_true, i10, tcl_5, tgR_5_0, tpR_5_0, tgR_5_1, tpR_5_1, tgR_5_2, tpR_5_2, tgI_5_3, tpI_5_3, tgJ_5_4, tpJ_5_4, Nat.reduceLT, tld_n, tst_n, tldB_n, tstB_n, tldR3_n, tldR4_n, tldJ_n, tstJ_n, tlen_I, tlen_R, lk, lr0, lk0, ll0, lr1, lk1, ll1, lr2, lk2, ll2, nI_1, d3, hal, Option.bind_some]
        exact fin _ (by rw [hval, if_neg hsg])
    · have hkk : k = n := by omega
      subst hkk
      have ed : dnI k k = -1 := by unfold dnI; rw [if_neg (by omega)]
      rw [ed, if_pos (by decide)]
      simp only [WP_bind, WP_some, Option.bind_some, Sum.elim_inl, Sum.elim_inr, ↓reduceIte]
      exact ⟨F, fun q hq => e2 q (by omega) hq⟩
  · refine ⟨rfl, F0', fun q h1 h2 => ?_⟩
    rw [a0', if_pos (by omega)]
    show _ = lN (if q = n then 1 else 0)
    rw [if_pos (by omega)]
    rfl
  · rintro D ⟨F, e2⟩
    obtain ⟨lk, lr0, lk0, ll0, lr1, lk1, ll1, lr2, lk2, ll2⟩ := (Q.tr F.2.2.1).f
    have e20 : c_al D (b + 33 + 1) 0 = lN (wayT v n X n 0) := e2 0 (Nat.zero_le _)
    rw [show (0 : Int32) = nI 0 from rfl]
    have d1 : 0 < 25 := by decide
    simp only [WP_bind, WP_some, Option.bind_some, tcl_5, tgR_5_0, tpR_5_0, tgR_5_1, tpR_5_1, tgR_5_2, tpR_5_2, tgI_5_3, tpI_5_3, tgJ_5_4, tpJ_5_4, Nat.reduceLT, tld_n, tst_n, tldB_n, tstB_n, tldR3_n, tldR4_n, tldJ_n, tstJ_n, tlen_I, tlen_R, lk, lr0, lk0, ll0, lr1, lk1, ll1, lr2, lk2, ll2, d1, e20]
    exact ⟨trivial, F, e2⟩
/-- none is -1 in the class's table -/
def cI (e : Nat) : Int32 := if e = 1000000000 then -1 else nI e
theorem cI_far : cI 1000000000 = -1 := by unfold cI; rw [if_pos rfl]
theorem cI_n {e : Nat} (h : e < 1000) : cI e = nI e := by unfold cI; rw [if_neg (by omega)]
theorem nI_nem1 {e : Nat} (h : e < 2 ^ 31) : ¬ nI e = -1 := fun z => by
  have h1 := congrArg Int32.toInt z
  rw [nI_toInt h] at h1
  have h2 : (-1 : Int32).toInt = -1 := by decide
  omega
theorem wrongWith_eq {C : CH} {b o n p m bits wa : Nat} {v T : Nat → Nat} (Q : LineS (sh C) (b + 33)) (W : WordV C wa m bits) (V : RowV C o n v) (hm : 1 ≤ m ∧ m ≤ 5) (hbits : bits < 2 ^ m) (hp : p < n) (hT : ∀ q, p < q → q ≤ n → c_ar C (b + 35) q = cI (T q)) (hT2 : ∀ q, p < q → q ≤ n → T q = 1000000000 ∨ T q ≤ n - q) : t_X4_wrongWith (b + 33) wa o (nI p) C = some ((wrM v n p m bits).elim (-1) (fun c => if T (p + m) = 1000000000 then -1 else nI (c + T (p + m))), C) := by
  have hn := V.2.2.1
  obtain ⟨lk, lr0, lk0, ll0, lr1, lk1, ll1, lr2, lk2, ll2⟩ := Q.f
  unfold t_X4_wrongWith
  simp only [tcl_11, tgI_11_0, tpI_11_0, tgI_11_1, tpI_11_1, W.1, Option.bind_some, wrongIf_eq W V hm hbits (show p ≤ 24 by omega)]
  cases hw : wrM v n p m bits with
  | none => rfl
  | some c =>
    obtain ⟨h1, h2⟩ := wrM_le hw
    rw [if_neg (show ¬ wI (some c) = -1 from nI_nem1 (by omega))]
    have d1 : p + m < 25 := by omega
    have ht : c_ar C (b + 33 + 2) (p + m) = cI (T (p + m)) := hT _ (by omega) h2
    simp only [tcl_5, tgR_5_0, tpR_5_0, tgR_5_1, tpR_5_1, tgR_5_2, tpR_5_2, tgI_5_3, tpI_5_3, tgJ_5_4, tpJ_5_4, tcl_11, tgI_11_0, tpI_11_0, tgI_11_1, tpI_11_1, Nat.reduceLT, tld_n, tst_n, tldB_n, tstB_n, tldR3_n, tldR4_n, tldJ_n, tstJ_n, tlen_I, tlen_R, lk, lr0, lk0, ll0, lr1, lk1, ll1, lr2, lk2, ll2, W.1, W.2.1, nI_add, d1, Option.bind_some, ht]
    show _ = some ((if T (p + m) = 1000000000 then -1 else nI (c + T (p + m))), C)
    rcases hT2 (p + m) (by omega) h2 with h3 | h3
    · rw [h3, cI_far, if_pos rfl, if_pos rfl]
    · rw [cI_n (by omega), if_neg (nI_nem1 (by omega)), if_neg (by omega)]
      show some (nI c + nI (T (p + m)), C) = _
      rw [nI_add]
theorem leastWrong_eq {C : CH} {b o n p : Nat} {v T : Nat → Nat} {X : WX} (Q : LineS (sh C) (b + 33)) (x1 : WordsC b X C) (xok : WordsOk X) (V : RowV C o n v) (hp : p < n) (hT : ∀ q, p < q → q ≤ n → c_ar C (b + 35) q = cI (T q)) (hT2 : ∀ q, p < q → q ≤ n → T q = 1000000000 ∨ T q ≤ n - q) : t_X4_leastWrong (b + 33) o (b + 32) (nI p) C = some (cI (wrgL v n X T p X.1), C) := by
  have hn := V.2.2.1
  have hx12 := xok.1
  obtain ⟨lk, _⟩ := Q.f
  have kl := x1.1.1
  unfold t_X4_leastWrong
  have key : WP (iter (t_X4_leastWrong_L6 (b + 33) o (b + 32) (nI p)) 100000 ((-1), 0, C)) (fun r => r = (cI (wrgL v n X T p X.1), C)) := by
    refine WP.it (fun i s => s = (cI (wrgL v n X T p i), nI i, C)) X.1 ?_ 100000 0 _ (by show _ = (cI 1000000000, nI 0, C); rw [cI_far]; rfl) (Nat.zero_le _) (by omega)
    rintro i s hi rfl
    unfold t_X4_leastWrong_L6
    dsimp only
    simp only [tcl_0, tgI_0_0, tpI_0_0, tgR_0_1, tpR_0_1, tgI_0_2, tpI_0_2, kl, sizeL_eq, x1.1.2.1, Option.bind_some]
    by_cases hlt : i < X.1
    · obtain ⟨W, w2, w3⟩ := x1.2 i hlt
      obtain ⟨o1, o2, o3⟩ := xok.2 i hlt
      have hok := wrgL_ok (v := v) hT2 (fun i hi => (xok.2 i hi).1) i (by omega)
      rw [if_neg (nI_ge hlt (by omega))]
      simp only [tcl_0, tgI_0_0, tpI_0_0, tgR_0_1, tpR_0_1, tgI_0_2, tpI_0_2, tcl_11, tgI_11_0, tpI_11_0, tgI_11_1, tpI_11_1, tcl_5, tgR_5_0, tpR_5_0, tgR_5_1, tpR_5_1, tgR_5_2, tpR_5_2, tgI_5_3, tpI_5_3, tgJ_5_4, tpJ_5_4, kl, lk, get_eq x1.1 hlt, W.1, Option.bind_some, wrongWith_eq Q W V ⟨o1, o2⟩ o3 hp hT hT2]
      have hs : wrgL v n X T p (i + 1) = (wrM v n p (X.2.2.1 i) (X.2.2.2 i)).elim (wrgL v n X T p i) (fun c => if c + T (p + X.2.2.1 i) < wrgL v n X T p i then c + T (p + X.2.2.1 i) else wrgL v n X T p i) := rfl
      have keep : wrgL v n X T p (i + 1) = wrgL v n X T p i → WP (some (Sum.inl (cI (wrgL v n X T p i), nI i + 1, C) : (Int32 × Int32 × CH) ⊕ (Int32 × CH))) (Sum.elim (fun s => i < X.1 ∧ s = (cI (wrgL v n X T p (i + 1)), nI (i + 1), C)) (fun r => r = (cI (wrgL v n X T p X.1), C))) := fun h => WP.ret ⟨hlt, by rw [h, nI_1]⟩
      cases hw : wrM v n p (X.2.2.1 i) (X.2.2.2 i) with
      | none =>
        rw [hw] at hs
        simp only [Option.elim, ↓reduceIte]
        exact keep hs
      | some c =>
        obtain ⟨h1, h2⟩ := wrM_le hw
        rw [hw] at hs
        simp only [Option.elim] at hs ⊢
        rcases hT2 (p + X.2.2.1 i) (by omega) h2 with h3 | h3
        · rw [if_neg (by omega)] at hs
          simp only [h3, ↓reduceIte]
          exact keep hs
        · have h4 : ¬ T (p + X.2.2.1 i) = 1000000000 := by omega
          simp only [h4, ↓reduceIte, nI_nem1 (show c + T (p + X.2.2.1 i) < 2 ^ 31 by omega)]
          rcases hok with h5 | h5
          · rw [h5, if_pos (by omega)] at hs
            rw [h5, cI_far, if_pos rfl]
            refine WP.ret ⟨hlt, ?_⟩
            rw [hs, cI_n (by omega), nI_1]
          · rw [cI_n (show wrgL v n X T p i < 1000 by omega), if_neg (nI_nem1 (by omega))]
            by_cases h6 : wrgL v n X T p i ≤ c + T (p + X.2.2.1 i)
            · rw [if_neg (by omega)] at hs
              rw [if_pos (nI_le h6 (by omega))]
              rw [cI_n (show wrgL v n X T p i < 1000 by omega)] at keep
              exact keep hs
            · rw [if_pos (by omega)] at hs
              rw [if_neg (nI_ge (by omega) (by omega))]
              refine WP.ret ⟨hlt, ?_⟩
              rw [hs, cI_n (by omega), nI_1]
    · have hii : i = X.1 := by omega
      subst hii
      rw [if_pos (nI_le (by omega) (by omega))]
      simp only [WP_bind, WP_some, Option.bind_some, Sum.elim_inl, Sum.elim_inr, ↓reduceIte]
  obtain ⟨e, h4, rfl⟩ := key
  rw [h4]
  rfl
theorem fewestWrong_wp {C : CH} {b o n : Nat} {v : Nat → Nat} {X : WX} (Q : LineS (sh C) (b + 33)) (x1 : WordsC b X C) (xok : WordsOk X) (V : RowV C o n v) (hb : b + 81 ≤ C.1) (ho : b + 81 ≤ o) : WP (t_X4_fewestWrong (b + 33) o (b + 32) C) (fun r => r.1 = cI (wrgT v n X n 0) ∧ Fr (b + 35) (b + 35) C r.2 ∧ ∀ q, q ≤ n → c_ar r.2 (b + 35) q = cI (wrgT v n X n q)) := by
  have hn := V.2.2.1
  have hX := fun i hi => (xok.2 i hi).1
  obtain ⟨lk, lr0, lk0, ll0, lr1, lk1, ll1, lr2, lk2, ll2⟩ := Q.f
  obtain ⟨wk, _⟩ := V.1.f
  unfold t_X4_fewestWrong
  simp only [WP_bind, WP_some, Option.bind_some, tcl_5, tgR_5_0, tpR_5_0, tgR_5_1, tpR_5_1, tgR_5_2, tpR_5_2, tgI_5_3, tpI_5_3, tgJ_5_4, tpJ_5_4, tcl_7, tgR_7_0, tpR_7_0, tgI_7_1, tpI_7_1, lk, lr0, lk0, ll0, lr1, lk1, ll1, lr2, lk2, ll2, wk, V.2.1]
  refine tst_wp lk1 ll1 (show n < 25 by omega) (by omega) (fun D0 F0 i0 a0 => ?_)
  have V0 := V.fr F0 (by omega)
  obtain ⟨wk, _⟩ := V0.1.f
  have F0' : Fr (b + 35) (b + 35) C D0 := F0
  have a0' : ∀ h, c_ar D0 (b + 35) h = if h = n then 0 else c_ar C (b + 35) h := a0
  simp only [WP_bind, WP_some, Option.bind_some, tcl_7, tgR_7_0, tpR_7_0, tgI_7_1, tpI_7_1, wk, V0.2.1, dnI_0]
  refine WP.mono (WP.it (Post := fun D => Fr (b + 35) (b + 35) C D ∧ ∀ q, q ≤ n → c_ar D (b + 35) q = cI (wrgT v n X n q)) (fun k s => s.1 = dnI n k ∧ Fr (b + 35) (b + 35) C s.2 ∧ ∀ q, n - k ≤ q → q ≤ n → c_ar s.2 (b + 35) q = cI (wrgT v n X k q)) n ?_ 100000 0 _ ?_ (Nat.zero_le _) (by omega)) ?_
  · rintro k ⟨y, D⟩ hk ⟨e1, F, e2⟩
    dsimp only at e1 F e2
    subst e1
    have V' := V.fr F (by omega)
    have Q' := Q.tr F.2.2.1
    have x1' := x1.fr hb F (by omega) (by omega)
    obtain ⟨lk, lr0, lk0, ll0, lr1, lk1, ll1, lr2, lk2, ll2⟩ := Q'.f
    obtain ⟨wk, wr0, wk0, wl0⟩ := V'.1.f
    unfold t_X4_fewestWrong_L17
    dsimp only
    by_cases hlt : k < n
    · have ed : dnI n k = nI (n - 1 - k) := by unfold dnI; rw [if_pos hlt]
      rw [ed]
      have hp : n - (k + 1) = n - 1 - k := by omega
      have d1 : n - 1 - k < 24 := by omega
      have d2 : n - 1 - k < n := by omega
      have hv3 := V.2.2.2.2 (n - 1 - k) d2
      rw [if_neg (nI_pos (by omega))]
      simp only [tcl_5, tgR_5_0, tpR_5_0, tgR_5_1, tpR_5_1, tgR_5_2, tpR_5_2, tgI_5_3, tpI_5_3, tgJ_5_4, tpJ_5_4, tcl_7, tgR_7_0, tpR_7_0, tgI_7_1, tpI_7_1, Nat.reduceLT, tld_n, tst_n, tldB_n, tstB_n, tldR3_n, tldR4_n, tldJ_n, tstJ_n, tlen_I, tlen_R, lk, lr0, lk0, ll0, lr1, lk1, ll1, lr2, lk2, ll2, wk, wr0, wk0, wl0, d1, Option.bind_some, V'.2.2.2.1 (n - 1 - k) d2, silent_eq hv3]
      have fin : ∀ z : Int32, z = cI (wrgT v n X (k + 1) (n - 1 - k)) → WP ((tst D 0 (b + 33 + 2) (nI (n - 1 - k)) z).bind fun h22 => some (Sum.inl (nI (n - 1 - k) + (-1), h22) : (Int32 × CH) ⊕ CH)) (Sum.elim (fun s => k < n ∧ s.1 = dnI n (k + 1) ∧ Fr (b + 35) (b + 35) C s.2 ∧ ∀ q, n - (k + 1) ≤ q → q ≤ n → c_ar s.2 (b + 35) q = cI (wrgT v n X (k + 1) q)) (fun D => Fr (b + 35) (b + 35) C D ∧ ∀ q, q ≤ n → c_ar D (b + 35) q = cI (wrgT v n X n q))) := by
        rintro z rfl
        simp only [WP_bind, WP_some]
        refine tst_wp lk1 ll1 (show n - 1 - k < 25 by omega) (by omega) (fun E FE iE aE => ?_)
        have FE' : Fr (b + 35) (b + 35) D E := FE
        have aE' : ∀ h, c_ar E (b + 35) h = if h = n - 1 - k then cI (wrgT v n X (k + 1) (n - 1 - k)) else c_ar D (b + 35) h := aE
        refine ⟨hlt, dnI_s hlt, F.tr FE', fun q h1 h2 => ?_⟩
        rw [aE']
        by_cases hq : q = n - 1 - k
        · subst hq; rw [if_pos rfl]
        · rw [if_neg hq, e2 q (by omega) h2]
          show _ = cI (updN _ (n - (k + 1)) _ q)
          rw [updN_n (by omega)]
      have hval : wrgT v n X (k + 1) (n - 1 - k) = if sg (v (n - 1 - k)) = true then wrgL v n X (wrgT v n X k) (n - 1 - k) X.1 else wrgT v n X k (n - 1 - k + 1) := by
        show updN _ (n - (k + 1)) _ _ = _
        rw [hp, updN_e]
      by_cases hsg : sg (v (n - 1 - k)) = true
      · simp only [hsg, ↓reduceIte, tcl_5, tgR_5_0, tpR_5_0, tgR_5_1, tpR_5_1, tgR_5_2, tpR_5_2, tgI_5_3, tpI_5_3, tgJ_5_4, tpJ_5_4, lk, lr0, lk0, ll0, lr1, lk1, ll1, lr2, lk2, ll2, Option.bind_some, leastWrong_eq Q' x1' xok V' d2 (T := wrgT v n X k) (fun q a c => e2 q (by omega) c) (fun q a c => wrgT_ok hX k (by omega) q (by omega) c)]
        exact fin _ (by rw [hval, if_pos hsg])
      · have d3 : n - 1 - k + 1 < 25 := by omega
        have hal : c_ar D (b + 33 + 2) (n - 1 - k + 1) = cI (wrgT v n X k (n - 1 - k + 1)) := e2 (n - 1 - k + 1) (by omega) (by omega)
        simp only [hsg, ↓reduceIte, Bool.false_eq_true, i10, tcl_5, tgR_5_0, tpR_5_0, tgR_5_1, tpR_5_1, tgR_5_2, tpR_5_2, tgI_5_3, tpI_5_3, tgJ_5_4, tpJ_5_4, Nat.reduceLT, tld_n, tst_n, tldB_n, tstB_n, tldR3_n, tldR4_n, tldJ_n, tstJ_n, tlen_I, tlen_R, lk, lr0, lk0, ll0, lr1, lk1, ll1, lr2, lk2, ll2, nI_1, d3, hal, Option.bind_some]
        exact fin _ (by rw [hval, if_neg hsg])
    · have hkk : k = n := by omega
      subst hkk
      have ed : dnI k k = -1 := by unfold dnI; rw [if_neg (by omega)]
      rw [ed, if_pos (by decide)]
      simp only [WP_bind, WP_some, Option.bind_some, Sum.elim_inl, Sum.elim_inr, ↓reduceIte]
      exact ⟨F, fun q hq => e2 q (by omega) hq⟩
  · refine ⟨rfl, F0', fun q h1 h2 => ?_⟩
    rw [a0', if_pos (by omega)]
    show _ = cI (if q = n then 0 else 1000000000)
    rw [if_pos (by omega)]
    rfl
  · rintro D ⟨F, e2⟩
    obtain ⟨lk, lr0, lk0, ll0, lr1, lk1, ll1, lr2, lk2, ll2⟩ := (Q.tr F.2.2.1).f
    have e20 : c_ar D (b + 33 + 2) 0 = cI (wrgT v n X n 0) := e2 0 (Nat.zero_le _)
    rw [show (0 : Int32) = nI 0 from rfl]
    have d1 : 0 < 25 := by decide
    simp only [WP_bind, WP_some, Option.bind_some, tcl_5, tgR_5_0, tpR_5_0, tgR_5_1, tpR_5_1, tgR_5_2, tpR_5_2, tgI_5_3, tpI_5_3, tgJ_5_4, tpJ_5_4, Nat.reduceLT, tld_n, tst_n, tldB_n, tstB_n, tldR3_n, tldR4_n, tldJ_n, tstJ_n, tlen_I, tlen_R, lk, lr0, lk0, ll0, lr1, lk1, ll1, lr2, lk2, ll2, d1, e20]
    exact ⟨trivial, F, e2⟩
