/-- the reference's tables -/
def RVer (M : MS) (s n : Nat) (v : Nat → Nat) : Prop := s < 6 ∧ M.2.2.1 1 s = nI n ∧ n ≤ 24 ∧ (∀ k, k < n → M.2.2.1 3 (24 * s + k) = nI (v k)) ∧ ∀ k, k < n → v k ≤ 3
theorem RVer.fr {M N : MS} {s n : Nat} {v : Nat → Nat} {I A : List Nat} (h : RVer M s n v) (F : FM I A M N) (hA : 1 ∉ A ∧ 3 ∉ A) : RVer N s n v := by
  obtain ⟨h1, h2, h3, h4, h5⟩ := h
  exact ⟨h1, by rw [F.2 1 hA.1]; exact h2, h3, by rw [F.2 3 hA.2]; exact h4, h5⟩
theorem wrongOf_eq' {M : MS} {s n p i : Nat} {v : Nat → Nat} {X : WX} (V : RVer M s n v) (xm : WordsM X M) (xok : WordsOk X) (hi : i < X.1) (hp : p ≤ 24) : g_X12_wrongOf (nI s) (nI p) (nI i) M = some (wI (wrM v n p (X.2.2.1 i) (X.2.2.2 i)), M) := by
  obtain ⟨h1, h2, h3, h4, h5⟩ := V
  obtain ⟨o1, o2, o3⟩ := xok.2 i hi
  have h12 := xok.1
  exact wrongOf_eq h1 (by omega) h2 h3 h4 h5 (xm.2 i hi).1 (xm.2 i hi).2 ⟨o1, o2⟩ o3 hp
theorem lgc_le (x y : Int64) : (lg_cmp x y ≤ 0) ↔ ¬ y < x := by
  rw [← lgc_gt x y, Int32.le_iff_toInt_le, Int32.lt_iff_toInt_lt]
  omega
theorem lgc_ge (x y : Int64) : (0 ≤ lg_cmp x y) ↔ ¬ x < y := by
  rw [← lgc_lt x y, Int32.le_iff_toInt_le, Int32.lt_iff_toInt_lt]
  omega
theorem mst_wp2 {K : MS → Prop} {N : MS} {k j : Nat} {i x : Int32} (e : i = nI j) (h : j < mlen k) (h2 : mlen k < 2147483648) (hK : ∀ N', FM [] [k] N N' → N'.2.2.2 = N.2.2.2 → (∀ h, N'.2.2.1 k h = if h = j then x else N.2.2.1 k h) → K N') : WP (mst N k i x) K := by
  rw [e, mst_n h h2]
  exact WP.ret (hK _ (FM.A _ (List.mem_singleton.mpr rfl)) rfl (fun h => msA_u _ _ _ _ _))
theorem wrgL_far (v : Nat → Nat) (n : Nat) (X : WX) (T : Nat → Nat) (p : Nat) : ∀ i, wrgL v n X T p i ≤ 1000000000
  | 0 => Nat.le_refl _
  | i + 1 => by
    have ih := wrgL_far v n X T p i
    unfold wrgL
    cases wrM v n p (X.2.2.1 i) (X.2.2.2 i) with
    | none => exact ih
    | some c =>
      simp only [Option.elim]
      split
      · omega
      · exact ih
theorem findWords_wp {N : MS} {s n p : Nat} {v T U : Nat → Nat} {X : WX} (V : RVer N s n v) (xm : WordsM X N) (xok : WordsOk X) (hp : p < n) (hT : ∀ q, p < q → q ≤ n → N.2.2.2 q = lN (T q)) (hT2 : ∀ q, T q ≤ 1000000000000000) (hU : ∀ q, p < q → q ≤ n → N.2.2.1 34 q = nI (U q)) (hU2 : ∀ q, p < q → q ≤ n → U q ≤ 1000000000) : iter (g_X12_findLines_L82 (nI s) (nI p)) 100000 (0, 1000000000, 0, N) = some (lN (waySum v n X T p X.1), nI (wrgL v n X U p X.1), N) := by
  have hn := V.2.2.1
  have h12 := xok.1
  have key : WP (iter (g_X12_findLines_L82 (nI s) (nI p)) 100000 (0, 1000000000, 0, N)) (fun r => r = (lN (waySum v n X T p X.1), nI (wrgL v n X U p X.1), N)) := by
    refine WP.it (fun i x => x = (lN (waySum v n X T p i), nI (wrgL v n X U p i), nI i, N)) X.1 ?_ 100000 0 _ rfl (Nat.zero_le _) (by omega)
    rintro i x hi rfl
    unfold g_X12_findLines_L82
    dsimp only
    rw [xm.1]
    by_cases hlt : i < X.1
    · obtain ⟨o1, o2, o3⟩ := xok.2 i hlt
      have m31 : mld N 31 (nI i) = some (nI (X.2.2.1 i)) := by rw [mld_n (k := 31) (show i < 12 by omega) (by decide), (xm.2 i hlt).1]
      rw [if_neg (nI_ge hlt (by omega)), wrongOf_eq' V xm xok hlt (by omega)]
      simp only [Option.bind_some]
      have hs : waySum v n X T p (i + 1) = if wrM v n p (X.2.2.1 i) (X.2.2.2 i) = some 0 then min 1000000000000000 (waySum v n X T p i + T (p + X.2.2.1 i)) else waySum v n X T p i := rfl
      have hu : wrgL v n X U p (i + 1) = (wrM v n p (X.2.2.1 i) (X.2.2.2 i)).elim (wrgL v n X U p i) (fun c => if c + U (p + X.2.2.1 i) < wrgL v n X U p i then c + U (p + X.2.2.1 i) else wrgL v n X U p i) := rfl
      have hf := wrgL_far v n X U p i
      -- the second half
      have snd : ∀ z : Nat, waySum v n X T p (i + 1) = z → WP (g_X12_findLines_L82_J144 (nI s) (nI p) (lN z) (nI (wrgL v n X U p i)) (nI i) (wI (wrM v n p (X.2.2.1 i) (X.2.2.2 i))) N) (Sum.elim (fun x => i < X.1 ∧ x = (lN (waySum v n X T p (i + 1)), nI (wrgL v n X U p (i + 1)), nI (i + 1), N)) (fun r => r = (lN (waySum v n X T p X.1), nI (wrgL v n X U p X.1), N))) := by
        intro z hz
        unfold g_X12_findLines_L82_J144
        cases hw : wrM v n p (X.2.2.1 i) (X.2.2.2 i) with
        | none =>
          rw [hw] at hu
          rw [if_pos (show wI none < 0 by decide)]
          refine WP.ret ⟨hlt, ?_⟩
          rw [hz, hu, nI_1]
          rfl
        | some c =>
          obtain ⟨h1, h2⟩ := wrM_le hw
          rw [hw] at hu
          simp only [Option.elim] at hu
          have hu2 := hU2 (p + X.2.2.1 i) (by omega) h2
          have m34 : mld N 34 (nI p + nI (X.2.2.1 i)) = some (nI (U (p + X.2.2.1 i))) := by rw [nI_add, mld_n (k := 34) (show p + X.2.2.1 i < 25 by omega) (by decide), hU _ (by omega) h2]
          rw [if_neg (show ¬ wI (some c) < 0 from nI_pos (by omega))]
          simp only [m31, m34, Option.bind_some]
          rw [show wI (some c) + nI (U (p + X.2.2.1 i)) = nI (c + U (p + X.2.2.1 i)) from nI_add _ _]
          by_cases hc : wrgL v n X U p i ≤ c + U (p + X.2.2.1 i)
          · rw [if_neg (by omega)] at hu
            rw [if_pos (nI_le hc (by omega))]
            refine WP.ret ⟨hlt, ?_⟩
            rw [hz, hu, nI_1]
          · rw [if_pos (by omega)] at hu
            rw [if_neg (nI_ge (by omega) (by omega))]
            refine WP.ret ⟨hlt, ?_⟩
            rw [hz, hu, nI_1]
      cases hw : wrM v n p (X.2.2.1 i) (X.2.2.2 i) with
      | none =>
        rw [hw] at snd
        rw [hw, if_neg (by simp)] at hs
        rw [if_neg (show ¬ wI none = 0 by decide)]
        exact snd _ hs
      | some c =>
        obtain ⟨h1, h2⟩ := wrM_le hw
        rw [hw] at snd
        by_cases hc : c = 0
        · subst hc
          rw [hw, if_pos rfl] at hs
          rw [if_pos (show wI (some 0) = 0 from rfl)]
          have h5 := waySum_le v n X T p i
          have h6 := hT2 (p + X.2.2.1 i)
          have mJ : mldJ N (nI p + nI (X.2.2.1 i)) = some (lN (T (p + X.2.2.1 i))) := by rw [nI_add, mldJ_n (show p + X.2.2.1 i < 25 by omega), hT _ (by omega) h2]
          simp only [m31, mJ, Option.bind_some, lN_add, lgc_le]
          by_cases hcap : 1000000000000000 < waySum v n X T p i + T (p + X.2.2.1 i)
          · have c1 : ¬ ¬ (1000000000000000 : Int64) < lN (waySum v n X T p i + T (p + X.2.2.1 i)) := fun z => z ((pk_lLT (a := 1000000000000000) (by omega) (by omega)).mpr hcap)
            rw [if_neg c1]
            unfold g_X12_findLines_L82_J142
            exact snd 1000000000000000 (by rw [hs]; omega)
          · have c1 : ¬ (1000000000000000 : Int64) < lN (waySum v n X T p i + T (p + X.2.2.1 i)) := fun z => hcap ((pk_lLT (a := 1000000000000000) (by omega) (by omega)).mp z)
            rw [if_pos c1]
            unfold g_X12_findLines_L82_J142
            exact snd _ (by rw [hs]; omega)
        · rw [hw, if_neg (by simp [hc])] at hs
          rw [if_neg (show ¬ wI (some c) = 0 from nI_ne0 (by omega) (by omega))]
          exact snd _ hs
    · have hii : i = X.1 := by omega
      subst hii
      rw [if_pos (nI_le (by omega) (by omega))]
      simp only [WP_bind, WP_some, Option.bind_some, Sum.elim_inl, Sum.elim_inr, ↓reduceIte]
  obtain ⟨e, h4, rfl⟩ := key
  exact h4
theorem findLines_wp {M : MS} {s n : Nat} {v : Nat → Nat} {X : WX} (V : RVer M s n v) (xm : WordsM X M) (xok : WordsOk X) : WP (g_X12_findLines (nI s) M) (fun N => FM [] [34] M N ∧ (∀ q, q ≤ n → N.2.2.2 q = lN (wayT v n X n q)) ∧ ∀ q, q ≤ n → N.2.2.1 34 q = nI (wrgT v n X n q)) := by
  have hn := V.2.2.1
  have hX := fun i hi => (xok.2 i hi).1
  have h12 := xok.1
  obtain ⟨hs, h1, _, h3, hv⟩ := id V
  unfold g_X12_findLines
  rw [mld_n (k := 1) (show s < 6 from hs) (by decide), h1]
  simp only [WP_bind, WP_some, Option.bind_some]
  refine mstJ_wp rfl (show n < 25 by omega) (fun A GA aA => ?_)
  refine mst_wp2 rfl (show n < 25 by omega) (by decide) (fun B GB jB aB => ?_)
  rw [dnI_0]
  refine WP.mono (WP.it (Post := fun N => FM [] [34] M N ∧ (∀ q, q ≤ n → N.2.2.2 q = lN (wayT v n X n q)) ∧ ∀ q, q ≤ n → N.2.2.1 34 q = nI (wrgT v n X n q)) (fun k x => x.1 = dnI n k ∧ FM [] [34] M x.2 ∧ (∀ q, n - k ≤ q → q ≤ n → x.2.2.2.2 q = lN (wayT v n X k q)) ∧ ∀ q, n - k ≤ q → q ≤ n → x.2.2.2.1 34 q = nI (wrgT v n X k q)) n ?_ 100000 0 _ ?_ (Nat.zero_le _) (by omega)) (fun _ h => h)
  · rintro k ⟨y, N⟩ hk ⟨e1, F, e2, e3⟩
    dsimp only at e1 F e2 e3
    subst e1
    have V' := V.fr F (by decide)
    have xm' := xm.fr F (by decide) (by decide)
    unfold g_X12_findLines_L25
    dsimp only
    by_cases hlt : k < n
    · have ed : dnI n k = nI (n - 1 - k) := by unfold dnI; rw [if_pos hlt]
      rw [ed]
      have hp : n - (k + 1) = n - 1 - k := by omega
      have d2 : n - 1 - k < n := by omega
      obtain ⟨z1, z2, z3, z4, z5⟩ := id V'
      rw [if_neg (nI_pos (by omega)), sungFrom_eq z1 z2 z3 z4 z5 (show n - 1 - k ≤ n by omega)]
      simp only [WP_bind, WP_some, Option.bind_some]
      have hwv : wayT v n X (k + 1) (n - 1 - k) = if sg (v (n - 1 - k)) = true then waySum v n X (wayT v n X k) (n - 1 - k) X.1 else wayT v n X k (n - 1 - k + 1) := by
        show updN _ (n - (k + 1)) _ _ = _
        rw [hp, updN_e]
      have hgv : wrgT v n X (k + 1) (n - 1 - k) = if sg (v (n - 1 - k)) = true then wrgL v n X (wrgT v n X k) (n - 1 - k) X.1 else wrgT v n X k (n - 1 - k + 1) := by
        show updN _ (n - (k + 1)) _ _ = _
        rw [hp, updN_e]
      -- what is stored
      have fin : ∀ (N2 N3 : MS), FM [] [] N N2 → (∀ h, N2.2.2.2 h = if h = n - 1 - k then lN (wayT v n X (k + 1) (n - 1 - k)) else N.2.2.2 h) → FM [] [34] N2 N3 → N3.2.2.2 = N2.2.2.2 → (∀ h, N3.2.2.1 34 h = if h = n - 1 - k then nI (wrgT v n X (k + 1) (n - 1 - k)) else N2.2.2.1 34 h) → k < n ∧ nI (n - 1 - k) + (-1) = dnI n (k + 1) ∧ FM [] [34] M N3 ∧ (∀ q, n - (k + 1) ≤ q → q ≤ n → N3.2.2.2 q = lN (wayT v n X (k + 1) q)) ∧ ∀ q, n - (k + 1) ≤ q → q ≤ n → N3.2.2.1 34 q = nI (wrgT v n X (k + 1) q) := by
        intro N2 N3 G2 j2 G3 j3 a3
        refine ⟨hlt, dnI_s hlt, F.tr ((G2.mono (fun k h => h) (fun k h => absurd h List.not_mem_nil)).tr G3), fun q q1 q2 => ?_, fun q q1 q2 => ?_⟩
        · rw [j3, j2]
          by_cases hq : q = n - 1 - k
          · subst hq; rw [if_pos rfl]
          · rw [if_neg hq, e2 q (by omega) q2]
            show _ = lN (updN _ (n - (k + 1)) _ q)
            rw [updN_n (by omega)]
        · rw [a3]
          by_cases hq : q = n - 1 - k
          · subst hq; rw [if_pos rfl]
          · rw [if_neg hq, G2.2 34 (by decide), e3 q (by omega) q2]
            show _ = nI (updN _ (n - (k + 1)) _ q)
            rw [updN_n (by omega)]
      by_cases hsg : sg (v (n - 1 - k)) = true
      · rw [sfM_e (Or.inr hsg), if_pos (nI_le (Nat.le_refl _) (by omega)), findWords_wp (T := wayT v n X k) (U := wrgT v n X k) V' xm' xok d2 (fun q a c => e2 q (by omega) c) (wayT_le v n X k) (fun q a c => e3 q (by omega) c) (fun q a c => by have := wrgT_ok (v := v) (n := n) hX k (by omega) q (by omega) c; omega)]
        simp only [WP_bind, WP_some, Option.bind_some]
        refine mstJ_wp rfl (show n - 1 - k < 25 by omega) (fun N2 G2 j2 => ?_)
        refine mst_wp2 rfl (show n - 1 - k < 25 by omega) (by decide) (fun N3 G3 j3 a3 => ?_)
        exact fin N2 N3 G2 (by rw [hwv, if_pos hsg]; exact j2) G3 j3 (by rw [hgv, if_pos hsg]; exact a3)
      · have hsg' : sg (v (n - 1 - k)) = false := by simpa using hsg
        have hge := sfF_ge (v := v) (n := n) 30 (n - 1 - k + 1)
        have hfr : sfM v n (n - 1 - k) = sfM v n (n - 1 - k + 1) := sfM_s hn d2 hsg'
        have hg1 : n - 1 - k + 1 ≤ sfM v n (n - 1 - k + 1) := hge.1
        have hg2 : sfM v n (n - 1 - k + 1) ≤ n := hge.2 (by omega)
        have t1 : wayT v n X k (sfM v n (n - 1 - k + 1)) = wayT v n X k (n - 1 - k + 1) := sfF_tab 30 _ (fun q a c d => wayT_flat k (by omega) q (by omega) c d)
        have t2 : wrgT v n X k (sfM v n (n - 1 - k + 1)) = wrgT v n X k (n - 1 - k + 1) := sfF_tab 30 _ (fun q a c d => wrgT_flat k (by omega) q (by omega) c d)
        rw [hfr, if_neg (nI_ge (by omega) (by omega)), mldJ_n (by omega), e2 _ (by omega) hg2, t1]
        simp only [WP_bind, WP_some, Option.bind_some]
        refine mstJ_wp rfl (show n - 1 - k < 25 by omega) (fun N2 G2 j2 => ?_)
        have m34 : mld N2 34 (nI (sfM v n (n - 1 - k + 1))) = some (nI (wrgT v n X k (n - 1 - k + 1))) := by rw [mld_n (k := 34) (show sfM v n (n - 1 - k + 1) < 25 by omega) (by decide), G2.2 34 (by decide), e3 _ (by omega) hg2, t2]
        rw [m34]
        simp only [WP_bind, WP_some, Option.bind_some]
        refine mst_wp2 rfl (show n - 1 - k < 25 by omega) (by decide) (fun N3 G3 j3 a3 => ?_)
        exact fin N2 N3 G2 (by rw [hwv, if_neg hsg]; exact j2) G3 j3 (by rw [hgv, if_neg hsg]; exact a3)
    · have hkk : k = n := by omega
      subst hkk
      have ed : dnI k k = -1 := by unfold dnI; rw [if_neg (by omega)]
      rw [ed, if_pos (by decide)]
      simp only [WP_bind, WP_some, Option.bind_some, Sum.elim_inl, Sum.elim_inr, ↓reduceIte]
      exact ⟨F, fun q hq => e2 q (by omega) hq, fun q hq => e3 q (by omega) hq⟩
  · refine ⟨rfl, (GA.mono (fun k h => h) (fun k h => absurd h List.not_mem_nil)).tr GB, fun q q1 q2 => ?_, fun q q1 q2 => ?_⟩
    · rw [jB, aA, if_pos (by omega)]
      show _ = lN (if q = n then 1 else 0)
      rw [if_pos (by omega)]
      rfl
    · rw [aB, if_pos (by omega)]
      show _ = nI (if q = n then 0 else 1000000000)
      rw [if_pos (by omega)]
      rfl
theorem FM.ms {I A : List Nat} {M N : MS} (F : FM I A M N) : True := trivial
theorem SongV.row {C : CH} {b s : Nat} {S : SX} (s1 : SongsC b S C) (sok : SongsOk S) (hs : s < S.1) : RowV C (S.2.1 s + 1) (S.2.2.1 s) (S.2.2.2.2.1 s) := by
  obtain ⟨y1, y2, _⟩ := s1.2 s hs
  exact ⟨y1.2.2.2.1, y2.1, y2.2.2.2.2.2.1, y2.2.2.1, (sok.2 s hs).1⟩
theorem RSongV.ver {M : MS} {s : Nat} {S : SX} (sm : SongsM S M) (sok : SongsOk S) (hs : s < S.1) : RVer M s (S.2.2.1 s) (S.2.2.2.2.1 s) := by
  obtain ⟨v1, v2, v3, v4, v5, v6, v7⟩ := sm.2 s hs
  have := sok.1
  exact ⟨by omega, v1, v6, v3, (sok.2 s hs).1⟩
/-- the class's lines and the reference's tables are scratch -/
theorem InvX.line {b : Nat} {H : HX} {S : SX} {T : TX} {bw : Nat} {X : WX} {R : RX} {K : KX} {C C' : CH} {M M' : MS} (I : InvX b H S T bw X R K C M) (F : Fr (b + 33) (b + 36) C C') (G : FM [] [34] M M') : Inv b C' M' := by
  have pl := I.2.2.2.2.2.2.2.2.2
  exact I.scr (by rw [F.1]; exact Nat.le_refl _) F.2.1 (fun a _ => AgS.of F.2.2.1 a) (fun a _ h1 h2 h3 => F.ag (by omega)) (G.mono (fun k h => absurd h List.not_mem_nil) (by decide)) (fun j _ => by rw [G.2 13 (by decide)]) (pl.ag (F.ag (by omega)) (F.ag (by omega)))
theorem op_lines {b : Nat} {C : CH} {M : MS} (I : Inv b C M) (x : Int32) : OPJ b (t_X11_lines b x C) (g_X12_lines x M) := by
  have I0 := I
  obtain ⟨H, S, T, bw, X, R, K, I⟩ := I
  obtain ⟨IB, _, ⟨s1, sm, sok⟩, _, _, ⟨x1, xm, xok⟩, _⟩ := id I
  obtain ⟨xk, xr0, xr1, xr2, xr3, xr4, xr6, xr7, xr8, xr9, xr10, xr11⟩ := IB.1.x
  have hb := IB.2.1
  have h6 := sok.1
  have Q := IB.1.2.2.2.2.2.1
  obtain ⟨lk, _⟩ := Q.f
  unfold t_X11_lines g_X12_lines
  rw [noSong_eq sm]
  by_cases hv : x < 0 ∨ nI S.1 - 1 < x
  · simp only [hv, ↓reduceIte, i10, tcl_12, tgR_12_0, tpR_12_0, tgR_12_1, tpR_12_1, tgR_12_2, tpR_12_2, tgR_12_3, tpR_12_3, tgR_12_4, tpR_12_4, tgI_12_5, tpI_12_5, tgR_12_6, tpR_12_6, tgR_12_7, tpR_12_7, tgR_12_8, tpR_12_8, tgR_12_9, tpR_12_9, tgR_12_10, tpR_12_10, tgR_12_11, tpR_12_11, xk, Option.bind_some, (songOf_eq IB s1 x).1 hv, Option.elim]
    exact WP.ret (WP.ret ⟨rfl, I0⟩)
  · obtain ⟨j, hj, rfl⟩ := in_n (by omega) hv
    obtain ⟨q1, q2, q3, _⟩ := s1.2 j hj
    obtain ⟨gk, gr0, _⟩ := q1.f
    simp only [OPJ, hv, ↓reduceIte, tcl_12, tgR_12_0, tpR_12_0, tgR_12_1, tpR_12_1, tgR_12_2, tpR_12_2, tgR_12_3, tpR_12_3, tgR_12_4, tpR_12_4, tgI_12_5, tpI_12_5, tgR_12_6, tpR_12_6, tgR_12_7, tpR_12_7, tgR_12_8, tpR_12_8, tgR_12_9, tpR_12_9, tgR_12_10, tpR_12_10, tgR_12_11, tpR_12_11, tcl_8, tgR_8_0, tpR_8_0, tgR_8_1, tpR_8_1, tcl_5, tgR_5_0, tpR_5_0, tgR_5_1, tpR_5_1, tgR_5_2, tpR_5_2, tgI_5_3, tpI_5_3, tgJ_5_4, tpJ_5_4, xk, xr0, xr1, xr2, xr3, xr4, xr6, xr7, xr8, xr9, xr10, xr11, gk, gr0, lk, Option.bind_some, (songOf_eq IB s1 (nI j)).2 j hj h6 rfl, Option.elim, WP_bind, WP_some]
    refine WP.mono (howMany_wp Q x1 xok (SongV.row s1 sok hj) hb (by omega)) ?_
    rintro ⟨z, D⟩ ⟨e1, F, e2⟩
    dsimp only at e1 F e2
    subst e1
    refine WP.mono (findLines_wp (RSongV.ver sm sok hj) xm xok) ?_
    rintro N ⟨G, g1, g2⟩
    rw [show (0 : Int32) = nI 0 from rfl, mldJ_n (by decide), g1 0 (Nat.zero_le _)]
    exact WP.ret ⟨rfl, I.line (F.mono (by omega) (by omega)) G⟩
theorem op_near {b : Nat} {C : CH} {M : MS} (I : Inv b C M) (x : Int32) : OP b (t_X11_near b x C) (g_X12_near x M) := by
  have I0 := I
  obtain ⟨H, S, T, bw, X, R, K, I⟩ := I
  obtain ⟨IB, _, ⟨s1, sm, sok⟩, _, _, ⟨x1, xm, xok⟩, _⟩ := id I
  obtain ⟨xk, xr0, xr1, xr2, xr3, xr4, xr6, xr7, xr8, xr9, xr10, xr11⟩ := IB.1.x
  have hb := IB.2.1
  have h6 := sok.1
  have Q := IB.1.2.2.2.2.2.1
  obtain ⟨lk, _⟩ := Q.f
  unfold t_X11_near g_X12_near
  rw [noSong_eq sm]
  by_cases hv : x < 0 ∨ nI S.1 - 1 < x
  · simp only [hv, ↓reduceIte, i10, tcl_12, tgR_12_0, tpR_12_0, tgR_12_1, tpR_12_1, tgR_12_2, tpR_12_2, tgR_12_3, tpR_12_3, tgR_12_4, tpR_12_4, tgI_12_5, tpI_12_5, tgR_12_6, tpR_12_6, tgR_12_7, tpR_12_7, tgR_12_8, tpR_12_8, tgR_12_9, tpR_12_9, tgR_12_10, tpR_12_10, tgR_12_11, tpR_12_11, xk, Option.bind_some, (songOf_eq IB s1 x).1 hv, Option.elim]
    exact op_same I0 _
  · obtain ⟨j, hj, rfl⟩ := in_n (by omega) hv
    obtain ⟨q1, q2, q3, _⟩ := s1.2 j hj
    obtain ⟨gk, gr0, _⟩ := q1.f
    simp only [OP, hv, ↓reduceIte, tcl_12, tgR_12_0, tpR_12_0, tgR_12_1, tpR_12_1, tgR_12_2, tpR_12_2, tgR_12_3, tpR_12_3, tgR_12_4, tpR_12_4, tgI_12_5, tpI_12_5, tgR_12_6, tpR_12_6, tgR_12_7, tpR_12_7, tgR_12_8, tpR_12_8, tgR_12_9, tpR_12_9, tgR_12_10, tpR_12_10, tgR_12_11, tpR_12_11, tcl_8, tgR_8_0, tpR_8_0, tgR_8_1, tpR_8_1, tcl_5, tgR_5_0, tpR_5_0, tgR_5_1, tpR_5_1, tgR_5_2, tpR_5_2, tgI_5_3, tpI_5_3, tgJ_5_4, tpJ_5_4, xk, xr0, xr1, xr2, xr3, xr4, xr6, xr7, xr8, xr9, xr10, xr11, gk, gr0, lk, Option.bind_some, (songOf_eq IB s1 (nI j)).2 j hj h6 rfl, Option.elim, WP_bind, WP_some]
    refine WP.mono (fewestWrong_wp Q x1 xok (SongV.row s1 sok hj) hb (by omega)) ?_
    rintro ⟨z, D⟩ ⟨e1, F, e2⟩
    dsimp only at e1 F e2
    subst e1
    refine WP.mono (findLines_wp (RSongV.ver sm sok hj) xm xok) ?_
    rintro N ⟨G, g1, g2⟩
    have m34 : mld N 34 0 = some (nI (wrgT (S.2.2.2.2.1 j) (S.2.2.1 j) X (S.2.2.1 j) 0)) := by rw [show (0 : Int32) = nI 0 from rfl, mld_n (k := 34) (by decide) (by decide), g2 0 (Nat.zero_le _)]
    have fin := I.line (F.mono (lo' := b + 33) (hi' := b + 36) (by omega) (by omega)) G
    have h24 := (RSongV.ver sm sok hj).2.2.1
    rw [m34]
    simp only [WP_some, Option.bind_some]
    rcases wrgT_ok (v := S.2.2.2.2.1 j) (n := S.2.2.1 j) (fun i hi => (xok.2 i hi).1) (S.2.2.1 j) (Nat.le_refl _) 0 (by omega) (Nat.zero_le _) with h | h
    · rw [h, cI_far, if_neg (by decide)]
      exact WP.ret ⟨rfl, fin⟩
    · have c9 : nI (wrgT (S.2.2.2.2.1 j) (S.2.2.1 j) X (S.2.2.1 j) 0) < 1000000000 := nI_lt (b := 1000000000) (by omega) (by omega)
      rw [cI_n (by omega), if_pos c9]
      exact WP.ret ⟨rfl, fin⟩
