/-! a haul goes -/
theorem sh_kd {C C' : CH} (h : sh C' = sh C) : c_kd C' = c_kd C := congrArg (fun x : SHP => x.1) h
theorem sh_ln {C C' : CH} (h : sh C' = sh C) : c_ln C' = c_ln C := congrArg (fun x : SHP => x.2.1) h
theorem sh_rv {C C' : CH} (h : sh C' = sh C) : c_rv C' = c_rv C := congrArg (fun x : SHP => x.2.2.1) h
theorem sh_ro {C C' : CH} (h : sh C' = sh C) : c_ro C' = c_ro C := congrArg (fun x : SHP => x.2.2.2) h
theorem TaskV.fr {C C' : CH} {tk lo hi goal load slip : Nat} (T : TaskV C tk goal load slip) (F : Fr lo hi C C') (h : hi < tk ∨ tk < lo) : TaskV C' tk goal load slip := by
  have e := sh_kd F.2.2.1
  unfold TaskV
  rw [e, (F.2.2.2 tk (by omega)).2.1]
  exact T
theorem GblV.fr {C C' : CH} {o : Nat} {P : HP} {W : HW} (G : GblV C o P W) (h : c_ar C' (o + 5) = c_ar C (o + 5)) : GblV C' o P W := by
  unfold GblV
  rw [h]
  exact G
theorem iv_upd (D : CH) (a k : Nat) (x : Int32) (b j : Nat) : c_iv (s_iv D (up2 (c_iv D) a k x)) b j = if b = a ∧ j = k then x else c_iv D b j := rfl
theorem store3 {E : CH} {o t : Nat} {x y z : Int32} {K : CH → Prop} (A : HaulS (sh E) o) (ht : t < 300) (hK : ∀ E5, Fr o (o + 5) E E5 → c_iv E5 o 5 = c_iv E o 5 → c_iv E5 o 6 = c_iv E o 6 → c_iv E5 o 7 = z → c_ar E5 (o + 1) = c_ar E (o + 1) → c_ar E5 (o + 2) = c_ar E (o + 2) → c_ar E5 (o + 5) = c_ar E (o + 5) → (∀ h, c_ar E5 (o + 3) h = if h = t then x else c_ar E (o + 3) h) → (∀ h, c_ar E5 (o + 4) h = if h = t then y else c_ar E (o + 4) h) → K E5) : WP (tgR E o 2 2) (fun v => WP (tst E 0 v (nI t) x) (fun E1 => WP (tgR E1 o 2 3) (fun v => WP (tst E1 0 v (nI t) y) (fun E2 => WP (tpF E2 o 2 7 (.int z)) K)))) := by
  obtain ⟨ok, or0, ok0, ol0, or1, ok1, ol1, or2, ok2, ol2, or3, ok3, ol3, or4, ok4, ol4⟩ := A.f
  simp only [WP_bind, WP_some, Option.bind_some, Sum.elim_inl, Sum.elim_inr, ↓reduceIte, tcl_2, tgR_2_0, tpR_2_0, tgR_2_1, tpR_2_1, tgR_2_2, tpR_2_2, tgR_2_3, tpR_2_3, tgR_2_4, tpR_2_4, tgI_2_5, tpI_2_5, tgI_2_6, tpI_2_6, tgI_2_7, tpI_2_7, Nat.reduceLT, tld_n, tst_n, tldB_n, tstB_n, tldR3_n, tldR4_n, tldJ_n, tstJ_n, tlen_I, tlen_R, ok, or0, ok0, ol0, or1, ok1, ol1, or2, ok2, ol2, or3, ok3, ol3, or4, ok4, ol4, ht, s_iv_1, s_iv_2, s_iv_kd, s_iv_ln, s_iv_iv, s_iv_jv, s_iv_rv, s_iv_ar, s_iv_al, s_iv_ro, s_jv_1, s_jv_2, s_jv_kd, s_jv_ln, s_jv_iv, s_jv_jv, s_jv_rv, s_jv_ar, s_jv_al, s_jv_ro, s_rv_1, s_rv_2, s_rv_kd, s_rv_ln, s_rv_iv, s_rv_jv, s_rv_rv, s_rv_ar, s_rv_al, s_rv_ro, s_ar_1, s_ar_2, s_ar_kd, s_ar_ln, s_ar_iv, s_ar_jv, s_ar_rv, s_ar_ar, s_ar_al, s_ar_ro, s_al_1, s_al_2, s_al_kd, s_al_ln, s_al_iv, s_al_jv, s_al_rv, s_al_ar, s_al_al, s_al_ro, s_ro_1, s_ro_2, s_ro_kd, s_ro_ln, s_ro_iv, s_ro_jv, s_ro_rv, s_ro_ar, s_ro_al, s_ro_ro]
  refine hK _ ⟨rfl, rfl, rfl, fun a ha => ⟨?_, ?_, rfl, rfl⟩⟩ ?_ ?_ ?_ ?_ ?_ ?_ (fun h => ?_) (fun h => ?_)
  · simp only [s_iv_1, s_iv_2, s_iv_kd, s_iv_ln, s_iv_iv, s_iv_jv, s_iv_rv, s_iv_ar, s_iv_al, s_iv_ro, s_jv_1, s_jv_2, s_jv_kd, s_jv_ln, s_jv_iv, s_jv_jv, s_jv_rv, s_jv_ar, s_jv_al, s_jv_ro, s_rv_1, s_rv_2, s_rv_kd, s_rv_ln, s_rv_iv, s_rv_jv, s_rv_rv, s_rv_ar, s_rv_al, s_rv_ro, s_ar_1, s_ar_2, s_ar_kd, s_ar_ln, s_ar_iv, s_ar_jv, s_ar_rv, s_ar_ar, s_ar_al, s_ar_ro, s_al_1, s_al_2, s_al_kd, s_al_ln, s_al_iv, s_al_jv, s_al_rv, s_al_ar, s_al_al, s_al_ro, s_ro_1, s_ro_2, s_ro_kd, s_ro_ln, s_ro_iv, s_ro_jv, s_ro_rv, s_ro_ar, s_ro_al, s_ro_ro]
    rw [va_n (by omega), va_n (by omega)]
  · simp only [s_iv_1, s_iv_2, s_iv_kd, s_iv_ln, s_iv_iv, s_iv_jv, s_iv_rv, s_iv_ar, s_iv_al, s_iv_ro, s_jv_1, s_jv_2, s_jv_kd, s_jv_ln, s_jv_iv, s_jv_jv, s_jv_rv, s_jv_ar, s_jv_al, s_jv_ro, s_rv_1, s_rv_2, s_rv_kd, s_rv_ln, s_rv_iv, s_rv_jv, s_rv_rv, s_rv_ar, s_rv_al, s_rv_ro, s_ar_1, s_ar_2, s_ar_kd, s_ar_ln, s_ar_iv, s_ar_jv, s_ar_rv, s_ar_ar, s_ar_al, s_ar_ro, s_al_1, s_al_2, s_al_kd, s_al_ln, s_al_iv, s_al_jv, s_al_rv, s_al_ar, s_al_al, s_al_ro, s_ro_1, s_ro_2, s_ro_kd, s_ro_ln, s_ro_iv, s_ro_jv, s_ro_rv, s_ro_ar, s_ro_al, s_ro_ro]
    funext j
    exact up2_n (by omega)
  · simp only [s_iv_1, s_iv_2, s_iv_kd, s_iv_ln, s_iv_iv, s_iv_jv, s_iv_rv, s_iv_ar, s_iv_al, s_iv_ro, s_jv_1, s_jv_2, s_jv_kd, s_jv_ln, s_jv_iv, s_jv_jv, s_jv_rv, s_jv_ar, s_jv_al, s_jv_ro, s_rv_1, s_rv_2, s_rv_kd, s_rv_ln, s_rv_iv, s_rv_jv, s_rv_rv, s_rv_ar, s_rv_al, s_rv_ro, s_ar_1, s_ar_2, s_ar_kd, s_ar_ln, s_ar_iv, s_ar_jv, s_ar_rv, s_ar_ar, s_ar_al, s_ar_ro, s_al_1, s_al_2, s_al_kd, s_al_ln, s_al_iv, s_al_jv, s_al_rv, s_al_ar, s_al_al, s_al_ro, s_ro_1, s_ro_2, s_ro_kd, s_ro_ln, s_ro_iv, s_ro_jv, s_ro_rv, s_ro_ar, s_ro_al, s_ro_ro]
    exact up2_k (by omega)
  · simp only [s_iv_1, s_iv_2, s_iv_kd, s_iv_ln, s_iv_iv, s_iv_jv, s_iv_rv, s_iv_ar, s_iv_al, s_iv_ro, s_jv_1, s_jv_2, s_jv_kd, s_jv_ln, s_jv_iv, s_jv_jv, s_jv_rv, s_jv_ar, s_jv_al, s_jv_ro, s_rv_1, s_rv_2, s_rv_kd, s_rv_ln, s_rv_iv, s_rv_jv, s_rv_rv, s_rv_ar, s_rv_al, s_rv_ro, s_ar_1, s_ar_2, s_ar_kd, s_ar_ln, s_ar_iv, s_ar_jv, s_ar_rv, s_ar_ar, s_ar_al, s_ar_ro, s_al_1, s_al_2, s_al_kd, s_al_ln, s_al_iv, s_al_jv, s_al_rv, s_al_ar, s_al_al, s_al_ro, s_ro_1, s_ro_2, s_ro_kd, s_ro_ln, s_ro_iv, s_ro_jv, s_ro_rv, s_ro_ar, s_ro_al, s_ro_ro]
    exact up2_k (by omega)
  · simp only [s_iv_1, s_iv_2, s_iv_kd, s_iv_ln, s_iv_iv, s_iv_jv, s_iv_rv, s_iv_ar, s_iv_al, s_iv_ro, s_jv_1, s_jv_2, s_jv_kd, s_jv_ln, s_jv_iv, s_jv_jv, s_jv_rv, s_jv_ar, s_jv_al, s_jv_ro, s_rv_1, s_rv_2, s_rv_kd, s_rv_ln, s_rv_iv, s_rv_jv, s_rv_rv, s_rv_ar, s_rv_al, s_rv_ro, s_ar_1, s_ar_2, s_ar_kd, s_ar_ln, s_ar_iv, s_ar_jv, s_ar_rv, s_ar_ar, s_ar_al, s_ar_ro, s_al_1, s_al_2, s_al_kd, s_al_ln, s_al_iv, s_al_jv, s_al_rv, s_al_ar, s_al_al, s_al_ro, s_ro_1, s_ro_2, s_ro_kd, s_ro_ln, s_ro_iv, s_ro_jv, s_ro_rv, s_ro_ar, s_ro_al, s_ro_ro]
    exact up2_e _ _ _ _
  · simp only [s_iv_1, s_iv_2, s_iv_kd, s_iv_ln, s_iv_iv, s_iv_jv, s_iv_rv, s_iv_ar, s_iv_al, s_iv_ro, s_jv_1, s_jv_2, s_jv_kd, s_jv_ln, s_jv_iv, s_jv_jv, s_jv_rv, s_jv_ar, s_jv_al, s_jv_ro, s_rv_1, s_rv_2, s_rv_kd, s_rv_ln, s_rv_iv, s_rv_jv, s_rv_rv, s_rv_ar, s_rv_al, s_rv_ro, s_ar_1, s_ar_2, s_ar_kd, s_ar_ln, s_ar_iv, s_ar_jv, s_ar_rv, s_ar_ar, s_ar_al, s_ar_ro, s_al_1, s_al_2, s_al_kd, s_al_ln, s_al_iv, s_al_jv, s_al_rv, s_al_ar, s_al_al, s_al_ro, s_ro_1, s_ro_2, s_ro_kd, s_ro_ln, s_ro_iv, s_ro_jv, s_ro_rv, s_ro_ar, s_ro_al, s_ro_ro]
    rw [va_n (by omega), va_n (by omega)]
  · simp only [s_iv_1, s_iv_2, s_iv_kd, s_iv_ln, s_iv_iv, s_iv_jv, s_iv_rv, s_iv_ar, s_iv_al, s_iv_ro, s_jv_1, s_jv_2, s_jv_kd, s_jv_ln, s_jv_iv, s_jv_jv, s_jv_rv, s_jv_ar, s_jv_al, s_jv_ro, s_rv_1, s_rv_2, s_rv_kd, s_rv_ln, s_rv_iv, s_rv_jv, s_rv_rv, s_rv_ar, s_rv_al, s_rv_ro, s_ar_1, s_ar_2, s_ar_kd, s_ar_ln, s_ar_iv, s_ar_jv, s_ar_rv, s_ar_ar, s_ar_al, s_ar_ro, s_al_1, s_al_2, s_al_kd, s_al_ln, s_al_iv, s_al_jv, s_al_rv, s_al_ar, s_al_al, s_al_ro, s_ro_1, s_ro_2, s_ro_kd, s_ro_ln, s_ro_iv, s_ro_jv, s_ro_rv, s_ro_ar, s_ro_al, s_ro_ro]
    rw [va_n (by omega), va_n (by omega)]
  · simp only [s_iv_1, s_iv_2, s_iv_kd, s_iv_ln, s_iv_iv, s_iv_jv, s_iv_rv, s_iv_ar, s_iv_al, s_iv_ro, s_jv_1, s_jv_2, s_jv_kd, s_jv_ln, s_jv_iv, s_jv_jv, s_jv_rv, s_jv_ar, s_jv_al, s_jv_ro, s_rv_1, s_rv_2, s_rv_kd, s_rv_ln, s_rv_iv, s_rv_jv, s_rv_rv, s_rv_ar, s_rv_al, s_rv_ro, s_ar_1, s_ar_2, s_ar_kd, s_ar_ln, s_ar_iv, s_ar_jv, s_ar_rv, s_ar_ar, s_ar_al, s_ar_ro, s_al_1, s_al_2, s_al_kd, s_al_ln, s_al_iv, s_al_jv, s_al_rv, s_al_ar, s_al_al, s_al_ro, s_ro_1, s_ro_2, s_ro_kd, s_ro_ln, s_ro_iv, s_ro_jv, s_ro_rv, s_ro_ar, s_ro_al, s_ro_ro]
    rw [va_n (by omega), va_n (by omega)]
  · simp only [s_iv_1, s_iv_2, s_iv_kd, s_iv_ln, s_iv_iv, s_iv_jv, s_iv_rv, s_iv_ar, s_iv_al, s_iv_ro, s_jv_1, s_jv_2, s_jv_kd, s_jv_ln, s_jv_iv, s_jv_jv, s_jv_rv, s_jv_ar, s_jv_al, s_jv_ro, s_rv_1, s_rv_2, s_rv_kd, s_rv_ln, s_rv_iv, s_rv_jv, s_rv_rv, s_rv_ar, s_rv_al, s_rv_ro, s_ar_1, s_ar_2, s_ar_kd, s_ar_ln, s_ar_iv, s_ar_jv, s_ar_rv, s_ar_ar, s_ar_al, s_ar_ro, s_al_1, s_al_2, s_al_kd, s_al_ln, s_al_iv, s_al_jv, s_al_rv, s_al_ar, s_al_al, s_al_ro, s_ro_1, s_ro_2, s_ro_kd, s_ro_ln, s_ro_iv, s_ro_jv, s_ro_rv, s_ro_ar, s_ro_al, s_ro_ro]
    rw [va_n (by omega), va_e]
    rfl
  · simp only [s_iv_1, s_iv_2, s_iv_kd, s_iv_ln, s_iv_iv, s_iv_jv, s_iv_rv, s_iv_ar, s_iv_al, s_iv_ro, s_jv_1, s_jv_2, s_jv_kd, s_jv_ln, s_jv_iv, s_jv_jv, s_jv_rv, s_jv_ar, s_jv_al, s_jv_ro, s_rv_1, s_rv_2, s_rv_kd, s_rv_ln, s_rv_iv, s_rv_jv, s_rv_rv, s_rv_ar, s_rv_al, s_rv_ro, s_ar_1, s_ar_2, s_ar_kd, s_ar_ln, s_ar_iv, s_ar_jv, s_ar_rv, s_ar_ar, s_ar_al, s_ar_ro, s_al_1, s_al_2, s_al_kd, s_al_ln, s_al_iv, s_al_jv, s_al_rv, s_al_ar, s_al_al, s_al_ro, s_ro_1, s_ro_2, s_ro_kd, s_ro_ln, s_ro_iv, s_ro_jv, s_ro_rv, s_ro_ar, s_ro_al, s_ro_ro]
    rw [va_e, va_n (by omega)]
    rfl
/-- a haul's object behind t beats -/
def GoV (C D : CH) (o : Nat) (P : HP) (W : HW) (now0 : Nat → Nat) (t : Nat) : Prop := Fr o (o + 5) C D ∧ c_iv D o 5 = c_iv C o 5 ∧ c_iv D o 6 = c_iv C o 6 ∧ c_ar D (o + 2) = c_ar C (o + 2) ∧ c_iv D o 7 = nI t ∧ (∀ h, h < P.1 → c_ar D (o + 1) h = nI ((hSt P W now0 t).1 h)) ∧ (∀ h, P.1 ≤ h → c_ar D (o + 1) h = c_ar C (o + 1) h) ∧ ∀ t', t' < t → c_ar D (o + 3) t' = nI (hSt P W now0 (t' + 1)).2 ∧ c_ar D (o + 4) t' = nI (hForce P W (hSt P W now0 t').1 t')
theorem go_wp {C : CH} {o hb sg tk vs rs fl goal mo : Nat} {v r : Nat → Nat} {P : HP} {W : HW} {now0 : Nat → Nat} {most : Int32} (H : HandsS (sh C) hb) (A : HaulS (sh C) o) (S : SongS (sh C) sg) (V : HandV C hb P) (SV : SongV C sg vs rs v r) (T : TaskV C tk goal W.2.2.2.1 W.2.2.2.2) (hbt : W.2.2.1 = sBt vs rs v r) (hP : HPok P) (hW : HWok P W) (sep1 : o + 5 < hb ∨ hb + 6 < o) (sep2 : o + 5 < sg ∨ sg + 4 < o) (sep3 : o + 5 < tk ∨ tk < o) (hc : c_iv C o 5 = nI W.1) (hfl : c_iv C o 6 = nI fl) (hfl2 : fl ≤ 100) (hg : goal < 2 ^ 31) (hn : ∀ h, h < P.1 → c_ar C (o + 1) h = nI (now0 h)) (hl : ∀ h, h < P.1 → c_ar C (o + 2) h = nI (W.2.1 h)) (hok : nowOk P now0) (hmo : mo ≤ 300) (hm : ∀ t, t < 300 → (most ≤ nI t ↔ mo ≤ t)) :
    WP (t_X1_go o hb sg tk most C) (fun q => q.1 = (if (hRun P W fl goal now0 mo 0).1 = 2 then 1 else 0) ∧ GoV C q.2 o P W now0 (hRun P W fl goal now0 mo 0).2) := by
  have hn1 := hP.1
  have hw := hP.pow hW.1
  unfold t_X1_go
  obtain ⟨ok, _⟩ := A.f
  obtain ⟨hk, _⟩ := H.f
  simp only [WP_bind, WP_some, Option.bind_some, Sum.elim_inl, Sum.elim_inr, ↓reduceIte, tcl_1, tgR_1_0, tpR_1_0, tgR_1_1, tpR_1_1, tgR_1_2, tpR_1_2, tgR_1_3, tpR_1_3, tgR_1_4, tpR_1_4, tgR_1_5, tpR_1_5, tgI_1_6, tpI_1_6, tgI_1_7, tpI_1_7, tgI_1_8, tpI_1_8, tcl_2, tgR_2_0, tpR_2_0, tgR_2_1, tpR_2_1, tgR_2_2, tpR_2_2, tgR_2_3, tpR_2_3, tgR_2_4, tpR_2_4, tgI_2_5, tpI_2_5, tgI_2_6, tpI_2_6, tgI_2_7, tpI_2_7, ok, hk, s_iv_1, s_iv_2, s_iv_kd, s_iv_ln, s_iv_iv, s_iv_jv, s_iv_rv, s_iv_ar, s_iv_al, s_iv_ro, s_jv_1, s_jv_2, s_jv_kd, s_jv_ln, s_jv_iv, s_jv_jv, s_jv_rv, s_jv_ar, s_jv_al, s_jv_ro, s_rv_1, s_rv_2, s_rv_kd, s_rv_ln, s_rv_iv, s_rv_jv, s_rv_rv, s_rv_ar, s_rv_al, s_rv_ro, s_ar_1, s_ar_2, s_ar_kd, s_ar_ln, s_ar_iv, s_ar_jv, s_ar_rv, s_ar_ar, s_ar_al, s_ar_ro, s_al_1, s_al_2, s_al_kd, s_al_ln, s_al_iv, s_al_jv, s_al_rv, s_al_ar, s_al_al, s_al_ro, s_ro_1, s_ro_2, s_ro_kd, s_ro_ln, s_ro_iv, s_ro_jv, s_ro_rv, s_ro_ar, s_ro_al, s_ro_ro, show c_iv (s_iv C (up2 (c_iv C) o 7 0)) hb 6 = nI P.1 by rw [iv_upd, if_neg (by omega)]; exact V.1]
  have hsh : sh (s_iv C (up2 (c_iv C) o 7 0)) = sh C := rfl
  have F0 : Fr o (o + 5) C (s_iv C (up2 (c_iv C) o 7 0)) := Fr.iv _ (by omega)
  have hc0 : c_iv (s_iv C (up2 (c_iv C) o 7 0)) o 5 = nI W.1 := by rw [iv_upd, if_neg (by omega)]; exact hc
  have hfl0 : c_iv (s_iv C (up2 (c_iv C) o 7 0)) o 6 = nI fl := by rw [iv_upd, if_neg (by omega)]; exact hfl
  have h70 : c_iv (s_iv C (up2 (c_iv C) o 7 0)) o 7 = nI 0 := by rw [iv_upd, if_pos ⟨rfl, rfl⟩]; rfl
  have har : c_ar (s_iv C (up2 (c_iv C) o 7 0)) = c_ar C := rfl
  generalize s_iv C (up2 (c_iv C) o 7 0) = C1 at hsh F0 hc0 hfl0 h70 har ⊢
  refine WP.mono (gather_wp (W := W) (A.tr hsh) hP hW hc0 (by rw [har]; exact hl)) (fun E ⟨FE, ivE, GE⟩ => ?_)
  have FE' : Fr o (o + 5) C E := F0.tr (FE.mono (by omega) (by omega))
  have hfuel : mo - 0 < 100000 := by omega
  refine WP.mono (WP.it (Post := fun x => Sum.elim (fun D => (hRun P W fl goal now0 mo 0).1 ≠ 2 ∧ GoV C D o P W now0 (hRun P W fl goal now0 mo 0).2) (fun y => Sum.elim (fun D => (hRun P W fl goal now0 mo 0).1 = 2 ∧ GoV C D o P W now0 (hRun P W fl goal now0 mo 0).2) (fun D => (hRun P W fl goal now0 mo 0).1 ≠ 2 ∧ GoV C D o P W now0 (hRun P W fl goal now0 mo 0).2) y) x) (fun t s => s.1 = nI (hSt P W now0 t).2 ∧ s.2.1 = nI t ∧ GoV C s.2.2 o P W now0 t ∧ GblV s.2.2 o P W ∧ hRun P W fl goal now0 mo 0 = hRun P W fl goal now0 (mo - t) t) mo ?_ 100000 0 _ ?_ (Nat.zero_le _) hfuel) ?_
  · rintro t ⟨x, j, D⟩ ht ⟨e1, e2, GV, GB, hr⟩
    dsimp only at e1 e2 GV GB
    subst e1
    subst e2
    unfold t_X1_go_L19
    dsimp only
    by_cases hlt : t < mo
    · have c1 : ¬ most ≤ nI t := fun z => by have := (hm t (by omega)).mp z; omega
      have c2 : ¬ (300 : Int32) ≤ nI t := nI_ge (b := 300) (by omega) (by omega)
      have ht3 : t < 300 := by omega
      obtain ⟨F, g5, g6, g2, g7, gn, gn2, gw⟩ := GV
      have A' := A.tr F.2.2.1
      have H' := H.tr F.2.2.1
      have S' := S.tr F.2.2.1
      have V' := V.fr F (by omega)
      have SV' := SV.fr F (by omega)
      have T' := T.fr F (by omega)
      obtain ⟨ok, or0, ok0, ol0, or1, ok1, ol1, or2, ok2, ol2, or3, ok3, ol3, or4, ok4, ol4⟩ := A'.f
      obtain ⟨gk, _⟩ := S'.f
      have hok' := hSt_ok (W := W) hok t
      have hcD : c_iv D o 5 = nI W.1 := by rw [g5]; exact hc
      simp only [WP_bind, WP_some, Option.bind_some, Sum.elim_inl, Sum.elim_inr, ↓reduceIte, c1, c2, tcl_2, tgR_2_0, tpR_2_0, tgR_2_1, tpR_2_1, tgR_2_2, tpR_2_2, tgR_2_3, tpR_2_3, tgR_2_4, tpR_2_4, tgI_2_5, tpI_2_5, tgI_2_6, tpI_2_6, tgI_2_7, tpI_2_7, ok]
      refine WP.mono (pullers_eq A' S' SV' hbt hP hW GB ht3) ?_
      rintro ⟨px, D2⟩ ⟨e2, ps, e3, hps, hpt⟩
      dsimp only at e2 e3
      subst e2
      subst e3
      simp only [WP_bind, WP_some, Option.bind_some, Sum.elim_inl, Sum.elim_inr, ↓reduceIte, tcl_2, tgR_2_0, tpR_2_0, tgR_2_1, tpR_2_1, tgR_2_2, tpR_2_2, tgR_2_3, tpR_2_3, tgR_2_4, tpR_2_4, tgI_2_5, tpI_2_5, tgI_2_6, tpI_2_6, tgI_2_7, tpI_2_7, tcl_8, tgR_8_0, tpR_8_0, tgR_8_1, tpR_8_1, gk, ok, sungAt_eq S' SV' (show t < 2 ^ 31 by omega), ← hbt]
      refine WP.mono (pull_wp H' A' V' hP hW sep1 (by omega) hpt hcD gn hok') ?_
      rintro ⟨f, E2⟩ ⟨e3, F2, iv2, n1, n2⟩
      dsimp only at e3 F2 iv2 n1 n2
      subst e3
      have F3 : Fr o (o + 5) D2 E2 := F2.mono (by omega) (by omega)
      have T2 := T'.fr F3 (by omega)
      obtain ⟨tk0, tk1, _⟩ := id T2
      have A2 := A'.tr F2.2.2.1
      have hwon := hSt_won hP (W := W) hok t
      have hfor := hForce_le hP (W := W) hok' t
      have hwon1 := hSt_won hP (W := W) hok (t + 1)
      have hSt1 : (hSt P W now0 (t + 1)).1 = hNow P W (hSt P W now0 t).1 t := rfl
      have hSt2 : (hSt P W now0 (t + 1)).2 = hWon W (hSt P W now0 t).2 (hForce P W (hSt P W now0 t).1 t) := rfl
      simp only [WP_bind, WP_some, Option.bind_some, Sum.elim_inl, Sum.elim_inr, ↓reduceIte, tcl_9, tk0, wonBehind_eq T2 hW (show (hSt P W now0 t).2 < 100000 by omega) hfor, ← hSt2, nI_1]
      rw [← hSt1] at n1
      refine store3 A2 ht3 ?_
      intro E5 F5 i5 i6 i7 a1 a2 a5 a3 a4
      have A5 := A2.tr F5.2.2.1
      have H5 := (H'.tr F2.2.2.1).tr F5.2.2.1
      obtain ⟨hk, _⟩ := H5.f
      obtain ⟨ok, _⟩ := A5.f
      have V5 := (V'.fr F3 (by omega)).fr F5 (by omega)
      have T5 := T2.fr F5 (by omega)
      obtain ⟨tk0, tk1, _⟩ := id T5
      have hn5 : ∀ h, h < P.1 → c_ar E5 (o + 1) h = nI ((hSt P W now0 (t + 1)).1 h) := by rw [a1]; exact n1
      have GV5 : GoV C E5 o P W now0 (t + 1) := by
        refine ⟨F.tr (F3.tr F5), by rw [i5, iv2, g5], by rw [i6, iv2, g6], by rw [a2, (F2.2.2.2 (o + 2) (by omega)).1, g2], i7, hn5, fun h hh => by rw [a1, n2 h hh, gn2 h hh], fun t' ht' => ?_⟩
        rw [a3, a4]
        by_cases htt : t' = t
        · subst htt
          rw [if_pos rfl, if_pos rfl]
          exact ⟨rfl, rfl⟩
        · rw [if_neg htt, if_neg htt, (F2.2.2.2 (o + 3) (by omega)).1, (F2.2.2.2 (o + 4) (by omega)).1]
          exact gw t' (by omega)
      have GB5 : GblV E5 o P W := GB.fr (by rw [a5, (F2.2.2.2 (o + 5) (by omega)).1])
      have hrs : hRun P W fl goal now0 (mo - t) t = if hLow P W fl (hSt P W now0 (t + 1)).1 = true then (1, t + 1) else if goal ≤ (hSt P W now0 (t + 1)).2 then (2, t + 1) else hRun P W fl goal now0 (mo - (t + 1)) (t + 1) := by
        rw [show mo - t = (mo - (t + 1)) + 1 by omega]
        rfl
      rw [hrs] at hr
      simp only [WP_bind, WP_some, Option.bind_some, Sum.elim_inl, Sum.elim_inr, ↓reduceIte, tcl_1, tgR_1_0, tpR_1_0, tgR_1_1, tpR_1_1, tgR_1_2, tpR_1_2, tgR_1_3, tpR_1_3, tgR_1_4, tpR_1_4, tgR_1_5, tpR_1_5, tgI_1_6, tpI_1_6, tgI_1_7, tpI_1_7, tgI_1_8, tpI_1_8, tcl_2, tgR_2_0, tpR_2_0, tgR_2_1, tpR_2_1, tgR_2_2, tpR_2_2, tgR_2_3, tpR_2_3, tgR_2_4, tpR_2_4, tgI_2_5, tpI_2_5, tgI_2_6, tpI_2_6, tgI_2_7, tpI_2_7, hk, ok, V5.1, below_wp A5 hP hW (by rw [i5, iv2]; exact hcD) (by rw [i6, iv2, g6]; exact hfl) hfl2 hn5 (hSt_ok (W := W) hok (t + 1))]
      by_cases hlo : hLow P W fl (hSt P W now0 (t + 1)).1 = true
      · rw [if_pos hlo] at hr
        simp only [hlo, ↓reduceIte, i10, WP_bind, WP_some, Option.bind_some, Sum.elim_inl, Sum.elim_inr, ↓reduceIte]
        rw [hr]
        exact ⟨(show (1 : Nat) ≠ 2 by decide), GV5⟩
      · rw [if_neg hlo] at hr
        simp only [hlo, ↓reduceIte, Bool.false_eq_true, WP_bind, WP_some, Option.bind_some, Sum.elim_inl, Sum.elim_inr, ↓reduceIte, tcl_9, tgI_9_0, tpI_9_0, tgI_9_1, tpI_9_1, tgI_9_2, tpI_9_2, tk0, tk1]
        by_cases hgo : goal ≤ (hSt P W now0 (t + 1)).2
        · rw [if_pos hgo] at hr
          rw [if_neg (nI_nlt hgo (by omega))]
          simp only [WP_bind, WP_some, Option.bind_some, Sum.elim_inl, Sum.elim_inr, ↓reduceIte]
          rw [hr]
          exact ⟨rfl, GV5⟩
        · rw [if_neg hgo] at hr
          rw [if_pos (nI_lt (by omega) (by omega))]
          simp only [WP_bind, WP_some, Option.bind_some, Sum.elim_inl, Sum.elim_inr, ↓reduceIte]
          exact ⟨hlt, trivial, trivial, GV5, GB5, hr⟩
    · have hii : t = mo := by omega
      subst hii
      have hrs : hRun P W fl goal now0 (t - t) t = (0, t) := by
        rw [Nat.sub_self]
        rfl
      rw [hrs] at hr
      by_cases h3 : t < 300
      · have c1 : most ≤ nI t := (hm t h3).mpr (Nat.le_refl _)
        simp only [WP_bind, WP_some, Option.bind_some, Sum.elim_inl, Sum.elim_inr, ↓reduceIte, c1]
        rw [hr]
        exact ⟨(show (0 : Nat) ≠ 2 by decide), GV⟩
      · have c2 : (300 : Int32) ≤ nI t := nI_le (a := 300) (by omega) (by omega)
        by_cases c1 : most ≤ nI t
        · simp only [WP_bind, WP_some, Option.bind_some, Sum.elim_inl, Sum.elim_inr, ↓reduceIte, c1]
          rw [hr]
          exact ⟨(show (0 : Nat) ≠ 2 by decide), GV⟩
        · simp only [WP_bind, WP_some, Option.bind_some, Sum.elim_inl, Sum.elim_inr, ↓reduceIte, c1, c2]
          rw [hr]
          exact ⟨(show (0 : Nat) ≠ 2 by decide), GV⟩
  · refine ⟨rfl, rfl, ⟨FE', by rw [ivE, hc0, hc], by rw [ivE, hfl0, hfl], ?_, by rw [ivE]; exact h70, ?_, ?_, fun t' ht' => absurd ht' (Nat.not_lt_zero _)⟩, GE, rfl⟩
    · rw [(FE.2.2.2 (o + 2) (by omega)).1, har]
    · rw [(FE.2.2.2 (o + 1) (by omega)).1, har]
      exact hn
    · intro h _
      rw [(FE.2.2.2 (o + 1) (by omega)).1, har]
  · intro x hx
    cases x with
    | inl D =>
      obtain ⟨h1, h2⟩ := hx
      simp only [WP_bind, WP_some, Option.bind_some, Sum.elim_inl, Sum.elim_inr, ↓reduceIte, h1]
      exact ⟨trivial, h2⟩
    | inr y =>
      cases y with
      | inl D =>
        obtain ⟨h1, h2⟩ := hx
        simp only [WP_bind, WP_some, Option.bind_some, Sum.elim_inl, Sum.elim_inr, ↓reduceIte]
        rw [if_pos h1]
        exact ⟨rfl, h2⟩
      | inr D =>
        obtain ⟨h1, h2⟩ := hx
        simp only [WP_bind, WP_some, Option.bind_some, Sum.elim_inl, Sum.elim_inr, ↓reduceIte, h1]
        exact ⟨trivial, h2⟩
