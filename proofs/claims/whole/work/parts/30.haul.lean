/-! THE CLASS'S HAUL -/
theorem tw_eq (a l m : Int32) (C : CH) : t_X11_within a l m C = some (if a < l ∨ m < a then 0 else 1, C) := by
  unfold t_X11_within
  by_cases h1 : a < l
  · simp [h1]
  · by_cases h2 : m < a
    · simp [h1, h2]
    · simp [h1, h2]
theorem tisIn_eq {c h : Nat} (C : CH) (hc : c < 2 ^ 31) (hh : h < 31) : t_X11_isIn (nI c) (nI h) C = some (if c.testBit h = true then 1 else 0, C) := by
  unfold t_X11_isIn
  by_cases h1 : c.testBit h = true
  · rw [if_pos ((nI_bit hc hh).mpr h1), if_pos h1]
  · rw [if_neg (fun z => h1 ((nI_bit hc hh).mp z)), if_neg h1]
theorem ar_upd (D : CH) (a i h : Nat) (x : Int32) : c_ar (s_ar D (va_up (c_ar D) a (upd (c_ar D a) i x))) a h = if h = i then x else c_ar D a h := by
  simp only [s_ar_ar]
  simp [va_up, upd]
theorem ar_oth {D : CH} {a b : Nat} {f : Nat → Int32} (h : b ≠ a) : c_ar (s_ar D (va_up (c_ar D) a f)) b = c_ar D b := by
  simp only [s_ar_ar]
  simp [va_up, h]
theorem HandsS.tr {K K' : SHP} {o : Nat} (e : K' = K) (h : HandsS K o) : HandsS K' o := by rw [e]; exact h
theorem HaulS.tr {K K' : SHP} {o : Nat} (e : K' = K) (h : HaulS K o) : HaulS K' o := by rw [e]; exact h
theorem SongS.tr {K K' : SHP} {o : Nat} (e : K' = K) (h : SongS K o) : SongS K' o := by rw [e]; exact h
theorem RowS.tr {K K' : SHP} {o : Nat} (e : K' = K) (h : RowS K o) : RowS K' o := by rw [e]; exact h
/-- the hands' numbers -/
def HandV (C : CH) (hb : Nat) (P : HP) : Prop := c_iv C hb 6 = nI P.1 ∧ ∀ h, h < P.1 → c_ar C (hb + 1) h = nI (P.2.1 h) ∧ c_ar C (hb + 2) h = nI (P.2.2.1 h) ∧ c_ar C (hb + 3) h = nI (P.2.2.2.1 h) ∧ c_ar C (hb + 4) h = nI (P.2.2.2.2 h)
theorem HandV.fr {C C' : CH} {hb lo hi : Nat} {P : HP} (V : HandV C hb P) (F : Fr lo hi C C') (h : hi < hb ∨ hb + 6 < lo) : HandV C' hb P := by
  refine ⟨by rw [(F.2.2.2 hb (by omega)).2.1]; exact V.1, fun i hi => ?_⟩
  rw [(F.2.2.2 (hb + 1) (by omega)).1, (F.2.2.2 (hb + 2) (by omega)).1, (F.2.2.2 (hb + 3) (by omega)).1, (F.2.2.2 (hb + 4) (by omega)).1]
  exact V.2 i hi
/-- a song's numbers: sizes, verse, refrain -/
def SongV (C : CH) (o vs rs : Nat) (v r : Nat → Nat) : Prop := c_iv C (o + 1) 1 = nI vs ∧ c_iv C (o + 3) 1 = nI rs ∧ (∀ k, k < vs → c_ar C (o + 2) k = nI (v k)) ∧ (∀ k, k < rs → c_ar C (o + 4) k = nI (r k)) ∧ 1 ≤ vs ∧ vs ≤ 24 ∧ rs ≤ 12
theorem SongV.fr {C C' : CH} {o lo hi vs rs : Nat} {v r : Nat → Nat} (V : SongV C o vs rs v r) (F : Fr lo hi C C') (h : hi < o ∨ o + 4 < lo) : SongV C' o vs rs v r := by
  refine ⟨by rw [(F.2.2.2 (o + 1) (by omega)).2.1]; exact V.1, by rw [(F.2.2.2 (o + 3) (by omega)).2.1]; exact V.2.1, ?_, ?_, V.2.2.2.2⟩
  · rw [(F.2.2.2 (o + 2) (by omega)).1]; exact V.2.2.1
  · rw [(F.2.2.2 (o + 4) (by omega)).1]; exact V.2.2.2.1
def sBt (vs rs : Nat) (v r : Nat → Nat) (t : Nat) : Nat := if t % (vs + rs) < vs then v (t % (vs + rs)) else r (t % (vs + rs) - vs)
theorem hdv_eq {x : Int32} (h : ¬ x = 0) : ∃ u, hdv x = some u := by
  unfold hdv
  simp [h]
theorem sungAt_eq {C : CH} {o vs rs t : Nat} {v r : Nat → Nat} (S : SongS (sh C) o) (V : SongV C o vs rs v r) (ht : t < 2 ^ 31) : t_X7_sungAt o (nI t) C = some (nI (sBt vs rs v r t), C) := by
  obtain ⟨gk, gr0, gr1, gk1, gr2, gk2, gl2, gk3, gr4, gk4, gl4⟩ := S.f
  obtain ⟨v1, v2, v3, v4, v5, v6, v7⟩ := V
  have hm : t % (vs + rs) < vs + rs := Nat.mod_lt _ (by omega)
  have c1 : ¬ nI t < 0 := nI_pos ht
  have c2 : (0 : Int32) < nI (vs + rs) := by rw [← nI_0]; exact nI_lt (by omega) (by omega)
  have c3 : ¬ nI (vs + rs) = 0 := nI_ne0 (by omega) (by omega)
  obtain ⟨u, hu⟩ := hdv_eq c3
  unfold t_X7_sungAt
  simp only [tcl_7, tgR_7_0, tpR_7_0, tgI_7_1, tpI_7_1, tcl_8, tgR_8_0, tpR_8_0, tgR_8_1, tpR_8_1, gk, gr0, gr1, gk1, gr2, gk2, gl2, gk3, gr4, gk4, gl4, v1, v2, Option.bind_some, c1, if_false, nI_add, c2, if_true, hu]
  rw [pk_rem ht (by omega) (by omega)]
  unfold sBt
  by_cases hk : t % (vs + rs) < vs
  · rw [if_neg (nI_ge hk (by omega)), if_pos hk]
    have hk2 : t % (vs + rs) < 24 := by omega
    simp only [Nat.reduceLT, tld_n, tst_n, tldB_n, tstB_n, tldR3_n, tldR4_n, tldJ_n, tstJ_n, tlen_I, tlen_R, gk, gr0, gr1, gk1, gr2, gk2, gl2, gk3, gr4, gk4, gl4, hk2, v3 _ hk, Option.bind_some]
  · rw [if_pos (nI_le (by omega) (by omega)), if_neg hk, nI_subI (by omega)]
    have hk2 : t % (vs + rs) - vs < 24 := by omega
    simp only [Nat.reduceLT, tld_n, tst_n, tldB_n, tstB_n, tldR3_n, tldR4_n, tldJ_n, tstJ_n, tlen_I, tlen_R, gk, gr0, gr1, gk1, gr2, gk2, gl2, gk3, gr4, gk4, gl4, hk2, v4 _ (show t % (vs + rs) - vs < rs by omega), Option.bind_some]
theorem comesBack_eq {C : CH} {o hb i t : Nat} {P : HP} {W : HW} (H : HandsS (sh C) hb) (A : HaulS (sh C) o) (V : HandV C hb P) (hP : HPok P) (hW : HWok P W) (hc : c_iv C o 5 = nI W.1) (hi : i < P.1) : t_X1_comesBack o hb (nI i) (nI (W.2.2.1 t)) C = some (nI (hBack P W t i), C) := by
  obtain ⟨hk, hr0, hk0, hl0, hr1, hk1, hl1, hr2, hk2, hl2, hr3, hk3, hl3, hr4, hk4, hl4, hr5, hk5, hl5⟩ := H.f
  obtain ⟨ok, or0, ok0, ol0, or1, ok1, ol1, or2, ok2, ol2, or3, ok3, ol3, or4, ok4, ol4⟩ := A.f
  have hn1 := hP.1
  have c2 : i < 10 := by omega
  obtain ⟨v1, v2, v3, v4⟩ := V.2 i hi
  have hw : W.1 < 2 ^ 31 := Nat.lt_of_lt_of_le hW.1 (Nat.pow_le_pow_right (by decide) (by omega))
  have hb3 := hW.2.2.1 t
  unfold t_X1_comesBack hBack
  by_cases h0 : W.2.2.1 t = 0
  · rw [if_pos (by rw [h0]; rfl), if_pos (Or.inr h0)]
    unfold t_X1_comesBack_J15
    simp only [tcl_1, tgR_1_0, tpR_1_0, tgR_1_1, tpR_1_1, tgR_1_2, tpR_1_2, tgR_1_3, tpR_1_3, tgR_1_4, tpR_1_4, tgR_1_5, tpR_1_5, tgI_1_6, tpI_1_6, tgI_1_7, tpI_1_7, tgI_1_8, tpI_1_8, Nat.reduceLT, tld_n, tst_n, tldB_n, tstB_n, tldR3_n, tldR4_n, tldJ_n, tstJ_n, tlen_I, tlen_R, hk, hr0, hk0, hl0, hr1, hk1, hl1, hr2, hk2, hl2, hr3, hk3, hl3, hr4, hk4, hl4, hr5, hk5, hl5, c2, Option.bind_some, v3]
  · rw [if_neg (nI_ne0 (by omega) (by omega))]
    simp only [tcl_2, tgR_2_0, tpR_2_0, tgR_2_1, tpR_2_1, tgR_2_2, tpR_2_2, tgR_2_3, tpR_2_3, tgR_2_4, tpR_2_4, tgI_2_5, tpI_2_5, tgI_2_6, tpI_2_6, tgI_2_7, tpI_2_7, ok, or0, ok0, ol0, or1, ok1, ol1, or2, ok2, ol2, or3, ok3, ol3, or4, ok4, ol4, Option.bind_some, hc, tisIn_eq C hw (show i < 31 by omega)]
    by_cases hb2 : W.1.testBit i = true
    · simp only [hb2, if_true, i10, if_false, h0, or_false, Bool.true_eq_false]
      by_cases h3 : W.2.2.1 t = 3
      · rw [if_pos (show nI (W.2.2.1 t) = 3 by rw [h3]; rfl), if_pos h3]
        simp only [tcl_1, tgR_1_0, tpR_1_0, tgR_1_1, tpR_1_1, tgR_1_2, tpR_1_2, tgR_1_3, tpR_1_3, tgR_1_4, tpR_1_4, tgR_1_5, tpR_1_5, tgI_1_6, tpI_1_6, tgI_1_7, tpI_1_7, tgI_1_8, tpI_1_8, Nat.reduceLT, tld_n, tst_n, tldB_n, tstB_n, tldR3_n, tldR4_n, tldJ_n, tstJ_n, tlen_I, tlen_R, hk, hr0, hk0, hl0, hr1, hk1, hl1, hr2, hk2, hl2, hr3, hk3, hl3, hr4, hk4, hl4, hr5, hk5, hl5, c2, Option.bind_some, v4]
      · rw [if_neg (show ¬ nI (W.2.2.1 t) = 3 from fun z => h3 ((nI_eq (by omega) (by omega)).mp z)), if_neg h3]
        rfl
    · simp only [hb2, if_true, if_false, h0, or_false, Bool.false_eq_true, t_X1_comesBack_J15, tcl_1, tgR_1_0, tpR_1_0, tgR_1_1, tpR_1_1, tgR_1_2, tpR_1_2, tgR_1_3, tpR_1_3, tgR_1_4, tpR_1_4, tgR_1_5, tpR_1_5, tgI_1_6, tpI_1_6, tgI_1_7, tpI_1_7, tgI_1_8, tpI_1_8, Nat.reduceLT, tld_n, tst_n, tldB_n, tstB_n, tldR3_n, tldR4_n, tldJ_n, tstJ_n, tlen_I, tlen_R, hk, hr0, hk0, hl0, hr1, hk1, hl1, hr2, hk2, hl2, hr3, hk3, hl3, hr4, hk4, hl4, hr5, hk5, hl5, c2, Option.bind_some, v3]
theorem pull_wp {C : CH} {o hb ps t : Nat} {P : HP} {W : HW} {now : Nat → Nat} (H : HandsS (sh C) hb) (A : HaulS (sh C) o) (V : HandV C hb P) (hP : HPok P) (hW : HWok P W) (sep : o + 5 < hb ∨ hb + 6 < o) (hps : ps < 2 ^ 31) (hpt : ∀ h, h < P.1 → ps.testBit h = hPull W t h) (hc : c_iv C o 5 = nI W.1) (hn : ∀ h, h < P.1 → c_ar C (o + 1) h = nI (now h)) (hok : nowOk P now) :
    WP (t_X1_pull o hb (nI ps) (nI (W.2.2.1 t)) C) (fun r => r.1 = nI (hForce P W now t) ∧ Fr (o + 1) (o + 1) C r.2 ∧ c_iv r.2 = c_iv C ∧ (∀ h, h < P.1 → c_ar r.2 (o + 1) h = nI (hNow P W now t h)) ∧ ∀ h, P.1 ≤ h → c_ar r.2 (o + 1) h = c_ar C (o + 1) h) := by
  unfold t_X1_pull
  refine WP.b (WP.it (Post := fun r => r.1 = nI (hForce P W now t) ∧ Fr (o + 1) (o + 1) C r.2 ∧ c_iv r.2 = c_iv C ∧ (∀ h, h < P.1 → c_ar r.2 (o + 1) h = nI (hNow P W now t h)) ∧ ∀ h, P.1 ≤ h → c_ar r.2 (o + 1) h = c_ar C (o + 1) h) (fun i s => s.1 = nI (hsum (fun h => if hPull W t h = true then now h else 0) i) ∧ s.2.1 = nI i ∧ Fr (o + 1) (o + 1) C s.2.2 ∧ c_iv s.2.2 = c_iv C ∧ (∀ h, h < i → c_ar s.2.2 (o + 1) h = nI (hNow P W now t h)) ∧ ∀ h, i ≤ h → c_ar s.2.2 (o + 1) h = c_ar C (o + 1) h) P.1 ?_ 100000 0 _ ?_ (Nat.zero_le _) (by have := hP.1; omega)) ?_
  · rintro i ⟨f, j, D⟩ hi ⟨e1, e2, F, e5, e3, e4⟩
    dsimp only at e1 e2 F e3 e4 e5
    subst e1
    subst e2
    have hn1 := hP.1
    have V' := V.fr F (by omega)
    have hc' : c_iv D o 5 = nI W.1 := by rw [e5]; exact hc
    have H' := H.tr F.2.2.1
    have A' := A.tr F.2.2.1
    obtain ⟨hk, hr0, hk0, hl0, hr1, hk1, hl1, hr2, hk2, hl2, hr3, hk3, hl3, hr4, hk4, hl4, hr5, hk5, hl5⟩ := H'.f
    obtain ⟨ok, or0, ok0, ol0, or1, ok1, ol1, or2, ok2, ol2, or3, ok3, ol3, or4, ok4, ol4⟩ := A'.f
    unfold t_X1_pull_L6
    dsimp only
    by_cases hlt : i < P.1
    · have c1 : ¬ nI P.1 ≤ nI i := nI_ge hlt (by omega)
      have c2 : i < 10 := by omega
      obtain ⟨v1, v2, v3, v4⟩ := V'.2 i hlt
      have v5 : c_ar D (o + 1) i = nI (now i) := by rw [e4 i (Nat.le_refl _), hn i hlt]
      have hst := hP.2 i hlt
      have hno := hok i hlt
      simp only [WP_bind, WP_some, Option.bind_some, Sum.elim_inl, Sum.elim_inr, ↓reduceIte, tcl_1, tgR_1_0, tpR_1_0, tgR_1_1, tpR_1_1, tgR_1_2, tpR_1_2, tgR_1_3, tpR_1_3, tgR_1_4, tpR_1_4, tgR_1_5, tpR_1_5, tgI_1_6, tpI_1_6, tgI_1_7, tpI_1_7, tgI_1_8, tpI_1_8, tcl_2, tgR_2_0, tpR_2_0, tgR_2_1, tpR_2_1, tgR_2_2, tpR_2_2, tgR_2_3, tpR_2_3, tgR_2_4, tpR_2_4, tgI_2_5, tpI_2_5, tgI_2_6, tpI_2_6, tgI_2_7, tpI_2_7, Nat.reduceLT, tld_n, tst_n, tldB_n, tstB_n, tldR3_n, tldR4_n, tldJ_n, tstJ_n, tlen_I, tlen_R, hk, hr0, hk0, hl0, hr1, hk1, hl1, hr2, hk2, hl2, hr3, hk3, hl3, hr4, hk4, hl4, hr5, hk5, hl5, ok, or0, ok0, ol0, or1, ok1, ol1, or2, ok2, ol2, or3, ok3, ol3, or4, ok4, ol4, V'.1, c1, c2, if_false, tisIn_eq D hps (show i < 31 by omega), hpt i hlt, v5, v1, v2]
      by_cases hp : hPull W t i = true
      · simp only [hp, if_true]
        rw [if_neg (by decide)]
        simp only [WP_bind, WP_some, Option.bind_some, Sum.elim_inl, Sum.elim_inr, ↓reduceIte]
        refine ⟨hlt, ?_, nI_1 i, F.tr (Fr.ar _ (by omega)), e5, fun h hh => ?_, fun h hh => ?_⟩
        · simp only [nI_add, hsum_s, hp, if_true]
        · rw [ar_upd]
          by_cases hhi : h = i
          · subst hhi
            rw [if_pos rfl]
            unfold hNow
            rw [if_pos hp]
            by_cases hz : P.2.2.1 h < now h
            · rw [nI_subI (by omega), if_pos (by rw [← nI_0]; exact nI_lt (by omega) (by omega))]
            · rw [if_neg (nI_subneg (by omega) (by omega)), show now h - P.2.2.1 h = 0 by omega]
              rfl
          · rw [if_neg hhi]
            exact e3 h (by omega)
        · rw [ar_upd, if_neg (by omega)]
          exact e4 h (by omega)
      · simp only [hp, ↓reduceIte, eq_self, Bool.false_eq_true]
        by_cases hz : P.2.1 i ≤ now i
        · rw [if_pos (nI_le hz (by omega))]
          simp only [WP_bind, WP_some, Option.bind_some, Sum.elim_inl, Sum.elim_inr, ↓reduceIte]
          refine ⟨hlt, ?_, nI_1 i, F, e5, fun h hh => ?_, fun h hh => e4 h (by omega)⟩
          · simp only [hsum_s, hp, if_false, Nat.add_zero, Bool.false_eq_true]
          · by_cases hhi : h = i
            · subst hhi
              rw [v5]
              unfold hNow
              rw [if_neg hp]
              congr 1
              omega
            · exact e3 h (by omega)
        · rw [if_neg (nI_ge (by omega) (by omega)), comesBack_eq H' A' V' hP hW hc' hlt]
          simp only [WP_bind, WP_some, Option.bind_some, Sum.elim_inl, Sum.elim_inr, ↓reduceIte, Nat.reduceLT, tld_n, tst_n, tldB_n, tstB_n, tldR3_n, tldR4_n, tldJ_n, tstJ_n, tlen_I, tlen_R, hk, hr0, hk0, hl0, hr1, hk1, hl1, hr2, hk2, hl2, hr3, hk3, hl3, hr4, hk4, hl4, hr5, hk5, hl5, ok, or0, ok0, ol0, or1, ok1, ol1, or2, ok2, ol2, or3, ok3, ol3, or4, ok4, ol4, c2]
          have hbk : hBack P W t i ≤ 30 := by
            unfold hBack
            split
            · omega
            · split
              · omega
              · omega
          refine ⟨hlt, ?_, nI_1 i, F.tr (Fr.ar _ (by omega)), e5, fun h hh => ?_, fun h hh => ?_⟩
          · simp only [hsum_s, hp, if_false, Nat.add_zero, Bool.false_eq_true]
          · rw [ar_upd]
            by_cases hhi : h = i
            · subst hhi
              rw [if_pos rfl, nI_add]
              unfold hNow
              rw [if_neg hp]
              by_cases hy : now h + hBack P W t h < P.2.1 h
              · rw [if_pos (nI_lt hy (by omega))]
                congr 1
                omega
              · rw [if_neg (nI_nlt (by omega) (by omega))]
                congr 1
                omega
            · rw [if_neg hhi]
              exact e3 h (by omega)
          · rw [ar_upd, if_neg (by omega)]
            exact e4 h (by omega)
    · have hii : i = P.1 := by omega
      have c1 : nI P.1 ≤ nI i := nI_le (by omega) (by omega)
      simp only [WP_bind, WP_some, Option.bind_some, Sum.elim_inl, Sum.elim_inr, ↓reduceIte, tcl_1, tgR_1_0, tpR_1_0, tgR_1_1, tpR_1_1, tgR_1_2, tpR_1_2, tgR_1_3, tpR_1_3, tgR_1_4, tpR_1_4, tgR_1_5, tpR_1_5, tgI_1_6, tpI_1_6, tgI_1_7, tpI_1_7, tgI_1_8, tpI_1_8, hk, hr0, hk0, hl0, hr1, hk1, hl1, hr2, hk2, hl2, hr3, hk3, hl3, hr4, hk4, hl4, hr5, hk5, hl5, V'.1, c1, if_true]
      subst hii
      exact ⟨rfl, F, e5, e3, e4⟩
  · exact ⟨rfl, rfl, Fr.rf _ _ _, rfl, fun h hh => absurd hh (Nat.not_lt_zero _), fun _ _ => rfl⟩
  · rintro ⟨f, D⟩ h
    exact WP.ret h
/-- a task's numbers -/
def TaskV (C : CH) (tk goal load slip : Nat) : Prop := c_kd C tk = 10 ∧ c_iv C tk 0 = nI goal ∧ c_iv C tk 1 = nI load ∧ c_iv C tk 2 = nI slip
theorem wonBehind_eq {C : CH} {tk goal won force : Nat} {P : HP} {W : HW} (T : TaskV C tk goal W.2.2.2.1 W.2.2.2.2) (hW : HWok P W) (hw : won < 100000) (hf : force ≤ 1000) : t_X8_wonBehind tk (nI won) (nI force) C = some (nI (hWon W won force), C) := by
  obtain ⟨k, t0, t1, t2⟩ := T
  have hl := hW.2.2.2.1
  have hs := hW.2.2.2.2
  unfold t_X8_wonBehind hWon
  simp only [tcl_9, tgI_9_0, tpI_9_0, tgI_9_1, tpI_9_1, tgI_9_2, tpI_9_2, k, t1, t2, Option.bind_some]
  by_cases h : W.2.2.2.1 < force
  · rw [if_neg (nI_ge h (by omega)), if_pos h, nI_subI (by omega), show (10 : Int32) = nI 10 from rfl, pk_div (by omega) (by omega) (by omega), nI_add]
  · rw [if_pos (nI_le (by omega) (by omega)), if_neg h]
    by_cases h2 : W.2.2.2.2 < won
    · rw [nI_subI (by omega), if_pos (by rw [← nI_0]; exact nI_lt (by omega) (by omega))]
    · rw [if_neg (nI_subneg (by omega) (by omega)), show won - W.2.2.2.2 = 0 by omega]
      rfl
theorem HPok.pow {P : HP} (hP : HPok P) {c : Nat} (h : c < 2 ^ P.1) : c < 1024 := Nat.lt_of_lt_of_le h (Nat.pow_le_pow_right (by decide) hP.1)
theorem hLow_true {P : HP} {W : HW} {fl : Nat} {now : Nat → Nat} {i : Nat} (hi : i < P.1) (h1 : W.1.testBit i = true) (h2 : now i < fl) : hLow P W fl now = true := by
  unfold hLow
  rw [List.any_eq_true]
  exact ⟨i, List.mem_range.mpr hi, by simp [h1, h2]⟩
theorem hLow_false {P : HP} {W : HW} {fl : Nat} {now : Nat → Nat} (h : ∀ i, i < P.1 → W.1.testBit i = true → ¬ now i < fl) : hLow P W fl now = false := by
  unfold hLow
  rw [List.any_eq_false]
  intro i hi
  have h1 := h i (List.mem_range.mp hi)
  simp
  intro h2
  have := h1 h2
  omega
theorem below_wp {C : CH} {o fl : Nat} {P : HP} {W : HW} {now : Nat → Nat} (A : HaulS (sh C) o) (hP : HPok P) (hW : HWok P W) (hc : c_iv C o 5 = nI W.1) (hfl : c_iv C o 6 = nI fl) (hfl2 : fl ≤ 100) (hn : ∀ h, h < P.1 → c_ar C (o + 1) h = nI (now h)) (hok : nowOk P now) : t_X1_isBelowFloor o (nI P.1) C = some (if hLow P W fl now = true then 1 else 0, C) := by
  obtain ⟨ok, or0, ok0, ol0, or1, ok1, ol1, or2, ok2, ol2, or3, ok3, ol3, or4, ok4, ol4⟩ := A.f
  have hn1 := hP.1
  have hw := hP.pow hW.1
  unfold t_X1_isBelowFloor
  simp only [tcl_2, tgR_2_0, tpR_2_0, tgR_2_1, tpR_2_1, tgR_2_2, tpR_2_2, tgR_2_3, tpR_2_3, tgR_2_4, tpR_2_4, tgI_2_5, tpI_2_5, tgI_2_6, tpI_2_6, tgI_2_7, tpI_2_7, ok, or0, ok0, ol0, or1, ok1, ol1, or2, ok2, ol2, or3, ok3, ol3, or4, ok4, ol4, hfl, Option.bind_some]
  by_cases h0 : fl = 0
  · subst h0
    rw [if_neg (by decide), hLow_false (fun i _ _ => by omega)]
    rfl
  · rw [if_pos (by rw [← nI_0]; exact nI_lt (by omega) (by omega))]
    have key : WP (iter (t_X1_isBelowFloor_L11 o (nI P.1)) 100000 (0, C)) (fun r => Sum.elim (fun D => D = C ∧ hLow P W fl now = false) (fun D => D = C ∧ hLow P W fl now = true) r) := by
      refine WP.it (fun i s => s = (nI i, C) ∧ ∀ h, h < i → W.1.testBit h = true → ¬ now h < fl) P.1 ?_ 100000 0 _ ?_ (Nat.zero_le _) (by omega)
      · rintro i s hi ⟨rfl, hl⟩
        unfold t_X1_isBelowFloor_L11
        dsimp only
        by_cases hlt : i < P.1
        · have c1 : ¬ nI P.1 ≤ nI i := nI_ge hlt (by omega)
          have c2 : i < 10 := by omega
          have hst := hP.2 i hlt
          have hno := hok i hlt
          simp only [WP_bind, WP_some, Option.bind_some, Sum.elim_inl, Sum.elim_inr, ↓reduceIte, c1, tcl_2, tgR_2_0, tpR_2_0, tgR_2_1, tpR_2_1, tgR_2_2, tpR_2_2, tgR_2_3, tpR_2_3, tgR_2_4, tpR_2_4, tgI_2_5, tpI_2_5, tgI_2_6, tpI_2_6, tgI_2_7, tpI_2_7, Nat.reduceLT, tld_n, tst_n, tldB_n, tstB_n, tldR3_n, tldR4_n, tldJ_n, tstJ_n, tlen_I, tlen_R, ok, or0, ok0, ol0, or1, ok1, ol1, or2, ok2, ol2, or3, ok3, ol3, or4, ok4, ol4, hc, tisIn_eq C (show W.1 < 2 ^ 31 by omega) (show i < 31 by omega), c2, hfl, hn i hlt]
          by_cases hb2 : W.1.testBit i = true
          · simp only [hb2, ↓reduceIte, i10]
            by_cases hz : now i < fl
            · rw [if_neg (nI_ge hz (by omega))]
              simp only [WP_bind, WP_some, Option.bind_some, Sum.elim_inl, Sum.elim_inr, ↓reduceIte]
              exact ⟨trivial, hLow_true hlt hb2 hz⟩
            · rw [if_pos (nI_le (by omega) (by omega))]
              simp only [WP_bind, WP_some, Option.bind_some, Sum.elim_inl, Sum.elim_inr, ↓reduceIte]
              refine ⟨hlt, by rw [nI_1], fun h hh hb => ?_⟩
              by_cases hhi : h = i
              · subst hhi; exact hz
              · exact hl h (by omega) hb
          · simp only [hb2, ↓reduceIte, Bool.false_eq_true, WP_bind, WP_some, Option.bind_some, Sum.elim_inl, Sum.elim_inr, ↓reduceIte]
            refine ⟨hlt, by rw [nI_1], fun h hh hb => ?_⟩
            by_cases hhi : h = i
            · subst hhi; exact absurd hb hb2
            · exact hl h (by omega) hb
        · have hii : i = P.1 := by omega
          have c1 : nI P.1 ≤ nI i := nI_le (by omega) (by omega)
          simp only [WP_bind, WP_some, Option.bind_some, Sum.elim_inl, Sum.elim_inr, ↓reduceIte, c1]
          subst hii
          exact ⟨trivial, hLow_false hl⟩
      · exact ⟨rfl, fun h hh => absurd hh (Nat.not_lt_zero _)⟩
    obtain ⟨r, e, h⟩ := key
    rw [e]
    cases r with
    | inl D =>
      obtain ⟨rfl, h2⟩ := h
      simp only [Option.bind_some, Sum.elim_inl, h2, Bool.false_eq_true, ↓reduceIte]
    | inr D =>
      obtain ⟨rfl, h2⟩ := h
      simp only [Option.bind_some, Sum.elim_inr, h2, ↓reduceIte]
/-- the hands of the set, by how late they are -/
def gbl (P : HP) (W : HW) (k h : Nat) : Bool := decide (h < P.1) && W.1.testBit h && decide (W.2.1 h = k)
def GblV (C : CH) (o : Nat) (P : HP) (W : HW) : Prop := ∃ g : Nat → Nat, ∀ k, k < 4 → c_ar C (o + 5) k = nI (g k) ∧ g k < 1024 ∧ ∀ h, (g k).testBit h = gbl P W k h
theorem gather_wp {C : CH} {o : Nat} {P : HP} {W : HW} (A : HaulS (sh C) o) (hP : HPok P) (hW : HWok P W) (hc : c_iv C o 5 = nI W.1) (hl : ∀ h, h < P.1 → c_ar C (o + 2) h = nI (W.2.1 h)) : WP (t_X1_gatherByLate o (nI P.1) C) (fun D => Fr (o + 5) (o + 5) C D ∧ c_iv D = c_iv C ∧ GblV D o P W) := by
  have hn1 := hP.1
  have hw := hP.pow hW.1
  unfold t_X1_gatherByLate
  refine WP.b (WP.it (Post := fun D => Fr (o + 5) (o + 5) C D ∧ c_iv D = c_iv C ∧ ∀ k, k < 4 → c_ar D (o + 5) k = 0) (fun i s => s.1 = nI i ∧ Fr (o + 5) (o + 5) C s.2 ∧ c_iv s.2 = c_iv C ∧ ∀ k, k < i → c_ar s.2 (o + 5) k = 0) 4 ?_ 100000 0 _ ?_ (Nat.zero_le _) (by omega)) ?_
  · rintro i ⟨j, D⟩ hi ⟨e1, F, e5, e3⟩
    dsimp only at e1 F e3 e5
    subst e1
    obtain ⟨ok, or0, ok0, ol0, or1, ok1, ol1, or2, ok2, ol2, or3, ok3, ol3, or4, ok4, ol4⟩ := (A.tr F.2.2.1).f
    unfold t_X1_gatherByLate_L2
    dsimp only
    by_cases hlt : i < 4
    · have c1 : ¬ (3 : Int32) < nI i := nI_nlt (a := 3) (by omega) (by omega)
      simp only [WP_bind, WP_some, Option.bind_some, Sum.elim_inl, Sum.elim_inr, ↓reduceIte, c1, tcl_2, tgR_2_0, tpR_2_0, tgR_2_1, tpR_2_1, tgR_2_2, tpR_2_2, tgR_2_3, tpR_2_3, tgR_2_4, tpR_2_4, tgI_2_5, tpI_2_5, tgI_2_6, tpI_2_6, tgI_2_7, tpI_2_7, Nat.reduceLT, tld_n, tst_n, tldB_n, tstB_n, tldR3_n, tldR4_n, tldJ_n, tstJ_n, tlen_I, tlen_R, ok, or0, ok0, ol0, or1, ok1, ol1, or2, ok2, ol2, or3, ok3, ol3, or4, ok4, ol4, hlt]
      refine ⟨trivial, nI_1 i, F.tr (Fr.ar _ (by omega)), e5, fun k hk => ?_⟩
      rw [ar_upd]
      by_cases hki : k = i
      · rw [if_pos hki]
      · rw [if_neg hki]; exact e3 k (by omega)
    · have hii : i = 4 := by omega
      subst hii
      have c1 : (3 : Int32) < nI 4 := by decide
      simp only [WP_bind, WP_some, Option.bind_some, Sum.elim_inl, Sum.elim_inr, ↓reduceIte, c1]
      exact ⟨F, e5, e3⟩
  · exact ⟨rfl, Fr.rf _ _ _, rfl, fun h hh => absurd hh (Nat.not_lt_zero _)⟩
  · rintro E ⟨FE, e5E, e3E⟩
    refine WP.b (WP.it (Post := fun D => Fr (o + 5) (o + 5) C D ∧ c_iv D = c_iv C ∧ GblV D o P W) (fun i s => s.1 = nI i ∧ Fr (o + 5) (o + 5) C s.2 ∧ c_iv s.2 = c_iv C ∧ ∃ g : Nat → Nat, ∀ k, k < 4 → c_ar s.2 (o + 5) k = nI (g k) ∧ g k < 1024 ∧ ∀ h, (g k).testBit h = (decide (h < i) && W.1.testBit h && decide (W.2.1 h = k))) P.1 ?_ 100000 0 _ ?_ (Nat.zero_le _) (by omega)) ?_
    · rintro i ⟨j, D⟩ hi ⟨e1, F, e5, g, hg⟩
      dsimp only at e1 F e5 hg
      subst e1
      obtain ⟨ok, or0, ok0, ol0, or1, ok1, ol1, or2, ok2, ol2, or3, ok3, ol3, or4, ok4, ol4⟩ := (A.tr F.2.2.1).f
      unfold t_X1_gatherByLate_L22
      dsimp only
      by_cases hlt : i < P.1
      · have c1 : ¬ nI P.1 ≤ nI i := nI_ge hlt (by omega)
        have c2 : i < 10 := by omega
        have hlo : c_ar D (o + 2) i = nI (W.2.1 i) := by rw [(F.2.2.2 (o + 2) (by omega)).1]; exact hl i hlt
        have hl3 := hW.2.1 i hlt
        have hc' : c_iv D o 5 = nI W.1 := by rw [e5]; exact hc
        simp only [WP_bind, WP_some, Option.bind_some, Sum.elim_inl, Sum.elim_inr, ↓reduceIte, c1, tcl_2, tgR_2_0, tpR_2_0, tgR_2_1, tpR_2_1, tgR_2_2, tpR_2_2, tgR_2_3, tpR_2_3, tgR_2_4, tpR_2_4, tgI_2_5, tpI_2_5, tgI_2_6, tpI_2_6, tgI_2_7, tpI_2_7, Nat.reduceLT, tld_n, tst_n, tldB_n, tstB_n, tldR3_n, tldR4_n, tldJ_n, tstJ_n, tlen_I, tlen_R, ok, or0, ok0, ol0, or1, ok1, ol1, or2, ok2, ol2, or3, ok3, ol3, or4, ok4, ol4, hc', tisIn_eq D (show W.1 < 2 ^ 31 by omega) (show i < 31 by omega), c2, hlo, tw_eq]
        by_cases hb2 : W.1.testBit i = true
        · have cw : ¬ (nI (W.2.1 i) < 0 ∨ 3 < nI (W.2.1 i)) := by
            rintro (h | h)
            · exact nI_pos (by omega) h
            · exact nI_nlt (a := 3) (b := W.2.1 i) (by omega) (by omega) h
          have hl4 : W.2.1 i < 4 := by omega
          simp only [hb2, ↓reduceIte, i10, cw, WP_bind, WP_some, Option.bind_some, Sum.elim_inl, Sum.elim_inr, ↓reduceIte, tcl_2, tgR_2_0, tpR_2_0, tgR_2_1, tpR_2_1, tgR_2_2, tpR_2_2, tgR_2_3, tpR_2_3, tgR_2_4, tpR_2_4, tgI_2_5, tpI_2_5, tgI_2_6, tpI_2_6, tgI_2_7, tpI_2_7, Nat.reduceLT, tld_n, tst_n, tldB_n, tstB_n, tldR3_n, tldR4_n, tldJ_n, tstJ_n, tlen_I, tlen_R, ok, or0, ok0, ol0, or1, ok1, ol1, or2, ok2, ol2, or3, ok3, ol3, or4, ok4, ol4, hl4]
          refine ⟨hlt, nI_1 i, F.tr (Fr.ar _ (by omega)), e5, fun k => if k = W.2.1 i then g k ||| 2 ^ i else g k, fun k hk => ?_⟩
          obtain ⟨g1, g2, g3⟩ := hg k hk
          rw [ar_upd]
          by_cases hki : k = W.2.1 i
          · subst hki
            dsimp only
            rw [if_pos rfl, if_pos rfl, g1, nI_shl1 i (by omega), nI_orI]
            refine ⟨rfl, Nat.or_lt_two_pow (n := 10) g2 (Nat.pow_lt_pow_right (by decide) c2), fun h => ?_⟩
            rw [Nat.testBit_or, g3, Nat.testBit_two_pow]
            by_cases hhi : h = i
            · subst hhi
              simp [hb2]
            · have h1 : decide (i = h) = false := by simp; omega
              have h2 : decide (h < i + 1) = decide (h < i) := by congr 1; apply propext; omega
              rw [h1, h2, Bool.or_false]
          · dsimp only
            rw [if_neg hki, if_neg hki]
            refine ⟨g1, g2, fun h => ?_⟩
            rw [g3]
            by_cases hhi : h = i
            · subst hhi
              simp
              omega
            · have h2 : decide (h < i + 1) = decide (h < i) := by congr 1; apply propext; omega
              rw [h2]
        · simp only [hb2, ↓reduceIte, Bool.false_eq_true, WP_bind, WP_some, Option.bind_some, Sum.elim_inl, Sum.elim_inr, ↓reduceIte]
          refine ⟨hlt, nI_1 i, F, e5, g, fun k hk => ?_⟩
          obtain ⟨g1, g2, g3⟩ := hg k hk
          refine ⟨g1, g2, fun h => ?_⟩
          rw [g3]
          by_cases hhi : h = i
          · subst hhi
            simp [hb2]
          · have h2 : decide (h < i + 1) = decide (h < i) := by congr 1; apply propext; omega
            rw [h2]
      · have hii : i = P.1 := by omega
        have c1 : nI P.1 ≤ nI i := nI_le (by omega) (by omega)
        simp only [WP_bind, WP_some, Option.bind_some, Sum.elim_inl, Sum.elim_inr, ↓reduceIte, c1]
        subst hii
        exact ⟨F, e5, g, hg⟩
    · refine ⟨rfl, FE, e5E, fun _ => 0, fun k hk => ⟨e3E k hk, Nat.zero_lt_succ _, fun h => ?_⟩⟩
      simp
    · rintro D h
      exact WP.ret h
theorem pullers_eq {C : CH} {o sg vs rs t : Nat} {v r : Nat → Nat} {P : HP} {W : HW} (A : HaulS (sh C) o) (S : SongS (sh C) sg) (SV : SongV C sg vs rs v r) (hbt : W.2.2.1 = sBt vs rs v r) (hP : HPok P) (hW : HWok P W) (G : GblV C o P W) (ht : t < 300) : WP (t_X1_pullersAt o sg (nI t) C) (fun q => q.2 = C ∧ ∃ ps, q.1 = nI ps ∧ ps < 1024 ∧ ∀ h, h < P.1 → ps.testBit h = hPull W t h) := by
  have hn1 := hP.1
  have hw := hP.pow hW.1
  obtain ⟨g, hg⟩ := G
  obtain ⟨ok, or0, ok0, ol0, or1, ok1, ol1, or2, ok2, ol2, or3, ok3, ol3, or4, ok4, ol4⟩ := A.f
  obtain ⟨gk, gr0, gr1, gk1, gr2, gk2, gl2, gk3, gr4, gk4, gl4⟩ := S.f
  unfold t_X1_pullersAt
  refine WP.b (WP.it (Post := fun q => q.2 = C ∧ ∃ ps, q.1 = nI ps ∧ ps < 1024 ∧ ∀ h, h < P.1 → ps.testBit h = hPull W t h) (fun i s => s.2.1 = nI i ∧ s.2.2 = C ∧ ∃ ps, s.1 = nI ps ∧ ps < 1024 ∧ ∀ h, h < P.1 → ps.testBit h = (decide (W.2.1 h < i) && hPull W t h)) 4 ?_ 100000 0 _ ?_ (Nat.zero_le _) (by omega)) ?_
  · rintro i ⟨f, j, D⟩ hi ⟨e1, e2, ps, e3, e4, e6⟩
    dsimp only at e1 e2 e3
    subst e1
    have e2 := e2.symm
    subst e2
    subst e3
    unfold t_X1_pullersAt_L5
    dsimp only
    by_cases hlt : i < 4
    · have c1 : ¬ (3 : Int32) < nI i := nI_nlt (a := 3) (by omega) (by omega)
      by_cases hti : t < i
      · have c3 : nI t < nI i := nI_lt hti (by omega)
        simp only [WP_bind, WP_some, Option.bind_some, Sum.elim_inl, Sum.elim_inr, ↓reduceIte, c1, c3]
        refine ⟨trivial, ps, rfl, e4, fun h hh => ?_⟩
        rw [e6 h hh]
        unfold hPull
        by_cases hz : W.2.1 h ≤ t
        · have : W.2.1 h < i := by omega
          simp [this]
        · simp [hz]
      · have c3 : ¬ nI t < nI i := nI_nlt (by omega) (by omega)
        obtain ⟨g1, g2, g3⟩ := hg i hlt
        have step : ∀ h, h < P.1 → (decide (W.2.1 h < i + 1) && hPull W t h) = ((decide (W.2.1 h < i) && hPull W t h) || (gbl P W i h && decide (W.2.2.1 (t - i) = 2))) := by
          intro h hh
          unfold hPull gbl
          by_cases h1 : W.2.1 h = i
          · subst h1
            have : W.2.1 h ≤ t := by omega
            simp [hh, this]
          · have h2 : decide (W.2.1 h < i + 1) = decide (W.2.1 h < i) := by congr 1; apply propext; omega
            rw [h2]
            simp [h1]
        by_cases hz : g i = 0
        · have c4 : c_ar C (o + 5) i = 0 := by rw [g1, hz]; rfl
          simp only [WP_bind, WP_some, Option.bind_some, Sum.elim_inl, Sum.elim_inr, ↓reduceIte, c1, c3, tcl_2, tgR_2_0, tpR_2_0, tgR_2_1, tpR_2_1, tgR_2_2, tpR_2_2, tgR_2_3, tpR_2_3, tgR_2_4, tpR_2_4, tgI_2_5, tpI_2_5, tgI_2_6, tpI_2_6, tgI_2_7, tpI_2_7, Nat.reduceLT, tld_n, tst_n, tldB_n, tstB_n, tldR3_n, tldR4_n, tldJ_n, tstJ_n, tlen_I, tlen_R, ok, or0, ok0, ol0, or1, ok1, ol1, or2, ok2, ol2, or3, ok3, ol3, or4, ok4, ol4, hlt, c4]
          refine ⟨trivial, nI_1 i, trivial, ps, rfl, e4, fun h hh => ?_⟩
          rw [step h hh, e6 h hh, ← g3 h, hz]
          simp
        · have c4 : ¬ nI (g i) = 0 := nI_ne0 (by omega) (by omega)
          simp only [WP_bind, WP_some, Option.bind_some, Sum.elim_inl, Sum.elim_inr, ↓reduceIte, c1, c3, tcl_2, tgR_2_0, tpR_2_0, tgR_2_1, tpR_2_1, tgR_2_2, tpR_2_2, tgR_2_3, tpR_2_3, tgR_2_4, tpR_2_4, tgI_2_5, tpI_2_5, tgI_2_6, tpI_2_6, tgI_2_7, tpI_2_7, tcl_8, tgR_8_0, tpR_8_0, tgR_8_1, tpR_8_1, Nat.reduceLT, tld_n, tst_n, tldB_n, tstB_n, tldR3_n, tldR4_n, tldJ_n, tstJ_n, tlen_I, tlen_R, ok, or0, ok0, ol0, or1, ok1, ol1, or2, ok2, ol2, or3, ok3, ol3, or4, ok4, ol4, hlt, g1, c4, gk, nI_subI (show i ≤ t by omega), sungAt_eq S SV (show t - i < 2 ^ 31 by omega), ← hbt]
          by_cases hy : W.2.2.1 (t - i) = 2
          · rw [if_pos (show nI (W.2.2.1 (t - i)) = 2 by rw [hy]; rfl)]
            simp only [WP_bind, WP_some, Option.bind_some, Sum.elim_inl, Sum.elim_inr, ↓reduceIte, tcl_2, tgR_2_0, tpR_2_0, tgR_2_1, tpR_2_1, tgR_2_2, tpR_2_2, tgR_2_3, tpR_2_3, tgR_2_4, tpR_2_4, tgI_2_5, tpI_2_5, tgI_2_6, tpI_2_6, tgI_2_7, tpI_2_7, Nat.reduceLT, tld_n, tst_n, tldB_n, tstB_n, tldR3_n, tldR4_n, tldJ_n, tstJ_n, tlen_I, tlen_R, ok, or0, ok0, ol0, or1, ok1, ol1, or2, ok2, ol2, or3, ok3, ol3, or4, ok4, ol4, hlt, g1, nI_orI]
            refine ⟨trivial, nI_1 i, trivial, ps ||| g i, rfl, Nat.or_lt_two_pow (n := 10) e4 g2, fun h hh => ?_⟩
            rw [step h hh, Nat.testBit_or, e6 h hh, g3 h, hy]
            simp
          · have hb3 := hW.2.2.1 (t - i)
            rw [if_neg (show ¬ nI (W.2.2.1 (t - i)) = 2 from fun z => hy ((nI_eq (b := 2) (by omega) (by omega)).mp z))]
            simp only [WP_bind, WP_some, Option.bind_some, Sum.elim_inl, Sum.elim_inr, ↓reduceIte]
            refine ⟨trivial, nI_1 i, trivial, ps, rfl, e4, fun h hh => ?_⟩
            rw [step h hh, e6 h hh]
            simp [hy]
    · have hii : i = 4 := by omega
      subst hii
      have c1 : (3 : Int32) < nI 4 := by decide
      simp only [WP_bind, WP_some, Option.bind_some, Sum.elim_inl, Sum.elim_inr, ↓reduceIte, c1]
      refine ⟨trivial, ps, rfl, e4, fun h hh => ?_⟩
      rw [e6 h hh]
      have := hW.2.1 h hh
      simp
      omega
  · exact ⟨rfl, rfl, 0, rfl, by decide, fun h hh => by simp⟩
  · rintro q h
    exact WP.ret h
