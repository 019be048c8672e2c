/-! MARKS: who pulled late -/
def dst (a r : Nat) : Nat := (a - r) + (r - a)
/-- how far a haul is from all marks -/
def mS (P : HP) (W : HW) (K : KX) : Nat := hsum (fun m => dst (hSt P W P.2.1 (K.2.1 m + 1)).2 (K.2.2 m)) K.1
theorem hRun_all {P : HP} (hP : HPok P) {W : HW} {now : Nat → Nat} (hok : nowOk P now) : ∀ f t, t + f ≤ 300 → hRun P W 0 1000000000 now f t = (0, t + f)
  | 0, t, _ => rfl
  | f + 1, t, h => by
    have h1 := hSt_won hP (W := W) hok (t + 1)
    unfold hRun
    rw [if_neg (by rw [hLow_false (fun i _ _ => by omega)]; decide), if_neg (by omega), hRun_all hP hok f (t + 1) (by omega)]
    rw [show t + 1 + f = t + (f + 1) by omega]
def spanM (K : KX) : Nat → Nat
  | 0 => 0
  | m + 1 => max (spanM K m) (K.2.1 m + 1)
theorem spanM_le {K : KX} (h : MarkOk K) : ∀ m, m ≤ K.1 → spanM K m ≤ 300
  | 0, _ => by simp [spanM]
  | m + 1, hm => by
    have h1 := spanM_le h m (by omega)
    have h2 := (h.2 m (by omega)).1
    unfold spanM
    omega
theorem spanM_ge {K : KX} : ∀ m j, j < m → K.2.1 j < spanM K m
  | 0, j, h => absurd h (Nat.not_lt_zero _)
  | m + 1, j, h => by
    unfold spanM
    by_cases hj : j = m
    · subst hj; omega
    · have := spanM_ge (K := K) m j (by omega)
      omega
/-- the marks' object -/
def MkV (C : CH) (o : Nat) (K : KX) : Prop := MarksS (sh C) o ∧ c_iv C o 2 = nI K.1 ∧ (∀ k, k < K.1 → c_ar C (o + 1) k = nI (K.2.1 k) ∧ c_ar C (o + 2) k = nI (K.2.2 k)) ∧ MarkOk K
theorem MkV.fr {C D : CH} {o lo hi : Nat} {K : KX} (h : MkV C o K) (F : Fr lo hi C D) (hs : hi < o ∨ o + 2 < lo) : MkV D o K := by
  obtain ⟨h1, h2, h3, h4⟩ := h
  exact ⟨h1.ag (fun a _ _ => AgS.of F.2.2.1 a), by rw [(F.2.2.2 o (by omega)).2.1]; exact h2, by rw [(F.2.2.2 (o + 1) (by omega)).1, (F.2.2.2 (o + 2) (by omega)).1]; exact h3, h4⟩
theorem span_eq {C : CH} {o : Nat} {K : KX} (V : MkV C o K) : t_X5_span o C = some (nI (spanM K K.1), C) := by
  obtain ⟨h1, h2, h3, h4⟩ := V
  obtain ⟨mk, mr0, mk0, ml0, mr1, mk1, ml1⟩ := h1.f
  have h60 := h4.1
  have key : WP (iter (t_X5_span_L4 o) 100000 (0, 0, C)) (fun r => r = (nI (spanM K K.1), C)) := by
    refine WP.it (fun m s => s = (nI (spanM K m), nI m, C)) K.1 ?_ 100000 0 _ rfl (Nat.zero_le _) (by omega)
    rintro m s hm rfl
    unfold t_X5_span_L4
    dsimp only
    simp only [tcl_6, tgR_6_0, tpR_6_0, tgR_6_1, tpR_6_1, tgI_6_2, tpI_6_2, mk, mr0, mk0, ml0, mr1, mk1, ml1, h2, Option.bind_some]
    by_cases hlt : m < K.1
    · have d1 : m < 60 := by omega
      have hb := (h4.2 m hlt).1
      have hs := spanM_le h4 m (by omega)
      rw [if_neg (nI_ge hlt (by omega))]
      simp only [tcl_6, tgR_6_0, tpR_6_0, tgR_6_1, tpR_6_1, tgI_6_2, tpI_6_2, Nat.reduceLT, tld_n, tst_n, tldB_n, tstB_n, tldR3_n, tldR4_n, tldJ_n, tstJ_n, tlen_I, tlen_R, mk, mr0, mk0, ml0, mr1, mk1, ml1, d1, Option.bind_some, (h3 m hlt).1, nI_1, WP_bind, WP_some, Option.bind_some, Sum.elim_inl, Sum.elim_inr, ↓reduceIte]
      refine ⟨hlt, ?_⟩
      have e : spanM K (m + 1) = max (spanM K m) (K.2.1 m + 1) := rfl
      rw [e]
      by_cases hc : spanM K m < K.2.1 m + 1
      · rw [if_pos (nI_lt hc (by omega)), show max (spanM K m) (K.2.1 m + 1) = K.2.1 m + 1 by omega]
      · rw [if_neg (nI_nlt (by omega) (by omega)), show max (spanM K m) (K.2.1 m + 1) = spanM K m by omega]
    · have hmm : m = K.1 := by omega
      subst hmm
      rw [if_pos (nI_le (by omega) (by omega))]
      simp only [WP_bind, WP_some, Option.bind_some, Sum.elim_inl, Sum.elim_inr, ↓reduceIte]
  obtain ⟨e, h5, rfl⟩ := key
  unfold t_X5_span
  rw [h5]
  rfl
theorem absI {a r : Nat} (ha : a < 2 ^ 30) (hr : r < 2 ^ 30) : (if (0 : Int32) ≤ nI a - nI r then nI a - nI r else -(nI a - nI r)) = nI (dst a r) ∧ (if (0 : Int32) ≤ nI a - nI r then nI a - nI r else 0 - (nI a - nI r)) = nI (dst a r) := by
  by_cases h : r ≤ a
  · have c : (0 : Int32) ≤ nI a - nI r := by rw [nI_subI h]; exact nI_pos' (by omega)
    rw [if_pos c, if_pos c, nI_subI h]
    unfold dst
    exact ⟨by congr 1; omega, by congr 1; omega⟩
  · have c0 := nI_sub_neg (a := a) (b := r) (by omega) (by omega)
    have c : ¬ (0 : Int32) ≤ nI a - nI r := fun z => by
      rw [Int32.lt_iff_toInt_lt] at c0
      rw [Int32.le_iff_toInt_le] at z
      omega
    rw [if_neg c, if_neg c]
    have e : -(nI a - nI r) = nI (dst a r) := by
      rw [Int32.neg_sub, nI_subI (by omega)]
      unfold dst
      congr 1
      omega
    exact ⟨e, by rw [Int32.zero_sub]; exact e⟩
theorem dst_le {a r : Nat} (ha : a ≤ 30000) (hr : r ≤ 5000) : dst a r ≤ 30000 := by unfold dst; omega
theorem mS_le {P : HP} (hP : HPok P) {W : HW} {K : KX} (hK : MarkOk K) : mS P W K ≤ 1800000 := by
  have h1 : mS P W K ≤ K.1 * 30000 := hsum_le K.1 (fun m hm => by
    have h2 := hK.2 m hm
    have h3 := hSt_won hP (W := W) (now := P.2.1) (fun _ _ => Nat.le_refl _) (K.2.1 m + 1)
    exact dst_le (by omega) h2.2)
  exact Nat.le_trans h1 (Nat.mul_le_mul_right 30000 hK.1)
theorem diff_eq {C : CH} {o wa n : Nat} {P : HP} {W : HW} {K : KX} (hP : HPok P) (V : MkV C o K) (kw : c_kd C wa = 20) (lw : c_ln C wa = 300) (hn : spanM K K.1 ≤ n) (hw : ∀ t, t < n → c_ar C wa t = nI (hSt P W P.2.1 (t + 1)).2) : t_X5_differenceTo o wa C = some (nI (mS P W K), C) := by
  obtain ⟨h1, h2, h3, h4⟩ := V
  obtain ⟨mk, mr0, mk0, ml0, mr1, mk1, ml1⟩ := h1.f
  have h60 := h4.1
  have key : WP (iter (t_X5_differenceTo_L4 o wa) 100000 (0, 0, C)) (fun r => r = (nI (mS P W K), C)) := by
    refine WP.it (fun m s => s = (nI (hsum (fun m => dst (hSt P W P.2.1 (K.2.1 m + 1)).2 (K.2.2 m)) m), nI m, C)) K.1 ?_ 100000 0 _ rfl (Nat.zero_le _) (by omega)
    rintro m s hm rfl
    unfold t_X5_differenceTo_L4
    dsimp only
    simp only [tcl_6, tgR_6_0, tpR_6_0, tgR_6_1, tpR_6_1, tgI_6_2, tpI_6_2, mk, mr0, mk0, ml0, mr1, mk1, ml1, h2, Option.bind_some]
    by_cases hlt : m < K.1
    · have d1 : m < 60 := by omega
      obtain ⟨hb, hr⟩ := h4.2 m hlt
      have hsp := spanM_ge (K := K) K.1 m hlt
      have d2 : K.2.1 m < 300 := hb
      have hwon := hSt_won hP (W := W) (now := P.2.1) (fun _ _ => Nat.le_refl _) (K.2.1 m + 1)
      rw [if_neg (nI_ge hlt (by omega))]
      have hv := in_nI (n := 300) (by omega) d2
      simp only [tcl_6, tgR_6_0, tpR_6_0, tgR_6_1, tpR_6_1, tgI_6_2, tpI_6_2, Nat.reduceLT, tld_n, tst_n, tldB_n, tstB_n, tldR3_n, tldR4_n, tldJ_n, tstJ_n, tlen_I, tlen_R, mk, mr0, mk0, ml0, mr1, mk1, ml1, d1, d2, kw, lw, Option.bind_some, (h3 m hlt).1, (h3 m hlt).2, tw_eq, hv, ↓reduceIte, i10, hw (K.2.1 m) (by omega), (absI (a := (hSt P W P.2.1 (K.2.1 m + 1)).2) (r := K.2.2 m) (by omega) (by omega)).1, nI_add, WP_bind, WP_some, Option.bind_some, Sum.elim_inl, Sum.elim_inr, ↓reduceIte]
      exact ⟨hlt, by rw [nI_1]; rfl⟩
    · have hmm : m = K.1 := by omega
      subst hmm
      rw [if_pos (nI_le (by omega) (by omega))]
      simp only [WP_bind, WP_some, Option.bind_some, Sum.elim_inl, Sum.elim_inr, ↓reduceIte]
      rfl
  obtain ⟨e, h5, rfl⟩ := key
  unfold t_X5_differenceTo
  rw [h5]
  rfl
/-- what a trial of the search for the late one rests on -/
def LtV (C : CH) (b sg tk : Nat) (P : HP) (K : KX) (vs rs : Nat) (v r : Nat → Nat) (cr l p : Nat) : Prop := LateS (sh C) (b + 40) ∧ HandsS (sh C) (b + 4) ∧ SongS (sh C) sg ∧ HandV C (b + 4) P ∧ SongV C sg vs rs v r ∧ TaskV C tk 1000000000 l p ∧ MkV C (b + 37) K ∧ c_iv C (b + 4) 7 = nI cr ∧ b + 81 ≤ sg ∧ b + 81 ≤ tk
theorem LtV.fr {C D : CH} {b sg tk : Nat} {P : HP} {K : KX} {vs rs : Nat} {v r : Nat → Nat} {cr l p : Nat} (h : LtV C b sg tk P K vs rs v r cr l p) (F : Fr (b + 40) (b + 46) C D) : LtV D b sg tk P K vs rs v r cr l p := by
  obtain ⟨h1, h2, h3, h4, h5, h6, h7, h8, h9, h10⟩ := h
  exact ⟨h1.ag (fun a _ _ => AgS.of F.2.2.1 a), h2.tr F.2.2.1, h3.tr F.2.2.1, h4.fr F (by omega), h5.fr F (by omega), h6.fr F (by omega), h7.fr F (by omega), by rw [(F.2.2.2 (b + 4) (by omega)).2.1]; exact h8, h9, h10⟩
theorem sumTrial_wp {C : CH} {b sg tk : Nat} {P : HP} {K : KX} {vs rs : Nat} {v r : Nat → Nat} {W : HW} (hP : HPok P) (hW : HWok P W) (hbt : W.2.2.1 = sBt vs rs v r) (L : LtV C b sg tk P K vs rs v r W.1 W.2.2.2.1 W.2.2.2.2) (hc : c_iv C (b + 41) 5 = nI W.1) (hf : c_iv C (b + 41) 6 = 0) (hn : ∀ h, h < P.1 → c_ar C (b + 42) h = nI (P.2.1 h)) (hl : ∀ h, h < P.1 → c_ar C (b + 43) h = nI (W.2.1 h)) : WP (t_X3_sumOfTrial (b + 40) (b + 4) sg tk (b + 37) C) (fun q => q.1 = nI (mS P W K) ∧ Fr (b + 41) (b + 46) C q.2) := by
  obtain ⟨h1, h2, h3, h4, h5, h6, h7, h8, h9, h10⟩ := L
  have lk : c_kd C (b + 40) = 5 := h1.1
  have lr : c_rv C (b + 40) 0 = some (b + 41) := h1.2.1
  have A : HaulS (sh C) (b + 41) := h1.2.2
  obtain ⟨ok, _⟩ := A.f
  obtain ⟨mk, _⟩ := h7.1.f
  have hsp := spanM_le h7.2.2.2 K.1 (Nat.le_refl _)
  unfold t_X3_sumOfTrial
  simp only [WP_bind, WP_some, Option.bind_some, tcl_4, tgR_4_0, tpR_4_0, tgI_4_1, tpI_4_1, tgI_4_2, tpI_4_2, tgI_4_3, tpI_4_3, tgI_4_4, tpI_4_4, tgI_4_5, tpI_4_5, tcl_6, tgR_6_0, tpR_6_0, tgR_6_1, tpR_6_1, tgI_6_2, tpI_6_2, tcl_2, tgR_2_0, tpR_2_0, tgR_2_1, tpR_2_1, tgR_2_2, tpR_2_2, tgR_2_3, tpR_2_3, tgR_2_4, tpR_2_4, tgI_2_5, tpI_2_5, tgI_2_6, tpI_2_6, tgI_2_7, tpI_2_7, lk, lr, mk, ok, span_eq h7]
  refine WP.mono (go_wp (fl := 0) (goal := 1000000000) (mo := spanM K K.1) h2 A h3 h4 h5 h6 hbt hP hW (by omega) (by omega) (by omega) hc hf (by omega) (by decide) hn hl (fun _ _ => Nat.le_refl _) hsp (fun t ht => nI_leI (by omega) (by omega))) ?_
  rintro ⟨d, E⟩ ⟨e1, GV⟩
  dsimp only at e1 GV ⊢
  rw [hRun_all hP (fun _ _ => Nat.le_refl _) _ 0 (by omega)] at GV
  obtain ⟨F, g5, g6, g2, g7, gn, gn2, gw⟩ := GV
  have F' : Fr (b + 41) (b + 46) C E := F
  have lk : c_kd E (b + 40) = 5 := by rw [sh_kd F.2.2.1]; exact lk
  have lr : c_rv E (b + 40) 0 = some (b + 41) := by rw [sh_rv F.2.2.1]; exact lr
  obtain ⟨ok, or0, ok0, ol0, or1, ok1, ol1, or2, ok2, ol2, or3, ok3, ol3, or4, ok4, ol4⟩ := (A.tr F.2.2.1).f
  have h7' := h7.fr F' (by omega)
  obtain ⟨mk, _⟩ := h7'.1.f
  simp only [WP_bind, WP_some, Option.bind_some, tcl_4, tgR_4_0, tpR_4_0, tgI_4_1, tpI_4_1, tgI_4_2, tpI_4_2, tgI_4_3, tpI_4_3, tgI_4_4, tpI_4_4, tgI_4_5, tpI_4_5, tcl_6, tgR_6_0, tpR_6_0, tgR_6_1, tpR_6_1, tgI_6_2, tpI_6_2, tcl_2, tgR_2_0, tpR_2_0, tgR_2_1, tpR_2_1, tgR_2_2, tpR_2_2, tgR_2_3, tpR_2_3, tgR_2_4, tpR_2_4, tgI_2_5, tpI_2_5, tgI_2_6, tpI_2_6, tgI_2_7, tpI_2_7, lk, lr, mk, ok, or0, ok0, ol0, or1, ok1, ol1, or2, ok2, ol2, or3, ok3, ol3, or4, ok4, ol4]
  rw [diff_eq (n := 0 + spanM K K.1) (P := P) (W := W) hP h7' ok2 ol2 (by omega) (fun t ht => (gw t ht).1)]
  exact WP.ret ⟨rfl, F'⟩
/-- the reference's sum -/
theorem sumOf_wp {M : MS} {s : Nat} {H : HX} {K : KX} {vs rs : Nat} {v r : Nat → Nat} {W : HW} {xa la xb lb : Int32} (hm : HandsM H M) (hP : HPok H.1) (hW : HWok H.1 W) (hs : s < 6) (SV : RSongV M s vs rs v r) (hbt : W.2.2.1 = sBt vs rs v r) (km : MarkM K M) (kok : MarkOk K) (hcr : W.1 = H.2.2.2.1) (hlt : ∀ h, h < H.1.1 → (if nI h = xa then la else if nI h = xb then lb else 0) = nI (W.2.1 h)) : WP (g_X12_sumOf (nI s) (nI W.2.2.2.1) (nI W.2.2.2.2) xa la xb lb M) (fun q => q.1 = nI (mS H.1 W K) ∧ FM [20, 21] [13, 19, 38] M q.2 ∧ ∀ j, j < 10 → q.2.2.2.1 13 j = M.2.2.1 13 j) := by
  have hn1 := hP.1
  have h60 := kok.1
  unfold g_X12_sumOf
  simp only [WP_bind, WP_some]
  refine WP.mono (WP.it (Post := fun N => FM [] [13, 19] M N ∧ Dft N 1 H.1 H.1.2.1 ∧ (∀ h, h < H.1.1 → N.2.2.1 19 h = nI (W.2.1 h)) ∧ ∀ j, j < 10 → N.2.2.1 13 j = M.2.2.1 13 j) (fun i x => x.1 = nI i ∧ FM [] [13, 19] M x.2 ∧ (∀ h, h < i → x.2.2.2.1 13 (10 * 1 + h) = nI (H.1.2.1 h)) ∧ (∀ h, h < i → x.2.2.2.1 19 h = nI (W.2.1 h)) ∧ ∀ j, j < 10 → x.2.2.2.1 13 j = M.2.2.1 13 j) H.1.1 ?_ 100000 0 _ ⟨rfl, FM.rf _ _ _, fun h hh => absurd hh (Nat.not_lt_zero _), fun h hh => absurd hh (Nat.not_lt_zero _), fun _ _ => rfl⟩ (Nat.zero_le _) (by omega)) ?_
  · rintro i ⟨y, N⟩ hi ⟨e1, F, e2, e3, e4⟩
    dsimp only at e1 F e2 e3 e4
    subst e1
    have V' := hm.1.fr F (by decide)
    unfold g_X12_sumOf_L3
    dsimp only
    rw [V'.1]
    by_cases hlti : i < H.1.1
    · rw [if_neg (nI_ge hlti (by omega)), mld_n (k := 8) (show i < 10 by omega) (by decide), (V'.2 i hlti).1]
      simp only [WP_bind, WP_some, Option.bind_some]
      refine mst_wp (j := 10 * 1 + i) (by rw [show (10 : Int32) = nI 10 from rfl, nI_add]) (show 10 * 1 + i < 60 by omega) (by decide) (fun N1 G1 i1 r1 => ?_)
      have fin : ∀ z : Int32, z = nI (W.2.1 i) → WP ((mst N1 19 (nI i) z).bind fun M9 => some (Sum.inl (nI i + 1, M9) : (Int32 × MS) ⊕ MS)) (Sum.elim (fun x => i < H.1.1 ∧ x.1 = nI (i + 1) ∧ FM [] [13, 19] M x.2 ∧ (∀ h, h < i + 1 → x.2.2.2.1 13 (10 * 1 + h) = nI (H.1.2.1 h)) ∧ (∀ h, h < i + 1 → x.2.2.2.1 19 h = nI (W.2.1 h)) ∧ ∀ j, j < 10 → x.2.2.2.1 13 j = M.2.2.1 13 j) (fun N => FM [] [13, 19] M N ∧ Dft N 1 H.1 H.1.2.1 ∧ (∀ h, h < H.1.1 → N.2.2.1 19 h = nI (W.2.1 h)) ∧ ∀ j, j < 10 → N.2.2.1 13 j = M.2.2.1 13 j)) := by
        rintro z rfl
        simp only [WP_bind, WP_some]
        refine mst_wp rfl (show i < 10 by omega) (by decide) (fun N2 G2 i2 r2 => ?_)
        refine ⟨hlti, nI_1 i, F.tr ((G1.mono (fun k h => h) (by decide)).tr (G2.mono (fun k h => h) (by decide))), fun h hh => ?_, fun h hh => ?_, fun j hj => ?_⟩
        · rw [G2.2 13 (by decide), r1]
          by_cases hhi : h = i
          · subst hhi; rw [if_pos rfl]
          · rw [if_neg (by omega)]; exact e2 h (by omega)
        · rw [r2]
          by_cases hhi : h = i
          · subst hhi; rw [if_pos rfl]
          · rw [if_neg hhi, G1.2 19 (by decide)]; exact e3 h (by omega)
        · rw [G2.2 13 (by decide), r1, if_neg (by omega)]; exact e4 j hj
      have h9 := hlt i hlti
      by_cases ha : nI i = xa
      · rw [if_pos ha] at h9 ⊢
        exact fin _ h9
      · rw [if_neg ha] at h9 ⊢
        by_cases hb : nI i = xb
        · rw [if_pos hb] at h9 ⊢
          exact fin _ h9
        · rw [if_neg hb] at h9 ⊢
          exact fin _ h9
    · have hii : i = H.1.1 := by omega
      subst hii
      rw [if_pos (nI_le (by omega) (by omega))]
      simp only [WP_bind, WP_some, Option.bind_some, Sum.elim_inl, Sum.elim_inr, ↓reduceIte]
      exact ⟨F, e2, e3, e4⟩
  · rintro N0 ⟨F0, d0, b0, o0⟩
    refine WP.mono (WP.it (Post := fun N => FM [20, 21] [13, 19, 38] M N ∧ (∀ t, t < 300 → N.2.2.1 38 t = nI (hSt H.1 W H.1.2.1 (t + 1)).2) ∧ ∀ j, j < 10 → N.2.2.1 13 j = M.2.2.1 13 j) (fun t x => x.1 = nI t ∧ FM [20, 21] [13, 19, 38] M x.2 ∧ x.2.1 20 = nI (hSt H.1 W H.1.2.1 t).2 ∧ Dft x.2 1 H.1 (hSt H.1 W H.1.2.1 t).1 ∧ (∀ h, h < H.1.1 → x.2.2.2.1 19 h = nI (W.2.1 h)) ∧ (∀ t', t' < t → x.2.2.2.1 38 t' = nI (hSt H.1 W H.1.2.1 (t' + 1)).2) ∧ ∀ j, j < 10 → x.2.2.2.1 13 j = M.2.2.1 13 j) 300 ?_ 100000 0 _ ⟨rfl, (F0.mono (fun k h => absurd h List.not_mem_nil) (by decide)).tr (FM.I _ (by decide)), msI_e _ _ _, d0, b0, fun t' ht' => absurd ht' (Nat.not_lt_zero _), o0⟩ (Nat.zero_le _) (by omega)) ?_
    · rintro t ⟨y, N⟩ ht ⟨e1, F, w20, d1, b1, dw, o1⟩
      dsimp only at e1 F w20 d1 b1 dw o1
      subst e1
      unfold g_X12_sumOf_L75
      dsimp only
      by_cases hlt3 : t < 300
      · have hwon := hSt_won hP (W := W) (now := H.1.2.1) (fun _ _ => Nat.le_refl _) t
        have e14 : N.1 14 = nI W.1 := by rw [F.i (by decide), hcr]; exact hm.2.1
        rw [if_neg (show ¬ (300 : Int32) ≤ nI t from nI_ge (b := 300) hlt3 (by omega)), e14]
        simp only [WP_bind, WP_some]
        refine WP.mono (step_wp (d := 1) (hm.1.fr F (by decide)) (SV.fr F (by decide)) hbt hP hW hs (by omega) hlt3 d1 (hSt_ok (fun _ _ => Nat.le_refl _) t) b1 w20 (by omega)) ?_
        rintro N2 ⟨F2, u20, u21, u13, u13o⟩
        refine mst_wp rfl (show t < 300 from hlt3) (by decide) (fun N3 G3 i3 r3 => ?_)
        refine ⟨hlt3, nI_1 t, F.tr ((F2.mono (by decide) (by decide)).tr (G3.mono (fun k h => absurd h List.not_mem_nil) (by decide))), by rw [i3]; exact u20, fun h hh => by rw [G3.2 13 (by decide)]; exact u13 h hh, fun h hh => by rw [G3.2 19 (by decide), F2.2 19 (by decide)]; exact b1 h hh, fun t' ht' => ?_, fun j hj => by rw [G3.2 13 (by decide), u13o j (by omega)]; exact o1 j hj⟩
        rw [r3]
        by_cases htt : t' = t
        · subst htt; rw [if_pos rfl]; exact u20
        · rw [if_neg htt, F2.2 38 (by decide)]; exact dw t' (by omega)
      · have hii : t = 300 := by omega
        subst hii
        rw [if_pos (show (300 : Int32) ≤ nI 300 by decide)]
        simp only [WP_bind, WP_some, Option.bind_some, Sum.elim_inl, Sum.elim_inr, ↓reduceIte]
        exact ⟨F, dw, o1⟩
    · rintro N ⟨F, dw, o1⟩
      have km' := km.fr F (by decide) (by decide)
      refine WP.mono (WP.it (Post := fun q => q = (nI (mS H.1 W K), N)) (fun m x => x = (nI (hsum (fun m => dst (hSt H.1 W H.1.2.1 (K.2.1 m + 1)).2 (K.2.2 m)) m), nI m, N)) K.1 ?_ 100000 0 _ rfl (Nat.zero_le _) (by omega)) ?_
      · rintro m x hm' rfl
        unfold g_X12_sumOf_L120
        dsimp only
        rw [km'.1]
        by_cases hltm : m < K.1
        · obtain ⟨hb, hr⟩ := kok.2 m hltm
          have hwon := hSt_won hP (W := W) (now := H.1.2.1) (fun _ _ => Nat.le_refl _) (K.2.1 m + 1)
          have m36 : mld N 36 (nI m) = some (nI (K.2.1 m)) := by rw [mld_n (k := 36) (show m < 60 by omega) (by decide), (km'.2 m hltm).1]
          have m37 : mld N 37 (nI m) = some (nI (K.2.2 m)) := by rw [mld_n (k := 37) (show m < 60 by omega) (by decide), (km'.2 m hltm).2]
          have m38 : mld N 38 (nI (K.2.1 m)) = some (nI (hSt H.1 W H.1.2.1 (K.2.1 m + 1)).2) := by rw [mld_n (k := 38) (show K.2.1 m < 300 from hb) (by decide), dw _ hb]
          have hab := (absI (a := (hSt H.1 W H.1.2.1 (K.2.1 m + 1)).2) (r := K.2.2 m) (by omega) (by omega)).2
          rw [if_neg (nI_ge hltm (by omega))]
          simp only [m36, m37, m38, Option.bind_some]
          by_cases hc : (0 : Int32) ≤ nI (hSt H.1 W H.1.2.1 (K.2.1 m + 1)).2 - nI (K.2.2 m)
          · rw [if_pos hc] at hab ⊢
            simp only [WP_bind, WP_some, Option.bind_some, Sum.elim_inl, Sum.elim_inr, ↓reduceIte]
            refine ⟨hltm, ?_⟩
            rw [hab, nI_add, nI_1]
            rfl
          · rw [if_neg hc] at hab ⊢
            simp only [WP_bind, WP_some, Option.bind_some, Sum.elim_inl, Sum.elim_inr, ↓reduceIte]
            refine ⟨hltm, ?_⟩
            rw [hab, nI_add, nI_1]
            rfl
        · have hmm : m = K.1 := by omega
          subst hmm
          rw [if_pos (nI_le (by omega) (by omega))]
          simp only [WP_bind, WP_some, Option.bind_some, Sum.elim_inl, Sum.elim_inr, ↓reduceIte]
          rfl
      · rintro q rfl
        exact ⟨rfl, F, o1⟩
