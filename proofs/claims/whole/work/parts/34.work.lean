theorem hRun_le {P : HP} {W : HW} {fl goal : Nat} {now : Nat → Nat} : ∀ (f t : Nat), t ≤ (hRun P W fl goal now f t).2 ∧ (hRun P W fl goal now f t).2 ≤ t + f ∧ (0 < f → t < (hRun P W fl goal now f t).2)
  | 0, t => ⟨Nat.le_refl _, Nat.le_refl _, fun h => absurd h (Nat.not_lt_zero _)⟩
  | f + 1, t => by
    unfold hRun
    split
    · exact ⟨by show t ≤ t + 1; omega, by show t + 1 ≤ _; omega, fun _ => by show t < t + 1; omega⟩
    · split
      · exact ⟨by show t ≤ t + 1; omega, by show t + 1 ≤ _; omega, fun _ => by show t < t + 1; omega⟩
      · obtain ⟨h1, h2, h3⟩ := hRun_le (P := P) (W := W) (fl := fl) (goal := goal) (now := now) f (t + 1)
        exact ⟨by omega, by omega, fun _ => by omega⟩
def hLowN (W : HW) (fl : Nat) (now : Nat → Nat) (n : Nat) : Bool := (List.range n).any (fun h => W.1.testBit h && decide (now h < fl))
theorem hLowN_s (W : HW) (fl : Nat) (now : Nat → Nat) (n : Nat) : hLowN W fl now (n + 1) = (hLowN W fl now n || (W.1.testBit n && decide (now n < fl))) := by
  unfold hLowN
  rw [List.range_succ, List.any_append]
  simp
theorem isAbove_eq {M : MS} {d fl : Nat} {P : HP} {W : HW} {now : Nat → Nat} (hP : HPok P) (hW : HWok P W) (h7 : M.1 7 = nI P.1) (hfl : M.1 15 = nI fl) (hfl2 : fl ≤ 100) (hd : d < 6) (hn : Dft M d P now) (hok : nowOk P now) : g_X12_isAbove (nI d) (nI W.1) M = some (if hLow P W fl now = true then 0 else 1, M) := by
  have hn1 := hP.1
  have hw := hP.pow hW.1
  have key : WP (iter (g_X12_isAbove_L5 (nI d) (nI W.1)) 100000 (1, 0, M)) (fun e => e = ((if hLowN W fl now P.1 = true then 0 else 1), M)) := by
    refine WP.it (fun i x => x = ((if hLowN W fl now i = true then 0 else 1), nI i, M)) P.1 ?_ 100000 0 _ ?_ (Nat.zero_le _) (by omega)
    · rintro i x hi rfl
      unfold g_X12_isAbove_L5
      dsimp only
      rw [h7]
      by_cases hlt : i < P.1
      · rw [if_neg (nI_ge hlt (by omega))]
        have hst := hP.2 i hlt
        have hno := hok i hlt
        by_cases hl : hLowN W fl now i = true
        · simp only [hl, ↓reduceIte, WP_bind, WP_some, Option.bind_some, Sum.elim_inl, Sum.elim_inr, ↓reduceIte]
          refine ⟨hlt, ?_⟩
          rw [nI_1, hLowN_s, hl]
          rfl
        · simp only [hl, ↓reduceIte, Bool.false_eq_true, i10]
          by_cases hb2 : W.1.testBit i = true
          · rw [if_neg (fun z => by rw [(nI_bit0 (by omega) (by omega)).mp z] at hb2; exact absurd hb2 (by decide)), ix10, mld_n (k := 13) (show 10 * d + i < 60 by omega) (by decide)]
            simp only [WP_bind, WP_some, Option.bind_some, Sum.elim_inl, Sum.elim_inr, ↓reduceIte, hn i hlt, hfl]
            by_cases hz : now i < fl
            · rw [if_pos (nI_lt hz (by omega))]
              simp only [WP_bind, WP_some, Option.bind_some, Sum.elim_inl, Sum.elim_inr, ↓reduceIte]
              refine ⟨hlt, ?_⟩
              rw [nI_1, hLowN_s]
              simp [hb2, hz]
            · rw [if_neg (nI_nlt (by omega) (by omega))]
              simp only [WP_bind, WP_some, Option.bind_some, Sum.elim_inl, Sum.elim_inr, ↓reduceIte, g_X12_isAbove_L5_J46]
              refine ⟨hlt, ?_⟩
              rw [nI_1, hLowN_s]
              simp [hl, hz]
          · have hb2' : W.1.testBit i = false := by simpa using hb2
            rw [if_pos ((nI_bit0 (by omega) (by omega)).mpr hb2')]
            simp only [WP_bind, WP_some, Option.bind_some, Sum.elim_inl, Sum.elim_inr, ↓reduceIte, g_X12_isAbove_L5_J46]
            refine ⟨hlt, ?_⟩
            rw [nI_1, hLowN_s]
            simp [hl, hb2']
      · have hii : i = P.1 := by omega
        subst hii
        rw [if_pos (nI_le (by omega) (by omega))]
        simp only [WP_bind, WP_some, Option.bind_some, Sum.elim_inl, Sum.elim_inr, ↓reduceIte]
    · rfl
  obtain ⟨e, h1, rfl⟩ := key
  unfold g_X12_isAbove
  rw [h1]
  have hh : hLowN W fl now P.1 = hLow P W fl now := rfl
  rw [hh]
  cases hLow P W fl now with
  | true => rfl
  | false => rfl
theorem ix0 (i : Nat) : (0 : Int32) - nI i - 1 = 0 - nI (i + 1) := by rw [nI_succ, Int32.sub_sub]
theorem work_wp {M : MS} {d s vs rs fl goal : Nat} {v r : Nat → Nat} {P : HP} {W : HW} {now0 : Nat → Nat} {nt : Int32} (V : RHandV M P) (SV : RSongV M s vs rs v r) (hbt : W.2.2.1 = sBt vs rs v r) (hP : HPok P) (hW : HWok P W) (hs : s < 6) (hd : d < 6) (hn : Dft M d P now0) (hok : nowOk P now0) (hb : ∀ h, h < P.1 → M.2.2.1 12 h = nI (W.2.1 h)) (hfl : M.1 15 = nI fl) (hfl2 : fl ≤ 100) (hg : goal < 2 ^ 31) :
    WP (g_X12_work (nI d) (nI s) (nI W.1) (nI goal) (nI W.2.2.2.1) (nI W.2.2.2.2) nt M) (fun q => q.1 = (if (hRun P W fl goal now0 300 0).1 = 2 then nI (hRun P W fl goal now0 300 0).2 else 0 - nI (hRun P W fl goal now0 300 0).2) ∧ FM [16, 20, 21] [13, 17, 18, 19] M q.2 ∧ Dft q.2 d P (hSt P W now0 (hRun P W fl goal now0 300 0).2).1 ∧ (∀ j, j < 10 * d ∨ 10 * d + P.1 ≤ j → q.2.2.2.1 13 j = M.2.2.1 13 j) ∧ (nt = 0 → q.2.1 16 = M.1 16 ∧ q.2.2.2.1 17 = M.2.2.1 17 ∧ q.2.2.2.1 18 = M.2.2.1 18) ∧ (¬ nt = 0 → q.2.1 16 = nI (hRun P W fl goal now0 300 0).2 ∧ ∀ t, t < (hRun P W fl goal now0 300 0).2 → q.2.2.2.1 17 t = nI (hSt P W now0 (t + 1)).2 ∧ q.2.2.2.1 18 t = nI (hForce P W (hSt P W now0 t).1 t))) := by
  have hn1 := hP.1
  have hw := hP.pow hW.1
  unfold g_X12_work
  simp only [WP_bind, WP_some]
  refine WP.mono (WP.it (Post := fun N => FM [20] [19] M N ∧ N.1 20 = nI 0 ∧ ∀ h, h < P.1 → N.2.2.1 19 h = nI (W.2.1 h)) (fun i x => x.1 = nI i ∧ FM [20] [19] M x.2 ∧ x.2.1 20 = nI 0 ∧ ∀ h, h < i → x.2.2.2.1 19 h = nI (W.2.1 h)) P.1 ?_ 100000 0 _ ?_ (Nat.zero_le _) (by omega)) ?_
  · rintro i ⟨y, N⟩ hi ⟨e1, F, e2, e3⟩
    dsimp only at e1 F e2 e3
    subst e1
    unfold g_X12_work_L8
    dsimp only
    rw [F.1 7 (by decide), V.1]
    by_cases hlt : i < P.1
    · rw [if_neg (nI_ge hlt (by omega)), mld_n (k := 12) (show i < 10 by omega) (by decide)]
      simp only [WP_bind, WP_some, Option.bind_some, Sum.elim_inl, Sum.elim_inr, ↓reduceIte]
      rw [mst_n (k := 19) (show i < 10 by omega) (by decide)]
      simp only [WP_bind, WP_some, Option.bind_some, Sum.elim_inl, Sum.elim_inr, ↓reduceIte]
      refine ⟨hlt, nI_1 i, F.tr (FM.A _ (by decide)), e2, fun h hh => ?_⟩
      rw [msA_u]
      by_cases hhi : h = i
      · subst hhi
        rw [if_pos rfl, F.2 12 (by decide), hb h hlt]
      · rw [if_neg hhi]
        exact e3 h (by omega)
    · have hii : i = P.1 := by omega
      subst hii
      rw [if_pos (nI_le (by omega) (by omega))]
      simp only [WP_bind, WP_some, Option.bind_some, Sum.elim_inl, Sum.elim_inr, ↓reduceIte]
      exact ⟨F, e2, e3⟩
  · exact ⟨rfl, FM.I _ (by decide), msI_e _ _ _, fun h hh => absurd hh (Nat.not_lt_zero _)⟩
  · rintro N0 ⟨F0, e20, e19⟩
    let Z := hRun P W fl goal now0 300 0
    let ok : MS → Nat → Prop := fun N t => FM [16, 20, 21] [13, 17, 18, 19] M N ∧ Dft N d P (hSt P W now0 t).1 ∧ (∀ j, j < 10 * d ∨ 10 * d + P.1 ≤ j → N.2.2.1 13 j = M.2.2.1 13 j) ∧ (nt = 0 → N.1 16 = M.1 16 ∧ N.2.2.1 17 = M.2.2.1 17 ∧ N.2.2.1 18 = M.2.2.1 18) ∧ (¬ nt = 0 → (0 < t → N.1 16 = nI t) ∧ ∀ t', t' < t → N.2.2.1 17 t' = nI (hSt P W now0 (t' + 1)).2 ∧ N.2.2.1 18 t' = nI (hForce P W (hSt P W now0 t').1 t'))
    refine WP.mono (WP.it (Post := fun x => Sum.elim (fun N => Z.1 = 0 ∧ Z.2 = 300 ∧ ok N Z.2) (fun y => Sum.elim (fun q => Z.1 = 2 ∧ q.1 + 1 = nI Z.2 ∧ ok q.2 Z.2) (fun q => Z.1 = 1 ∧ 0 - q.1 - 1 = 0 - nI Z.2 ∧ ok q.2 Z.2) y) x) (fun t x => x.1 = nI t ∧ ok x.2 t ∧ x.2.1 20 = nI (hSt P W now0 t).2 ∧ (∀ h, h < P.1 → x.2.2.2.1 19 h = nI (W.2.1 h)) ∧ hRun P W fl goal now0 300 0 = hRun P W fl goal now0 (300 - t) t) 300 ?_ 100000 0 _ ?_ (Nat.zero_le _) (by omega)) ?_
    · rintro t ⟨y, N⟩ ht ⟨e1, K, w20, b19, hr⟩
      dsimp only at e1 K w20 b19
      subst e1
      unfold g_X12_work_L40
      dsimp only
      by_cases hlt : t < 300
      · rw [if_neg (show ¬ (300 : Int32) ≤ nI t from nI_ge (b := 300) hlt (by omega))]
        obtain ⟨F, g13, g13o, gn0, gn1⟩ := K
        have hwon := hSt_won hP (W := W) hok t
        have hwon1 := hSt_won hP (W := W) hok (t + 1)
        simp only [WP_bind]
        refine WP.mono (step_wp (V.fr F (by decide)) (SV.fr F (by decide)) hbt hP hW hs hd hlt g13 (hSt_ok hok t) b19 w20 (by omega)) ?_
        rintro N2 ⟨F2, u20, u21, u13, u13o⟩
        have hrs : hRun P W fl goal now0 (300 - t) t = if hLow P W fl (hSt P W now0 (t + 1)).1 = true then (1, t + 1) else if goal ≤ (hSt P W now0 (t + 1)).2 then (2, t + 1) else hRun P W fl goal now0 (300 - (t + 1)) (t + 1) := by
          rw [show 300 - t = (300 - (t + 1)) + 1 by omega]
          rfl
        rw [hrs] at hr
        -- what comes behind the notes
        have fin : ∀ N3 : MS, ok N3 (t + 1) → N3.1 20 = nI (hSt P W now0 (t + 1)).2 → (∀ h, h < P.1 → N3.2.2.1 19 h = nI (W.2.1 h)) → WP (g_X12_work_L40_J96 (nI d) (nI s) (nI W.1) (nI goal) (nI W.2.2.2.1) (nI W.2.2.2.2) nt (nI t) N3) (Sum.elim (fun x => t < 300 ∧ x.1 = nI (t + 1) ∧ ok x.2 (t + 1) ∧ x.2.1 20 = nI (hSt P W now0 (t + 1)).2 ∧ (∀ h, h < P.1 → x.2.2.2.1 19 h = nI (W.2.1 h)) ∧ hRun P W fl goal now0 300 0 = hRun P W fl goal now0 (300 - (t + 1)) (t + 1)) (fun x => Sum.elim (fun N => Z.1 = 0 ∧ Z.2 = 300 ∧ ok N Z.2) (fun y => Sum.elim (fun q => Z.1 = 2 ∧ q.1 + 1 = nI Z.2 ∧ ok q.2 Z.2) (fun q => Z.1 = 1 ∧ 0 - q.1 - 1 = 0 - nI Z.2 ∧ ok q.2 Z.2) y) x)) := by
          intro N3 K3 x20 x19
          have F3 := K3.1
          have hz : Z = hRun P W fl goal now0 300 0 := rfl
          unfold g_X12_work_L40_J96
          simp only [WP_bind, WP_some, isAbove_eq hP hW (by rw [F3.1 7 (by decide)]; exact V.1) (by rw [F3.1 15 (by decide)]; exact hfl) hfl2 hd K3.2.1 (hSt_ok hok (t + 1))]
          by_cases hlo : hLow P W fl (hSt P W now0 (t + 1)).1 = true
          · rw [if_pos hlo] at hr
            simp only [hlo, ↓reduceIte, WP_bind, WP_some, Option.bind_some, Sum.elim_inl, Sum.elim_inr, ↓reduceIte]
            rw [hz, hr]
            exact ⟨rfl, ix0 t, K3⟩
          · rw [if_neg hlo] at hr
            simp only [hlo, ↓reduceIte, Bool.false_eq_true, i10, x20]
            by_cases hgo : goal ≤ (hSt P W now0 (t + 1)).2
            · rw [if_pos hgo] at hr
              rw [if_neg (nI_nlt hgo (by omega))]
              simp only [WP_bind, WP_some, Option.bind_some, Sum.elim_inl, Sum.elim_inr, ↓reduceIte]
              rw [hz, hr]
              exact ⟨rfl, nI_1 t, K3⟩
            · rw [if_neg hgo] at hr
              rw [if_pos (nI_lt (by omega) (by omega))]
              simp only [WP_bind, WP_some, Option.bind_some, Sum.elim_inl, Sum.elim_inr, ↓reduceIte]
              exact ⟨hlt, nI_1 t, K3, x20, x19, hr⟩
        have F2' : FM [16, 20, 21] [13, 17, 18, 19] N N2 := F2.mono (by decide) (by decide)
        have b19' : ∀ h, h < P.1 → N2.2.2.1 19 h = nI (W.2.1 h) := by rw [F2.2 19 (by decide)]; exact b19
        have o13 : ∀ j, j < 10 * d ∨ 10 * d + P.1 ≤ j → N2.2.2.1 13 j = M.2.2.1 13 j := fun j hj => by rw [u13o j hj, g13o j hj]
        by_cases hnt : nt = 0
        · rw [if_pos hnt]
          refine fin N2 ⟨F.tr F2', u13, o13, fun _ => ?_, fun h => absurd hnt h⟩ u20 b19'
          rw [F2.1 16 (by decide), F2.2 17 (by decide), F2.2 18 (by decide)]
          exact gn0 hnt
        · rw [if_neg hnt, mst_n (k := 17) (show t < 300 from hlt) (by decide)]
          simp only [WP_bind, WP_some, Option.bind_some]
          rw [mst_n (k := 18) (show t < 300 from hlt) (by decide)]
          simp only [WP_bind, WP_some, Option.bind_some]
          refine fin _ ⟨((F.tr F2').tr (FM.A _ (by decide))).tr ((FM.A _ (by decide)).tr (FM.I _ (by decide))), ?_, ?_, fun h => absurd h hnt, fun _ => ⟨fun _ => (msI_e _ _ _).trans (nI_1 t), fun t' ht' => ?_⟩⟩ ?_ ?_
          · exact u13
          · exact o13
          · have h17 : ((N2.2.2.1 17) : Nat → Int32) = N.2.2.1 17 := F2.2 17 (by decide)
            have h18 : ((N2.2.2.1 18) : Nat → Int32) = N.2.2.1 18 := F2.2 18 (by decide)
            have k17 : (msI (msA (msA N2 17 (upd (N2.2.2.1 17) t (N2.1 20))) 18 (upd ((msA N2 17 (upd (N2.2.2.1 17) t (N2.1 20))).2.2.1 18) t ((msA N2 17 (upd (N2.2.2.1 17) t (N2.1 20))).1 21))) 16 (nI t + 1)).2.2.1 17 t' = if t' = t then N2.1 20 else N2.2.2.1 17 t' := rfl
            have k18 : (msI (msA (msA N2 17 (upd (N2.2.2.1 17) t (N2.1 20))) 18 (upd ((msA N2 17 (upd (N2.2.2.1 17) t (N2.1 20))).2.2.1 18) t ((msA N2 17 (upd (N2.2.2.1 17) t (N2.1 20))).1 21))) 16 (nI t + 1)).2.2.1 18 t' = if t' = t then N2.1 21 else N2.2.2.1 18 t' := rfl
            rw [k17, k18]
            by_cases htt : t' = t
            · subst htt
              rw [if_pos rfl, if_pos rfl, u20, u21]
              exact ⟨rfl, rfl⟩
            · rw [if_neg htt, if_neg htt, h17, h18]
              exact (gn1 hnt).2 t' (by omega)
          · exact u20
          · exact b19'
      · have hii : t = 300 := by omega
        subst hii
        rw [if_pos (show (300 : Int32) ≤ nI 300 by decide)]
        simp only [WP_bind, WP_some, Option.bind_some, Sum.elim_inl, Sum.elim_inr, ↓reduceIte]
        have hrs : hRun P W fl goal now0 (300 - 300) 300 = (0, 300) := rfl
        rw [hrs] at hr
        have hz : Z = (0, 300) := hr
        rw [hz]
        exact ⟨rfl, rfl, K⟩
    · refine ⟨rfl, ⟨F0.mono (by decide) (by decide), ?_, ?_, fun _ => ⟨F0.1 16 (by decide), F0.2 17 (by decide), F0.2 18 (by decide)⟩, fun _ => ⟨fun h => absurd h (Nat.lt_irrefl _), fun t' ht' => absurd ht' (Nat.not_lt_zero _)⟩⟩, e20, e19, rfl⟩
      · intro h hh
        rw [F0.2 13 (by decide)]
        exact hn h hh
      · intro j _
        rw [F0.2 13 (by decide)]
    · have hpos : 0 < Z.2 := (hRun_le (P := P) (W := W) (fl := fl) (goal := goal) (now := now0) 300 0).2.2 (by decide)
      have out : ∀ (x : Int32) (N : MS), ok N Z.2 → x = (if Z.1 = 2 then nI Z.2 else 0 - nI Z.2) → WP (some (x, N)) (fun q => q.1 = (if (hRun P W fl goal now0 300 0).1 = 2 then nI (hRun P W fl goal now0 300 0).2 else 0 - nI (hRun P W fl goal now0 300 0).2) ∧ FM [16, 20, 21] [13, 17, 18, 19] M q.2 ∧ Dft q.2 d P (hSt P W now0 (hRun P W fl goal now0 300 0).2).1 ∧ (∀ j, j < 10 * d ∨ 10 * d + P.1 ≤ j → q.2.2.2.1 13 j = M.2.2.1 13 j) ∧ (nt = 0 → q.2.1 16 = M.1 16 ∧ q.2.2.2.1 17 = M.2.2.1 17 ∧ q.2.2.2.1 18 = M.2.2.1 18) ∧ (¬ nt = 0 → q.2.1 16 = nI (hRun P W fl goal now0 300 0).2 ∧ ∀ t, t < (hRun P W fl goal now0 300 0).2 → q.2.2.2.1 17 t = nI (hSt P W now0 (t + 1)).2 ∧ q.2.2.2.1 18 t = nI (hForce P W (hSt P W now0 t).1 t))) := by
        intro x N K hx
        exact WP.ret ⟨hx, K.1, K.2.1, K.2.2.1, K.2.2.2.1, fun h => ⟨(K.2.2.2.2 h).1 hpos, (K.2.2.2.2 h).2⟩⟩
      intro x hx
      cases x with
      | inl N =>
        obtain ⟨h1, h2, h3⟩ := hx
        refine out _ _ h3 ?_
        rw [h1, h2]
        decide
      | inr y =>
        cases y with
        | inl q =>
          obtain ⟨h1, h2, h3⟩ := hx
          refine out _ _ h3 ?_
          rw [if_pos h1]
          exact h2
        | inr q =>
          obtain ⟨h1, h2, h3⟩ := hx
          refine out _ _ h3 ?_
          rw [if_neg (by rw [h1]; decide)]
          exact h2
