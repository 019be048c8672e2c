/-! PLAN: the class's search -/
theorem plS_skip {deep : (Nat → Nat) → Nat → (Nat → Nat) → Nat × (Nat → Nat) → Nat × (Nat → Nat)} (hd : ∀ now sp way acc, acc.1 ≤ sp → deep now sp way acc = acc) (H : HX) (S : SX) (T : TX) (bw d : Nat) (now : Nat → Nat) (spent : Nat) (way : Nat → Nat) : ∀ k s (acc : Nat × (Nat → Nat)), acc.1 ≤ spent → plS deep H S T bw d now spent way k s acc = acc
  | 0, _, _, _ => rfl
  | k + 1, s, acc, h => by
    have e : (if (rOf H S T now s d).1 = 2 then (if d + 1 = T.1 then (if spent + (rOf H S T now s d).2 < acc.1 then (spent + (rOf H S T now s d).2, updN way d s) else acc) else deep (rsB H.1 bw (nOf H S T now s d)) (spent + (rOf H S T now s d).2 + bw) (updN way d s) acc) else acc) = acc := by
      split
      · split
        · rw [if_neg (by omega)]
        · exact hd _ _ _ _ (by omega)
      · rfl
    unfold plS
    rw [e]
    exact plS_skip hd H S T bw d now spent way k (s + 1) acc h
theorem plD_skip (H : HX) (S : SX) (T : TX) (bw : Nat) : ∀ f d now spent way (acc : Nat × (Nat → Nat)), acc.1 ≤ spent → plD H S T bw f d now spent way acc = acc
  | 0, _, _, _, _, _, _ => rfl
  | f + 1, d, now, spent, way, acc, h => by
    unfold plD
    exact plS_skip (fun now sp way acc h => plD_skip H S T bw f (d + 1) now sp way acc h) H S T bw d now spent way S.1 0 acc h
/-- the search's state at depth d -/
def PV (b : Nat) (C D : CH) (H : HX) (T : TX) (acc : Nat × (Nat → Nat)) (way : Nat → Nat) (d : Nat) (now : Nat → Nat) : Prop := Fr (b + 18) (b + 31) C D ∧ acc.1 ≤ 1000000000 ∧ c_iv D (b + 18) 4 = nI acc.1 ∧ (acc.1 ≠ 1000000000 → ∀ i, i < T.1 → c_ar D (b + 31) i = nI (acc.2 i)) ∧ (∀ i, i < d → c_ar D (b + 30) i = nI (way i)) ∧ (∀ h, h < H.1.1 → c_ar D (b + 26 + d) h = nI (now h)) ∧ c_iv D (b + 19) 5 = nI H.2.2.2.1 ∧ c_iv D (b + 19) 6 = nI H.2.2.2.2 ∧ ∀ h, h < H.1.1 → c_ar D (b + 21) h = nI (H.2.1 h)
theorem TsS.f {C : CH} {b : Nat} (h : TsS (sh C) (b + 18)) : c_kd C (b + 18) = 11 ∧ c_rv C (b + 18) 0 = some (b + 19) ∧ HaulS (sh C) (b + 19) ∧ c_rv C (b + 18) 1 = some (b + 25) ∧ c_kd C (b + 25) = 24 ∧ c_ln C (b + 25) = 4 ∧ (∀ i, i < 4 → c_ro C (b + 25) i = some (b + 26 + i) ∧ c_kd C (b + 26 + i) = 20 ∧ c_ln C (b + 26 + i) = 10) ∧ c_rv C (b + 18) 2 = some (b + 30) ∧ c_kd C (b + 30) = 20 ∧ c_ln C (b + 30) = 4 ∧ c_rv C (b + 18) 3 = some (b + 31) ∧ c_kd C (b + 31) = 20 ∧ c_ln C (b + 31) = 4 := h
def tF : Nat → Nat → Nat → Nat → Nat → Int32 → Int32 → Int32 → CH → Option CH
  | 0 => t_X9_tryFrom_d0
  | k + 1 => t_X9_tryFrom (tF k)
theorem tF_4 : t_X9_tryFrom_d4 = tF 4 := rfl
section CLPLAN
variable {b : Nat} {C : CH} {H : HX} {S : SX} {T : TX} {bw : Nat}
set_option maxRecDepth 16384 in
theorem tryFrom_wp (IB : BaseC b C) (h1 : HandsC b H C) (hok : HandsOk H) (s1 : SongsC b S C) (sok : SongsOk S) (t1 : TasksC b T C) (tok : TasksOk T) (hbw : bw ≤ 50) : ∀ k (D : CH) d now spent way acc, d < T.1 → T.1 - d ≤ k → nowOk H.1 now → spent ≤ 400 * d → PV b C D H T acc way d now → WP (tF k (b + 18) (b + 3) (b + 4) (b + 17) (nI bw) (nI d) (nI spent) D) (fun D' => PV b C D' H T (plD H S T bw (T.1 - d) d now spent way acc) way d now ∧ ∀ d', d' ≤ d → c_ar D' (b + 26 + d') = c_ar D (b + 26 + d'))
  | 0, D, d, now, spent, way, acc, hd, hk, _, _, _ => by omega
  | k + 1, D, d, now, spent, way, acc, hd, hk, hnow, hsp, P0 => by
    have hb := IB.2.1
    have h4 := tok.1
    have h6 := sok.1
    have hn1 := hok.1.1
    have ih := tryFrom_wp IB h1 hok s1 sok t1 tok hbw k
    show WP (t_X9_tryFrom (tF k) (b + 18) (b + 3) (b + 4) (b + 17) (nI bw) (nI d) (nI spent) D) _
    unfold t_X9_tryFrom
    have StD : StS (sh D) b := by rw [P0.1.2.2.1]; exact IB.1
    obtain ⟨_, kl2, _⟩ := StD.li
    have tsz : c_iv D (b + 17) 2 = nI T.1 := by rw [(P0.1.2.2.2 (b + 17) (by omega)).2.1]; exact t1.1.2.1
    rw [if_neg (nI_pos (by omega))]
    simp only [tcl_0, tgI_0_0, tpI_0_0, tgR_0_1, tpR_0_1, tgI_0_2, tpI_0_2, kl2, sizeL_eq, tsz, Option.bind_some]
    rw [if_neg (nI_ge hd (by omega)), if_pos (show nI d < 4 from nI_lt (b := 4) (by omega) (by omega))]
    simp only [WP_bind, WP_some]
    obtain ⟨f, hf⟩ : ∃ f, T.1 - d = f + 1 := ⟨T.1 - d - 1, by omega⟩
    rw [hf]
    refine WP.it (fun s x => x.1 = nI s ∧ (∀ d', d' ≤ d → c_ar x.2 (b + 26 + d') = c_ar D (b + 26 + d')) ∧ ∃ acc', PV b C x.2 H T acc' way d now ∧ plS (plD H S T bw f (d + 1)) H S T bw d now spent way (S.1 - s) s acc' = plD H S T bw (f + 1) d now spent way acc) S.1 ?_ 100000 0 _ ⟨rfl, fun _ _ => rfl, acc, P0, by rw [Nat.sub_zero]; rfl⟩ (Nat.zero_le _) (by omega)
    rintro s ⟨y, E⟩ hs ⟨e1, rows, acc', PE, hacc⟩
    dsimp only at e1 rows PE
    subst e1
    obtain ⟨FE, ha0, ha1, ha2, htr, hrow, hcr, hfl, hlt⟩ := id PE
    have StE : StS (sh E) b := by rw [FE.2.2.1]; exact IB.1
    obtain ⟨kl1, kl2, _⟩ := StE.li
    obtain ⟨tk, tr0, A, tr1, k25, l25, rws, tr2, k30, l30, tr3, k31, l31⟩ := StE.2.2.2.2.1.f
    have s1E : SongsC b S E := s1.ag (by rw [FE.1]; exact Nat.le_refl _) FE.2.1 hb (fun a p q _ => FE.ag (by omega))
    have t1E : TasksC b T E := t1.ag (by rw [FE.1]; exact Nat.le_refl _) FE.2.1 hb (fun a p q _ => FE.ag (by omega))
    unfold t_X9_tryFrom_L24
    dsimp only
    simp only [tcl_0, tgI_0_0, tpI_0_0, tgR_0_1, tpR_0_1, tgI_0_2, tpI_0_2, kl1, sizeL_eq, s1E.1.2.1, Option.bind_some]
    by_cases hlts : s < S.1
    case neg =>
      have hss : s = S.1 := by omega
      subst hss
      rw [if_pos (nI_le (by omega) (by omega))]
      simp only [WP_bind, WP_some, Option.bind_some, Sum.elim_inl, Sum.elim_inr, ↓reduceIte]
      rw [Nat.sub_self] at hacc
      rw [← hacc]
      exact ⟨PE, rows⟩
    case pos =>
    rw [if_neg (nI_ge hlts (by omega))]
    obtain ⟨k, hk'⟩ : ∃ k, S.1 - s = k + 1 := ⟨S.1 - s - 1, by omega⟩
    obtain ⟨rw1, rw2, rw3⟩ := rws d (by omega)
    have d4 : d < 4 := by omega
    obtain ⟨ok, or0, ok0, ol0, or1, ok1, ol1, or2, ok2, ol2, or3, ok3, ol3, or4, ok4, ol4⟩ := A.f
    simp only [tcl_10, tgR_10_0, tpR_10_0, tgR_10_1, tpR_10_1, tgR_10_2, tpR_10_2, tgR_10_3, tpR_10_3, tgI_10_4, tpI_10_4, tgI_10_5, tpI_10_5, tgI_10_6, tpI_10_6, tgI_10_7, tpI_10_7, tgI_10_8, tpI_10_8, tcl_2, tgR_2_0, tpR_2_0, tgR_2_1, tpR_2_1, tgR_2_2, tpR_2_2, tgR_2_3, tpR_2_3, tgR_2_4, tpR_2_4, tgI_2_5, tpI_2_5, tgI_2_6, tpI_2_6, tgI_2_7, tpI_2_7, Nat.reduceLT, tld_n, tst_n, tldB_n, tstB_n, tldR3_n, tldR4_n, tldJ_n, tstJ_n, tlen_I, tlen_R, tk, tr1, k25, l25, d4, rw1, tr0, ok, or0, ok0, ol0, or1, ok1, ol1, or2, ok2, ol2, or3, ok3, ol3, or4, ok4, ol4, Option.bind_some, WP_bind, WP_some]
    refine WP.mono (copy_wp rw2 ok0 rw3 ol0 (by omega) (by omega) (by omega)) (fun E1 ⟨F1, i1, a1, a1'⟩ => ?_)
    have F1' : Fr (b + 20) (b + 20) E E1 := F1
    have FE1 : Fr (b + 18) (b + 31) C E1 := FE.tr (F1'.mono (by omega) (by omega))
    have St1 : StS (sh E1) b := by rw [FE1.2.2.1]; exact IB.1
    obtain ⟨kl1, kl2, _⟩ := St1.li
    obtain ⟨tk, tr0, A1, _⟩ := St1.2.2.2.2.1.f
    obtain ⟨ok, _⟩ := A1.f
    have s1F : SongsC b S E1 := s1.ag (by rw [FE1.1]; exact Nat.le_refl _) FE1.2.1 hb (fun a p q _ => FE1.ag (by omega))
    have t1F : TasksC b T E1 := t1.ag (by rw [FE1.1]; exact Nat.le_refl _) FE1.2.1 hb (fun a p q _ => FE1.ag (by omega))
    obtain ⟨q1, q2, q3, q4, _⟩ := s1F.2 s hlts
    obtain ⟨u1, u2, u3⟩ := t1F.2 d hd
    obtain ⟨o1, o2, o3, o4⟩ := tok.2 d hd
    obtain ⟨gk, _⟩ := q1.f
    have i14 : c_iv E1 (b + 18) 4 = nI acc'.1 := by rw [i1]; exact ha1
    simp only [tcl_10, tgR_10_0, tpR_10_0, tgR_10_1, tpR_10_1, tgR_10_2, tpR_10_2, tgR_10_3, tpR_10_3, tgI_10_4, tpI_10_4, tgI_10_5, tpI_10_5, tgI_10_6, tpI_10_6, tgI_10_7, tpI_10_7, tgI_10_8, tpI_10_8, tcl_0, tgI_0_0, tpI_0_0, tgR_0_1, tpR_0_1, tgI_0_2, tpI_0_2, tcl_8, tgR_8_0, tpR_8_0, tgR_8_1, tpR_8_1, tcl_9, tgI_9_0, tpI_9_0, tgI_9_1, tpI_9_1, tgI_9_2, tpI_9_2, tcl_2, tgR_2_0, tpR_2_0, tgR_2_1, tpR_2_1, tgR_2_2, tpR_2_2, tgR_2_3, tpR_2_3, tgR_2_4, tpR_2_4, tgI_2_5, tpI_2_5, tgI_2_6, tpI_2_6, tgI_2_7, tpI_2_7, tk, tr0, kl1, kl2, get_eq s1F.1 hlts, get_eq t1F.1 hd, gk, u1.1, ok, i14, Option.bind_some, WP_bind, WP_some]
    have hvs := q2.2.2.2.2.1
    have hWk : HWok H.1 (wOf H S T s d) := ⟨hok.2.1, fun h _ => hok.2.2.2.1 h, fun t => sBt_le sok hlts hvs t, o3, o4⟩
    have hmost : ∀ t, t < 300 → (nI acc'.1 - 1 - nI spent ≤ nI t ↔ min 300 (acc'.1 - 1 - spent) ≤ t) := by
      intro t ht
      by_cases hc : spent + 1 ≤ acc'.1
      · rw [show (1 : Int32) = nI 1 from rfl, nI_subI (by omega), nI_subI (by omega), nI_leI (by omega) (by omega)]
        omega
      · have h9 : nI acc'.1 - 1 - nI spent ≤ nI t := by
          have e9 : nI acc'.1 - 1 - nI spent = nI acc'.1 - nI (spent + 1) := by rw [nI_succ, Int32.sub_sub, Int32.add_comm]
          rw [e9]
          have h8 := nI_sub_neg (a := acc'.1) (b := spent + 1) (by omega) (by omega)
          have h7 := nI_pos' (n := t) (by omega)
          rw [Int32.lt_iff_toInt_lt] at h8
          rw [Int32.le_iff_toInt_le] at h7 ⊢
          omega
        exact ⟨fun _ => by omega, fun _ => h9⟩
    refine WP.mono (go_wp (W := wOf H S T s d) (fl := H.2.2.2.2) (goal := T.2.2.1 d) (now0 := now) (mo := min 300 (acc'.1 - 1 - spent)) St1.2.2.1 A1 q1 (h1.1.fr FE1 (by omega)) q2 u1 rfl hok.1 hWk (by omega) (by omega) (by omega) (by rw [i1]; exact hcr) (by rw [i1]; exact hfl) hok.2.2.1 (by omega) (fun h hh => by
      have := a1 h (by omega) (by omega)
      rw [this]; exact hrow h hh) (fun h hh => by rw [(F1'.2.2.2 (b + 19 + 2) (by omega)).1]; exact hlt h hh) hnow (by omega) hmost) ?_
    rintro ⟨dn, G⟩ ⟨z1, GV⟩
    dsimp only at z1 GV ⊢
    have hrm := fun k => hRun_mono (P := H.1) (W := wOf H S T s d) (fl := H.2.2.2.2) (goal := T.2.2.1 d) (now := now) (min 300 (acc'.1 - 1 - spent)) 300 0 k (by omega)
    have hrl := hRun_le (P := H.1) (W := wOf H S T s d) (fl := H.2.2.2.2) (goal := T.2.2.1 d) (now := now) 300 0
    have hZ : rOf H S T now s d = hRun H.1 (wOf H S T s d) H.2.2.2.2 (T.2.2.1 d) now 300 0 := rfl
    rw [← hZ] at hrl
    rw [hk'] at hacc
    unfold plS at hacc
    have kk : k = S.1 - (s + 1) := by omega
    rw [kk] at hacc
    -- what stays behind the haul
    have FG : Fr (b + 19) (b + 24) E1 G := GV.1
    have FCG : Fr (b + 18) (b + 31) C G := FE1.tr (FG.mono (by omega) (by omega))
    have pvG : PV b C G H T acc' way d now := by
      obtain ⟨_, g5, g6, g2, _⟩ := GV
      have g2' : c_ar G (b + 21) = c_ar E1 (b + 21) := g2
      refine ⟨FCG, ha0, ?_, ?_, ?_, ?_, by rw [g5, i1]; exact hcr, by rw [g6, i1]; exact hfl, ?_⟩
      · rw [(FG.2.2.2 (b + 18) (by omega)).2.1]; exact i14
      · rw [(FG.2.2.2 (b + 31) (by omega)).1, (F1'.2.2.2 (b + 31) (by omega)).1]; exact ha2
      · rw [(FG.2.2.2 (b + 30) (by omega)).1, (F1'.2.2.2 (b + 30) (by omega)).1]; exact htr
      · rw [(FG.2.2.2 (b + 26 + d) (by omega)).1, (F1'.2.2.2 (b + 26 + d) (by omega)).1]; exact hrow
      · rw [g2', (F1'.2.2.2 (b + 21) (by omega)).1]; exact hlt
    have rowsG : ∀ d', d' ≤ d → c_ar G (b + 26 + d') = c_ar D (b + 26 + d') := fun d' hd' => by rw [(FG.2.2.2 (b + 26 + d') (by omega)).1, (F1'.2.2.2 (b + 26 + d') (by omega)).1]; exact rows d' hd'
    by_cases hdone : (rOf H S T now s d).1 = 2 ∧ spent + (rOf H S T now s d).2 < acc'.1
    case neg =>
      have hnd : ¬ (hRun H.1 (wOf H S T s d) H.2.2.2.2 (T.2.2.1 d) now (min 300 (acc'.1 - 1 - spent)) 0).1 = 2 := fun z => by
        have h9 : hRun H.1 (wOf H S T s d) H.2.2.2.2 (T.2.2.1 d) now (min 300 (acc'.1 - 1 - spent)) 0 = (2, (hRun H.1 (wOf H S T s d) H.2.2.2.2 (T.2.2.1 d) now (min 300 (acc'.1 - 1 - spent)) 0).2) := by rw [← z]
        have h10 := (hrm _).mp h9
        rw [← hZ] at h10
        apply hdone
        rw [h10.1]
        have h12 := (hRun_le (P := H.1) (W := wOf H S T s d) (fl := H.2.2.2.2) (goal := T.2.2.1 d) (now := now) 300 0).2.2 (by decide)
        rw [← hZ, h10.1] at h12
        dsimp only at h12 ⊢
        exact ⟨rfl, by have := h10.2; omega⟩
      rw [if_neg hnd] at z1
      subst z1
      rw [if_pos rfl]
      refine WP.ret ⟨hlts, nI_1 s, rowsG, acc', pvG, ?_⟩
      rw [← hacc]
      congr 1
      by_cases hr : (rOf H S T now s d).1 = 2
      · rw [if_pos hr]
        have hge : acc'.1 ≤ spent + (rOf H S T now s d).2 := by
          by_cases hh : spent + (rOf H S T now s d).2 < acc'.1
          · exact absurd ⟨hr, hh⟩ hdone
          · omega
        split
        · rw [if_neg (by omega)]
        · rw [plD_skip H S T bw f (d + 1) _ _ _ _ (by omega)]
      · rw [if_neg hr]
    case pos =>
    obtain ⟨hr, hlt2⟩ := hdone
    generalize hZZ : rOf H S T now s d = Z at hr hlt2 hrl hacc hZ
    have hZe : hRun H.1 (wOf H S T s d) H.2.2.2.2 (T.2.2.1 d) now (min 300 (acc'.1 - 1 - spent)) 0 = (2, Z.2) := (hrm Z.2).mpr ⟨by rw [← hZ, ← hr], by omega⟩
    have hnOf : nOf H S T now s d = (hSt H.1 (wOf H S T s d) now Z.2).1 := by unfold nOf; rw [hZZ]
    rw [hZe] at z1 GV
    rw [if_pos rfl] at z1
    subst z1
    dsimp only at GV
    obtain ⟨_, g5, g6, g2, g7, gn, gn2, gw⟩ := GV
    have StG : StS (sh G) b := by rw [FCG.2.2.1]; exact IB.1
    obtain ⟨tk, tr0, AG, tr1, k25, l25, rws, tr2, k30, l30, tr3, k31, l31⟩ := StG.2.2.2.2.1.f
    simp only [i10, ↓reduceIte, tcl_10, tgR_10_0, tpR_10_0, tgR_10_1, tpR_10_1, tgR_10_2, tpR_10_2, tgR_10_3, tpR_10_3, tgI_10_4, tpI_10_4, tgI_10_5, tpI_10_5, tgI_10_6, tpI_10_6, tgI_10_7, tpI_10_7, tgI_10_8, tpI_10_8, tk, tr2, Option.bind_some, WP_bind, WP_some]
    refine tst_wp k30 l30 (show d < 4 by omega) (by omega) (fun G1 F2 i2 a2 => ?_)
    have FG1 : Fr (b + 18) (b + 31) C G1 := FCG.tr (F2.mono (by omega) (by omega))
    have St2 : StS (sh G1) b := by rw [FG1.2.2.1]; exact IB.1
    obtain ⟨tk, tr0, A2, tr1, k25, l25, rws, tr2, k30, l30, tr3, k31, l31⟩ := St2.2.2.2.2.1.f
    obtain ⟨ok, or0, ok0, ol0, or1, ok1, ol1, or2, ok2, ol2, or3, ok3, ol3, or4, ok4, ol4⟩ := A2.f
    obtain ⟨_, kl2, _⟩ := St2.li
    obtain ⟨_, pv0, pv1, pv2, pv3, pv4, pv5, pv6, pv7⟩ := pvG
    have j7 : c_iv G1 (b + 19) 7 = nI Z.2 := by rw [i2]; exact g7
    have tsz : c_iv G1 (b + 17) 2 = nI T.1 := by rw [(FG1.2.2.2 (b + 17) (by omega)).2.1]; exact t1.1.2.1
    have tried : ∀ i, i < d + 1 → c_ar G1 (b + 30) i = nI (updN way d s i) := fun i hi => by
      rw [a2, updN_nI]
      by_cases hid : i = d
      · rw [if_pos hid, if_pos hid]
      · rw [if_neg hid, if_neg hid]; exact pv3 i (by omega)
    simp only [tcl_10, tgR_10_0, tpR_10_0, tgR_10_1, tpR_10_1, tgR_10_2, tpR_10_2, tgR_10_3, tpR_10_3, tgI_10_4, tpI_10_4, tgI_10_5, tpI_10_5, tgI_10_6, tpI_10_6, tgI_10_7, tpI_10_7, tgI_10_8, tpI_10_8, tcl_2, tgR_2_0, tpR_2_0, tgR_2_1, tpR_2_1, tgR_2_2, tpR_2_2, tgR_2_3, tpR_2_3, tgR_2_4, tpR_2_4, tgI_2_5, tpI_2_5, tgI_2_6, tpI_2_6, tgI_2_7, tpI_2_7, tcl_0, tgI_0_0, tpI_0_0, tgR_0_1, tpR_0_1, tgI_0_2, tpI_0_2, tk, tr0, ok, kl2, sizeL_eq, tsz, j7, Option.bind_some, WP_bind, WP_some]
    have eT : nI T.1 - 1 = nI (T.1 - 1) := by rw [show (1 : Int32) = nI 1 from rfl, nI_subI (by omega)]
    rw [eT]
    rw [if_pos hr] at hacc
    by_cases hleaf : d + 1 = T.1
    · rw [if_pos hleaf, if_pos hlt2] at hacc
      rw [if_pos (show nI d = nI (T.1 - 1) by rw [show T.1 - 1 = d by omega])]
      simp only [tcl_10, tgR_10_0, tpR_10_0, tgR_10_1, tpR_10_1, tgR_10_2, tpR_10_2, tgR_10_3, tpR_10_3, tgI_10_4, tpI_10_4, tgI_10_5, tpI_10_5, tgI_10_6, tpI_10_6, tgI_10_7, tpI_10_7, tgI_10_8, tpI_10_8, tk, tr2, tr3, Option.bind_some, WP_bind, WP_some, nI_add]
      generalize hG2 : s_iv G1 (up2 (c_iv G1) (b + 18) 4 (nI (spent + Z.2))) = G2
      have F3 : Fr (b + 18) (b + 18) G1 G2 := by rw [← hG2]; exact Fr.iv _ (by omega)
      have k30' : c_kd G2 (b + 30) = 20 := by rw [sh_kd F3.2.2.1]; exact k30
      have k31' : c_kd G2 (b + 31) = 20 := by rw [sh_kd F3.2.2.1]; exact k31
      have l30' : c_ln G2 (b + 30) = 4 := by rw [sh_ln F3.2.2.1]; exact l30
      have l31' : c_ln G2 (b + 31) = 4 := by rw [sh_ln F3.2.2.1]; exact l31
      have i3 : ∀ a k, c_iv G2 a k = if a = b + 18 ∧ k = 4 then nI (spent + Z.2) else c_iv G1 a k := fun a k => by rw [← hG2]; rfl
      have tr2' : c_rv G2 (b + 18) 2 = some (b + 30) := by rw [sh_rv F3.2.2.1]; exact tr2
      have tr3' : c_rv G2 (b + 18) 3 = some (b + 31) := by rw [sh_rv F3.2.2.1]; exact tr3
      have tk' : c_kd G2 (b + 18) = 11 := by rw [sh_kd F3.2.2.1]; exact tk
      simp only [tcl_10, tgR_10_0, tpR_10_0, tgR_10_1, tpR_10_1, tgR_10_2, tpR_10_2, tgR_10_3, tpR_10_3, tgI_10_4, tpI_10_4, tgI_10_5, tpI_10_5, tgI_10_6, tpI_10_6, tgI_10_7, tpI_10_7, tgI_10_8, tpI_10_8, tk', tr2', tr3', Option.bind_some, WP_bind, WP_some]
      refine WP.mono (copy_wp k30' k31' l30' l31' (by omega) (by omega) (by omega)) (fun G3 ⟨F4, i4, a4, a4'⟩ => ?_)
      simp only [WP_bind, WP_some, Option.bind_some, Sum.elim_inl, Sum.elim_inr, ↓reduceIte]
      refine ⟨hlts, nI_1 s, fun d' hd' => ?_, (spent + Z.2, updN way d s), ⟨FG1.tr ((F3.mono (by omega) (by omega)).tr (F4.mono (by omega) (by omega))), by show spent + Z.2 ≤ 1000000000; omega, ?_, fun _ i hi => ?_, fun i hi => ?_, fun h hh => ?_, ?_, ?_, fun h hh => ?_⟩, hacc⟩
      · rw [(F4.2.2.2 (b + 26 + d') (by omega)).1, (F3.2.2.2 (b + 26 + d') (by omega)).1, (F2.2.2.2 (b + 26 + d') (by omega)).1]; exact rowsG d' hd'
      · rw [i4, i3, if_pos ⟨rfl, rfl⟩]
      · show c_ar G3 (b + 31) i = nI (updN way d s i)
        rw [a4 i (by omega) (by omega), (F3.2.2.2 (b + 30) (by omega)).1]; exact tried i (by omega)
      · rw [(F4.2.2.2 (b + 30) (by omega)).1, (F3.2.2.2 (b + 30) (by omega)).1, tried i (by omega), updN_n (by omega)]
      · rw [(F4.2.2.2 (b + 26 + d) (by omega)).1, (F3.2.2.2 (b + 26 + d) (by omega)).1, (F2.2.2.2 (b + 26 + d) (by omega)).1]; exact pv4 h hh
      · rw [i4, i3, if_neg (by omega), i2]; exact pv5
      · rw [i4, i3, if_neg (by omega), i2]; exact pv6
      · rw [(F4.2.2.2 (b + 21) (by omega)).1, (F3.2.2.2 (b + 21) (by omega)).1, (F2.2.2.2 (b + 21) (by omega)).1]; exact pv7 h hh
    · rw [if_neg hleaf] at hacc
      rw [if_neg (fun z => hleaf (by have := (nI_eq (by omega) (by omega)).mp z; omega)), nI_1, if_neg (show ¬ (4 : Int32) ≤ nI (d + 1) from nI_ge (b := 4) (by omega) (by omega))]
      have d4 : d + 1 < 4 := by omega
      obtain ⟨rw1, rw2, rw3⟩ := rws (d + 1) d4
      simp only [tcl_10, tgR_10_0, tpR_10_0, tgR_10_1, tpR_10_1, tgR_10_2, tpR_10_2, tgR_10_3, tpR_10_3, tgI_10_4, tpI_10_4, tgI_10_5, tpI_10_5, tgI_10_6, tpI_10_6, tgI_10_7, tpI_10_7, tgI_10_8, tpI_10_8, tcl_2, tgR_2_0, tpR_2_0, tgR_2_1, tpR_2_1, tgR_2_2, tpR_2_2, tgR_2_3, tpR_2_3, tgR_2_4, tpR_2_4, tgI_2_5, tpI_2_5, tgI_2_6, tpI_2_6, tgI_2_7, tpI_2_7, Nat.reduceLT, tld_n, tst_n, tldB_n, tstB_n, tldR3_n, tldR4_n, tldJ_n, tstJ_n, tlen_I, tlen_R, tk, tr0, tr1, ok, or0, ok0, ol0, or1, ok1, ol1, or2, ok2, ol2, or3, ok3, ol3, or4, ok4, ol4, k25, l25, d4, rw1, Option.bind_some, WP_bind, WP_some]
      refine WP.mono (copy_wp ok0 rw2 ol0 rw3 (by omega) (by omega) (by omega)) (fun G2 ⟨F3, i3, a3, a3'⟩ => ?_)
      have FG2 : Fr (b + 18) (b + 31) C G2 := FG1.tr (F3.mono (by omega) (by omega))
      have St3 : StS (sh G2) b := by rw [FG2.2.2.1]; exact IB.1
      obtain ⟨tk, tr0, A3, tr1, k25, l25, rws, _⟩ := St3.2.2.2.2.1.f
      obtain ⟨rw1, rw2, rw3⟩ := rws (d + 1) d4
      obtain ⟨hk, _⟩ := St3.2.2.1.f
      have hrow2 : ∀ h, h < H.1.1 → c_ar G2 (b + 26 + (d + 1)) h = nI (nOf H S T now s d h) := fun h hh => by
        rw [a3 h (by omega) (by omega), hnOf]
        have g9 : c_ar G1 (b + 19 + 1) = c_ar G (b + 19 + 1) := (F2.2.2.2 (b + 19 + 1) (by omega)).1
        rw [g9]; exact gn h hh
      have hnowOf : nowOk H.1 (nOf H S T now s d) := by rw [hnOf]; exact hSt_ok hnow _
      simp only [tcl_10, tgR_10_0, tpR_10_0, tgR_10_1, tpR_10_1, tgR_10_2, tpR_10_2, tgR_10_3, tpR_10_3, tgI_10_4, tpI_10_4, tgI_10_5, tpI_10_5, tgI_10_6, tpI_10_6, tgI_10_7, tpI_10_7, tgI_10_8, tpI_10_8, tcl_1, tgR_1_0, tpR_1_0, tgR_1_1, tpR_1_1, tgR_1_2, tpR_1_2, tgR_1_3, tpR_1_3, tgR_1_4, tpR_1_4, tgR_1_5, tpR_1_5, tgI_1_6, tpI_1_6, tgI_1_7, tpI_1_7, tgI_1_8, tpI_1_8, Nat.reduceLT, tld_n, tst_n, tldB_n, tstB_n, tldR3_n, tldR4_n, tldJ_n, tstJ_n, tlen_I, tlen_R, tk, tr1, k25, l25, d4, rw1, hk, Option.bind_some, WP_bind, WP_some]
      refine WP.mono (restFor_wp (k := 0) (now := nOf H S T now s d) St3.2.2.1 (h1.1.fr FG2 (by omega)) hok.1 rw2 rw3 (show bw ≤ 100 by omega) (by omega) hrow2 hnowOf) (fun G3 ⟨F4, i4, a4, a4'⟩ => ?_)
      have FG3 : Fr (b + 18) (b + 31) C G3 := FG2.tr (F4.mono (by omega) (by omega))
      have tk3 : c_kd G3 (b + 18) = 11 := by rw [sh_kd F4.2.2.1]; exact tk
      simp only [tcl_10, tgR_10_0, tpR_10_0, tgR_10_1, tpR_10_1, tgR_10_2, tpR_10_2, tgR_10_3, tpR_10_3, tgI_10_4, tpI_10_4, tgI_10_5, tpI_10_5, tgI_10_6, tpI_10_6, tgI_10_7, tpI_10_7, tgI_10_8, tpI_10_8, tk3, WP_some, nI_add]
      have pv9 : PV b C G3 H T acc' (updN way d s) (d + 1) (rsB H.1 bw (nOf H S T now s d)) := by
        refine ⟨FG3, pv0, ?_, ?_, fun i hi => ?_, a4, ?_, ?_, fun h hh => ?_⟩
        · rw [i4, i3, i2]; exact pv1
        · rw [(F4.2.2.2 (b + 31) (by omega)).1, (F3.2.2.2 (b + 31) (by omega)).1, (F2.2.2.2 (b + 31) (by omega)).1]; exact pv2
        · rw [(F4.2.2.2 (b + 30) (by omega)).1, (F3.2.2.2 (b + 30) (by omega)).1]; exact tried i hi
        · rw [i4, i3, i2]; exact pv5
        · rw [i4, i3, i2]; exact pv6
        · rw [(F4.2.2.2 (b + 21) (by omega)).1, (F3.2.2.2 (b + 21) (by omega)).1, (F2.2.2.2 (b + 21) (by omega)).1]; exact pv7 h hh
      refine WP.mono (ih G3 (d + 1) (rsB H.1 bw (nOf H S T now s d)) (spent + Z.2 + bw) (updN way d s) acc' (by omega) (by omega) (rsB_ok _ _ _) (by omega) pv9) ?_
      rintro G4 ⟨⟨FG4, w0, w1, w2, w3, w4, w5, w6, w7⟩, rows4⟩
      have hfd : T.1 - (d + 1) = f := by omega
      rw [hfd] at w0 w1 w2
      have rowsZ : ∀ d', d' ≤ d → c_ar G4 (b + 26 + d') = c_ar D (b + 26 + d') := fun d' hd' => by
        rw [rows4 d' (by omega), (F4.2.2.2 (b + 26 + d') (by omega)).1, (F3.2.2.2 (b + 26 + d') (by omega)).1, (F2.2.2.2 (b + 26 + d') (by omega)).1]; exact rowsG d' hd'
      simp only [WP_bind, WP_some, Option.bind_some, Sum.elim_inl, Sum.elim_inr, ↓reduceIte]
      refine ⟨hlts, nI_1 s, rowsZ, plD H S T bw f (d + 1) (rsB H.1 bw (nOf H S T now s d)) (spent + Z.2 + bw) (updN way d s) acc', ⟨FG4, w0, w1, w2, fun i hi => ?_, fun h hh => ?_, w5, w6, w7⟩, hacc⟩
      · rw [w3 i (by omega), updN_n (by omega)]
      · rw [rowsZ d (Nat.le_refl _), ← rows d (Nat.le_refl _)]; exact hrow h hh
end CLPLAN
