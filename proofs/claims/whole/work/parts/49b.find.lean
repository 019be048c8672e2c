theorem findPlan_wp {b : Nat} {C : CH} {H : HX} {S : SX} {T : TX} {bw : Nat} (IB : BaseC b C) (h1 : HandsC b H C) (hok : HandsOk H) (s1 : SongsC b S C) (sok : SongsOk S) (t1 : TasksC b T C) (tok : TasksOk T) (hbw : bw ≤ 50) (hT : 0 < T.1) (pl : PlanC b H S T bw C) : WP (t_X9_findPlan (b + 18) (b + 3) (b + 4) (b + 17) (nI bw) C) (fun D => Fr (b + 18) (b + 31) C D ∧ c_iv D (b + 18) 5 = 1 ∧ c_iv D (b + 18) 4 = nI (planM H S T bw).1 ∧ ((planM H S T bw).1 ≠ 1000000000 → ∀ i, i < T.1 → c_ar D (b + 31) i = nI ((planM H S T bw).2 i))) := by
  have hb := IB.2.1
  have hn1 := hok.1.1
  obtain ⟨tk, tr0, A, tr1, k25, l25, rws, tr2, k30, l30, tr3, k31, l31⟩ := IB.1.2.2.2.2.1.f
  unfold t_X9_findPlan
  simp only [tcl_10, tgR_10_0, tpR_10_0, tgR_10_1, tpR_10_1, tgR_10_2, tpR_10_2, tgR_10_3, tpR_10_3, tgI_10_4, tpI_10_4, tgI_10_5, tpI_10_5, tgI_10_6, tpI_10_6, tgI_10_7, tpI_10_7, tgI_10_8, tpI_10_8, tk, Option.bind_some]
  rcases pl with h5 | ⟨h5, h4, hs⟩
  · rw [if_pos h5]
    simp only [tcl_10, tgR_10_0, tpR_10_0, tgR_10_1, tpR_10_1, tgR_10_2, tpR_10_2, tgR_10_3, tpR_10_3, tgI_10_4, tpI_10_4, tgI_10_5, tpI_10_5, tgI_10_6, tpI_10_6, tgI_10_7, tpI_10_7, tgI_10_8, tpI_10_8, tk, tr0, Option.bind_some, WP_bind, WP_some]
    generalize hE : s_iv C (up2 (c_iv C) (b + 18) 4 1000000000) = E
    have FE : Fr (b + 18) (b + 18) C E := by rw [← hE]; exact Fr.iv _ (by omega)
    have i4 : c_iv E (b + 18) 4 = 1000000000 := by rw [← hE, iv_upd, if_pos ⟨rfl, rfl⟩]
    have StE : StS (sh E) b := by rw [FE.2.2.1]; exact IB.1
    obtain ⟨tk, tr0, A, tr1, k25, l25, rws, _⟩ := StE.2.2.2.2.1.f
    obtain ⟨ok, _⟩ := A.f
    simp only [tcl_10, tgR_10_0, tpR_10_0, tgR_10_1, tpR_10_1, tgR_10_2, tpR_10_2, tgR_10_3, tpR_10_3, tgI_10_4, tpI_10_4, tgI_10_5, tpI_10_5, tgI_10_6, tpI_10_6, tgI_10_7, tpI_10_7, tgI_10_8, tpI_10_8, tcl_2, tgR_2_0, tpR_2_0, tgR_2_1, tpR_2_1, tgR_2_2, tpR_2_2, tgR_2_3, tpR_2_3, tgR_2_4, tpR_2_4, tgI_2_5, tpI_2_5, tgI_2_6, tpI_2_6, tgI_2_7, tpI_2_7, tk, tr0, ok, Option.bind_some, WP_bind, WP_some]
    refine WP.mono (beginAsTold_wp A StE.2.2.1 (by omega)) (fun E1 ⟨F1, b1, b2, b3, b4, _⟩ => ?_)
    have F1' : Fr (b + 19) (b + 21) E E1 := F1
    have FE1 : Fr (b + 18) (b + 31) C E1 := (FE.mono (by omega) (by omega)).tr (F1'.mono (by omega) (by omega))
    have St1 : StS (sh E1) b := by rw [FE1.2.2.1]; exact IB.1
    obtain ⟨tk, tr0, A1, tr1, k25, l25, rws, _⟩ := St1.2.2.2.2.1.f
    obtain ⟨hk, hr0, hk0, hl0, hr1, hk1, hl1, hr2, hk2, hl2, hr3, hk3, hl3, hr4, hk4, hl4, hr5, hk5, hl5⟩ := St1.2.2.1.f
    obtain ⟨rw1, rw2, rw3⟩ := rws 0 (by decide)
    have d0 : 0 < 4 := by decide
    rw [show (0 : Int32) = nI 0 from rfl]
    simp only [tcl_10, tgR_10_0, tpR_10_0, tgR_10_1, tpR_10_1, tgR_10_2, tpR_10_2, tgR_10_3, tpR_10_3, tgI_10_4, tpI_10_4, tgI_10_5, tpI_10_5, tgI_10_6, tpI_10_6, tgI_10_7, tpI_10_7, tgI_10_8, tpI_10_8, tcl_1, tgR_1_0, tpR_1_0, tgR_1_1, tpR_1_1, tgR_1_2, tpR_1_2, tgR_1_3, tpR_1_3, tgR_1_4, tpR_1_4, tgR_1_5, tpR_1_5, tgI_1_6, tpI_1_6, tgI_1_7, tpI_1_7, tgI_1_8, tpI_1_8, Nat.reduceLT, tld_n, tst_n, tldB_n, tstB_n, tldR3_n, tldR4_n, tldJ_n, tstJ_n, tlen_I, tlen_R, tk, tr1, k25, l25, d0, rw1, hk, hr0, hk0, hl0, hr1, hk1, hl1, hr2, hk2, hl2, hr3, hk3, hl3, hr4, hk4, hl4, hr5, hk5, hl5, Option.bind_some, WP_bind, WP_some]
    refine WP.mono (copy_wp hk5 rw2 hl5 rw3 (by omega) (by omega) (by omega)) (fun E2 ⟨F2, i2, a2, _⟩ => ?_)
    have FE2 : Fr (b + 18) (b + 31) C E2 := FE1.tr (F2.mono (by omega) (by omega))
    have tk2 : c_kd E2 (b + 18) = 11 := by rw [sh_kd F2.2.2.1]; exact tk
    have hnow : ∀ h, h < 10 → c_ar E1 (b + 4 + 6) h = c_ar C (b + 10) h := fun h hh => by rw [(FE1.2.2.2 (b + 4 + 6) (by omega)).1]
    have P0 : PV b C E2 H T (1000000000, fun _ => 0) (fun _ => 0) 0 H.2.2.1 := by
      refine ⟨FE2, Nat.le_refl _, ?_, fun z => absurd rfl z, fun i hi => absurd hi (Nat.not_lt_zero _), fun h hh => ?_, ?_, ?_, fun h hh => ?_⟩
      · rw [i2, (F1'.2.2.2 (b + 18) (by omega)).2.1]; exact i4
      · show c_ar E2 (b + 26 + 0) h = _
        rw [a2 h (by omega) (by omega), hnow h (by omega)]; exact h1.2.2.2.2 h hh
      · rw [i2, b3, (FE.2.2.2 (b + 4) (by omega)).2.1]; exact h1.2.1
      · rw [i2, b4, (FE.2.2.2 (b + 4) (by omega)).2.1]; exact h1.2.2.1
      · have b2' : c_ar E1 (b + 21) h = c_ar E (b + 9) h := b2 h (by omega)
        rw [(F2.2.2.2 (b + 21) (by omega)).1, b2', (FE.2.2.2 (b + 9) (by omega)).1]; exact h1.2.2.2.1 h (by omega)
    simp only [tcl_10, tgR_10_0, tpR_10_0, tgR_10_1, tpR_10_1, tgR_10_2, tpR_10_2, tgR_10_3, tpR_10_3, tgI_10_4, tpI_10_4, tgI_10_5, tpI_10_5, tgI_10_6, tpI_10_6, tgI_10_7, tpI_10_7, tgI_10_8, tpI_10_8, tk2, tF_4, Option.bind_some, WP_bind, WP_some]
    refine WP.mono (tryFrom_wp IB h1 hok s1 sok t1 tok hbw 4 E2 0 H.2.2.1 0 (fun _ => 0) (1000000000, fun _ => 0) hT (by have := tok.1; omega) hok.2.2.2.2.2 (Nat.zero_le _) P0) ?_
    rintro D ⟨⟨FD, p0, p1, p2, _⟩, _⟩
    have tkD : c_kd D (b + 18) = 11 := by rw [sh_kd FD.2.2.1]; exact IB.1.ts
    simp only [tcl_10, tgR_10_0, tpR_10_0, tgR_10_1, tpR_10_1, tgR_10_2, tpR_10_2, tgR_10_3, tpR_10_3, tgI_10_4, tpI_10_4, tgI_10_5, tpI_10_5, tgI_10_6, tpI_10_6, tgI_10_7, tpI_10_7, tgI_10_8, tpI_10_8, tkD, WP_some]
    rw [Nat.sub_zero] at p0 p1 p2
    refine ⟨FD.tr (Fr.iv _ (by omega)), ?_, ?_, p2⟩
    · rw [iv_upd, if_pos ⟨rfl, rfl⟩]
    · rw [iv_upd, if_neg (by omega)]; exact p1
  · rw [if_neg (by rw [h5]; decide)]
    exact WP.ret ⟨Fr.rf _ _ _, h5, h4, hs⟩
/-! the reference's search -/
/-- a run of the loop from one state to another, in at most B rounds -/
def Rch {σ ρ : Type} (body : σ → Option (σ ⊕ ρ)) (B : Nat) (s s' : σ) : Prop := ∃ m, m ≤ B ∧ ∀ F, iter body (F + m) s = iter body F s'
theorem Rch.rf {σ ρ : Type} {body : σ → Option (σ ⊕ ρ)} (s : σ) : Rch body 0 s s := ⟨0, Nat.le_refl _, fun _ => rfl⟩
theorem Rch.one {σ ρ : Type} {body : σ → Option (σ ⊕ ρ)} {s s' : σ} (h : body s = some (.inl s')) : Rch body 1 s s' := ⟨1, Nat.le_refl _, fun F => iter_one h⟩
theorem Rch.tr {σ ρ : Type} {body : σ → Option (σ ⊕ ρ)} {B B' : Nat} {s s1 s2 : σ} (p : Rch body B s s1) (q : Rch body B' s1 s2) : Rch body (B + B') s s2 := by
  obtain ⟨m, h1, h2⟩ := p
  obtain ⟨m', h3, h4⟩ := q
  refine ⟨m' + m, by omega, fun F => ?_⟩
  rw [← Nat.add_assoc, h2, h4]
theorem Rch.mono {σ ρ : Type} {body : σ → Option (σ ⊕ ρ)} {B B' : Nat} {s s' : σ} (p : Rch body B s s') (h : B ≤ B') : Rch body B' s s' := by
  obtain ⟨m, h1, h2⟩ := p
  exact ⟨m, by omega, h2⟩
def bI (e : Nat) : Int32 := if e = 1000000000 then -1 else nI e
/-- the reference's state at depth d: nu is the draft before the rest, bt the beats up to here -/
def RP (M N : MS) (H : HX) (T : TX) (acc : Nat × (Nat → Nat)) (way : Nat → Nat) (d : Nat) (nu : Nat → Nat) (bt : Nat) : Prop := FM [16, 20, 21] [13, 17, 18, 19, 27, 28, 29] M N ∧ (∀ j, j < 10 → N.2.2.1 13 j = M.2.2.1 13 j) ∧ N.1 16 = M.1 16 ∧ N.2.2.1 17 = M.2.2.1 17 ∧ N.2.2.1 18 = M.2.2.1 18 ∧ (acc.1 ≠ 1000000000 → ∀ i, i < T.1 → N.2.2.1 28 i = nI (acc.2 i)) ∧ (∀ i, i < d → N.2.2.1 27 i = nI (way i)) ∧ Dft N d H.1 nu ∧ N.2.2.1 29 d = nI bt
/-- what stays for the depths above -/
def RK (N N' : MS) (d : Nat) : Prop := (∀ i, i < d → N'.2.2.1 27 i = N.2.2.1 27 i) ∧ (∀ i, i ≤ d → N'.2.2.1 29 i = N.2.2.1 29 i) ∧ ∀ j, j < 10 * d + 10 → N'.2.2.1 13 j = N.2.2.1 13 j
theorem RK.tr {N N1 N2 : MS} {d : Nat} (p : RK N N1 d) (q : RK N1 N2 d) : RK N N2 d := ⟨fun i h => (q.1 i h).trans (p.1 i h), fun i h => (q.2.1 i h).trans (p.2.1 i h), fun j h => (q.2.2 j h).trans (p.2.2 j h)⟩
theorem RK.rf (N : MS) (d : Nat) : RK N N d := ⟨fun _ _ => rfl, fun _ _ => rfl, fun _ _ => rfl⟩
