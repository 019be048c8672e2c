/-! THE LAW'S ROUNDS -/
/-- the heap holds both, and they stand in the invariant -/
def LI (b : Nat) (C : CH) (M : MS) (h : AH) : Prop := CR C h ∧ MInv (b + 51) h M ∧ Inv b C M
theorem Inv.base {b : Nat} {C : CH} {M : MS} (I : Inv b C M) : BaseC b C := by
  obtain ⟨H, S, T, bw, X, R, K, I⟩ := I
  exact I.1
theorem MInv.same {m : Nat} {h h' : AH} {M : MS} (I : MInv m h M) (e : ∀ a, m ≤ a → a < m + 30 → h'.2.2 a = h.2.2 a) : MInv m h' M := by
  obtain ⟨i1, i2, i3⟩ := I
  refine ⟨?_, fun k hk h33 => ?_, ?_⟩
  · rw [e m (Nat.le_refl _) (by omega)]; exact i1
  · have := moff_lt k
    rw [e _ (by omega) (by omega)]; exact i2 k hk h33
  · rw [e _ (by omega) (by omega)]; exact i3
/-- one call of both: they answer alike, and all holds again -/
theorem law_call {α : Type} {b : Nat} {C : CH} {M : MS} {h : AH} {F : Option (α × AH)} {G : AH → Option (α × AH)} {T : Option (α × CH)} {g : Option (α × MS)} (J : LI b C M h) (sT : CK h C h → OS (fun a c => a.1 = c.1 ∧ CK h c.2 a.2) F T) (sM : ∀ h', MK (b + 51) h' h' M → OS (fun a c => a.1 = c.1 ∧ MK (b + 51) h' a.2 c.2) (G h') g) (op : WP T (fun r => WP g (fun q => r.1 = q.1 ∧ Inv b r.2 q.2))) : hcl h b 12 = some () ∧ ∃ v h1 h2 C' M', F = some (v, h1) ∧ hcl h1 (b + 51) 13 = some () ∧ G h1 = some (v, h2) ∧ LI b C' M' h2 := by
  obtain ⟨J1, J2, J3⟩ := J
  have K0 : CK h C h := ⟨J1, Nat.le_refl _, fun _ _ _ => rfl⟩
  have B0 := J3.base
  refine ⟨hcl_eq (K0.obj (ci := 12) B0.1.x.1 (by decide)), ?_⟩
  obtain ⟨⟨r, C'⟩, e1, ⟨q, M'⟩, e2, e3, I'⟩ := op
  obtain ⟨⟨v, h1⟩, f1, f2, K1⟩ := sT K0 _ e1
  dsimp only at e3 I' f2 K1
  subst e3
  subst f2
  have B1 := I'.base
  have m1 : MInv (b + 51) h1 M := J2.same (fun a p q => K1.2.2 a (B1.2.2.1 a p (by omega)) (by
    have := B0.2.1
    have := J1.1
    omega))
  obtain ⟨⟨w, h2⟩, f3, f4, K2⟩ := sM h1 (MK.rf m1) _ e2
  dsimp only at f4 K2
  subst f4
  refine ⟨_, h1, h2, C', M', f1, hcl_eq m1.1, f3, ⟨?_, ?_, ?_, ?_⟩, K2.1, I'⟩
  · rw [K2.2.1]; exact K1.1.1
  · rw [K2.2.2.1]; exact K1.1.2.1
  · intro a ha
    rw [K2.2.2.2 a (fun z => ha (B1.2.2.1 a z.1 (by have := z.2; omega)))]
    exact K1.1.2.2.1 a ha
  · exact K1.1.2.2.2
theorem lgc_self (v : Int64) : lg_cmp v v = 0 := (lg_cmp_eq v v).mpr rfl
theorem nI_add5 (i j : Nat) : nI i + nI j = nI (i + j) := (Int32.ofNat_add i j).symm
theorem hsx_ok {L i : Nat} (hi : i < L) (hL : L ≤ 2560) : hsx L (nI i) = some () := by
  unfold hsx
  rw [if_pos (hin_nI hi (by omega))]
set_option maxRecDepth 100000 in
set_option maxHeartbeats 4000000 in
theorem law_round {b L k : Nat} {xs : Nat → Int32} {C : CH} {M : MS} {h : AH} (hL : L ≤ 2560) (hk : 5 * k + 5 ≤ L) (J : LI b C M h) : ∃ h2 C2 M2, f_L_law_L18 b (b + 51) L xs (nI (5 * k), h) = some (.inl (nI (5 * (k + 1)), h2)) ∧ LI b C2 M2 h2 := by
  have e5 : nI (5 * k) + 5 = nI (5 * (k + 1)) := (nI_add5 (5 * k) 5).trans (congrArg nI (by omega))
  have s0 : hsx L (nI (5 * k)) = some () := hsx_ok (by omega) hL
  have s1 : hsx L (nI (5 * k) + 1) = some () := by rw [show nI (5 * k) + 1 = nI (5 * k + 1) from nI_add5 (5 * k) 1]; exact hsx_ok (by omega) hL
  have s2 : hsx L (nI (5 * k) + 2) = some () := by rw [show nI (5 * k) + 2 = nI (5 * k + 2) from nI_add5 (5 * k) 2]; exact hsx_ok (by omega) hL
  have s3 : hsx L (nI (5 * k) + 3) = some () := by rw [show nI (5 * k) + 3 = nI (5 * k + 3) from nI_add5 (5 * k) 3]; exact hsx_ok (by omega) hL
  have s4 : hsx L (nI (5 * k) + 4) = some () := by rw [show nI (5 * k) + 4 = nI (5 * k + 4) from nI_add5 (5 * k) 4]; exact hsx_ok (by omega) hL
  have s9 : ¬ (Int32.ofNat L - 5) < nI (5 * k) := by
    rw [show (Int32.ofNat L - 5) = nI (L - 5) from nI_subI (a := L) (b := 5) (by omega)]
    exact nI_nlt (by omega) (by omega)
  unfold f_L_law_L18
  dsimp only
  rw [if_neg s9, s0, Option.bind_some, e5]
  generalize xs (nI (5 * k)).toNatClampNeg &&& 63 = w
  generalize xs (nI (5 * k) + 1).toNatClampNeg = a1
  generalize xs (nI (5 * k) + 2).toNatClampNeg = a2
  generalize xs (nI (5 * k) + 3).toNatClampNeg = a3
  generalize xs (nI (5 * k) + 4).toNatClampNeg = a4
  by_cases h0 : w = 0
  · rw [if_pos h0]
    obtain ⟨p0, v, h1, h2, C2, M2, p1, p2, p3, J2⟩ := law_call (G := fun h => f_X12_beat (b + 51) a1 h) J (fun I => simt_X11_beat b a1 I) (fun _ I => sim_X12_beat a1 I) (op_beat J.2.2 a1)
    refine ⟨h2, C2, M2, ?_, J2⟩
    simp only [s1, p0, p1, p2, Option.bind_some]
    rw [show f_X12_beat (b + 51) a1 h1 = some (v, h2) from p3, Option.bind_some]
    exact if_pos rfl
  rw [if_neg h0]
  by_cases h1 : w = 1
  · rw [if_pos h1]
    obtain ⟨p0, v, h1, h2, C2, M2, p1, p2, p3, J2⟩ := law_call (G := fun h => f_X12_rest (b + 51) h) J (fun I => simt_X11_rest b I) (fun _ I => sim_X12_rest I) (op_rest J.2.2)
    refine ⟨h2, C2, M2, ?_, J2⟩
    simp only [p0, p1, p2, Option.bind_some]
    rw [show f_X12_rest (b + 51) h1 = some (v, h2) from p3, Option.bind_some]
    exact if_pos rfl
  rw [if_neg h1]
  by_cases h2 : w = 2
  · rw [if_pos h2]
    obtain ⟨p0, v, h1, h2, C2, M2, p1, p2, p3, J2⟩ := law_call (G := fun h => f_X12_song (b + 51) h) J (fun I => simt_X11_song b I) (fun _ I => sim_X12_song I) (op_song J.2.2)
    refine ⟨h2, C2, M2, ?_, J2⟩
    simp only [p0, p1, p2, Option.bind_some]
    rw [show f_X12_song (b + 51) h1 = some (v, h2) from p3, Option.bind_some]
    exact if_pos rfl
  rw [if_neg h2]
  by_cases h3 : w = 3
  · rw [if_pos h3]
    obtain ⟨p0, v, h1, h2, C2, M2, p1, p2, p3, J2⟩ := law_call (G := fun h => f_X12_refrain (b + 51) a1 h) J (fun I => simt_X11_refrain b a1 I) (fun _ I => sim_X12_refrain a1 I) (op_refrain J.2.2 a1)
    refine ⟨h2, C2, M2, ?_, J2⟩
    simp only [s1, p0, p1, p2, Option.bind_some]
    rw [show f_X12_refrain (b + 51) a1 h1 = some (v, h2) from p3, Option.bind_some]
    exact if_pos rfl
  rw [if_neg h3]
  by_cases h4 : w = 4
  · rw [if_pos h4]
    obtain ⟨p0, v, h1, h2, C2, M2, p1, p2, p3, J2⟩ := law_call (G := fun h => f_X12_beatAt (b + 51) a1 a2 h) J (fun I => simt_X11_beatAt b a1 a2 I) (fun _ I => sim_X12_beatAt a1 a2 I) (op_beatAt J.2.2 a1 a2)
    refine ⟨h2, C2, M2, ?_, J2⟩
    simp only [s1, s2, p0, p1, p2, Option.bind_some]
    rw [show f_X12_beatAt (b + 51) a1 a2 h1 = some (v, h2) from p3, Option.bind_some]
    exact if_pos rfl
  rw [if_neg h4]
  by_cases h5 : w = 5
  · rw [if_pos h5]
    obtain ⟨p0, v, h1, h2, C2, M2, p1, p2, p3, J2⟩ := law_call (G := fun h => f_X12_hand (b + 51) a1 a2 a3 a4 h) J (fun I => simt_X11_hand b a1 a2 a3 a4 I) (fun _ I => sim_X12_hand a1 a2 a3 a4 I) (op_hand J.2.2 a1 a2 a3 a4)
    refine ⟨h2, C2, M2, ?_, J2⟩
    simp only [s1, s2, s3, s4, p0, p1, p2, Option.bind_some]
    rw [show f_X12_hand (b + 51) a1 a2 a3 a4 h1 = some (v, h2) from p3, Option.bind_some]
    exact if_pos rfl
  rw [if_neg h5]
  by_cases h6 : w = 6
  · rw [if_pos h6]
    obtain ⟨p0, v, h1, h2, C2, M2, p1, p2, p3, J2⟩ := law_call (G := fun h => f_X12_late (b + 51) a1 a2 h) J (fun I => simt_X11_late b a1 a2 I) (fun _ I => sim_X12_late a1 a2 I) (op_late J.2.2 a1 a2)
    refine ⟨h2, C2, M2, ?_, J2⟩
    simp only [s1, s2, p0, p1, p2, Option.bind_some]
    rw [show f_X12_late (b + 51) a1 a2 h1 = some (v, h2) from p3, Option.bind_some]
    exact if_pos rfl
  rw [if_neg h6]
  by_cases h7 : w = 7
  · rw [if_pos h7]
    obtain ⟨p0, v, h1, h2, C2, M2, p1, p2, p3, J2⟩ := law_call (G := fun h => f_X12_crew (b + 51) a1 h) J (fun I => simt_X11_crew b a1 I) (fun _ I => sim_X12_crew a1 I) (op_crew J.2.2 a1)
    refine ⟨h2, C2, M2, ?_, J2⟩
    simp only [s1, p0, p1, p2, Option.bind_some]
    rw [show f_X12_crew (b + 51) a1 h1 = some (v, h2) from p3, Option.bind_some]
    exact if_pos rfl
  rw [if_neg h7]
  by_cases h8 : w = 8
  · rw [if_pos h8]
    obtain ⟨p0, v, h1, h2, C2, M2, p1, p2, p3, J2⟩ := law_call (G := fun h => f_X12_floor (b + 51) a1 h) J (fun I => simt_X11_floor b a1 I) (fun _ I => sim_X12_floor a1 I) (op_floor J.2.2 a1)
    refine ⟨h2, C2, M2, ?_, J2⟩
    simp only [s1, p0, p1, p2, Option.bind_some]
    rw [show f_X12_floor (b + 51) a1 h1 = some (v, h2) from p3, Option.bind_some]
    exact if_pos rfl
  rw [if_neg h8]
  by_cases h9 : w = 9
  · rw [if_pos h9]
    obtain ⟨p0, v, h1, h2, C2, M2, p1, p2, p3, J2⟩ := law_call (G := fun h => f_X12_now (b + 51) a1 h) J (fun I => simt_X11_now b a1 I) (fun _ I => sim_X12_now a1 I) (op_now J.2.2 a1)
    refine ⟨h2, C2, M2, ?_, J2⟩
    simp only [s1, p0, p1, p2, Option.bind_some]
    rw [show f_X12_now (b + 51) a1 h1 = some (v, h2) from p3, Option.bind_some]
    exact if_pos rfl
  rw [if_neg h9]
  by_cases h10 : w = 10
  · rw [if_pos h10]
    obtain ⟨p0, v, h1, h2, C2, M2, p1, p2, p3, J2⟩ := law_call (G := fun h => f_X12_pause (b + 51) a1 h) J (fun I => simt_X11_pause b a1 I) (fun _ I => sim_X12_pause a1 I) (op_pause J.2.2 a1)
    refine ⟨h2, C2, M2, ?_, J2⟩
    simp only [s1, p0, p1, p2, Option.bind_some]
    rw [show f_X12_pause (b + 51) a1 h1 = some (v, h2) from p3, Option.bind_some]
    exact if_pos rfl
  rw [if_neg h10]
  by_cases h11 : w = 11
  · rw [if_pos h11]
    obtain ⟨p0, v, h1, h2, C2, M2, p1, p2, p3, J2⟩ := law_call (G := fun h => f_X12_haul (b + 51) a1 a2 a3 a4 h) J (fun I => simt_X11_haul b a1 a2 a3 a4 I) (fun _ I => sim_X12_haul a1 a2 a3 a4 I) (op_haul J.2.2 a1 a2 a3 a4)
    refine ⟨h2, C2, M2, ?_, J2⟩
    simp only [s1, s2, s3, s4, p0, p1, p2, Option.bind_some]
    rw [show f_X12_haul (b + 51) a1 a2 a3 a4 h1 = some (v, h2) from p3, Option.bind_some]
    exact if_pos rfl
  rw [if_neg h11]
  by_cases h12 : w = 12
  · rw [if_pos h12]
    obtain ⟨p0, v, h1, h2, C2, M2, p1, p2, p3, J2⟩ := law_call (G := fun h => f_X12_won (b + 51) a1 h) J (fun I => simt_X11_won b a1 I) (fun _ I => sim_X12_won a1 I) (op_won J.2.2 a1)
    refine ⟨h2, C2, M2, ?_, J2⟩
    simp only [s1, p0, p1, p2, Option.bind_some]
    rw [show f_X12_won (b + 51) a1 h1 = some (v, h2) from p3, Option.bind_some]
    exact if_pos rfl
  rw [if_neg h12]
  by_cases h13 : w = 13
  · rw [if_pos h13]
    obtain ⟨p0, v, h1, h2, C2, M2, p1, p2, p3, J2⟩ := law_call (G := fun h => f_X12_force (b + 51) a1 h) J (fun I => simt_X11_force b a1 I) (fun _ I => sim_X12_force a1 I) (op_force J.2.2 a1)
    refine ⟨h2, C2, M2, ?_, J2⟩
    simp only [s1, p0, p1, p2, Option.bind_some]
    rw [show f_X12_force (b + 51) a1 h1 = some (v, h2) from p3, Option.bind_some]
    exact if_pos rfl
  rw [if_neg h13]
  by_cases h14 : w = 14
  · rw [if_pos h14]
    obtain ⟨p0, v, h1, h2, C2, M2, p1, p2, p3, J2⟩ := law_call (G := fun h => f_X12_task (b + 51) a1 a2 a3 h) J (fun I => simt_X11_task b a1 a2 a3 I) (fun _ I => sim_X12_task a1 a2 a3 I) (op_task J.2.2 a1 a2 a3)
    refine ⟨h2, C2, M2, ?_, J2⟩
    simp only [s1, s2, s3, p0, p1, p2, Option.bind_some]
    rw [show f_X12_task (b + 51) a1 a2 a3 h1 = some (v, h2) from p3, Option.bind_some]
    exact if_pos rfl
  rw [if_neg h14]
  by_cases h15 : w = 15
  · rw [if_pos h15]
    obtain ⟨p0, v, h1, h2, C2, M2, p1, p2, p3, J2⟩ := law_call (G := fun h => f_X12_between (b + 51) a1 h) J (fun I => simt_X11_between b a1 I) (fun _ I => sim_X12_between a1 I) (op_between J.2.2 a1)
    refine ⟨h2, C2, M2, ?_, J2⟩
    simp only [s1, p0, p1, p2, Option.bind_some]
    rw [show f_X12_between (b + 51) a1 h1 = some (v, h2) from p3, Option.bind_some]
    exact if_pos rfl
  rw [if_neg h15]
  by_cases h16 : w = 16
  · rw [if_pos h16]
    obtain ⟨p0, v, h1, h2, C2, M2, p1, p2, p3, J2⟩ := law_call (G := fun h => f_X12_plan (b + 51) h) J (fun I => simt_X11_plan b I) (fun _ I => sim_X12_plan I) (op_plan J.2.2)
    refine ⟨h2, C2, M2, ?_, J2⟩
    simp only [p0, p1, p2, Option.bind_some]
    rw [show f_X12_plan (b + 51) h1 = some (v, h2) from p3, Option.bind_some]
    exact if_pos rfl
  rw [if_neg h16]
  by_cases h17 : w = 17
  · rw [if_pos h17]
    obtain ⟨p0, v, h1, h2, C2, M2, p1, p2, p3, J2⟩ := law_call (G := fun h => f_X12_planAt (b + 51) a1 h) J (fun I => simt_X11_planAt b a1 I) (fun _ I => sim_X12_planAt a1 I) (op_planAt J.2.2 a1)
    refine ⟨h2, C2, M2, ?_, J2⟩
    simp only [s1, p0, p1, p2, Option.bind_some]
    rw [show f_X12_planAt (b + 51) a1 h1 = some (v, h2) from p3, Option.bind_some]
    exact if_pos rfl
  rw [if_neg h17]
  by_cases h18 : w = 18
  · rw [if_pos h18]
    obtain ⟨p0, v, h1, h2, C2, M2, p1, p2, p3, J2⟩ := law_call (G := fun h => f_X12_best (b + 51) a1 a2 a3 a4 h) J (fun I => simt_X11_best b a1 a2 a3 a4 I) (fun _ I => sim_X12_best a1 a2 a3 a4 I) (op_best J.2.2 a1 a2 a3 a4)
    refine ⟨h2, C2, M2, ?_, J2⟩
    simp only [s1, s2, s3, s4, p0, p1, p2, Option.bind_some]
    rw [show f_X12_best (b + 51) a1 a2 a3 a4 h1 = some (v, h2) from p3, Option.bind_some]
    exact if_pos rfl
  rw [if_neg h18]
  by_cases h19 : w = 19
  · rw [if_pos h19]
    obtain ⟨p0, v, h1, h2, C2, M2, p1, p2, p3, J2⟩ := law_call (G := fun h => f_X12_word (b + 51) a1 a2 h) J (fun I => simt_X11_word b a1 a2 I) (fun _ I => sim_X12_word a1 a2 I) (op_word J.2.2 a1 a2)
    refine ⟨h2, C2, M2, ?_, J2⟩
    simp only [s1, s2, p0, p1, p2, Option.bind_some]
    rw [show f_X12_word (b + 51) a1 a2 h1 = some (v, h2) from p3, Option.bind_some]
    exact if_pos rfl
  rw [if_neg h19]
  by_cases h20 : w = 20
  · rw [if_pos h20]
    obtain ⟨p0, v, h1, h2, C2, M2, p1, p2, p3, J2⟩ := law_call (G := fun h => f_X12_lines (b + 51) a1 h) J (fun I => simt_X11_lines b a1 I) (fun _ I => sim_X12_lines a1 I) (op_lines J.2.2 a1)
    refine ⟨h2, C2, M2, ?_, J2⟩
    simp only [s1, p0, p1, p2, Option.bind_some]
    rw [show f_X12_lines (b + 51) a1 h1 = some (v, h2) from p3, Option.bind_some]
    exact if_pos (lgc_self v)
  rw [if_neg h20]
  by_cases h21 : w = 21
  · rw [if_pos h21]
    obtain ⟨p0, v, h1, h2, C2, M2, p1, p2, p3, J2⟩ := law_call (G := fun h => f_X12_lineAt (b + 51) a1 ((a2.toInt64 <<< ((32 : Int32).toInt64 &&& 63)) ||| (a3.toInt64 &&& 4294967295)) a4 h) J (fun I => simt_X11_lineAt b a1 ((a2.toInt64 <<< ((32 : Int32).toInt64 &&& 63)) ||| (a3.toInt64 &&& 4294967295)) a4 I) (fun _ I => sim_X12_lineAt a1 ((a2.toInt64 <<< ((32 : Int32).toInt64 &&& 63)) ||| (a3.toInt64 &&& 4294967295)) a4 I) (op_lineAt J.2.2 a1 ((a2.toInt64 <<< ((32 : Int32).toInt64 &&& 63)) ||| (a3.toInt64 &&& 4294967295)) a4)
    refine ⟨h2, C2, M2, ?_, J2⟩
    simp only [s1, s2, s3, s4, p0, p1, p2, Option.bind_some]
    rw [show f_X12_lineAt (b + 51) a1 ((a2.toInt64 <<< ((32 : Int32).toInt64 &&& 63)) ||| (a3.toInt64 &&& 4294967295)) a4 h1 = some (v, h2) from p3, Option.bind_some]
    exact if_pos rfl
  rw [if_neg h21]
  by_cases h22 : w = 22
  · rw [if_pos h22]
    obtain ⟨p0, v, h1, h2, C2, M2, p1, p2, p3, J2⟩ := law_call (G := fun h => f_X12_near (b + 51) a1 h) J (fun I => simt_X11_near b a1 I) (fun _ I => sim_X12_near a1 I) (op_near J.2.2 a1)
    refine ⟨h2, C2, M2, ?_, J2⟩
    simp only [s1, p0, p1, p2, Option.bind_some]
    rw [show f_X12_near (b + 51) a1 h1 = some (v, h2) from p3, Option.bind_some]
    exact if_pos rfl
  rw [if_neg h22]
  by_cases h23 : w = 23
  · rw [if_pos h23]
    obtain ⟨p0, v, h1, h2, C2, M2, p1, p2, p3, J2⟩ := law_call (G := fun h => f_X12_nearAt (b + 51) a1 a2 h) J (fun I => simt_X11_nearAt b a1 a2 I) (fun _ I => sim_X12_nearAt a1 a2 I) (op_nearAt J.2.2 a1 a2)
    refine ⟨h2, C2, M2, ?_, J2⟩
    simp only [s1, s2, p0, p1, p2, Option.bind_some]
    rw [show f_X12_nearAt (b + 51) a1 a2 h1 = some (v, h2) from p3, Option.bind_some]
    exact if_pos rfl
  rw [if_neg h23]
  by_cases h24 : w = 24
  · rw [if_pos h24]
    obtain ⟨p0, v, h1, h2, C2, M2, p1, p2, p3, J2⟩ := law_call (G := fun h => f_X12_mark (b + 51) a1 a2 h) J (fun I => simt_X11_mark b a1 a2 I) (fun _ I => sim_X12_mark a1 a2 I) (op_mark J.2.2 a1 a2)
    refine ⟨h2, C2, M2, ?_, J2⟩
    simp only [s1, s2, p0, p1, p2, Option.bind_some]
    rw [show f_X12_mark (b + 51) a1 a2 h1 = some (v, h2) from p3, Option.bind_some]
    exact if_pos rfl
  rw [if_neg h24]
  by_cases h25 : w = 25
  · rw [if_pos h25]
    obtain ⟨p0, v, h1, h2, C2, M2, p1, p2, p3, J2⟩ := law_call (G := fun h => f_X12_wipe (b + 51) h) J (fun I => simt_X11_wipe b I) (fun _ I => sim_X12_wipe I) (op_wipe J.2.2)
    refine ⟨h2, C2, M2, ?_, J2⟩
    simp only [p0, p1, p2, Option.bind_some]
    rw [show f_X12_wipe (b + 51) h1 = some (v, h2) from p3, Option.bind_some]
    exact if_pos rfl
  rw [if_neg h25]
  by_cases h26 : w = 26
  · rw [if_pos h26]
    obtain ⟨p0, v, h1, h2, C2, M2, p1, p2, p3, J2⟩ := law_call (G := fun h => f_X12_who (b + 51) a1 a2 a3 a4 h) J (fun I => simt_X11_who b a1 a2 a3 a4 I) (fun _ I => sim_X12_who a1 a2 a3 a4 I) (op_who J.2.2 a1 a2 a3 a4)
    refine ⟨h2, C2, M2, ?_, J2⟩
    simp only [s1, s2, s3, s4, p0, p1, p2, Option.bind_some]
    rw [show f_X12_who (b + 51) a1 a2 a3 a4 h1 = some (v, h2) from p3, Option.bind_some]
    exact if_pos rfl
  rw [if_neg h26]
  by_cases h27 : w = 27
  · rw [if_pos h27]
    obtain ⟨p0, v, h1, h2, C2, M2, p1, p2, p3, J2⟩ := law_call (G := fun h => f_X12_two (b + 51) a1 a2 a3 a4 h) J (fun I => simt_X11_two b a1 a2 a3 a4 I) (fun _ I => sim_X12_two a1 a2 a3 a4 I) (op_two J.2.2 a1 a2 a3 a4)
    refine ⟨h2, C2, M2, ?_, J2⟩
    simp only [s1, s2, s3, s4, p0, p1, p2, Option.bind_some]
    rw [show f_X12_two (b + 51) a1 a2 a3 a4 h1 = some (v, h2) from p3, Option.bind_some]
    exact if_pos rfl
  rw [if_neg h27]
  by_cases h28 : w = 28
  · rw [if_pos h28]
    obtain ⟨p0, v, h1, h2, C2, M2, p1, p2, p3, J2⟩ := law_call (G := fun h => f_X12_apart (b + 51) a1 a2 h) J (fun I => simt_X11_apart b a1 a2 I) (fun _ I => sim_X12_apart a1 a2 I) (op_apart J.2.2 a1 a2)
    refine ⟨h2, C2, M2, ?_, J2⟩
    simp only [s1, s2, p0, p1, p2, Option.bind_some]
    rw [show f_X12_apart (b + 51) a1 a2 h1 = some (v, h2) from p3, Option.bind_some]
    exact if_pos rfl
  rw [if_neg h28]
  by_cases h29 : w = 29
  · rw [if_pos h29]
    obtain ⟨p0, v, h1, h2, C2, M2, p1, p2, p3, J2⟩ := law_call (G := fun h => f_X12_hangs (b + 51) a1 h) J (fun I => simt_X11_hangs b a1 I) (fun _ I => sim_X12_hangs a1 I) (op_hangs J.2.2 a1)
    refine ⟨h2, C2, M2, ?_, J2⟩
    simp only [s1, p0, p1, p2, Option.bind_some]
    rw [show f_X12_hangs (b + 51) a1 h1 = some (v, h2) from p3, Option.bind_some]
    exact if_pos rfl
  rw [if_neg h29]
  by_cases h30 : w = 30
  · rw [if_pos h30]
    obtain ⟨p0, v, h1, h2, C2, M2, p1, p2, p3, J2⟩ := law_call (G := fun h => f_X12_tree (b + 51) h) J (fun I => simt_X11_tree b I) (fun _ I => sim_X12_tree I) (op_tree J.2.2)
    refine ⟨h2, C2, M2, ?_, J2⟩
    simp only [p0, p1, p2, Option.bind_some]
    rw [show f_X12_tree (b + 51) h1 = some (v, h2) from p3, Option.bind_some]
    exact if_pos rfl
  rw [if_neg h30]
  by_cases h31 : w = 31
  · rw [if_pos h31]
    obtain ⟨p0, v, h1, h2, C2, M2, p1, p2, p3, J2⟩ := law_call (G := fun h => f_X12_count (b + 51) a1 h) J (fun I => simt_X11_count b a1 I) (fun _ I => sim_X12_count a1 I) (op_count' J.2.2 a1)
    refine ⟨h2, C2, M2, ?_, J2⟩
    simp only [s1, p0, p1, p2, Option.bind_some]
    rw [show f_X12_count (b + 51) a1 h1 = some (v, h2) from p3, Option.bind_some]
    exact if_pos rfl
  rw [if_neg h31]
  by_cases h32 : w = 32
  · rw [if_pos h32]
    obtain ⟨p0, v, h1, h2, C2, M2, p1, p2, p3, J2⟩ := law_call (G := fun h => f_X12_digest (b + 51) h) J (fun I => simt_X11_digest b I) (fun _ I => sim_X12_digest I) (op_digest J.2.2)
    refine ⟨h2, C2, M2, ?_, J2⟩
    simp only [p0, p1, p2, Option.bind_some]
    rw [show f_X12_digest (b + 51) h1 = some (v, h2) from p3, Option.bind_some]
    exact if_pos (lgc_self v)
  rw [if_neg h32]
  exact ⟨h, C, M, rfl, J⟩
