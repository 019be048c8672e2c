/-! a list's add -/
theorem tstR_n {C : CH} {a j x : Nat} (h : c_kd C a = 23) (h2 : j < c_ln C a) (h3 : c_ln C a ≤ 1000) (hx : c_kd C x ≠ 0 ∧ c_kd C x < 14) : tstR C a (nI j) x = some (s_ro C (va_up (c_ro C) a (va_up (c_ro C a) j (some x)))) := by
  unfold tstR
  rw [if_pos ⟨h, hin_nI h2 (by omega), by unfold tob; rw [if_pos hx]⟩, nI_clamp (by omega)]
/-- the rest of an add, at the row a, which has room -/
theorem addJ_wp {C : CH} {o a x n : Nat} (ko : c_kd C o = 1) (ka : c_kd C a = 23) (hn : n < c_ln C a) (hl : c_ln C a ≤ 1000) (hx : c_kd C x ≠ 0 ∧ c_kd C x < 14) : WP (t_Jx4a65c_add_72be8_J11 o x (nI n) a C) (fun D => D.1 = C.1 ∧ D.2.1 = C.2.1 ∧ c_kd D = c_kd C ∧ c_ln D = c_ln C ∧ c_rv D = c_rv C ∧ c_ar D = c_ar C ∧ c_al D = c_al C ∧ c_jv D = c_jv C ∧ (∀ b, b ≠ a → c_ro D b = c_ro C b) ∧ (∀ i, c_ro D a i = if i = n then some x else c_ro C a i) ∧ (∀ b k, c_iv D b k = if b = o ∧ k = 2 then nI (n + 1) else c_iv C b k)) := by
  unfold t_Jx4a65c_add_72be8_J11
  rw [tstR_n ka hn hl hx]
  simp only [WP_bind, WP_some, Option.bind_some, tcl_0, tgI_0_0, tpI_0_0, tgR_0_1, tpR_0_1, tgI_0_2, tpI_0_2, s_iv_1, s_iv_2, s_iv_kd, s_iv_ln, s_iv_iv, s_iv_jv, s_iv_rv, s_iv_ar, s_iv_al, s_iv_ro, s_jv_1, s_jv_2, s_jv_kd, s_jv_ln, s_jv_iv, s_jv_jv, s_jv_rv, s_jv_ar, s_jv_al, s_jv_ro, s_rv_1, s_rv_2, s_rv_kd, s_rv_ln, s_rv_iv, s_rv_jv, s_rv_rv, s_rv_ar, s_rv_al, s_rv_ro, s_ar_1, s_ar_2, s_ar_kd, s_ar_ln, s_ar_iv, s_ar_jv, s_ar_rv, s_ar_ar, s_ar_al, s_ar_ro, s_al_1, s_al_2, s_al_kd, s_al_ln, s_al_iv, s_al_jv, s_al_rv, s_al_ar, s_al_al, s_al_ro, s_ro_1, s_ro_2, s_ro_kd, s_ro_ln, s_ro_iv, s_ro_jv, s_ro_rv, s_ro_ar, s_ro_al, s_ro_ro, ko, nI_1]
  exact ⟨trivial, trivial, trivial, trivial, trivial, trivial, trivial, trivial, fun b hb => va_n hb, fun i => by rw [va_e]; rfl, fun b k => rfl⟩
theorem add_wp {C : CH} {b o n x ea : Nat} {el : Nat → Nat} (L : ListC C b o n el) (hea : c_rv C o 1 = some ea) (hn : n ≤ 12) (hx : c_kd C x ≠ 0 ∧ c_kd C x < 14) (hx2 : x < C.1) (hel : ∀ i, i < n → c_kd C (el i) ≠ 0 ∧ c_kd C (el i) < 14 ∧ el i < C.1) (ho : o < C.1) (hb : b + 81 ≤ C.1) :
    WP (t_Jx4a65c_add_9ea2d o x C) (fun q => C.1 ≤ q.2.1 ∧ q.2.2.1 = C.2.1 ∧ (∃ e', c_rv q.2 o 1 = some e' ∧ e' < q.2.1 ∧ (e' = ea ∧ c_ln C ea ≠ 0 ∨ e' = C.1)) ∧ c_kd q.2 o = 1 ∧ ListC q.2 b o (n + 1) (updN el n x) ∧ (∀ a, a < C.1 → a ≠ o → a ≠ ea ∨ c_ln C ea = 0 → Agr C q.2 a) ∧ (c_kd q.2 ea = 23 ∧ c_ln q.2 ea = c_ln C ea)) := by
  obtain ⟨k1, k2, ea', k3, k4, k5, k6, k7, k8, k9, k10⟩ := L
  have he : ea' = ea := by rw [hea] at k3; exact (Option.some.inj k3).symm
  subst he
  have hoe : o ≠ ea' := fun z => by rw [← z, k1] at k4; exact absurd k4 (by decide)
  unfold t_Jx4a65c_add_9ea2d
  simp only [WP_bind, WP_some, Option.bind_some, tcl_0, tgI_0_0, tpI_0_0, tgR_0_1, tpR_0_1, tgI_0_2, tpI_0_2, k1, k3, s_iv_1, s_iv_2, s_iv_kd, s_iv_ln, s_iv_iv, s_iv_jv, s_iv_rv, s_iv_ar, s_iv_al, s_iv_ro, s_jv_1, s_jv_2, s_jv_kd, s_jv_ln, s_jv_iv, s_jv_jv, s_jv_rv, s_jv_ar, s_jv_al, s_jv_ro, s_rv_1, s_rv_2, s_rv_kd, s_rv_ln, s_rv_iv, s_rv_jv, s_rv_rv, s_rv_ar, s_rv_al, s_rv_ro, s_ar_1, s_ar_2, s_ar_kd, s_ar_ln, s_ar_iv, s_ar_jv, s_ar_rv, s_ar_ar, s_ar_al, s_ar_ro, s_al_1, s_al_2, s_al_kd, s_al_ln, s_al_iv, s_al_jv, s_al_rv, s_al_ar, s_al_al, s_al_ro, s_ro_1, s_ro_2, s_ro_kd, s_ro_ln, s_ro_iv, s_ro_jv, s_ro_rv, s_ro_ar, s_ro_al, s_ro_ro, up2_k (show (2 : Nat) ≠ 0 by decide), k2]
  generalize hC1 : s_iv C (up2 (c_iv C) o 0 (c_iv C o 0 + 1)) = C1
  have m1 : C1.1 = C.1 := by rw [← hC1]; rfl
  have m2 : C1.2.1 = C.2.1 := by rw [← hC1]; rfl
  have m3 : c_kd C1 = c_kd C := by rw [← hC1]; rfl
  have m4 : c_ln C1 = c_ln C := by rw [← hC1]; rfl
  have m5 : c_rv C1 = c_rv C := by rw [← hC1]; rfl
  have m6 : c_ro C1 = c_ro C := by rw [← hC1]; rfl
  have m7 : ∀ a, a ≠ o → Agr C C1 a := fun a ha => by rw [← hC1]; exact (Fr.iv (lo := o) (hi := o) _ (by omega)).ag (by omega)
  have m8 : c_iv C1 o 2 = nI n := by rw [← hC1, iv_upd, if_neg (by omega)]; exact k2
  unfold t_Jx4a65c_add_72be8
  simp only [WP_bind, WP_some, Option.bind_some, tlen_R, m3, k4, m4]
  by_cases hfull : n = c_ln C ea'
  · rw [if_pos (by rw [hfull])]
    simp only [WP_bind, WP_some, Option.bind_some, tcl_0, tgI_0_0, tpI_0_0, tgR_0_1, tpR_0_1, tgI_0_2, tpI_0_2, m3, k1, t_Jx4a65c_grow_d5877, m8, t_Jx4a65c_grow_92f84, m5, k3, tlen_R, k4, m4, m2]
    -- what comes behind the growing, with the new row at C.1
    have fin : ∀ G : CH, G.1 = C.1 + 1 → G.2.1 = C.2.1 → c_kd G C.1 = 23 → n < c_ln G C.1 → (c_ln G C.1 = 10 ∨ c_ln G C.1 = 15) → (∀ i, i < n → c_ro G C.1 i = some (el i)) → (∀ a, a < C.1 → a ≠ o → Agr C G a) → c_kd G o = 1 → c_iv G o 2 = nI n → c_rv G o 1 = some C.1 → WP (t_Jx4a65c_add_72be8_J11 o x (nI n) C.1 G) (fun a => C.1 ≤ a.1 ∧ a.2.1 = C.2.1 ∧ (∃ e', c_rv a o 1 = some e' ∧ e' < a.1 ∧ (e' = ea' ∧ c_ln C ea' ≠ 0 ∨ e' = C.1)) ∧ c_kd a o = 1 ∧ ListC a b o (n + 1) (updN el n x) ∧ (∀ a_1, a_1 < C.1 → a_1 ≠ o → a_1 ≠ ea' ∨ c_ln C ea' = 0 → Agr C a a_1) ∧ (c_kd a ea' = 23 ∧ c_ln a ea' = c_ln C ea')) := by
      intro G g1 g2 g3 g4 g5 g6 g7 g8 g9 g10
      have hxo : c_kd G x ≠ 0 ∧ c_kd G x < 14 := by
        by_cases hxo : x = o
        · rw [hxo, g8]; decide
        · rw [(g7 x hx2 hxo).1]; exact hx
      refine WP.mono (addJ_wp g8 g3 g4 (by omega) hxo) (fun D ⟨d1, d2, d3, d4, d5, d6, d7, d8, d9, d10, d11⟩ => ?_)
      have ae := g7 ea' k9 (fun z => hoe z.symm)
      refine ⟨by omega, by rw [d2, g2], ⟨C.1, by rw [d5]; exact g10, by omega, Or.inr rfl⟩, by rw [d3]; exact g8, ⟨by rw [d3]; exact g8, by rw [d11, if_pos ⟨rfl, rfl⟩], C.1, by rw [d5]; exact g10, by rw [d3]; exact g3, by rw [d4]; omega, by rw [d4]; omega, fun z => by rw [d4] at z; omega, Or.inr hb, by omega, fun i hi => ?_⟩, fun a ha hao _ => (g7 a ha hao).tr ?_, by rw [d3, ae.1]; exact k4, by rw [d4]; exact ae.2.1⟩
      · rw [d10]
        unfold updN
        by_cases hin : i = n
        · rw [if_pos hin, if_pos hin]
        · rw [if_neg hin, if_neg hin]; exact g6 i (by omega)
      · refine ⟨by rw [d3], by rw [d4], by rw [d5], d9 a (by omega), ?_, by rw [d6], by rw [d7], by rw [d8]⟩
        funext k
        rw [d11, if_neg (fun z => hao z.1)]
    by_cases h0 : c_ln C ea' = 0
    · have hn0 : n = 0 := by omega
      have hz := k7 h0
      have c1 : ¬ (0 : Int32) < nI (c_ln C ea') := by rw [h0]; decide
      subst hn0
      have c3 : (if (10 : Int32) < nI 0 + 1 then nI 0 + 1 else 10) = 10 := by decide
      have c4 : hcap 10 = some () := by decide
      have c5 : (10 : Int32).toNatClampNeg = 10 := by decide
      rw [if_neg c1]
      try simp only [WP_bind, WP_some, Option.bind_some]
      rw [if_pos (show ea' = (C.2.1).1 from hz)]
      simp only [WP_bind, WP_some, Option.bind_some, c3, c4, c5, m1]
      have kk : c_kd (tnew C1 (.inl (3, 10, .inr (.inr (.inr (.inr fun _ => none)))))) o = 1 := by
        show va_up (c_kd C1) C1.1 _ o = 1
        rw [va_n (by omega), m3]; exact k1
      simp only [tcl_0, tgI_0_0, tpI_0_0, tgR_0_1, tpR_0_1, tgI_0_2, tpI_0_2, kk, WP_some]
      refine fin _ ?_ ?_ ?_ ?_ ?_ ?_ ?_ ?_ ?_ ?_
      · show C1.1 + 1 = _; rw [m1]
      · exact m2
      · show va_up (c_kd C1) C1.1 _ C.1 = 23; rw [m1, va_e]; rfl
      · show 0 < va_up (c_ln C1) C1.1 _ C.1; rw [m1, va_e]; decide
      · left; show va_up (c_ln C1) C1.1 _ C.1 = 10; rw [m1, va_e]; rfl
      · intro i hi; exact absurd hi (Nat.not_lt_zero _)
      · intro a ha hao
        have e1 : Agr C1 (tnew C1 (.inl (3, 10, .inr (.inr (.inr (.inr fun _ => none)))))) a := ⟨va_n (by omega), va_n (by omega), va_n (by omega), va_n (by omega), va_n (by omega), va_n (by omega), va_n (by omega), va_n (by omega)⟩
        refine ((m7 a hao).tr e1).tr ⟨rfl, rfl, ?_, rfl, rfl, rfl, rfl, rfl⟩
        simp only [s_iv_1, s_iv_2, s_iv_kd, s_iv_ln, s_iv_iv, s_iv_jv, s_iv_rv, s_iv_ar, s_iv_al, s_iv_ro, s_jv_1, s_jv_2, s_jv_kd, s_jv_ln, s_jv_iv, s_jv_jv, s_jv_rv, s_jv_ar, s_jv_al, s_jv_ro, s_rv_1, s_rv_2, s_rv_kd, s_rv_ln, s_rv_iv, s_rv_jv, s_rv_rv, s_rv_ar, s_rv_al, s_rv_ro, s_ar_1, s_ar_2, s_ar_kd, s_ar_ln, s_ar_iv, s_ar_jv, s_ar_rv, s_ar_ar, s_ar_al, s_ar_ro, s_al_1, s_al_2, s_al_kd, s_al_ln, s_al_iv, s_al_jv, s_al_rv, s_al_ar, s_al_al, s_al_ro, s_ro_1, s_ro_2, s_ro_kd, s_ro_ln, s_ro_iv, s_ro_jv, s_ro_rv, s_ro_ar, s_ro_al, s_ro_ro]
        funext k
        exact up2_n hao
      · exact kk
      · show va_up (c_iv C1) C1.1 _ o 2 = _; rw [va_n (by omega)]; exact m8
      · simp only [s_iv_1, s_iv_2, s_iv_kd, s_iv_ln, s_iv_iv, s_iv_jv, s_iv_rv, s_iv_ar, s_iv_al, s_iv_ro, s_jv_1, s_jv_2, s_jv_kd, s_jv_ln, s_jv_iv, s_jv_jv, s_jv_rv, s_jv_ar, s_jv_al, s_jv_ro, s_rv_1, s_rv_2, s_rv_kd, s_rv_ln, s_rv_iv, s_rv_jv, s_rv_rv, s_rv_ar, s_rv_al, s_rv_ro, s_ar_1, s_ar_2, s_ar_kd, s_ar_ln, s_ar_iv, s_ar_jv, s_ar_rv, s_ar_ar, s_ar_al, s_ar_ro, s_al_1, s_al_2, s_al_kd, s_al_ln, s_al_iv, s_al_jv, s_al_rv, s_al_ar, s_al_al, s_al_ro, s_ro_1, s_ro_2, s_ro_kd, s_ro_ln, s_ro_iv, s_ro_jv, s_ro_rv, s_ro_ar, s_ro_al, s_ro_ro]; exact up2_e _ _ _ _
    · have hlen : c_ln C ea' = 10 := by omega
      have hn10 : n = 10 := by omega
      have c1 : (0 : Int32) < nI (c_ln C ea') := by rw [hlen]; decide
      rw [if_pos c1]
      unfold t_Jx4a65c_grow_92f84_J20 t_J8_newLength_cabcc
      subst hn10
      rw [hlen] at fin ⊢
      have c6 : nI 10 + (if nI 10 + 1 - nI 10 < nI 10 >>> ((1 : Int32) &&& 31) then nI 10 >>> ((1 : Int32) &&& 31) else nI 10 + 1 - nI 10) = nI 15 := by decide
      have c7 : ¬ nI 15 ≤ 0 := by decide
      have c8 : ¬ (2147483639 : Int32) < nI 15 := by decide
      have c9 : hcap (nI 15) = some () := by decide
      have c10 : (nI 15).toNatClampNeg = 15 := by decide
      have c11 : toa C1 ea' = some () := by unfold toa; rw [if_pos ⟨by rw [m3]; exact k4, by rw [m4]; omega⟩]
      have kn : c_kd (tnew C1 (.inl (3, 15, .inr (.inr (.inr (.inr fun _ => none)))))) ea' = 23 := by
        show va_up (c_kd C1) C1.1 _ ea' = 23
        rw [va_n (by omega), m3]; exact k4
      have ln' : c_ln (tnew C1 (.inl (3, 15, .inr (.inr (.inr (.inr fun _ => none)))))) ea' = 10 := by
        show va_up (c_ln C1) C1.1 _ ea' = 10
        rw [va_n (by omega), m4]; exact hlen
      have kc : c_kd (tnew C1 (.inl (3, 15, .inr (.inr (.inr (.inr fun _ => none)))))) C.1 = 23 := by
        show va_up (c_kd C1) C1.1 _ C.1 = 23
        rw [m1, va_e]; rfl
      have lc : c_ln (tnew C1 (.inl (3, 15, .inr (.inr (.inr (.inr fun _ => none)))))) C.1 = 15 := by
        show va_up (c_ln C1) C1.1 _ C.1 = 15
        rw [m1, va_e]; rfl
      have rc : c_ro (tnew C1 (.inl (3, 15, .inr (.inr (.inr (.inr fun _ => none)))))) ea' = c_ro C ea' := by
        show va_up (c_ro C1) C1.1 _ ea' = _
        rw [va_n (by omega), m6]
      have kel : ∀ y, c_kd C y ≠ 0 ∧ c_kd C y < 14 ∧ y < C.1 → (tob (tnew C1 (.inl (3, 15, .inr (.inr (.inr (.inr fun _ => none)))))) y).isSome = true := by
        rintro y ⟨y1, y2, y3⟩
        have : c_kd (tnew C1 (.inl (3, 15, .inr (.inr (.inr (.inr fun _ => none)))))) y = c_kd C y := by
          show va_up (c_kd C1) C1.1 _ y = _
          rw [va_n (by omega), m3]
        unfold tob
        rw [this, if_pos ⟨y1, y2⟩]
        rfl
      have e1 : ∀ a, a ≠ C.1 → Agr C1 (tnew C1 (.inl (3, 15, .inr (.inr (.inr (.inr fun _ => none)))))) a := fun a ha => ⟨va_n (by omega), va_n (by omega), va_n (by omega), va_n (by omega), va_n (by omega), va_n (by omega), va_n (by omega), va_n (by omega)⟩
      have w1 : (tnew C1 (.inl (3, 15, .inr (.inr (.inr (.inr fun _ => none)))))).1 = C.1 + 1 := by show C1.1 + 1 = _; rw [m1]
      have w2 : (tnew C1 (.inl (3, 15, .inr (.inr (.inr (.inr fun _ => none)))))).2.1 = C.2.1 := m2
      simp only [c6, c7, c8, ↓reduceIte, WP_bind, WP_some, Option.bind_some, tcl_0, tgI_0_0, tpI_0_0, tgR_0_1, tpR_0_1, tgI_0_2, tpI_0_2, m3, k1, m5, k3, t_J7_copyOf_1904c, c11, t_J7_copyOf_6403c, c9, c10, m1]
      generalize tnew C1 (.inl (3, 15, .inr (.inr (.inr (.inr fun _ => none))))) = N at kn ln' kc lc rc kel e1 w1 w2 ⊢
      simp only [tlen_R, kn, ln', WP_bind, WP_some, Option.bind_some]
      have c12 : (if nI 15 < nI 10 then nI 15 else nI 10) = nI 10 := by decide
      have c13 : (nI 10).toNatClampNeg = 10 := by decide
      rw [c12]
      have tc : tcpy N ea' C.1 (nI 10) = some (s_ro N (va_up (c_ro N) C.1 (va_cpy (c_ro N ea') (c_ro N C.1) 0 0 10))) := by
        have hall : (List.range 10).all (fun i => match c_ro N ea' i with | none => true | some y => (tob N y).isSome) = true := by
          apply List.all_eq_true.mpr
          intro i hi
          have hi' : i < 10 := List.mem_range.mp hi
          rw [rc, k10 i hi']
          exact kel _ (hel i hi')
        unfold tcpy
        rw [c13, if_pos ⟨kn, kc, by omega, by omega, by decide, by omega, by omega, hall⟩]
      have ko : c_kd N o = 1 := by rw [(e1 o (by omega)).1, m3]; exact k1
      rw [tc]
      simp only [WP_bind, WP_some, Option.bind_some, tcl_0, tgI_0_0, tpI_0_0, tgR_0_1, tpR_0_1, tgI_0_2, tpI_0_2, s_iv_1, s_iv_2, s_iv_kd, s_iv_ln, s_iv_iv, s_iv_jv, s_iv_rv, s_iv_ar, s_iv_al, s_iv_ro, s_jv_1, s_jv_2, s_jv_kd, s_jv_ln, s_jv_iv, s_jv_jv, s_jv_rv, s_jv_ar, s_jv_al, s_jv_ro, s_rv_1, s_rv_2, s_rv_kd, s_rv_ln, s_rv_iv, s_rv_jv, s_rv_rv, s_rv_ar, s_rv_al, s_rv_ro, s_ar_1, s_ar_2, s_ar_kd, s_ar_ln, s_ar_iv, s_ar_jv, s_ar_rv, s_ar_ar, s_ar_al, s_ar_ro, s_al_1, s_al_2, s_al_kd, s_al_ln, s_al_iv, s_al_jv, s_al_rv, s_al_ar, s_al_al, s_al_ro, s_ro_1, s_ro_2, s_ro_kd, s_ro_ln, s_ro_iv, s_ro_jv, s_ro_rv, s_ro_ar, s_ro_al, s_ro_ro, ko]
      refine fin _ ?_ ?_ ?_ ?_ ?_ ?_ ?_ ?_ ?_ ?_
      · exact w1
      · exact w2
      · exact kc
      · show 10 < c_ln N C.1; omega
      · right; exact lc
      · intro i hi
        simp only [s_iv_1, s_iv_2, s_iv_kd, s_iv_ln, s_iv_iv, s_iv_jv, s_iv_rv, s_iv_ar, s_iv_al, s_iv_ro, s_jv_1, s_jv_2, s_jv_kd, s_jv_ln, s_jv_iv, s_jv_jv, s_jv_rv, s_jv_ar, s_jv_al, s_jv_ro, s_rv_1, s_rv_2, s_rv_kd, s_rv_ln, s_rv_iv, s_rv_jv, s_rv_rv, s_rv_ar, s_rv_al, s_rv_ro, s_ar_1, s_ar_2, s_ar_kd, s_ar_ln, s_ar_iv, s_ar_jv, s_ar_rv, s_ar_ar, s_ar_al, s_ar_ro, s_al_1, s_al_2, s_al_kd, s_al_ln, s_al_iv, s_al_jv, s_al_rv, s_al_ar, s_al_al, s_al_ro, s_ro_1, s_ro_2, s_ro_kd, s_ro_ln, s_ro_iv, s_ro_jv, s_ro_rv, s_ro_ar, s_ro_al, s_ro_ro, va_e]
        unfold va_cpy
        rw [if_pos ⟨Nat.zero_le _, by omega⟩, rc]
        simp only [Nat.zero_add, Nat.sub_zero]
        exact k10 i hi
      · intro a ha hao
        refine ((m7 a hao).tr (e1 a (by omega))).tr ⟨rfl, rfl, ?_, ?_, rfl, rfl, rfl, rfl⟩
        · simp only [s_iv_1, s_iv_2, s_iv_kd, s_iv_ln, s_iv_iv, s_iv_jv, s_iv_rv, s_iv_ar, s_iv_al, s_iv_ro, s_jv_1, s_jv_2, s_jv_kd, s_jv_ln, s_jv_iv, s_jv_jv, s_jv_rv, s_jv_ar, s_jv_al, s_jv_ro, s_rv_1, s_rv_2, s_rv_kd, s_rv_ln, s_rv_iv, s_rv_jv, s_rv_rv, s_rv_ar, s_rv_al, s_rv_ro, s_ar_1, s_ar_2, s_ar_kd, s_ar_ln, s_ar_iv, s_ar_jv, s_ar_rv, s_ar_ar, s_ar_al, s_ar_ro, s_al_1, s_al_2, s_al_kd, s_al_ln, s_al_iv, s_al_jv, s_al_rv, s_al_ar, s_al_al, s_al_ro, s_ro_1, s_ro_2, s_ro_kd, s_ro_ln, s_ro_iv, s_ro_jv, s_ro_rv, s_ro_ar, s_ro_al, s_ro_ro]
          funext k
          exact up2_n hao
        · simp only [s_iv_1, s_iv_2, s_iv_kd, s_iv_ln, s_iv_iv, s_iv_jv, s_iv_rv, s_iv_ar, s_iv_al, s_iv_ro, s_jv_1, s_jv_2, s_jv_kd, s_jv_ln, s_jv_iv, s_jv_jv, s_jv_rv, s_jv_ar, s_jv_al, s_jv_ro, s_rv_1, s_rv_2, s_rv_kd, s_rv_ln, s_rv_iv, s_rv_jv, s_rv_rv, s_rv_ar, s_rv_al, s_rv_ro, s_ar_1, s_ar_2, s_ar_kd, s_ar_ln, s_ar_iv, s_ar_jv, s_ar_rv, s_ar_ar, s_ar_al, s_ar_ro, s_al_1, s_al_2, s_al_kd, s_al_ln, s_al_iv, s_al_jv, s_al_rv, s_al_ar, s_al_al, s_al_ro, s_ro_1, s_ro_2, s_ro_kd, s_ro_ln, s_ro_iv, s_ro_jv, s_ro_rv, s_ro_ar, s_ro_al, s_ro_ro]
          exact va_n (by omega)
      · exact ko
      · show c_iv N o 2 = nI 10
        rw [(e1 o (by omega)).2.2.2.2.1]; exact m8
      · simp only [s_iv_1, s_iv_2, s_iv_kd, s_iv_ln, s_iv_iv, s_iv_jv, s_iv_rv, s_iv_ar, s_iv_al, s_iv_ro, s_jv_1, s_jv_2, s_jv_kd, s_jv_ln, s_jv_iv, s_jv_jv, s_jv_rv, s_jv_ar, s_jv_al, s_jv_ro, s_rv_1, s_rv_2, s_rv_kd, s_rv_ln, s_rv_iv, s_rv_jv, s_rv_rv, s_rv_ar, s_rv_al, s_rv_ro, s_ar_1, s_ar_2, s_ar_kd, s_ar_ln, s_ar_iv, s_ar_jv, s_ar_rv, s_ar_ar, s_ar_al, s_ar_ro, s_al_1, s_al_2, s_al_kd, s_al_ln, s_al_iv, s_al_jv, s_al_rv, s_al_ar, s_al_al, s_al_ro, s_ro_1, s_ro_2, s_ro_kd, s_ro_ln, s_ro_iv, s_ro_jv, s_ro_rv, s_ro_ar, s_ro_al, s_ro_ro]; exact up2_e _ _ _ _
  · rw [if_neg (fun z => hfull ((nI_eq (by omega) (by omega)).mp z))]
    have hxo : c_kd C1 x ≠ 0 ∧ c_kd C1 x < 14 := by rw [m3]; exact hx
    refine WP.mono (addJ_wp (C := C1) (a := ea') (by rw [m3]; exact k1) (by rw [m3]; exact k4) (by rw [m4]; omega) (by rw [m4]; omega) hxo) (fun D ⟨d1, d2, d3, d4, d5, d6, d7, d8, d9, d10, d11⟩ => ?_)
    refine ⟨by rw [d1, m1]; exact Nat.le_refl _, by rw [d2, m2], ⟨ea', by rw [d5, m5]; exact k3, by rw [d1, m1]; exact k9, Or.inl ⟨rfl, by omega⟩⟩, by rw [d3, m3]; exact k1, ⟨by rw [d3, m3]; exact k1, by rw [d11, if_pos ⟨rfl, rfl⟩], ea', by rw [d5, m5]; exact k3, by rw [d3, m3]; exact k4, by rw [d4, m4]; omega, by rw [d4, m4]; exact k6, fun z => by rw [d4, m4] at z; rw [d2, m2]; exact k7 z, k8, by rw [d1, m1]; exact k9, fun i hi => ?_⟩, fun a ha hao hae => (m7 a hao).tr ?_, by rw [d3, m3]; exact k4, by rw [d4, m4]⟩
    · rw [d10]
      unfold updN
      by_cases hin : i = n
      · rw [if_pos hin, if_pos hin]
      · rw [if_neg hin, if_neg hin, m6]; exact k10 i (by omega)
    · refine ⟨by rw [d3], by rw [d4], by rw [d5], d9 a (by omega), ?_, by rw [d6], by rw [d7], by rw [d8]⟩
      funext k
      rw [d11, if_neg (fun z => hao z.1)]
