/-! THE START: what the constructor makes, by places behind the base -/
def rfc (b z : Nat) : Nat → Option Nat
  | 0 => none
  | 1 => some z
  | r + 2 => some (b + r)
/-- n cells behind b: kinds, lengths, references (0 none, 1 the row of nothing, r + 2 the cell b + r), int fields; all int rows are of zeros -/
def GS (b z n : Nat) (kd ln : Nat → Nat) (rv ro : Nat → Nat → Nat) (iv : Nat → Nat → Int32) (C0 C : CH) : Prop := C.1 = b + n ∧ C.2.1 = C0.2.1 ∧ C0.2.1.1 = z ∧ (∀ a, a < b → Agr C0 C a) ∧ ∀ j, c_kd C (b + j) = kd j ∧ c_ln C (b + j) = ln j ∧ (∀ k, c_rv C (b + j) k = rfc b z (rv j k)) ∧ (∀ k, c_ro C (b + j) k = rfc b z (ro j k)) ∧ (∀ k, c_iv C (b + j) k = iv j k) ∧ ∀ k, c_ar C (b + j) k = 0
section GSR
variable {b z n : Nat} {kd ln : Nat → Nat} {rv ro : Nat → Nat → Nat} {iv : Nat → Nat → Int32} {C0 C : CH}
theorem GS.new (G : GS b z n kd ln rv ro iv C0 C) (m : Nat) (hm : n + 1 = m) (e : AE) (kv lv : Nat) (hkl : tkd e = kv ∧ tln e = lv) (tr : Nat → Nat) (ht : ∀ k, tro e k = rfc b z (tr k)) : GS b z m (va_up kd n kv) (va_up ln n lv) (va_up rv n (fun _ => 0)) (va_up ro n tr) (va_up iv n (fun _ => 0)) C0 (tnew C e) := by
  subst hm
  obtain ⟨rfl, rfl⟩ := hkl
  obtain ⟨g1, g2, gz, g3, g4⟩ := G
  refine ⟨by show C.1 + 1 = b + (n + 1); omega, g2, gz, fun a ha => (g3 a ha).tr ?_, fun j => ?_⟩
  · have h1 : a ≠ C.1 := by omega
    exact ⟨va_n h1, va_n h1, va_n h1, va_n h1, va_n h1, va_n h1, va_n h1, va_n h1⟩
  · obtain ⟨h1, h2, h3, h4, h5, h6⟩ := g4 j
    by_cases hj : j = n
    · subst hj
      rw [← g1, va_e, va_e, va_e, va_e, va_e]
      refine ⟨va_e _ _ _, va_e _ _ _, fun k => ?_, fun k => ?_, fun k => ?_, fun k => ?_⟩
      · show va_up _ C.1 (fun _ => none) C.1 k = _
        exact (congrFun (va_e _ _ _) k).trans rfl
      · show va_up _ C.1 (tro e) C.1 k = _
        exact (congrFun (va_e _ _ _) k).trans (ht k)
      · show va_up _ C.1 (fun _ => 0) C.1 k = _
        exact congrFun (va_e _ _ _) k
      · show va_up _ C.1 (fun _ => 0) C.1 k = _
        exact congrFun (va_e _ _ _) k
    · have h0 : b + j ≠ C.1 := by omega
      rw [va_n hj, va_n hj, va_n hj, va_n hj, va_n hj]
      refine ⟨(va_n h0).trans h1, (va_n h0).trans h2, fun k => ?_, fun k => ?_, fun k => ?_, fun k => ?_⟩
      · exact (congrFun (va_n h0) k).trans (h3 k)
      · exact (congrFun (va_n h0) k).trans (h4 k)
      · exact (congrFun (va_n h0) k).trans (h5 k)
      · exact (congrFun (va_n h0) k).trans (h6 k)
theorem GS.new0 (G : GS b z n kd ln rv ro iv C0 C) (m : Nat) (hm : n + 1 = m) (e : AE) (kv lv : Nat) (hkl : tkd e = kv ∧ tln e = lv) (ht : tro e = fun _ => none) : GS b z m (va_up kd n kv) (va_up ln n lv) (va_up rv n (fun _ => 0)) (va_up ro n (fun _ => 0)) (va_up iv n (fun _ => 0)) C0 (tnew C e) := G.new m hm e kv lv hkl (fun _ => 0) (fun k => by rw [ht]; rfl)
/-- a reference is put into a field -/
theorem GS.pR (G : GS b z n kd ln rv ro iv C0 C) {a x ci k : Nat} (o c : Nat) (ha : a = b + o) (hx : rfc b z c = some x) (h1 : kd o = ci + 1) (h2 : ci < 13 ∧ k < nF ci ∧ fty ci k = 2) {K : CH → Option CH} {Q : CH → Prop} (nx : ∀ C', GS b z n kd ln (up2 rv o k c) ro iv C0 C' → WP (K C') Q) : WP ((tpF C a ci k (.ref x)).bind K) Q := by
  obtain ⟨g1, g2, gz, g3, g4⟩ := G
  subst ha
  have e1 : tpF C (b + o) ci k (.ref x) = some (s_rv C (up2 (c_rv C) (b + o) k (some x))) := by
    unfold tpF
    rw [if_pos ⟨(g4 o).1.trans h1, h2.1, h2.2.1⟩]
    exact if_pos h2.2.2
  rw [e1]
  refine nx _ ⟨g1, g2, gz, fun a ha => (g3 a ha).tr ⟨rfl, rfl, ?_, rfl, rfl, rfl, rfl, rfl⟩, fun j => ?_⟩
  · simp only [s_rv_rv]
    funext q
    exact up2_n (by omega)
  · obtain ⟨h1, h2, h3, h4, h5, h6⟩ := g4 j
    refine ⟨h1, h2, fun q => ?_, h4, h5, h6⟩
    simp only [s_rv_rv]
    by_cases hj : j = o
    · subst hj
      by_cases hq : q = k
      · subst hq
        rw [up2_e, up2_e]; exact hx.symm
      · rw [up2_k hq, up2_k hq]; exact h3 q
    · rw [up2_n (by omega), up2_n hj]; exact h3 q
/-- an int is put into a field -/
theorem GS.pI (G : GS b z n kd ln rv ro iv C0 C) {a ci k : Nat} {x : Int32} (o : Nat) (ha : a = b + o) (h1 : kd o = ci + 1) (h2 : ci < 13 ∧ k < nF ci ∧ fty ci k = 0) {K : CH → Option CH} {Q : CH → Prop} (nx : ∀ C', GS b z n kd ln rv ro (up2 iv o k x) C0 C' → WP (K C') Q) : WP ((tpF C a ci k (.int x)).bind K) Q := by
  obtain ⟨g1, g2, gz, g3, g4⟩ := G
  subst ha
  have e1 : tpF C (b + o) ci k (.int x) = some (s_iv C (up2 (c_iv C) (b + o) k x)) := by
    unfold tpF
    rw [if_pos ⟨(g4 o).1.trans h1, h2.1, h2.2.1⟩]
    exact if_pos h2.2.2
  rw [e1]
  refine nx _ ⟨g1, g2, gz, fun a ha => (g3 a ha).tr ⟨rfl, rfl, rfl, rfl, ?_, rfl, rfl, rfl⟩, fun j => ?_⟩
  · simp only [s_iv_iv]
    funext q
    exact up2_n (by omega)
  · obtain ⟨h1, h2, h3, h4, h5, h6⟩ := g4 j
    refine ⟨h1, h2, h3, h4, fun q => ?_, h6⟩
    simp only [s_iv_iv]
    by_cases hj : j = o
    · subst hj
      by_cases hq : q = k
      · subst hq
        rw [up2_e, up2_e]
      · rw [up2_k hq, up2_k hq]; exact h5 q
    · rw [up2_n (by omega), up2_n hj]; exact h5 q
end GSR
theorem WP.bb {α β : Type} {x : Option α} {K : α → Option β} {Q : β → Prop} (h : WP x (fun a => WP (K a) Q)) : WP (x.bind K) Q := WP_bind.mpr h
theorem WP.rt {α β : Type} {a : α} {K : α → Option β} {Q : β → Prop} (h : WP (K a) Q) : WP (some a) (fun x => WP (K x) Q) := ⟨a, rfl, h⟩
theorem tnews_4 (C : CH) : tnews C (hmulti C.1 4 10) = tnew (tnew (tnew (tnew (tnew C (.inl (4, 4, .inr (.inr (.inr (.inr fun i => if i < 4 then some (C.1 + 1 + i) else none)))))) (.inl (0, 10, .inl fun _ => 0))) (.inl (0, 10, .inl fun _ => 0))) (.inl (0, 10, .inl fun _ => 0))) (.inl (0, 10, .inl fun _ => 0)) := rfl
set_option maxRecDepth 100000 in
set_option maxHeartbeats 4000000 in
theorem init_wp {b z : Nat} {C0 : CH} (h1 : C0.1 = b) (hz : C0.2.1.1 = z) (h0 : ∀ j, c_kd C0 (b + j) = 0 ∧ c_ln C0 (b + j) = 0 ∧ (∀ k, c_rv C0 (b + j) k = none) ∧ (∀ k, c_ro C0 (b + j) k = none) ∧ (∀ k, c_iv C0 (b + j) k = 0) ∧ ∀ k, c_ar C0 (b + j) k = 0) : WP (t_X11_init b (tnew C0 (.inr (12, [.null, .null, .null, .null, .null, .int 0, .null, .null, .null, .null, .null, .null])))) (fun C => C.1 = b + 51 ∧ C.2.1 = C0.2.1 ∧ (∀ a, a < b → Agr C0 C a) ∧ StS (sh C) b ∧ (∀ j, 51 ≤ j → j < 81 → c_kd C (b + j) = 0) ∧ (c_rv C (b + 3) 1 = some z ∧ c_rv C (b + 17) 1 = some z ∧ c_rv C (b + 32) 1 = some z) ∧ (c_iv C (b + 3) 2 = 0 ∧ c_iv C (b + 17) 2 = 0 ∧ c_iv C (b + 32) 2 = 0 ∧ c_iv C (b + 4) 6 = 0 ∧ c_iv C (b + 4) 7 = 0 ∧ c_iv C (b + 4) 8 = 0 ∧ c_iv C (b + 1) 1 = 0 ∧ c_iv C (b + 37) 2 = 0 ∧ c_iv C (b + 11) 7 = 0 ∧ c_iv C (b + 18) 5 = 0 ∧ c_iv C (b + 0) 5 = 0) ∧ ∀ h, c_ar C (b + 9) h = 0) := by
  have G : GS b z 0 (fun _ => 0) (fun _ => 0) (fun _ _ => 0) (fun _ _ => 0) (fun _ _ => 0) C0 C0 := ⟨h1, rfl, hz, fun a _ => Agr.rf _ _, h0⟩
  have G := G.new0 1 rfl (.inr (12, [.null, .null, .null, .null, .null, .int 0, .null, .null, .null, .null, .null, .null])) 13 0 ⟨rfl, rfl⟩ rfl
  have e1 := G.1
  have G := G.new0 2 rfl (.inr (7, [.null, .int 0])) 8 0 ⟨rfl, rfl⟩ rfl
  refine WP.bb ?_
  have e2 := G.1
  have G := G.new0 3 rfl (.inl (0, 24, .inl fun _ => 0)) 20 24 ⟨rfl, rfl⟩ rfl
  refine G.pR (ci := 7) 1 4 e1 (congrArg some e2.symm) rfl (by decide) (fun C G => ?_)
  refine WP.rt ?_
  refine G.pR (ci := 12) 0 3 rfl (congrArg some e1.symm) rfl (by decide) (fun C G => ?_)
  have e3 := G.1
  have G := G.new0 4 rfl (.inr (0, [.int 0, .null, .int 0])) 1 0 ⟨rfl, rfl⟩ rfl
  refine WP.bb ?_
  refine WP.bb ?_
  refine WP.bb ?_
  refine WP.rt ?_
  refine G.pI (ci := 0) 3 e3 rfl (by decide) (fun C G => ?_)
  refine WP.rt ?_
  refine G.pR (ci := 0) 3 1 e3 (congrArg some (by rw [G.2.1, G.2.2.1])) rfl (by decide) (fun C G => ?_)
  refine WP.rt ?_
  refine G.pR (ci := 12) 0 5 rfl (congrArg some e3.symm) rfl (by decide) (fun C G => ?_)
  have e4 := G.1
  have G := G.new0 5 rfl (.inr (1, [.null, .null, .null, .null, .null, .null, .int 0, .int 0, .int 0])) 2 0 ⟨rfl, rfl⟩ rfl
  refine WP.bb ?_
  have e5 := G.1
  have G := G.new0 6 rfl (.inl (0, 10, .inl fun _ => 0)) 20 10 ⟨rfl, rfl⟩ rfl
  refine G.pR (ci := 1) 4 7 e4 (congrArg some e5.symm) rfl (by decide) (fun C G => ?_)
  have e6 := G.1
  have G := G.new0 7 rfl (.inl (0, 10, .inl fun _ => 0)) 20 10 ⟨rfl, rfl⟩ rfl
  refine G.pR (ci := 1) 4 8 e4 (congrArg some e6.symm) rfl (by decide) (fun C G => ?_)
  have e7 := G.1
  have G := G.new0 8 rfl (.inl (0, 10, .inl fun _ => 0)) 20 10 ⟨rfl, rfl⟩ rfl
  refine G.pR (ci := 1) 4 9 e4 (congrArg some e7.symm) rfl (by decide) (fun C G => ?_)
  have e8 := G.1
  have G := G.new0 9 rfl (.inl (0, 10, .inl fun _ => 0)) 20 10 ⟨rfl, rfl⟩ rfl
  refine G.pR (ci := 1) 4 10 e4 (congrArg some e8.symm) rfl (by decide) (fun C G => ?_)
  have e9 := G.1
  have G := G.new0 10 rfl (.inl (0, 10, .inl fun _ => 0)) 20 10 ⟨rfl, rfl⟩ rfl
  refine G.pR (ci := 1) 4 11 e4 (congrArg some e9.symm) rfl (by decide) (fun C G => ?_)
  have e10 := G.1
  have G := G.new0 11 rfl (.inl (0, 10, .inl fun _ => 0)) 20 10 ⟨rfl, rfl⟩ rfl
  refine G.pR (ci := 1) 4 12 e4 (congrArg some e10.symm) rfl (by decide) (fun C G => ?_)
  refine WP.rt ?_
  refine G.pR (ci := 12) 0 6 rfl (congrArg some e4.symm) rfl (by decide) (fun C G => ?_)
  have e11 := G.1
  have G := G.new0 12 rfl (.inr (2, [.null, .null, .null, .null, .null, .int 0, .int 0, .int 0])) 3 0 ⟨rfl, rfl⟩ rfl
  refine WP.bb ?_
  have e12 := G.1
  have G := G.new0 13 rfl (.inl (0, 10, .inl fun _ => 0)) 20 10 ⟨rfl, rfl⟩ rfl
  refine G.pR (ci := 2) 11 14 e11 (congrArg some e12.symm) rfl (by decide) (fun C G => ?_)
  have e13 := G.1
  have G := G.new0 14 rfl (.inl (0, 10, .inl fun _ => 0)) 20 10 ⟨rfl, rfl⟩ rfl
  refine G.pR (ci := 2) 11 15 e11 (congrArg some e13.symm) rfl (by decide) (fun C G => ?_)
  have e14 := G.1
  have G := G.new0 15 rfl (.inl (0, 300, .inl fun _ => 0)) 20 300 ⟨rfl, rfl⟩ rfl
  refine G.pR (ci := 2) 11 16 e11 (congrArg some e14.symm) rfl (by decide) (fun C G => ?_)
  have e15 := G.1
  have G := G.new0 16 rfl (.inl (0, 300, .inl fun _ => 0)) 20 300 ⟨rfl, rfl⟩ rfl
  refine G.pR (ci := 2) 11 17 e11 (congrArg some e15.symm) rfl (by decide) (fun C G => ?_)
  have e16 := G.1
  have G := G.new0 17 rfl (.inl (0, 4, .inl fun _ => 0)) 20 4 ⟨rfl, rfl⟩ rfl
  refine G.pR (ci := 2) 11 18 e11 (congrArg some e16.symm) rfl (by decide) (fun C G => ?_)
  refine WP.rt ?_
  refine G.pR (ci := 12) 0 13 rfl (congrArg some e11.symm) rfl (by decide) (fun C G => ?_)
  have e17 := G.1
  have G := G.new0 18 rfl (.inr (0, [.int 0, .null, .int 0])) 1 0 ⟨rfl, rfl⟩ rfl
  refine WP.bb ?_
  refine WP.bb ?_
  refine WP.bb ?_
  refine WP.rt ?_
  refine G.pI (ci := 0) 17 e17 rfl (by decide) (fun C G => ?_)
  refine WP.rt ?_
  refine G.pR (ci := 0) 17 1 e17 (congrArg some (by rw [G.2.1, G.2.2.1])) rfl (by decide) (fun C G => ?_)
  refine WP.rt ?_
  refine G.pR (ci := 12) 0 19 rfl (congrArg some e17.symm) rfl (by decide) (fun C G => ?_)
  have e18 := G.1
  have G := G.new0 19 rfl (.inr (10, [.null, .null, .null, .null, .int 0, .int 0, .int 0, .int 0, .int 0])) 11 0 ⟨rfl, rfl⟩ rfl
  refine WP.bb ?_
  have e19 := G.1
  have G := G.new0 20 rfl (.inr (2, [.null, .null, .null, .null, .null, .int 0, .int 0, .int 0])) 3 0 ⟨rfl, rfl⟩ rfl
  refine WP.bb ?_
  have e20 := G.1
  have G := G.new0 21 rfl (.inl (0, 10, .inl fun _ => 0)) 20 10 ⟨rfl, rfl⟩ rfl
  refine G.pR (ci := 2) 19 22 e19 (congrArg some e20.symm) rfl (by decide) (fun C G => ?_)
  have e21 := G.1
  have G := G.new0 22 rfl (.inl (0, 10, .inl fun _ => 0)) 20 10 ⟨rfl, rfl⟩ rfl
  refine G.pR (ci := 2) 19 23 e19 (congrArg some e21.symm) rfl (by decide) (fun C G => ?_)
  have e22 := G.1
  have G := G.new0 23 rfl (.inl (0, 300, .inl fun _ => 0)) 20 300 ⟨rfl, rfl⟩ rfl
  refine G.pR (ci := 2) 19 24 e19 (congrArg some e22.symm) rfl (by decide) (fun C G => ?_)
  have e23 := G.1
  have G := G.new0 24 rfl (.inl (0, 300, .inl fun _ => 0)) 20 300 ⟨rfl, rfl⟩ rfl
  refine G.pR (ci := 2) 19 25 e19 (congrArg some e23.symm) rfl (by decide) (fun C G => ?_)
  have e24 := G.1
  have G := G.new0 25 rfl (.inl (0, 4, .inl fun _ => 0)) 20 4 ⟨rfl, rfl⟩ rfl
  refine G.pR (ci := 2) 19 26 e19 (congrArg some e24.symm) rfl (by decide) (fun C G => ?_)
  refine WP.rt ?_
  refine G.pR (ci := 10) 18 21 e18 (congrArg some e19.symm) rfl (by decide) (fun C G => ?_)
  have e25 := G.1
  have G := G.new 26 rfl (.inl (4, 4, .inr (.inr (.inr (.inr fun i => if i < 4 then some (C.1 + 1 + i) else none))))) 24 4 ⟨rfl, rfl⟩ (fun i => if i < 4 then i + 28 else 0) (fun i => by
    show (if i < 4 then some (C.1 + 1 + i) else none) = rfc b z (if i < 4 then i + 28 else 0)
    by_cases hi : i < 4
    · rw [if_pos hi, if_pos hi, e25]
      exact congrArg some (show b + 25 + 1 + i = b + (i + 26) by omega)
    · rw [if_neg hi, if_neg hi]; rfl)
  have e26 := G.1
  have G := G.new0 27 rfl (.inl (0, 10, .inl fun _ => 0)) 20 10 ⟨rfl, rfl⟩ rfl
  have e27 := G.1
  have G := G.new0 28 rfl (.inl (0, 10, .inl fun _ => 0)) 20 10 ⟨rfl, rfl⟩ rfl
  have e28 := G.1
  have G := G.new0 29 rfl (.inl (0, 10, .inl fun _ => 0)) 20 10 ⟨rfl, rfl⟩ rfl
  have e29 := G.1
  have G := G.new0 30 rfl (.inl (0, 10, .inl fun _ => 0)) 20 10 ⟨rfl, rfl⟩ rfl
  rw [tnews_4]
  refine G.pR (ci := 10) 18 27 e18 (congrArg some e25.symm) rfl (by decide) (fun C G => ?_)
  have e30 := G.1
  have G := G.new0 31 rfl (.inl (0, 4, .inl fun _ => 0)) 20 4 ⟨rfl, rfl⟩ rfl
  refine G.pR (ci := 10) 18 32 e18 (congrArg some e30.symm) rfl (by decide) (fun C G => ?_)
  have e31 := G.1
  have G := G.new0 32 rfl (.inl (0, 4, .inl fun _ => 0)) 20 4 ⟨rfl, rfl⟩ rfl
  refine G.pR (ci := 10) 18 33 e18 (congrArg some e31.symm) rfl (by decide) (fun C G => ?_)
  refine G.pI (ci := 10) 18 e18 rfl (by decide) (fun C G => ?_)
  refine G.pI (ci := 10) 18 e18 rfl (by decide) (fun C G => ?_)
  refine WP.rt ?_
  refine G.pR (ci := 12) 0 20 rfl (congrArg some e18.symm) rfl (by decide) (fun C G => ?_)
  have e32 := G.1
  have G := G.new0 33 rfl (.inr (0, [.int 0, .null, .int 0])) 1 0 ⟨rfl, rfl⟩ rfl
  refine WP.bb ?_
  refine WP.bb ?_
  refine WP.bb ?_
  refine WP.rt ?_
  refine G.pI (ci := 0) 32 e32 rfl (by decide) (fun C G => ?_)
  refine WP.rt ?_
  refine G.pR (ci := 0) 32 1 e32 (congrArg some (by rw [G.2.1, G.2.2.1])) rfl (by decide) (fun C G => ?_)
  refine WP.rt ?_
  refine G.pR (ci := 12) 0 34 rfl (congrArg some e32.symm) rfl (by decide) (fun C G => ?_)
  have e33 := G.1
  have G := G.new0 34 rfl (.inr (5, [.null, .null, .null, .int 0, .long 0])) 6 0 ⟨rfl, rfl⟩ rfl
  refine WP.bb ?_
  have e34 := G.1
  have G := G.new0 35 rfl (.inl (1, 25, .inr (.inl fun _ => 0))) 21 25 ⟨rfl, rfl⟩ rfl
  refine G.pR (ci := 5) 33 36 e33 (congrArg some e34.symm) rfl (by decide) (fun C G => ?_)
  have e35 := G.1
  have G := G.new0 36 rfl (.inl (0, 25, .inl fun _ => 0)) 20 25 ⟨rfl, rfl⟩ rfl
  refine G.pR (ci := 5) 33 37 e33 (congrArg some e35.symm) rfl (by decide) (fun C G => ?_)
  have e36 := G.1
  have G := G.new0 37 rfl (.inl (0, 24, .inl fun _ => 0)) 20 24 ⟨rfl, rfl⟩ rfl
  refine G.pR (ci := 5) 33 38 e33 (congrArg some e36.symm) rfl (by decide) (fun C G => ?_)
  refine WP.rt ?_
  refine G.pR (ci := 12) 0 35 rfl (congrArg some e33.symm) rfl (by decide) (fun C G => ?_)
  have e37 := G.1
  have G := G.new0 38 rfl (.inr (6, [.null, .null, .int 0])) 7 0 ⟨rfl, rfl⟩ rfl
  refine WP.bb ?_
  have e38 := G.1
  have G := G.new0 39 rfl (.inl (0, 60, .inl fun _ => 0)) 20 60 ⟨rfl, rfl⟩ rfl
  refine G.pR (ci := 6) 37 40 e37 (congrArg some e38.symm) rfl (by decide) (fun C G => ?_)
  have e39 := G.1
  have G := G.new0 40 rfl (.inl (0, 60, .inl fun _ => 0)) 20 60 ⟨rfl, rfl⟩ rfl
  refine G.pR (ci := 6) 37 41 e37 (congrArg some e39.symm) rfl (by decide) (fun C G => ?_)
  refine WP.rt ?_
  refine G.pR (ci := 12) 0 39 rfl (congrArg some e37.symm) rfl (by decide) (fun C G => ?_)
  have e40 := G.1
  have G := G.new0 41 rfl (.inr (4, [.null, .int 0, .int 0, .int 0, .int 0, .int 0])) 5 0 ⟨rfl, rfl⟩ rfl
  refine WP.bb ?_
  have e41 := G.1
  have G := G.new0 42 rfl (.inr (2, [.null, .null, .null, .null, .null, .int 0, .int 0, .int 0])) 3 0 ⟨rfl, rfl⟩ rfl
  refine WP.bb ?_
  have e42 := G.1
  have G := G.new0 43 rfl (.inl (0, 10, .inl fun _ => 0)) 20 10 ⟨rfl, rfl⟩ rfl
  refine G.pR (ci := 2) 41 44 e41 (congrArg some e42.symm) rfl (by decide) (fun C G => ?_)
  have e43 := G.1
  have G := G.new0 44 rfl (.inl (0, 10, .inl fun _ => 0)) 20 10 ⟨rfl, rfl⟩ rfl
  refine G.pR (ci := 2) 41 45 e41 (congrArg some e43.symm) rfl (by decide) (fun C G => ?_)
  have e44 := G.1
  have G := G.new0 45 rfl (.inl (0, 300, .inl fun _ => 0)) 20 300 ⟨rfl, rfl⟩ rfl
  refine G.pR (ci := 2) 41 46 e41 (congrArg some e44.symm) rfl (by decide) (fun C G => ?_)
  have e45 := G.1
  have G := G.new0 46 rfl (.inl (0, 300, .inl fun _ => 0)) 20 300 ⟨rfl, rfl⟩ rfl
  refine G.pR (ci := 2) 41 47 e41 (congrArg some e45.symm) rfl (by decide) (fun C G => ?_)
  have e46 := G.1
  have G := G.new0 47 rfl (.inl (0, 4, .inl fun _ => 0)) 20 4 ⟨rfl, rfl⟩ rfl
  refine G.pR (ci := 2) 41 48 e41 (congrArg some e46.symm) rfl (by decide) (fun C G => ?_)
  refine WP.rt ?_
  refine G.pR (ci := 4) 40 43 e40 (congrArg some e41.symm) rfl (by decide) (fun C G => ?_)
  refine WP.rt ?_
  refine G.pR (ci := 12) 0 42 rfl (congrArg some e40.symm) rfl (by decide) (fun C G => ?_)
  have e47 := G.1
  have G := G.new0 48 rfl (.inr (3, [.null, .null, .null])) 4 0 ⟨rfl, rfl⟩ rfl
  refine WP.bb ?_
  have e48 := G.1
  have G := G.new0 49 rfl (.inl (0, 25, .inl fun _ => 0)) 20 25 ⟨rfl, rfl⟩ rfl
  refine G.pR (ci := 3) 47 50 e47 (congrArg some e48.symm) rfl (by decide) (fun C G => ?_)
  have e49 := G.1
  have G := G.new0 50 rfl (.inl (0, 6, .inl fun _ => 0)) 20 6 ⟨rfl, rfl⟩ rfl
  refine G.pR (ci := 3) 47 51 e47 (congrArg some e49.symm) rfl (by decide) (fun C G => ?_)
  have e50 := G.1
  have G := G.new0 51 rfl (.inl (2, 6, .inl fun _ => 0)) 22 6 ⟨rfl, rfl⟩ rfl
  refine G.pR (ci := 3) 47 52 e47 (congrArg some e50.symm) rfl (by decide) (fun C G => ?_)
  refine WP.rt ?_
  refine G.pR (ci := 12) 0 49 rfl (congrArg some e47.symm) rfl (by decide) (fun C G => ?_)
  refine WP.ret ?_
  have hk : ∀ j, 51 ≤ j → j < 81 → c_kd C (b + j) = 0 := fun j p q => (G.2.2.2.2 j).1.trans (by
    revert p
    revert q
    revert j
    decide +kernel)
  have k0 : c_kd C (b + 0) = 13 := (G.2.2.2.2 0).1
  have r0_0 : c_rv C (b + 0) 0 = some (b + 1) := (G.2.2.2.2 0).2.2.1 0
  have r0_1 : c_rv C (b + 0) 1 = some (b + 3) := (G.2.2.2.2 0).2.2.1 1
  have r0_2 : c_rv C (b + 0) 2 = some (b + 4) := (G.2.2.2.2 0).2.2.1 2
  have r0_3 : c_rv C (b + 0) 3 = some (b + 11) := (G.2.2.2.2 0).2.2.1 3
  have r0_4 : c_rv C (b + 0) 4 = some (b + 17) := (G.2.2.2.2 0).2.2.1 4
  have r0_6 : c_rv C (b + 0) 6 = some (b + 18) := (G.2.2.2.2 0).2.2.1 6
  have r0_7 : c_rv C (b + 0) 7 = some (b + 32) := (G.2.2.2.2 0).2.2.1 7
  have r0_8 : c_rv C (b + 0) 8 = some (b + 33) := (G.2.2.2.2 0).2.2.1 8
  have r0_9 : c_rv C (b + 0) 9 = some (b + 37) := (G.2.2.2.2 0).2.2.1 9
  have r0_10 : c_rv C (b + 0) 10 = some (b + 40) := (G.2.2.2.2 0).2.2.1 10
  have r0_11 : c_rv C (b + 0) 11 = some (b + 47) := (G.2.2.2.2 0).2.2.1 11
  have k1 : c_kd C (b + 1) = 8 := (G.2.2.2.2 1).1
  have r1_0 : c_rv C (b + 1) 0 = some (b + 2) := (G.2.2.2.2 1).2.2.1 0
  have k2 : c_kd C (b + 2) = 20 := (G.2.2.2.2 2).1
  have l2 : c_ln C (b + 2) = 24 := (G.2.2.2.2 2).2.1
  have k3 : c_kd C (b + 3) = 1 := (G.2.2.2.2 3).1
  have r3_1 : c_rv C (b + 3) 1 = some z := (G.2.2.2.2 3).2.2.1 1
  have k4 : c_kd C (b + 4) = 2 := (G.2.2.2.2 4).1
  have r4_0 : c_rv C (b + 4) 0 = some (b + 5) := (G.2.2.2.2 4).2.2.1 0
  have r4_1 : c_rv C (b + 4) 1 = some (b + 6) := (G.2.2.2.2 4).2.2.1 1
  have r4_2 : c_rv C (b + 4) 2 = some (b + 7) := (G.2.2.2.2 4).2.2.1 2
  have r4_3 : c_rv C (b + 4) 3 = some (b + 8) := (G.2.2.2.2 4).2.2.1 3
  have r4_4 : c_rv C (b + 4) 4 = some (b + 9) := (G.2.2.2.2 4).2.2.1 4
  have r4_5 : c_rv C (b + 4) 5 = some (b + 10) := (G.2.2.2.2 4).2.2.1 5
  have k5 : c_kd C (b + 5) = 20 := (G.2.2.2.2 5).1
  have l5 : c_ln C (b + 5) = 10 := (G.2.2.2.2 5).2.1
  have k6 : c_kd C (b + 6) = 20 := (G.2.2.2.2 6).1
  have l6 : c_ln C (b + 6) = 10 := (G.2.2.2.2 6).2.1
  have k7 : c_kd C (b + 7) = 20 := (G.2.2.2.2 7).1
  have l7 : c_ln C (b + 7) = 10 := (G.2.2.2.2 7).2.1
  have k8 : c_kd C (b + 8) = 20 := (G.2.2.2.2 8).1
  have l8 : c_ln C (b + 8) = 10 := (G.2.2.2.2 8).2.1
  have k9 : c_kd C (b + 9) = 20 := (G.2.2.2.2 9).1
  have l9 : c_ln C (b + 9) = 10 := (G.2.2.2.2 9).2.1
  have k10 : c_kd C (b + 10) = 20 := (G.2.2.2.2 10).1
  have l10 : c_ln C (b + 10) = 10 := (G.2.2.2.2 10).2.1
  have k11 : c_kd C (b + 11) = 3 := (G.2.2.2.2 11).1
  have r11_0 : c_rv C (b + 11) 0 = some (b + 12) := (G.2.2.2.2 11).2.2.1 0
  have r11_1 : c_rv C (b + 11) 1 = some (b + 13) := (G.2.2.2.2 11).2.2.1 1
  have r11_2 : c_rv C (b + 11) 2 = some (b + 14) := (G.2.2.2.2 11).2.2.1 2
  have r11_3 : c_rv C (b + 11) 3 = some (b + 15) := (G.2.2.2.2 11).2.2.1 3
  have r11_4 : c_rv C (b + 11) 4 = some (b + 16) := (G.2.2.2.2 11).2.2.1 4
  have k12 : c_kd C (b + 12) = 20 := (G.2.2.2.2 12).1
  have l12 : c_ln C (b + 12) = 10 := (G.2.2.2.2 12).2.1
  have k13 : c_kd C (b + 13) = 20 := (G.2.2.2.2 13).1
  have l13 : c_ln C (b + 13) = 10 := (G.2.2.2.2 13).2.1
  have k14 : c_kd C (b + 14) = 20 := (G.2.2.2.2 14).1
  have l14 : c_ln C (b + 14) = 300 := (G.2.2.2.2 14).2.1
  have k15 : c_kd C (b + 15) = 20 := (G.2.2.2.2 15).1
  have l15 : c_ln C (b + 15) = 300 := (G.2.2.2.2 15).2.1
  have k16 : c_kd C (b + 16) = 20 := (G.2.2.2.2 16).1
  have l16 : c_ln C (b + 16) = 4 := (G.2.2.2.2 16).2.1
  have k17 : c_kd C (b + 17) = 1 := (G.2.2.2.2 17).1
  have r17_1 : c_rv C (b + 17) 1 = some z := (G.2.2.2.2 17).2.2.1 1
  have k18 : c_kd C (b + 18) = 11 := (G.2.2.2.2 18).1
  have r18_0 : c_rv C (b + 18) 0 = some (b + 19) := (G.2.2.2.2 18).2.2.1 0
  have r18_1 : c_rv C (b + 18) 1 = some (b + 25) := (G.2.2.2.2 18).2.2.1 1
  have r18_2 : c_rv C (b + 18) 2 = some (b + 30) := (G.2.2.2.2 18).2.2.1 2
  have r18_3 : c_rv C (b + 18) 3 = some (b + 31) := (G.2.2.2.2 18).2.2.1 3
  have k19 : c_kd C (b + 19) = 3 := (G.2.2.2.2 19).1
  have r19_0 : c_rv C (b + 19) 0 = some (b + 20) := (G.2.2.2.2 19).2.2.1 0
  have r19_1 : c_rv C (b + 19) 1 = some (b + 21) := (G.2.2.2.2 19).2.2.1 1
  have r19_2 : c_rv C (b + 19) 2 = some (b + 22) := (G.2.2.2.2 19).2.2.1 2
  have r19_3 : c_rv C (b + 19) 3 = some (b + 23) := (G.2.2.2.2 19).2.2.1 3
  have r19_4 : c_rv C (b + 19) 4 = some (b + 24) := (G.2.2.2.2 19).2.2.1 4
  have k20 : c_kd C (b + 20) = 20 := (G.2.2.2.2 20).1
  have l20 : c_ln C (b + 20) = 10 := (G.2.2.2.2 20).2.1
  have k21 : c_kd C (b + 21) = 20 := (G.2.2.2.2 21).1
  have l21 : c_ln C (b + 21) = 10 := (G.2.2.2.2 21).2.1
  have k22 : c_kd C (b + 22) = 20 := (G.2.2.2.2 22).1
  have l22 : c_ln C (b + 22) = 300 := (G.2.2.2.2 22).2.1
  have k23 : c_kd C (b + 23) = 20 := (G.2.2.2.2 23).1
  have l23 : c_ln C (b + 23) = 300 := (G.2.2.2.2 23).2.1
  have k24 : c_kd C (b + 24) = 20 := (G.2.2.2.2 24).1
  have l24 : c_ln C (b + 24) = 4 := (G.2.2.2.2 24).2.1
  have k25 : c_kd C (b + 25) = 24 := (G.2.2.2.2 25).1
  have l25 : c_ln C (b + 25) = 4 := (G.2.2.2.2 25).2.1
  have o25_0 : c_ro C (b + 25) 0 = some (b + 26) := (G.2.2.2.2 25).2.2.2.1 0
  have o25_1 : c_ro C (b + 25) 1 = some (b + 27) := (G.2.2.2.2 25).2.2.2.1 1
  have o25_2 : c_ro C (b + 25) 2 = some (b + 28) := (G.2.2.2.2 25).2.2.2.1 2
  have o25_3 : c_ro C (b + 25) 3 = some (b + 29) := (G.2.2.2.2 25).2.2.2.1 3
  have k26 : c_kd C (b + 26) = 20 := (G.2.2.2.2 26).1
  have l26 : c_ln C (b + 26) = 10 := (G.2.2.2.2 26).2.1
  have k27 : c_kd C (b + 27) = 20 := (G.2.2.2.2 27).1
  have l27 : c_ln C (b + 27) = 10 := (G.2.2.2.2 27).2.1
  have k28 : c_kd C (b + 28) = 20 := (G.2.2.2.2 28).1
  have l28 : c_ln C (b + 28) = 10 := (G.2.2.2.2 28).2.1
  have k29 : c_kd C (b + 29) = 20 := (G.2.2.2.2 29).1
  have l29 : c_ln C (b + 29) = 10 := (G.2.2.2.2 29).2.1
  have k30 : c_kd C (b + 30) = 20 := (G.2.2.2.2 30).1
  have l30 : c_ln C (b + 30) = 4 := (G.2.2.2.2 30).2.1
  have k31 : c_kd C (b + 31) = 20 := (G.2.2.2.2 31).1
  have l31 : c_ln C (b + 31) = 4 := (G.2.2.2.2 31).2.1
  have k32 : c_kd C (b + 32) = 1 := (G.2.2.2.2 32).1
  have r32_1 : c_rv C (b + 32) 1 = some z := (G.2.2.2.2 32).2.2.1 1
  have k33 : c_kd C (b + 33) = 6 := (G.2.2.2.2 33).1
  have r33_0 : c_rv C (b + 33) 0 = some (b + 34) := (G.2.2.2.2 33).2.2.1 0
  have r33_1 : c_rv C (b + 33) 1 = some (b + 35) := (G.2.2.2.2 33).2.2.1 1
  have r33_2 : c_rv C (b + 33) 2 = some (b + 36) := (G.2.2.2.2 33).2.2.1 2
  have k34 : c_kd C (b + 34) = 21 := (G.2.2.2.2 34).1
  have l34 : c_ln C (b + 34) = 25 := (G.2.2.2.2 34).2.1
  have k35 : c_kd C (b + 35) = 20 := (G.2.2.2.2 35).1
  have l35 : c_ln C (b + 35) = 25 := (G.2.2.2.2 35).2.1
  have k36 : c_kd C (b + 36) = 20 := (G.2.2.2.2 36).1
  have l36 : c_ln C (b + 36) = 24 := (G.2.2.2.2 36).2.1
  have k37 : c_kd C (b + 37) = 7 := (G.2.2.2.2 37).1
  have r37_0 : c_rv C (b + 37) 0 = some (b + 38) := (G.2.2.2.2 37).2.2.1 0
  have r37_1 : c_rv C (b + 37) 1 = some (b + 39) := (G.2.2.2.2 37).2.2.1 1
  have k38 : c_kd C (b + 38) = 20 := (G.2.2.2.2 38).1
  have l38 : c_ln C (b + 38) = 60 := (G.2.2.2.2 38).2.1
  have k39 : c_kd C (b + 39) = 20 := (G.2.2.2.2 39).1
  have l39 : c_ln C (b + 39) = 60 := (G.2.2.2.2 39).2.1
  have k40 : c_kd C (b + 40) = 5 := (G.2.2.2.2 40).1
  have r40_0 : c_rv C (b + 40) 0 = some (b + 41) := (G.2.2.2.2 40).2.2.1 0
  have k41 : c_kd C (b + 41) = 3 := (G.2.2.2.2 41).1
  have r41_0 : c_rv C (b + 41) 0 = some (b + 42) := (G.2.2.2.2 41).2.2.1 0
  have r41_1 : c_rv C (b + 41) 1 = some (b + 43) := (G.2.2.2.2 41).2.2.1 1
  have r41_2 : c_rv C (b + 41) 2 = some (b + 44) := (G.2.2.2.2 41).2.2.1 2
  have r41_3 : c_rv C (b + 41) 3 = some (b + 45) := (G.2.2.2.2 41).2.2.1 3
  have r41_4 : c_rv C (b + 41) 4 = some (b + 46) := (G.2.2.2.2 41).2.2.1 4
  have k42 : c_kd C (b + 42) = 20 := (G.2.2.2.2 42).1
  have l42 : c_ln C (b + 42) = 10 := (G.2.2.2.2 42).2.1
  have k43 : c_kd C (b + 43) = 20 := (G.2.2.2.2 43).1
  have l43 : c_ln C (b + 43) = 10 := (G.2.2.2.2 43).2.1
  have k44 : c_kd C (b + 44) = 20 := (G.2.2.2.2 44).1
  have l44 : c_ln C (b + 44) = 300 := (G.2.2.2.2 44).2.1
  have k45 : c_kd C (b + 45) = 20 := (G.2.2.2.2 45).1
  have l45 : c_ln C (b + 45) = 300 := (G.2.2.2.2 45).2.1
  have k46 : c_kd C (b + 46) = 20 := (G.2.2.2.2 46).1
  have l46 : c_ln C (b + 46) = 4 := (G.2.2.2.2 46).2.1
  have k47 : c_kd C (b + 47) = 4 := (G.2.2.2.2 47).1
  have r47_0 : c_rv C (b + 47) 0 = some (b + 48) := (G.2.2.2.2 47).2.2.1 0
  have r47_1 : c_rv C (b + 47) 1 = some (b + 49) := (G.2.2.2.2 47).2.2.1 1
  have r47_2 : c_rv C (b + 47) 2 = some (b + 50) := (G.2.2.2.2 47).2.2.1 2
  have k48 : c_kd C (b + 48) = 20 := (G.2.2.2.2 48).1
  have l48 : c_ln C (b + 48) = 25 := (G.2.2.2.2 48).2.1
  have k49 : c_kd C (b + 49) = 20 := (G.2.2.2.2 49).1
  have l49 : c_ln C (b + 49) = 6 := (G.2.2.2.2 49).2.1
  have k50 : c_kd C (b + 50) = 22 := (G.2.2.2.2 50).1
  have l50 : c_ln C (b + 50) = 6 := (G.2.2.2.2 50).2.1
  have hm : ∀ i, i < 4 → (sh C).2.2.2 (b + 18 + 7) i = some (b + 18 + 8 + i) ∧ (sh C).1 (b + 18 + 8 + i) = 20 ∧ (sh C).2.1 (b + 18 + 8 + i) = 10 := fun i hi => match i, hi with
    | 0, _ => ⟨o25_0, k26, l26⟩
    | 1, _ => ⟨o25_1, k27, l27⟩
    | 2, _ => ⟨o25_2, k28, l28⟩
    | 3, _ => ⟨o25_3, k29, l29⟩
  exact ⟨G.1, G.2.1, G.2.2.2.1, ⟨⟨k0, r0_0, r0_1, r0_2, r0_3, r0_4, r0_6, r0_7, r0_8, r0_9, r0_10, r0_11⟩, ⟨k1, r1_0, k2, l2⟩, ⟨k4, r4_0, k5, l5, r4_1, k6, l6, r4_2, k7, l7, r4_3, k8, l8, r4_4, k9, l9, r4_5, k10, l10⟩, ⟨k11, r11_0, k12, l12, r11_1, k13, l13, r11_2, k14, l14, r11_3, k15, l15, r11_4, k16, l16⟩, ⟨k18, r18_0, ⟨k19, r19_0, k20, l20, r19_1, k21, l21, r19_2, k22, l22, r19_3, k23, l23, r19_4, k24, l24⟩, r18_1, k25, l25, hm, r18_2, k30, l30, r18_3, k31, l31⟩, ⟨k33, r33_0, k34, l34, r33_1, k35, l35, r33_2, k36, l36⟩, ⟨k37, r37_0, k38, l38, r37_1, k39, l39⟩, ⟨k40, r40_0, ⟨k41, r41_0, k42, l42, r41_1, k43, l43, r41_2, k44, l44, r41_3, k45, l45, r41_4, k46, l46⟩⟩, ⟨k47, r47_0, k48, l48, r47_1, k49, l49, r47_2, k50, l50⟩, k3, k17, k32⟩, hk, ⟨r3_1, r17_1, r32_1⟩, ⟨(G.2.2.2.2 3).2.2.2.2.1 2, (G.2.2.2.2 17).2.2.2.2.1 2, (G.2.2.2.2 32).2.2.2.2.1 2, (G.2.2.2.2 4).2.2.2.2.1 6, (G.2.2.2.2 4).2.2.2.2.1 7, (G.2.2.2.2 4).2.2.2.2.1 8, (G.2.2.2.2 1).2.2.2.2.1 1, (G.2.2.2.2 37).2.2.2.2.1 2, (G.2.2.2.2 11).2.2.2.2.1 7, (G.2.2.2.2 18).2.2.2.2.1 5, (G.2.2.2.2 0).2.2.2.2.1 5⟩, (G.2.2.2.2 9).2.2.2.2.2⟩
