/-! rows over the abstract heap -/
theorem HR.up {G : HG} {h : AH} {H H1 : Heap} {ws : va_W} {k a : Nat} {e0 e : AE} (hz : H.size = h.1) (hzz : h.2.1 = G.2.1) (hin : ∀ (a : Nat) (e : AE), h.2.2 a = some e → (∃ k : Nat, ws[k]? = some (a, ha_c G.2.2.1 e)) ∨ (a = h.2.1.1 ∧ e = ha_z)) (hk : ws[k]? = some (a, ha_c G.2.2.1 e0)) (hs1 : H1.size = H.size) (hP1 : va_P G.2.2.2 vwCl (ws.set k (a, ha_c G.2.2.1 e)) H1) (hD1 : va_D (ha_A G) (ws.set k (a, ha_c G.2.2.1 e))) : HR G (hup h a e) H1 := by
  refine ⟨hs1.trans hz, hzz, _, hP1, hD1, fun a' e' h' => ?_⟩
  have hl := (List.getElem?_eq_some_iff.mp hk).1
  by_cases ha : a' = a
  · subst ha
    have h2 : (some e : Option AE) = some e' := by rw [← h']; simp [hup, va_up]
    cases h2
    exact Or.inl ⟨k, List.getElem?_set_self hl⟩
  · have h2 : h.2.2 a' = some e' := by rw [← h']; simp [hup, va_up, ha]
    rcases hin a' e' h2 with ⟨k', hk'⟩ | h3
    · refine Or.inl ⟨k', ?_⟩
      rw [List.getElem?_set_ne, hk']
      intro q
      subst q
      rw [hk] at hk'
      exact ha (congrArg Prod.fst (Option.some.inj hk')).symm
    · exact Or.inr h3
theorem HR.push {G : HG} {h : AH} {H H1 : Heap} {ws : va_W} {e : AE} (hz : H.size = h.1) (hzz : h.2.1 = G.2.1) (hP : va_P G.2.2.2 vwCl ws H) (hin : ∀ (a : Nat) (e : AE), h.2.2 a = some e → (∃ k : Nat, ws[k]? = some (a, ha_c G.2.2.1 e)) ∨ (a = h.2.1.1 ∧ e = ha_z)) (hs1 : H1.size = H.size + 1) (hP1 : va_P G.2.2.2 vwCl (ws ++ [(H.size, ha_c G.2.2.1 e)]) H1) (hD1 : va_D (ha_A G) (ws ++ [(H.size, ha_c G.2.2.1 e)])) : HR G (hnew h e) H1 := by
  refine ⟨by rw [hs1, hz]; rfl, hzz, _, hP1, hD1, fun a' e' h' => ?_⟩
  by_cases ha : a' = h.1
  · subst ha
    have h2 : (some e : Option AE) = some e' := by rw [← h']; simp [hnew, va_up]
    cases h2
    exact Or.inl ⟨ws.length, by rw [List.getElem?_append_right (Nat.le_refl _), Nat.sub_self, ← hz]; rfl⟩
  · have h2 : h.2.2 a' = some e' := by rw [← h']; simp [hnew, va_up, ha]
    rcases hin a' e' h2 with ⟨k', hk'⟩ | h3
    · exact Or.inl ⟨k', by rw [List.getElem?_append_left (List.getElem?_eq_some_iff.mp hk').1]; exact hk'⟩
    · exact Or.inr h3
def hpairs (Y : Nat → ClassId) : Nat → List AE → va_W
  | _, [] => []
  | b, e :: es => (b, ha_c Y e) :: hpairs Y (b + 1) es
theorem hpairs_at (Y : Nat → ClassId) : ∀ (es : List AE) (b i : Nat), (hpairs Y b es)[i]? = (es[i]?).map (fun e => (b + i, ha_c Y e))
  | [], _, _ => rfl
  | e :: es, b, 0 => rfl
  | e :: es, b, i + 1 => by
    show (hpairs Y (b + 1) es)[i]? = (es[i]?).map _
    rw [hpairs_at Y es (b + 1) i, show b + 1 + i = b + (i + 1) by omega]
theorem HR.pushes {G : HG} {h : AH} {H H1 : Heap} {ws : va_W} {es : List AE} (hz : H.size = h.1) (hzz : h.2.1 = G.2.1) (hP : va_P G.2.2.2 vwCl ws H) (hD : va_D (ha_A G) ws) (hin : ∀ (a : Nat) (e : AE), h.2.2 a = some e → (∃ k : Nat, ws[k]? = some (a, ha_c G.2.2.1 e)) ∨ (a = h.2.1.1 ∧ e = ha_z)) (hs1 : H1.size = H.size + es.length) (hold : ∀ x : Nat, x < H.size → H1[x]? = H[x]?) (hes : ∀ (i : Nat) (x : AE), es[i]? = some x → va_at G.2.2.2 vwCl (H.size + i, ha_c G.2.2.1 x) H1) (hb : G.1 ≤ H.size) : HR G (hnews h es) H1 := by
  have hat : ∀ (k : Nat) (q : Nat × va_E), (hpairs G.2.2.1 H.size es)[k]? = some q → ∃ x, es[k]? = some x ∧ q = (H.size + k, ha_c G.2.2.1 x) := fun k q hq => by
    rw [hpairs_at] at hq
    cases hx : es[k]? with
    | none => rw [hx] at hq; cases hq
    | some x => rw [hx] at hq; cases hq; exact ⟨x, rfl, rfl⟩
  refine ⟨by rw [hs1, hnews_1, hz], by rw [hnews_2]; exact hzz, ws ++ hpairs G.2.2.1 H.size es, (hP.kept (fun k q hq => hold q.1 ((hP k q hq).lt))).app (fun k q hq => ?_), va_D.app hD ⟨fun i j x y hi hj hxy => ?_, fun k q hq => ?_⟩ (fun i j x y hi hj hxy => ?_), fun a e ha => ?_⟩
  · obtain ⟨x, h1, rfl⟩ := hat k q hq
    exact hes k x h1
  · obtain ⟨u, -, rfl⟩ := hat i x hi
    obtain ⟨w, -, rfl⟩ := hat j y hj
    have : H.size + i = H.size + j := hxy
    omega
  · obtain ⟨u, -, rfl⟩ := hat k q hq
    show G.1 ≤ H.size + k
    omega
  · obtain ⟨w, -, rfl⟩ := hat j y hj
    have h1 := (hP i x hi).lt
    have : x.1 = H.size + j := hxy
    omega
  · rcases hnews_at es h a e ha with ⟨i, h1, h2⟩ | h1
    · refine Or.inl ⟨ws.length + i, ?_⟩
      rw [List.getElem?_append_right (by omega), show ws.length + i - ws.length = i by omega, hpairs_at, h2, h1, hz]
      rfl
    · rw [hnews_2]
      rcases hin a e h1 with ⟨k, hk⟩ | hk
      · exact Or.inl ⟨k, by rw [List.getElem?_append_left (List.getElem?_eq_some_iff.mp hk).1]; exact hk⟩
      · exact Or.inr hk
theorem vr_outer (c : ClassId) (N h0 : Nat) : ∀ i : Nat, Jvm.Free.Multi.outerC c N h0 i = arrV c N (fun j => va_rf (if j < i then some (h0 + 1 + j) else none))
  | 0 => by
    show ({ cls := c, slots := Array.replicate N .null, vm := .none } : Cell) = _
    rw [arrV_new]
    refine congrArg (arrV c N) (funext fun j => ?_)
    simp [va_rf]
  | i + 1 => by
    show (Jvm.Free.Multi.outerC c N h0 i).setSlot i (.ref (h0 + 1 + i)) = _
    rw [vr_outer c N h0 i, arrV_store]
    refine congrArg (arrV c N) (funext fun j => ?_)
    by_cases e : j = i
    · subst e
      simp [updV, va_rf]
    · by_cases h : j < i
      · simp [updV, e, h, Nat.lt_succ_of_lt h]
      · simp [updV, e, h, show ¬ j < i + 1 by omega]
/-- a class of the worlds: its place, its words among gt, its types, its names apart -/
def KC (ci : Nat) (C : String) (T : u_T) (N : Nat) (ty : Nat → FieldType) : Prop := vwCl[ci]? = some (C, T, N) ∧ (∀ w ∈ u_ws C T N, w ∈ gt) ∧ (∀ k, k < N → parseFieldDescriptor (T k).2.2.1 = some (ty k)) ∧ ∀ a, a < N → ∀ b, b < N → a ≠ b → (T a).2.1 ≠ (T b).2.1
section PTH
variable {X : MX} {cc : ByteArray} {nL : Nat} {own : String} {ret : Option FieldType} {rm : Room} {cells slots pc : Nat} {lv : List (Nat × Value)} {st : List Value} {h h' : AH} {ci N : Nat} {Cn : String} {T : u_T} {ty : Nat → FieldType} {a : Nat}
theorem pt_getV (C : CX X cc nL own ret rm) (K : KC ci Cn T N ty) {ref : String} {index : Nat} (k : Nat) (hk : k < N) (hlink : Cond.fieldLink own index ref (T k).2.1 (T k).2.2.1 ∈ gt) (hsame : (T k).1 = ref ∨ Cond.sameField ref (T k).1 (T k).2.1 (T k).2.2.1 ∈ gt) {v : Value} (g : ∃ fs : List Value, h.2.2 a = some (.inr (ci, fs)) ∧ fs[k]? = some v) (hd : decode cc pc = .ok (.getfield index, 3)) (kk : PT X nL cells slots (pc + 3) lv (v :: st) h) : PT X nL cells slots pc lv (.ref a :: st) h := by
  obtain ⟨p, l, e, R, s, m, args, below, meth, c, Q, G⟩ := X
  obtain ⟨hx, hb, hml, hown, hts, hsf, hR, hrt, hlk⟩ := C
  intro H locs ls hh hS hl
  obtain ⟨fs, hf, hv⟩ := g
  obtain ⟨hz, hzz, ws, hP, hD, hin⟩ := id hh
  rcases hin _ _ hf with ⟨q, hq⟩ | ⟨-, hq⟩
  · refine va_get hx hb hts K.2.1 hown hsf.1 hP q hq K.1 k hk (hts _ hlink) (fun x9 h9 => ?_) hv hd (kk H locs ls hh hS hl)
    rcases hsame with e | e
    · rw [← e]; exact h9
    · exact u_same (hts _ e) x9 h9
  · cases hq
theorem pt_getI (C : CX X cc nL own ret rm) (K : KC ci Cn T N ty) {ref : String} {index : Nat} (k : Nat) (hk : k < N) (hlink : Cond.fieldLink own index ref (T k).2.1 (T k).2.2.1 ∈ gt) (hsame : (T k).1 = ref ∨ Cond.sameField ref (T k).1 (T k).2.1 (T k).2.2.1 ∈ gt) {v : Int32} (g : hgI h a ci k = some v) (hd : decode cc pc = .ok (.getfield index, 3)) (kk : PT X nL cells slots (pc + 3) lv (.int v :: st) h) : PT X nL cells slots pc lv (.ref a :: st) h := pt_getV C K k hk hlink hsame (hgI_spec g) hd kk
theorem pt_getJ (C : CX X cc nL own ret rm) (K : KC ci Cn T N ty) {ref : String} {index : Nat} (k : Nat) (hk : k < N) (hlink : Cond.fieldLink own index ref (T k).2.1 (T k).2.2.1 ∈ gt) (hsame : (T k).1 = ref ∨ Cond.sameField ref (T k).1 (T k).2.1 (T k).2.2.1 ∈ gt) {v : Int64} (g : hgJ h a ci k = some v) (hd : decode cc pc = .ok (.getfield index, 3)) (kk : PT X nL cells slots (pc + 3) lv (.long v :: st) h) : PT X nL cells slots pc lv (.ref a :: st) h := pt_getV C K k hk hlink hsame (hgJ_spec g) hd kk
theorem pt_getR (C : CX X cc nL own ret rm) (K : KC ci Cn T N ty) {ref : String} {index : Nat} (k : Nat) (hk : k < N) (hlink : Cond.fieldLink own index ref (T k).2.1 (T k).2.2.1 ∈ gt) (hsame : (T k).1 = ref ∨ Cond.sameField ref (T k).1 (T k).2.1 (T k).2.2.1 ∈ gt) {v : Nat} (g : hgR h a ci k = some v) (hd : decode cc pc = .ok (.getfield index, 3)) (kk : PT X nL cells slots (pc + 3) lv (.ref v :: st) h) : PT X nL cells slots pc lv (.ref a :: st) h := pt_getV C K k hk hlink hsame (hgR_spec g) hd kk
theorem pt_put (C : CX X cc nL own ret rm) (K : KC ci Cn T N ty) {ref : String} {index : Nat} (k : Nat) (hk : k < N) (hlink : Cond.fieldLink own index ref (T k).2.1 (T k).2.2.1 ∈ gt) (hsame : (T k).1 = ref ∨ Cond.sameField ref (T k).1 (T k).2.1 (T k).2.2.1 ∈ gt) (hfin : (T k).2.2.2 = false) {v : Value} (hn : narrow (ty k) v = v) (hfit : fits (ty k) v = true) (g : hpF h a ci k v = some h') (hd : decode cc pc = .ok (.putfield index, 3)) (kk : PT X nL cells slots (pc + 3) lv st h') : PT X nL cells slots pc lv (v :: .ref a :: st) h := by
  obtain ⟨p, l, e, R, s, m, args, below, meth, c, Q, G⟩ := X
  obtain ⟨hx, hb, hml, hown, hts, hsf, hR, hrt, hlk⟩ := C
  intro H locs ls hh hS hl
  obtain ⟨fs, hf, hlt, rfl⟩ := hpF_spec g
  obtain ⟨hz, hzz, ws, hP, hD, hin⟩ := id hh
  rcases hin _ _ hf with ⟨q, hq⟩ | ⟨-, hq⟩
  · have hsm : ∀ x, s.fieldFound? (T k).1 (T k).2.1 (T k).2.2.1 = some x → s.fieldFound? ref (T k).2.1 (T k).2.2.1 = some x := fun x9 h9 => by
      rcases hsame with e | e
      · rw [← e]; exact h9
      · exact u_same (hts _ e) x9 h9
    have hap := va_apart (own := own) hts K.2.1 ty K.2.2.1 K.2.2.2 hsf.1 K.1
    obtain ⟨r, h1, cell, q1, q2, q3, q4⟩ := hP q _ hq
    have hr : r = (Cn, T, N) := Option.some.inj (h1.symm.trans K.1)
    subst hr
    obtain ⟨hSl, hfc, kC, hkC, hkind⟩ := hsf.1.1 ci _ K.1
    obtain ⟨cf, kf, fi, f, hi, hsl⟩ := hSl k hk
    have hlay := hts _ (K.2.1 _ (u_in_lay hk))
    unfold u_lay at hlay
    rw [if_neg (by rw [hfin]; decide)] at hlay
    have hst := (u_facts hfc hkC (u_lays hts K.2.1 hk) hi).1
    have h6 := u_store hfc hkC hkind hlay hi (K.2.2.1 k hk) hn hfit
    refine W.putK hx hb (f := f) ⟨hown, hts _ hlink, ⟨_, _, _, hsm _ hi⟩, hst⟩ (by rw [q2]; exact h6) q1 q3 (by rw [hsl]; exact k2_hasslot (q4 k hk)) rfl rfl hd fun H' e1 e2 e3 => ?_
    rw [hsl] at e1 ⊢
    exact kk H' _ ls (HR.up hz hzz hin hq e2 (hP.set hD hq ⟨_, K.1, t_OB.to (V := updV (vp_V fs) k v) ⟨_, e1, q2, q3, t_set q4 hap hk v⟩ (fun j _ => vp_updV_set hlt v j)⟩ e3) (hD.set hq)) (hS.put e2 e3 (hD.2 q _ hq)) hl
  · cases hq
/-- this method is a constructor -/
def IN (X : MX) : Prop := X.2.2.2.2.2.2.2.2.1.name = "<init>"
theorem pt_putF (C : CX X cc nL own ret rm) (I : IN X) (K : KC ci Cn T N ty) {ref : String} {index : Nat} (k : Nat) (hk : k < N) (hlink : Cond.fieldLink own index ref (T k).2.1 (T k).2.2.1 ∈ gt) (hsame : (T k).1 = ref ∨ Cond.sameField ref (T k).1 (T k).2.1 (T k).2.2.1 ∈ gt) (hfin : (T k).2.2.2 = true) (hdecl : (T k).1 = own) {v : Value} (hn : narrow (ty k) v = v) (hfit : fits (ty k) v = true) (g : hpF h a ci k v = some h') (hd : decode cc pc = .ok (.putfield index, 3)) (kk : PT X nL cells slots (pc + 3) lv st h') : PT X nL cells slots pc lv (v :: .ref a :: st) h := by
  obtain ⟨p, l, e, R, s, m, args, below, meth, c, Q, G⟩ := X
  have hin2 : meth.name = "<init>" := I
  obtain ⟨hx, hb, hml, hown, hts, hsf, hR, hrt, hlk⟩ := C
  intro H locs ls hh hS hl
  obtain ⟨fs, hf, hlt, rfl⟩ := hpF_spec g
  obtain ⟨hz, hzz, ws, hP, hD, hin⟩ := id hh
  rcases hin _ _ hf with ⟨q, hq⟩ | ⟨-, hq⟩
  · have hsm : ∀ x, s.fieldFound? (T k).1 (T k).2.1 (T k).2.2.1 = some x → s.fieldFound? ref (T k).2.1 (T k).2.2.1 = some x := fun x9 h9 => by
      rcases hsame with e | e
      · rw [← e]; exact h9
      · exact u_same (hts _ e) x9 h9
    have hap := va_apart (own := own) hts K.2.1 ty K.2.2.1 K.2.2.2 hsf.1 K.1
    obtain ⟨r, h1, cell, q1, q2, q3, q4⟩ := hP q _ hq
    have hr : r = (Cn, T, N) := Option.some.inj (h1.symm.trans K.1)
    subst hr
    obtain ⟨hSl, hfc, kC, hkC, hkind⟩ := hsf.1.1 ci _ K.1
    obtain ⟨cf, kf, fi, f, hi, hsl⟩ := hSl k hk
    have hlay := hts _ (K.2.1 _ (u_in_lay hk))
    unfold u_lay at hlay
    rw [if_pos hfin] at hlay
    have hst := (u_facts hfc hkC (u_lays hts K.2.1 hk) hi).1
    have hcf : m.cls = cf := by
      obtain ⟨_, _, c', _, _, _, -, -, hf', -, -, -, hown2, -⟩ := Cond.laysFinal_spec hlay
      have e1 : c' = cf := by have := hi.symm.trans hf'; simp at this; exact this.1.symm
      rw [hdecl] at hown2
      rw [← e1]; exact Option.some.inj (hown.symm.trans hown2)
    have h6 := u_fits hfc hkC hkind (Or.inr hlay) hi (K.2.2.1 k hk) hn hfit
    refine W.putFinK hx hb hown (hts _ hlink) (hsm _ hi) hst hcf hin2 (by rw [q2]; exact h6) q1 q3 (by rw [hsl]; exact k2_hasslot (q4 k hk)) rfl rfl hd fun H' e1 e2 e3 => ?_
    rw [hsl] at e1 ⊢
    exact kk H' _ ls (HR.up hz hzz hin hq e2 (hP.set hD hq ⟨_, K.1, t_OB.to (V := updV (vp_V fs) k v) ⟨_, e1, q2, q3, t_set q4 hap hk v⟩ (fun j _ => vp_updV_set hlt v j)⟩ e3) (hD.set hq)) (hS.put e2 e3 (hD.2 q _ hq)) hl
  · cases hq
theorem pt_iald (C : CX X cc nL own ret rm) {i v : Int32} (g : hld h 0 a i = some v) (hd : decode cc pc = .ok (.iaload, 1)) (kk : PT X nL cells slots (pc + 1) lv (.int v :: st) h) : PT X nL cells slots pc lv (.int i :: .ref a :: st) h := by
  obtain ⟨p, l, e, R, s, m, args, below, meth, c, Q, G⟩ := X
  obtain ⟨hx, hb, hml, hown, hts, hsf, hR, hrt, hlk⟩ := C
  intro H locs ls hh hS hl
  obtain ⟨n, f, hf, hi, rfl⟩ := hld_spec g
  obtain ⟨hz, hzz, ws, hP, hD, hin⟩ := id hh
  rcases hin _ _ hf with ⟨q, hq⟩ | ⟨-, hq⟩
  · exact va_iald hx hb hsf.1 hP q 0 hq rfl hi hd (kk H locs ls hh hS hl)
  · cases hq
theorem pt_zald (C : CX X cc nL own ret rm) {i v : Int32} (g : hld h 2 a i = some v) (hd : decode cc pc = .ok (.baload, 1)) (kk : PT X nL cells slots (pc + 1) lv (.int v :: st) h) : PT X nL cells slots pc lv (.int i :: .ref a :: st) h := by
  obtain ⟨p, l, e, R, s, m, args, below, meth, c, Q, G⟩ := X
  obtain ⟨hx, hb, hml, hown, hts, hsf, hR, hrt, hlk⟩ := C
  intro H locs ls hh hS hl
  obtain ⟨n, f, hf, hi, rfl⟩ := hld_spec g
  obtain ⟨hz, hzz, ws, hP, hD, hin⟩ := id hh
  rcases hin _ _ hf with ⟨q, hq⟩ | ⟨-, hq⟩
  · exact va_zald hx hb hsf.1 hP q 2 hq rfl hi hd (kk H locs ls hh hS hl)
  · cases hq
theorem pt_lald (C : CX X cc nL own ret rm) {i : Int32} {v : Int64} (g : hldJ h a i = some v) (hd : decode cc pc = .ok (.laload, 1)) (kk : PT X nL cells slots (pc + 1) lv (.long v :: st) h) : PT X nL cells slots pc lv (.int i :: .ref a :: st) h := by
  obtain ⟨p, l, e, R, s, m, args, below, meth, c, Q, G⟩ := X
  obtain ⟨hx, hb, hml, hown, hts, hsf, hR, hrt, hlk⟩ := C
  intro H locs ls hh hS hl
  obtain ⟨n, f, hf, hi, rfl⟩ := hldJ_spec g
  obtain ⟨hz, hzz, ws, hP, hD, hin⟩ := id hh
  rcases hin _ _ hf with ⟨q, hq⟩ | ⟨-, hq⟩
  · exact va_lald hx hb hsf.1 hP q 1 hq rfl hi hd (kk H locs ls hh hS hl)
  · cases hq
theorem pt_aald3 (C : CX X cc nL own ret rm) {i : Int32} {v : Nat} (g : hldR h 3 a i = some v) (hd : decode cc pc = .ok (.aaload, 1)) (kk : PT X nL cells slots (pc + 1) lv (.ref v :: st) h) : PT X nL cells slots pc lv (.int i :: .ref a :: st) h := by
  obtain ⟨p, l, e, R, s, m, args, below, meth, c, Q, G⟩ := X
  obtain ⟨hx, hb, hml, hown, hts, hsf, hR, hrt, hlk⟩ := C
  intro H locs ls hh hS hl
  obtain ⟨n, f, hf, hi, hv⟩ := hldR_spec g
  obtain ⟨hz, hzz, ws, hP, hD, hin⟩ := id hh
  rcases hin _ _ hf with ⟨q, hq⟩ | ⟨-, hq⟩
  · refine va_aldq hx hb hsf.1 hP q 3 hq rfl hi hd ?_
    rw [hv]
    exact kk H locs ls hh hS hl
  · cases hq
    exact absurd hi (fun z => z (Or.inr (Nat.zero_le _)))
theorem pt_aald4 (C : CX X cc nL own ret rm) {i : Int32} {v : Nat} (g : hldR h 4 a i = some v) (hd : decode cc pc = .ok (.aaload, 1)) (kk : PT X nL cells slots (pc + 1) lv (.ref v :: st) h) : PT X nL cells slots pc lv (.int i :: .ref a :: st) h := by
  obtain ⟨p, l, e, R, s, m, args, below, meth, c, Q, G⟩ := X
  obtain ⟨hx, hb, hml, hown, hts, hsf, hR, hrt, hlk⟩ := C
  intro H locs ls hh hS hl
  obtain ⟨n, f, hf, hi, hv⟩ := hldR_spec g
  obtain ⟨hz, hzz, ws, hP, hD, hin⟩ := id hh
  rcases hin _ _ hf with ⟨q, hq⟩ | ⟨-, hq⟩
  · have hlt : i.toNatClampNeg < n := Nat.not_le.mp fun q => hi (Or.inr q)
    refine W.aald (v := va_rf (f i.toNatClampNeg)) (ty := .array .int) hx hb (hP q _ hq) ((hsf.1.2 4 _ rfl).1 n (fun j => va_rf (f j))) rfl (fun q => by cases q) (by show ¬ (i < 0 ∨ (arrV _ _ _).slots.size ≤ _); rw [arrV_size]; exact hi) (by show (arrV _ _ _).slots[_]? = _; rw [arrV_read _ _ hlt]) rfl rfl hd ?_
    rw [hv]
    exact kk H locs ls hh hS hl
  · cases hq
theorem pt_alen (C : CX X cc nL own ret rm) {v : Int32} (g : hlen h a = some v) (hd : decode cc pc = .ok (.arraylength, 1)) (kk : PT X nL cells slots (pc + 1) lv (.int v :: st) h) : PT X nL cells slots pc lv (.ref a :: st) h := by
  obtain ⟨p, l, e, R, s, m, args, below, meth, c, Q, G⟩ := X
  obtain ⟨hx, hb, hml, hown, hts, hsf, hR, hrt, hlk⟩ := C
  intro H locs ls hh hS hl
  obtain ⟨x, hf, h5, rfl⟩ := hlen_spec g
  obtain ⟨hz, hzz, ws, hP, hD, hin⟩ := id hh
  rcases hin _ _ hf with ⟨q, hq⟩ | ⟨hq1, hq⟩
  · obtain ⟨kd, x⟩ := x
    have h6 : ∃ ty, (ha_tys G.2.2.1)[kd]? = some (G.2.2.1 kd, ty) := by
      match kd, h5 with
      | 0, _ => exact ⟨_, rfl⟩
      | 1, _ => exact ⟨_, rfl⟩
      | 2, _ => exact ⟨_, rfl⟩
      | 3, _ => exact ⟨_, rfl⟩
      | 4, _ => exact ⟨_, rfl⟩
    obtain ⟨ty, h6⟩ := h6
    exact va_alen hx hb hsf.1 hP q kd hq h6 rfl hd (kk H locs ls hh hS hl)
  · cases hq
    rw [hq1, hzz]
    exact va_tlen hx hb hsf.2.2.2.1 hS rfl hd (kk H locs ls hh hS hl)
theorem pt_iast (C : CX X cc nL own ret rm) {i : Int32} {x : Int32} (g : hst h 0 a i x = some h') (hd : decode cc pc = .ok (.iastore, 1)) (kk : PT X nL cells slots (pc + 1) lv st h') : PT X nL cells slots pc lv (.int x :: .int i :: .ref a :: st) h := by
  obtain ⟨p, l, e, R, s, m, args, below, meth, c, Q, G⟩ := X
  obtain ⟨hx, hb, hml, hown, hts, hsf, hR, hrt, hlk⟩ := C
  intro H locs ls hh hS hl
  obtain ⟨n, f, hf, hi, rfl⟩ := hst_spec g
  obtain ⟨hz, hzz, ws, hP, hD, hin⟩ := id hh
  rcases hin _ _ hf with ⟨q, hq⟩ | ⟨-, hq⟩
  · refine W.iast hx hb (hP q _ hq) ((hsf.1.2 0 _ rfl).1 n (fun j => .int (f j))) (fun q => by cases q) (by show ¬ (i < 0 ∨ (arrV _ _ _).slots.size ≤ _); rw [arrV_size]; exact hi) rfl rfl hd fun H1 e1 z1 oq => ?_
    refine kk H1 _ ls (HR.up hz hzz hin hq z1 (hP.set hD hq ?_ oq) (hD.set hq)) (hS.put z1 oq (hD.2 q _ hq)) hl
    show H1[a]? = some (vp_cell _ _)
    rw [e1]
    rw [vp_cell_i, vp_cell_i, arrV_store]
    congr 2
    funext q
    by_cases hq : q = i.toNatClampNeg
    · subst hq
      simp [updV, upd]
    · simp [updV, upd, hq]
  · cases hq
theorem pt_last (C : CX X cc nL own ret rm) {i : Int32} {x : Int64} (g : hstJ h a i x = some h') (hd : decode cc pc = .ok (.lastore, 1)) (kk : PT X nL cells slots (pc + 1) lv st h') : PT X nL cells slots pc lv (.long x :: .int i :: .ref a :: st) h := by
  obtain ⟨p, l, e, R, s, m, args, below, meth, c, Q, G⟩ := X
  obtain ⟨hx, hb, hml, hown, hts, hsf, hR, hrt, hlk⟩ := C
  intro H locs ls hh hS hl
  obtain ⟨n, f, hf, hi, rfl⟩ := hstJ_spec g
  obtain ⟨hz, hzz, ws, hP, hD, hin⟩ := id hh
  rcases hin _ _ hf with ⟨q, hq⟩ | ⟨-, hq⟩
  · refine W.last hx hb (hP q _ hq) ((hsf.1.2 1 _ rfl).1 n (fun j => .long (f j))) (fun q => by cases q) (by show ¬ (i < 0 ∨ (arrV _ _ _).slots.size ≤ _); rw [arrV_size]; exact hi) rfl rfl hd fun H1 e1 z1 oq => ?_
    refine kk H1 _ ls (HR.up hz hzz hin hq z1 (hP.set hD hq ?_ oq) (hD.set hq)) (hS.put z1 oq (hD.2 q _ hq)) hl
    show H1[a]? = some (vp_cell _ _)
    rw [e1]
    rw [vp_cell_l, vp_cell_l, arrV_store]
    congr 2
    funext q
    by_cases hq : q = i.toNatClampNeg
    · subst hq
      simp [updV, vp_updL]
    · simp [updV, vp_updL, hq]
  · cases hq
theorem pt_zast (C : CX X cc nL own ret rm) {i : Int32} {x : Int32} (hz01 : narrow .boolean (.int x) = .int x) (g : hst h 2 a i x = some h') (hd : decode cc pc = .ok (.bastore, 1)) (kk : PT X nL cells slots (pc + 1) lv st h') : PT X nL cells slots pc lv (.int x :: .int i :: .ref a :: st) h := by
  obtain ⟨p, l, e, R, s, m, args, below, meth, c, Q, G⟩ := X
  obtain ⟨hx, hb, hml, hown, hts, hsf, hR, hrt, hlk⟩ := C
  intro H locs ls hh hS hl
  obtain ⟨n, f, hf, hi, rfl⟩ := hst_spec g
  obtain ⟨hz, hzz, ws, hP, hD, hin⟩ := id hh
  rcases hin _ _ hf with ⟨q, hq⟩ | ⟨-, hq⟩
  · refine W.zast hx hb (hP q _ hq) ((hsf.1.2 2 _ rfl).1 n (fun j => .int (f j))) (fun q => by cases q) (by show ¬ (i < 0 ∨ (arrV _ _ _).slots.size ≤ _); rw [arrV_size]; exact hi) rfl rfl hd fun H1 e1 z1 oq => ?_
    refine kk H1 _ ls (HR.up hz hzz hin hq z1 (hP.set hD hq ?_ oq) (hD.set hq)) (hS.put z1 oq (hD.2 q _ hq)) hl
    show H1[a]? = some (vp_cell _ _)
    rw [e1]
    rw [vp_cell_i, vp_cell_i, arrV_store]
    congr 2
    funext q
    by_cases hq : q = i.toNatClampNeg
    · subst hq
      simp [updV, upd, hz01]
    · simp [updV, upd, hq]
  · cases hq
theorem pt_aast (C : CX X cc nL own ret rm) {i : Int32} {x : Nat} (g : hstR h a i x = some h') (hd : decode cc pc = .ok (.aastore, 1)) (kk : PT X nL cells slots (pc + 1) lv st h') : PT X nL cells slots pc lv (.ref x :: .int i :: .ref a :: st) h := by
  obtain ⟨p, l, e, R, s, m, args, below, meth, c, Q, G⟩ := X
  obtain ⟨hx, hb, hml, hown, hts, hsf, hR, hrt, hlk⟩ := C
  intro H locs ls hh hS hl
  obtain ⟨n, f, o, hf, hfx, h14, hi, rfl⟩ := hstR_spec g
  obtain ⟨r, hrr, hca⟩ := nw_all o.1 h14
  obtain ⟨hz, hzz, ws, hP, hD, hin⟩ := id hh
  have hlt : i.toNatClampNeg < n := Nat.not_le.mp fun q => hi (Or.inr q)
  have h0 : ¬ i < 0 := fun q => hi (Or.inl q)
  rcases hin _ _ hf with ⟨q, hq⟩ | ⟨-, hq⟩
  · rcases hin _ _ hfx with ⟨qx, hqx⟩ | ⟨-, hqx⟩
    · obtain ⟨r', hr', cellV, g1, g2, g3, -⟩ := hP qx _ hqx
      have hcls := (hsf.1.1 o.1 _ hrr).2
      obtain ⟨kA, comp, k1, k2, k3, -⟩ := (hsf.1.2 3 _ rfl).2
      obtain ⟨kE, hkE, -⟩ := Vm.findClass_spec k3
      obtain ⟨c0, t1, f1, f2, f3⟩ := Cond.castable_spec (va_Nw.use (A := args) rfl (hsf.2.1.2.1 _ hca))
      cases hcls.1.symm.trans f1
      cases k3.symm.trans f2
      obtain ⟨kC, hkC, -⟩ := hcls.2
      refine W.aast hx hb (hP q _ hq) (fun q h => by cases h) (fun h => by cases h) k1 k2 rfl hkE ⟨h0, by show _ < (arrV _ _ _).slots.size; rw [arrV_size]; exact hlt⟩ g1 (fun q h => by rw [g3] at h; cases h) (by rw [g2]; exact hkC) (by rw [g2]; exact f3) rfl rfl hd fun H1 e1 z1 oq => ?_
      refine kk H1 _ ls (HR.up hz hzz hin hq z1 (hP.set hD hq ?_ oq) (hD.set hq)) (hS.put z1 oq (hD.2 q _ hq)) hl
      show H1[a]? = some (vp_cell _ _)
      rw [e1]
      rw [vp_cell_q, vp_cell_q, arrV_store]
      congr 2
      funext q
      by_cases hq : q = i.toNatClampNeg
      · subst hq
        simp [updV, va_up, va_rf]
      · simp [updV, va_up, hq]
    · cases hqx
  · cases hq
    exact absurd hi (fun z => z (Or.inr (Nat.zero_le _)))
theorem pt_cast (C : CX X cc nL own ret rm) (K : KC ci Cn T N ty) {index : Nat} (hlink : Cond.classLink own index Cn ∈ gt) {u : Unit} (g : hcl h a ci = some u) (hd : decode cc pc = .ok (.checkcast index, 3)) (kk : PT X nL cells slots (pc + 3) lv (.ref a :: st) h) : PT X nL cells slots pc lv (.ref a :: st) h := by
  obtain ⟨p, l, e, R, s, m, args, below, meth, c, Q, G⟩ := X
  obtain ⟨hx, hb, hml, hown, hts, hsf, hR, hrt, hlk⟩ := C
  intro H locs ls hh hS hl
  obtain ⟨fs, hf⟩ := hcl_spec g
  obtain ⟨hz, hzz, ws, hP, hD, hin⟩ := id hh
  rcases hin _ _ hf with ⟨q, hq⟩ | ⟨-, hq⟩
  · exact va_castS hx hb hown (hts _ hlink) (hsf.1.1 ci _ K.1).2 (va_recv hsf.1 hP K.1 hq) hd (kk H locs ls hh hS hl)
  · cases hq
theorem pt_new (C : CX X cc nL own ret rm) (K : KC ci Cn T N ty) {index : Nat} (hlink : Cond.classLink own index Cn ∈ gt) (hins : Cond.instantiable Cn N ∈ gt) (hini : Cond.initialized Cn ∈ gt) (fs : List Value) (hfs : ∀ j, j < N → defaultValue (ty j) = vp_V fs j) (hc : cells + 1 ≤ rm.cells) (hsl : slots + N ≤ rm.slots) (hd : decode cc pc = .ok (.new index, 3)) (kk : PT X nL (cells + 1) (slots + N) (pc + 3) lv (.ref h.1 :: st) (hnew h (.inr (ci, fs)))) : PT X nL cells slots pc lv st h := by
  obtain ⟨p, l, e, R, s, m, args, below, meth, c, Q, G⟩ := X
  obtain ⟨hx, hb, hml, hown, hts, hsf, hR, hrt, hlk⟩ := C
  intro H locs ls hh hS hl
  obtain ⟨hz, hzz, ws, hP, hD, hin⟩ := id hh
  subst hR
  have hKn := hsf.1.1 ci _ K.1
  refine W.newcK hx hb hown (hts _ hlink) (hts _ hins) (hts _ hini) rfl hd hc hsl hKn.2.1 hz fun H1 kC hkC e1 z1 o1 => ?_
  have hk : ∀ (k : Nat) (x : Nat × va_E), ws[k]? = some x → H1[x.1]? = H[x.1]? := fun k x hx => o1 x.1 (by rw [← hz]; exact (hP k x hx).lt)
  refine kk H1 locs ls (HR.push hz hzz hP hin (by rw [z1, hz]) ((hP.kept hk).app (fun k x hx => ?_)) (hD.push hP rfl ?_)) ⟨Nat.le_trans hS.1 (by omega), fun x h1 h2 => (o1 x (by rw [← hz]; exact Nat.lt_of_lt_of_le h1 hS.1)).trans (hS.2.1 x h1 h2), hS.2.2⟩ hl
  · have hz : k < 1 := (List.getElem?_eq_some_iff.mp hx).1
    rw [show k = 0 by omega] at hx
    cases hx
    rename_i hzz0
    rw [hzz0]
    exact ⟨_, K.1, (u_born ty hts K.2.1 hKn hkC e1 K.2.2.1).to hfs⟩
  · exact Nat.le_trans hsf.2.2.2.2.1 hS.1
theorem pt_newI (C : CX X cc nL own ret rm) {n : Int32} (M : Nat) (hac : Cond.arrayClass .int ∈ gt) (hn : ¬ n < 0) (hN : n.toNatClampNeg = M) (hby : M * componentBytes .int ≤ 536870912) (hc : cells + 1 ≤ rm.cells) (hsl : slots + M ≤ rm.slots) (hd : decode cc pc = .ok (.newarray .int, 2)) (kk : PT X nL (cells + 1) (slots + M) (pc + 2) lv (.ref h.1 :: st) (hnew h (.inl (0, M, .inl fun _ => 0)))) : PT X nL cells slots pc lv (.int n :: st) h := by
  obtain ⟨p, l, e, R, s, m, args, below, meth, c, Q, G⟩ := X
  obtain ⟨hx, hb, hml, hown, hts, hsf, hR, hrt, hlk⟩ := C
  intro H locs ls hh hS hl
  obtain ⟨hz, hzz, ws, hP, hD, hin⟩ := id hh
  subst hR
  refine va_newaK (atype := .int) hx hb (hts _ hac) rfl hd rfl hn hN hby hc hsl hz fun H1 cA e1 z1 o1 hAr hNm => ?_
  have hcA : cA = G.2.2.1 0 := Option.some.inj (hNm.symm.trans (hsf.1.2 0 _ rfl).2)
  subst hcA
  have hk : ∀ (k : Nat) (x : Nat × va_E), ws[k]? = some x → H1[x.1]? = H[x.1]? := fun k x hx => o1 x.1 (by rw [← hz]; exact (hP k x hx).lt)
  refine kk H1 locs ls (HR.push hz hzz hP hin (by rw [z1, hz]) ((hP.kept hk).app (fun k x hx => ?_)) (hD.push hP rfl ?_)) ⟨Nat.le_trans hS.1 (by omega), fun x h1 h2 => (o1 x (by rw [← hz]; exact Nat.lt_of_lt_of_le h1 hS.1)).trans (hS.2.1 x h1 h2), hS.2.2⟩ hl
  · have hz : k < 1 := (List.getElem?_eq_some_iff.mp hx).1
    rw [show k = 0 by omega] at hx
    cases hx
    rename_i hzz0
    rw [hzz0]
    exact e1
  · exact Nat.le_trans hsf.2.2.2.2.1 hS.1
theorem pt_newJ (C : CX X cc nL own ret rm) {n : Int32} (M : Nat) (hac : Cond.arrayClass .long ∈ gt) (hn : ¬ n < 0) (hN : n.toNatClampNeg = M) (hby : M * componentBytes .long ≤ 536870912) (hc : cells + 1 ≤ rm.cells) (hsl : slots + M ≤ rm.slots) (hd : decode cc pc = .ok (.newarray .long, 2)) (kk : PT X nL (cells + 1) (slots + M) (pc + 2) lv (.ref h.1 :: st) (hnew h (.inl (1, M, .inr (.inl fun _ => 0))))) : PT X nL cells slots pc lv (.int n :: st) h := by
  obtain ⟨p, l, e, R, s, m, args, below, meth, c, Q, G⟩ := X
  obtain ⟨hx, hb, hml, hown, hts, hsf, hR, hrt, hlk⟩ := C
  intro H locs ls hh hS hl
  obtain ⟨hz, hzz, ws, hP, hD, hin⟩ := id hh
  subst hR
  refine va_newaK (atype := .long) hx hb (hts _ hac) rfl hd rfl hn hN hby hc hsl hz fun H1 cA e1 z1 o1 hAr hNm => ?_
  have hcA : cA = G.2.2.1 1 := Option.some.inj (hNm.symm.trans (hsf.1.2 1 _ rfl).2)
  subst hcA
  have hk : ∀ (k : Nat) (x : Nat × va_E), ws[k]? = some x → H1[x.1]? = H[x.1]? := fun k x hx => o1 x.1 (by rw [← hz]; exact (hP k x hx).lt)
  refine kk H1 locs ls (HR.push hz hzz hP hin (by rw [z1, hz]) ((hP.kept hk).app (fun k x hx => ?_)) (hD.push hP rfl ?_)) ⟨Nat.le_trans hS.1 (by omega), fun x h1 h2 => (o1 x (by rw [← hz]; exact Nat.lt_of_lt_of_le h1 hS.1)).trans (hS.2.1 x h1 h2), hS.2.2⟩ hl
  · have hz : k < 1 := (List.getElem?_eq_some_iff.mp hx).1
    rw [show k = 0 by omega] at hx
    cases hx
    rename_i hzz0
    rw [hzz0]
    exact e1
  · exact Nat.le_trans hsf.2.2.2.2.1 hS.1
theorem pt_newZ (C : CX X cc nL own ret rm) {n : Int32} (M : Nat) (hac : Cond.arrayClass .boolean ∈ gt) (hn : ¬ n < 0) (hN : n.toNatClampNeg = M) (hby : M * componentBytes .boolean ≤ 536870912) (hc : cells + 1 ≤ rm.cells) (hsl : slots + M ≤ rm.slots) (hd : decode cc pc = .ok (.newarray .boolean, 2)) (kk : PT X nL (cells + 1) (slots + M) (pc + 2) lv (.ref h.1 :: st) (hnew h (.inl (2, M, .inl fun _ => 0)))) : PT X nL cells slots pc lv (.int n :: st) h := by
  obtain ⟨p, l, e, R, s, m, args, below, meth, c, Q, G⟩ := X
  obtain ⟨hx, hb, hml, hown, hts, hsf, hR, hrt, hlk⟩ := C
  intro H locs ls hh hS hl
  obtain ⟨hz, hzz, ws, hP, hD, hin⟩ := id hh
  subst hR
  refine va_newaK (atype := .boolean) hx hb (hts _ hac) rfl hd rfl hn hN hby hc hsl hz fun H1 cA e1 z1 o1 hAr hNm => ?_
  have hcA : cA = G.2.2.1 2 := Option.some.inj (hNm.symm.trans (hsf.1.2 2 _ rfl).2)
  subst hcA
  have hk : ∀ (k : Nat) (x : Nat × va_E), ws[k]? = some x → H1[x.1]? = H[x.1]? := fun k x hx => o1 x.1 (by rw [← hz]; exact (hP k x hx).lt)
  refine kk H1 locs ls (HR.push hz hzz hP hin (by rw [z1, hz]) ((hP.kept hk).app (fun k x hx => ?_)) (hD.push hP rfl ?_)) ⟨Nat.le_trans hS.1 (by omega), fun x h1 h2 => (o1 x (by rw [← hz]; exact Nat.lt_of_lt_of_le h1 hS.1)).trans (hS.2.1 x h1 h2), hS.2.2⟩ hl
  · have hz : k < 1 := (List.getElem?_eq_some_iff.mp hx).1
    rw [show k = 0 by omega] at hx
    cases hx
    rename_i hzz0
    rw [hzz0]
    exact e1
  · exact Nat.le_trans hsf.2.2.2.2.1 hS.1
theorem pt_newO (C : CX X cc nL own ret rm) {n : Int32} (M : Nat) {index : Nat} (hlink : Cond.classLink own index "java/lang/Object" ∈ gt) (hn : ¬ n < 0) (hN : n.toNatClampNeg ≤ M) (hM : M ≤ 1000) (hc : cells + 1 ≤ rm.cells) (hsl : slots + M ≤ rm.slots) (hd : decode cc pc = .ok (.anewarray index, 3)) (kk : PT X nL (cells + 1) (slots + M) (pc + 3) lv (.ref h.1 :: st) (hnew h (.inl (3, n.toNatClampNeg, .inr (.inr (.inr (.inr fun _ => none))))))) : PT X nL cells slots pc lv (.int n :: st) h := by
  obtain ⟨p, l, e, R, s, m, args, below, meth, c, Q, G⟩ := X
  obtain ⟨hx, hb, hml, hown, hts, hsf, hR, hrt, hlk⟩ := C
  intro H locs ls hh hS hl
  obtain ⟨hz, hzz, ws, hP, hD, hin⟩ := id hh
  subst hR
  refine W.anew hx hb hown (hts _ hlink) (va_AO.use hsf.2.1.2.2.2.1) rfl hd rfl hn (by omega) hc (by omega) fun cA kA comp f1 f2 f3 f4 => ?_
  generalize hH1 : H.push ({ cls := cA, slots := Array.replicate n.toNatClampNeg .null, vm := .none } : Cell) = H1
  have z1 : H1.size = H.size + 1 := by rw [← hH1, Array.size_push]
  have e1 : H1[H.size]? = some (arrV cA n.toNatClampNeg (fun _ => .null)) := by rw [← hH1, Array.getElem?_push_size, ← arrV_new]
  have o1 : ∀ q : Nat, q < H.size → H1[q]? = H[q]? := fun q hq => by rw [← hH1, Array.getElem?_push, if_neg (Nat.ne_of_lt hq)]
  have hcA : cA = G.2.2.1 3 := by
    obtain ⟨kA, comp, k1, k2, k3, k4⟩ := (hsf.1.2 3 _ rfl).2
    exact Option.some.inj (f1.symm.trans k4)
  subst hcA
  have hk : ∀ (k : Nat) (x : Nat × va_E), ws[k]? = some x → H1[x.1]? = H[x.1]? := fun k x hx => o1 x.1 ((hP k x hx).lt)
  refine W.eq (g2 := F0 m (pc + 3) ls (.ref h.1 :: st)) (by rw [hz]) ?_
  refine W.widen (Nat.le_refl _) (Nat.add_le_add_left hN _) ?_
  refine kk H1 locs ls (HR.push hz hzz hP hin z1 ((hP.kept hk).app (fun k x hx => ?_)) (hD.push hP rfl ?_)) ⟨Nat.le_trans hS.1 (by omega), fun x h1 h2 => (o1 x (Nat.lt_of_lt_of_le h1 hS.1)).trans (hS.2.1 x h1 h2), hS.2.2⟩ hl
  · have hz : k < 1 := (List.getElem?_eq_some_iff.mp hx).1
    rw [show k = 0 by omega] at hx
    cases hx
    exact e1
  · exact Nat.le_trans hsf.2.2.2.2.1 hS.1
theorem pt_multi (C : CX X cc nL own ret rm) {index : Nat} (hlink : Cond.classLink own index "[[I" ∈ gt) (hac : Cond.arrayClass .int ∈ gt) {n k : Int32} {N' K' : Nat} (hn : ¬ n < 0) (hk : ¬ k < 0) (hN : n.toNatClampNeg = N') (hM : k.toNatClampNeg = K') (hb1 : N' * 4 ≤ 536870912) (hb2 : K' * componentBytes .int ≤ 536870912) (hb3 : K' ≤ 536870912) (hc : cells + (1 + N') ≤ rm.cells) (hsl : slots + (N' + N' * K') ≤ rm.slots) (hd : decode cc pc = .ok (.multianewarray index 2, 4)) (kk : PT X nL (cells + 1 + N') (slots + N' + N' * K') (pc + 4) lv (.ref h.1 :: st) (hnews h (hmulti h.1 N' K'))) : PT X nL cells slots pc lv (.int k :: .int n :: st) h := by
  obtain ⟨p, l, e, R, s, m, args, below, meth, c, Q, G⟩ := X
  obtain ⟨hx, hb, hml, hown, hts, hsf, hR, hrt, hlk⟩ := C
  intro H locs ls hh hS hl
  obtain ⟨hz, hzz, ws, hP, hD, hin⟩ := id hh
  subst hR
  subst hN
  subst hM
  intro T hT Xs
  obtain ⟨vm₁, cA, comp, -, fA, fC, hO, -, X', step⟩ := Xs.multianewarray2F hx hown (hts _ hlink) (show (Cond.arrayOver (.array .int)).before args s = true from hsf.2.1.2.2.2.2) (hts _ hac) (g := F0 m pc ls (.int k :: .int n :: st)) rfl (by rw [hb]; exact hd) rfl hn hk hb1 hb2 hb3 rfl rfl hc hsl
  have ec : comp = G.2.2.1 0 := Option.some.inj (fC.symm.trans (hsf.1.2 0 _ rfl).2)
  have eA : cA = G.2.2.1 4 := Option.some.inj (fA.symm.trans (hsf.1.2 4 _ rfl).2)
  subst ec
  subst eA
  generalize hF : Jvm.Free.Multi.fill (T.setVm vm₁) (G.2.2.1 4) (G.2.2.1 0) n.toNatClampNeg k.toNatClampNeg (defaultValue .int) n.toNatClampNeg = F at X' step
  have hTh : (T.setVm vm₁).heap = H := hT
  obtain ⟨f1, f2, -, -⟩ := Jvm.Free.Multi.fill_facts (T.setVm vm₁) (G.2.2.1 4) (G.2.2.1 0) n.toNatClampNeg k.toNatClampNeg (defaultValue .int) n.toNatClampNeg
  rw [hF, hTh] at f1 f2
  have hold : ∀ x : Nat, x < H.size → F.heap[x]? = H[x]? := fun x hx => by
    have := Jvm.Free.Multi.fill_old (T.setVm vm₁) (G.2.2.1 4) (G.2.2.1 0) n.toNatClampNeg k.toNatClampNeg (defaultValue .int) (a := x) (by rw [hTh]; exact hx) n.toNatClampNeg
    rw [hF, hTh] at this
    exact this
  have hrow : ∀ j : Nat, j < n.toNatClampNeg → F.heap[H.size + 1 + j]? = some (vp_cell (G.2.2.1 0) (k.toNatClampNeg, .inl fun _ => 0)) := fun j hj => by
    have := Jvm.Free.Multi.fill_inner (T.setVm vm₁) (G.2.2.1 4) (G.2.2.1 0) n.toNatClampNeg k.toNatClampNeg (defaultValue .int) n.toNatClampNeg j hj
    rw [hF, hTh] at this
    rw [this]
    show some ({ cls := G.2.2.1 0, slots := Array.replicate k.toNatClampNeg (Value.int 0), vm := .none } : Cell) = _
    rw [arrV_new]
    rfl
  have hout : Jvm.Free.Multi.outerC (G.2.2.1 4) n.toNatClampNeg H.size n.toNatClampNeg = vp_cell (G.2.2.1 4) (n.toNatClampNeg, .inr (.inr (.inr (.inr (fun i => if i < n.toNatClampNeg then some (H.size + 1 + i) else none))))) := by
    rw [vp_cell_q]
    exact vr_outer (G.2.2.1 4) n.toNatClampNeg H.size n.toNatClampNeg
  rw [hout] at f2
  have hes : ∀ (i : Nat) (x : AE), (hmulti h.1 n.toNatClampNeg k.toNatClampNeg)[i]? = some x → i < n.toNatClampNeg + 1 ∧ va_at G.2.2.2 vwCl (H.size + i, ha_c G.2.2.1 x) F.heap := fun i x hx => by
    cases i with
    | zero =>
      cases hx
      refine ⟨by omega, ?_⟩
      rw [← hz]
      exact f2
    | succ i =>
      have h1 : (List.replicate n.toNatClampNeg ((.inl (0, k.toNatClampNeg, .inl fun _ => 0)) : AE))[i]? = some x := hx
      obtain ⟨h2, h3⟩ := List.getElem?_eq_some_iff.mp h1
      rw [List.length_replicate] at h2
      rw [List.getElem_replicate] at h3
      subst h3
      refine ⟨by omega, ?_⟩
      have h4 := hrow i h2
      rw [show H.size + 1 + i = H.size + (i + 1) by omega] at h4
      exact h4
  have hlen : (hmulti h.1 n.toNatClampNeg k.toNatClampNeg).length = n.toNatClampNeg + 1 := by simp [hmulti]
  have hH := HR.pushes (es := hmulti h.1 n.toNatClampNeg k.toNatClampNeg) hz hzz hP hD hin (H1 := F.heap) (by rw [f1, hlen]; omega) hold (fun i x hx => (hes i x hx).2) (Nat.le_trans hsf.2.2.2.2.1 hS.1)
  obtain ⟨t, a1, b1⟩ := kk F.heap locs ls hH ⟨by rw [f1]; have := hS.1; omega, fun x h1 h2 => (hold x (Nat.lt_of_lt_of_le h1 hS.1)).trans (hS.2.1 x h1 h2), hS.2.2⟩ hl F rfl X'
  refine ⟨t, step t ?_, b1⟩
  have e2 : T.heap.size = h.1 := by rw [hT]; exact hz
  rw [e2]
  exact a1
theorem pt_gets (C : CX X cc nL own ret rm) {index : Nat} {ref : String} (hlink : Cond.fieldLink own index ref ha_zn ha_zd ∈ gt) (hsame : ha_zc = ref) (hd : decode cc pc = .ok (.getstatic index, 3)) (kk : PT X nL cells slots (pc + 3) lv (.ref h.2.1.1 :: st) h) : PT X nL cells slots pc lv st h := by
  obtain ⟨p, l, e, R, s, m, args, below, meth, c, Q, G⟩ := X
  obtain ⟨hx, hb, hml, hown, hts, hsf, hR, hrt, hlk⟩ := C
  intro H locs ls hh hS hl
  obtain ⟨hz, hzz, ws, hP, hD, hin⟩ := id hh
  subst hsame
  refine va_gets hx hb hsf.2.2.1 hS hown (hts _ hlink) (fun _ h => h) hd ?_
  rw [← hzz]
  exact kk H locs ls hh hS hl
theorem pt_ldcM (C : CX X cc nL own ret rm) {index : Nat} (hlink : Cond.classLink own index ha_zd ∈ gt) (hd : decode cc pc = .ok (.ldc index, 2)) (kk : PT X nL cells slots (pc + 2) lv (.ref h.2.1.2 :: st) h) : PT X nL cells slots pc lv st h := by
  obtain ⟨p, l, e, R, s, m, args, below, meth, c, Q, G⟩ := X
  obtain ⟨hx, hb, hml, hown, hts, hsf, hR, hrt, hlk⟩ := C
  intro H locs ls hh hS hl
  obtain ⟨hz, hzz, ws, hP, hD, hin⟩ := id hh
  refine va_ldcM hx hb hown (hts _ hlink) hsf.2.2.2.2.2 hd ?_
  rw [← hzz]
  exact kk H locs ls hh hS hl
theorem pt_getC (C : CX X cc nL own ret rm) {index : Nat} (hlink : Cond.methodLink own index ⟨"java/lang/Object", "getClass", "()Ljava/lang/Class;"⟩ ∈ gt) (hsel : Cond.selects ha_zd ⟨"java/lang/Object", "getClass", "()Ljava/lang/Class;"⟩ ⟨"java/lang/Object", "getClass", "()Ljava/lang/Class;"⟩ ∈ gt) (hinst : Cond.instanceMethod ⟨"java/lang/Object", "getClass", "()Ljava/lang/Class;"⟩ ∈ gt) (hnat : Cond.native ⟨"java/lang/Object", "getClass", "()Ljava/lang/Class;"⟩ ∈ gt) {u : Unit} (g : hoa h a = some u) (hfr : 1 ≤ rm.frames) (hlo : (st.map fun v => v.category).sum + 14 ≤ rm.locals) (hd : decode cc pc = .ok (.invokevirtual index, 3)) (kk : PT X nL cells slots (pc + 3) lv (.ref h.2.1.2 :: st) h) : PT X nL cells slots pc lv (.ref a :: st) h := by
  obtain ⟨p, l, e, R, s, m, args, below, meth, c, Q, G⟩ := X
  obtain ⟨hx, hb, hml, hown, hts, hsf, hR, hrt, hlk⟩ := C
  intro H locs ls hh hS hl
  obtain ⟨n, f, hf, hn⟩ := hoa_spec g
  obtain ⟨hz, hzz, ws, hP, hD, hin⟩ := id hh
  subst hR
  rcases hin _ _ hf with ⟨q, hq⟩ | ⟨-, hq⟩
  · refine va_getC (C := ha_zd) hx hb (hml.trans hl.1.symm) hown (hts _ hlink) (va_Dc.use hsf.2.1.2.2.1) (hts _ hsel) (hts _ hinst) (hts _ hnat) hsf.2.2.2.2.2 ⟨_, hP q _ hq, rfl, ?_⟩ hfr hlo hd ?_
    · exact va_nmO (hsf.1.2 3 _ rfl).2 (by decide +kernel)
    · rw [← hzz]
      exact kk H locs ls hh hS hl
  · cases hq
    exact absurd hn (Nat.lt_irrefl 0)
theorem pt_copyR (C : CX X cc nL own ret rm) {index : Nat} (hlink : Cond.methodLink own index arraycopyName ∈ gt) (hnat : Cond.native arraycopyName ∈ gt) (hstat : Cond.static arraycopyName ∈ gt) (hini : Cond.initialized "java/lang/System" ∈ gt) {a0 : Nat} {n : Int32} (gq : hcpy h a0 a n = some h') (hfr : 1 ≤ rm.frames) (hlo : (st.map fun v => v.category).sum + (nativeFrameWords "java/lang/System" "arraycopy" 5 + 11) ≤ rm.locals) (hd : decode cc pc = .ok (.invokestatic index, 3)) (kk : PT X nL cells slots (pc + 3) lv st h') : PT X nL cells slots pc lv (.int n :: .int 0 :: .ref a :: .int 0 :: .ref a0 :: st) h := by
  obtain ⟨p, l, e, R, s, m, args, below, meth, c, Q, G⟩ := X
  obtain ⟨hx, hb, hml, hown, hts, hsf, hR, hrt, hlk⟩ := C
  intro H locs ls hh hS hl
  obtain ⟨n0, n1, f, g, hf, hg, hn0, hn1, h3, h4, h5, hel, rfl⟩ := hcpy_spec gq
  obtain ⟨hz, hzz, ws, hP, hD, hin⟩ := id hh
  subst hR
  rcases hin _ _ hf with ⟨q0, hq0⟩ | ⟨-, hq0⟩
  · rcases hin _ _ hg with ⟨q1, hq1⟩ | ⟨-, hq1⟩
    · have hany : ∀ i : Nat, i < n.toNatClampNeg → ∀ y : Nat, f (0 + i) = some y → va_Any "java/lang/Object" s H y := fun i hi y hy => by
        rw [Nat.zero_add] at hy
        obtain ⟨u, hu⟩ := hel i hi y hy
        obtain ⟨o, ho, h14⟩ := hob_spec hu
        obtain ⟨r, hrr, hca⟩ := nw_all o.1 h14
        rcases hin _ _ ho with ⟨qy, hqy⟩ | ⟨-, hqy⟩
        · exact va_rAny hsf.1 hP hqy hrr (vb_asgC (hsf.2.1.2.1 _ hca))
        · cases hqy
      have z0 : ∀ z : Int32, ¬ z < 0 → z.toInt = (z.toNatClampNeg : Int) := by
        intro z hz
        have hz0 : (0 : Int) ≤ z.toInt := by
          have := Int32.not_lt.mp hz
          simpa using Int32.le_iff_toInt_le.mp this
        show z.toInt = ((z.toInt.toNat : Nat) : Int)
        omega
      intro T hT Xs
      have hc0 : H[a0]? = some (vp_cell (G.2.2.1 3) (n0, .inr (.inr (.inr (.inr f))))) := hP q0 _ hq0
      have hc1 : H[a]? = some (vp_cell (G.2.2.1 3) (n1, .inr (.inr (.inr (.inr g))))) := hP q1 _ hq1
      obtain ⟨-, k0, hk0, cm0, hkk0⟩ := (hsf.1.2 3 _ rfl).1 n0 (fun j => va_rf (f j))
      obtain ⟨vm', X', step⟩ := Xs.arraycopy hx hown (hts _ hlink) (hts _ hnat) (hts _ hstat) (hts _ hini) (src := a0) (dst := a) (cs := vp_cell (G.2.2.1 3) (n0, .inr (.inr (.inr (.inr f))))) (cd := vp_cell (G.2.2.1 3) (n1, .inr (.inr (.inr (.inr g))))) (srcPos := 0) (destPos := 0) (n := n) (by rw [hT]; exact hc0) (by rw [hT]; exact hc1)
        (fun _ h => by cases h) (fun _ h => by cases h) (fun h => by cases h) (fun h => by cases h) hk0 hk0 hkk0 hkk0 rfl (by decide) (by decide) h3
        (by rw [z0 n h3]; show ¬ (0 : Int32).toInt + _ > ((arrV (G.2.2.1 3) n0 (fun j => va_rf (f j))).slots.size : Int); rw [arrV_size, show (0 : Int32).toInt = 0 from rfl]; omega)
        (by rw [z0 n h3]; show ¬ (0 : Int32).toInt + _ > ((arrV (G.2.2.1 3) n1 (fun j => va_rf (g j))).slots.size : Int); rw [arrV_size, show (0 : Int32).toInt = 0 from rfl]; omega)
        (fun vm₁ hal i hi => by
          have e0 : ((0 : Int32).toNatClampNeg) = 0 := rfl
          rw [e0]
          have e : (vp_cell (G.2.2.1 3) (n0, .inr (.inr (.inr (.inr f))))).slots.getD (0 + i) .null = va_rf (f (0 + i)) := by
            show (arrV (G.2.2.1 3) n0 (fun j => va_rf (f j))).slots.getD _ _ = _
            rw [Array.getD_eq_getD_getElem?, arrV_read _ _ (by omega)]
            rfl
          rw [e]
          cases hy : f (0 + i) with
          | none => exact ⟨rfl, trivial⟩
          | some y =>
            obtain ⟨cellV, g1, g2, ⟨kC, hkC⟩, hasg⟩ := hany i hi y hy
            obtain ⟨kA, comp, r1, r2, r3, -⟩ := (hsf.1.2 3 _ rfl).2
            cases hk0.symm.trans r1
            cases hkk0.symm.trans r2
            obtain ⟨kE, hkE, -⟩ := Vm.findClass_spec r3
            obtain ⟨kC', hkC', -⟩ := hal.2.2 _ _ hkC
            obtain ⟨kE', hkE', -⟩ := hal.2.2 _ _ hkE
            refine ⟨rfl, cellV, (show T.heap[y]? = some cellV by rw [hT]; exact g1), (fun q h => by rw [h] at g2; cases g2), ⟨kC', hkC'⟩, ?_, ?_⟩
            · exact ⟨kE', hkE'⟩
            · show vm₁.assignable _ _ = true
              rw [hal.assignable]
              exact hasg _ r3)
        (g := F0 m pc ls (.int n :: .int 0 :: .ref a :: .int 0 :: .ref a0 :: st)) rfl (by rw [hml]; exact hl.1) (rest := st) rfl (by rw [hb]; exact hd) hfr (by show 2 * 0 + _ + _ ≤ _; omega)
      have e1 : copied (vp_cell (G.2.2.1 3) (n0, .inr (.inr (.inr (.inr f))))) (vp_cell (G.2.2.1 3) (n1, .inr (.inr (.inr (.inr g))))) 0 0 n = vp_cell (G.2.2.1 3) (n1, .inr (.inr (.inr (.inr (va_cpy f g 0 0 n.toNatClampNeg))))) := by
        rw [vp_cell_q, vp_cell_q, vp_cell_q]
        exact va_copied (fun z => va_rf z) (G.2.2.1 3) (G.2.2.1 3) f g (by show 0 + _ ≤ _; omega)
      rw [e1] at X' step
      have hlt : a < H.size := (Array.getElem?_eq_some_iff.mp hc1).1
      have oq : ∀ q : Nat, q ≠ a → (H.setIfInBounds a (vp_cell (G.2.2.1 3) (n1, .inr (.inr (.inr (.inr (va_cpy f g 0 0 n.toNatClampNeg)))))))[q]? = H[q]? := fun q hq => by simp [Array.getElem?_setIfInBounds, Ne.symm hq]
      have hheap : ((T.setVm vm').setCell a (vp_cell (G.2.2.1 3) (n1, .inr (.inr (.inr (.inr (va_cpy f g 0 0 n.toNatClampNeg))))))).heap = H.setIfInBounds a (vp_cell (G.2.2.1 3) (n1, .inr (.inr (.inr (.inr (va_cpy f g 0 0 n.toNatClampNeg)))))) := by rw [← hT]; rfl
      obtain ⟨t, a1, b1⟩ := kk _ _ ls (HR.up hz hzz hin hq1 (by simp) (hP.set hD hq1 (show (H.setIfInBounds a _)[a]? = some _ by simp [Array.getElem?_setIfInBounds, hlt]) oq) (hD.set hq1)) ⟨by simp; exact hS.1, fun q g1 g2 => by
          rw [oq q (fun e => g2 (by rw [e]; exact hD.2 q1 _ hq1))]
          exact hS.2.1 q g1 g2, fun q hq => by
          rcases List.mem_append.mp hq with h | h
          · exact hS.2.2 q h
          · obtain ⟨j, -, rfl⟩ := List.mem_map.mp h
            exact hD.2 q1 _ hq1⟩ hl _ hheap X'
      exact ⟨t, step t a1, b1⟩
    · cases hq1
      exact absurd hn1 (Nat.lt_irrefl 0)
  · cases hq0
    exact absurd hn0 (Nat.lt_irrefl 0)
end PTH
theorem kJx4a65c : KC 0 RJx4a65c TJx4a65c 3 tyJx4a65c := ⟨rfl, inJx4a65c, tyJx4a65c_ok, nmJx4a65c⟩
theorem kX0 : KC 1 RX0 TX0 9 tyX0 := ⟨rfl, inX0, tyX0_ok, nmX0⟩
theorem kX1 : KC 2 RX1 TX1 8 tyX1 := ⟨rfl, inX1, tyX1_ok, nmX1⟩
theorem kX2 : KC 3 RX2 TX2 3 tyX2 := ⟨rfl, inX2, tyX2_ok, nmX2⟩
theorem kX3 : KC 4 RX3 TX3 6 tyX3 := ⟨rfl, inX3, tyX3_ok, nmX3⟩
theorem kX4 : KC 5 RX4 TX4 5 tyX4 := ⟨rfl, inX4, tyX4_ok, nmX4⟩
theorem kX5 : KC 6 RX5 TX5 3 tyX5 := ⟨rfl, inX5, tyX5_ok, nmX5⟩
theorem kX6 : KC 7 RX6 TX6 2 tyX6 := ⟨rfl, inX6, tyX6_ok, nmX6⟩
theorem kX7 : KC 8 RX7 TX7 2 tyX7 := ⟨rfl, inX7, tyX7_ok, nmX7⟩
theorem kX8 : KC 9 RX8 TX8 3 tyX8 := ⟨rfl, inX8, tyX8_ok, nmX8⟩
theorem kX9 : KC 10 RX9 TX9 9 tyX9 := ⟨rfl, inX9, tyX9_ok, nmX9⟩
theorem kX10 : KC 11 RX10 TX10 2 tyX10 := ⟨rfl, inX10, tyX10_ok, nmX10⟩
theorem kX11 : KC 12 RX11 TX11 12 tyX11 := ⟨rfl, inX11, tyX11_ok, nmX11⟩
theorem kX12 : KC 13 RX12 TX12 47 tyX12 := ⟨rfl, inX12, tyX12_ok, nmX12⟩
