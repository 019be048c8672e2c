/-! calls, returns, a method's start -/
theorem SF.calling {G : HG} {U : State} {g : JFrame} {mk : MethodId} {a : Array Value} (h : SF G U) : SF G (U.calling g mk a) := by
  obtain ⟨h1, h2, h3, h4, h5, h6⟩ := h
  exact ⟨va_K.moved (u := U) (U := U.calling g mk a) (Vm.Alike.refl U.vm) h1, NW.same rfl h2, va_Z.moved (u := U) (U := U.calling g mk a) (Vm.Alike.refl U.vm) h3, va_T.moved (u := U) (U := U.calling g mk a) (Vm.Alike.refl U.vm) h4, h5, va_Mi.moved (u := U) (U := U.calling g mk a) (Vm.Alike.refl U.vm) h6⟩
theorem SF.go {G : HG} {s U : State} {locs : List Loc} (hW : s.WarmedH U.vm) (hS : va_S (ha_A G) s.heap U.heap locs) (h : SF G s) : SF G U := by
  obtain ⟨h1, h2, h3, h4, h5, h6⟩ := h
  exact ⟨va_K.moved hW.alike h1, NW.warm hW h2, (va_Z.moved hW.alike h3).kept hS.2.1, (va_T.moved hW.alike h4).kept hS.2.1, Nat.le_trans h5 hS.1, va_Mi.moved hW.alike h6⟩
def cPc (G : HG) (av : List Value) (h : AH) : Array Value → State → Prop := va_Pc av (fun U => HR G h U.heap ∧ SF G U)
theorem cPc_blind (G : HG) (av : List Value) (h : AH) : FrameBlind (va_Pc av (fun U => HR G h U.heap ∧ SF G U)) := fun a U g mk q => ⟨q.1, q.2.1, SF.calling q.2.2⟩
section PTC
variable {X : MX} {cc : ByteArray} {nL : Nat} {own : String} {ret : Option FieldType} {rm : Room} {cells slots pc : Nat} {lv : List (Nat × Value)} {st : List Value} {h h' : AH} {ci N : Nat} {Cn : String} {T : u_T} {ty : Nat → FieldType} {b : Nat}
/-- what stands behind a call: the callee's heap -/
theorem pt_back {p : Program} {l : Launch} {e : Env} {R : Room} {s : State} {m : MethodId} {args : Array Value} {below : List Frame} {meth : Method} {c : Code} {Q : State → Prop} {G : HG} {H : Heap} {locs : List Loc} {ls : Array Slot} {st0 rest : List Value} {v : Option Value} {mc ms : Nat} (hS : va_S (ha_A G) s.heap H locs) (hl : lv_has ls nL lv)
    (hr : va_Run p l e R s m args below meth c H locs cells slots mc ms (F0 m pc ls st0) rest (fun st o t => o = .returned v ∧ HR G h' t.heap ∧ va_F (ha_A G) st t) (ha_A G)) (k : PT (p, l, e, R, s, m, args, below, meth, c, Q, G) nL (cells + mc) (slots + ms) (pc + 3) lv (v.toList ++ rest) h') : W p l e R s m args below meth c H locs cells slots Q (F0 m pc ls st0) := by
  intro T hT X
  obtain ⟨v', st₀, t, T', L, h0, X', hL, e1, e2, ⟨hv, hh, hz, hk⟩, st⟩ := hr T hT X
  cases hv
  rw [h0] at hz hk
  obtain ⟨t2, a1, b1⟩ := k T'.heap (locs ++ L) ls (by rw [e1]; exact hh) ⟨Nat.le_trans hS.1 (by rw [e1]; exact hz), fun q h1 h2 => by rw [e1, hk q (Nat.lt_of_lt_of_le h1 hS.1) h2]; exact hS.2.1 q h1 h2, fun q hq => by
      rcases List.mem_append.mp hq with h | h
      · exact hS.2.2 q h
      · exact hL q h⟩ hl T' rfl X'
  exact ⟨t2, st t2 a1, b1⟩
/-- what a call asks of the callee's name: no handle, so many parameters -/
abbrev YN (y : MethodName) (n : Nat) : Prop := y.cls ≠ "java/lang/invoke/MethodHandle" ∧ y.cls ≠ "java/lang/invoke/VarHandle" ∧ (parseMethodDescriptor y.desc).map (fun d => d.parameters.length) = some n
/-- the room of a callee within the caller's -/
abbrev RO (rm yrm : Room) (maxL cells slots : Nat) : Prop := (yrm.frames + 1 ≤ rm.frames ∧ 8 + (maxL + 11) + yrm.locals ≤ rm.locals) ∧ cells + yrm.cells ≤ rm.cells ∧ slots + yrm.slots ≤ rm.slots
theorem pt_callS (C : CX X cc nL own ret rm) {y : MethodName} {bytes : ByteArray} {maxL : Nat} {yret : Option FieldType} {yrm : Room} {As rest : List Value} {index : Nat} {v : Option Value} (hC : ∀ l : Launch, Con l y bytes maxL yret yrm As h v h') (hcode : Cond.code y bytes maxL yret ∈ gt) (hlink : Cond.methodLink own index y ∈ gt) (hstat : Cond.static y ∈ gt) (hini : Cond.initialized y.cls ∈ gt) (hy : YN y As.length) (hro : RO rm yrm maxL cells slots) (hcat : (rest.map fun v => v.category).sum ≤ 8) (hd : decode cc pc = .ok (.invokestatic index, 3)) (hst : st = As.reverse ++ rest) (k : PT X nL (cells + yrm.cells) (slots + yrm.slots) (pc + 3) lv (v.toList ++ rest) h') : PT X nL cells slots pc lv st h := by
  obtain ⟨p, l, e, R, s, m, args, below, meth, c, Q, G⟩ := X
  obtain ⟨hx, hb, hml, hown, hts, hsf, hR, hrt, hlk⟩ := C
  intro H locs ls hh hS hl
  subst hR
  have hG : GoodIn gt (Cond.code y bytes maxL yret :: gt) := gt_good (fun _ h => h) hcode
  exact pt_back hS hl (va_runS (As := As) (rest := rest) ⟨hx, hb, hml, hown, hts⟩ (hC l G) ⟨callB_of (ret := yret) As.length hts hG rfl rfl rfl (hts _ hini) (hts _ hlink) hy hro.1, hts _ hstat⟩ ⟨cPc_blind G _ h, fun U hU hW => ⟨rfl, by rw [hU]; exact hh, SF.go hW (by rw [hU]; exact hS) hsf⟩⟩ rfl rfl hl.1 hst (lv_room hcat) hd hro.2) k
theorem pt_callSN (C : CX X cc nL own ret rm) {y : MethodName} {bytes : ByteArray} {maxL : Nat} {yret : Option FieldType} {yrm : Room} {As rest : List Value} {index : Nat} {v : Option Value} (hC : ∀ l : Launch, Con l y bytes maxL yret yrm As h v h') (hcode : Cond.code y bytes maxL yret ∈ gt) {host : String} (hlink : (own, index, y, host) ∈ nw_nest) (hstat : Cond.static y ∈ gt) (hini : Cond.initialized y.cls ∈ gt) (hy : YN y As.length) (hro : RO rm yrm maxL cells slots) (hcat : (rest.map fun v => v.category).sum ≤ 8) (hd : decode cc pc = .ok (.invokestatic index, 3)) (hst : st = As.reverse ++ rest) (k : PT X nL (cells + yrm.cells) (slots + yrm.slots) (pc + 3) lv (v.toList ++ rest) h') : PT X nL cells slots pc lv st h := by
  obtain ⟨p, l, e, R, s, m, args, below, meth, c, Q, G⟩ := X
  obtain ⟨hx, hb, hml, hown, hts, hsf, hR, hrt, hlk⟩ := C
  intro H locs ls hh hS hl
  subst hR
  have hG : GoodIn gt (Cond.code y bytes maxL yret :: gt) := gt_good (fun _ h => h) hcode
  exact pt_back hS hl (va_runSN (As := As) (rest := rest) ⟨hx, hb, hml, hown, hts⟩ (hC l G) ⟨va_cnB (ret := yret) As.length hts hG rfl rfl rfl (hsf.2.1.1 _ hlink) (hts _ hini) hy hro.1, hts _ hstat, trivial⟩ ⟨cPc_blind G _ h, fun U hU hW => ⟨rfl, by rw [hU]; exact hh, SF.go hW (by rw [hU]; exact hS) hsf⟩⟩ rfl rfl hl.1 hst (lv_room hcat) hd hro.2) k
theorem pt_callV (C : CX X cc nL own ret rm) {y : MethodName} {bytes : ByteArray} {maxL : Nat} {yret : Option FieldType} {yrm : Room} {As rest : List Value} {index : Nat} {v : Option Value} (hC : ∀ l : Launch, Con l y bytes maxL yret yrm (.ref b :: As) h v h') (hcode : Cond.code y bytes maxL yret ∈ gt) (hlink : Cond.methodLink own index y ∈ gt) (hinst : Cond.instanceMethod y ∈ gt) (hsel : Cond.selects Cn y y ∈ gt) (K : KC ci Cn T N ty) {u : Unit} (gc : hcl h b ci = some u) (hini : Cond.initialized y.cls ∈ gt) (hy : YN y As.length) (hro : RO rm yrm maxL cells slots) (hcat : (rest.map fun v => v.category).sum ≤ 8) (hd : decode cc pc = .ok (.invokevirtual index, 3)) (hst : st = As.reverse ++ .ref b :: rest) (k : PT X nL (cells + yrm.cells) (slots + yrm.slots) (pc + 3) lv (v.toList ++ rest) h') : PT X nL cells slots pc lv st h := by
  obtain ⟨p, l, e, R, s, m, args, below, meth, c, Q, G⟩ := X
  obtain ⟨hx, hb, hml, hown, hts, hsf, hR, hrt, hlk⟩ := C
  intro H locs ls hh hS hl
  subst hR
  have hG : GoodIn gt (Cond.code y bytes maxL yret :: gt) := gt_good (fun _ h => h) hcode
  obtain ⟨fs, hf⟩ := hcl_spec gc
  obtain ⟨hz, hzz, ws, hP, hD, hin⟩ := id hh
  rcases hin _ _ hf with ⟨q, hq⟩ | ⟨-, hq⟩
  · exact pt_back hS hl (va_runV (C := Cn) (As := As) (rest := rest) ⟨hx, hb, hml, hown, hts⟩ (hC l G) ⟨callB_of (ret := yret) As.length hts hG rfl rfl rfl (hts _ hini) (hts _ hlink) hy hro.1, hts _ hinst, hts _ hsel⟩ ⟨cPc_blind G _ h, va_recv hsf.1 hP K.1 hq, fun U hU hW => ⟨rfl, by rw [hU]; exact hh, SF.go hW (by rw [hU]; exact hS) hsf⟩⟩ rfl rfl hl.1 hst (lv_room hcat) hd hro.2) k
  · cases hq
theorem pt_callVN (C : CX X cc nL own ret rm) {y : MethodName} {bytes : ByteArray} {maxL : Nat} {yret : Option FieldType} {yrm : Room} {As rest : List Value} {index : Nat} {v : Option Value} (hC : ∀ l : Launch, Con l y bytes maxL yret yrm (.ref b :: As) h v h') (hcode : Cond.code y bytes maxL yret ∈ gt) {host : String} (hlink : (own, index, y, host) ∈ nw_nest) (hinst : Cond.instanceMethod y ∈ gt) (hsel : Cond.selects Cn y y ∈ gt) (K : KC ci Cn T N ty) {u : Unit} (gc : hcl h b ci = some u) (hini : Cond.initialized y.cls ∈ gt) (hy : YN y As.length) (hro : RO rm yrm maxL cells slots) (hcat : (rest.map fun v => v.category).sum ≤ 8) (hd : decode cc pc = .ok (.invokevirtual index, 3)) (hst : st = As.reverse ++ .ref b :: rest) (k : PT X nL (cells + yrm.cells) (slots + yrm.slots) (pc + 3) lv (v.toList ++ rest) h') : PT X nL cells slots pc lv st h := by
  obtain ⟨p, l, e, R, s, m, args, below, meth, c, Q, G⟩ := X
  obtain ⟨hx, hb, hml, hown, hts, hsf, hR, hrt, hlk⟩ := C
  intro H locs ls hh hS hl
  subst hR
  have hG : GoodIn gt (Cond.code y bytes maxL yret :: gt) := gt_good (fun _ h => h) hcode
  obtain ⟨fs, hf⟩ := hcl_spec gc
  obtain ⟨hz, hzz, ws, hP, hD, hin⟩ := id hh
  rcases hin _ _ hf with ⟨q, hq⟩ | ⟨-, hq⟩
  · exact pt_back hS hl (va_runVN (C := Cn) (As := As) (rest := rest) ⟨hx, hb, hml, hown, hts⟩ (hC l G) ⟨va_cnB (ret := yret) As.length hts hG rfl rfl rfl (hsf.2.1.1 _ hlink) (hts _ hini) hy hro.1, hts _ hinst, hts _ hsel⟩ ⟨cPc_blind G _ h, va_recv hsf.1 hP K.1 hq, fun U hU hW => ⟨rfl, by rw [hU]; exact hh, SF.go hW (by rw [hU]; exact hS) hsf⟩⟩ rfl rfl hl.1 hst (lv_room hcat) hd hro.2) k
  · cases hq
theorem pt_callI (C : CX X cc nL own ret rm) {y : MethodName} {bytes : ByteArray} {maxL : Nat} {yrm : Room} {As rest : List Value} {index : Nat} {v : Option Value} (hC : ∀ l : Launch, Con l y bytes maxL none yrm (.ref b :: As) h v h') (hcode : Cond.code y bytes maxL none ∈ gt) (hlink : Cond.methodLink own index y ∈ gt) (hinst : Cond.instanceMethod y ∈ gt) (hy1 : y.name = "<init>") (hini : Cond.initialized y.cls ∈ gt) (hy : YN y As.length) (hro : RO rm yrm maxL cells slots) (hcat : (rest.map fun v => v.category).sum ≤ 8) (hd : decode cc pc = .ok (.invokespecial index, 3)) (hst : st = As.reverse ++ .ref b :: rest) (k : PT X nL (cells + yrm.cells) (slots + yrm.slots) (pc + 3) lv (v.toList ++ rest) h') : PT X nL cells slots pc lv st h := by
  obtain ⟨p, l, e, R, s, m, args, below, meth, c, Q, G⟩ := X
  obtain ⟨hx, hb, hml, hown, hts, hsf, hR, hrt, hlk⟩ := C
  intro H locs ls hh hS hl
  subst hR
  have hG : GoodIn gt (Cond.code y bytes maxL none :: gt) := gt_good (fun _ h => h) hcode
  exact pt_back hS hl (va_runI (As := As) (rest := rest) ⟨hx, hb, hml, hown, hts⟩ (hC l G) ⟨callB_of (ret := none) As.length hts hG rfl rfl rfl (hts _ hini) (hts _ hlink) hy hro.1, hy1, hts _ hinst⟩ ⟨cPc_blind G _ h, fun U hU hW => ⟨rfl, by rw [hU]; exact hh, SF.go hW (by rw [hU]; exact hS) hsf⟩⟩ rfl rfl hl.1 hst (lv_room hcat) hd hro.2) k
theorem pt_callIN (C : CX X cc nL own ret rm) {y : MethodName} {bytes : ByteArray} {maxL : Nat} {yrm : Room} {As rest : List Value} {index : Nat} {v : Option Value} (hC : ∀ l : Launch, Con l y bytes maxL none yrm (.ref b :: As) h v h') (hcode : Cond.code y bytes maxL none ∈ gt) {host : String} (hlink : (own, index, y, host) ∈ nw_nest) (hinst : Cond.instanceMethod y ∈ gt) (hy1 : y.name = "<init>") (hini : Cond.initialized y.cls ∈ gt) (hy : YN y As.length) (hro : RO rm yrm maxL cells slots) (hcat : (rest.map fun v => v.category).sum ≤ 8) (hd : decode cc pc = .ok (.invokespecial index, 3)) (hst : st = As.reverse ++ .ref b :: rest) (k : PT X nL (cells + yrm.cells) (slots + yrm.slots) (pc + 3) lv (v.toList ++ rest) h') : PT X nL cells slots pc lv st h := by
  obtain ⟨p, l, e, R, s, m, args, below, meth, c, Q, G⟩ := X
  obtain ⟨hx, hb, hml, hown, hts, hsf, hR, hrt, hlk⟩ := C
  intro H locs ls hh hS hl
  subst hR
  have hG : GoodIn gt (Cond.code y bytes maxL none :: gt) := gt_good (fun _ h => h) hcode
  exact pt_back hS hl (va_runIN (As := As) (rest := rest) ⟨hx, hb, hml, hown, hts⟩ (hC l G) ⟨va_cnB (ret := none) As.length hts hG rfl rfl rfl (hsf.2.1.1 _ hlink) (hts _ hini) hy hro.1, hy1, hts _ hinst⟩ ⟨cPc_blind G _ h, fun U hU hW => ⟨rfl, by rw [hU]; exact hh, SF.go hW (by rw [hU]; exact hS) hsf⟩⟩ rfl rfl hl.1 hst (lv_room hcat) hd hro.2) k
/-- Object's constructor -/
theorem pt_objInit (C : CX X cc nL own ret rm) {index : Nat} (hlink : Cond.methodLink own index objectInit ∈ gt) (hin : Cond.instanceMethod objectInit ∈ gt) (hco : Cond.code objectInit ⟨#[0xb1]⟩ 1 none ∈ gt) (hfr : 1 ≤ rm.frames) (hlo : (st.map fun v => v.category).sum + 12 ≤ rm.locals) (hd : decode cc pc = .ok (.invokespecial index, 3)) (k : PT X nL cells slots (pc + 3) lv st h) : PT X nL cells slots pc lv (.ref b :: st) h := by
  obtain ⟨p, l, e, R, s, m, args, below, meth, c, Q, G⟩ := X
  obtain ⟨hx, hb, hml, hown, hts, hsf, hR, hrt, hlk⟩ := C
  intro H locs ls hh hS hl
  subst hR
  exact W.objInit hx hb hown (hts _ hlink) (hts _ hin) (hts _ hco) rfl (by rw [hml]; exact hl.1) rfl hd hfr (by show 2 * 0 + _ + 12 ≤ _; omega) (k H locs ls hh hS hl)
theorem pt_iret (C : CX X cc nL own (some .int) rm) {v : Int32} (P : PR X rm (some (.int v)) h) (h1 : cells ≤ rm.cells) (h2 : slots ≤ rm.slots) (hd : decode cc pc = .ok (.ireturn, 1)) : PT X nL cells slots pc lv [.int v] h := by
  obtain ⟨p, l, e, R, s, m, args, below, meth, c, Q, G⟩ := X
  obtain ⟨hx, hb, hml, hown, hts, hsf, hR, hrt, hlk⟩ := C
  intro H locs ls hh hS hl
  have P : Q = _ := P
  subst P
  exact W.widen h1 h2 (W.iret hx hb hrt (fun t ht hW => ⟨rfl, by rw [ht]; exact hh, hS.F ht⟩) hS.2.2 hd hlk)
theorem pt_zret (C : CX X cc nL own (some .boolean) rm) {v : Int32} (hn : narrow .boolean (.int v) = .int v) (P : PR X rm (some (.int v)) h) (h1 : cells ≤ rm.cells) (h2 : slots ≤ rm.slots) (hd : decode cc pc = .ok (.ireturn, 1)) : PT X nL cells slots pc lv [.int v] h := by
  obtain ⟨p, l, e, R, s, m, args, below, meth, c, Q, G⟩ := X
  obtain ⟨hx, hb, hml, hown, hts, hsf, hR, hrt, hlk⟩ := C
  intro H locs ls hh hS hl
  have P : Q = _ := P
  subst P
  exact W.widen h1 h2 (W.zret hx hb hrt hn (fun t ht hW => ⟨rfl, by rw [ht]; exact hh, hS.F ht⟩) hS.2.2 hd hlk)
theorem pt_lret (C : CX X cc nL own (some .long) rm) {v : Int64} (P : PR X rm (some (.long v)) h) (h1 : cells ≤ rm.cells) (h2 : slots ≤ rm.slots) (hd : decode cc pc = .ok (.lreturn, 1)) : PT X nL cells slots pc lv [.long v] h := by
  obtain ⟨p, l, e, R, s, m, args, below, meth, c, Q, G⟩ := X
  obtain ⟨hx, hb, hml, hown, hts, hsf, hR, hrt, hlk⟩ := C
  intro H locs ls hh hS hl
  have P : Q = _ := P
  subst P
  exact W.widen h1 h2 (W.lret hx hb hrt (fun t ht hW => ⟨rfl, by rw [ht]; exact hh, hS.F ht⟩) hS.2.2 hd hlk)
theorem pt_vret (C : CX X cc nL own none rm) (P : PR X rm none h) (h1 : cells ≤ rm.cells) (h2 : slots ≤ rm.slots) (hd : decode cc pc = .ok (.return_, 1)) : PT X nL cells slots pc lv [] h := by
  obtain ⟨p, l, e, R, s, m, args, below, meth, c, Q, G⟩ := X
  obtain ⟨hx, hb, hml, hown, hts, hsf, hR, hrt, hlk⟩ := C
  intro H locs ls hh hS hl
  have P : Q = _ := P
  subst P
  exact W.widen h1 h2 (W.vret hx hb hrt (fun t ht hW => ⟨rfl, by rw [ht]; exact hh, hS.F ht⟩) hS.2.2 hd hlk)
theorem pt_aret {rt : FieldType} (C : CX X cc nL own (some rt) rm) (hrf : (∃ n, rt = .object n) ∨ ∃ t, rt = .array t) {v : Option Nat} (P : PR X rm (some (va_rf v)) h) (h1 : cells ≤ rm.cells) (h2 : slots ≤ rm.slots) (hd : decode cc pc = .ok (.areturn, 1)) : PT X nL cells slots pc lv [va_rf v] h := by
  obtain ⟨p, l, e, R, s, m, args, below, meth, c, Q, G⟩ := X
  obtain ⟨hx, hb, hml, hown, hts, hsf, hR, hrt, hlk⟩ := C
  intro H locs ls hh hS hl
  have P : Q = _ := P
  subst P
  exact W.widen h1 h2 (W.aret hx hb hrt hrf (by cases v with | none => exact Or.inl rfl | some a => exact Or.inr ⟨a, rfl⟩) (fun t ht hW => ⟨rfl, by rw [ht]; exact hh, hS.F ht⟩) hS.2.2 hd hlk)
theorem pt_mmax (C : CX X cc nL own ret rm) {index : Nat} (hlink : Cond.methodLink own index Lib.Math.max.name ∈ gt) (hstat : Cond.static Lib.Math.max.name ∈ gt) (hini : Cond.initialized "java/lang/Math" ∈ gt) (hcode : Cond.code Lib.Math.max.name Lib.Math.max.code 2 (some .int) ∈ gt) (hfr : 1 ≤ rm.frames) (hlo : (st.map fun v => v.category).sum + 13 ≤ rm.locals) (h1 : cells ≤ rm.cells) (h2 : slots ≤ rm.slots) {x y : Int32} (hd : decode cc pc = .ok (.invokestatic index, 3)) (k : PT X nL cells slots (pc + 3) lv (.int (if x < y then y else x) :: st) h) : PT X nL cells slots pc lv (.int y :: .int x :: st) h := by
  obtain ⟨p, l, e, R, s, m, args, below, meth, c, Q, G⟩ := X
  obtain ⟨hx, hb, hml, hown, hts, hsf, hR, hrt, hlk⟩ := C
  intro H locs ls hh hS hl
  subst hR
  exact va_mmax hx hb (hml.trans hl.1.symm) hown (hts _ hlink) (hts _ hstat) (hts _ hini) (hts _ hcode) hfr hlo h1 h2 hd (k H locs ls hh hS hl)
theorem pt_mmin (C : CX X cc nL own ret rm) {index : Nat} (hlink : Cond.methodLink own index Lib.Math.min.name ∈ gt) (hstat : Cond.static Lib.Math.min.name ∈ gt) (hini : Cond.initialized "java/lang/Math" ∈ gt) (hcode : Cond.code Lib.Math.min.name Lib.Math.min.code 2 (some .int) ∈ gt) (hfr : 1 ≤ rm.frames) (hlo : (st.map fun v => v.category).sum + 13 ≤ rm.locals) (h1 : cells ≤ rm.cells) (h2 : slots ≤ rm.slots) {x y : Int32} (hd : decode cc pc = .ok (.invokestatic index, 3)) (k : PT X nL cells slots (pc + 3) lv (.int (if y < x then y else x) :: st) h) : PT X nL cells slots pc lv (.int y :: .int x :: st) h := by
  obtain ⟨p, l, e, R, s, m, args, below, meth, c, Q, G⟩ := X
  obtain ⟨hx, hb, hml, hown, hts, hsf, hR, hrt, hlk⟩ := C
  intro H locs ls hh hS hl
  subst hR
  exact va_mmin hx hb (hml.trans hl.1.symm) hown (hts _ hlink) (hts _ hstat) (hts _ hini) (hts _ hcode) hfr hlo h1 h2 hd (k H locs ls hh hS hl)
theorem pt_mabs (C : CX X cc nL own ret rm) {index : Nat} (hlink : Cond.methodLink own index Lib.Math.abs.name ∈ gt) (hstat : Cond.static Lib.Math.abs.name ∈ gt) (hini : Cond.initialized "java/lang/Math" ∈ gt) (hcode : Cond.code Lib.Math.abs.name Lib.Math.abs.code 1 (some .int) ∈ gt) (hfr : 1 ≤ rm.frames) (hlo : (st.map fun v => v.category).sum + 13 ≤ rm.locals) (h1 : cells ≤ rm.cells) (h2 : slots ≤ rm.slots) {x : Int32} (hd : decode cc pc = .ok (.invokestatic index, 3)) (k : PT X nL cells slots (pc + 3) lv (.int (if 0 ≤ x then x else -x) :: st) h) : PT X nL cells slots pc lv (.int x :: st) h := by
  obtain ⟨p, l, e, R, s, m, args, below, meth, c, Q, G⟩ := X
  obtain ⟨hx, hb, hml, hown, hts, hsf, hR, hrt, hlk⟩ := C
  intro H locs ls hh hS hl
  subst hR
  exact va_mabs hx hb (hml.trans hl.1.symm) hown (hts _ hlink) (hts _ hstat) (hts _ hini) (hts _ hcode) hfr hlo h1 h2 hd (k H locs ls hh hS hl)
theorem pt_mminL (C : CX X cc nL own ret rm) {index : Nat} (hlink : Cond.methodLink own index Lib.MathLoose.min_long.x ∈ gt) (hstat : Cond.static Lib.MathLoose.min_long.x ∈ gt) (hini : Cond.initialized "java/lang/Math" ∈ gt) (hcode : Cond.code Lib.MathLoose.min_long.x Lib.MathLoose.min_long.code 4 (some .long) ∈ gt) (hfr : 1 ≤ rm.frames) (hlo : (st.map fun v => v.category).sum + 15 ≤ rm.locals) (h1 : cells ≤ rm.cells) (h2 : slots ≤ rm.slots) {x y : Int64} (hd : decode cc pc = .ok (.invokestatic index, 3)) (k : PT X nL cells slots (pc + 3) lv (.long (if y < x then y else x) :: st) h) : PT X nL cells slots pc lv (.long y :: .long x :: st) h := by
  obtain ⟨p, l, e, R, s, m, args, below, meth, c, Q, G⟩ := X
  obtain ⟨hx, hb, hml, hown, hts, hsf, hR, hrt, hlk⟩ := C
  intro H locs ls hh hS hl
  subst hR
  exact va_mmin_long hx hb (hml.trans hl.1.symm) hown (hts _ hlink) (hts _ hstat) (hts _ hini) (hts _ hcode) hfr hlo h1 h2 hd (k H locs ls hh hS hl)
end PTC
/-- a method's contract out of its walk -/
theorem Con.of {l : Launch} {y : MethodName} {cc : ByteArray} {nL : Nat} {ret : Option FieldType} {rm : Room} {av : List Value} {h : AH} {v : Option Value} {h' : AH} (hp : plainName y.cls = true) (hlen : (lg_sl av).length ≤ nL)
    (k : ∀ X : MX, CX X cc nL y.cls ret rm → (y.name = "<init>" → IN X) → PR X rm v h' → PT X nL 0 0 0 (lv_args 0 av) [] h) : Con l y cc nL ret rm av h v h' := by
  intro G
  refine Met.ofW (cc := cc) (maxL := nL) (ret := ret) hp rfl ?_
  intro p e s m args below meth c s₁ B hml hv
  obtain ⟨rfl, hh, hsf⟩ := hv
  have hts : ∀ w ∈ Cond.code y cc nL ret :: gt, w.before av.toArray s = true := atoms_spec (ws := Cond.code y cc nL ret :: gt) B.pre
  have hl := lv_entry av (n := nL) hlen
  rw [lg_entry_eq]
  exact k (p, l, e, rm, s, m, av.toArray, below, meth, c, _, G) ⟨B.exec, B.bytes, hml, findClass_of_methodNamed B.named, fun w hw => hts w (List.mem_cons_of_mem _ hw), hsf, rfl, B.returns, B.notSynchronized⟩ (fun e => (name_of_methodNamed B.named B.method).1.trans e) rfl s.heap [] _ hh va_S.rf hl
def hdv (y : Int32) : Option Unit := if y = 0 then none else some ()
theorem hdv_spec {y : Int32} {u : Unit} (g : hdv y = some u) : ¬ y = 0 := by
  intro e
  rw [hdv, if_pos e] at g
  cases g
def hzb (v : Int32) : Option Unit := if v = 0 ∨ v = 1 then some () else none
theorem hzb_spec {v : Int32} {u : Unit} (g : hzb v = some u) : narrow .boolean (.int v) = .int v := by
  unfold hzb at g
  split at g
  · next e => rcases e with rfl | rfl <;> decide
  · cases g
def hcap (n : Int32) : Option Unit := if 0 ≤ n ∧ n.toNatClampNeg ≤ 16 then some () else none
theorem hcap_spec {n : Int32} {u : Unit} (g : hcap n = some u) : ¬ n < 0 ∧ n.toNatClampNeg ≤ 16 := by
  unfold hcap at g
  split at g
  · next e => exact ⟨fun z => absurd e.1 (by rw [Int32.le_iff_toInt_le]; rw [Int32.lt_iff_toInt_lt] at z; omega), e.2⟩
  · cases g
theorem tab_out {x : Int32} (n : Nat) (h : ∀ j : Nat, j < n → ¬ x = nI j) (hn : n < 2 ^ 31 := by decide) : x.toInt < 0 ∨ (((n : Nat) : Int) - 1) < x.toInt := by
  rcases Int.lt_or_le x.toInt 0 with h0 | h0
  · exact Or.inl h0
  · refine Or.inr ?_
    rcases Int.lt_or_le (((n : Nat) : Int) - 1) x.toInt with h1 | h1
    · exact h1
    · exfalso
      obtain ⟨j, hj, e⟩ := nI_of (x := x) (fun z => by rw [Int32.lt_iff_toInt_lt] at z; have : (0 : Int32).toInt = 0 := rfl; omega)
      have h2 : x.toInt = (j : Int) := by rw [e]; exact nI_toInt hj
      exact h j (by omega) e
theorem look_out2 {x : Int32} {o0 o1 d : Int} (c0 : ¬ x = 0) (c1 : ¬ x = 1) : Op.lookupswitch.offset [(0, o0), (1, o1)] d x.toInt = d := by
  have h0 : ¬ x.toInt = 0 := fun e => c0 (Int32.toInt_inj.mp e)
  have h1 : ¬ x.toInt = 1 := fun e => c1 (Int32.toInt_inj.mp e)
  have h0' : ¬ (0 : Int) = x.toInt := fun e => h0 e.symm
  have h1' : ¬ (1 : Int) = x.toInt := fun e => h1 e.symm
  simp [Op.lookupswitch.offset, h0, h1, h0', h1']
theorem va_rf_cat (x : Option Nat) : (va_rf x).category = 1 := by cases x <;> rfl
theorem iinc_eq (x : Int32) {a b : Int32} (h : a = b) : x + a = x + b := by rw [h]
theorem tp_0 : Cond.selects "java/util/ArrayList" ⟨"java/util/ArrayList", "add", "(Ljava/lang/Object;[Ljava/lang/Object;I)V"⟩ ⟨"java/util/ArrayList", "add", "(Ljava/lang/Object;[Ljava/lang/Object;I)V"⟩ ∈ gt := gt_mem 0 (by decide +kernel) rfl
theorem tp_1 : Cond.selects "java/util/ArrayList" ⟨"java/util/ArrayList", "grow", "()[Ljava/lang/Object;"⟩ ⟨"java/util/ArrayList", "grow", "()[Ljava/lang/Object;"⟩ ∈ gt := gt_mem 1 (by decide +kernel) rfl
theorem tp_2 : Cond.selects "java/util/ArrayList" ⟨"java/util/ArrayList", "grow", "(I)[Ljava/lang/Object;"⟩ ⟨"java/util/ArrayList", "grow", "(I)[Ljava/lang/Object;"⟩ ∈ gt := gt_mem 2 (by decide +kernel) rfl
theorem tp_3 : Cond.selects "HeaveSongs" ⟨"HeaveSongs", "songOf", "(I)LHeaveSongs$Song;"⟩ ⟨"HeaveSongs", "songOf", "(I)LHeaveSongs$Song;"⟩ ∈ gt := gt_mem 3 (by decide +kernel) rfl
theorem tp_4 : Cond.selects "HeaveSongs$Haul" ⟨"HeaveSongs$Haul", "gatherByLate", "(I)V"⟩ ⟨"HeaveSongs$Haul", "gatherByLate", "(I)V"⟩ ∈ gt := gt_mem 4 (by decide +kernel) rfl
theorem tp_5 : Cond.selects "HeaveSongs$Haul" ⟨"HeaveSongs$Haul", "pullersAt", "(LHeaveSongs$Song;I)I"⟩ ⟨"HeaveSongs$Haul", "pullersAt", "(LHeaveSongs$Song;I)I"⟩ ∈ gt := gt_mem 5 (by decide +kernel) rfl
theorem tp_6 : Cond.selects "HeaveSongs$Haul" ⟨"HeaveSongs$Haul", "pull", "(LHeaveSongs$Hands;II)I"⟩ ⟨"HeaveSongs$Haul", "pull", "(LHeaveSongs$Hands;II)I"⟩ ∈ gt := gt_mem 6 (by decide +kernel) rfl
theorem tp_7 : Cond.selects "HeaveSongs$Haul" ⟨"HeaveSongs$Haul", "comesBack", "(LHeaveSongs$Hands;II)I"⟩ ⟨"HeaveSongs$Haul", "comesBack", "(LHeaveSongs$Hands;II)I"⟩ ∈ gt := gt_mem 7 (by decide +kernel) rfl
theorem tp_8 : Cond.selects "HeaveSongs$Haul" ⟨"HeaveSongs$Haul", "isBelowFloor", "(I)Z"⟩ ⟨"HeaveSongs$Haul", "isBelowFloor", "(I)Z"⟩ ∈ gt := gt_mem 8 (by decide +kernel) rfl
theorem tp_9 : Cond.selects "HeaveSongs" ⟨"HeaveSongs", "ofLatest", "([II)I"⟩ ⟨"HeaveSongs", "ofLatest", "([II)I"⟩ ∈ gt := gt_mem 9 (by decide +kernel) rfl
theorem tp_10 : Cond.selects "HeaveSongs$TaskSearch" ⟨"HeaveSongs$TaskSearch", "tryFrom", "(Ljava/util/ArrayList;LHeaveSongs$Hands;Ljava/util/ArrayList;III)V"⟩ ⟨"HeaveSongs$TaskSearch", "tryFrom", "(Ljava/util/ArrayList;LHeaveSongs$Hands;Ljava/util/ArrayList;III)V"⟩ ∈ gt := gt_mem 10 (by decide +kernel) rfl
theorem tp_11 : Cond.selects "HeaveSongs$TaskSearch" ⟨"HeaveSongs$TaskSearch", "tryCrew", "(LHeaveSongs$Hands;LHeaveSongs$Song;LHeaveSongs$Task;I)V"⟩ ⟨"HeaveSongs$TaskSearch", "tryCrew", "(LHeaveSongs$Hands;LHeaveSongs$Song;LHeaveSongs$Task;I)V"⟩ ∈ gt := gt_mem 11 (by decide +kernel) rfl
theorem tp_12 : Cond.selects "HeaveSongs$LineMaker" ⟨"HeaveSongs$LineMaker", "countWays", "(LHeaveSongs$Row;Ljava/util/ArrayList;I)J"⟩ ⟨"HeaveSongs$LineMaker", "countWays", "(LHeaveSongs$Row;Ljava/util/ArrayList;I)J"⟩ ∈ gt := gt_mem 12 (by decide +kernel) rfl
theorem tp_13 : Cond.selects "HeaveSongs$LineMaker" ⟨"HeaveSongs$LineMaker", "lay", "(LHeaveSongs$Row;Ljava/util/ArrayList;Z)V"⟩ ⟨"HeaveSongs$LineMaker", "lay", "(LHeaveSongs$Row;Ljava/util/ArrayList;Z)V"⟩ ∈ gt := gt_mem 13 (by decide +kernel) rfl
theorem tp_14 : Cond.selects "HeaveSongs$LineMaker" ⟨"HeaveSongs$LineMaker", "nearWord", "(LHeaveSongs$Row;Ljava/util/ArrayList;I)I"⟩ ⟨"HeaveSongs$LineMaker", "nearWord", "(LHeaveSongs$Row;Ljava/util/ArrayList;I)I"⟩ ∈ gt := gt_mem 14 (by decide +kernel) rfl
theorem tp_15 : Cond.selects "HeaveSongs$LineMaker" ⟨"HeaveSongs$LineMaker", "wrongWith", "(LHeaveSongs$Word;LHeaveSongs$Row;I)I"⟩ ⟨"HeaveSongs$LineMaker", "wrongWith", "(LHeaveSongs$Word;LHeaveSongs$Row;I)I"⟩ ∈ gt := gt_mem 15 (by decide +kernel) rfl
theorem tp_16 : Cond.selects "HeaveSongs$LineMaker" ⟨"HeaveSongs$LineMaker", "countedWord", "(LHeaveSongs$Row;Ljava/util/ArrayList;I)I"⟩ ⟨"HeaveSongs$LineMaker", "countedWord", "(LHeaveSongs$Row;Ljava/util/ArrayList;I)I"⟩ ∈ gt := gt_mem 16 (by decide +kernel) rfl
theorem tp_17 : Cond.selects "HeaveSongs$LineMaker" ⟨"HeaveSongs$LineMaker", "leastWrong", "(LHeaveSongs$Row;Ljava/util/ArrayList;I)I"⟩ ⟨"HeaveSongs$LineMaker", "leastWrong", "(LHeaveSongs$Row;Ljava/util/ArrayList;I)I"⟩ ∈ gt := gt_mem 17 (by decide +kernel) rfl
theorem tp_18 : Cond.selects "HeaveSongs$LateSearch" ⟨"HeaveSongs$LateSearch", "sumOfTrial", "(LHeaveSongs$Hands;LHeaveSongs$Song;LHeaveSongs$Task;LHeaveSongs$Marks;)I"⟩ ⟨"HeaveSongs$LateSearch", "sumOfTrial", "(LHeaveSongs$Hands;LHeaveSongs$Song;LHeaveSongs$Task;LHeaveSongs$Marks;)I"⟩ ∈ gt := gt_mem 18 (by decide +kernel) rfl
theorem tp_19 : Cond.selects "HeaveSongs$LateSearch" ⟨"HeaveSongs$LateSearch", "tryPair", "(LHeaveSongs$Hands;LHeaveSongs$Song;LHeaveSongs$Task;LHeaveSongs$Marks;II)V"⟩ ⟨"HeaveSongs$LateSearch", "tryPair", "(LHeaveSongs$Hands;LHeaveSongs$Song;LHeaveSongs$Task;LHeaveSongs$Marks;II)V"⟩ ∈ gt := gt_mem 19 (by decide +kernel) rfl
theorem tp_20 : Cond.selects "HeaveSongs$Kin" ⟨"HeaveSongs$Kin", "changes", "(LHeaveSongs$Row;LHeaveSongs$Row;)I"⟩ ⟨"HeaveSongs$Kin", "changes", "(LHeaveSongs$Row;LHeaveSongs$Row;)I"⟩ ∈ gt := gt_mem 20 (by decide +kernel) rfl
theorem tp_21 : Cond.selects "HeaveSongs$Kin" ⟨"HeaveSongs$Kin", "hangNearest", "(Ljava/util/ArrayList;)I"⟩ ⟨"HeaveSongs$Kin", "hangNearest", "(Ljava/util/ArrayList;)I"⟩ ∈ gt := gt_mem 21 (by decide +kernel) rfl
theorem tp_22 : Cond.selects "HeaveSongsModel" ⟨"HeaveSongsModel", "noSong", "(I)Z"⟩ ⟨"HeaveSongsModel", "noSong", "(I)Z"⟩ ∈ gt := gt_mem 22 (by decide +kernel) rfl
theorem tp_23 : Cond.selects "HeaveSongsModel" ⟨"HeaveSongsModel", "beatOf", "(II)I"⟩ ⟨"HeaveSongsModel", "beatOf", "(II)I"⟩ ∈ gt := gt_mem 23 (by decide +kernel) rfl
theorem tp_24 : Cond.selects "HeaveSongsModel" ⟨"HeaveSongsModel", "noHand", "(I)Z"⟩ ⟨"HeaveSongsModel", "noHand", "(I)Z"⟩ ∈ gt := gt_mem 24 (by decide +kernel) rfl
theorem tp_25 : Cond.selects "HeaveSongsModel" ⟨"HeaveSongsModel", "restAll", "(II)V"⟩ ⟨"HeaveSongsModel", "restAll", "(II)V"⟩ ∈ gt := gt_mem 25 (by decide +kernel) rfl
theorem tp_26 : Cond.selects "HeaveSongsModel" ⟨"HeaveSongsModel", "work", "(IIIIIIZ)I"⟩ ⟨"HeaveSongsModel", "work", "(IIIIIIZ)I"⟩ ∈ gt := gt_mem 26 (by decide +kernel) rfl
theorem tp_27 : Cond.selects "HeaveSongsModel" ⟨"HeaveSongsModel", "step", "(IIIIII)V"⟩ ⟨"HeaveSongsModel", "step", "(IIIIII)V"⟩ ∈ gt := gt_mem 27 (by decide +kernel) rfl
theorem tp_28 : Cond.selects "HeaveSongsModel" ⟨"HeaveSongsModel", "isAbove", "(II)Z"⟩ ⟨"HeaveSongsModel", "isAbove", "(II)Z"⟩ ∈ gt := gt_mem 28 (by decide +kernel) rfl
theorem tp_29 : Cond.selects "HeaveSongsModel" ⟨"HeaveSongsModel", "findPlan", "()I"⟩ ⟨"HeaveSongsModel", "findPlan", "()I"⟩ ∈ gt := gt_mem 29 (by decide +kernel) rfl
theorem tp_30 : Cond.selects "HeaveSongsModel" ⟨"HeaveSongsModel", "go", "(II)Z"⟩ ⟨"HeaveSongsModel", "go", "(II)Z"⟩ ∈ gt := gt_mem 30 (by decide +kernel) rfl
theorem tp_31 : Cond.selects "HeaveSongsModel" ⟨"HeaveSongsModel", "carry", "(II)V"⟩ ⟨"HeaveSongsModel", "carry", "(II)V"⟩ ∈ gt := gt_mem 31 (by decide +kernel) rfl
theorem tp_32 : Cond.selects "HeaveSongsModel" ⟨"HeaveSongsModel", "leastNow", "(I)I"⟩ ⟨"HeaveSongsModel", "leastNow", "(I)I"⟩ ∈ gt := gt_mem 32 (by decide +kernel) rfl
theorem tp_33 : Cond.selects "HeaveSongsModel" ⟨"HeaveSongsModel", "findLines", "(I)V"⟩ ⟨"HeaveSongsModel", "findLines", "(I)V"⟩ ∈ gt := gt_mem 33 (by decide +kernel) rfl
theorem tp_34 : Cond.selects "HeaveSongsModel" ⟨"HeaveSongsModel", "sungFrom", "(II)I"⟩ ⟨"HeaveSongsModel", "sungFrom", "(II)I"⟩ ∈ gt := gt_mem 34 (by decide +kernel) rfl
theorem tp_35 : Cond.selects "HeaveSongsModel" ⟨"HeaveSongsModel", "wrongOf", "(III)I"⟩ ⟨"HeaveSongsModel", "wrongOf", "(III)I"⟩ ∈ gt := gt_mem 35 (by decide +kernel) rfl
theorem tp_36 : Cond.selects "HeaveSongsModel" ⟨"HeaveSongsModel", "sumOf", "(IIIIIII)I"⟩ ⟨"HeaveSongsModel", "sumOf", "(IIIIIII)I"⟩ ∈ gt := gt_mem 36 (by decide +kernel) rfl
theorem tp_37 : Cond.selects "HeaveSongsModel" ⟨"HeaveSongsModel", "isOf", "(I)Z"⟩ ⟨"HeaveSongsModel", "isOf", "(I)Z"⟩ ∈ gt := gt_mem 37 (by decide +kernel) rfl
theorem tp_38 : Cond.selects "HeaveSongsModel" ⟨"HeaveSongsModel", "tryTwo", "(IIIIII)I"⟩ ⟨"HeaveSongsModel", "tryTwo", "(IIIIII)I"⟩ ∈ gt := gt_mem 38 (by decide +kernel) rfl
theorem tp_39 : Cond.selects "HeaveSongsModel" ⟨"HeaveSongsModel", "apartOf", "(II)I"⟩ ⟨"HeaveSongsModel", "apartOf", "(II)I"⟩ ∈ gt := gt_mem 39 (by decide +kernel) rfl
theorem tp_40 : Cond.selects "HeaveSongsModel" ⟨"HeaveSongsModel", "apartBy", "(ZII)I"⟩ ⟨"HeaveSongsModel", "apartBy", "(ZII)I"⟩ ∈ gt := gt_mem 40 (by decide +kernel) rfl
theorem tp_41 : Cond.selects "HeaveSongsModel" ⟨"HeaveSongsModel", "findTree", "()V"⟩ ⟨"HeaveSongsModel", "findTree", "()V"⟩ ∈ gt := gt_mem 41 (by decide +kernel) rfl
theorem tp_42 : Cond.selects "HeaveSongsModel" ⟨"HeaveSongsModel", "note", "(J)V"⟩ ⟨"HeaveSongsModel", "note", "(J)V"⟩ ∈ gt := gt_mem 42 (by decide +kernel) rfl
theorem tw_gcn : (Jvm.Cond.native ({ cls := "java/lang/Object", name := "getClass", desc := "()Ljava/lang/Class;" } : Jvm.MethodName)) ∈ gt := gt_mem 479 (by decide +kernel) rfl
theorem tw_acn : (Jvm.Cond.native ({ cls := "java/lang/System", name := "arraycopy", desc := "(Ljava/lang/Object;ILjava/lang/Object;II)V" } : Jvm.MethodName)) ∈ gt := gt_mem 491 (by decide +kernel) rfl
