/-! THE ABSTRACT HEAP: (next address, the address of the JDK's shared empty array, the cells), and the rows of the walk over it -/
abbrev AE : Type := (Nat × vp_A) ⊕ (Nat × List Value)
def ha_c (Y : Nat → ClassId) (e : AE) : va_E := match e with
  | .inl x => .inl (Y x.1, x.2)
  | .inr o => .inr o
abbrev ha_tys (Y : Nat → ClassId) : List (ClassId × FieldType) := [(Y 0, .int), (Y 1, .long), (Y 2, .boolean), (Y 3, .object "java/lang/Object"), (Y 4, .array .int)]
abbrev AH : Type := Nat × (Nat × Nat) × (Nat → Option AE)
/-- base, z and the Class object of Object[], the array classes, the classes -/
abbrev HG : Type := Nat × (Nat × Nat) × (Nat → ClassId) × va_G
def ha_A (G : HG) : Nat → Prop := fun q => G.1 ≤ q
def ha_z : AE := .inl (3, 0, .inr (.inr (.inr (.inr fun _ => none))))
def HR (G : HG) (h : AH) (H : Heap) : Prop := H.size = h.1 ∧ h.2.1 = G.2.1 ∧ ∃ ws : va_W, va_P G.2.2.2 vwCl ws H ∧ va_D (ha_A G) ws ∧ ∀ (a : Nat) (e : AE), h.2.2 a = some e → (∃ k : Nat, ws[k]? = some (a, ha_c G.2.2.1 e)) ∨ (a = h.2.1.1 ∧ e = ha_z)
abbrev ha_zc : String := "java/util/ArrayList"
abbrev ha_zn : String := "DEFAULTCAPACITY_EMPTY_ELEMENTDATA"
abbrev ha_zd : String := "[Ljava/lang/Object;"
/-- the words that move with the tables' warming alone -/
def AOA (s : State) : Prop := (Cond.arrayOver (.array .int)).before #[] s = true
theorem AOA.moved {u U : State} (hvm : u.vm.Alike U.vm) (h : AOA u) : AOA U := by
  have h2 : (Cond.arrayOver (.array .int)).before #[] (u.setVm U.vm) = true := Cond.overAtom_setVm hvm _ rfl h
  exact h2
def NW (s : State) : Prop := (∀ q ∈ nw_nest, va_Nw (.methodLinkNest q.1 q.2.1 q.2.2.1 q.2.2.2) s) ∧ (∀ q ∈ nw_cast, va_Nw (.castable q.1 q.2) s) ∧ va_Dc s ∧ va_AO "java/lang/Object" s ∧ AOA s
def SF (G : HG) (s : State) : Prop := va_K G.2.2.2 vwCl (ha_tys G.2.2.1) s ∧ NW s ∧ va_Z ha_zc ha_zn ha_zd (.ref G.2.1.1) (ha_A G) s s.heap ∧ va_T (.object "java/lang/Object") G.2.1.1 0 (fun _ => .null) (ha_A G) s s.heap ∧ G.1 ≤ s.heap.size ∧ va_Mi ha_zd G.2.1.2 s
theorem NW.warm {s U : State} (hW : s.WarmedH U.vm) (h : NW s) : NW U := ⟨fun q hq => (h.1 q hq).warmM hW, fun q hq => (h.2.1 q hq).warmC hW, h.2.2.1.moved hW.alike, h.2.2.2.1.moved hW.alike, h.2.2.2.2.moved hW.alike⟩
theorem NW.same {s U : State} (e : s.vm = U.vm) (h : NW s) : NW U := ⟨fun q hq => (h.1 q hq).same rfl e, fun q hq => (h.2.1 q hq).same rfl e, h.2.2.1.moved (by rw [e]; exact Vm.Alike.refl _), h.2.2.2.1.moved (by rw [e]; exact Vm.Alike.refl _), h.2.2.2.2.moved (by rw [e]; exact Vm.Alike.refl _)⟩
/-- the machine's fixed part: program, launch, environment, room, entry state, method, arguments, frames below, method, code, goal, heap's fixed part -/
abbrev MX : Type := Program × Launch × Env × Room × State × MethodId × Array Value × List Frame × Method × Code × (State → Prop) × HG
def PT (X : MX) (nL cells slots pc : Nat) (lv : List (Nat × Value)) (st : List Value) (h : AH) : Prop := match X with
  | (p, l, e, R, s, m, args, below, meth, c, Q, G) => ∀ (H : Heap) (locs : List Loc) (ls : Array Slot), HR G h H → va_S (ha_A G) s.heap H locs → lv_has ls nL lv → W p l e R s m args below meth c H locs cells slots Q (F0 m pc ls st)
def CX (X : MX) (cc : ByteArray) (nL : Nat) (own : String) (ret : Option FieldType) (rm : Room) : Prop := match X with
  | (p, _, _, R, s, m, args, _, meth, c, _, G) => p.tables.exec = Jvm.exec ∧ c.code = cc ∧ c.maxLocals = nL ∧ s.vm.findClass own = some m.cls ∧ (∀ w ∈ gt, w.before args s = true) ∧ SF G s ∧ R = rm ∧ meth.sig.returnType = ret ∧ meth.locks = false
/-- the goal is: this method returns v with the heap h -/
def PR (X : MX) (rm : Room) (v : Option Value) (h : AH) : Prop := match X with
  | (_, _, _, _, s, _, args, below, _, _, Q, G) => Q = MQ below (fun _ st o t => o = .returned v ∧ HR G h t.heap ∧ va_F (ha_A G) st t) args s rm.cells rm.slots (ha_A G)
def Con (l : Launch) (y : MethodName) (cc : ByteArray) (nL : Nat) (ret : Option FieldType) (rm : Room) (av : List Value) (h : AH) (v : Option Value) (h' : AH) : Prop :=
  ∀ G : HG, Met l y (.code y cc nL ret :: gt) rm (va_Pc av (fun U => HR G h U.heap ∧ SF G U)) (fun _ st o t => o = .returned v ∧ HR G h' t.heap ∧ va_F (ha_A G) st t) rm.cells rm.slots (ha_A G)
theorem ob {α β : Type} {x : Option α} {f : α → Option β} {r : β} {P : Prop} (h : x.bind f = some r) (k : ∀ v : α, x = some v → f v = some r → P) : P := by
  cases x with
  | none => cases h
  | some v => exact k v rfl h
def iter {σ ρ : Type} (body : σ → Option (σ ⊕ ρ)) : Nat → σ → Option ρ
  | 0, _ => none
  | n + 1, s => match body s with
    | some (.inl s') => iter body n s'
    | some (.inr r) => some r
    | none => none
theorem iter_W {σ ρ : Type} (P : σ → Prop) (K : ρ → Prop) (body : σ → Option (σ ⊕ ρ)) (h1 : ∀ s s', body s = some (.inl s') → P s' → P s) (h2 : ∀ s r, body s = some (.inr r) → K r → P s) : ∀ (n : Nat) (s : σ) (r : ρ), iter body n s = some r → K r → P s
  | 0, _, _, h, _ => by cases h
  | n + 1, s, r, h, k => by
    unfold iter at h
    split at h
    · next s' hs => exact h1 s s' hs (iter_W P K body h1 h2 n s' r h k)
    · next r' hs => cases h; exact h2 s _ hs k
    · cases h
-- reads and writes
def hgI (h : AH) (a ci k : Nat) : Option Int32 := match h.2.2 a with
  | some (.inr o) => if o.1 = ci then (match o.2[k]? with | some (.int v) => some v | _ => none) else none
  | _ => none
def hgJ (h : AH) (a ci k : Nat) : Option Int64 := match h.2.2 a with
  | some (.inr o) => if o.1 = ci then (match o.2[k]? with | some (.long v) => some v | _ => none) else none
  | _ => none
def hgR (h : AH) (a ci k : Nat) : Option Nat := match h.2.2 a with
  | some (.inr o) => if o.1 = ci then (match o.2[k]? with | some (.ref v) => some v | _ => none) else none
  | _ => none
def hup (h : AH) (a : Nat) (e : AE) : AH := (h.1, h.2.1, va_up h.2.2 a (some e))
def hpF (h : AH) (a ci k : Nat) (v : Value) : Option AH := match h.2.2 a with
  | some (.inr o) => if o.1 = ci ∧ k < o.2.length then some (hup h a (.inr (ci, o.2.set k v))) else none
  | _ => none
def hcl (h : AH) (a ci : Nat) : Option Unit := match h.2.2 a with
  | some (.inr o) => if o.1 = ci then some () else none
  | _ => none
def hin (i : Int32) (n : Nat) : Bool := decide (¬ (i < 0 ∨ n ≤ i.toNatClampNeg))
def hld (h : AH) (kd a : Nat) (i : Int32) : Option Int32 := match h.2.2 a with
  | some (.inl (kd', n, .inl f)) => if kd' = kd ∧ hin i n = true then some (f i.toNatClampNeg) else none
  | _ => none
def hst (h : AH) (kd a : Nat) (i x : Int32) : Option AH := match h.2.2 a with
  | some (.inl (kd', n, .inl f)) => if kd' = kd ∧ hin i n = true then some (hup h a (.inl (kd, n, .inl (upd f i.toNatClampNeg x)))) else none
  | _ => none
def hldJ (h : AH) (a : Nat) (i : Int32) : Option Int64 := match h.2.2 a with
  | some (.inl (kd', n, .inr (.inl f))) => if kd' = 1 ∧ hin i n = true then some (f i.toNatClampNeg) else none
  | _ => none
def hstJ (h : AH) (a : Nat) (i : Int32) (x : Int64) : Option AH := match h.2.2 a with
  | some (.inl (kd', n, .inr (.inl f))) => if kd' = 1 ∧ hin i n = true then some (hup h a (.inl (1, n, .inr (.inl (vp_updL f i.toNatClampNeg x))))) else none
  | _ => none
def hldR (h : AH) (kd a : Nat) (i : Int32) : Option Nat := match h.2.2 a with
  | some (.inl (kd', n, .inr (.inr (.inr (.inr f))))) => if kd' = kd ∧ hin i n = true then f i.toNatClampNeg else none
  | _ => none
def hob (h : AH) (a : Nat) : Option Unit := match h.2.2 a with
  | some (.inr o) => if o.1 < 14 then some () else none
  | _ => none
def hstR (h : AH) (a : Nat) (i : Int32) (x : Nat) : Option AH := match h.2.2 a, hob h x with
  | some (.inl (kd', n, .inr (.inr (.inr (.inr f))))), some () => if kd' = 3 ∧ hin i n = true then some (hup h a (.inl (3, n, .inr (.inr (.inr (.inr (va_up f i.toNatClampNeg (some x)))))))) else none
  | _, _ => none
def hlen (h : AH) (a : Nat) : Option Int32 := match h.2.2 a with
  | some (.inl x) => if x.1 < 5 then some (Int32.ofNat x.2.1) else none
  | _ => none
def hnew (h : AH) (e : AE) : AH := (h.1 + 1, h.2.1, va_up h.2.2 h.1 (some e))
theorem hgI_spec {h : AH} {a ci k : Nat} {v : Int32} (g : hgI h a ci k = some v) : ∃ fs : List Value, h.2.2 a = some (.inr (ci, fs)) ∧ fs[k]? = some (.int v) := by
  unfold hgI at g
  split at g
  · next o ho =>
    split at g
    · next e =>
      split at g
      · next w hw => cases g; subst e; exact ⟨o.2, ho, hw⟩
      · cases g
    · cases g
  · cases g
theorem hgJ_spec {h : AH} {a ci k : Nat} {v : Int64} (g : hgJ h a ci k = some v) : ∃ fs : List Value, h.2.2 a = some (.inr (ci, fs)) ∧ fs[k]? = some (.long v) := by
  unfold hgJ at g
  split at g
  · next o ho =>
    split at g
    · next e =>
      split at g
      · next w hw => cases g; subst e; exact ⟨o.2, ho, hw⟩
      · cases g
    · cases g
  · cases g
theorem hgR_spec {h : AH} {a ci k : Nat} {v : Nat} (g : hgR h a ci k = some v) : ∃ fs : List Value, h.2.2 a = some (.inr (ci, fs)) ∧ fs[k]? = some (.ref v) := by
  unfold hgR at g
  split at g
  · next o ho =>
    split at g
    · next e =>
      split at g
      · next w hw => cases g; subst e; exact ⟨o.2, ho, hw⟩
      · cases g
    · cases g
  · cases g
theorem hcl_spec {h : AH} {a ci : Nat} {u : Unit} (g : hcl h a ci = some u) : ∃ fs : List Value, h.2.2 a = some (.inr (ci, fs)) := by
  unfold hcl at g
  split at g
  · next o ho =>
    split at g
    · next e => subst e; exact ⟨o.2, ho⟩
    · cases g
  · cases g
theorem hpF_spec {h h' : AH} {a ci k : Nat} {v : Value} (g : hpF h a ci k v = some h') : ∃ fs : List Value, h.2.2 a = some (.inr (ci, fs)) ∧ k < fs.length ∧ h' = hup h a (.inr (ci, fs.set k v)) := by
  unfold hpF at g
  split at g
  · next o ho =>
    split at g
    · next e => cases g; obtain ⟨e, e2⟩ := e; subst e; exact ⟨o.2, ho, e2, rfl⟩
    · cases g
  · cases g
theorem hin_spec {i : Int32} {n : Nat} (g : hin i n = true) : vp_in i n := by
  unfold vp_in
  exact of_decide_eq_true g
theorem hld_spec {h : AH} {kd a : Nat} {i v : Int32} (g : hld h kd a i = some v) : ∃ (n : Nat) (f : Nat → Int32), h.2.2 a = some (.inl (kd, n, .inl f)) ∧ vp_in i n ∧ v = f i.toNatClampNeg := by
  unfold hld at g
  split at g
  · next kd' n f ho =>
    split at g
    · next e => cases g; obtain ⟨e, e2⟩ := e; subst e; exact ⟨n, f, ho, hin_spec e2, rfl⟩
    · cases g
  · cases g
theorem hst_spec {h h' : AH} {kd a : Nat} {i x : Int32} (g : hst h kd a i x = some h') : ∃ (n : Nat) (f : Nat → Int32), h.2.2 a = some (.inl (kd, n, .inl f)) ∧ vp_in i n ∧ h' = hup h a (.inl (kd, n, .inl (upd f i.toNatClampNeg x))) := by
  unfold hst at g
  split at g
  · next kd' n f ho =>
    split at g
    · next e => cases g; obtain ⟨e, e2⟩ := e; subst e; exact ⟨n, f, ho, hin_spec e2, rfl⟩
    · cases g
  · cases g
theorem hldJ_spec {h : AH} {a : Nat} {i : Int32} {v : Int64} (g : hldJ h a i = some v) : ∃ (n : Nat) (f : Nat → Int64), h.2.2 a = some (.inl (1, n, .inr (.inl f))) ∧ vp_in i n ∧ v = f i.toNatClampNeg := by
  unfold hldJ at g
  split at g
  · next kd' n f ho =>
    split at g
    · next e => cases g; obtain ⟨e, e2⟩ := e; subst e; exact ⟨n, f, ho, hin_spec e2, rfl⟩
    · cases g
  · cases g
theorem hstJ_spec {h h' : AH} {a : Nat} {i : Int32} {x : Int64} (g : hstJ h a i x = some h') : ∃ (n : Nat) (f : Nat → Int64), h.2.2 a = some (.inl (1, n, .inr (.inl f))) ∧ vp_in i n ∧ h' = hup h a (.inl (1, n, .inr (.inl (vp_updL f i.toNatClampNeg x)))) := by
  unfold hstJ at g
  split at g
  · next kd' n f ho =>
    split at g
    · next e => cases g; obtain ⟨e, e2⟩ := e; subst e; exact ⟨n, f, ho, hin_spec e2, rfl⟩
    · cases g
  · cases g
theorem hldR_spec {h : AH} {kd a : Nat} {i : Int32} {v : Nat} (g : hldR h kd a i = some v) : ∃ (n : Nat) (f : Nat → Option Nat), h.2.2 a = some (.inl (kd, n, .inr (.inr (.inr (.inr f))))) ∧ vp_in i n ∧ f i.toNatClampNeg = some v := by
  unfold hldR at g
  split at g
  · next kd' n f ho =>
    split at g
    · next e => obtain ⟨e, e2⟩ := e; subst e; exact ⟨n, f, ho, hin_spec e2, g⟩
    · cases g
  · cases g
theorem hob_spec {h : AH} {a : Nat} {u : Unit} (g : hob h a = some u) : ∃ o : Nat × List Value, h.2.2 a = some (.inr o) ∧ o.1 < 14 := by
  unfold hob at g
  split at g
  · next o ho =>
    split at g
    · next e => exact ⟨o, ho, e⟩
    · cases g
  · cases g
theorem hstR_spec {h h' : AH} {a x : Nat} {i : Int32} (g : hstR h a i x = some h') : ∃ (n : Nat) (f : Nat → Option Nat) (o : Nat × List Value), h.2.2 a = some (.inl (3, n, .inr (.inr (.inr (.inr f))))) ∧ h.2.2 x = some (.inr o) ∧ o.1 < 14 ∧ vp_in i n ∧ h' = hup h a (.inl (3, n, .inr (.inr (.inr (.inr (va_up f i.toNatClampNeg (some x))))))) := by
  unfold hstR at g
  split at g
  · next kd' n f ho hc =>
    split at g
    · next e => cases g; obtain ⟨e, e2⟩ := e; subst e; obtain ⟨o, hfs, h14⟩ := hob_spec hc; exact ⟨n, f, o, ho, hfs, h14, hin_spec e2, rfl⟩
    · cases g
  · cases g
theorem nw_all : ∀ ci, ci < 14 → ∃ r, vwCl[ci]? = some r ∧ (r.1, "java/lang/Object") ∈ nw_cast := by
  intro ci h
  match ci, h with
  | 0, _ => exact ⟨_, rfl, by decide +kernel⟩
  | 1, _ => exact ⟨_, rfl, by decide +kernel⟩
  | 2, _ => exact ⟨_, rfl, by decide +kernel⟩
  | 3, _ => exact ⟨_, rfl, by decide +kernel⟩
  | 4, _ => exact ⟨_, rfl, by decide +kernel⟩
  | 5, _ => exact ⟨_, rfl, by decide +kernel⟩
  | 6, _ => exact ⟨_, rfl, by decide +kernel⟩
  | 7, _ => exact ⟨_, rfl, by decide +kernel⟩
  | 8, _ => exact ⟨_, rfl, by decide +kernel⟩
  | 9, _ => exact ⟨_, rfl, by decide +kernel⟩
  | 10, _ => exact ⟨_, rfl, by decide +kernel⟩
  | 11, _ => exact ⟨_, rfl, by decide +kernel⟩
  | 12, _ => exact ⟨_, rfl, by decide +kernel⟩
  | 13, _ => exact ⟨_, rfl, by decide +kernel⟩
theorem hlen_spec {h : AH} {a : Nat} {v : Int32} (g : hlen h a = some v) : ∃ x : Nat × vp_A, h.2.2 a = some (.inl x) ∧ x.1 < 5 ∧ v = Int32.ofNat x.2.1 := by
  unfold hlen at g
  split at g
  · next x ho =>
    split at g
    · next e => cases g; exact ⟨x, ho, e, rfl⟩
    · cases g
  · cases g
def hnews (h : AH) : List AE → AH
  | [] => h
  | e :: es => hnews (hnew h e) es
def hmulti (b n k : Nat) : List AE := .inl (4, n, .inr (.inr (.inr (.inr fun i => if i < n then some (b + 1 + i) else none)))) :: List.replicate n (.inl (0, k, .inl fun _ => 0))
theorem hnews_1 : ∀ (es : List AE) (h : AH), (hnews h es).1 = h.1 + es.length
  | [], _ => rfl
  | e :: es, h => by
    show (hnews (hnew h e) es).1 = _
    rw [hnews_1 es]
    show h.1 + 1 + es.length = h.1 + (es.length + 1)
    omega
theorem hnews_2 : ∀ (es : List AE) (h : AH), (hnews h es).2.1 = h.2.1
  | [], _ => rfl
  | e :: es, h => by
    show (hnews (hnew h e) es).2.1 = _
    rw [hnews_2 es]
    rfl
theorem hnews_at : ∀ (es : List AE) (h : AH) (a : Nat) (e : AE), (hnews h es).2.2 a = some e → (∃ i, a = h.1 + i ∧ es[i]? = some e) ∨ h.2.2 a = some e
  | [], _, _, _, q => Or.inr q
  | x :: es, h, a, e, q => by
    rcases hnews_at es (hnew h x) a e q with ⟨i, h1, h2⟩ | h1
    · refine Or.inl ⟨i + 1, ?_, h2⟩
      rw [h1]
      show h.1 + 1 + i = h.1 + (i + 1)
      omega
    · by_cases ha : a = h.1
      · refine Or.inl ⟨0, ha, ?_⟩
        subst ha
        have : (some x : Option AE) = some e := by rw [← h1]; simp [hnew, va_up]
        exact this
      · exact Or.inr (by rw [← h1]; simp [hnew, va_up, ha])
/-- a row of references (not the shared empty one) -/
def hoa (h : AH) (a : Nat) : Option Unit := match h.2.2 a with
  | some (.inl (kd, n, .inr (.inr (.inr (.inr _))))) => if kd = 3 ∧ 0 < n then some () else none
  | _ => none
theorem hoa_spec {h : AH} {a : Nat} {u : Unit} (g : hoa h a = some u) : ∃ (n : Nat) (f : Nat → Option Nat), h.2.2 a = some (.inl (3, n, .inr (.inr (.inr (.inr f))))) ∧ 0 < n := by
  unfold hoa at g
  split at g
  · next kd n f ho =>
    split at g
    · next e => obtain ⟨e, e2⟩ := e; subst e; exact ⟨n, f, ho, e2⟩
    · cases g
  · cases g
def hcpy (h : AH) (a0 a : Nat) (n : Int32) : Option AH := match h.2.2 a0, h.2.2 a with
  | some (.inl (k0, n0, .inr (.inr (.inr (.inr f))))), some (.inl (k1, n1, .inr (.inr (.inr (.inr g))))) =>
    if k0 = 3 ∧ k1 = 3 ∧ 0 < n0 ∧ 0 < n1 ∧ ¬ n < 0 ∧ n.toNatClampNeg ≤ n0 ∧ n.toNatClampNeg ≤ n1 ∧ (List.range n.toNatClampNeg).all (fun i => match f i with | none => true | some y => (hob h y).isSome) = true then some (hup h a (.inl (3, n1, .inr (.inr (.inr (.inr (va_cpy f g 0 0 n.toNatClampNeg))))))) else none
  | _, _ => none
theorem hcpy_spec {h h' : AH} {a0 a : Nat} {n : Int32} (q : hcpy h a0 a n = some h') : ∃ (n0 n1 : Nat) (f g : Nat → Option Nat), h.2.2 a0 = some (.inl (3, n0, .inr (.inr (.inr (.inr f))))) ∧ h.2.2 a = some (.inl (3, n1, .inr (.inr (.inr (.inr g))))) ∧ 0 < n0 ∧ 0 < n1 ∧ ¬ n < 0 ∧ n.toNatClampNeg ≤ n0 ∧ n.toNatClampNeg ≤ n1 ∧ (∀ i, i < n.toNatClampNeg → ∀ y, f i = some y → ∃ u, hob h y = some u) ∧ h' = hup h a (.inl (3, n1, .inr (.inr (.inr (.inr (va_cpy f g 0 0 n.toNatClampNeg)))))) := by
  unfold hcpy at q
  split at q
  · next k0 n0 f k1 n1 g e0 e1 =>
    split at q
    · next e =>
      obtain ⟨x1, x2, x3, x4, x5, x6, x7, x8⟩ := e
      subst x1
      subst x2
      cases q
      refine ⟨n0, n1, f, g, e0, e1, x3, x4, x5, x6, x7, fun i hi y hy => ?_, rfl⟩
      have h1 := List.all_eq_true.mp x8 i (List.mem_range.mpr hi)
      rw [hy] at h1
      exact Option.isSome_iff_exists.mp h1
    · cases q
  · cases q
theorem pt_iconst {X : MX} {cc : ByteArray} {nL : Nat} {own : String} {ret : Option FieldType} {rm : Room} (C : CX X cc nL own ret rm) {cells slots pc : Nat} {lv : List (Nat × Value)} {st : List Value} {h : AH} {n : Int} {v : Int32} (hv : Int32.ofInt n = v) (hd : decode cc pc = .ok (.iconst n, 1)) (k : PT X nL cells slots (pc + 1) lv (.int v :: st) h) : PT X nL cells slots pc lv (st) h := by
  obtain ⟨p, l, e, R, s, m, args, below, meth, c, Q, G⟩ := X
  obtain ⟨hx, hb, hml, hown, hts, hsf, hR, hrt, hlk⟩ := C
  intro H locs ls hh hS hl
  exact lv_iconst hx hb hd hv (k H locs ls hh hS hl)

theorem pt_bipush {X : MX} {cc : ByteArray} {nL : Nat} {own : String} {ret : Option FieldType} {rm : Room} (C : CX X cc nL own ret rm) {cells slots pc : Nat} {lv : List (Nat × Value)} {st : List Value} {h : AH} {n : Int} {v : Int32} (hv : (Int8.ofInt n).toInt32 = v) (hd : decode cc pc = .ok (.bipush n, 2)) (k : PT X nL cells slots (pc + 2) lv (.int v :: st) h) : PT X nL cells slots pc lv (st) h := by
  obtain ⟨p, l, e, R, s, m, args, below, meth, c, Q, G⟩ := X
  obtain ⟨hx, hb, hml, hown, hts, hsf, hR, hrt, hlk⟩ := C
  intro H locs ls hh hS hl
  exact lv_bipush hx hb hd hv (k H locs ls hh hS hl)

theorem pt_sipush {X : MX} {cc : ByteArray} {nL : Nat} {own : String} {ret : Option FieldType} {rm : Room} (C : CX X cc nL own ret rm) {cells slots pc : Nat} {lv : List (Nat × Value)} {st : List Value} {h : AH} {n : Int} {v : Int32} (hv : (Int16.ofInt n).toInt32 = v) (hd : decode cc pc = .ok (.sipush n, 3)) (k : PT X nL cells slots (pc + 3) lv (.int v :: st) h) : PT X nL cells slots pc lv (st) h := by
  obtain ⟨p, l, e, R, s, m, args, below, meth, c, Q, G⟩ := X
  obtain ⟨hx, hb, hml, hown, hts, hsf, hR, hrt, hlk⟩ := C
  intro H locs ls hh hS hl
  exact lv_sipush hx hb hd hv (k H locs ls hh hS hl)

theorem pt_lconst {X : MX} {cc : ByteArray} {nL : Nat} {own : String} {ret : Option FieldType} {rm : Room} (C : CX X cc nL own ret rm) {cells slots pc : Nat} {lv : List (Nat × Value)} {st : List Value} {h : AH} {n : Fin 2} {v : Int64} (hv : Int64.ofNat (n : Nat) = v) (hd : decode cc pc = .ok (.lconst n, 1)) (k : PT X nL cells slots (pc + 1) lv (.long v :: st) h) : PT X nL cells slots pc lv (st) h := by
  obtain ⟨p, l, e, R, s, m, args, below, meth, c, Q, G⟩ := X
  obtain ⟨hx, hb, hml, hown, hts, hsf, hR, hrt, hlk⟩ := C
  intro H locs ls hh hS hl
  exact lv_lconst hx hb hd hv (k H locs ls hh hS hl)

theorem pt_ldc {X : MX} {cc : ByteArray} {nL : Nat} {own : String} {ret : Option FieldType} {rm : Room} (C : CX X cc nL own ret rm) {cells slots pc : Nat} {lv : List (Nat × Value)} {st : List Value} {h : AH} {i : Nat} {v : Int32} (hc : Cond.constant own i v ∈ gt) (hd : decode cc pc = .ok (.ldc i, 2)) (k : PT X nL cells slots (pc + 2) lv (.int v :: st) h) : PT X nL cells slots pc lv (st) h := by
  obtain ⟨p, l, e, R, s, m, args, below, meth, c, Q, G⟩ := X
  obtain ⟨hx, hb, hml, hown, hts, hsf, hR, hrt, hlk⟩ := C
  intro H locs ls hh hS hl
  exact lv_ldc hx hb hown (hts _ hc) hd (k H locs ls hh hS hl)

theorem pt_ldc2 {X : MX} {cc : ByteArray} {nL : Nat} {own : String} {ret : Option FieldType} {rm : Room} (C : CX X cc nL own ret rm) {cells slots pc : Nat} {lv : List (Nat × Value)} {st : List Value} {h : AH} {i : Nat} {v : Int64} (hc : Cond.constantLong own i v ∈ gt) (hd : decode cc pc = .ok (.ldc2_w i, 3)) (k : PT X nL cells slots (pc + 3) lv (.long v :: st) h) : PT X nL cells slots pc lv (st) h := by
  obtain ⟨p, l, e, R, s, m, args, below, meth, c, Q, G⟩ := X
  obtain ⟨hx, hb, hml, hown, hts, hsf, hR, hrt, hlk⟩ := C
  intro H locs ls hh hS hl
  exact lv_ldc2 hx hb hown (hts _ hc) hd (k H locs ls hh hS hl)

theorem pt_iload_n {X : MX} {cc : ByteArray} {nL : Nat} {own : String} {ret : Option FieldType} {rm : Room} (C : CX X cc nL own ret rm) {cells slots pc : Nat} {lv : List (Nat × Value)} {st : List Value} {h : AH} (q : Nat) {j : Fin 4} {i : Nat} {x : Int32} (hi : (j : Nat) = i) (hq : lv[q]? = some (i, .int x)) (hd : decode cc pc = .ok (.iload_n j, 1)) (k : PT X nL cells slots (pc + 1) lv (.int x :: st) h) : PT X nL cells slots pc lv (st) h := by
  obtain ⟨p, l, e, R, s, m, args, below, meth, c, Q, G⟩ := X
  obtain ⟨hx, hb, hml, hown, hts, hsf, hR, hrt, hlk⟩ := C
  intro H locs ls hh hS hl
  exact lv_iload_n hx hb hd hi (lv_at hl q hq) (k H locs ls hh hS hl)

theorem pt_iload {X : MX} {cc : ByteArray} {nL : Nat} {own : String} {ret : Option FieldType} {rm : Room} (C : CX X cc nL own ret rm) {cells slots pc : Nat} {lv : List (Nat × Value)} {st : List Value} {h : AH} (q : Nat) {i : Nat} {x : Int32} (hq : lv[q]? = some (i, .int x)) (hd : decode cc pc = .ok (.iload i, 2)) (k : PT X nL cells slots (pc + 2) lv (.int x :: st) h) : PT X nL cells slots pc lv (st) h := by
  obtain ⟨p, l, e, R, s, m, args, below, meth, c, Q, G⟩ := X
  obtain ⟨hx, hb, hml, hown, hts, hsf, hR, hrt, hlk⟩ := C
  intro H locs ls hh hS hl
  exact lv_iload hx hb hd (lv_at hl q hq) (k H locs ls hh hS hl)

theorem pt_lload_n {X : MX} {cc : ByteArray} {nL : Nat} {own : String} {ret : Option FieldType} {rm : Room} (C : CX X cc nL own ret rm) {cells slots pc : Nat} {lv : List (Nat × Value)} {st : List Value} {h : AH} (q : Nat) {j : Fin 4} {i : Nat} {x : Int64} (hi : (j : Nat) = i) (hq : lv[q]? = some (i, .long x)) (hd : decode cc pc = .ok (.lload_n j, 1)) (k : PT X nL cells slots (pc + 1) lv (.long x :: st) h) : PT X nL cells slots pc lv (st) h := by
  obtain ⟨p, l, e, R, s, m, args, below, meth, c, Q, G⟩ := X
  obtain ⟨hx, hb, hml, hown, hts, hsf, hR, hrt, hlk⟩ := C
  intro H locs ls hh hS hl
  exact lv_lload_n hx hb hd hi (lv_at hl q hq) (k H locs ls hh hS hl)

theorem pt_lload {X : MX} {cc : ByteArray} {nL : Nat} {own : String} {ret : Option FieldType} {rm : Room} (C : CX X cc nL own ret rm) {cells slots pc : Nat} {lv : List (Nat × Value)} {st : List Value} {h : AH} (q : Nat) {i : Nat} {x : Int64} (hq : lv[q]? = some (i, .long x)) (hd : decode cc pc = .ok (.lload i, 2)) (k : PT X nL cells slots (pc + 2) lv (.long x :: st) h) : PT X nL cells slots pc lv (st) h := by
  obtain ⟨p, l, e, R, s, m, args, below, meth, c, Q, G⟩ := X
  obtain ⟨hx, hb, hml, hown, hts, hsf, hR, hrt, hlk⟩ := C
  intro H locs ls hh hS hl
  exact lv_lload hx hb hd (lv_at hl q hq) (k H locs ls hh hS hl)

theorem pt_aload_n {X : MX} {cc : ByteArray} {nL : Nat} {own : String} {ret : Option FieldType} {rm : Room} (C : CX X cc nL own ret rm) {cells slots pc : Nat} {lv : List (Nat × Value)} {st : List Value} {h : AH} (q : Nat) {j : Fin 4} {i : Nat} {x : Nat} (hi : (j : Nat) = i) (hq : lv[q]? = some (i, .ref x)) (hd : decode cc pc = .ok (.aload_n j, 1)) (k : PT X nL cells slots (pc + 1) lv (.ref x :: st) h) : PT X nL cells slots pc lv (st) h := by
  obtain ⟨p, l, e, R, s, m, args, below, meth, c, Q, G⟩ := X
  obtain ⟨hx, hb, hml, hown, hts, hsf, hR, hrt, hlk⟩ := C
  intro H locs ls hh hS hl
  exact lv_aload_n hx hb hd hi (lv_at hl q hq) (k H locs ls hh hS hl)

theorem pt_aload {X : MX} {cc : ByteArray} {nL : Nat} {own : String} {ret : Option FieldType} {rm : Room} (C : CX X cc nL own ret rm) {cells slots pc : Nat} {lv : List (Nat × Value)} {st : List Value} {h : AH} (q : Nat) {i : Nat} {x : Nat} (hq : lv[q]? = some (i, .ref x)) (hd : decode cc pc = .ok (.aload i, 2)) (k : PT X nL cells slots (pc + 2) lv (.ref x :: st) h) : PT X nL cells slots pc lv (st) h := by
  obtain ⟨p, l, e, R, s, m, args, below, meth, c, Q, G⟩ := X
  obtain ⟨hx, hb, hml, hown, hts, hsf, hR, hrt, hlk⟩ := C
  intro H locs ls hh hS hl
  exact lv_aload hx hb hd (lv_at hl q hq) (k H locs ls hh hS hl)

theorem pt_aload_nQ {X : MX} {cc : ByteArray} {nL : Nat} {own : String} {ret : Option FieldType} {rm : Room} (C : CX X cc nL own ret rm) {cells slots pc : Nat} {lv : List (Nat × Value)} {st : List Value} {h : AH} (q : Nat) {j : Fin 4} {i : Nat} {x : Option Nat} (hi : (j : Nat) = i) (hq : lv[q]? = some (i, va_rf x)) (hd : decode cc pc = .ok (.aload_n j, 1)) (k : PT X nL cells slots (pc + 1) lv (va_rf x :: st) h) : PT X nL cells slots pc lv st h := by
  obtain ⟨p, l, e, R, s, m, args, below, meth, c, Q, G⟩ := X
  obtain ⟨hx, hb, hml, hown, hts, hsf, hR, hrt, hlk⟩ := C
  intro H locs ls hh hS hl
  cases x with
  | none => exact lv_aload_nN hx hb hd hi (lv_at hl q hq) (k H locs ls hh hS hl)
  | some a => exact lv_aload_n hx hb hd hi (lv_at hl q hq) (k H locs ls hh hS hl)

theorem pt_aloadQ {X : MX} {cc : ByteArray} {nL : Nat} {own : String} {ret : Option FieldType} {rm : Room} (C : CX X cc nL own ret rm) {cells slots pc : Nat} {lv : List (Nat × Value)} {st : List Value} {h : AH} (q : Nat) {i : Nat} {x : Option Nat} (hq : lv[q]? = some (i, va_rf x)) (hd : decode cc pc = .ok (.aload i, 2)) (k : PT X nL cells slots (pc + 2) lv (va_rf x :: st) h) : PT X nL cells slots pc lv st h := by
  obtain ⟨p, l, e, R, s, m, args, below, meth, c, Q, G⟩ := X
  obtain ⟨hx, hb, hml, hown, hts, hsf, hR, hrt, hlk⟩ := C
  intro H locs ls hh hS hl
  cases x with
  | none => exact lv_aloadN hx hb hd (lv_at hl q hq) (k H locs ls hh hS hl)
  | some a => exact lv_aload hx hb hd (lv_at hl q hq) (k H locs ls hh hS hl)

theorem pt_istore_n {X : MX} {cc : ByteArray} {nL : Nat} {own : String} {ret : Option FieldType} {rm : Room} (C : CX X cc nL own ret rm) {cells slots pc : Nat} {lv : List (Nat × Value)} {st : List Value} {h : AH} (lv' : List (Nat × Value)) {j : Fin 4} {i : Nat} {x : Int32} (hi : (j : Nat) = i) (hn : i < nL) (hf : (i, Value.int x) :: lv.filter (fun q => !(q.1 == i) && !(q.1 + 1 == i && q.2.category == 2)) = lv') (hd : decode cc pc = .ok (.istore_n j, 1)) (k : PT X nL cells slots (pc + 1) lv' st h) : PT X nL cells slots pc lv (.int x :: st) h := by
  obtain ⟨p, l, e, R, s, m, args, below, meth, c, Q, G⟩ := X
  obtain ⟨hx, hb, hml, hown, hts, hsf, hR, hrt, hlk⟩ := C
  intro H locs ls hh hS hl
  exact lv_istore_n hx hb hd hi hl hn hf (fun ls' hl' => k H locs ls' hh hS hl')

theorem pt_istore {X : MX} {cc : ByteArray} {nL : Nat} {own : String} {ret : Option FieldType} {rm : Room} (C : CX X cc nL own ret rm) {cells slots pc : Nat} {lv : List (Nat × Value)} {st : List Value} {h : AH} (lv' : List (Nat × Value)) {i : Nat} {x : Int32} (hn : i < nL) (hf : (i, Value.int x) :: lv.filter (fun q => !(q.1 == i) && !(q.1 + 1 == i && q.2.category == 2)) = lv') (hd : decode cc pc = .ok (.istore i, 2)) (k : PT X nL cells slots (pc + 2) lv' st h) : PT X nL cells slots pc lv (.int x :: st) h := by
  obtain ⟨p, l, e, R, s, m, args, below, meth, c, Q, G⟩ := X
  obtain ⟨hx, hb, hml, hown, hts, hsf, hR, hrt, hlk⟩ := C
  intro H locs ls hh hS hl
  exact lv_istore hx hb hd hl hn hf (fun ls' hl' => k H locs ls' hh hS hl')

theorem pt_lstore_n {X : MX} {cc : ByteArray} {nL : Nat} {own : String} {ret : Option FieldType} {rm : Room} (C : CX X cc nL own ret rm) {cells slots pc : Nat} {lv : List (Nat × Value)} {st : List Value} {h : AH} (lv' : List (Nat × Value)) {j : Fin 4} {i : Nat} {x : Int64} (hi : (j : Nat) = i) (hn : i + 1 < nL) (hf : (i, Value.long x) :: lv.filter (fun q => !(q.1 == i) && (!(q.1 == i + 1) && !(q.1 + 1 == i && q.2.category == 2))) = lv') (hd : decode cc pc = .ok (.lstore_n j, 1)) (k : PT X nL cells slots (pc + 1) lv' st h) : PT X nL cells slots pc lv (.long x :: st) h := by
  obtain ⟨p, l, e, R, s, m, args, below, meth, c, Q, G⟩ := X
  obtain ⟨hx, hb, hml, hown, hts, hsf, hR, hrt, hlk⟩ := C
  intro H locs ls hh hS hl
  exact lv_lstore_n hx hb hd hi hl hn hf (fun ls' hl' => k H locs ls' hh hS hl')

theorem pt_lstore {X : MX} {cc : ByteArray} {nL : Nat} {own : String} {ret : Option FieldType} {rm : Room} (C : CX X cc nL own ret rm) {cells slots pc : Nat} {lv : List (Nat × Value)} {st : List Value} {h : AH} (lv' : List (Nat × Value)) {i : Nat} {x : Int64} (hn : i + 1 < nL) (hf : (i, Value.long x) :: lv.filter (fun q => !(q.1 == i) && (!(q.1 == i + 1) && !(q.1 + 1 == i && q.2.category == 2))) = lv') (hd : decode cc pc = .ok (.lstore i, 2)) (k : PT X nL cells slots (pc + 2) lv' st h) : PT X nL cells slots pc lv (.long x :: st) h := by
  obtain ⟨p, l, e, R, s, m, args, below, meth, c, Q, G⟩ := X
  obtain ⟨hx, hb, hml, hown, hts, hsf, hR, hrt, hlk⟩ := C
  intro H locs ls hh hS hl
  exact lv_lstore hx hb hd hl hn hf (fun ls' hl' => k H locs ls' hh hS hl')

theorem pt_astore_n {X : MX} {cc : ByteArray} {nL : Nat} {own : String} {ret : Option FieldType} {rm : Room} (C : CX X cc nL own ret rm) {cells slots pc : Nat} {lv : List (Nat × Value)} {st : List Value} {h : AH} (lv' : List (Nat × Value)) {j : Fin 4} {i : Nat} {x : Nat} (hi : (j : Nat) = i) (hn : i < nL) (hf : (i, Value.ref x) :: lv.filter (fun q => !(q.1 == i) && !(q.1 + 1 == i && q.2.category == 2)) = lv') (hd : decode cc pc = .ok (.astore_n j, 1)) (k : PT X nL cells slots (pc + 1) lv' st h) : PT X nL cells slots pc lv (.ref x :: st) h := by
  obtain ⟨p, l, e, R, s, m, args, below, meth, c, Q, G⟩ := X
  obtain ⟨hx, hb, hml, hown, hts, hsf, hR, hrt, hlk⟩ := C
  intro H locs ls hh hS hl
  exact lv_astore_n hx hb hd hi hl hn hf (fun ls' hl' => k H locs ls' hh hS hl')

theorem pt_astore {X : MX} {cc : ByteArray} {nL : Nat} {own : String} {ret : Option FieldType} {rm : Room} (C : CX X cc nL own ret rm) {cells slots pc : Nat} {lv : List (Nat × Value)} {st : List Value} {h : AH} (lv' : List (Nat × Value)) {i : Nat} {x : Nat} (hn : i < nL) (hf : (i, Value.ref x) :: lv.filter (fun q => !(q.1 == i) && !(q.1 + 1 == i && q.2.category == 2)) = lv') (hd : decode cc pc = .ok (.astore i, 2)) (k : PT X nL cells slots (pc + 2) lv' st h) : PT X nL cells slots pc lv (.ref x :: st) h := by
  obtain ⟨p, l, e, R, s, m, args, below, meth, c, Q, G⟩ := X
  obtain ⟨hx, hb, hml, hown, hts, hsf, hR, hrt, hlk⟩ := C
  intro H locs ls hh hS hl
  exact lv_astore hx hb hd hl hn hf (fun ls' hl' => k H locs ls' hh hS hl')

theorem pt_astore_nQ {X : MX} {cc : ByteArray} {nL : Nat} {own : String} {ret : Option FieldType} {rm : Room} (C : CX X cc nL own ret rm) {cells slots pc : Nat} {lv : List (Nat × Value)} {st : List Value} {h : AH} (lv' : List (Nat × Value)) {j : Fin 4} {i : Nat} {x : Option Nat} (hi : (j : Nat) = i) (hn : i < nL) (hf : (i, va_rf x) :: lv.filter (fun q => !(q.1 == i) && !(q.1 + 1 == i && q.2.category == 2)) = lv') (hd : decode cc pc = .ok (.astore_n j, 1)) (k : PT X nL cells slots (pc + 1) lv' st h) : PT X nL cells slots pc lv (va_rf x :: st) h := by
  obtain ⟨p, l, e, R, s, m, args, below, meth, c, Q, G⟩ := X
  obtain ⟨hx, hb, hml, hown, hts, hsf, hR, hrt, hlk⟩ := C
  intro H locs ls hh hS hl
  cases x with
  | none => exact lv_astore_nN hx hb hd hi hl hn hf (fun ls' hl' => k H locs ls' hh hS hl')
  | some a => exact lv_astore_n hx hb hd hi hl hn hf (fun ls' hl' => k H locs ls' hh hS hl')

theorem pt_astoreQ {X : MX} {cc : ByteArray} {nL : Nat} {own : String} {ret : Option FieldType} {rm : Room} (C : CX X cc nL own ret rm) {cells slots pc : Nat} {lv : List (Nat × Value)} {st : List Value} {h : AH} (lv' : List (Nat × Value)) {i : Nat} {x : Option Nat} (hn : i < nL) (hf : (i, va_rf x) :: lv.filter (fun q => !(q.1 == i) && !(q.1 + 1 == i && q.2.category == 2)) = lv') (hd : decode cc pc = .ok (.astore i, 2)) (k : PT X nL cells slots (pc + 2) lv' st h) : PT X nL cells slots pc lv (va_rf x :: st) h := by
  obtain ⟨p, l, e, R, s, m, args, below, meth, c, Q, G⟩ := X
  obtain ⟨hx, hb, hml, hown, hts, hsf, hR, hrt, hlk⟩ := C
  intro H locs ls hh hS hl
  cases x with
  | none => exact lv_astoreN hx hb hd hl hn hf (fun ls' hl' => k H locs ls' hh hS hl')
  | some a => exact lv_astore hx hb hd hl hn hf (fun ls' hl' => k H locs ls' hh hS hl')

theorem pt_iinc {X : MX} {cc : ByteArray} {nL : Nat} {own : String} {ret : Option FieldType} {rm : Room} (C : CX X cc nL own ret rm) {cells slots pc : Nat} {lv : List (Nat × Value)} {st : List Value} {h : AH} (q : Nat) (lv' : List (Nat × Value)) {i : Nat} {n : Int} {x v : Int32} (hq : lv[q]? = some (i, .int x)) (hv : x + Int32.ofInt n = v) (hn : i < nL) (hf : (i, Value.int v) :: lv.filter (fun q => !(q.1 == i) && !(q.1 + 1 == i && q.2.category == 2)) = lv') (hd : decode cc pc = .ok (.iinc i n, 3)) (k : PT X nL cells slots (pc + 3) lv' st h) : PT X nL cells slots pc lv st h := by
  obtain ⟨p, l, e, R, s, m, args, below, meth, c, Q, G⟩ := X
  obtain ⟨hx, hb, hml, hown, hts, hsf, hR, hrt, hlk⟩ := C
  intro H locs ls hh hS hl
  exact lv_iinc hx hb hd hl hq hv hn hf (fun ls' hl' => k H locs ls' hh hS hl')

theorem pt_iadd {X : MX} {cc : ByteArray} {nL : Nat} {own : String} {ret : Option FieldType} {rm : Room} (C : CX X cc nL own ret rm) {cells slots pc : Nat} {lv : List (Nat × Value)} {st : List Value} {h : AH} {x y : Int32} (hd : decode cc pc = .ok (.iadd, 1)) (k : PT X nL cells slots (pc + 1) lv (.int (x + y) :: st) h) : PT X nL cells slots pc lv (.int y :: .int x :: st) h := by
  obtain ⟨p, l, e, R, s, m, args, below, meth, c, Q, G⟩ := X
  obtain ⟨hx, hb, hml, hown, hts, hsf, hR, hrt, hlk⟩ := C
  intro H locs ls hh hS hl
  exact lv_iadd hx hb hd (k H locs ls hh hS hl)

theorem pt_isub {X : MX} {cc : ByteArray} {nL : Nat} {own : String} {ret : Option FieldType} {rm : Room} (C : CX X cc nL own ret rm) {cells slots pc : Nat} {lv : List (Nat × Value)} {st : List Value} {h : AH} {x y : Int32} (hd : decode cc pc = .ok (.isub, 1)) (k : PT X nL cells slots (pc + 1) lv (.int (x - y) :: st) h) : PT X nL cells slots pc lv (.int y :: .int x :: st) h := by
  obtain ⟨p, l, e, R, s, m, args, below, meth, c, Q, G⟩ := X
  obtain ⟨hx, hb, hml, hown, hts, hsf, hR, hrt, hlk⟩ := C
  intro H locs ls hh hS hl
  exact lv_isub hx hb hd (k H locs ls hh hS hl)

theorem pt_imul {X : MX} {cc : ByteArray} {nL : Nat} {own : String} {ret : Option FieldType} {rm : Room} (C : CX X cc nL own ret rm) {cells slots pc : Nat} {lv : List (Nat × Value)} {st : List Value} {h : AH} {x y : Int32} (hd : decode cc pc = .ok (.imul, 1)) (k : PT X nL cells slots (pc + 1) lv (.int (x * y) :: st) h) : PT X nL cells slots pc lv (.int y :: .int x :: st) h := by
  obtain ⟨p, l, e, R, s, m, args, below, meth, c, Q, G⟩ := X
  obtain ⟨hx, hb, hml, hown, hts, hsf, hR, hrt, hlk⟩ := C
  intro H locs ls hh hS hl
  exact lv_imul hx hb hd (k H locs ls hh hS hl)

theorem pt_iand {X : MX} {cc : ByteArray} {nL : Nat} {own : String} {ret : Option FieldType} {rm : Room} (C : CX X cc nL own ret rm) {cells slots pc : Nat} {lv : List (Nat × Value)} {st : List Value} {h : AH} {x y : Int32} (hd : decode cc pc = .ok (.iand, 1)) (k : PT X nL cells slots (pc + 1) lv (.int (x &&& y) :: st) h) : PT X nL cells slots pc lv (.int y :: .int x :: st) h := by
  obtain ⟨p, l, e, R, s, m, args, below, meth, c, Q, G⟩ := X
  obtain ⟨hx, hb, hml, hown, hts, hsf, hR, hrt, hlk⟩ := C
  intro H locs ls hh hS hl
  exact lv_iand hx hb hd (k H locs ls hh hS hl)

theorem pt_ior {X : MX} {cc : ByteArray} {nL : Nat} {own : String} {ret : Option FieldType} {rm : Room} (C : CX X cc nL own ret rm) {cells slots pc : Nat} {lv : List (Nat × Value)} {st : List Value} {h : AH} {x y : Int32} (hd : decode cc pc = .ok (.ior, 1)) (k : PT X nL cells slots (pc + 1) lv (.int (x ||| y) :: st) h) : PT X nL cells slots pc lv (.int y :: .int x :: st) h := by
  obtain ⟨p, l, e, R, s, m, args, below, meth, c, Q, G⟩ := X
  obtain ⟨hx, hb, hml, hown, hts, hsf, hR, hrt, hlk⟩ := C
  intro H locs ls hh hS hl
  exact lv_ior hx hb hd (k H locs ls hh hS hl)

theorem pt_ishl {X : MX} {cc : ByteArray} {nL : Nat} {own : String} {ret : Option FieldType} {rm : Room} (C : CX X cc nL own ret rm) {cells slots pc : Nat} {lv : List (Nat × Value)} {st : List Value} {h : AH} {x y : Int32} (hd : decode cc pc = .ok (.ishl, 1)) (k : PT X nL cells slots (pc + 1) lv (.int (x <<< (y &&& 31)) :: st) h) : PT X nL cells slots pc lv (.int y :: .int x :: st) h := by
  obtain ⟨p, l, e, R, s, m, args, below, meth, c, Q, G⟩ := X
  obtain ⟨hx, hb, hml, hown, hts, hsf, hR, hrt, hlk⟩ := C
  intro H locs ls hh hS hl
  exact lv_ishl hx hb hd (k H locs ls hh hS hl)

theorem pt_ishr {X : MX} {cc : ByteArray} {nL : Nat} {own : String} {ret : Option FieldType} {rm : Room} (C : CX X cc nL own ret rm) {cells slots pc : Nat} {lv : List (Nat × Value)} {st : List Value} {h : AH} {x y : Int32} (hd : decode cc pc = .ok (.ishr, 1)) (k : PT X nL cells slots (pc + 1) lv (.int (x >>> (y &&& 31)) :: st) h) : PT X nL cells slots pc lv (.int y :: .int x :: st) h := by
  obtain ⟨p, l, e, R, s, m, args, below, meth, c, Q, G⟩ := X
  obtain ⟨hx, hb, hml, hown, hts, hsf, hR, hrt, hlk⟩ := C
  intro H locs ls hh hS hl
  exact lv_ishr hx hb hd (k H locs ls hh hS hl)

theorem pt_idiv {X : MX} {cc : ByteArray} {nL : Nat} {own : String} {ret : Option FieldType} {rm : Room} (C : CX X cc nL own ret rm) {cells slots pc : Nat} {lv : List (Nat × Value)} {st : List Value} {h : AH} {x y : Int32} (hne : ¬ y = 0) (hd : decode cc pc = .ok (.idiv, 1)) (k : PT X nL cells slots (pc + 1) lv (.int (x / y) :: st) h) : PT X nL cells slots pc lv (.int y :: .int x :: st) h := by
  obtain ⟨p, l, e, R, s, m, args, below, meth, c, Q, G⟩ := X
  obtain ⟨hx, hb, hml, hown, hts, hsf, hR, hrt, hlk⟩ := C
  intro H locs ls hh hS hl
  exact lv_idiv hx hb hd hne (k H locs ls hh hS hl)

theorem pt_irem {X : MX} {cc : ByteArray} {nL : Nat} {own : String} {ret : Option FieldType} {rm : Room} (C : CX X cc nL own ret rm) {cells slots pc : Nat} {lv : List (Nat × Value)} {st : List Value} {h : AH} {x y : Int32} (hne : ¬ y = 0) (hd : decode cc pc = .ok (.irem, 1)) (k : PT X nL cells slots (pc + 1) lv (.int (x - x / y * y) :: st) h) : PT X nL cells slots pc lv (.int y :: .int x :: st) h := by
  obtain ⟨p, l, e, R, s, m, args, below, meth, c, Q, G⟩ := X
  obtain ⟨hx, hb, hml, hown, hts, hsf, hR, hrt, hlk⟩ := C
  intro H locs ls hh hS hl
  exact lv_irem hx hb hd hne (k H locs ls hh hS hl)

theorem pt_ineg {X : MX} {cc : ByteArray} {nL : Nat} {own : String} {ret : Option FieldType} {rm : Room} (C : CX X cc nL own ret rm) {cells slots pc : Nat} {lv : List (Nat × Value)} {st : List Value} {h : AH} {x : Int32} (hd : decode cc pc = .ok (.ineg, 1)) (k : PT X nL cells slots (pc + 1) lv (.int (-x) :: st) h) : PT X nL cells slots pc lv (.int x :: st) h := by
  obtain ⟨p, l, e, R, s, m, args, below, meth, c, Q, G⟩ := X
  obtain ⟨hx, hb, hml, hown, hts, hsf, hR, hrt, hlk⟩ := C
  intro H locs ls hh hS hl
  exact lv_ineg hx hb hd (k H locs ls hh hS hl)

theorem pt_iushr {X : MX} {cc : ByteArray} {nL : Nat} {own : String} {ret : Option FieldType} {rm : Room} (C : CX X cc nL own ret rm) {cells slots pc : Nat} {lv : List (Nat × Value)} {st : List Value} {h : AH} {x y : Int32} (hd : decode cc pc = .ok (.iushr, 1)) (k : PT X nL cells slots (pc + 1) lv (.int ((x.toUInt32 >>> (y.toUInt32 &&& Int32.toUInt32 31)).toInt32) :: st) h) : PT X nL cells slots pc lv (.int y :: .int x :: st) h := by
  obtain ⟨p, l, e, R, s, m, args, below, meth, c, Q, G⟩ := X
  obtain ⟨hx, hb, hml, hown, hts, hsf, hR, hrt, hlk⟩ := C
  intro H locs ls hh hS hl
  exact lv_iushr hx hb hd rfl (k H locs ls hh hS hl)

theorem pt_ladd {X : MX} {cc : ByteArray} {nL : Nat} {own : String} {ret : Option FieldType} {rm : Room} (C : CX X cc nL own ret rm) {cells slots pc : Nat} {lv : List (Nat × Value)} {st : List Value} {h : AH} {x y : Int64} (hd : decode cc pc = .ok (.ladd, 1)) (k : PT X nL cells slots (pc + 1) lv (.long (x + y) :: st) h) : PT X nL cells slots pc lv (.long y :: .long x :: st) h := by
  obtain ⟨p, l, e, R, s, m, args, below, meth, c, Q, G⟩ := X
  obtain ⟨hx, hb, hml, hown, hts, hsf, hR, hrt, hlk⟩ := C
  intro H locs ls hh hS hl
  exact lv_ladd hx hb hd (k H locs ls hh hS hl)

theorem pt_lsub {X : MX} {cc : ByteArray} {nL : Nat} {own : String} {ret : Option FieldType} {rm : Room} (C : CX X cc nL own ret rm) {cells slots pc : Nat} {lv : List (Nat × Value)} {st : List Value} {h : AH} {x y : Int64} (hd : decode cc pc = .ok (.lsub, 1)) (k : PT X nL cells slots (pc + 1) lv (.long (x - y) :: st) h) : PT X nL cells slots pc lv (.long y :: .long x :: st) h := by
  obtain ⟨p, l, e, R, s, m, args, below, meth, c, Q, G⟩ := X
  obtain ⟨hx, hb, hml, hown, hts, hsf, hR, hrt, hlk⟩ := C
  intro H locs ls hh hS hl
  exact lv_lsub hx hb hd (k H locs ls hh hS hl)

theorem pt_lmul {X : MX} {cc : ByteArray} {nL : Nat} {own : String} {ret : Option FieldType} {rm : Room} (C : CX X cc nL own ret rm) {cells slots pc : Nat} {lv : List (Nat × Value)} {st : List Value} {h : AH} {x y : Int64} (hd : decode cc pc = .ok (.lmul, 1)) (k : PT X nL cells slots (pc + 1) lv (.long (x * y) :: st) h) : PT X nL cells slots pc lv (.long y :: .long x :: st) h := by
  obtain ⟨p, l, e, R, s, m, args, below, meth, c, Q, G⟩ := X
  obtain ⟨hx, hb, hml, hown, hts, hsf, hR, hrt, hlk⟩ := C
  intro H locs ls hh hS hl
  exact lv_lmul hx hb hd (k H locs ls hh hS hl)

theorem pt_land {X : MX} {cc : ByteArray} {nL : Nat} {own : String} {ret : Option FieldType} {rm : Room} (C : CX X cc nL own ret rm) {cells slots pc : Nat} {lv : List (Nat × Value)} {st : List Value} {h : AH} {x y : Int64} (hd : decode cc pc = .ok (.land, 1)) (k : PT X nL cells slots (pc + 1) lv (.long (x &&& y) :: st) h) : PT X nL cells slots pc lv (.long y :: .long x :: st) h := by
  obtain ⟨p, l, e, R, s, m, args, below, meth, c, Q, G⟩ := X
  obtain ⟨hx, hb, hml, hown, hts, hsf, hR, hrt, hlk⟩ := C
  intro H locs ls hh hS hl
  exact lv_land hx hb hd (k H locs ls hh hS hl)

theorem pt_lor {X : MX} {cc : ByteArray} {nL : Nat} {own : String} {ret : Option FieldType} {rm : Room} (C : CX X cc nL own ret rm) {cells slots pc : Nat} {lv : List (Nat × Value)} {st : List Value} {h : AH} {x y : Int64} (hd : decode cc pc = .ok (.lor, 1)) (k : PT X nL cells slots (pc + 1) lv (.long (x ||| y) :: st) h) : PT X nL cells slots pc lv (.long y :: .long x :: st) h := by
  obtain ⟨p, l, e, R, s, m, args, below, meth, c, Q, G⟩ := X
  obtain ⟨hx, hb, hml, hown, hts, hsf, hR, hrt, hlk⟩ := C
  intro H locs ls hh hS hl
  exact lv_lor hx hb hd (k H locs ls hh hS hl)

theorem pt_lshl {X : MX} {cc : ByteArray} {nL : Nat} {own : String} {ret : Option FieldType} {rm : Room} (C : CX X cc nL own ret rm) {cells slots pc : Nat} {lv : List (Nat × Value)} {st : List Value} {h : AH} {x : Int64} {y : Int32} (hd : decode cc pc = .ok (.lshl, 1)) (k : PT X nL cells slots (pc + 1) lv (.long (x <<< (y.toInt64 &&& 63)) :: st) h) : PT X nL cells slots pc lv (.int y :: .long x :: st) h := by
  obtain ⟨p, l, e, R, s, m, args, below, meth, c, Q, G⟩ := X
  obtain ⟨hx, hb, hml, hown, hts, hsf, hR, hrt, hlk⟩ := C
  intro H locs ls hh hS hl
  exact lv_lshl hx hb hd rfl (k H locs ls hh hS hl)

theorem pt_i2l {X : MX} {cc : ByteArray} {nL : Nat} {own : String} {ret : Option FieldType} {rm : Room} (C : CX X cc nL own ret rm) {cells slots pc : Nat} {lv : List (Nat × Value)} {st : List Value} {h : AH} {x : Int32} (hd : decode cc pc = .ok (.i2l, 1)) (k : PT X nL cells slots (pc + 1) lv (.long x.toInt64 :: st) h) : PT X nL cells slots pc lv (.int x :: st) h := by
  obtain ⟨p, l, e, R, s, m, args, below, meth, c, Q, G⟩ := X
  obtain ⟨hx, hb, hml, hown, hts, hsf, hR, hrt, hlk⟩ := C
  intro H locs ls hh hS hl
  exact lv_i2l hx hb hd rfl (k H locs ls hh hS hl)

theorem pt_lcmp {X : MX} {cc : ByteArray} {nL : Nat} {own : String} {ret : Option FieldType} {rm : Room} (C : CX X cc nL own ret rm) {cells slots pc : Nat} {lv : List (Nat × Value)} {st : List Value} {h : AH} {x y : Int64} (hd : decode cc pc = .ok (.lcmp, 1)) (k : PT X nL cells slots (pc + 1) lv (.int (lg_cmp x y) :: st) h) : PT X nL cells slots pc lv (.long y :: .long x :: st) h := by
  obtain ⟨p, l, e, R, s, m, args, below, meth, c, Q, G⟩ := X
  obtain ⟨hx, hb, hml, hown, hts, hsf, hR, hrt, hlk⟩ := C
  intro H locs ls hh hS hl
  exact W.lcmp hx hb hd (k H locs ls hh hS hl)

theorem pt_dup {X : MX} {cc : ByteArray} {nL : Nat} {own : String} {ret : Option FieldType} {rm : Room} (C : CX X cc nL own ret rm) {cells slots pc : Nat} {lv : List (Nat × Value)} {st : List Value} {h : AH} {va : Value} (hva : va.category = 1) (hd : decode cc pc = .ok (.dup, 1)) (k : PT X nL cells slots (pc + 1) lv (va :: va :: st) h) : PT X nL cells slots pc lv (va :: st) h := by
  obtain ⟨p, l, e, R, s, m, args, below, meth, c, Q, G⟩ := X
  obtain ⟨hx, hb, hml, hown, hts, hsf, hR, hrt, hlk⟩ := C
  intro H locs ls hh hS hl
  exact lv_dup hx hb hd hva (k H locs ls hh hS hl)

theorem pt_pop {X : MX} {cc : ByteArray} {nL : Nat} {own : String} {ret : Option FieldType} {rm : Room} (C : CX X cc nL own ret rm) {cells slots pc : Nat} {lv : List (Nat × Value)} {st : List Value} {h : AH} {va : Value} (hva : va.category = 1) (hd : decode cc pc = .ok (.pop, 1)) (k : PT X nL cells slots (pc + 1) lv (st) h) : PT X nL cells slots pc lv (va :: st) h := by
  obtain ⟨p, l, e, R, s, m, args, below, meth, c, Q, G⟩ := X
  obtain ⟨hx, hb, hml, hown, hts, hsf, hR, hrt, hlk⟩ := C
  intro H locs ls hh hS hl
  exact lv_pop hx hb hd hva (k H locs ls hh hS hl)

theorem pt_dup2 {X : MX} {cc : ByteArray} {nL : Nat} {own : String} {ret : Option FieldType} {rm : Room} (C : CX X cc nL own ret rm) {cells slots pc : Nat} {lv : List (Nat × Value)} {st : List Value} {h : AH} {va vb : Value} (hva : va.category = 1) (hvb : vb.category = 1) (hd : decode cc pc = .ok (.dup2, 1)) (k : PT X nL cells slots (pc + 1) lv (va :: vb :: va :: vb :: st) h) : PT X nL cells slots pc lv (va :: vb :: st) h := by
  obtain ⟨p, l, e, R, s, m, args, below, meth, c, Q, G⟩ := X
  obtain ⟨hx, hb, hml, hown, hts, hsf, hR, hrt, hlk⟩ := C
  intro H locs ls hh hS hl
  exact lv_dup2_11 hx hb hd hva hvb (k H locs ls hh hS hl)

theorem pt_null {X : MX} {cc : ByteArray} {nL : Nat} {own : String} {ret : Option FieldType} {rm : Room} (C : CX X cc nL own ret rm) {cells slots pc : Nat} {lv : List (Nat × Value)} {st : List Value} {h : AH}  (hd : decode cc pc = .ok (.aconst_null, 1)) (k : PT X nL cells slots (pc + 1) lv (.null :: st) h) : PT X nL cells slots pc lv (st) h := by
  obtain ⟨p, l, e, R, s, m, args, below, meth, c, Q, G⟩ := X
  obtain ⟨hx, hb, hml, hown, hts, hsf, hR, hrt, hlk⟩ := C
  intro H locs ls hh hS hl
  exact lv_null hx hb hd (k H locs ls hh hS hl)

theorem pt_icmp_eq {X : MX} {cc : ByteArray} {nL : Nat} {own : String} {ret : Option FieldType} {rm : Room} (C : CX X cc nL own ret rm) {cells slots pc : Nat} {lv : List (Nat × Value)} {st : List Value} {h : AH} {x y : Int32} {off : Int} {tgt : Nat} (ht : (pc : Int) + off = (tgt : Int)) (hd : decode cc pc = .ok (.if_icmp .eq off, 3)) (kt : x = y → PT X nL cells slots tgt lv st h) (kf : ¬ (x = y) → PT X nL cells slots (pc + 3) lv st h) : PT X nL cells slots pc lv (.int y :: .int x :: st) h := by
  obtain ⟨p, l, e, R, s, m, args, below, meth, c, Q, G⟩ := X
  obtain ⟨hx, hb, hml, hown, hts, hsf, hR, hrt, hlk⟩ := C
  intro H locs ls hh hS hl
  exact lv_icmp_eq hx hb hd ht (fun q => kt q H locs ls hh hS hl) (fun q => kf q H locs ls hh hS hl)

theorem pt_if_eq {X : MX} {cc : ByteArray} {nL : Nat} {own : String} {ret : Option FieldType} {rm : Room} (C : CX X cc nL own ret rm) {cells slots pc : Nat} {lv : List (Nat × Value)} {st : List Value} {h : AH} {x : Int32} {off : Int} {tgt : Nat} (ht : (pc : Int) + off = (tgt : Int)) (hd : decode cc pc = .ok (.ifCond .eq off, 3)) (kt : x = 0 → PT X nL cells slots tgt lv st h) (kf : ¬ (x = 0) → PT X nL cells slots (pc + 3) lv st h) : PT X nL cells slots pc lv (.int x :: st) h := by
  obtain ⟨p, l, e, R, s, m, args, below, meth, c, Q, G⟩ := X
  obtain ⟨hx, hb, hml, hown, hts, hsf, hR, hrt, hlk⟩ := C
  intro H locs ls hh hS hl
  exact lv_if_eq hx hb hd ht (fun q => kt q H locs ls hh hS hl) (fun q => kf q H locs ls hh hS hl)

theorem pt_icmp_ne {X : MX} {cc : ByteArray} {nL : Nat} {own : String} {ret : Option FieldType} {rm : Room} (C : CX X cc nL own ret rm) {cells slots pc : Nat} {lv : List (Nat × Value)} {st : List Value} {h : AH} {x y : Int32} {off : Int} {tgt : Nat} (ht : (pc : Int) + off = (tgt : Int)) (hd : decode cc pc = .ok (.if_icmp .ne off, 3)) (kt : ¬ x = y → PT X nL cells slots tgt lv st h) (kf : x = y → PT X nL cells slots (pc + 3) lv st h) : PT X nL cells slots pc lv (.int y :: .int x :: st) h := by
  obtain ⟨p, l, e, R, s, m, args, below, meth, c, Q, G⟩ := X
  obtain ⟨hx, hb, hml, hown, hts, hsf, hR, hrt, hlk⟩ := C
  intro H locs ls hh hS hl
  exact lv_icmp_ne hx hb hd ht (fun q => kt q H locs ls hh hS hl) (fun q => kf q H locs ls hh hS hl)

theorem pt_if_ne {X : MX} {cc : ByteArray} {nL : Nat} {own : String} {ret : Option FieldType} {rm : Room} (C : CX X cc nL own ret rm) {cells slots pc : Nat} {lv : List (Nat × Value)} {st : List Value} {h : AH} {x : Int32} {off : Int} {tgt : Nat} (ht : (pc : Int) + off = (tgt : Int)) (hd : decode cc pc = .ok (.ifCond .ne off, 3)) (kt : ¬ x = 0 → PT X nL cells slots tgt lv st h) (kf : x = 0 → PT X nL cells slots (pc + 3) lv st h) : PT X nL cells slots pc lv (.int x :: st) h := by
  obtain ⟨p, l, e, R, s, m, args, below, meth, c, Q, G⟩ := X
  obtain ⟨hx, hb, hml, hown, hts, hsf, hR, hrt, hlk⟩ := C
  intro H locs ls hh hS hl
  exact lv_if_ne hx hb hd ht (fun q => kt q H locs ls hh hS hl) (fun q => kf q H locs ls hh hS hl)

theorem pt_icmp_lt {X : MX} {cc : ByteArray} {nL : Nat} {own : String} {ret : Option FieldType} {rm : Room} (C : CX X cc nL own ret rm) {cells slots pc : Nat} {lv : List (Nat × Value)} {st : List Value} {h : AH} {x y : Int32} {off : Int} {tgt : Nat} (ht : (pc : Int) + off = (tgt : Int)) (hd : decode cc pc = .ok (.if_icmp .lt off, 3)) (kt : x < y → PT X nL cells slots tgt lv st h) (kf : ¬ (x < y) → PT X nL cells slots (pc + 3) lv st h) : PT X nL cells slots pc lv (.int y :: .int x :: st) h := by
  obtain ⟨p, l, e, R, s, m, args, below, meth, c, Q, G⟩ := X
  obtain ⟨hx, hb, hml, hown, hts, hsf, hR, hrt, hlk⟩ := C
  intro H locs ls hh hS hl
  exact lv_icmp_lt hx hb hd ht (fun q => kt q H locs ls hh hS hl) (fun q => kf q H locs ls hh hS hl)

theorem pt_if_lt {X : MX} {cc : ByteArray} {nL : Nat} {own : String} {ret : Option FieldType} {rm : Room} (C : CX X cc nL own ret rm) {cells slots pc : Nat} {lv : List (Nat × Value)} {st : List Value} {h : AH} {x : Int32} {off : Int} {tgt : Nat} (ht : (pc : Int) + off = (tgt : Int)) (hd : decode cc pc = .ok (.ifCond .lt off, 3)) (kt : x < 0 → PT X nL cells slots tgt lv st h) (kf : ¬ (x < 0) → PT X nL cells slots (pc + 3) lv st h) : PT X nL cells slots pc lv (.int x :: st) h := by
  obtain ⟨p, l, e, R, s, m, args, below, meth, c, Q, G⟩ := X
  obtain ⟨hx, hb, hml, hown, hts, hsf, hR, hrt, hlk⟩ := C
  intro H locs ls hh hS hl
  exact lv_if_lt hx hb hd ht (fun q => kt q H locs ls hh hS hl) (fun q => kf q H locs ls hh hS hl)

theorem pt_icmp_ge {X : MX} {cc : ByteArray} {nL : Nat} {own : String} {ret : Option FieldType} {rm : Room} (C : CX X cc nL own ret rm) {cells slots pc : Nat} {lv : List (Nat × Value)} {st : List Value} {h : AH} {x y : Int32} {off : Int} {tgt : Nat} (ht : (pc : Int) + off = (tgt : Int)) (hd : decode cc pc = .ok (.if_icmp .ge off, 3)) (kt : y ≤ x → PT X nL cells slots tgt lv st h) (kf : ¬ (y ≤ x) → PT X nL cells slots (pc + 3) lv st h) : PT X nL cells slots pc lv (.int y :: .int x :: st) h := by
  obtain ⟨p, l, e, R, s, m, args, below, meth, c, Q, G⟩ := X
  obtain ⟨hx, hb, hml, hown, hts, hsf, hR, hrt, hlk⟩ := C
  intro H locs ls hh hS hl
  exact lv_icmp_ge hx hb hd ht (fun q => kt q H locs ls hh hS hl) (fun q => kf q H locs ls hh hS hl)

theorem pt_if_ge {X : MX} {cc : ByteArray} {nL : Nat} {own : String} {ret : Option FieldType} {rm : Room} (C : CX X cc nL own ret rm) {cells slots pc : Nat} {lv : List (Nat × Value)} {st : List Value} {h : AH} {x : Int32} {off : Int} {tgt : Nat} (ht : (pc : Int) + off = (tgt : Int)) (hd : decode cc pc = .ok (.ifCond .ge off, 3)) (kt : 0 ≤ x → PT X nL cells slots tgt lv st h) (kf : ¬ (0 ≤ x) → PT X nL cells slots (pc + 3) lv st h) : PT X nL cells slots pc lv (.int x :: st) h := by
  obtain ⟨p, l, e, R, s, m, args, below, meth, c, Q, G⟩ := X
  obtain ⟨hx, hb, hml, hown, hts, hsf, hR, hrt, hlk⟩ := C
  intro H locs ls hh hS hl
  exact lv_if_ge hx hb hd ht (fun q => kt q H locs ls hh hS hl) (fun q => kf q H locs ls hh hS hl)

theorem pt_icmp_gt {X : MX} {cc : ByteArray} {nL : Nat} {own : String} {ret : Option FieldType} {rm : Room} (C : CX X cc nL own ret rm) {cells slots pc : Nat} {lv : List (Nat × Value)} {st : List Value} {h : AH} {x y : Int32} {off : Int} {tgt : Nat} (ht : (pc : Int) + off = (tgt : Int)) (hd : decode cc pc = .ok (.if_icmp .gt off, 3)) (kt : y < x → PT X nL cells slots tgt lv st h) (kf : ¬ (y < x) → PT X nL cells slots (pc + 3) lv st h) : PT X nL cells slots pc lv (.int y :: .int x :: st) h := by
  obtain ⟨p, l, e, R, s, m, args, below, meth, c, Q, G⟩ := X
  obtain ⟨hx, hb, hml, hown, hts, hsf, hR, hrt, hlk⟩ := C
  intro H locs ls hh hS hl
  exact lv_icmp_gt hx hb hd ht (fun q => kt q H locs ls hh hS hl) (fun q => kf q H locs ls hh hS hl)

theorem pt_if_gt {X : MX} {cc : ByteArray} {nL : Nat} {own : String} {ret : Option FieldType} {rm : Room} (C : CX X cc nL own ret rm) {cells slots pc : Nat} {lv : List (Nat × Value)} {st : List Value} {h : AH} {x : Int32} {off : Int} {tgt : Nat} (ht : (pc : Int) + off = (tgt : Int)) (hd : decode cc pc = .ok (.ifCond .gt off, 3)) (kt : 0 < x → PT X nL cells slots tgt lv st h) (kf : ¬ (0 < x) → PT X nL cells slots (pc + 3) lv st h) : PT X nL cells slots pc lv (.int x :: st) h := by
  obtain ⟨p, l, e, R, s, m, args, below, meth, c, Q, G⟩ := X
  obtain ⟨hx, hb, hml, hown, hts, hsf, hR, hrt, hlk⟩ := C
  intro H locs ls hh hS hl
  exact lv_if_gt hx hb hd ht (fun q => kt q H locs ls hh hS hl) (fun q => kf q H locs ls hh hS hl)

theorem pt_icmp_le {X : MX} {cc : ByteArray} {nL : Nat} {own : String} {ret : Option FieldType} {rm : Room} (C : CX X cc nL own ret rm) {cells slots pc : Nat} {lv : List (Nat × Value)} {st : List Value} {h : AH} {x y : Int32} {off : Int} {tgt : Nat} (ht : (pc : Int) + off = (tgt : Int)) (hd : decode cc pc = .ok (.if_icmp .le off, 3)) (kt : x ≤ y → PT X nL cells slots tgt lv st h) (kf : ¬ (x ≤ y) → PT X nL cells slots (pc + 3) lv st h) : PT X nL cells slots pc lv (.int y :: .int x :: st) h := by
  obtain ⟨p, l, e, R, s, m, args, below, meth, c, Q, G⟩ := X
  obtain ⟨hx, hb, hml, hown, hts, hsf, hR, hrt, hlk⟩ := C
  intro H locs ls hh hS hl
  exact lv_icmp_le hx hb hd ht (fun q => kt q H locs ls hh hS hl) (fun q => kf q H locs ls hh hS hl)

theorem pt_if_le {X : MX} {cc : ByteArray} {nL : Nat} {own : String} {ret : Option FieldType} {rm : Room} (C : CX X cc nL own ret rm) {cells slots pc : Nat} {lv : List (Nat × Value)} {st : List Value} {h : AH} {x : Int32} {off : Int} {tgt : Nat} (ht : (pc : Int) + off = (tgt : Int)) (hd : decode cc pc = .ok (.ifCond .le off, 3)) (kt : x ≤ 0 → PT X nL cells slots tgt lv st h) (kf : ¬ (x ≤ 0) → PT X nL cells slots (pc + 3) lv st h) : PT X nL cells slots pc lv (.int x :: st) h := by
  obtain ⟨p, l, e, R, s, m, args, below, meth, c, Q, G⟩ := X
  obtain ⟨hx, hb, hml, hown, hts, hsf, hR, hrt, hlk⟩ := C
  intro H locs ls hh hS hl
  exact lv_if_le hx hb hd ht (fun q => kt q H locs ls hh hS hl) (fun q => kf q H locs ls hh hS hl)

theorem pt_goto {X : MX} {cc : ByteArray} {nL : Nat} {own : String} {ret : Option FieldType} {rm : Room} (C : CX X cc nL own ret rm) {cells slots pc : Nat} {lv : List (Nat × Value)} {st : List Value} {h : AH} {off : Int} {tgt : Nat} (ht : (pc : Int) + off = (tgt : Int)) (hd : decode cc pc = .ok (.goto off, 3)) (k : PT X nL cells slots tgt lv st h) : PT X nL cells slots pc lv st h := by
  obtain ⟨p, l, e, R, s, m, args, below, meth, c, Q, G⟩ := X
  obtain ⟨hx, hb, hml, hown, hts, hsf, hR, hrt, hlk⟩ := C
  intro H locs ls hh hS hl
  exact lv_goto hx hb hd ht (k H locs ls hh hS hl)

theorem pt_ifnull0 {X : MX} {cc : ByteArray} {nL : Nat} {own : String} {ret : Option FieldType} {rm : Room} (C : CX X cc nL own ret rm) {cells slots pc : Nat} {lv : List (Nat × Value)} {st : List Value} {h : AH} {off : Int} {tgt : Nat} (ht : (pc : Int) + off = (tgt : Int)) (hd : decode cc pc = .ok (.ifnull off, 3)) (k : PT X nL cells slots tgt lv st h) : PT X nL cells slots pc lv (va_rf none :: st) h := by
  obtain ⟨p, l, e, R, s, m, args, below, meth, c, Q, G⟩ := X
  obtain ⟨hx, hb, hml, hown, hts, hsf, hR, hrt, hlk⟩ := C
  intro H locs ls hh hS hl
  exact lv_ifnullN hx hb hd ht (k H locs ls hh hS hl)

theorem pt_ifnull1 {X : MX} {cc : ByteArray} {nL : Nat} {own : String} {ret : Option FieldType} {rm : Room} (C : CX X cc nL own ret rm) {cells slots pc : Nat} {lv : List (Nat × Value)} {st : List Value} {h : AH} {a : Nat} {off : Int} (hd : decode cc pc = .ok (.ifnull off, 3)) (k : PT X nL cells slots (pc + 3) lv st h) : PT X nL cells slots pc lv (va_rf (some a) :: st) h := by
  obtain ⟨p, l, e, R, s, m, args, below, meth, c, Q, G⟩ := X
  obtain ⟨hx, hb, hml, hown, hts, hsf, hR, hrt, hlk⟩ := C
  intro H locs ls hh hS hl
  exact lv_ifnull hx hb hd (k H locs ls hh hS hl)

theorem pt_ifnonnull0 {X : MX} {cc : ByteArray} {nL : Nat} {own : String} {ret : Option FieldType} {rm : Room} (C : CX X cc nL own ret rm) {cells slots pc : Nat} {lv : List (Nat × Value)} {st : List Value} {h : AH} {off : Int} (hd : decode cc pc = .ok (.ifnonnull off, 3)) (k : PT X nL cells slots (pc + 3) lv st h) : PT X nL cells slots pc lv (va_rf none :: st) h := by
  obtain ⟨p, l, e, R, s, m, args, below, meth, c, Q, G⟩ := X
  obtain ⟨hx, hb, hml, hown, hts, hsf, hR, hrt, hlk⟩ := C
  intro H locs ls hh hS hl
  exact lv_ifnonnullN hx hb hd (k H locs ls hh hS hl)

theorem pt_ifnonnull1 {X : MX} {cc : ByteArray} {nL : Nat} {own : String} {ret : Option FieldType} {rm : Room} (C : CX X cc nL own ret rm) {cells slots pc : Nat} {lv : List (Nat × Value)} {st : List Value} {h : AH} {a : Nat} {off : Int} {tgt : Nat} (ht : (pc : Int) + off = (tgt : Int)) (hd : decode cc pc = .ok (.ifnonnull off, 3)) (k : PT X nL cells slots tgt lv st h) : PT X nL cells slots pc lv (va_rf (some a) :: st) h := by
  obtain ⟨p, l, e, R, s, m, args, below, meth, c, Q, G⟩ := X
  obtain ⟨hx, hb, hml, hown, hts, hsf, hR, hrt, hlk⟩ := C
  intro H locs ls hh hS hl
  exact lv_ifnonnull hx hb hd ht (k H locs ls hh hS hl)

theorem pt_tabIn {X : MX} {cc : ByteArray} {nL : Nat} {own : String} {ret : Option FieldType} {rm : Room} (C : CX X cc nL own ret rm) {cells slots pc : Nat} {lv : List (Nat × Value)} {st : List Value} {h : AH} {dflt lo hi : Int} {offs : Array Int} {len : Nat} {x : Int32} {off : Int} {tgt : Nat} (h1 : ¬ x.toInt < lo) (h2 : ¬ hi < x.toInt) (ho : offs[(x.toInt - lo).toNat]? = some off) (ht : (pc : Int) + off = (tgt : Int)) (hd : decode cc pc = .ok (.tableswitch dflt lo hi offs, len)) (k : PT X nL cells slots tgt lv st h) : PT X nL cells slots pc lv (.int x :: st) h := by
  obtain ⟨p, l, e, R, s, m, args, below, meth, c, Q, G⟩ := X
  obtain ⟨hx, hb, hml, hown, hts, hsf, hR, hrt, hlk⟩ := C
  intro H locs ls hh hS hl
  exact lv_tableIn hx hb hd h1 h2 ho ht (k H locs ls hh hS hl)

theorem pt_tabOut {X : MX} {cc : ByteArray} {nL : Nat} {own : String} {ret : Option FieldType} {rm : Room} (C : CX X cc nL own ret rm) {cells slots pc : Nat} {lv : List (Nat × Value)} {st : List Value} {h : AH} {dflt lo hi : Int} {offs : Array Int} {len : Nat} {x : Int32} {tgt : Nat} (h1 : x.toInt < lo ∨ hi < x.toInt) (ht : (pc : Int) + dflt = (tgt : Int)) (hd : decode cc pc = .ok (.tableswitch dflt lo hi offs, len)) (k : PT X nL cells slots tgt lv st h) : PT X nL cells slots pc lv (.int x :: st) h := by
  obtain ⟨p, l, e, R, s, m, args, below, meth, c, Q, G⟩ := X
  obtain ⟨hx, hb, hml, hown, hts, hsf, hR, hrt, hlk⟩ := C
  intro H locs ls hh hS hl
  exact lv_tableOut hx hb hd h1 ht (k H locs ls hh hS hl)

theorem pt_look {X : MX} {cc : ByteArray} {nL : Nat} {own : String} {ret : Option FieldType} {rm : Room} (C : CX X cc nL own ret rm) {cells slots pc : Nat} {lv : List (Nat × Value)} {st : List Value} {h : AH} {dflt : Int} {ps : Array (Int × Int)} {len : Nat} {x : Int32} {off : Int} {tgt : Nat} (hp : (ps.toList.zip (ps.toList.drop 1)).all (fun (a, next) => a.1 < next.1) = true) (ho : Op.lookupswitch.offset ps.toList dflt x.toInt = off) (ht : (pc : Int) + off = (tgt : Int)) (hd : decode cc pc = .ok (.lookupswitch dflt ps, len)) (k : PT X nL cells slots tgt lv st h) : PT X nL cells slots pc lv (.int x :: st) h := by
  obtain ⟨p, l, e, R, s, m, args, below, meth, c, Q, G⟩ := X
  obtain ⟨hx, hb, hml, hown, hts, hsf, hR, hrt, hlk⟩ := C
  intro H locs ls hh hS hl
  exact lv_lookup hx hb hd hp ho ht (k H locs ls hh hS hl)

theorem pt_sub {X : MX} {cc : ByteArray} {nL : Nat} {own : String} {ret : Option FieldType} {rm : Room} (C : CX X cc nL own ret rm) {cells slots pc : Nat} {lv : List (Nat × Value)} {st : List Value} {h : AH} (lv' : List (Nat × Value)) (ks : List Nat) (hk : lv_pick lv ks = lv') (k : PT X nL cells slots pc lv' st h) : PT X nL cells slots pc lv st h := by
  obtain ⟨p, l, e, R, s, m, args, below, meth, c, Q, G⟩ := X
  obtain ⟨hx, hb, hml, hown, hts, hsf, hR, hrt, hlk⟩ := C
  intro H locs ls hh hS hl
  exact k H locs ls hh hS (lv_sub hl ks hk)

theorem pt_widen {X : MX} {cc : ByteArray} {nL : Nat} {own : String} {ret : Option FieldType} {rm : Room} (C : CX X cc nL own ret rm) {cells slots pc : Nat} {lv : List (Nat × Value)} {st : List Value} {h : AH} {c2 s2 : Nat} (h1 : cells ≤ c2) (h2 : slots ≤ s2) (k : PT X nL c2 s2 pc lv st h) : PT X nL cells slots pc lv st h := by
  obtain ⟨p, l, e, R, s, m, args, below, meth, c, Q, G⟩ := X
  obtain ⟨hx, hb, hml, hown, hts, hsf, hR, hrt, hlk⟩ := C
  intro H locs ls hh hS hl
  exact W.widen h1 h2 (k H locs ls hh hS hl)

theorem pt_ldcw {X : MX} {cc : ByteArray} {nL : Nat} {own : String} {ret : Option FieldType} {rm : Room} (C : CX X cc nL own ret rm) {cells slots pc : Nat} {lv : List (Nat × Value)} {st : List Value} {h : AH} {i : Nat} {v : Int32} (hc : Cond.constant own i v ∈ gt) (hd : decode cc pc = .ok (.ldc_w i, 3)) (k : PT X nL cells slots (pc + 3) lv (.int v :: st) h) : PT X nL cells slots pc lv (st) h := by
  obtain ⟨p, l, e, R, s, m, args, below, meth, c, Q, G⟩ := X
  obtain ⟨hx, hb, hml, hown, hts, hsf, hR, hrt, hlk⟩ := C
  intro H locs ls hh hS hl
  exact lv_ldcw hx hb hown (hts _ hc) hd (k H locs ls hh hS hl)

theorem pt_dup_x1 {X : MX} {cc : ByteArray} {nL : Nat} {own : String} {ret : Option FieldType} {rm : Room} (C : CX X cc nL own ret rm) {cells slots pc : Nat} {lv : List (Nat × Value)} {st : List Value} {h : AH} {va vb : Value} (hva : va.category = 1) (hvb : vb.category = 1) (hd : decode cc pc = .ok (.dup_x1, 1)) (k : PT X nL cells slots (pc + 1) lv (va :: vb :: va :: st) h) : PT X nL cells slots pc lv (va :: vb :: st) h := by
  obtain ⟨p, l, e, R, s, m, args, below, meth, c, Q, G⟩ := X
  obtain ⟨hx, hb, hml, hown, hts, hsf, hR, hrt, hlk⟩ := C
  intro H locs ls hh hS hl
  exact lv_dup_x1 hx hb hd hva hvb (k H locs ls hh hS hl)

theorem pt_acmp_eq {X : MX} {cc : ByteArray} {nL : Nat} {own : String} {ret : Option FieldType} {rm : Room} (C : CX X cc nL own ret rm) {cells slots pc : Nat} {lv : List (Nat × Value)} {st : List Value} {h : AH} {x y : Nat} {off : Int} {tgt : Nat} (ht : (pc : Int) + off = (tgt : Int)) (hd : decode cc pc = .ok (.if_acmp .eq off, 3)) (kt : x = y → PT X nL cells slots tgt lv st h) (kf : ¬ x = y → PT X nL cells slots (pc + 3) lv st h) : PT X nL cells slots pc lv (.ref y :: .ref x :: st) h := by
  obtain ⟨p, l, e, R, s, m, args, below, meth, c, Q, G⟩ := X
  obtain ⟨hx, hb, hml, hown, hts, hsf, hR, hrt, hlk⟩ := C
  intro H locs ls hh hS hl
  exact lv_acmp_eq (rx := some x) (ry := some y) hx hb hd ht (fun q => kt (Option.some.inj q) H locs ls hh hS hl) (fun q => kf (fun z => q (by rw [z])) H locs ls hh hS hl)

theorem pt_acmp_ne {X : MX} {cc : ByteArray} {nL : Nat} {own : String} {ret : Option FieldType} {rm : Room} (C : CX X cc nL own ret rm) {cells slots pc : Nat} {lv : List (Nat × Value)} {st : List Value} {h : AH} {x y : Nat} {off : Int} {tgt : Nat} (ht : (pc : Int) + off = (tgt : Int)) (hd : decode cc pc = .ok (.if_acmp .ne off, 3)) (kt : ¬ x = y → PT X nL cells slots tgt lv st h) (kf : x = y → PT X nL cells slots (pc + 3) lv st h) : PT X nL cells slots pc lv (.ref y :: .ref x :: st) h := by
  obtain ⟨p, l, e, R, s, m, args, below, meth, c, Q, G⟩ := X
  obtain ⟨hx, hb, hml, hown, hts, hsf, hR, hrt, hlk⟩ := C
  intro H locs ls hh hS hl
  exact lv_acmp_ne (rx := some x) (ry := some y) hx hb hd ht (fun q => kt (fun z => q (by rw [z])) H locs ls hh hS hl) (fun q => kf (Option.some.inj q) H locs ls hh hS hl)
