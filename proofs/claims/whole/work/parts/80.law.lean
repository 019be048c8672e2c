/-! THE CLAIM OUT OF ONE WALK OF THE LAW'S BODY. Your part is whole_start (and what it stands on); all else here is the same for every law, but numbers. -/
def R_law : String := "HeaveSongsLaw"
def lw_P (b : Addr) (xs : List Int32) (args : Array Value) (s : State) : Prop := args = #[.ref b] ∧ s.IntsAt b xs ∧ xs.length ≤ 2560 ∧ (Jvm.Cond.and given_1 narrow_1).before args s = true
def lw_Q (_ : Array Value) (s : State) (o : Outcome) (t : State) : Prop := o = .returned (some (.int 1)) ∧ Framed s o t [] 600000 7302250
def lw_Z (below : List Frame) (a : Array Value) (s : State) : State → Prop := fun t => ∃ o, t.status = .running ∧ Ended t below o ∧ lw_Q a s o t
/-- the law's own end, with 1 on the stack, nothing written that was there before, its room as the claim has it -/
theorem lw_ret {p : Program} {l : Launch} {e : Env} {s : State} {m : MethodId} {below : List Frame} {meth : Method} {c : Code} {b : Nat} (hx : p.tables.exec = Jvm.exec) (hb : c.code = code) (hr : meth.sig.returnType = ret) (hlocks : meth.locks = false) {pc : Nat} {H : Heap} {ls : Array Slot} (hdg : decode code pc = .ok (.ireturn, 1)) : W p l e room_1 s m #[Value.ref b] below meth c H [] 600000 7302250 (lw_Z below #[Value.ref b] s) (F0 m pc ls [.int 1]) := by
  intro T hT X
  obtain ⟨fs, hret, hrun, hended, hW, hframe⟩ := X.leave (v := some (.int 1)) (hlocks := hlocks) (fun h => by rw [hr] at h; cases h)
  have hmeth' : T.vm.method? m = some meth := X.method'
  refine ⟨T.setFrames fs, ?_, .returned (some (.int 1)), hrun, hended, rfl, ⟨_, rfl⟩, hW, hframe⟩
  jvm_step X.here [X.here.top, hx, hb, hdg, hmeth', hr, ret, narrow_b1]
  (try refine ⟨rfl, ?_⟩); (try refine ⟨rfl, ?_⟩)
  first | (intro acts; rw [hret _ acts rfl rfl rfl]) | rw [hret _ _ rfl rfl rfl]
  exact Steps.refl _
/-- what holds at the law's entry: the machine, the code, the tables' words (any of lw_tbl by 'hts w (by decide +kernel)'), the script of L ints xs at the cell b, what the Statement gives of the start (any of its parts by flat_of_before) -/
def lw_At (p : Program) (s : State) (m : MethodId) (meth : Method) (c : Code) (b L : Nat) (xs : Nat → Int32) : Prop :=
  p.tables.exec = Jvm.exec ∧ c.code = code ∧ meth.sig.returnType = ret ∧ c.maxLocals = 4 ∧ s.vm.findClass R_law = some m.cls ∧ (∀ w ∈ lw_tbl, w.before #[Value.ref b] s = true) ∧ va_X b L xs s s.heap ∧ b < s.heap.size ∧ meth.locks = false ∧ (Jvm.Cond.and given_1 narrow_1).before #[Value.ref b] s = true
theorem nest_in : ∀ q ∈ nw_nest, Cond.methodLinkNest q.1 q.2.1 q.2.2.1 q.2.2.2 ∈ lw_tbl := by decide +kernel
theorem cast_in : ∀ q ∈ nw_cast, Cond.castable q.1 q.2 ∈ lw_tbl := by decide +kernel
theorem arr_known {s : State} {args : Array Value} {ty : FieldType} (h : (Cond.arrayClass ty).before args s = true) (hp : ∀ C, ty ≠ .object C) : ∃ cA : ClassId, ArrOfT s cA ty ∧ va_RA s cA ty := by
  obtain ⟨cA, kA, comp, h1, h2, h3⟩ := Cond.arrayClass_spec h
  refine ⟨cA, fun n z => ⟨fun k h => (by cases h), kA, h2, comp, h3⟩, ?_⟩
  cases ty with
  | object C => exact absurd rfl (hp C)
  | _ => exact h1
theorem law_SF {s : State} {b : Nat} (hts : ∀ w ∈ lw_tbl, w.before #[Value.ref b] s = true) (hgv : (Jvm.Cond.and given_1 narrow_1).before #[Value.ref b] s = true) : ∃ G : HG, G.1 = s.heap.size ∧ SF G s := by
  have hg : ∀ w ∈ gt, w.before #[Value.ref b] s = true := fun w h => hts w (List.mem_filter.mp h).1
  obtain ⟨c0, i0, k0⟩ := u_known (C := RJx4a65c) (T := TJx4a65c) (N := 3) hg inJx4a65c (hg _ tw_56)
  obtain ⟨c1, i1, k1⟩ := u_known (C := RX0) (T := TX0) (N := 9) hg inX0 (hg _ tw_82)
  obtain ⟨c2, i2, k2⟩ := u_known (C := RX1) (T := TX1) (N := 8) hg inX1 (hg _ tw_133)
  obtain ⟨c3, i3, k3⟩ := u_known (C := RX2) (T := TX2) (N := 3) hg inX2 (hg _ tw_290)
  obtain ⟨c4, i4, k4⟩ := u_known (C := RX3) (T := TX3) (N := 6) hg inX3 (hg _ tw_258)
  obtain ⟨c5, i5, k5⟩ := u_known (C := RX4) (T := TX4) (N := 5) hg inX4 (hg _ tw_218)
  obtain ⟨c6, i6, k6⟩ := u_known (C := RX5) (T := TX5) (N := 3) hg inX5 (hg _ tw_241)
  obtain ⟨c7, i7, k7⟩ := u_known (C := RX6) (T := TX6) (N := 2) hg inX6 (hg _ tw_33)
  obtain ⟨c8, i8, k8⟩ := u_known (C := RX7) (T := TX7) (N := 2) hg inX7 (hg _ tw_365)
  obtain ⟨c9, i9, k9⟩ := u_known (C := RX8) (T := TX8) (N := 3) hg inX8 (hg _ tw_546)
  obtain ⟨c10, i10, k10⟩ := u_known (C := RX9) (T := TX9) (N := 9) hg inX9 (hg _ tw_173)
  obtain ⟨c11, i11, k11⟩ := u_known (C := RX10) (T := TX10) (N := 2) hg inX10 (hg _ tw_676)
  obtain ⟨c12, i12, k12⟩ := u_known (C := RX11) (T := TX11) (N := 12) hg inX11 (hg _ tw_25)
  obtain ⟨c13, i13, k13⟩ := u_known (C := RX12) (T := TX12) (N := 47) hg inX12 (hg _ tw_911)
  obtain ⟨dC, dI, hKc⟩ : ∃ (dC : Nat → ClassId) (dI : Nat → Nat → Nat), ∀ (k : Nat) (q : vw_C), vwCl[k]? = some q → u_Kn s q.1 q.2.1 q.2.2 (dC k) (dI k) := by
    refine ⟨fun k => if k = 0 then c0 else if k = 1 then c1 else if k = 2 then c2 else if k = 3 then c3 else if k = 4 then c4 else if k = 5 then c5 else if k = 6 then c6 else if k = 7 then c7 else if k = 8 then c8 else if k = 9 then c9 else if k = 10 then c10 else if k = 11 then c11 else if k = 12 then c12 else c13, fun k => if k = 0 then i0 else if k = 1 then i1 else if k = 2 then i2 else if k = 3 then i3 else if k = 4 then i4 else if k = 5 then i5 else if k = 6 then i6 else if k = 7 then i7 else if k = 8 then i8 else if k = 9 then i9 else if k = 10 then i10 else if k = 11 then i11 else if k = 12 then i12 else i13, ?_⟩
    intro k q hq
    match k, hq with
    | 0, hq => cases hq; exact k0
    | 1, hq => cases hq; exact k1
    | 2, hq => cases hq; exact k2
    | 3, hq => cases hq; exact k3
    | 4, hq => cases hq; exact k4
    | 5, hq => cases hq; exact k5
    | 6, hq => cases hq; exact k6
    | 7, hq => cases hq; exact k7
    | 8, hq => cases hq; exact k8
    | 9, hq => cases hq; exact k9
    | 10, hq => cases hq; exact k10
    | 11, hq => cases hq; exact k11
    | 12, hq => cases hq; exact k12
    | 13, hq => cases hq; exact k13
    | k + 14, hq => simp [vwCl] at hq
  obtain ⟨y0, a0, r0⟩ := arr_known (hg _ tw_54) (fun C h => by cases h)
  obtain ⟨y1, a1, r1⟩ := arr_known (hg _ tw_239) (fun C h => by cases h)
  obtain ⟨y2, a2, r2⟩ := arr_known (hg _ tw_306) (fun C h => by cases h)
  have hob : va_AO "java/lang/Object" s := va_AO.of (hts _ (List.mem_of_getElem? (i := 484) (by decide +kernel)))
  have hoa : AOA s := show (Cond.arrayOver (.array .int)).before #[] s = true from hts (Cond.arrayOver (.array .int)) (List.mem_of_getElem? (i := 224) (by decide +kernel))
  obtain ⟨comp3, y3, kk3, p1, -, p3, p4, p5⟩ := Cond.arrayOver_spec hob
  obtain ⟨comp4, y4, kk4, -, q3, q4, q5⟩ := Cond.arrayOver_specA hoa
  have hfl := flat_of_before _ hgv
  have hz1 : (Cond.arrayOf (Term.static ha_zc ha_zn ha_zd) (.object "java/lang/Object")).before #[Value.ref b] s = true := hfl _ (by decide +kernel)
  have hz2 : (Cond.eq (Term.length (Term.static ha_zc ha_zn ha_zd)) (Term.int 0)).before #[Value.ref b] s = true := hfl _ (by decide +kernel)
  obtain ⟨w, hw1, hw2⟩ := Cond.eq_one (show (Cond.eq (Term.length (Term.static ha_zc ha_zn ha_zd)) (Term.int 0)).holds #[Value.ref b] s none s [] = true from hz2)
  have hw3 : w = .int 0 := (Option.some.inj (hw2.symm.trans (show (Term.int 0).eval #[Value.ref b] s none [] s = some (.int 0) from rfl)))
  subst hw3
  obtain ⟨z, hz3, hT⟩ := va_Tof (A := fun q => s.heap.size ≤ q) (N := 0) (f := fun _ => .null) (by decide) hz1 hw1 (fun j h => absurd h (Nat.not_lt_zero j)) (fun a h => Nat.not_le.mpr h)
  have hZ := va_Zref (A := fun q => s.heap.size ≤ q) (hts _ (List.mem_of_getElem? (i := 111) (by decide +kernel))) (hg _ tw_5) hz3 (fun a h => Nat.not_le.mpr h)
  obtain ⟨mi, hmi⟩ := va_Mi.of (C := ha_zd) (hfl (Cond.isRef (.mirror ha_zd)) (by decide +kernel))
  refine ⟨(s.heap.size, (z, mi), (fun k => if k = 0 then y0 else if k = 1 then y1 else if k = 2 then y2 else if k = 3 then y3 else y4), dC, dI), rfl, ⟨hKc, fun k q hk => ?_⟩, ⟨fun q hq => va_Nw.of rfl (hts _ (nest_in q hq)), fun q hq => va_Nw.of rfl (hts _ (cast_in q hq)), va_Dc.of (hts _ (List.mem_of_getElem? (i := 1366) (by decide +kernel))), hob, hoa⟩, hZ, hT, Nat.le_refl _, hmi⟩
  match k, hk with
  | 0, hk => cases hk; exact ⟨a0, r0⟩
  | 1, hk => cases hk; exact ⟨a1, r1⟩
  | 2, hk => cases hk; exact ⟨a2, r2⟩
  | 3, hk => cases hk; exact ⟨fun n z => ⟨fun k h => (by cases h), kk3, p3, comp3, p4⟩, kk3, comp3, p3, p4, p1, p5⟩
  | 4, hk => cases hk; exact ⟨fun n z => ⟨fun k h => (by cases h), kk4, q3, comp4, q4⟩, q5⟩
  | k + 5, hk => simp at hk
/-- the heap at the law's start -/
def law_h0 (base z mi : Nat) : AH := (base, (z, mi), va_up (fun _ => none) z (some ha_z))
set_option maxRecDepth 100000 in
set_option maxHeartbeats 4000000 in
theorem whole_start_open (pure : ∀ (L : Nat) (xs : Nat → Int32) (base z mi : Nat), L ≤ 2560 → z < base → ∃ r : AH, f_L_law L xs (law_h0 base z mi) = some r) {p : Program} {e : Env} {s : State} {m : MethodId} {below : List Frame} {meth : Method} {c : Code} (l : Launch) {b L : Nat} {xs : Nat → Int32} (hL : L ≤ 2560) (C0 : lw_At p s m meth c b L xs) : W p l e room_1 s m #[Value.ref b] below meth c s.heap [] 0 0 (lw_Z below #[Value.ref b] s) (entryFrame m ([Value.ref b] : List Value).toArray 4) := by
  obtain ⟨hx, hb, hr, hml, hown, hts, hX, hbl, hlocks, hgv⟩ := id C0
  obtain ⟨G, hG, hsf⟩ := law_SF hts hgv
  have hg : ∀ w ∈ gt, w.before #[Value.ref b] s = true := fun w h => hts w (List.mem_filter.mp h).1
  have hzb : G.2.1.1 < s.heap.size := by
    obtain ⟨cell, h1, -⟩ := hsf.2.2.2.1
    exact (Array.getElem?_eq_some_iff.mp h1).1
  obtain ⟨r, hf⟩ := pure L xs s.heap.size G.2.1.1 G.2.1.2 hL hzb
  have hl := lv_entry ([.ref b]) (n := 4) (Nat.le_of_ble_eq_true rfl)
  rw [lg_entry_eq]
  have CC : CX (p, l, e, room_1, s, m, #[Value.ref b], below, meth, c, lw_Z below #[Value.ref b] s, G) cL_law 4 RL ret room_1 := ⟨hx, hb, hml, hown, hg, hsf, rfl, hr, hlocks⟩
  have SX : SXp (p, l, e, room_1, s, m, #[Value.ref b], below, meth, c, lw_Z below #[Value.ref b] s, G) b L xs := ⟨hX, hbl, fun h => by rw [ha_A, hG] at h; exact absurd hbl (Nat.not_lt.mpr h)⟩
  have K : ∀ c2 s2 : Nat, c2 ≤ 600000 → s2 ≤ 7302250 → PT (p, l, e, room_1, s, m, #[Value.ref b], below, meth, c, lw_Z below #[Value.ref b] s, G) 4 c2 s2 1167 [] [] r := by
    intro c2 s2 h1 h2
    refine pt_iconst CC (v := 1) (by decide) dL_law_1167 ?_
    intro H locs ls hh hS hl
    refine va_forget (fun q hq => by have := hS.2.2 q hq; rw [ha_A, hG] at this; exact this) ?_
    refine W.widen h1 h2 ?_
    exact lw_ret hx hb hr hlocks dL_law_1168
  have hh : HR G (law_h0 s.heap.size G.2.1.1 G.2.1.2) s.heap := by
    refine ⟨rfl, rfl, [], fun k q h => by simp at h, ⟨fun i j p q h => by simp at h, fun k q h => by simp at h⟩, fun a e2 h => Or.inr ?_⟩
    by_cases ha : a = G.2.1.1
    · refine ⟨ha, ?_⟩
      subst ha
      have h2 : (some ha_z : Option AE) = some e2 := by rw [← h]; simp [law_h0, va_up]
      exact (Option.some.inj h2).symm
    · exfalso
      have h2 : (none : Option AE) = some e2 := by rw [← h]; simp [law_h0, va_up, ha]
      cases h2
  exact w_L_law_0 CC SX _ r hf K s.heap [] _ hh va_S.rf hl

