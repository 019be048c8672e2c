/-! THE INVARIANT between the class's state and the reference's -/
abbrev HX : Type := HP × (Nat → Nat) × (Nat → Nat) × Nat × Nat
abbrev SX : Type := Nat × (Nat → Nat) × (Nat → Nat) × (Nat → Nat) × (Nat → Nat → Nat) × (Nat → Nat → Nat)
abbrev TX : Type := Nat × (Nat → Nat) × (Nat → Nat) × (Nat → Nat) × (Nat → Nat)
abbrev WX : Type := Nat × (Nat → Nat) × (Nat → Nat) × (Nat → Nat)
abbrev RX : Type := Nat × (Nat → Nat)
abbrev KX : Type := Nat × (Nat → Nat) × (Nat → Nat)
/-- at this address nothing has changed -/
def Agr (C C' : CH) (a : Nat) : Prop := c_kd C' a = c_kd C a ∧ c_ln C' a = c_ln C a ∧ c_rv C' a = c_rv C a ∧ c_ro C' a = c_ro C a ∧ c_iv C' a = c_iv C a ∧ c_ar C' a = c_ar C a ∧ c_al C' a = c_al C a ∧ c_jv C' a = c_jv C a
theorem Agr.rf (C : CH) (a : Nat) : Agr C C a := ⟨rfl, rfl, rfl, rfl, rfl, rfl, rfl, rfl⟩
theorem Agr.tr {C C1 C2 : CH} {a : Nat} (p : Agr C C1 a) (q : Agr C1 C2 a) : Agr C C2 a := by
  obtain ⟨a1, a2, a3, a4, a5, a6, a7, a8⟩ := p
  obtain ⟨b1, b2, b3, b4, b5, b6, b7, b8⟩ := q
  exact ⟨b1.trans a1, b2.trans a2, b3.trans a3, b4.trans a4, b5.trans a5, b6.trans a6, b7.trans a7, b8.trans a8⟩
theorem Fr.ag {lo hi : Nat} {C C' : CH} (F : Fr lo hi C C') {a : Nat} (h : a < lo ∨ hi < a) : Agr C C' a := by
  obtain ⟨h1, h2, h3, h4⟩ := F.2.2.2 a h
  exact ⟨by rw [sh_kd F.2.2.1], by rw [sh_ln F.2.2.1], by rw [sh_rv F.2.2.1], by rw [sh_ro F.2.2.1], h2, h1, h3, h4⟩
/-- the shape at this address is the same -/
def AgS (K K' : SHP) (a : Nat) : Prop := K'.1 a = K.1 a ∧ K'.2.1 a = K.2.1 a ∧ K'.2.2.1 a = K.2.2.1 a ∧ K'.2.2.2 a = K.2.2.2 a
theorem Agr.s {C C' : CH} {a : Nat} (h : Agr C C' a) : AgS (sh C) (sh C') a := ⟨h.1, h.2.1, h.2.2.1, h.2.2.2.1⟩
theorem AgS.rf (K : SHP) (a : Nat) : AgS K K a := ⟨rfl, rfl, rfl, rfl⟩
theorem AgS.of {K K' : SHP} (h : K' = K) (a : Nat) : AgS K K' a := by rw [h]; exact AgS.rf _ _
theorem RowS.ag {K K' : SHP} {o : Nat} (h : RowS K o) (g : ∀ a, o ≤ a → a ≤ o + 1 → AgS K K' a) : RowS K' o := by
  obtain ⟨h1, h2, h3, h4⟩ := h
  have g0 := g o (by omega) (by omega)
  have g1 := g (o + 1) (by omega) (by omega)
  exact ⟨by rw [g0.1]; exact h1, by rw [g0.2.2.1]; exact h2, by rw [g1.1]; exact h3, by rw [g1.2.1]; exact h4⟩
theorem SongS.ag {K K' : SHP} {o : Nat} (h : SongS K o) (g : ∀ a, o ≤ a → a ≤ o + 4 → AgS K K' a) : SongS K' o := by
  obtain ⟨h1, h2, h3, h4, h5⟩ := h
  have g0 := g o (by omega) (by omega)
  exact ⟨by rw [g0.1]; exact h1, by rw [g0.2.2.1]; exact h2, by rw [g0.2.2.1]; exact h3, h4.ag (fun a p q => g a (by omega) (by omega)), h5.ag (fun a p q => g a (by omega) (by omega))⟩
def TsS (K : SHP) (o : Nat) : Prop := K.1 o = 11 ∧ K.2.2.1 o 0 = some (o + 1) ∧ HaulS K (o + 1) ∧ K.2.2.1 o 1 = some (o + 7) ∧ K.1 (o + 7) = 24 ∧ K.2.1 (o + 7) = 4 ∧ (∀ i, i < 4 → K.2.2.2 (o + 7) i = some (o + 8 + i) ∧ K.1 (o + 8 + i) = 20 ∧ K.2.1 (o + 8 + i) = 10) ∧ K.2.2.1 o 2 = some (o + 12) ∧ K.1 (o + 12) = 20 ∧ K.2.1 (o + 12) = 4 ∧ K.2.2.1 o 3 = some (o + 13) ∧ K.1 (o + 13) = 20 ∧ K.2.1 (o + 13) = 4
def LateS (K : SHP) (o : Nat) : Prop := K.1 o = 5 ∧ K.2.2.1 o 0 = some (o + 1) ∧ HaulS K (o + 1)
/-- the shape of all that the constructor makes -/
def StS (K : SHP) (b : Nat) : Prop := (K.1 b = 13 ∧ K.2.2.1 b 0 = some (b + 1) ∧ K.2.2.1 b 1 = some (b + 3) ∧ K.2.2.1 b 2 = some (b + 4) ∧ K.2.2.1 b 3 = some (b + 11) ∧ K.2.2.1 b 4 = some (b + 17) ∧ K.2.2.1 b 6 = some (b + 18) ∧ K.2.2.1 b 7 = some (b + 32) ∧ K.2.2.1 b 8 = some (b + 33) ∧ K.2.2.1 b 9 = some (b + 37) ∧ K.2.2.1 b 10 = some (b + 40) ∧ K.2.2.1 b 11 = some (b + 47)) ∧ RowS K (b + 1) ∧ HandsS K (b + 4) ∧ HaulS K (b + 11) ∧ TsS K (b + 18) ∧ LineS K (b + 33) ∧ MarksS K (b + 37) ∧ LateS K (b + 40) ∧ KinS K (b + 47) ∧ K.1 (b + 3) = 1 ∧ K.1 (b + 17) = 1 ∧ K.1 (b + 32) = 1
theorem HaulS.ag {K K' : SHP} {o : Nat} (h : HaulS K o) (g : ∀ a, o ≤ a → a ≤ o + 5 → AgS K K' a) : HaulS K' o := by
  have g0 := g o (by omega) (by omega)
  have g1 := g (o + 1) (by omega) (by omega)
  have g2 := g (o + 2) (by omega) (by omega)
  have g3 := g (o + 3) (by omega) (by omega)
  have g4 := g (o + 4) (by omega) (by omega)
  have g5 := g (o + 5) (by omega) (by omega)
  unfold HaulS
  rw [g0.1, g0.2.2.1, g1.1, g1.2.1, g2.1, g2.2.1, g3.1, g3.2.1, g4.1, g4.2.1, g5.1, g5.2.1]
  exact h
theorem HandsS.ag {K K' : SHP} {o : Nat} (h : HandsS K o) (g : ∀ a, o ≤ a → a ≤ o + 6 → AgS K K' a) : HandsS K' o := by
  have g0 := g o (by omega) (by omega)
  have g1 := g (o + 1) (by omega) (by omega)
  have g2 := g (o + 2) (by omega) (by omega)
  have g3 := g (o + 3) (by omega) (by omega)
  have g4 := g (o + 4) (by omega) (by omega)
  have g5 := g (o + 5) (by omega) (by omega)
  have g6 := g (o + 6) (by omega) (by omega)
  unfold HandsS
  rw [g0.1, g0.2.2.1, g1.1, g1.2.1, g2.1, g2.2.1, g3.1, g3.2.1, g4.1, g4.2.1, g5.1, g5.2.1, g6.1, g6.2.1]
  exact h
theorem MarksS.ag {K K' : SHP} {o : Nat} (h : MarksS K o) (g : ∀ a, o ≤ a → a ≤ o + 2 → AgS K K' a) : MarksS K' o := by
  have g0 := g o (by omega) (by omega)
  have g1 := g (o + 1) (by omega) (by omega)
  have g2 := g (o + 2) (by omega) (by omega)
  unfold MarksS
  rw [g0.1, g0.2.2.1, g1.1, g1.2.1, g2.1, g2.2.1]
  exact h
theorem KinS.ag {K K' : SHP} {o : Nat} (h : KinS K o) (g : ∀ a, o ≤ a → a ≤ o + 3 → AgS K K' a) : KinS K' o := by
  have g0 := g o (by omega) (by omega)
  have g1 := g (o + 1) (by omega) (by omega)
  have g2 := g (o + 2) (by omega) (by omega)
  have g3 := g (o + 3) (by omega) (by omega)
  unfold KinS
  rw [g0.1, g0.2.2.1, g1.1, g1.2.1, g2.1, g2.2.1, g3.1, g3.2.1]
  exact h
theorem LineS.ag {K K' : SHP} {o : Nat} (h : LineS K o) (g : ∀ a, o ≤ a → a ≤ o + 3 → AgS K K' a) : LineS K' o := by
  have g0 := g o (by omega) (by omega)
  have g1 := g (o + 1) (by omega) (by omega)
  have g2 := g (o + 2) (by omega) (by omega)
  have g3 := g (o + 3) (by omega) (by omega)
  unfold LineS
  rw [g0.1, g0.2.2.1, g1.1, g1.2.1, g2.1, g2.2.1, g3.1, g3.2.1]
  exact h
theorem TsS.ag {K K' : SHP} {o : Nat} (h : TsS K o) (g : ∀ a, o ≤ a → a ≤ o + 13 → AgS K K' a) : TsS K' o := by
  obtain ⟨h1, h2, h3, h4, h5, h6, h7, h8, h9, h10, h11, h12, h13⟩ := h
  have g0 := g o (by omega) (by omega)
  have g7 := g (o + 7) (by omega) (by omega)
  have g12 := g (o + 12) (by omega) (by omega)
  have g13 := g (o + 13) (by omega) (by omega)
  refine ⟨by rw [g0.1]; exact h1, by rw [g0.2.2.1]; exact h2, h3.ag (fun a p q => g a (by omega) (by omega)), by rw [g0.2.2.1]; exact h4, by rw [g7.1]; exact h5, by rw [g7.2.1]; exact h6, fun i hi => ?_, by rw [g0.2.2.1]; exact h8, by rw [g12.1]; exact h9, by rw [g12.2.1]; exact h10, by rw [g0.2.2.1]; exact h11, by rw [g13.1]; exact h12, by rw [g13.2.1]; exact h13⟩
  have gi := g (o + 8 + i) (by omega) (by omega)
  rw [g7.2.2.2, gi.1, gi.2.1]
  exact h7 i hi
theorem LateS.ag {K K' : SHP} {o : Nat} (h : LateS K o) (g : ∀ a, o ≤ a → a ≤ o + 6 → AgS K K' a) : LateS K' o := by
  have g0 := g o (by omega) (by omega)
  exact ⟨by rw [g0.1]; exact h.1, by rw [g0.2.2.1]; exact h.2.1, h.2.2.ag (fun a p q => g a (by omega) (by omega))⟩
theorem StS.ag {K K' : SHP} {b : Nat} (h : StS K b) (g : ∀ a, b ≤ a → a ≤ b + 50 → a ≠ b + 3 → a ≠ b + 17 → a ≠ b + 32 → AgS K K' a) (l1 : K'.1 (b + 3) = 1) (l2 : K'.1 (b + 17) = 1) (l3 : K'.1 (b + 32) = 1) : StS K' b := by
  obtain ⟨h0, h1, h2, h3, h4, h5, h6, h7, h8, h9⟩ := h
  have g0 := g b (by omega) (by omega) (by omega) (by omega) (by omega)
  refine ⟨by rw [g0.1, g0.2.2.1]; exact h0, h1.ag (fun a p q => g a (by omega) (by omega) (by omega) (by omega) (by omega)), h2.ag (fun a p q => g a (by omega) (by omega) (by omega) (by omega) (by omega)), h3.ag (fun a p q => g a (by omega) (by omega) (by omega) (by omega) (by omega)), h4.ag (fun a p q => g a (by omega) (by omega) (by omega) (by omega) (by omega)), h5.ag (fun a p q => g a (by omega) (by omega) (by omega) (by omega) (by omega)), h6.ag (fun a p q => g a (by omega) (by omega) (by omega) (by omega) (by omega)), h7.ag (fun a p q => g a (by omega) (by omega) (by omega) (by omega) (by omega)), h8.ag (fun a p q => g a (by omega) (by omega) (by omega) (by omega) (by omega)), l1, l2, l3⟩
/-- a list: how many, and who -/
def ListC (C : CH) (b o n : Nat) (el : Nat → Nat) : Prop := c_kd C o = 1 ∧ c_iv C o 2 = nI n ∧ ∃ ea, c_rv C o 1 = some ea ∧ c_kd C ea = 23 ∧ n ≤ c_ln C ea ∧ (c_ln C ea = 0 ∨ c_ln C ea = 10 ∨ c_ln C ea = 15) ∧ (c_ln C ea = 0 → ea = C.2.1.1) ∧ (ea < b ∨ b + 81 ≤ ea) ∧ ea < C.1 ∧ ∀ i, i < n → c_ro C ea i = some (el i)
def HandsC (b : Nat) (H : HX) (C : CH) : Prop := HandV C (b + 4) H.1 ∧ c_iv C (b + 4) 7 = nI H.2.2.2.1 ∧ c_iv C (b + 4) 8 = nI H.2.2.2.2 ∧ (∀ h, h < 10 → c_ar C (b + 9) h = nI (H.2.1 h)) ∧ ∀ h, h < H.1.1 → c_ar C (b + 10) h = nI (H.2.2.1 h)
def HandsM (H : HX) (M : MS) : Prop := RHandV M H.1 ∧ M.1 14 = nI H.2.2.2.1 ∧ M.1 15 = nI H.2.2.2.2 ∧ (∀ h, h < H.1.1 → M.2.2.1 12 h = nI (H.2.1 h)) ∧ ∀ h, h < H.1.1 → M.2.2.1 13 h = nI (H.2.2.1 h)
def HandsOk (H : HX) : Prop := HPok H.1 ∧ H.2.2.2.1 < 2 ^ H.1.1 ∧ H.2.2.2.2 ≤ 100 ∧ (∀ h, H.2.1 h ≤ 3) ∧ (∀ h, H.1.1 ≤ h → H.2.1 h = 0) ∧ nowOk H.1 H.2.2.1
def SongsC (b : Nat) (S : SX) (C : CH) : Prop := ListC C b (b + 3) S.1 S.2.1 ∧ ∀ s, s < S.1 → SongS (sh C) (S.2.1 s) ∧ SongV C (S.2.1 s) (S.2.2.1 s) (S.2.2.2.1 s) (S.2.2.2.2.1 s) (S.2.2.2.2.2 s) ∧ b + 81 ≤ S.2.1 s ∧ S.2.1 s + 4 < C.1 ∧ ∀ s', s' < s → S.2.1 s' + 5 ≤ S.2.1 s
def SongsM (S : SX) (M : MS) : Prop := M.1 0 = nI S.1 ∧ ∀ s, s < S.1 → RSongV M s (S.2.2.1 s) (S.2.2.2.1 s) (S.2.2.2.2.1 s) (S.2.2.2.2.2 s)
def SongsOk (S : SX) : Prop := S.1 ≤ 6 ∧ ∀ s, s < S.1 → (∀ k, k < S.2.2.1 s → S.2.2.2.2.1 s k ≤ 3) ∧ ∀ k, k < S.2.2.2.1 s → S.2.2.2.2.2 s k ≤ 3
def TasksC (b : Nat) (T : TX) (C : CH) : Prop := ListC C b (b + 17) T.1 T.2.1 ∧ ∀ i, i < T.1 → TaskV C (T.2.1 i) (T.2.2.1 i) (T.2.2.2.1 i) (T.2.2.2.2 i) ∧ b + 81 ≤ T.2.1 i ∧ T.2.1 i < C.1
def TasksM (T : TX) (M : MS) : Prop := M.1 22 = nI T.1 ∧ ∀ i, i < T.1 → M.2.2.1 23 i = nI (T.2.2.1 i) ∧ M.2.2.1 24 i = nI (T.2.2.2.1 i) ∧ M.2.2.1 25 i = nI (T.2.2.2.2 i)
def TasksOk (T : TX) : Prop := T.1 ≤ 4 ∧ ∀ i, i < T.1 → 1 ≤ T.2.2.1 i ∧ T.2.2.1 i ≤ 3000 ∧ T.2.2.2.1 i ≤ 1000 ∧ T.2.2.2.2 i ≤ 50
def WordV (C : CH) (o n bits : Nat) : Prop := c_kd C o = 12 ∧ c_iv C o 0 = nI n ∧ c_iv C o 1 = nI bits
def WordsC (b : Nat) (X : WX) (C : CH) : Prop := ListC C b (b + 32) X.1 X.2.1 ∧ ∀ i, i < X.1 → WordV C (X.2.1 i) (X.2.2.1 i) (X.2.2.2 i) ∧ b + 81 ≤ X.2.1 i ∧ X.2.1 i < C.1
def WordsM (X : WX) (M : MS) : Prop := M.1 30 = nI X.1 ∧ ∀ i, i < X.1 → M.2.2.1 31 i = nI (X.2.2.1 i) ∧ M.2.2.1 32 i = nI (X.2.2.2 i)
def WordsOk (X : WX) : Prop := X.1 ≤ 12 ∧ ∀ i, i < X.1 → 1 ≤ X.2.2.1 i ∧ X.2.2.1 i ≤ 5 ∧ X.2.2.2 i < 2 ^ X.2.2.1 i
def RowC (b : Nat) (R : RX) (C : CH) : Prop := c_iv C (b + 1) 1 = nI R.1 ∧ ∀ k, k < R.1 → c_ar C (b + 2) k = nI (R.2 k)
def RowM (R : RX) (M : MS) : Prop := M.1 5 = nI R.1 ∧ ∀ k, k < R.1 → M.2.2.1 6 k = nI (R.2 k)
def RowOk (R : RX) : Prop := R.1 ≤ 24 ∧ ∀ k, k < R.1 → R.2 k ≤ 3
def MarkC (b : Nat) (X : KX) (C : CH) : Prop := c_iv C (b + 37) 2 = nI X.1 ∧ ∀ k, k < X.1 → c_ar C (b + 38) k = nI (X.2.1 k) ∧ c_ar C (b + 39) k = nI (X.2.2 k)
def MarkM (X : KX) (M : MS) : Prop := M.1 35 = nI X.1 ∧ ∀ k, k < X.1 → M.2.2.1 36 k = nI (X.2.1 k) ∧ M.2.2.1 37 k = nI (X.2.2 k)
def MarkOk (X : KX) : Prop := X.1 ≤ 60 ∧ ∀ k, k < X.1 → X.2.1 k < 300 ∧ X.2.2 k ≤ 5000
/-- the latest haul -/
def LastR (b : Nat) (C : CH) (M : MS) : Prop := ∃ n, n ≤ 300 ∧ c_iv C (b + 11) 7 = nI n ∧ M.1 16 = nI n ∧ ∀ t, t < n → c_ar C (b + 14) t = M.2.2.1 17 t ∧ c_ar C (b + 15) t = M.2.2.1 18 t
/-- how a song is hauled for a task -/
def wOf (H : HX) (S : SX) (T : TX) (s i : Nat) : HW := (H.2.2.2.1, H.2.1, sBt (S.2.2.1 s) (S.2.2.2.1 s) (S.2.2.2.2.1 s) (S.2.2.2.2.2 s), T.2.2.2.1 i, T.2.2.2.2 i)
def rOf (H : HX) (S : SX) (T : TX) (now : Nat → Nat) (s i : Nat) : Nat × Nat := hRun H.1 (wOf H S T s i) H.2.2.2.2 (T.2.2.1 i) now 300 0
def nOf (H : HX) (S : SX) (T : TX) (now : Nat → Nat) (s i : Nat) : Nat → Nat := (hSt H.1 (wOf H S T s i) now (rOf H S T now s i).2).1
def rsB (P : HP) (n : Nat) (now : Nat → Nat) : Nat → Nat := fun h => min (P.2.1 h) (now h + n * P.2.2.2.1 h)
def updN (f : Nat → Nat) (k x : Nat) : Nat → Nat := fun j => if j = k then x else f j
/-- the songs from the s-th on (k of them) for the task at depth d, and all plans that begin so -/
def plS (deep : (Nat → Nat) → Nat → (Nat → Nat) → Nat × (Nat → Nat) → Nat × (Nat → Nat)) (H : HX) (S : SX) (T : TX) (bw d : Nat) (now : Nat → Nat) (spent : Nat) (way : Nat → Nat) : Nat → Nat → Nat × (Nat → Nat) → Nat × (Nat → Nat)
  | 0, _, acc => acc
  | k + 1, s, acc => plS deep H S T bw d now spent way k (s + 1) (if (rOf H S T now s d).1 = 2 then (if d + 1 = T.1 then (if spent + (rOf H S T now s d).2 < acc.1 then (spent + (rOf H S T now s d).2, updN way d s) else acc) else deep (rsB H.1 bw (nOf H S T now s d)) (spent + (rOf H S T now s d).2 + bw) (updN way d s) acc) else acc)
def plD (H : HX) (S : SX) (T : TX) (bw : Nat) : Nat → Nat → (Nat → Nat) → Nat → (Nat → Nat) → Nat × (Nat → Nat) → Nat × (Nat → Nat)
  | 0, _, _, _, _, acc => acc
  | f + 1, d, now, spent, way, acc => plS (plD H S T bw f (d + 1)) H S T bw d now spent way S.1 0 acc
def planM (H : HX) (S : SX) (T : TX) (bw : Nat) : Nat × (Nat → Nat) := plD H S T bw T.1 0 H.2.2.1 0 (fun _ => 0) (1000000000, fun _ => 0)
def PlanC (b : Nat) (H : HX) (S : SX) (T : TX) (bw : Nat) (C : CH) : Prop := c_iv C (b + 18) 5 = 0 ∨ (c_iv C (b + 18) 5 = 1 ∧ c_iv C (b + 18) 4 = nI (planM H S T bw).1 ∧ ((planM H S T bw).1 ≠ 1000000000 → ∀ i, i < T.1 → c_ar C (b + 31) i = nI ((planM H S T bw).2 i)))
/-- the three lists' rows are not the same one, unless it is the one of nothing -/
def SepL (b : Nat) (C : CH) : Prop := ∃ e1 e2 e3, c_rv C (b + 3) 1 = some e1 ∧ c_rv C (b + 17) 1 = some e2 ∧ c_rv C (b + 32) 1 = some e3 ∧ e1 < C.1 ∧ e2 < C.1 ∧ e3 < C.1 ∧ (e1 = e2 → c_ln C e1 = 0) ∧ (e1 = e3 → c_ln C e1 = 0) ∧ (e2 = e3 → c_ln C e2 = 0) ∧ (e1 < b ∨ b + 81 ≤ e1) ∧ (e2 < b ∨ b + 81 ≤ e2) ∧ (e3 < b ∨ b + 81 ≤ e3)
/-- what is laid out where: the list of nothing, the reference's place, what comes next -/
def BaseC (b : Nat) (C : CH) : Prop := StS (sh C) b ∧ b + 81 ≤ C.1 ∧ (∀ a, b + 51 ≤ a → a ≤ b + 80 → c_kd C a = 0) ∧ C.2.1.1 < b ∧ c_kd C C.2.1.1 = 23 ∧ c_ln C C.2.1.1 = 0 ∧ SepL b C
def InvX (b : Nat) (H : HX) (S : SX) (T : TX) (bw : Nat) (X : WX) (R : RX) (K : KX) (C : CH) (M : MS) : Prop := BaseC b C ∧ (HandsC b H C ∧ HandsM H M ∧ HandsOk H) ∧ (SongsC b S C ∧ SongsM S M ∧ SongsOk S) ∧ (TasksC b T C ∧ TasksM T M ∧ TasksOk T) ∧ (c_iv C b 5 = nI bw ∧ M.1 26 = nI bw ∧ bw ≤ 50) ∧ (WordsC b X C ∧ WordsM X M ∧ WordsOk X) ∧ (RowC b R C ∧ RowM R M ∧ RowOk R) ∧ (MarkC b K C ∧ MarkM K M ∧ MarkOk K) ∧ LastR b C M ∧ PlanC b H S T bw C
def Inv (b : Nat) (C : CH) (M : MS) : Prop := ∃ H S T bw X R K, InvX b H S T bw X R K C M
/-! what keeps what -/
theorem ListC.ag {C C' : CH} {b o n : Nat} {el : Nat → Nat} (h : ListC C b o n el) (hb : b + 51 ≤ C.1 ∨ True) (h0 : C.1 ≤ C'.1) (h2 : C'.2.1 = C.2.1) (g : ∀ a, a = o ∨ a < b ∨ b + 81 ≤ a → a < C.1 → (c_kd C a = 23 → c_rv C o 1 = some a) → Agr C C' a) (ho : o < C.1) : ListC C' b o n el := by
  obtain ⟨k1, k2, ea, k3, k4, k5, k6, k7, k8, k9, k10⟩ := h
  obtain ⟨g1, g2, g3, g4, g5, g6, g7, g8⟩ := g o (Or.inl rfl) ho (fun z => by rw [k1] at z; exact absurd z (by decide))
  obtain ⟨e1, e2, e3, e4, e5, e6, e7, e8⟩ := g ea (Or.inr k8) k9 (fun _ => k3)
  exact ⟨by rw [g1]; exact k1, by rw [g5]; exact k2, ea, by rw [g3]; exact k3, by rw [e1]; exact k4, by rw [e2]; exact k5, by rw [e2]; exact k6, by rw [e2, h2]; exact k7, k8, by omega, by rw [e4]; exact k10⟩
theorem HandV.ag {C C' : CH} {hb : Nat} {P : HP} (V : HandV C hb P) (g : ∀ a, hb ≤ a → a ≤ hb + 6 → Agr C C' a) : HandV C' hb P := by
  have g0 := g hb (by omega) (by omega)
  have g1 := g (hb + 1) (by omega) (by omega)
  have g2 := g (hb + 2) (by omega) (by omega)
  have g3 := g (hb + 3) (by omega) (by omega)
  have g4 := g (hb + 4) (by omega) (by omega)
  unfold HandV
  rw [g0.2.2.2.2.1, g1.2.2.2.2.2.1, g2.2.2.2.2.2.1, g3.2.2.2.2.2.1, g4.2.2.2.2.2.1]
  exact V
theorem HandsC.ag {C C' : CH} {b : Nat} {H : HX} (h : HandsC b H C) (g : ∀ a, b + 4 ≤ a → a ≤ b + 10 → Agr C C' a) : HandsC b H C' := by
  have g0 := g (b + 4) (by omega) (by omega)
  have g1 := g (b + 9) (by omega) (by omega)
  have g2 := g (b + 10) (by omega) (by omega)
  refine ⟨h.1.ag (fun a p q => g a (by omega) (by omega)), ?_⟩
  rw [g0.2.2.2.2.1, g1.2.2.2.2.2.1, g2.2.2.2.2.2.1]
  exact h.2
theorem SongV.ag {C C' : CH} {o vs rs : Nat} {v r : Nat → Nat} (V : SongV C o vs rs v r) (g : ∀ a, o ≤ a → a ≤ o + 4 → Agr C C' a) : SongV C' o vs rs v r := by
  have g1 := g (o + 1) (by omega) (by omega)
  have g2 := g (o + 2) (by omega) (by omega)
  have g3 := g (o + 3) (by omega) (by omega)
  have g4 := g (o + 4) (by omega) (by omega)
  unfold SongV
  rw [g1.2.2.2.2.1, g2.2.2.2.2.2.1, g3.2.2.2.2.1, g4.2.2.2.2.2.1]
  exact V
theorem SongsC.ag {C C' : CH} {b : Nat} {S : SX} (h : SongsC b S C) (h0 : C.1 ≤ C'.1) (h2 : C'.2.1 = C.2.1) (hb : b + 81 ≤ C.1) (g : ∀ a, a = b + 3 ∨ a < b ∨ b + 81 ≤ a → a < C.1 → (c_kd C a = 23 → c_rv C (b + 3) 1 = some a) → Agr C C' a) : SongsC b S C' := by
  refine ⟨h.1.ag (Or.inr trivial) h0 h2 g (by omega), fun s hs => ?_⟩
  obtain ⟨h3, h4, h5, h6, h7⟩ := h.2 s hs
  have nk : ∀ a, S.2.1 s ≤ a → a ≤ S.2.1 s + 4 → c_kd C a ≠ 23 := by
    intro a p q
    obtain ⟨gk, gr0, gr1, gk1, gr2, gk2, gl2, gk3, gr4, gk4, gl4⟩ := h3.f
    have : a = S.2.1 s ∨ a = S.2.1 s + 1 ∨ a = S.2.1 s + 2 ∨ a = S.2.1 s + 3 ∨ a = S.2.1 s + 4 := by omega
    rcases this with rfl | rfl | rfl | rfl | rfl
    · rw [gk]; decide
    · rw [gk1]; decide
    · rw [gk2]; decide
    · rw [gk3]; decide
    · rw [gk4]; decide
  exact ⟨h3.ag (fun a p q => (g a (by omega) (by omega) (fun z => absurd z (nk a p q))).s), h4.ag (fun a p q => g a (by omega) (by omega) (fun z => absurd z (nk a p q))), h5, by omega, h7⟩
theorem TaskV.ag {C C' : CH} {tk g l s : Nat} (T : TaskV C tk g l s) (h : Agr C C' tk) : TaskV C' tk g l s := by
  unfold TaskV
  rw [h.1, h.2.2.2.2.1]
  exact T
theorem TasksC.ag {C C' : CH} {b : Nat} {T : TX} (h : TasksC b T C) (h0 : C.1 ≤ C'.1) (h2 : C'.2.1 = C.2.1) (hb : b + 81 ≤ C.1) (g : ∀ a, a = b + 17 ∨ a < b ∨ b + 81 ≤ a → a < C.1 → (c_kd C a = 23 → c_rv C (b + 17) 1 = some a) → Agr C C' a) : TasksC b T C' := by
  refine ⟨h.1.ag (Or.inr trivial) h0 h2 g (by omega), fun s hs => ?_⟩
  obtain ⟨h3, h4, h5⟩ := h.2 s hs
  exact ⟨h3.ag (g _ (by omega) (by omega) (fun z => by rw [h3.1] at z; exact absurd z (by decide))), h4, by omega⟩
theorem WordV.ag {C C' : CH} {o n m : Nat} (T : WordV C o n m) (h : Agr C C' o) : WordV C' o n m := by
  unfold WordV
  rw [h.1, h.2.2.2.2.1]
  exact T
theorem WordsC.ag {C C' : CH} {b : Nat} {T : WX} (h : WordsC b T C) (h0 : C.1 ≤ C'.1) (h2 : C'.2.1 = C.2.1) (hb : b + 81 ≤ C.1) (g : ∀ a, a = b + 32 ∨ a < b ∨ b + 81 ≤ a → a < C.1 → (c_kd C a = 23 → c_rv C (b + 32) 1 = some a) → Agr C C' a) : WordsC b T C' := by
  refine ⟨h.1.ag (Or.inr trivial) h0 h2 g (by omega), fun s hs => ?_⟩
  obtain ⟨h3, h4, h5⟩ := h.2 s hs
  exact ⟨h3.ag (g _ (by omega) (by omega) (fun z => by rw [h3.1] at z; exact absurd z (by decide))), h4, by omega⟩
theorem RowC.ag {C C' : CH} {b : Nat} {R : RX} (h : RowC b R C) (g1 : Agr C C' (b + 1)) (g2 : Agr C C' (b + 2)) : RowC b R C' := by
  unfold RowC
  rw [g1.2.2.2.2.1, g2.2.2.2.2.2.1]
  exact h
theorem MarkC.ag {C C' : CH} {b : Nat} {R : KX} (h : MarkC b R C) (g : ∀ a, b + 37 ≤ a → a ≤ b + 39 → Agr C C' a) : MarkC b R C' := by
  unfold MarkC
  rw [(g (b + 37) (by omega) (by omega)).2.2.2.2.1, (g (b + 38) (by omega) (by omega)).2.2.2.2.2.1, (g (b + 39) (by omega) (by omega)).2.2.2.2.2.1]
  exact h
theorem LastR.ag {C C' : CH} {b : Nat} {M M' : MS} (h : LastR b C M) (g : ∀ a, b + 11 ≤ a → a ≤ b + 16 → Agr C C' a) (e1 : M'.1 16 = M.1 16) (e2 : M'.2.2.1 17 = M.2.2.1 17) (e3 : M'.2.2.1 18 = M.2.2.1 18) : LastR b C' M' := by
  unfold LastR
  rw [(g (b + 11) (by omega) (by omega)).2.2.2.2.1, (g (b + 14) (by omega) (by omega)).2.2.2.2.2.1, (g (b + 15) (by omega) (by omega)).2.2.2.2.2.1, e1, e2, e3]
  exact h
theorem PlanC.ag {C C' : CH} {b : Nat} {H : HX} {S : SX} {T : TX} {bw : Nat} (h : PlanC b H S T bw C) (g1 : Agr C C' (b + 18)) (g2 : Agr C C' (b + 31)) : PlanC b H S T bw C' := by
  unfold PlanC
  rw [g1.2.2.2.2.1, g2.2.2.2.2.2.1]
  exact h
theorem BaseC.ag {C C' : CH} {b : Nat} (h : BaseC b C) (h0 : C.1 ≤ C'.1) (h2 : C'.2.1 = C.2.1) (g : ∀ a, a < C.1 → AgS (sh C) (sh C') a) : BaseC b C' := by
  obtain ⟨h3, h4, h5, h6, h7, h8, e1, e2, e3, k1, k2, k3, k4, k5, k6, k7, k8, k9, kr⟩ := h
  refine ⟨h3.ag (fun a p q _ _ _ => g a (by omega)) ?_ ?_ ?_, by omega, fun a p q => ?_, by rw [h2]; exact h6, ?_, ?_, e1, e2, e3, ?_, ?_, ?_, by omega, by omega, by omega, ?_, ?_, ?_, kr⟩
  · rw [(g (b + 3) (by omega)).1]; exact h3.2.2.2.2.2.2.2.2.2.1
  · rw [(g (b + 17) (by omega)).1]; exact h3.2.2.2.2.2.2.2.2.2.2.1
  · rw [(g (b + 32) (by omega)).1]; exact h3.2.2.2.2.2.2.2.2.2.2.2
  · exact (g a (by omega)).1.trans (h5 a p q)
  · rw [h2]; exact (g _ (by omega)).1.trans h7
  · rw [h2]; exact (g _ (by omega)).2.1.trans h8
  · exact (congrFun (g (b + 3) (by omega)).2.2.1 1).trans k1
  · exact (congrFun (g (b + 17) (by omega)).2.2.1 1).trans k2
  · exact (congrFun (g (b + 32) (by omega)).2.2.1 1).trans k3
  · exact fun z => (g e1 k4).2.1.trans (k7 z)
  · exact fun z => (g e1 k4).2.1.trans (k8 z)
  · exact fun z => (g e2 k5).2.1.trans (k9 z)
theorem HandsM.fr {H : HX} {M M' : MS} {I A : List Nat} (h : HandsM H M) (F : FM I A M M') (hI : 7 ∉ I ∧ 14 ∉ I ∧ 15 ∉ I) (hA : 8 ∉ A ∧ 9 ∉ A ∧ 10 ∉ A ∧ 11 ∉ A ∧ 12 ∉ A) (h13 : ∀ j, j < 10 → M'.2.2.1 13 j = M.2.2.1 13 j) (hok : H.1.1 ≤ 10) : HandsM H M' := by
  obtain ⟨i1, i2, i3⟩ := hI
  obtain ⟨a1, a2, a3, a4, a5⟩ := hA
  refine ⟨h.1.fr F ⟨i1, a1, a2, a3, a4⟩, by rw [F.1 _ i2]; exact h.2.1, by rw [F.1 _ i3]; exact h.2.2.1, by rw [F.2 _ a5]; exact h.2.2.2.1, fun j hj => ?_⟩
  rw [h13 j (by omega)]
  exact h.2.2.2.2 j hj
theorem SongsM.fr {S : SX} {M M' : MS} {I A : List Nat} (h : SongsM S M) (F : FM I A M M') (hI : 0 ∉ I) (hA : 1 ∉ A ∧ 2 ∉ A ∧ 3 ∉ A ∧ 4 ∉ A) : SongsM S M' := ⟨by rw [F.1 _ hI]; exact h.1, fun s hs => (h.2 s hs).fr F hA⟩
theorem TasksM.fr {T : TX} {M M' : MS} {I A : List Nat} (h : TasksM T M) (F : FM I A M M') (hI : 22 ∉ I) (hA : 23 ∉ A ∧ 24 ∉ A ∧ 25 ∉ A) : TasksM T M' := ⟨by rw [F.1 _ hI]; exact h.1, by rw [F.2 _ hA.1, F.2 _ hA.2.1, F.2 _ hA.2.2]; exact h.2⟩
theorem WordsM.fr {T : WX} {M M' : MS} {I A : List Nat} (h : WordsM T M) (F : FM I A M M') (hI : 30 ∉ I) (hA : 31 ∉ A ∧ 32 ∉ A) : WordsM T M' := ⟨by rw [F.1 _ hI]; exact h.1, by rw [F.2 _ hA.1, F.2 _ hA.2]; exact h.2⟩
theorem RowM.fr {T : RX} {M M' : MS} {I A : List Nat} (h : RowM T M) (F : FM I A M M') (hI : 5 ∉ I) (hA : 6 ∉ A) : RowM T M' := ⟨by rw [F.1 _ hI]; exact h.1, by rw [F.2 _ hA]; exact h.2⟩
theorem MarkM.fr {T : KX} {M M' : MS} {I A : List Nat} (h : MarkM T M) (F : FM I A M M') (hI : 35 ∉ I) (hA : 36 ∉ A ∧ 37 ∉ A) : MarkM T M' := ⟨by rw [F.1 _ hI]; exact h.1, by rw [F.2 _ hA.1, F.2 _ hA.2]; exact h.2⟩
