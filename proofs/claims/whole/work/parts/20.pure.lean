/-! PURE: rows over the abstract heap's functions -/
theorem hup_same (h : AH) (a : Nat) (e : AE) : (hup h a e).2.2 a = some e := by simp [hup, va_up]
theorem hup_ne {h : AH} {a b : Nat} {e : AE} (hb : b ≠ a) : (hup h a e).2.2 b = h.2.2 b := by simp [hup, va_up, hb]
theorem hup_1 (h : AH) (a : Nat) (e : AE) : (hup h a e).1 = h.1 := rfl
theorem hup_2 (h : AH) (a : Nat) (e : AE) : (hup h a e).2.1 = h.2.1 := rfl
theorem hnew_same (h : AH) (e : AE) : (hnew h e).2.2 h.1 = some e := by simp [hnew, va_up]
theorem hnew_ne {h : AH} {b : Nat} {e : AE} (hb : b ≠ h.1) : (hnew h e).2.2 b = h.2.2 b := by simp [hnew, va_up, hb]
theorem hgI_eq {h : AH} {a ci k : Nat} {fs : List Value} {v : Int32} (e : h.2.2 a = some (.inr (ci, fs))) (ek : fs[k]? = some (.int v)) : hgI h a ci k = some v := by
  unfold hgI; rw [e]; simp [ek]
theorem hgJ_eq {h : AH} {a ci k : Nat} {fs : List Value} {v : Int64} (e : h.2.2 a = some (.inr (ci, fs))) (ek : fs[k]? = some (.long v)) : hgJ h a ci k = some v := by
  unfold hgJ; rw [e]; simp [ek]
theorem hgR_eq {h : AH} {a ci k : Nat} {fs : List Value} {v : Nat} (e : h.2.2 a = some (.inr (ci, fs))) (ek : fs[k]? = some (.ref v)) : hgR h a ci k = some v := by
  unfold hgR; rw [e]; simp [ek]
theorem hcl_eq {h : AH} {a ci : Nat} {fs : List Value} (e : h.2.2 a = some (.inr (ci, fs))) : hcl h a ci = some () := by
  unfold hcl; rw [e]; simp
theorem hpF_eq {h : AH} {a ci k : Nat} {fs : List Value} {v : Value} (e : h.2.2 a = some (.inr (ci, fs))) (hk : k < fs.length) : hpF h a ci k v = some (hup h a (.inr (ci, fs.set k v))) := by
  unfold hpF; rw [e]; simp [hk]
theorem hin_nI {j n : Nat} (hj : j < n) (hn : n < 2 ^ 31) : hin (nI j) n = true := decide_eq_true (nI_in hj hn)
theorem hld_eq {h : AH} {kd a n : Nat} {f : Nat → Int32} {i : Int32} {j : Nat} (e : h.2.2 a = some (.inl (kd, n, .inl f))) (hi : i = nI j) (hj : j < n) (hn : n < 2 ^ 31) : hld h kd a i = some (f j) := by
  subst hi
  unfold hld; rw [e]; simp [hin_nI hj hn, nI_clamp (Nat.lt_trans hj hn)]
theorem hst_eq {h : AH} {kd a n : Nat} {f : Nat → Int32} {i x : Int32} {j : Nat} (e : h.2.2 a = some (.inl (kd, n, .inl f))) (hi : i = nI j) (hj : j < n) (hn : n < 2 ^ 31) : hst h kd a i x = some (hup h a (.inl (kd, n, .inl (upd f j x)))) := by
  subst hi
  unfold hst; rw [e]; simp [hin_nI hj hn, nI_clamp (Nat.lt_trans hj hn)]
theorem hldJ_eq {h : AH} {a n : Nat} {f : Nat → Int64} {i : Int32} {j : Nat} (e : h.2.2 a = some (.inl (1, n, .inr (.inl f)))) (hi : i = nI j) (hj : j < n) (hn : n < 2 ^ 31) : hldJ h a i = some (f j) := by
  subst hi
  unfold hldJ; rw [e]; simp [hin_nI hj hn, nI_clamp (Nat.lt_trans hj hn)]
theorem hstJ_eq {h : AH} {a n : Nat} {f : Nat → Int64} {i : Int32} {x : Int64} {j : Nat} (e : h.2.2 a = some (.inl (1, n, .inr (.inl f)))) (hi : i = nI j) (hj : j < n) (hn : n < 2 ^ 31) : hstJ h a i x = some (hup h a (.inl (1, n, .inr (.inl (vp_updL f j x))))) := by
  subst hi
  unfold hstJ; rw [e]; simp [hin_nI hj hn, nI_clamp (Nat.lt_trans hj hn)]
theorem hldR_eq {h : AH} {kd a n : Nat} {f : Nat → Option Nat} {i : Int32} {j : Nat} (e : h.2.2 a = some (.inl (kd, n, .inr (.inr (.inr (.inr f)))))) (hi : i = nI j) (hj : j < n) (hn : n < 2 ^ 31) : hldR h kd a i = f j := by
  subst hi
  unfold hldR; rw [e]; simp [hin_nI hj hn, nI_clamp (Nat.lt_trans hj hn)]
theorem hlen_eq {h : AH} {a kd n : Nat} {x : (Nat → Int32) ⊕ (Nat → Int64) ⊕ (Nat → UInt32) ⊕ (Nat → UInt64) ⊕ (Nat → Option Nat)} (e : h.2.2 a = some (.inl (kd, n, x))) (hk : kd < 5) : hlen h a = some (nI n) := by
  unfold hlen; rw [e]; simp [hk, nI]
/-- a loop: an invariant by the round's number, an end at the latest at n -/
theorem iter_end {σ ρ : Type} {body : σ → Option (σ ⊕ ρ)} {Post : ρ → Prop} (I : Nat → σ → Prop) (n : Nat) (hs : ∀ i s, i ≤ n → I i s → (i < n ∧ ∃ s', body s = some (.inl s') ∧ I (i + 1) s') ∨ ∃ r, body s = some (.inr r) ∧ Post r) : ∀ (N i : Nat) (s : σ), I i s → i ≤ n → n - i < N → ∃ r, iter body N s = some r ∧ Post r
  | 0, _, _, _, _, h => absurd h (Nat.not_lt_zero _)
  | N + 1, i, s, hI, hi, hN => by
    rcases hs i s hi hI with ⟨h1, s', h2, h3⟩ | ⟨r, h2, h3⟩
    · obtain ⟨r, h4, h5⟩ := iter_end I n hs N (i + 1) s' h3 h1 (by omega)
      refine ⟨r, ?_, h5⟩
      unfold iter
      rw [h2]
      exact h4
    · refine ⟨r, ?_, h3⟩
      unfold iter
      rw [h2]
/-- a counted loop, its states told -/
theorem iter_seq {σ ρ : Type} {body : σ → Option (σ ⊕ ρ)} (S : Nat → σ) (n : Nat) (r : ρ) (hs : ∀ i, i < n → body (S i) = some (.inl (S (i + 1)))) (he : body (S n) = some (.inr r)) (N : Nat) (hN : n < N) : iter body N (S 0) = some r := by
  obtain ⟨r', h1, rfl⟩ := iter_end (body := body) (Post := fun r' => r' = r) (fun i s => s = S i) n (fun i s hi hI => by
    subst hI
    rcases Nat.lt_or_ge i n with h | h
    · exact Or.inl ⟨h, _, hs i h, rfl⟩
    · rw [show i = n by omega]
      exact Or.inr ⟨r, he, rfl⟩) N 0 (S 0) rfl (Nat.zero_le _) (by omega)
  exact h1
/-- what stays: the next address, the fixed ones, and every cell but those of P -/
def Keep (P : Nat → Prop) (h h' : AH) : Prop := h'.1 = h.1 ∧ h'.2.1 = h.2.1 ∧ ∀ a, ¬ P a → h'.2.2 a = h.2.2 a
theorem Keep.rf (P : Nat → Prop) (h : AH) : Keep P h h := ⟨rfl, rfl, fun _ _ => rfl⟩
theorem Keep.tr {P : Nat → Prop} {h1 h2 h3 : AH} (a : Keep P h1 h2) (b : Keep P h2 h3) : Keep P h1 h3 := ⟨b.1.trans a.1, b.2.1.trans a.2.1, fun q hq => (b.2.2 q hq).trans (a.2.2 q hq)⟩
theorem Keep.up {P : Nat → Prop} {h : AH} {a : Nat} {e : AE} (hp : P a) : Keep P h (hup h a e) := ⟨rfl, rfl, fun q hq => hup_ne (fun z => hq (by rw [z]; exact hp))⟩
theorem Keep.mono {P Q : Nat → Prop} {h h' : AH} (a : Keep P h h') (hPQ : ∀ q, P q → Q q) : Keep Q h h' := ⟨a.1, a.2.1, fun q hq => a.2.2 q (fun z => hq (hPQ q z))⟩
