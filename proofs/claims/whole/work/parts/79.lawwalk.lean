def SXp (X : MX) (b L : Nat) (xs : Nat → Int32) : Prop := match X with
  | (_, _, _, _, s, _, _, _, _, _, _, G) => va_X b L xs s s.heap ∧ b < s.heap.size ∧ ¬ ha_A G b
theorem pt_slen {X : MX} {cc : ByteArray} {nL : Nat} {own : String} {ret : Option FieldType} {rm : Room} (C : CX X cc nL own ret rm) {b L : Nat} {xs : Nat → Int32} (SX : SXp X b L xs) {cells slots pc : Nat} {lv : List (Nat × Value)} {st : List Value} {h : AH} (hd : decode cc pc = .ok (.arraylength, 1)) (k : PT X nL cells slots (pc + 1) lv (.int (Int32.ofNat L) :: st) h) : PT X nL cells slots pc lv (.ref b :: st) h := by
  obtain ⟨p, l, e, R, s, m, args, below, meth, c, Q, G⟩ := X
  obtain ⟨hx, hb, hml, hown, hts, hsf, hR, hrt, hlk⟩ := C
  intro H locs ls hh hS hl
  exact va_slen hx hb SX.1 SX.2.1 SX.2.2 hS hd (k H locs ls hh hS hl)
theorem pt_sld {X : MX} {cc : ByteArray} {nL : Nat} {own : String} {ret : Option FieldType} {rm : Room} (C : CX X cc nL own ret rm) {b L : Nat} {xs : Nat → Int32} (SX : SXp X b L xs) {cells slots pc : Nat} {lv : List (Nat × Value)} {st : List Value} {h : AH} {i : Int32} (g : vp_in i L) (hd : decode cc pc = .ok (.iaload, 1)) (k : PT X nL cells slots (pc + 1) lv (.int (xs i.toNatClampNeg) :: st) h) : PT X nL cells slots pc lv (.int i :: .ref b :: st) h := by
  obtain ⟨p, l, e, R, s, m, args, below, meth, c, Q, G⟩ := X
  obtain ⟨hx, hb, hml, hown, hts, hsf, hR, hrt, hlk⟩ := C
  intro H locs ls hh hS hl
  exact va_sld hx hb SX.1 SX.2.1 SX.2.2 hS g hd (k H locs ls hh hS hl)
theorem iter_Wn {σ ρ : Type} (P : Nat → σ → Prop) (K : ρ → Prop) (body : σ → Option (σ ⊕ ρ)) (h1 : ∀ n s s', body s = some (.inl s') → P n s' → P (n + 1) s) (h2 : ∀ n s r, body s = some (.inr r) → K r → P (n + 1) s) : ∀ (n : Nat) (s : σ) (r : ρ), iter body n s = some r → K r → P n s
  | 0, _, _, h, _ => by cases h
  | n + 1, s, r, h, k => by
    unfold iter at h
    split at h
    · next s' hs => exact h1 n s s' hs (iter_Wn P K body h1 h2 n s' r h k)
    · next r' hs => cases h; exact h2 n s _ hs k
    · cases h
set_option maxRecDepth 100000 in
set_option maxHeartbeats 4000000 in
theorem w_L_law_L18 {X : MX} (C : CX X cL_law 4 RL ret room_1) {b L : Nat} {xs : Nat → Int32} (SX : SXp X b L xs) (x m cc ss : Nat) (hcc : cc + 6 ≤ 600000) (hss : ss + 70 ≤ 7302250) (s : Int32 × AH) (res : (Int32 × AH) ⊕ AH) (hf : f_L_law_L18 x m L xs s = some res) (K0 : ∀ (u3 : Int32) (hu : AH), res = .inl (u3, hu) → PT X 4 (cc + 6) (ss + 70) 18 [(0, .ref b), (1, .ref x), (2, .ref m), (3, .int u3)] [] hu) (K1 : ∀ hu : AH, res = .inr hu → PT X 4 cc ss 1167 [] [] hu) : PT X 4 cc ss 18 [(0, .ref b), (1, .ref x), (2, .ref m), (3, .int s.1)] [] s.2 := by
  unfold f_L_law_L18 at hf
  refine pt_iload_n C 3 rfl rfl dL_law_18 ?_
  refine pt_aload_n C 0 rfl rfl dL_law_19 ?_
  refine pt_slen C SX dL_law_20 ?_
  refine pt_iconst C (v := 5) (by decide) dL_law_21 ?_
  refine pt_isub C dL_law_22 ?_
  refine pt_icmp_gt C (tgt := 1167) (by decide) dL_law_23 (fun c1 => ?_) (fun c1 => ?_)
  · rw [if_pos c1] at hf
    refine pt_sub C [] [] rfl ?_
    exact K1 _ (Option.some.inj hf).symm
  · rw [if_neg c1] at hf
    refine pt_aload_n C 0 rfl rfl dL_law_26 ?_
    refine pt_iload_n C 3 rfl rfl dL_law_27 ?_
    refine ob hf (fun _ g2 hf => ?_)
    refine pt_sld C SX (hsx_spec g2) dL_law_28 ?_
    refine pt_bipush C (v := 63) (by decide) dL_law_29 ?_
    refine pt_iand C dL_law_31 ?_
    by_cases c3 : ((xs s.1.toNatClampNeg) &&& 63) = 0
    · rw [if_pos c3] at hf
      refine pt_tabIn C (tgt := 180) (off := 148) (by rw [c3]; decide) (by rw [c3]; decide) (by rw [c3]; decide) (by decide) dL_law_32 ?_
      refine pt_aload_n C 1 rfl rfl dL_law_180 ?_
      refine pt_aload_n C 0 rfl rfl dL_law_181 ?_
      refine pt_iload_n C 3 rfl rfl dL_law_182 ?_
      refine pt_iconst C (v := 1) (by decide) dL_law_183 ?_
      refine pt_iadd C dL_law_184 ?_
      refine ob hf (fun _ g4 hf => ?_)
      refine pt_sld C SX (hsx_spec g4) dL_law_185 ?_
      refine ob hf (fun _ g7 hf => ?_)
      refine ob hf (fun q5 g6 hf => ?_)
      refine pt_callV C (As := [.int (xs (s.1 + 1).toNatClampNeg)]) (rest := []) (v := (some (.int q5.1))) (fun l => con_X11_beat l x (xs (s.1 + 1).toNatClampNeg) s.2 _ g6) tw_347 tw_344 tw_345 tw_346 kX11 g7 tw_1 yn_X11_beat ⟨by decide, Nat.le_trans (Nat.add_le_add_left (by decide) cc) hcc, Nat.le_trans (Nat.add_le_add_left (by decide) ss) hss⟩ (Nat.le_of_ble_eq_true rfl) dL_law_186 rfl ?_
      refine pt_widen C (c2 := cc + 6) (s2 := ss + 70) (Nat.add_le_add_left (by decide) cc) (Nat.add_le_add_left (by decide) ss) ?_
      show PT X 4 (cc + 6) (ss + 70) 189 [(0, .ref b), (1, .ref x), (2, .ref m), (3, .int s.1)] [.int q5.1] q5.2
      refine pt_aload_n C 2 rfl rfl dL_law_189 ?_
      refine pt_aload_n C 0 rfl rfl dL_law_190 ?_
      refine pt_iload_n C 3 rfl rfl dL_law_191 ?_
      refine pt_iconst C (v := 1) (by decide) dL_law_192 ?_
      refine pt_iadd C dL_law_193 ?_
      refine ob hf (fun _ g8 hf => ?_)
      refine pt_sld C SX (hsx_spec g8) dL_law_194 ?_
      refine ob hf (fun _ g11 hf => ?_)
      refine ob hf (fun q9 g10 hf => ?_)
      refine pt_callV C (As := [.int (xs (s.1 + 1).toNatClampNeg)]) (rest := [.int q5.1]) (v := (some (.int q9.1))) (fun l => con_X12_beat l m (xs (s.1 + 1).toNatClampNeg) q5.2 _ g10) tw_1061 tw_1058 tw_1059 tw_1060 kX12 g11 tw_13 yn_X12_beat ⟨by decide, hcc, hss⟩ (Nat.le_of_ble_eq_true rfl) dL_law_195 rfl ?_
      show PT X 4 (cc + 6) (ss + 70) 198 [(0, .ref b), (1, .ref x), (2, .ref m), (3, .int s.1)] [.int q9.1, .int q5.1] q9.2
      refine pt_icmp_eq C (tgt := 1161) (by decide) dL_law_198 (fun c12 => ?_) (fun c12 => ?_)
      · rw [if_pos c12] at hf
        refine pt_iinc C 3 [(3, .int (s.1 + 5)), (0, .ref b), (1, .ref x), (2, .ref m)] rfl (iinc_eq s.1 (by decide)) (by decide) rfl dL_law_1161 ?_
        refine pt_goto C (tgt := 18) (by decide) dL_law_1164 ?_
        refine pt_sub C [(0, .ref b), (1, .ref x), (2, .ref m), (3, .int (s.1 + 5))] [1, 2, 3, 0] rfl ?_
        exact K0 _ _ (Option.some.inj hf).symm
      · rw [if_neg c12] at hf
        cases hf
    · rw [if_neg c3] at hf
      by_cases c13 : ((xs s.1.toNatClampNeg) &&& 63) = 1
      · rw [if_pos c13] at hf
        refine pt_tabIn C (tgt := 203) (off := 171) (by rw [c13]; decide) (by rw [c13]; decide) (by rw [c13]; decide) (by decide) dL_law_32 ?_
        refine pt_aload_n C 1 rfl rfl dL_law_203 ?_
        refine ob hf (fun _ g16 hf => ?_)
        refine ob hf (fun q14 g15 hf => ?_)
        refine pt_callV C (As := []) (rest := []) (v := (some (.int q14.1))) (fun l => con_X11_rest l x s.2 _ g15) tw_355 tw_352 tw_353 tw_354 kX11 g16 tw_1 yn_X11_rest ⟨by decide, Nat.le_trans (Nat.add_le_add_left (by decide) cc) hcc, Nat.le_trans (Nat.add_le_add_left (by decide) ss) hss⟩ (Nat.le_of_ble_eq_true rfl) dL_law_204 rfl ?_
        refine pt_widen C (c2 := cc + 6) (s2 := ss + 70) (Nat.add_le_add_left (by decide) cc) (Nat.add_le_add_left (by decide) ss) ?_
        show PT X 4 (cc + 6) (ss + 70) 207 [(0, .ref b), (1, .ref x), (2, .ref m), (3, .int s.1)] [.int q14.1] q14.2
        refine pt_aload_n C 2 rfl rfl dL_law_207 ?_
        refine ob hf (fun _ g19 hf => ?_)
        refine ob hf (fun q17 g18 hf => ?_)
        refine pt_callV C (As := []) (rest := [.int q14.1]) (v := (some (.int q17.1))) (fun l => con_X12_rest l m q14.2 _ g18) tw_1069 tw_1066 tw_1067 tw_1068 kX12 g19 tw_13 yn_X12_rest ⟨by decide, hcc, hss⟩ (Nat.le_of_ble_eq_true rfl) dL_law_208 rfl ?_
        show PT X 4 (cc + 6) (ss + 70) 211 [(0, .ref b), (1, .ref x), (2, .ref m), (3, .int s.1)] [.int q17.1, .int q14.1] q17.2
        refine pt_icmp_eq C (tgt := 1161) (by decide) dL_law_211 (fun c20 => ?_) (fun c20 => ?_)
        · rw [if_pos c20] at hf
          refine pt_iinc C 3 [(3, .int (s.1 + 5)), (0, .ref b), (1, .ref x), (2, .ref m)] rfl (iinc_eq s.1 (by decide)) (by decide) rfl dL_law_1161 ?_
          refine pt_goto C (tgt := 18) (by decide) dL_law_1164 ?_
          refine pt_sub C [(0, .ref b), (1, .ref x), (2, .ref m), (3, .int (s.1 + 5))] [1, 2, 3, 0] rfl ?_
          exact K0 _ _ (Option.some.inj hf).symm
        · rw [if_neg c20] at hf
          cases hf
      · rw [if_neg c13] at hf
        by_cases c21 : ((xs s.1.toNatClampNeg) &&& 63) = 2
        · rw [if_pos c21] at hf
          refine pt_tabIn C (tgt := 216) (off := 184) (by rw [c21]; decide) (by rw [c21]; decide) (by rw [c21]; decide) (by decide) dL_law_32 ?_
          refine pt_aload_n C 1 rfl rfl dL_law_216 ?_
          refine ob hf (fun _ g24 hf => ?_)
          refine ob hf (fun q22 g23 hf => ?_)
          refine pt_callV C (As := []) (rest := []) (v := (some (.int q22.1))) (fun l => con_X11_song l x s.2 _ g23) tw_359 tw_356 tw_357 tw_358 kX11 g24 tw_1 yn_X11_song ⟨by decide, Nat.le_trans (Nat.add_le_add_left (by decide) cc) hcc, Nat.le_trans (Nat.add_le_add_left (by decide) ss) hss⟩ (Nat.le_of_ble_eq_true rfl) dL_law_217 rfl ?_
          refine pt_widen C (c2 := cc + 6) (s2 := ss + 70) (Nat.add_le_add_left (by decide) cc) (Nat.add_le_add_left (by decide) ss) ?_
          show PT X 4 (cc + 6) (ss + 70) 220 [(0, .ref b), (1, .ref x), (2, .ref m), (3, .int s.1)] [.int q22.1] q22.2
          refine pt_aload_n C 2 rfl rfl dL_law_220 ?_
          refine ob hf (fun _ g27 hf => ?_)
          refine ob hf (fun q25 g26 hf => ?_)
          refine pt_callV C (As := []) (rest := [.int q22.1]) (v := (some (.int q25.1))) (fun l => con_X12_song l m q22.2 _ g26) tw_1073 tw_1070 tw_1071 tw_1072 kX12 g27 tw_13 yn_X12_song ⟨by decide, hcc, hss⟩ (Nat.le_of_ble_eq_true rfl) dL_law_221 rfl ?_
          show PT X 4 (cc + 6) (ss + 70) 224 [(0, .ref b), (1, .ref x), (2, .ref m), (3, .int s.1)] [.int q25.1, .int q22.1] q25.2
          refine pt_icmp_eq C (tgt := 1161) (by decide) dL_law_224 (fun c28 => ?_) (fun c28 => ?_)
          · rw [if_pos c28] at hf
            refine pt_iinc C 3 [(3, .int (s.1 + 5)), (0, .ref b), (1, .ref x), (2, .ref m)] rfl (iinc_eq s.1 (by decide)) (by decide) rfl dL_law_1161 ?_
            refine pt_goto C (tgt := 18) (by decide) dL_law_1164 ?_
            refine pt_sub C [(0, .ref b), (1, .ref x), (2, .ref m), (3, .int (s.1 + 5))] [1, 2, 3, 0] rfl ?_
            exact K0 _ _ (Option.some.inj hf).symm
          · rw [if_neg c28] at hf
            cases hf
        · rw [if_neg c21] at hf
          by_cases c29 : ((xs s.1.toNatClampNeg) &&& 63) = 3
          · rw [if_pos c29] at hf
            refine pt_tabIn C (tgt := 229) (off := 197) (by rw [c29]; decide) (by rw [c29]; decide) (by rw [c29]; decide) (by decide) dL_law_32 ?_
            refine pt_aload_n C 1 rfl rfl dL_law_229 ?_
            refine pt_aload_n C 0 rfl rfl dL_law_230 ?_
            refine pt_iload_n C 3 rfl rfl dL_law_231 ?_
            refine pt_iconst C (v := 1) (by decide) dL_law_232 ?_
            refine pt_iadd C dL_law_233 ?_
            refine ob hf (fun _ g30 hf => ?_)
            refine pt_sld C SX (hsx_spec g30) dL_law_234 ?_
            refine ob hf (fun _ g33 hf => ?_)
            refine ob hf (fun q31 g32 hf => ?_)
            refine pt_callV C (As := [.int (xs (s.1 + 1).toNatClampNeg)]) (rest := []) (v := (some (.int q31.1))) (fun l => con_X11_refrain l x (xs (s.1 + 1).toNatClampNeg) s.2 _ g32) tw_454 tw_451 tw_452 tw_453 kX11 g33 tw_1 yn_X11_refrain ⟨by decide, Nat.le_trans (Nat.add_le_add_left (by decide) cc) hcc, Nat.le_trans (Nat.add_le_add_left (by decide) ss) hss⟩ (Nat.le_of_ble_eq_true rfl) dL_law_235 rfl ?_
            refine pt_widen C (c2 := cc + 6) (s2 := ss + 70) (Nat.add_le_add_left (by decide) cc) (Nat.add_le_add_left (by decide) ss) ?_
            show PT X 4 (cc + 6) (ss + 70) 238 [(0, .ref b), (1, .ref x), (2, .ref m), (3, .int s.1)] [.int q31.1] q31.2
            refine pt_aload_n C 2 rfl rfl dL_law_238 ?_
            refine pt_aload_n C 0 rfl rfl dL_law_239 ?_
            refine pt_iload_n C 3 rfl rfl dL_law_240 ?_
            refine pt_iconst C (v := 1) (by decide) dL_law_241 ?_
            refine pt_iadd C dL_law_242 ?_
            refine ob hf (fun _ g34 hf => ?_)
            refine pt_sld C SX (hsx_spec g34) dL_law_243 ?_
            refine ob hf (fun _ g37 hf => ?_)
            refine ob hf (fun q35 g36 hf => ?_)
            refine pt_callV C (As := [.int (xs (s.1 + 1).toNatClampNeg)]) (rest := [.int q31.1]) (v := (some (.int q35.1))) (fun l => con_X12_refrain l m (xs (s.1 + 1).toNatClampNeg) q31.2 _ g36) tw_1077 tw_1074 tw_1075 tw_1076 kX12 g37 tw_13 yn_X12_refrain ⟨by decide, hcc, hss⟩ (Nat.le_of_ble_eq_true rfl) dL_law_244 rfl ?_
            show PT X 4 (cc + 6) (ss + 70) 247 [(0, .ref b), (1, .ref x), (2, .ref m), (3, .int s.1)] [.int q35.1, .int q31.1] q35.2
            refine pt_icmp_eq C (tgt := 1161) (by decide) dL_law_247 (fun c38 => ?_) (fun c38 => ?_)
            · rw [if_pos c38] at hf
              refine pt_iinc C 3 [(3, .int (s.1 + 5)), (0, .ref b), (1, .ref x), (2, .ref m)] rfl (iinc_eq s.1 (by decide)) (by decide) rfl dL_law_1161 ?_
              refine pt_goto C (tgt := 18) (by decide) dL_law_1164 ?_
              refine pt_sub C [(0, .ref b), (1, .ref x), (2, .ref m), (3, .int (s.1 + 5))] [1, 2, 3, 0] rfl ?_
              exact K0 _ _ (Option.some.inj hf).symm
            · rw [if_neg c38] at hf
              cases hf
          · rw [if_neg c29] at hf
            by_cases c39 : ((xs s.1.toNatClampNeg) &&& 63) = 4
            · rw [if_pos c39] at hf
              refine pt_tabIn C (tgt := 252) (off := 220) (by rw [c39]; decide) (by rw [c39]; decide) (by rw [c39]; decide) (by decide) dL_law_32 ?_
              refine pt_aload_n C 1 rfl rfl dL_law_252 ?_
              refine pt_aload_n C 0 rfl rfl dL_law_253 ?_
              refine pt_iload_n C 3 rfl rfl dL_law_254 ?_
              refine pt_iconst C (v := 1) (by decide) dL_law_255 ?_
              refine pt_iadd C dL_law_256 ?_
              refine ob hf (fun _ g40 hf => ?_)
              refine pt_sld C SX (hsx_spec g40) dL_law_257 ?_
              refine pt_aload_n C 0 rfl rfl dL_law_258 ?_
              refine pt_iload_n C 3 rfl rfl dL_law_259 ?_
              refine pt_iconst C (v := 2) (by decide) dL_law_260 ?_
              refine pt_iadd C dL_law_261 ?_
              refine ob hf (fun _ g41 hf => ?_)
              refine pt_sld C SX (hsx_spec g41) dL_law_262 ?_
              refine ob hf (fun _ g44 hf => ?_)
              refine ob hf (fun q42 g43 hf => ?_)
              refine pt_callV C (As := [.int (xs (s.1 + 1).toNatClampNeg), .int (xs (s.1 + 2).toNatClampNeg)]) (rest := []) (v := (some (.int q42.1))) (fun l => con_X11_beatAt l x (xs (s.1 + 1).toNatClampNeg) (xs (s.1 + 2).toNatClampNeg) s.2 _ g43) tw_479 tw_476 tw_477 tw_478 kX11 g44 tw_1 yn_X11_beatAt ⟨by decide, Nat.le_trans (Nat.add_le_add_left (by decide) cc) hcc, Nat.le_trans (Nat.add_le_add_left (by decide) ss) hss⟩ (Nat.le_of_ble_eq_true rfl) dL_law_263 rfl ?_
              refine pt_widen C (c2 := cc + 6) (s2 := ss + 70) (Nat.add_le_add_left (by decide) cc) (Nat.add_le_add_left (by decide) ss) ?_
              show PT X 4 (cc + 6) (ss + 70) 266 [(0, .ref b), (1, .ref x), (2, .ref m), (3, .int s.1)] [.int q42.1] q42.2
              refine pt_aload_n C 2 rfl rfl dL_law_266 ?_
              refine pt_aload_n C 0 rfl rfl dL_law_267 ?_
              refine pt_iload_n C 3 rfl rfl dL_law_268 ?_
              refine pt_iconst C (v := 1) (by decide) dL_law_269 ?_
              refine pt_iadd C dL_law_270 ?_
              refine ob hf (fun _ g45 hf => ?_)
              refine pt_sld C SX (hsx_spec g45) dL_law_271 ?_
              refine pt_aload_n C 0 rfl rfl dL_law_272 ?_
              refine pt_iload_n C 3 rfl rfl dL_law_273 ?_
              refine pt_iconst C (v := 2) (by decide) dL_law_274 ?_
              refine pt_iadd C dL_law_275 ?_
              refine ob hf (fun _ g46 hf => ?_)
              refine pt_sld C SX (hsx_spec g46) dL_law_276 ?_
              refine ob hf (fun _ g49 hf => ?_)
              refine ob hf (fun q47 g48 hf => ?_)
              refine pt_callV C (As := [.int (xs (s.1 + 1).toNatClampNeg), .int (xs (s.1 + 2).toNatClampNeg)]) (rest := [.int q42.1]) (v := (some (.int q47.1))) (fun l => con_X12_beatAt l m (xs (s.1 + 1).toNatClampNeg) (xs (s.1 + 2).toNatClampNeg) q42.2 _ g48) tw_1085 tw_1082 tw_1083 tw_1084 kX12 g49 tw_13 yn_X12_beatAt ⟨by decide, hcc, hss⟩ (Nat.le_of_ble_eq_true rfl) dL_law_277 rfl ?_
              show PT X 4 (cc + 6) (ss + 70) 280 [(0, .ref b), (1, .ref x), (2, .ref m), (3, .int s.1)] [.int q47.1, .int q42.1] q47.2
              refine pt_icmp_eq C (tgt := 1161) (by decide) dL_law_280 (fun c50 => ?_) (fun c50 => ?_)
              · rw [if_pos c50] at hf
                refine pt_iinc C 3 [(3, .int (s.1 + 5)), (0, .ref b), (1, .ref x), (2, .ref m)] rfl (iinc_eq s.1 (by decide)) (by decide) rfl dL_law_1161 ?_
                refine pt_goto C (tgt := 18) (by decide) dL_law_1164 ?_
                refine pt_sub C [(0, .ref b), (1, .ref x), (2, .ref m), (3, .int (s.1 + 5))] [1, 2, 3, 0] rfl ?_
                exact K0 _ _ (Option.some.inj hf).symm
              · rw [if_neg c50] at hf
                cases hf
            · rw [if_neg c39] at hf
              by_cases c51 : ((xs s.1.toNatClampNeg) &&& 63) = 5
              · rw [if_pos c51] at hf
                refine pt_tabIn C (tgt := 285) (off := 253) (by rw [c51]; decide) (by rw [c51]; decide) (by rw [c51]; decide) (by decide) dL_law_32 ?_
                refine pt_aload_n C 1 rfl rfl dL_law_285 ?_
                refine pt_aload_n C 0 rfl rfl dL_law_286 ?_
                refine pt_iload_n C 3 rfl rfl dL_law_287 ?_
                refine pt_iconst C (v := 1) (by decide) dL_law_288 ?_
                refine pt_iadd C dL_law_289 ?_
                refine ob hf (fun _ g52 hf => ?_)
                refine pt_sld C SX (hsx_spec g52) dL_law_290 ?_
                refine pt_aload_n C 0 rfl rfl dL_law_291 ?_
                refine pt_iload_n C 3 rfl rfl dL_law_292 ?_
                refine pt_iconst C (v := 2) (by decide) dL_law_293 ?_
                refine pt_iadd C dL_law_294 ?_
                refine ob hf (fun _ g53 hf => ?_)
                refine pt_sld C SX (hsx_spec g53) dL_law_295 ?_
                refine pt_aload_n C 0 rfl rfl dL_law_296 ?_
                refine pt_iload_n C 3 rfl rfl dL_law_297 ?_
                refine pt_iconst C (v := 3) (by decide) dL_law_298 ?_
                refine pt_iadd C dL_law_299 ?_
                refine ob hf (fun _ g54 hf => ?_)
                refine pt_sld C SX (hsx_spec g54) dL_law_300 ?_
                refine pt_aload_n C 0 rfl rfl dL_law_301 ?_
                refine pt_iload_n C 3 rfl rfl dL_law_302 ?_
                refine pt_iconst C (v := 4) (by decide) dL_law_303 ?_
                refine pt_iadd C dL_law_304 ?_
                refine ob hf (fun _ g55 hf => ?_)
                refine pt_sld C SX (hsx_spec g55) dL_law_305 ?_
                refine ob hf (fun _ g58 hf => ?_)
                refine ob hf (fun q56 g57 hf => ?_)
                refine pt_callV C (As := [.int (xs (s.1 + 1).toNatClampNeg), .int (xs (s.1 + 2).toNatClampNeg), .int (xs (s.1 + 3).toNatClampNeg), .int (xs (s.1 + 4).toNatClampNeg)]) (rest := []) (v := (some (.int q56.1))) (fun l => con_X11_hand l x (xs (s.1 + 1).toNatClampNeg) (xs (s.1 + 2).toNatClampNeg) (xs (s.1 + 3).toNatClampNeg) (xs (s.1 + 4).toNatClampNeg) s.2 _ g57) tw_487 tw_484 tw_485 tw_486 kX11 g58 tw_1 yn_X11_hand ⟨by decide, Nat.le_trans (Nat.add_le_add_left (by decide) cc) hcc, Nat.le_trans (Nat.add_le_add_left (by decide) ss) hss⟩ (Nat.le_of_ble_eq_true rfl) dL_law_306 rfl ?_
                refine pt_widen C (c2 := cc + 6) (s2 := ss + 70) (Nat.add_le_add_left (by decide) cc) (Nat.add_le_add_left (by decide) ss) ?_
                show PT X 4 (cc + 6) (ss + 70) 309 [(0, .ref b), (1, .ref x), (2, .ref m), (3, .int s.1)] [.int q56.1] q56.2
                refine pt_aload_n C 2 rfl rfl dL_law_309 ?_
                refine pt_aload_n C 0 rfl rfl dL_law_310 ?_
                refine pt_iload_n C 3 rfl rfl dL_law_311 ?_
                refine pt_iconst C (v := 1) (by decide) dL_law_312 ?_
                refine pt_iadd C dL_law_313 ?_
                refine ob hf (fun _ g59 hf => ?_)
                refine pt_sld C SX (hsx_spec g59) dL_law_314 ?_
                refine pt_aload_n C 0 rfl rfl dL_law_315 ?_
                refine pt_iload_n C 3 rfl rfl dL_law_316 ?_
                refine pt_iconst C (v := 2) (by decide) dL_law_317 ?_
                refine pt_iadd C dL_law_318 ?_
                refine ob hf (fun _ g60 hf => ?_)
                refine pt_sld C SX (hsx_spec g60) dL_law_319 ?_
                refine pt_aload_n C 0 rfl rfl dL_law_320 ?_
                refine pt_iload_n C 3 rfl rfl dL_law_321 ?_
                refine pt_iconst C (v := 3) (by decide) dL_law_322 ?_
                refine pt_iadd C dL_law_323 ?_
                refine ob hf (fun _ g61 hf => ?_)
                refine pt_sld C SX (hsx_spec g61) dL_law_324 ?_
                refine pt_aload_n C 0 rfl rfl dL_law_325 ?_
                refine pt_iload_n C 3 rfl rfl dL_law_326 ?_
                refine pt_iconst C (v := 4) (by decide) dL_law_327 ?_
                refine pt_iadd C dL_law_328 ?_
                refine ob hf (fun _ g62 hf => ?_)
                refine pt_sld C SX (hsx_spec g62) dL_law_329 ?_
                refine ob hf (fun _ g65 hf => ?_)
                refine ob hf (fun q63 g64 hf => ?_)
                refine pt_callV C (As := [.int (xs (s.1 + 1).toNatClampNeg), .int (xs (s.1 + 2).toNatClampNeg), .int (xs (s.1 + 3).toNatClampNeg), .int (xs (s.1 + 4).toNatClampNeg)]) (rest := [.int q56.1]) (v := (some (.int q63.1))) (fun l => con_X12_hand l m (xs (s.1 + 1).toNatClampNeg) (xs (s.1 + 2).toNatClampNeg) (xs (s.1 + 3).toNatClampNeg) (xs (s.1 + 4).toNatClampNeg) q56.2 _ g64) tw_1094 tw_1091 tw_1092 tw_1093 kX12 g65 tw_13 yn_X12_hand ⟨by decide, hcc, hss⟩ (Nat.le_of_ble_eq_true rfl) dL_law_330 rfl ?_
                show PT X 4 (cc + 6) (ss + 70) 333 [(0, .ref b), (1, .ref x), (2, .ref m), (3, .int s.1)] [.int q63.1, .int q56.1] q63.2
                refine pt_icmp_eq C (tgt := 1161) (by decide) dL_law_333 (fun c66 => ?_) (fun c66 => ?_)
                · rw [if_pos c66] at hf
                  refine pt_iinc C 3 [(3, .int (s.1 + 5)), (0, .ref b), (1, .ref x), (2, .ref m)] rfl (iinc_eq s.1 (by decide)) (by decide) rfl dL_law_1161 ?_
                  refine pt_goto C (tgt := 18) (by decide) dL_law_1164 ?_
                  refine pt_sub C [(0, .ref b), (1, .ref x), (2, .ref m), (3, .int (s.1 + 5))] [1, 2, 3, 0] rfl ?_
                  exact K0 _ _ (Option.some.inj hf).symm
                · rw [if_neg c66] at hf
                  cases hf
              · rw [if_neg c51] at hf
                by_cases c67 : ((xs s.1.toNatClampNeg) &&& 63) = 6
                · rw [if_pos c67] at hf
                  refine pt_tabIn C (tgt := 338) (off := 306) (by rw [c67]; decide) (by rw [c67]; decide) (by rw [c67]; decide) (by decide) dL_law_32 ?_
                  refine pt_aload_n C 1 rfl rfl dL_law_338 ?_
                  refine pt_aload_n C 0 rfl rfl dL_law_339 ?_
                  refine pt_iload_n C 3 rfl rfl dL_law_340 ?_
                  refine pt_iconst C (v := 1) (by decide) dL_law_341 ?_
                  refine pt_iadd C dL_law_342 ?_
                  refine ob hf (fun _ g68 hf => ?_)
                  refine pt_sld C SX (hsx_spec g68) dL_law_343 ?_
                  refine pt_aload_n C 0 rfl rfl dL_law_344 ?_
                  refine pt_iload_n C 3 rfl rfl dL_law_345 ?_
                  refine pt_iconst C (v := 2) (by decide) dL_law_346 ?_
                  refine pt_iadd C dL_law_347 ?_
                  refine ob hf (fun _ g69 hf => ?_)
                  refine pt_sld C SX (hsx_spec g69) dL_law_348 ?_
                  refine ob hf (fun _ g72 hf => ?_)
                  refine ob hf (fun q70 g71 hf => ?_)
                  refine pt_callV C (As := [.int (xs (s.1 + 1).toNatClampNeg), .int (xs (s.1 + 2).toNatClampNeg)]) (rest := []) (v := (some (.int q70.1))) (fun l => con_X11_late l x (xs (s.1 + 1).toNatClampNeg) (xs (s.1 + 2).toNatClampNeg) s.2 _ g71) tw_495 tw_492 tw_493 tw_494 kX11 g72 tw_1 yn_X11_late ⟨by decide, Nat.le_trans (Nat.add_le_add_left (by decide) cc) hcc, Nat.le_trans (Nat.add_le_add_left (by decide) ss) hss⟩ (Nat.le_of_ble_eq_true rfl) dL_law_349 rfl ?_
                  refine pt_widen C (c2 := cc + 6) (s2 := ss + 70) (Nat.add_le_add_left (by decide) cc) (Nat.add_le_add_left (by decide) ss) ?_
                  show PT X 4 (cc + 6) (ss + 70) 352 [(0, .ref b), (1, .ref x), (2, .ref m), (3, .int s.1)] [.int q70.1] q70.2
                  refine pt_aload_n C 2 rfl rfl dL_law_352 ?_
                  refine pt_aload_n C 0 rfl rfl dL_law_353 ?_
                  refine pt_iload_n C 3 rfl rfl dL_law_354 ?_
                  refine pt_iconst C (v := 1) (by decide) dL_law_355 ?_
                  refine pt_iadd C dL_law_356 ?_
                  refine ob hf (fun _ g73 hf => ?_)
                  refine pt_sld C SX (hsx_spec g73) dL_law_357 ?_
                  refine pt_aload_n C 0 rfl rfl dL_law_358 ?_
                  refine pt_iload_n C 3 rfl rfl dL_law_359 ?_
                  refine pt_iconst C (v := 2) (by decide) dL_law_360 ?_
                  refine pt_iadd C dL_law_361 ?_
                  refine ob hf (fun _ g74 hf => ?_)
                  refine pt_sld C SX (hsx_spec g74) dL_law_362 ?_
                  refine ob hf (fun _ g77 hf => ?_)
                  refine ob hf (fun q75 g76 hf => ?_)
                  refine pt_callV C (As := [.int (xs (s.1 + 1).toNatClampNeg), .int (xs (s.1 + 2).toNatClampNeg)]) (rest := [.int q70.1]) (v := (some (.int q75.1))) (fun l => con_X12_late l m (xs (s.1 + 1).toNatClampNeg) (xs (s.1 + 2).toNatClampNeg) q70.2 _ g76) tw_1100 tw_1097 tw_1098 tw_1099 kX12 g77 tw_13 yn_X12_late ⟨by decide, hcc, hss⟩ (Nat.le_of_ble_eq_true rfl) dL_law_363 rfl ?_
                  show PT X 4 (cc + 6) (ss + 70) 366 [(0, .ref b), (1, .ref x), (2, .ref m), (3, .int s.1)] [.int q75.1, .int q70.1] q75.2
                  refine pt_icmp_eq C (tgt := 1161) (by decide) dL_law_366 (fun c78 => ?_) (fun c78 => ?_)
                  · rw [if_pos c78] at hf
                    refine pt_iinc C 3 [(3, .int (s.1 + 5)), (0, .ref b), (1, .ref x), (2, .ref m)] rfl (iinc_eq s.1 (by decide)) (by decide) rfl dL_law_1161 ?_
                    refine pt_goto C (tgt := 18) (by decide) dL_law_1164 ?_
                    refine pt_sub C [(0, .ref b), (1, .ref x), (2, .ref m), (3, .int (s.1 + 5))] [1, 2, 3, 0] rfl ?_
                    exact K0 _ _ (Option.some.inj hf).symm
                  · rw [if_neg c78] at hf
                    cases hf
                · rw [if_neg c67] at hf
                  by_cases c79 : ((xs s.1.toNatClampNeg) &&& 63) = 7
                  · rw [if_pos c79] at hf
                    refine pt_tabIn C (tgt := 371) (off := 339) (by rw [c79]; decide) (by rw [c79]; decide) (by rw [c79]; decide) (by decide) dL_law_32 ?_
                    refine pt_aload_n C 1 rfl rfl dL_law_371 ?_
                    refine pt_aload_n C 0 rfl rfl dL_law_372 ?_
                    refine pt_iload_n C 3 rfl rfl dL_law_373 ?_
                    refine pt_iconst C (v := 1) (by decide) dL_law_374 ?_
                    refine pt_iadd C dL_law_375 ?_
                    refine ob hf (fun _ g80 hf => ?_)
                    refine pt_sld C SX (hsx_spec g80) dL_law_376 ?_
                    refine ob hf (fun _ g83 hf => ?_)
                    refine ob hf (fun q81 g82 hf => ?_)
                    refine pt_callV C (As := [.int (xs (s.1 + 1).toNatClampNeg)]) (rest := []) (v := (some (.int q81.1))) (fun l => con_X11_crew l x (xs (s.1 + 1).toNatClampNeg) s.2 _ g82) tw_504 tw_501 tw_502 tw_503 kX11 g83 tw_1 yn_X11_crew ⟨by decide, Nat.le_trans (Nat.add_le_add_left (by decide) cc) hcc, Nat.le_trans (Nat.add_le_add_left (by decide) ss) hss⟩ (Nat.le_of_ble_eq_true rfl) dL_law_377 rfl ?_
                    refine pt_widen C (c2 := cc + 6) (s2 := ss + 70) (Nat.add_le_add_left (by decide) cc) (Nat.add_le_add_left (by decide) ss) ?_
                    show PT X 4 (cc + 6) (ss + 70) 380 [(0, .ref b), (1, .ref x), (2, .ref m), (3, .int s.1)] [.int q81.1] q81.2
                    refine pt_aload_n C 2 rfl rfl dL_law_380 ?_
                    refine pt_aload_n C 0 rfl rfl dL_law_381 ?_
                    refine pt_iload_n C 3 rfl rfl dL_law_382 ?_
                    refine pt_iconst C (v := 1) (by decide) dL_law_383 ?_
                    refine pt_iadd C dL_law_384 ?_
                    refine ob hf (fun _ g84 hf => ?_)
                    refine pt_sld C SX (hsx_spec g84) dL_law_385 ?_
                    refine ob hf (fun _ g87 hf => ?_)
                    refine ob hf (fun q85 g86 hf => ?_)
                    refine pt_callV C (As := [.int (xs (s.1 + 1).toNatClampNeg)]) (rest := [.int q81.1]) (v := (some (.int q85.1))) (fun l => con_X12_crew l m (xs (s.1 + 1).toNatClampNeg) q81.2 _ g86) tw_1108 tw_1105 tw_1106 tw_1107 kX12 g87 tw_13 yn_X12_crew ⟨by decide, hcc, hss⟩ (Nat.le_of_ble_eq_true rfl) dL_law_386 rfl ?_
                    show PT X 4 (cc + 6) (ss + 70) 389 [(0, .ref b), (1, .ref x), (2, .ref m), (3, .int s.1)] [.int q85.1, .int q81.1] q85.2
                    refine pt_icmp_eq C (tgt := 1161) (by decide) dL_law_389 (fun c88 => ?_) (fun c88 => ?_)
                    · rw [if_pos c88] at hf
                      refine pt_iinc C 3 [(3, .int (s.1 + 5)), (0, .ref b), (1, .ref x), (2, .ref m)] rfl (iinc_eq s.1 (by decide)) (by decide) rfl dL_law_1161 ?_
                      refine pt_goto C (tgt := 18) (by decide) dL_law_1164 ?_
                      refine pt_sub C [(0, .ref b), (1, .ref x), (2, .ref m), (3, .int (s.1 + 5))] [1, 2, 3, 0] rfl ?_
                      exact K0 _ _ (Option.some.inj hf).symm
                    · rw [if_neg c88] at hf
                      cases hf
                  · rw [if_neg c79] at hf
                    by_cases c89 : ((xs s.1.toNatClampNeg) &&& 63) = 8
                    · rw [if_pos c89] at hf
                      refine pt_tabIn C (tgt := 394) (off := 362) (by rw [c89]; decide) (by rw [c89]; decide) (by rw [c89]; decide) (by decide) dL_law_32 ?_
                      refine pt_aload_n C 1 rfl rfl dL_law_394 ?_
                      refine pt_aload_n C 0 rfl rfl dL_law_395 ?_
                      refine pt_iload_n C 3 rfl rfl dL_law_396 ?_
                      refine pt_iconst C (v := 1) (by decide) dL_law_397 ?_
                      refine pt_iadd C dL_law_398 ?_
                      refine ob hf (fun _ g90 hf => ?_)
                      refine pt_sld C SX (hsx_spec g90) dL_law_399 ?_
                      refine ob hf (fun _ g93 hf => ?_)
                      refine ob hf (fun q91 g92 hf => ?_)
                      refine pt_callV C (As := [.int (xs (s.1 + 1).toNatClampNeg)]) (rest := []) (v := (some (.int q91.1))) (fun l => con_X11_floor l x (xs (s.1 + 1).toNatClampNeg) s.2 _ g92) tw_512 tw_509 tw_510 tw_511 kX11 g93 tw_1 yn_X11_floor ⟨by decide, Nat.le_trans (Nat.add_le_add_left (by decide) cc) hcc, Nat.le_trans (Nat.add_le_add_left (by decide) ss) hss⟩ (Nat.le_of_ble_eq_true rfl) dL_law_400 rfl ?_
                      refine pt_widen C (c2 := cc + 6) (s2 := ss + 70) (Nat.add_le_add_left (by decide) cc) (Nat.add_le_add_left (by decide) ss) ?_
                      show PT X 4 (cc + 6) (ss + 70) 403 [(0, .ref b), (1, .ref x), (2, .ref m), (3, .int s.1)] [.int q91.1] q91.2
                      refine pt_aload_n C 2 rfl rfl dL_law_403 ?_
                      refine pt_aload_n C 0 rfl rfl dL_law_404 ?_
                      refine pt_iload_n C 3 rfl rfl dL_law_405 ?_
                      refine pt_iconst C (v := 1) (by decide) dL_law_406 ?_
                      refine pt_iadd C dL_law_407 ?_
                      refine ob hf (fun _ g94 hf => ?_)
                      refine pt_sld C SX (hsx_spec g94) dL_law_408 ?_
                      refine ob hf (fun _ g97 hf => ?_)
                      refine ob hf (fun q95 g96 hf => ?_)
                      refine pt_callV C (As := [.int (xs (s.1 + 1).toNatClampNeg)]) (rest := [.int q91.1]) (v := (some (.int q95.1))) (fun l => con_X12_floor l m (xs (s.1 + 1).toNatClampNeg) q91.2 _ g96) tw_1112 tw_1109 tw_1110 tw_1111 kX12 g97 tw_13 yn_X12_floor ⟨by decide, hcc, hss⟩ (Nat.le_of_ble_eq_true rfl) dL_law_409 rfl ?_
                      show PT X 4 (cc + 6) (ss + 70) 412 [(0, .ref b), (1, .ref x), (2, .ref m), (3, .int s.1)] [.int q95.1, .int q91.1] q95.2
                      refine pt_icmp_eq C (tgt := 1161) (by decide) dL_law_412 (fun c98 => ?_) (fun c98 => ?_)
                      · rw [if_pos c98] at hf
                        refine pt_iinc C 3 [(3, .int (s.1 + 5)), (0, .ref b), (1, .ref x), (2, .ref m)] rfl (iinc_eq s.1 (by decide)) (by decide) rfl dL_law_1161 ?_
                        refine pt_goto C (tgt := 18) (by decide) dL_law_1164 ?_
                        refine pt_sub C [(0, .ref b), (1, .ref x), (2, .ref m), (3, .int (s.1 + 5))] [1, 2, 3, 0] rfl ?_
                        exact K0 _ _ (Option.some.inj hf).symm
                      · rw [if_neg c98] at hf
                        cases hf
                    · rw [if_neg c89] at hf
                      by_cases c99 : ((xs s.1.toNatClampNeg) &&& 63) = 9
                      · rw [if_pos c99] at hf
                        refine pt_tabIn C (tgt := 417) (off := 385) (by rw [c99]; decide) (by rw [c99]; decide) (by rw [c99]; decide) (by decide) dL_law_32 ?_
                        refine pt_aload_n C 1 rfl rfl dL_law_417 ?_
                        refine pt_aload_n C 0 rfl rfl dL_law_418 ?_
                        refine pt_iload_n C 3 rfl rfl dL_law_419 ?_
                        refine pt_iconst C (v := 1) (by decide) dL_law_420 ?_
                        refine pt_iadd C dL_law_421 ?_
                        refine ob hf (fun _ g100 hf => ?_)
                        refine pt_sld C SX (hsx_spec g100) dL_law_422 ?_
                        refine ob hf (fun _ g103 hf => ?_)
                        refine ob hf (fun q101 g102 hf => ?_)
                        refine pt_callV C (As := [.int (xs (s.1 + 1).toNatClampNeg)]) (rest := []) (v := (some (.int q101.1))) (fun l => con_X11_now l x (xs (s.1 + 1).toNatClampNeg) s.2 _ g102) tw_516 tw_513 tw_514 tw_515 kX11 g103 tw_1 yn_X11_now ⟨by decide, Nat.le_trans (Nat.add_le_add_left (by decide) cc) hcc, Nat.le_trans (Nat.add_le_add_left (by decide) ss) hss⟩ (Nat.le_of_ble_eq_true rfl) dL_law_423 rfl ?_
                        refine pt_widen C (c2 := cc + 6) (s2 := ss + 70) (Nat.add_le_add_left (by decide) cc) (Nat.add_le_add_left (by decide) ss) ?_
                        show PT X 4 (cc + 6) (ss + 70) 426 [(0, .ref b), (1, .ref x), (2, .ref m), (3, .int s.1)] [.int q101.1] q101.2
                        refine pt_aload_n C 2 rfl rfl dL_law_426 ?_
                        refine pt_aload_n C 0 rfl rfl dL_law_427 ?_
                        refine pt_iload_n C 3 rfl rfl dL_law_428 ?_
                        refine pt_iconst C (v := 1) (by decide) dL_law_429 ?_
                        refine pt_iadd C dL_law_430 ?_
                        refine ob hf (fun _ g104 hf => ?_)
                        refine pt_sld C SX (hsx_spec g104) dL_law_431 ?_
                        refine ob hf (fun _ g107 hf => ?_)
                        refine ob hf (fun q105 g106 hf => ?_)
                        refine pt_callV C (As := [.int (xs (s.1 + 1).toNatClampNeg)]) (rest := [.int q101.1]) (v := (some (.int q105.1))) (fun l => con_X12_now l m (xs (s.1 + 1).toNatClampNeg) q101.2 _ g106) tw_1116 tw_1113 tw_1114 tw_1115 kX12 g107 tw_13 yn_X12_now ⟨by decide, hcc, hss⟩ (Nat.le_of_ble_eq_true rfl) dL_law_432 rfl ?_
                        show PT X 4 (cc + 6) (ss + 70) 435 [(0, .ref b), (1, .ref x), (2, .ref m), (3, .int s.1)] [.int q105.1, .int q101.1] q105.2
                        refine pt_icmp_eq C (tgt := 1161) (by decide) dL_law_435 (fun c108 => ?_) (fun c108 => ?_)
                        · rw [if_pos c108] at hf
                          refine pt_iinc C 3 [(3, .int (s.1 + 5)), (0, .ref b), (1, .ref x), (2, .ref m)] rfl (iinc_eq s.1 (by decide)) (by decide) rfl dL_law_1161 ?_
                          refine pt_goto C (tgt := 18) (by decide) dL_law_1164 ?_
                          refine pt_sub C [(0, .ref b), (1, .ref x), (2, .ref m), (3, .int (s.1 + 5))] [1, 2, 3, 0] rfl ?_
                          exact K0 _ _ (Option.some.inj hf).symm
                        · rw [if_neg c108] at hf
                          cases hf
                      · rw [if_neg c99] at hf
                        by_cases c109 : ((xs s.1.toNatClampNeg) &&& 63) = 10
                        · rw [if_pos c109] at hf
                          refine pt_tabIn C (tgt := 440) (off := 408) (by rw [c109]; decide) (by rw [c109]; decide) (by rw [c109]; decide) (by decide) dL_law_32 ?_
                          refine pt_aload_n C 1 rfl rfl dL_law_440 ?_
                          refine pt_aload_n C 0 rfl rfl dL_law_441 ?_
                          refine pt_iload_n C 3 rfl rfl dL_law_442 ?_
                          refine pt_iconst C (v := 1) (by decide) dL_law_443 ?_
                          refine pt_iadd C dL_law_444 ?_
                          refine ob hf (fun _ g110 hf => ?_)
                          refine pt_sld C SX (hsx_spec g110) dL_law_445 ?_
                          refine ob hf (fun _ g113 hf => ?_)
                          refine ob hf (fun q111 g112 hf => ?_)
                          refine pt_callV C (As := [.int (xs (s.1 + 1).toNatClampNeg)]) (rest := []) (v := (some (.int q111.1))) (fun l => con_X11_pause l x (xs (s.1 + 1).toNatClampNeg) s.2 _ g112) tw_520 tw_517 tw_518 tw_519 kX11 g113 tw_1 yn_X11_pause ⟨by decide, Nat.le_trans (Nat.add_le_add_left (by decide) cc) hcc, Nat.le_trans (Nat.add_le_add_left (by decide) ss) hss⟩ (Nat.le_of_ble_eq_true rfl) dL_law_446 rfl ?_
                          refine pt_widen C (c2 := cc + 6) (s2 := ss + 70) (Nat.add_le_add_left (by decide) cc) (Nat.add_le_add_left (by decide) ss) ?_
                          show PT X 4 (cc + 6) (ss + 70) 449 [(0, .ref b), (1, .ref x), (2, .ref m), (3, .int s.1)] [.int q111.1] q111.2
                          refine pt_aload_n C 2 rfl rfl dL_law_449 ?_
                          refine pt_aload_n C 0 rfl rfl dL_law_450 ?_
                          refine pt_iload_n C 3 rfl rfl dL_law_451 ?_
                          refine pt_iconst C (v := 1) (by decide) dL_law_452 ?_
                          refine pt_iadd C dL_law_453 ?_
                          refine ob hf (fun _ g114 hf => ?_)
                          refine pt_sld C SX (hsx_spec g114) dL_law_454 ?_
                          refine ob hf (fun _ g117 hf => ?_)
                          refine ob hf (fun q115 g116 hf => ?_)
                          refine pt_callV C (As := [.int (xs (s.1 + 1).toNatClampNeg)]) (rest := [.int q111.1]) (v := (some (.int q115.1))) (fun l => con_X12_pause l m (xs (s.1 + 1).toNatClampNeg) q111.2 _ g116) tw_1120 tw_1117 tw_1118 tw_1119 kX12 g117 tw_13 yn_X12_pause ⟨by decide, hcc, hss⟩ (Nat.le_of_ble_eq_true rfl) dL_law_455 rfl ?_
                          show PT X 4 (cc + 6) (ss + 70) 458 [(0, .ref b), (1, .ref x), (2, .ref m), (3, .int s.1)] [.int q115.1, .int q111.1] q115.2
                          refine pt_icmp_eq C (tgt := 1161) (by decide) dL_law_458 (fun c118 => ?_) (fun c118 => ?_)
                          · rw [if_pos c118] at hf
                            refine pt_iinc C 3 [(3, .int (s.1 + 5)), (0, .ref b), (1, .ref x), (2, .ref m)] rfl (iinc_eq s.1 (by decide)) (by decide) rfl dL_law_1161 ?_
                            refine pt_goto C (tgt := 18) (by decide) dL_law_1164 ?_
                            refine pt_sub C [(0, .ref b), (1, .ref x), (2, .ref m), (3, .int (s.1 + 5))] [1, 2, 3, 0] rfl ?_
                            exact K0 _ _ (Option.some.inj hf).symm
                          · rw [if_neg c118] at hf
                            cases hf
                        · rw [if_neg c109] at hf
                          by_cases c119 : ((xs s.1.toNatClampNeg) &&& 63) = 11
                          · rw [if_pos c119] at hf
                            refine pt_tabIn C (tgt := 463) (off := 431) (by rw [c119]; decide) (by rw [c119]; decide) (by rw [c119]; decide) (by decide) dL_law_32 ?_
                            refine pt_aload_n C 1 rfl rfl dL_law_463 ?_
                            refine pt_aload_n C 0 rfl rfl dL_law_464 ?_
                            refine pt_iload_n C 3 rfl rfl dL_law_465 ?_
                            refine pt_iconst C (v := 1) (by decide) dL_law_466 ?_
                            refine pt_iadd C dL_law_467 ?_
                            refine ob hf (fun _ g120 hf => ?_)
                            refine pt_sld C SX (hsx_spec g120) dL_law_468 ?_
                            refine pt_aload_n C 0 rfl rfl dL_law_469 ?_
                            refine pt_iload_n C 3 rfl rfl dL_law_470 ?_
                            refine pt_iconst C (v := 2) (by decide) dL_law_471 ?_
                            refine pt_iadd C dL_law_472 ?_
                            refine ob hf (fun _ g121 hf => ?_)
                            refine pt_sld C SX (hsx_spec g121) dL_law_473 ?_
                            refine pt_aload_n C 0 rfl rfl dL_law_474 ?_
                            refine pt_iload_n C 3 rfl rfl dL_law_475 ?_
                            refine pt_iconst C (v := 3) (by decide) dL_law_476 ?_
                            refine pt_iadd C dL_law_477 ?_
                            refine ob hf (fun _ g122 hf => ?_)
                            refine pt_sld C SX (hsx_spec g122) dL_law_478 ?_
                            refine pt_aload_n C 0 rfl rfl dL_law_479 ?_
                            refine pt_iload_n C 3 rfl rfl dL_law_480 ?_
                            refine pt_iconst C (v := 4) (by decide) dL_law_481 ?_
                            refine pt_iadd C dL_law_482 ?_
                            refine ob hf (fun _ g123 hf => ?_)
                            refine pt_sld C SX (hsx_spec g123) dL_law_483 ?_
                            refine ob hf (fun _ g126 hf => ?_)
                            refine ob hf (fun q124 g125 hf => ?_)
                            refine pt_callV C (As := [.int (xs (s.1 + 1).toNatClampNeg), .int (xs (s.1 + 2).toNatClampNeg), .int (xs (s.1 + 3).toNatClampNeg), .int (xs (s.1 + 4).toNatClampNeg)]) (rest := []) (v := (some (.int q124.1))) (fun l => con_X11_haul l x (xs (s.1 + 1).toNatClampNeg) (xs (s.1 + 2).toNatClampNeg) (xs (s.1 + 3).toNatClampNeg) (xs (s.1 + 4).toNatClampNeg) s.2 _ g125) tw_533 tw_530 tw_531 tw_532 kX11 g126 tw_1 yn_X11_haul ⟨by decide, Nat.le_trans (Nat.add_le_add_left (by decide) cc) hcc, Nat.le_trans (Nat.add_le_add_left (by decide) ss) hss⟩ (Nat.le_of_ble_eq_true rfl) dL_law_484 rfl ?_
                            refine pt_widen C (c2 := cc + 6) (s2 := ss + 70) (Nat.add_le_add_left (by decide) cc) (Nat.add_le_add_left (by decide) ss) ?_
                            show PT X 4 (cc + 6) (ss + 70) 487 [(0, .ref b), (1, .ref x), (2, .ref m), (3, .int s.1)] [.int q124.1] q124.2
                            refine pt_aload_n C 2 rfl rfl dL_law_487 ?_
                            refine pt_aload_n C 0 rfl rfl dL_law_488 ?_
                            refine pt_iload_n C 3 rfl rfl dL_law_489 ?_
                            refine pt_iconst C (v := 1) (by decide) dL_law_490 ?_
                            refine pt_iadd C dL_law_491 ?_
                            refine ob hf (fun _ g127 hf => ?_)
                            refine pt_sld C SX (hsx_spec g127) dL_law_492 ?_
                            refine pt_aload_n C 0 rfl rfl dL_law_493 ?_
                            refine pt_iload_n C 3 rfl rfl dL_law_494 ?_
                            refine pt_iconst C (v := 2) (by decide) dL_law_495 ?_
                            refine pt_iadd C dL_law_496 ?_
                            refine ob hf (fun _ g128 hf => ?_)
                            refine pt_sld C SX (hsx_spec g128) dL_law_497 ?_
                            refine pt_aload_n C 0 rfl rfl dL_law_498 ?_
                            refine pt_iload_n C 3 rfl rfl dL_law_499 ?_
                            refine pt_iconst C (v := 3) (by decide) dL_law_500 ?_
                            refine pt_iadd C dL_law_501 ?_
                            refine ob hf (fun _ g129 hf => ?_)
                            refine pt_sld C SX (hsx_spec g129) dL_law_502 ?_
                            refine pt_aload_n C 0 rfl rfl dL_law_503 ?_
                            refine pt_iload_n C 3 rfl rfl dL_law_504 ?_
                            refine pt_iconst C (v := 4) (by decide) dL_law_505 ?_
                            refine pt_iadd C dL_law_506 ?_
                            refine ob hf (fun _ g130 hf => ?_)
                            refine pt_sld C SX (hsx_spec g130) dL_law_507 ?_
                            refine ob hf (fun _ g133 hf => ?_)
                            refine ob hf (fun q131 g132 hf => ?_)
                            refine pt_callV C (As := [.int (xs (s.1 + 1).toNatClampNeg), .int (xs (s.1 + 2).toNatClampNeg), .int (xs (s.1 + 3).toNatClampNeg), .int (xs (s.1 + 4).toNatClampNeg)]) (rest := [.int q124.1]) (v := (some (.int q131.1))) (fun l => con_X12_haul l m (xs (s.1 + 1).toNatClampNeg) (xs (s.1 + 2).toNatClampNeg) (xs (s.1 + 3).toNatClampNeg) (xs (s.1 + 4).toNatClampNeg) q124.2 _ g132) tw_1131 tw_1128 tw_1129 tw_1130 kX12 g133 tw_13 yn_X12_haul ⟨by decide, hcc, hss⟩ (Nat.le_of_ble_eq_true rfl) dL_law_508 rfl ?_
                            show PT X 4 (cc + 6) (ss + 70) 511 [(0, .ref b), (1, .ref x), (2, .ref m), (3, .int s.1)] [.int q131.1, .int q124.1] q131.2
                            refine pt_icmp_eq C (tgt := 1161) (by decide) dL_law_511 (fun c134 => ?_) (fun c134 => ?_)
                            · rw [if_pos c134] at hf
                              refine pt_iinc C 3 [(3, .int (s.1 + 5)), (0, .ref b), (1, .ref x), (2, .ref m)] rfl (iinc_eq s.1 (by decide)) (by decide) rfl dL_law_1161 ?_
                              refine pt_goto C (tgt := 18) (by decide) dL_law_1164 ?_
                              refine pt_sub C [(0, .ref b), (1, .ref x), (2, .ref m), (3, .int (s.1 + 5))] [1, 2, 3, 0] rfl ?_
                              exact K0 _ _ (Option.some.inj hf).symm
                            · rw [if_neg c134] at hf
                              cases hf
                          · rw [if_neg c119] at hf
                            by_cases c135 : ((xs s.1.toNatClampNeg) &&& 63) = 12
                            · rw [if_pos c135] at hf
                              refine pt_tabIn C (tgt := 516) (off := 484) (by rw [c135]; decide) (by rw [c135]; decide) (by rw [c135]; decide) (by decide) dL_law_32 ?_
                              refine pt_aload_n C 1 rfl rfl dL_law_516 ?_
                              refine pt_aload_n C 0 rfl rfl dL_law_517 ?_
                              refine pt_iload_n C 3 rfl rfl dL_law_518 ?_
                              refine pt_iconst C (v := 1) (by decide) dL_law_519 ?_
                              refine pt_iadd C dL_law_520 ?_
                              refine ob hf (fun _ g136 hf => ?_)
                              refine pt_sld C SX (hsx_spec g136) dL_law_521 ?_
                              refine ob hf (fun _ g139 hf => ?_)
                              refine ob hf (fun q137 g138 hf => ?_)
                              refine pt_callV C (As := [.int (xs (s.1 + 1).toNatClampNeg)]) (rest := []) (v := (some (.int q137.1))) (fun l => con_X11_won l x (xs (s.1 + 1).toNatClampNeg) s.2 _ g138) tw_602 tw_599 tw_600 tw_601 kX11 g139 tw_1 yn_X11_won ⟨by decide, Nat.le_trans (Nat.add_le_add_left (by decide) cc) hcc, Nat.le_trans (Nat.add_le_add_left (by decide) ss) hss⟩ (Nat.le_of_ble_eq_true rfl) dL_law_522 rfl ?_
                              refine pt_widen C (c2 := cc + 6) (s2 := ss + 70) (Nat.add_le_add_left (by decide) cc) (Nat.add_le_add_left (by decide) ss) ?_
                              show PT X 4 (cc + 6) (ss + 70) 525 [(0, .ref b), (1, .ref x), (2, .ref m), (3, .int s.1)] [.int q137.1] q137.2
                              refine pt_aload_n C 2 rfl rfl dL_law_525 ?_
                              refine pt_aload_n C 0 rfl rfl dL_law_526 ?_
                              refine pt_iload_n C 3 rfl rfl dL_law_527 ?_
                              refine pt_iconst C (v := 1) (by decide) dL_law_528 ?_
                              refine pt_iadd C dL_law_529 ?_
                              refine ob hf (fun _ g140 hf => ?_)
                              refine pt_sld C SX (hsx_spec g140) dL_law_530 ?_
                              refine ob hf (fun _ g143 hf => ?_)
                              refine ob hf (fun q141 g142 hf => ?_)
                              refine pt_callV C (As := [.int (xs (s.1 + 1).toNatClampNeg)]) (rest := [.int q137.1]) (v := (some (.int q141.1))) (fun l => con_X12_won l m (xs (s.1 + 1).toNatClampNeg) q137.2 _ g142) tw_1152 tw_1149 tw_1150 tw_1151 kX12 g143 tw_13 yn_X12_won ⟨by decide, hcc, hss⟩ (Nat.le_of_ble_eq_true rfl) dL_law_531 rfl ?_
                              show PT X 4 (cc + 6) (ss + 70) 534 [(0, .ref b), (1, .ref x), (2, .ref m), (3, .int s.1)] [.int q141.1, .int q137.1] q141.2
                              refine pt_icmp_eq C (tgt := 1161) (by decide) dL_law_534 (fun c144 => ?_) (fun c144 => ?_)
                              · rw [if_pos c144] at hf
                                refine pt_iinc C 3 [(3, .int (s.1 + 5)), (0, .ref b), (1, .ref x), (2, .ref m)] rfl (iinc_eq s.1 (by decide)) (by decide) rfl dL_law_1161 ?_
                                refine pt_goto C (tgt := 18) (by decide) dL_law_1164 ?_
                                refine pt_sub C [(0, .ref b), (1, .ref x), (2, .ref m), (3, .int (s.1 + 5))] [1, 2, 3, 0] rfl ?_
                                exact K0 _ _ (Option.some.inj hf).symm
                              · rw [if_neg c144] at hf
                                cases hf
                            · rw [if_neg c135] at hf
                              by_cases c145 : ((xs s.1.toNatClampNeg) &&& 63) = 13
                              · rw [if_pos c145] at hf
                                refine pt_tabIn C (tgt := 539) (off := 507) (by rw [c145]; decide) (by rw [c145]; decide) (by rw [c145]; decide) (by decide) dL_law_32 ?_
                                refine pt_aload_n C 1 rfl rfl dL_law_539 ?_
                                refine pt_aload_n C 0 rfl rfl dL_law_540 ?_
                                refine pt_iload_n C 3 rfl rfl dL_law_541 ?_
                                refine pt_iconst C (v := 1) (by decide) dL_law_542 ?_
                                refine pt_iadd C dL_law_543 ?_
                                refine ob hf (fun _ g146 hf => ?_)
                                refine pt_sld C SX (hsx_spec g146) dL_law_544 ?_
                                refine ob hf (fun _ g149 hf => ?_)
                                refine ob hf (fun q147 g148 hf => ?_)
                                refine pt_callV C (As := [.int (xs (s.1 + 1).toNatClampNeg)]) (rest := []) (v := (some (.int q147.1))) (fun l => con_X11_force l x (xs (s.1 + 1).toNatClampNeg) s.2 _ g148) tw_610 tw_607 tw_608 tw_609 kX11 g149 tw_1 yn_X11_force ⟨by decide, Nat.le_trans (Nat.add_le_add_left (by decide) cc) hcc, Nat.le_trans (Nat.add_le_add_left (by decide) ss) hss⟩ (Nat.le_of_ble_eq_true rfl) dL_law_545 rfl ?_
                                refine pt_widen C (c2 := cc + 6) (s2 := ss + 70) (Nat.add_le_add_left (by decide) cc) (Nat.add_le_add_left (by decide) ss) ?_
                                show PT X 4 (cc + 6) (ss + 70) 548 [(0, .ref b), (1, .ref x), (2, .ref m), (3, .int s.1)] [.int q147.1] q147.2
                                refine pt_aload_n C 2 rfl rfl dL_law_548 ?_
                                refine pt_aload_n C 0 rfl rfl dL_law_549 ?_
                                refine pt_iload_n C 3 rfl rfl dL_law_550 ?_
                                refine pt_iconst C (v := 1) (by decide) dL_law_551 ?_
                                refine pt_iadd C dL_law_552 ?_
                                refine ob hf (fun _ g150 hf => ?_)
                                refine pt_sld C SX (hsx_spec g150) dL_law_553 ?_
                                refine ob hf (fun _ g153 hf => ?_)
                                refine ob hf (fun q151 g152 hf => ?_)
                                refine pt_callV C (As := [.int (xs (s.1 + 1).toNatClampNeg)]) (rest := [.int q147.1]) (v := (some (.int q151.1))) (fun l => con_X12_force l m (xs (s.1 + 1).toNatClampNeg) q147.2 _ g152) tw_1156 tw_1153 tw_1154 tw_1155 kX12 g153 tw_13 yn_X12_force ⟨by decide, hcc, hss⟩ (Nat.le_of_ble_eq_true rfl) dL_law_554 rfl ?_
                                show PT X 4 (cc + 6) (ss + 70) 557 [(0, .ref b), (1, .ref x), (2, .ref m), (3, .int s.1)] [.int q151.1, .int q147.1] q151.2
                                refine pt_icmp_eq C (tgt := 1161) (by decide) dL_law_557 (fun c154 => ?_) (fun c154 => ?_)
                                · rw [if_pos c154] at hf
                                  refine pt_iinc C 3 [(3, .int (s.1 + 5)), (0, .ref b), (1, .ref x), (2, .ref m)] rfl (iinc_eq s.1 (by decide)) (by decide) rfl dL_law_1161 ?_
                                  refine pt_goto C (tgt := 18) (by decide) dL_law_1164 ?_
                                  refine pt_sub C [(0, .ref b), (1, .ref x), (2, .ref m), (3, .int (s.1 + 5))] [1, 2, 3, 0] rfl ?_
                                  exact K0 _ _ (Option.some.inj hf).symm
                                · rw [if_neg c154] at hf
                                  cases hf
                              · rw [if_neg c145] at hf
                                by_cases c155 : ((xs s.1.toNatClampNeg) &&& 63) = 14
                                · rw [if_pos c155] at hf
                                  refine pt_tabIn C (tgt := 562) (off := 530) (by rw [c155]; decide) (by rw [c155]; decide) (by rw [c155]; decide) (by decide) dL_law_32 ?_
                                  refine pt_aload_n C 1 rfl rfl dL_law_562 ?_
                                  refine pt_aload_n C 0 rfl rfl dL_law_563 ?_
                                  refine pt_iload_n C 3 rfl rfl dL_law_564 ?_
                                  refine pt_iconst C (v := 1) (by decide) dL_law_565 ?_
                                  refine pt_iadd C dL_law_566 ?_
                                  refine ob hf (fun _ g156 hf => ?_)
                                  refine pt_sld C SX (hsx_spec g156) dL_law_567 ?_
                                  refine pt_aload_n C 0 rfl rfl dL_law_568 ?_
                                  refine pt_iload_n C 3 rfl rfl dL_law_569 ?_
                                  refine pt_iconst C (v := 2) (by decide) dL_law_570 ?_
                                  refine pt_iadd C dL_law_571 ?_
                                  refine ob hf (fun _ g157 hf => ?_)
                                  refine pt_sld C SX (hsx_spec g157) dL_law_572 ?_
                                  refine pt_aload_n C 0 rfl rfl dL_law_573 ?_
                                  refine pt_iload_n C 3 rfl rfl dL_law_574 ?_
                                  refine pt_iconst C (v := 3) (by decide) dL_law_575 ?_
                                  refine pt_iadd C dL_law_576 ?_
                                  refine ob hf (fun _ g158 hf => ?_)
                                  refine pt_sld C SX (hsx_spec g158) dL_law_577 ?_
                                  refine ob hf (fun _ g161 hf => ?_)
                                  refine ob hf (fun q159 g160 hf => ?_)
                                  refine pt_callV C (As := [.int (xs (s.1 + 1).toNatClampNeg), .int (xs (s.1 + 2).toNatClampNeg), .int (xs (s.1 + 3).toNatClampNeg)]) (rest := []) (v := (some (.int q159.1))) (fun l => con_X11_task l x (xs (s.1 + 1).toNatClampNeg) (xs (s.1 + 2).toNatClampNeg) (xs (s.1 + 3).toNatClampNeg) s.2 _ g160) tw_614 tw_611 tw_612 tw_613 kX11 g161 tw_1 yn_X11_task ⟨by decide, Nat.le_trans (Nat.add_le_add_left (by decide) cc) hcc, Nat.le_trans (Nat.add_le_add_left (by decide) ss) hss⟩ (Nat.le_of_ble_eq_true rfl) dL_law_578 rfl ?_
                                  refine pt_widen C (c2 := cc + 6) (s2 := ss + 70) (Nat.add_le_add_left (by decide) cc) (Nat.add_le_add_left (by decide) ss) ?_
                                  show PT X 4 (cc + 6) (ss + 70) 581 [(0, .ref b), (1, .ref x), (2, .ref m), (3, .int s.1)] [.int q159.1] q159.2
                                  refine pt_aload_n C 2 rfl rfl dL_law_581 ?_
                                  refine pt_aload_n C 0 rfl rfl dL_law_582 ?_
                                  refine pt_iload_n C 3 rfl rfl dL_law_583 ?_
                                  refine pt_iconst C (v := 1) (by decide) dL_law_584 ?_
                                  refine pt_iadd C dL_law_585 ?_
                                  refine ob hf (fun _ g162 hf => ?_)
                                  refine pt_sld C SX (hsx_spec g162) dL_law_586 ?_
                                  refine pt_aload_n C 0 rfl rfl dL_law_587 ?_
                                  refine pt_iload_n C 3 rfl rfl dL_law_588 ?_
                                  refine pt_iconst C (v := 2) (by decide) dL_law_589 ?_
                                  refine pt_iadd C dL_law_590 ?_
                                  refine ob hf (fun _ g163 hf => ?_)
                                  refine pt_sld C SX (hsx_spec g163) dL_law_591 ?_
                                  refine pt_aload_n C 0 rfl rfl dL_law_592 ?_
                                  refine pt_iload_n C 3 rfl rfl dL_law_593 ?_
                                  refine pt_iconst C (v := 3) (by decide) dL_law_594 ?_
                                  refine pt_iadd C dL_law_595 ?_
                                  refine ob hf (fun _ g164 hf => ?_)
                                  refine pt_sld C SX (hsx_spec g164) dL_law_596 ?_
                                  refine ob hf (fun _ g167 hf => ?_)
                                  refine ob hf (fun q165 g166 hf => ?_)
                                  refine pt_callV C (As := [.int (xs (s.1 + 1).toNatClampNeg), .int (xs (s.1 + 2).toNatClampNeg), .int (xs (s.1 + 3).toNatClampNeg)]) (rest := [.int q159.1]) (v := (some (.int q165.1))) (fun l => con_X12_task l m (xs (s.1 + 1).toNatClampNeg) (xs (s.1 + 2).toNatClampNeg) (xs (s.1 + 3).toNatClampNeg) q159.2 _ g166) tw_1160 tw_1157 tw_1158 tw_1159 kX12 g167 tw_13 yn_X12_task ⟨by decide, hcc, hss⟩ (Nat.le_of_ble_eq_true rfl) dL_law_597 rfl ?_
                                  show PT X 4 (cc + 6) (ss + 70) 600 [(0, .ref b), (1, .ref x), (2, .ref m), (3, .int s.1)] [.int q165.1, .int q159.1] q165.2
                                  refine pt_icmp_eq C (tgt := 1161) (by decide) dL_law_600 (fun c168 => ?_) (fun c168 => ?_)
                                  · rw [if_pos c168] at hf
                                    refine pt_iinc C 3 [(3, .int (s.1 + 5)), (0, .ref b), (1, .ref x), (2, .ref m)] rfl (iinc_eq s.1 (by decide)) (by decide) rfl dL_law_1161 ?_
                                    refine pt_goto C (tgt := 18) (by decide) dL_law_1164 ?_
                                    refine pt_sub C [(0, .ref b), (1, .ref x), (2, .ref m), (3, .int (s.1 + 5))] [1, 2, 3, 0] rfl ?_
                                    exact K0 _ _ (Option.some.inj hf).symm
                                  · rw [if_neg c168] at hf
                                    cases hf
                                · rw [if_neg c155] at hf
                                  by_cases c169 : ((xs s.1.toNatClampNeg) &&& 63) = 15
                                  · rw [if_pos c169] at hf
                                    refine pt_tabIn C (tgt := 605) (off := 573) (by rw [c169]; decide) (by rw [c169]; decide) (by rw [c169]; decide) (by decide) dL_law_32 ?_
                                    refine pt_aload_n C 1 rfl rfl dL_law_605 ?_
                                    refine pt_aload_n C 0 rfl rfl dL_law_606 ?_
                                    refine pt_iload_n C 3 rfl rfl dL_law_607 ?_
                                    refine pt_iconst C (v := 1) (by decide) dL_law_608 ?_
                                    refine pt_iadd C dL_law_609 ?_
                                    refine ob hf (fun _ g170 hf => ?_)
                                    refine pt_sld C SX (hsx_spec g170) dL_law_610 ?_
                                    refine ob hf (fun _ g173 hf => ?_)
                                    refine ob hf (fun q171 g172 hf => ?_)
                                    refine pt_callV C (As := [.int (xs (s.1 + 1).toNatClampNeg)]) (rest := []) (v := (some (.int q171.1))) (fun l => con_X11_between l x (xs (s.1 + 1).toNatClampNeg) s.2 _ g172) tw_618 tw_615 tw_616 tw_617 kX11 g173 tw_1 yn_X11_between ⟨by decide, Nat.le_trans (Nat.add_le_add_left (by decide) cc) hcc, Nat.le_trans (Nat.add_le_add_left (by decide) ss) hss⟩ (Nat.le_of_ble_eq_true rfl) dL_law_611 rfl ?_
                                    refine pt_widen C (c2 := cc + 6) (s2 := ss + 70) (Nat.add_le_add_left (by decide) cc) (Nat.add_le_add_left (by decide) ss) ?_
                                    show PT X 4 (cc + 6) (ss + 70) 614 [(0, .ref b), (1, .ref x), (2, .ref m), (3, .int s.1)] [.int q171.1] q171.2
                                    refine pt_aload_n C 2 rfl rfl dL_law_614 ?_
                                    refine pt_aload_n C 0 rfl rfl dL_law_615 ?_
                                    refine pt_iload_n C 3 rfl rfl dL_law_616 ?_
                                    refine pt_iconst C (v := 1) (by decide) dL_law_617 ?_
                                    refine pt_iadd C dL_law_618 ?_
                                    refine ob hf (fun _ g174 hf => ?_)
                                    refine pt_sld C SX (hsx_spec g174) dL_law_619 ?_
                                    refine ob hf (fun _ g177 hf => ?_)
                                    refine ob hf (fun q175 g176 hf => ?_)
                                    refine pt_callV C (As := [.int (xs (s.1 + 1).toNatClampNeg)]) (rest := [.int q171.1]) (v := (some (.int q175.1))) (fun l => con_X12_between l m (xs (s.1 + 1).toNatClampNeg) q171.2 _ g176) tw_1164 tw_1161 tw_1162 tw_1163 kX12 g177 tw_13 yn_X12_between ⟨by decide, hcc, hss⟩ (Nat.le_of_ble_eq_true rfl) dL_law_620 rfl ?_
                                    show PT X 4 (cc + 6) (ss + 70) 623 [(0, .ref b), (1, .ref x), (2, .ref m), (3, .int s.1)] [.int q175.1, .int q171.1] q175.2
                                    refine pt_icmp_eq C (tgt := 1161) (by decide) dL_law_623 (fun c178 => ?_) (fun c178 => ?_)
                                    · rw [if_pos c178] at hf
                                      refine pt_iinc C 3 [(3, .int (s.1 + 5)), (0, .ref b), (1, .ref x), (2, .ref m)] rfl (iinc_eq s.1 (by decide)) (by decide) rfl dL_law_1161 ?_
                                      refine pt_goto C (tgt := 18) (by decide) dL_law_1164 ?_
                                      refine pt_sub C [(0, .ref b), (1, .ref x), (2, .ref m), (3, .int (s.1 + 5))] [1, 2, 3, 0] rfl ?_
                                      exact K0 _ _ (Option.some.inj hf).symm
                                    · rw [if_neg c178] at hf
                                      cases hf
                                  · rw [if_neg c169] at hf
                                    by_cases c179 : ((xs s.1.toNatClampNeg) &&& 63) = 16
                                    · rw [if_pos c179] at hf
                                      refine pt_tabIn C (tgt := 628) (off := 596) (by rw [c179]; decide) (by rw [c179]; decide) (by rw [c179]; decide) (by decide) dL_law_32 ?_
                                      refine pt_aload_n C 1 rfl rfl dL_law_628 ?_
                                      refine ob hf (fun _ g182 hf => ?_)
                                      refine ob hf (fun q180 g181 hf => ?_)
                                      refine pt_callV C (As := []) (rest := []) (v := (some (.int q180.1))) (fun l => con_X11_plan l x s.2 _ g181) tw_622 tw_619 tw_620 tw_621 kX11 g182 tw_1 yn_X11_plan ⟨by decide, Nat.le_trans (Nat.add_le_add_left (by decide) cc) hcc, Nat.le_trans (Nat.add_le_add_left (by decide) ss) hss⟩ (Nat.le_of_ble_eq_true rfl) dL_law_629 rfl ?_
                                      refine pt_widen C (c2 := cc + 6) (s2 := ss + 70) (Nat.add_le_add_left (by decide) cc) (Nat.add_le_add_left (by decide) ss) ?_
                                      show PT X 4 (cc + 6) (ss + 70) 632 [(0, .ref b), (1, .ref x), (2, .ref m), (3, .int s.1)] [.int q180.1] q180.2
                                      refine pt_aload_n C 2 rfl rfl dL_law_632 ?_
                                      refine ob hf (fun _ g185 hf => ?_)
                                      refine ob hf (fun q183 g184 hf => ?_)
                                      refine pt_callV C (As := []) (rest := [.int q180.1]) (v := (some (.int q183.1))) (fun l => con_X12_plan l m q180.2 _ g184) tw_1168 tw_1165 tw_1166 tw_1167 kX12 g185 tw_13 yn_X12_plan ⟨by decide, hcc, hss⟩ (Nat.le_of_ble_eq_true rfl) dL_law_633 rfl ?_
                                      show PT X 4 (cc + 6) (ss + 70) 636 [(0, .ref b), (1, .ref x), (2, .ref m), (3, .int s.1)] [.int q183.1, .int q180.1] q183.2
                                      refine pt_icmp_eq C (tgt := 1161) (by decide) dL_law_636 (fun c186 => ?_) (fun c186 => ?_)
                                      · rw [if_pos c186] at hf
                                        refine pt_iinc C 3 [(3, .int (s.1 + 5)), (0, .ref b), (1, .ref x), (2, .ref m)] rfl (iinc_eq s.1 (by decide)) (by decide) rfl dL_law_1161 ?_
                                        refine pt_goto C (tgt := 18) (by decide) dL_law_1164 ?_
                                        refine pt_sub C [(0, .ref b), (1, .ref x), (2, .ref m), (3, .int (s.1 + 5))] [1, 2, 3, 0] rfl ?_
                                        exact K0 _ _ (Option.some.inj hf).symm
                                      · rw [if_neg c186] at hf
                                        cases hf
                                    · rw [if_neg c179] at hf
                                      by_cases c187 : ((xs s.1.toNatClampNeg) &&& 63) = 17
                                      · rw [if_pos c187] at hf
                                        refine pt_tabIn C (tgt := 641) (off := 609) (by rw [c187]; decide) (by rw [c187]; decide) (by rw [c187]; decide) (by decide) dL_law_32 ?_
                                        refine pt_aload_n C 1 rfl rfl dL_law_641 ?_
                                        refine pt_aload_n C 0 rfl rfl dL_law_642 ?_
                                        refine pt_iload_n C 3 rfl rfl dL_law_643 ?_
                                        refine pt_iconst C (v := 1) (by decide) dL_law_644 ?_
                                        refine pt_iadd C dL_law_645 ?_
                                        refine ob hf (fun _ g188 hf => ?_)
                                        refine pt_sld C SX (hsx_spec g188) dL_law_646 ?_
                                        refine ob hf (fun _ g191 hf => ?_)
                                        refine ob hf (fun q189 g190 hf => ?_)
                                        refine pt_callV C (As := [.int (xs (s.1 + 1).toNatClampNeg)]) (rest := []) (v := (some (.int q189.1))) (fun l => con_X11_planAt l x (xs (s.1 + 1).toNatClampNeg) s.2 _ g190) tw_647 tw_644 tw_645 tw_646 kX11 g191 tw_1 yn_X11_planAt ⟨by decide, Nat.le_trans (Nat.add_le_add_left (by decide) cc) hcc, Nat.le_trans (Nat.add_le_add_left (by decide) ss) hss⟩ (Nat.le_of_ble_eq_true rfl) dL_law_647 rfl ?_
                                        refine pt_widen C (c2 := cc + 6) (s2 := ss + 70) (Nat.add_le_add_left (by decide) cc) (Nat.add_le_add_left (by decide) ss) ?_
                                        show PT X 4 (cc + 6) (ss + 70) 650 [(0, .ref b), (1, .ref x), (2, .ref m), (3, .int s.1)] [.int q189.1] q189.2
                                        refine pt_aload_n C 2 rfl rfl dL_law_650 ?_
                                        refine pt_aload_n C 0 rfl rfl dL_law_651 ?_
                                        refine pt_iload_n C 3 rfl rfl dL_law_652 ?_
                                        refine pt_iconst C (v := 1) (by decide) dL_law_653 ?_
                                        refine pt_iadd C dL_law_654 ?_
                                        refine ob hf (fun _ g192 hf => ?_)
                                        refine pt_sld C SX (hsx_spec g192) dL_law_655 ?_
                                        refine ob hf (fun _ g195 hf => ?_)
                                        refine ob hf (fun q193 g194 hf => ?_)
                                        refine pt_callV C (As := [.int (xs (s.1 + 1).toNatClampNeg)]) (rest := [.int q189.1]) (v := (some (.int q193.1))) (fun l => con_X12_planAt l m (xs (s.1 + 1).toNatClampNeg) q189.2 _ g194) tw_1184 tw_1181 tw_1182 tw_1183 kX12 g195 tw_13 yn_X12_planAt ⟨by decide, hcc, hss⟩ (Nat.le_of_ble_eq_true rfl) dL_law_656 rfl ?_
                                        show PT X 4 (cc + 6) (ss + 70) 659 [(0, .ref b), (1, .ref x), (2, .ref m), (3, .int s.1)] [.int q193.1, .int q189.1] q193.2
                                        refine pt_icmp_eq C (tgt := 1161) (by decide) dL_law_659 (fun c196 => ?_) (fun c196 => ?_)
                                        · rw [if_pos c196] at hf
                                          refine pt_iinc C 3 [(3, .int (s.1 + 5)), (0, .ref b), (1, .ref x), (2, .ref m)] rfl (iinc_eq s.1 (by decide)) (by decide) rfl dL_law_1161 ?_
                                          refine pt_goto C (tgt := 18) (by decide) dL_law_1164 ?_
                                          refine pt_sub C [(0, .ref b), (1, .ref x), (2, .ref m), (3, .int (s.1 + 5))] [1, 2, 3, 0] rfl ?_
                                          exact K0 _ _ (Option.some.inj hf).symm
                                        · rw [if_neg c196] at hf
                                          cases hf
                                      · rw [if_neg c187] at hf
                                        by_cases c197 : ((xs s.1.toNatClampNeg) &&& 63) = 18
                                        · rw [if_pos c197] at hf
                                          refine pt_tabIn C (tgt := 664) (off := 632) (by rw [c197]; decide) (by rw [c197]; decide) (by rw [c197]; decide) (by decide) dL_law_32 ?_
                                          refine pt_aload_n C 1 rfl rfl dL_law_664 ?_
                                          refine pt_aload_n C 0 rfl rfl dL_law_665 ?_
                                          refine pt_iload_n C 3 rfl rfl dL_law_666 ?_
                                          refine pt_iconst C (v := 1) (by decide) dL_law_667 ?_
                                          refine pt_iadd C dL_law_668 ?_
                                          refine ob hf (fun _ g198 hf => ?_)
                                          refine pt_sld C SX (hsx_spec g198) dL_law_669 ?_
                                          refine pt_aload_n C 0 rfl rfl dL_law_670 ?_
                                          refine pt_iload_n C 3 rfl rfl dL_law_671 ?_
                                          refine pt_iconst C (v := 2) (by decide) dL_law_672 ?_
                                          refine pt_iadd C dL_law_673 ?_
                                          refine ob hf (fun _ g199 hf => ?_)
                                          refine pt_sld C SX (hsx_spec g199) dL_law_674 ?_
                                          refine pt_aload_n C 0 rfl rfl dL_law_675 ?_
                                          refine pt_iload_n C 3 rfl rfl dL_law_676 ?_
                                          refine pt_iconst C (v := 3) (by decide) dL_law_677 ?_
                                          refine pt_iadd C dL_law_678 ?_
                                          refine ob hf (fun _ g200 hf => ?_)
                                          refine pt_sld C SX (hsx_spec g200) dL_law_679 ?_
                                          refine pt_aload_n C 0 rfl rfl dL_law_680 ?_
                                          refine pt_iload_n C 3 rfl rfl dL_law_681 ?_
                                          refine pt_iconst C (v := 4) (by decide) dL_law_682 ?_
                                          refine pt_iadd C dL_law_683 ?_
                                          refine ob hf (fun _ g201 hf => ?_)
                                          refine pt_sld C SX (hsx_spec g201) dL_law_684 ?_
                                          refine ob hf (fun _ g204 hf => ?_)
                                          refine ob hf (fun q202 g203 hf => ?_)
                                          refine pt_callV C (As := [.int (xs (s.1 + 1).toNatClampNeg), .int (xs (s.1 + 2).toNatClampNeg), .int (xs (s.1 + 3).toNatClampNeg), .int (xs (s.1 + 4).toNatClampNeg)]) (rest := []) (v := (some (.int q202.1))) (fun l => con_X11_best l x (xs (s.1 + 1).toNatClampNeg) (xs (s.1 + 2).toNatClampNeg) (xs (s.1 + 3).toNatClampNeg) (xs (s.1 + 4).toNatClampNeg) s.2 _ g203) tw_651 tw_648 tw_649 tw_650 kX11 g204 tw_1 yn_X11_best ⟨by decide, Nat.le_trans (Nat.add_le_add_left (by decide) cc) hcc, Nat.le_trans (Nat.add_le_add_left (by decide) ss) hss⟩ (Nat.le_of_ble_eq_true rfl) dL_law_685 rfl ?_
                                          refine pt_widen C (c2 := cc + 6) (s2 := ss + 70) (Nat.add_le_add_left (by decide) cc) (Nat.add_le_add_left (by decide) ss) ?_
                                          show PT X 4 (cc + 6) (ss + 70) 688 [(0, .ref b), (1, .ref x), (2, .ref m), (3, .int s.1)] [.int q202.1] q202.2
                                          refine pt_aload_n C 2 rfl rfl dL_law_688 ?_
                                          refine pt_aload_n C 0 rfl rfl dL_law_689 ?_
                                          refine pt_iload_n C 3 rfl rfl dL_law_690 ?_
                                          refine pt_iconst C (v := 1) (by decide) dL_law_691 ?_
                                          refine pt_iadd C dL_law_692 ?_
                                          refine ob hf (fun _ g205 hf => ?_)
                                          refine pt_sld C SX (hsx_spec g205) dL_law_693 ?_
                                          refine pt_aload_n C 0 rfl rfl dL_law_694 ?_
                                          refine pt_iload_n C 3 rfl rfl dL_law_695 ?_
                                          refine pt_iconst C (v := 2) (by decide) dL_law_696 ?_
                                          refine pt_iadd C dL_law_697 ?_
                                          refine ob hf (fun _ g206 hf => ?_)
                                          refine pt_sld C SX (hsx_spec g206) dL_law_698 ?_
                                          refine pt_aload_n C 0 rfl rfl dL_law_699 ?_
                                          refine pt_iload_n C 3 rfl rfl dL_law_700 ?_
                                          refine pt_iconst C (v := 3) (by decide) dL_law_701 ?_
                                          refine pt_iadd C dL_law_702 ?_
                                          refine ob hf (fun _ g207 hf => ?_)
                                          refine pt_sld C SX (hsx_spec g207) dL_law_703 ?_
                                          refine pt_aload_n C 0 rfl rfl dL_law_704 ?_
                                          refine pt_iload_n C 3 rfl rfl dL_law_705 ?_
                                          refine pt_iconst C (v := 4) (by decide) dL_law_706 ?_
                                          refine pt_iadd C dL_law_707 ?_
                                          refine ob hf (fun _ g208 hf => ?_)
                                          refine pt_sld C SX (hsx_spec g208) dL_law_708 ?_
                                          refine ob hf (fun _ g211 hf => ?_)
                                          refine ob hf (fun q209 g210 hf => ?_)
                                          refine pt_callV C (As := [.int (xs (s.1 + 1).toNatClampNeg), .int (xs (s.1 + 2).toNatClampNeg), .int (xs (s.1 + 3).toNatClampNeg), .int (xs (s.1 + 4).toNatClampNeg)]) (rest := [.int q202.1]) (v := (some (.int q209.1))) (fun l => con_X12_best l m (xs (s.1 + 1).toNatClampNeg) (xs (s.1 + 2).toNatClampNeg) (xs (s.1 + 3).toNatClampNeg) (xs (s.1 + 4).toNatClampNeg) q202.2 _ g210) tw_1188 tw_1185 tw_1186 tw_1187 kX12 g211 tw_13 yn_X12_best ⟨by decide, hcc, hss⟩ (Nat.le_of_ble_eq_true rfl) dL_law_709 rfl ?_
                                          show PT X 4 (cc + 6) (ss + 70) 712 [(0, .ref b), (1, .ref x), (2, .ref m), (3, .int s.1)] [.int q209.1, .int q202.1] q209.2
                                          refine pt_icmp_eq C (tgt := 1161) (by decide) dL_law_712 (fun c212 => ?_) (fun c212 => ?_)
                                          · rw [if_pos c212] at hf
                                            refine pt_iinc C 3 [(3, .int (s.1 + 5)), (0, .ref b), (1, .ref x), (2, .ref m)] rfl (iinc_eq s.1 (by decide)) (by decide) rfl dL_law_1161 ?_
                                            refine pt_goto C (tgt := 18) (by decide) dL_law_1164 ?_
                                            refine pt_sub C [(0, .ref b), (1, .ref x), (2, .ref m), (3, .int (s.1 + 5))] [1, 2, 3, 0] rfl ?_
                                            exact K0 _ _ (Option.some.inj hf).symm
                                          · rw [if_neg c212] at hf
                                            cases hf
                                        · rw [if_neg c197] at hf
                                          by_cases c213 : ((xs s.1.toNatClampNeg) &&& 63) = 19
                                          · rw [if_pos c213] at hf
                                            refine pt_tabIn C (tgt := 717) (off := 685) (by rw [c213]; decide) (by rw [c213]; decide) (by rw [c213]; decide) (by decide) dL_law_32 ?_
                                            refine pt_aload_n C 1 rfl rfl dL_law_717 ?_
                                            refine pt_aload_n C 0 rfl rfl dL_law_718 ?_
                                            refine pt_iload_n C 3 rfl rfl dL_law_719 ?_
                                            refine pt_iconst C (v := 1) (by decide) dL_law_720 ?_
                                            refine pt_iadd C dL_law_721 ?_
                                            refine ob hf (fun _ g214 hf => ?_)
                                            refine pt_sld C SX (hsx_spec g214) dL_law_722 ?_
                                            refine pt_aload_n C 0 rfl rfl dL_law_723 ?_
                                            refine pt_iload_n C 3 rfl rfl dL_law_724 ?_
                                            refine pt_iconst C (v := 2) (by decide) dL_law_725 ?_
                                            refine pt_iadd C dL_law_726 ?_
                                            refine ob hf (fun _ g215 hf => ?_)
                                            refine pt_sld C SX (hsx_spec g215) dL_law_727 ?_
                                            refine ob hf (fun _ g218 hf => ?_)
                                            refine ob hf (fun q216 g217 hf => ?_)
                                            refine pt_callV C (As := [.int (xs (s.1 + 1).toNatClampNeg), .int (xs (s.1 + 2).toNatClampNeg)]) (rest := []) (v := (some (.int q216.1))) (fun l => con_X11_word l x (xs (s.1 + 1).toNatClampNeg) (xs (s.1 + 2).toNatClampNeg) s.2 _ g217) tw_674 tw_671 tw_672 tw_673 kX11 g218 tw_1 yn_X11_word ⟨by decide, Nat.le_trans (Nat.add_le_add_left (by decide) cc) hcc, Nat.le_trans (Nat.add_le_add_left (by decide) ss) hss⟩ (Nat.le_of_ble_eq_true rfl) dL_law_728 rfl ?_
                                            refine pt_widen C (c2 := cc + 6) (s2 := ss + 70) (Nat.add_le_add_left (by decide) cc) (Nat.add_le_add_left (by decide) ss) ?_
                                            show PT X 4 (cc + 6) (ss + 70) 731 [(0, .ref b), (1, .ref x), (2, .ref m), (3, .int s.1)] [.int q216.1] q216.2
                                            refine pt_aload_n C 2 rfl rfl dL_law_731 ?_
                                            refine pt_aload_n C 0 rfl rfl dL_law_732 ?_
                                            refine pt_iload_n C 3 rfl rfl dL_law_733 ?_
                                            refine pt_iconst C (v := 1) (by decide) dL_law_734 ?_
                                            refine pt_iadd C dL_law_735 ?_
                                            refine ob hf (fun _ g219 hf => ?_)
                                            refine pt_sld C SX (hsx_spec g219) dL_law_736 ?_
                                            refine pt_aload_n C 0 rfl rfl dL_law_737 ?_
                                            refine pt_iload_n C 3 rfl rfl dL_law_738 ?_
                                            refine pt_iconst C (v := 2) (by decide) dL_law_739 ?_
                                            refine pt_iadd C dL_law_740 ?_
                                            refine ob hf (fun _ g220 hf => ?_)
                                            refine pt_sld C SX (hsx_spec g220) dL_law_741 ?_
                                            refine ob hf (fun _ g223 hf => ?_)
                                            refine ob hf (fun q221 g222 hf => ?_)
                                            refine pt_callV C (As := [.int (xs (s.1 + 1).toNatClampNeg), .int (xs (s.1 + 2).toNatClampNeg)]) (rest := [.int q216.1]) (v := (some (.int q221.1))) (fun l => con_X12_word l m (xs (s.1 + 1).toNatClampNeg) (xs (s.1 + 2).toNatClampNeg) q216.2 _ g222) tw_1200 tw_1197 tw_1198 tw_1199 kX12 g223 tw_13 yn_X12_word ⟨by decide, hcc, hss⟩ (Nat.le_of_ble_eq_true rfl) dL_law_742 rfl ?_
                                            show PT X 4 (cc + 6) (ss + 70) 745 [(0, .ref b), (1, .ref x), (2, .ref m), (3, .int s.1)] [.int q221.1, .int q216.1] q221.2
                                            refine pt_icmp_eq C (tgt := 1161) (by decide) dL_law_745 (fun c224 => ?_) (fun c224 => ?_)
                                            · rw [if_pos c224] at hf
                                              refine pt_iinc C 3 [(3, .int (s.1 + 5)), (0, .ref b), (1, .ref x), (2, .ref m)] rfl (iinc_eq s.1 (by decide)) (by decide) rfl dL_law_1161 ?_
                                              refine pt_goto C (tgt := 18) (by decide) dL_law_1164 ?_
                                              refine pt_sub C [(0, .ref b), (1, .ref x), (2, .ref m), (3, .int (s.1 + 5))] [1, 2, 3, 0] rfl ?_
                                              exact K0 _ _ (Option.some.inj hf).symm
                                            · rw [if_neg c224] at hf
                                              cases hf
                                          · rw [if_neg c213] at hf
                                            by_cases c225 : ((xs s.1.toNatClampNeg) &&& 63) = 20
                                            · rw [if_pos c225] at hf
                                              refine pt_tabIn C (tgt := 750) (off := 718) (by rw [c225]; decide) (by rw [c225]; decide) (by rw [c225]; decide) (by decide) dL_law_32 ?_
                                              refine pt_aload_n C 1 rfl rfl dL_law_750 ?_
                                              refine pt_aload_n C 0 rfl rfl dL_law_751 ?_
                                              refine pt_iload_n C 3 rfl rfl dL_law_752 ?_
                                              refine pt_iconst C (v := 1) (by decide) dL_law_753 ?_
                                              refine pt_iadd C dL_law_754 ?_
                                              refine ob hf (fun _ g226 hf => ?_)
                                              refine pt_sld C SX (hsx_spec g226) dL_law_755 ?_
                                              refine ob hf (fun _ g229 hf => ?_)
                                              refine ob hf (fun q227 g228 hf => ?_)
                                              refine pt_callV C (As := [.int (xs (s.1 + 1).toNatClampNeg)]) (rest := []) (v := (some (.long q227.1))) (fun l => con_X11_lines l x (xs (s.1 + 1).toNatClampNeg) s.2 _ g228) tw_692 tw_689 tw_690 tw_691 kX11 g229 tw_1 yn_X11_lines ⟨by decide, Nat.le_trans (Nat.add_le_add_left (by decide) cc) hcc, Nat.le_trans (Nat.add_le_add_left (by decide) ss) hss⟩ (Nat.le_of_ble_eq_true rfl) dL_law_756 rfl ?_
                                              refine pt_widen C (c2 := cc + 6) (s2 := ss + 70) (Nat.add_le_add_left (by decide) cc) (Nat.add_le_add_left (by decide) ss) ?_
                                              show PT X 4 (cc + 6) (ss + 70) 759 [(0, .ref b), (1, .ref x), (2, .ref m), (3, .int s.1)] [.long q227.1] q227.2
                                              refine pt_aload_n C 2 rfl rfl dL_law_759 ?_
                                              refine pt_aload_n C 0 rfl rfl dL_law_760 ?_
                                              refine pt_iload_n C 3 rfl rfl dL_law_761 ?_
                                              refine pt_iconst C (v := 1) (by decide) dL_law_762 ?_
                                              refine pt_iadd C dL_law_763 ?_
                                              refine ob hf (fun _ g230 hf => ?_)
                                              refine pt_sld C SX (hsx_spec g230) dL_law_764 ?_
                                              refine ob hf (fun _ g233 hf => ?_)
                                              refine ob hf (fun q231 g232 hf => ?_)
                                              refine pt_callV C (As := [.int (xs (s.1 + 1).toNatClampNeg)]) (rest := [.long q227.1]) (v := (some (.long q231.1))) (fun l => con_X12_lines l m (xs (s.1 + 1).toNatClampNeg) q227.2 _ g232) tw_1205 tw_1202 tw_1203 tw_1204 kX12 g233 tw_13 yn_X12_lines ⟨by decide, hcc, hss⟩ (Nat.le_of_ble_eq_true rfl) dL_law_765 rfl ?_
                                              show PT X 4 (cc + 6) (ss + 70) 768 [(0, .ref b), (1, .ref x), (2, .ref m), (3, .int s.1)] [.long q231.1, .long q227.1] q231.2
                                              refine pt_lcmp C dL_law_768 ?_
                                              refine pt_if_eq C (tgt := 1161) (by decide) dL_law_769 (fun c234 => ?_) (fun c234 => ?_)
                                              · rw [if_pos c234] at hf
                                                refine pt_iinc C 3 [(3, .int (s.1 + 5)), (0, .ref b), (1, .ref x), (2, .ref m)] rfl (iinc_eq s.1 (by decide)) (by decide) rfl dL_law_1161 ?_
                                                refine pt_goto C (tgt := 18) (by decide) dL_law_1164 ?_
                                                refine pt_sub C [(0, .ref b), (1, .ref x), (2, .ref m), (3, .int (s.1 + 5))] [1, 2, 3, 0] rfl ?_
                                                exact K0 _ _ (Option.some.inj hf).symm
                                              · rw [if_neg c234] at hf
                                                cases hf
                                            · rw [if_neg c225] at hf
                                              by_cases c235 : ((xs s.1.toNatClampNeg) &&& 63) = 21
                                              · rw [if_pos c235] at hf
                                                refine pt_tabIn C (tgt := 774) (off := 742) (by rw [c235]; decide) (by rw [c235]; decide) (by rw [c235]; decide) (by decide) dL_law_32 ?_
                                                refine pt_aload_n C 1 rfl rfl dL_law_774 ?_
                                                refine pt_aload_n C 0 rfl rfl dL_law_775 ?_
                                                refine pt_iload_n C 3 rfl rfl dL_law_776 ?_
                                                refine pt_iconst C (v := 1) (by decide) dL_law_777 ?_
                                                refine pt_iadd C dL_law_778 ?_
                                                refine ob hf (fun _ g236 hf => ?_)
                                                refine pt_sld C SX (hsx_spec g236) dL_law_779 ?_
                                                refine pt_aload_n C 0 rfl rfl dL_law_780 ?_
                                                refine pt_iload_n C 3 rfl rfl dL_law_781 ?_
                                                refine pt_iconst C (v := 2) (by decide) dL_law_782 ?_
                                                refine pt_iadd C dL_law_783 ?_
                                                refine ob hf (fun _ g237 hf => ?_)
                                                refine pt_sld C SX (hsx_spec g237) dL_law_784 ?_
                                                refine pt_i2l C dL_law_785 ?_
                                                refine pt_bipush C (v := 32) (by decide) dL_law_786 ?_
                                                refine pt_lshl C dL_law_788 ?_
                                                refine pt_aload_n C 0 rfl rfl dL_law_789 ?_
                                                refine pt_iload_n C 3 rfl rfl dL_law_790 ?_
                                                refine pt_iconst C (v := 3) (by decide) dL_law_791 ?_
                                                refine pt_iadd C dL_law_792 ?_
                                                refine ob hf (fun _ g238 hf => ?_)
                                                refine pt_sld C SX (hsx_spec g238) dL_law_793 ?_
                                                refine pt_i2l C dL_law_794 ?_
                                                refine pt_ldc2 C tw_1306 dL_law_795 ?_
                                                refine pt_land C dL_law_798 ?_
                                                refine pt_lor C dL_law_799 ?_
                                                refine pt_aload_n C 0 rfl rfl dL_law_800 ?_
                                                refine pt_iload_n C 3 rfl rfl dL_law_801 ?_
                                                refine pt_iconst C (v := 4) (by decide) dL_law_802 ?_
                                                refine pt_iadd C dL_law_803 ?_
                                                refine ob hf (fun _ g239 hf => ?_)
                                                refine pt_sld C SX (hsx_spec g239) dL_law_804 ?_
                                                refine ob hf (fun _ g242 hf => ?_)
                                                refine ob hf (fun q240 g241 hf => ?_)
                                                refine pt_callV C (As := [.int (xs (s.1 + 1).toNatClampNeg), .long (((((xs (s.1 + 2).toNatClampNeg)).toInt64) <<< ((32 : Int32).toInt64 &&& 63)) ||| ((((xs (s.1 + 3).toNatClampNeg)).toInt64) &&& 4294967295)), .int (xs (s.1 + 4).toNatClampNeg)]) (rest := []) (v := (some (.int q240.1))) (fun l => con_X11_lineAt l x (xs (s.1 + 1).toNatClampNeg) (((((xs (s.1 + 2).toNatClampNeg)).toInt64) <<< ((32 : Int32).toInt64 &&& 63)) ||| ((((xs (s.1 + 3).toNatClampNeg)).toInt64) &&& 4294967295)) (xs (s.1 + 4).toNatClampNeg) s.2 _ g241) tw_724 tw_721 tw_722 tw_723 kX11 g242 tw_1 yn_X11_lineAt ⟨by decide, Nat.le_trans (Nat.add_le_add_left (by decide) cc) hcc, Nat.le_trans (Nat.add_le_add_left (by decide) ss) hss⟩ (Nat.le_of_ble_eq_true rfl) dL_law_805 rfl ?_
                                                refine pt_widen C (c2 := cc + 6) (s2 := ss + 70) (Nat.add_le_add_left (by decide) cc) (Nat.add_le_add_left (by decide) ss) ?_
                                                show PT X 4 (cc + 6) (ss + 70) 808 [(0, .ref b), (1, .ref x), (2, .ref m), (3, .int s.1)] [.int q240.1] q240.2
                                                refine pt_aload_n C 2 rfl rfl dL_law_808 ?_
                                                refine pt_aload_n C 0 rfl rfl dL_law_809 ?_
                                                refine pt_iload_n C 3 rfl rfl dL_law_810 ?_
                                                refine pt_iconst C (v := 1) (by decide) dL_law_811 ?_
                                                refine pt_iadd C dL_law_812 ?_
                                                refine ob hf (fun _ g243 hf => ?_)
                                                refine pt_sld C SX (hsx_spec g243) dL_law_813 ?_
                                                refine pt_aload_n C 0 rfl rfl dL_law_814 ?_
                                                refine pt_iload_n C 3 rfl rfl dL_law_815 ?_
                                                refine pt_iconst C (v := 2) (by decide) dL_law_816 ?_
                                                refine pt_iadd C dL_law_817 ?_
                                                refine ob hf (fun _ g244 hf => ?_)
                                                refine pt_sld C SX (hsx_spec g244) dL_law_818 ?_
                                                refine pt_i2l C dL_law_819 ?_
                                                refine pt_bipush C (v := 32) (by decide) dL_law_820 ?_
                                                refine pt_lshl C dL_law_822 ?_
                                                refine pt_aload_n C 0 rfl rfl dL_law_823 ?_
                                                refine pt_iload_n C 3 rfl rfl dL_law_824 ?_
                                                refine pt_iconst C (v := 3) (by decide) dL_law_825 ?_
                                                refine pt_iadd C dL_law_826 ?_
                                                refine ob hf (fun _ g245 hf => ?_)
                                                refine pt_sld C SX (hsx_spec g245) dL_law_827 ?_
                                                refine pt_i2l C dL_law_828 ?_
                                                refine pt_ldc2 C tw_1306 dL_law_829 ?_
                                                refine pt_land C dL_law_832 ?_
                                                refine pt_lor C dL_law_833 ?_
                                                refine pt_aload_n C 0 rfl rfl dL_law_834 ?_
                                                refine pt_iload_n C 3 rfl rfl dL_law_835 ?_
                                                refine pt_iconst C (v := 4) (by decide) dL_law_836 ?_
                                                refine pt_iadd C dL_law_837 ?_
                                                refine ob hf (fun _ g246 hf => ?_)
                                                refine pt_sld C SX (hsx_spec g246) dL_law_838 ?_
                                                refine ob hf (fun _ g249 hf => ?_)
                                                refine ob hf (fun q247 g248 hf => ?_)
                                                refine pt_callV C (As := [.int (xs (s.1 + 1).toNatClampNeg), .long (((((xs (s.1 + 2).toNatClampNeg)).toInt64) <<< ((32 : Int32).toInt64 &&& 63)) ||| ((((xs (s.1 + 3).toNatClampNeg)).toInt64) &&& 4294967295)), .int (xs (s.1 + 4).toNatClampNeg)]) (rest := [.int q240.1]) (v := (some (.int q247.1))) (fun l => con_X12_lineAt l m (xs (s.1 + 1).toNatClampNeg) (((((xs (s.1 + 2).toNatClampNeg)).toInt64) <<< ((32 : Int32).toInt64 &&& 63)) ||| ((((xs (s.1 + 3).toNatClampNeg)).toInt64) &&& 4294967295)) (xs (s.1 + 4).toNatClampNeg) q240.2 _ g248) tw_1227 tw_1224 tw_1225 tw_1226 kX12 g249 tw_13 yn_X12_lineAt ⟨by decide, hcc, hss⟩ (Nat.le_of_ble_eq_true rfl) dL_law_839 rfl ?_
                                                show PT X 4 (cc + 6) (ss + 70) 842 [(0, .ref b), (1, .ref x), (2, .ref m), (3, .int s.1)] [.int q247.1, .int q240.1] q247.2
                                                refine pt_icmp_eq C (tgt := 1161) (by decide) dL_law_842 (fun c250 => ?_) (fun c250 => ?_)
                                                · rw [if_pos c250] at hf
                                                  refine pt_iinc C 3 [(3, .int (s.1 + 5)), (0, .ref b), (1, .ref x), (2, .ref m)] rfl (iinc_eq s.1 (by decide)) (by decide) rfl dL_law_1161 ?_
                                                  refine pt_goto C (tgt := 18) (by decide) dL_law_1164 ?_
                                                  refine pt_sub C [(0, .ref b), (1, .ref x), (2, .ref m), (3, .int (s.1 + 5))] [1, 2, 3, 0] rfl ?_
                                                  exact K0 _ _ (Option.some.inj hf).symm
                                                · rw [if_neg c250] at hf
                                                  cases hf
                                              · rw [if_neg c235] at hf
                                                by_cases c251 : ((xs s.1.toNatClampNeg) &&& 63) = 22
                                                · rw [if_pos c251] at hf
                                                  refine pt_tabIn C (tgt := 847) (off := 815) (by rw [c251]; decide) (by rw [c251]; decide) (by rw [c251]; decide) (by decide) dL_law_32 ?_
                                                  refine pt_aload_n C 1 rfl rfl dL_law_847 ?_
                                                  refine pt_aload_n C 0 rfl rfl dL_law_848 ?_
                                                  refine pt_iload_n C 3 rfl rfl dL_law_849 ?_
                                                  refine pt_iconst C (v := 1) (by decide) dL_law_850 ?_
                                                  refine pt_iadd C dL_law_851 ?_
                                                  refine ob hf (fun _ g252 hf => ?_)
                                                  refine pt_sld C SX (hsx_spec g252) dL_law_852 ?_
                                                  refine ob hf (fun _ g255 hf => ?_)
                                                  refine ob hf (fun q253 g254 hf => ?_)
                                                  refine pt_callV C (As := [.int (xs (s.1 + 1).toNatClampNeg)]) (rest := []) (v := (some (.int q253.1))) (fun l => con_X11_near l x (xs (s.1 + 1).toNatClampNeg) s.2 _ g254) tw_754 tw_751 tw_752 tw_753 kX11 g255 tw_1 yn_X11_near ⟨by decide, Nat.le_trans (Nat.add_le_add_left (by decide) cc) hcc, Nat.le_trans (Nat.add_le_add_left (by decide) ss) hss⟩ (Nat.le_of_ble_eq_true rfl) dL_law_853 rfl ?_
                                                  refine pt_widen C (c2 := cc + 6) (s2 := ss + 70) (Nat.add_le_add_left (by decide) cc) (Nat.add_le_add_left (by decide) ss) ?_
                                                  show PT X 4 (cc + 6) (ss + 70) 856 [(0, .ref b), (1, .ref x), (2, .ref m), (3, .int s.1)] [.int q253.1] q253.2
                                                  refine pt_aload_n C 2 rfl rfl dL_law_856 ?_
                                                  refine pt_aload_n C 0 rfl rfl dL_law_857 ?_
                                                  refine pt_iload_n C 3 rfl rfl dL_law_858 ?_
                                                  refine pt_iconst C (v := 1) (by decide) dL_law_859 ?_
                                                  refine pt_iadd C dL_law_860 ?_
                                                  refine ob hf (fun _ g256 hf => ?_)
                                                  refine pt_sld C SX (hsx_spec g256) dL_law_861 ?_
                                                  refine ob hf (fun _ g259 hf => ?_)
                                                  refine ob hf (fun q257 g258 hf => ?_)
                                                  refine pt_callV C (As := [.int (xs (s.1 + 1).toNatClampNeg)]) (rest := [.int q253.1]) (v := (some (.int q257.1))) (fun l => con_X12_near l m (xs (s.1 + 1).toNatClampNeg) q253.2 _ g258) tw_1231 tw_1228 tw_1229 tw_1230 kX12 g259 tw_13 yn_X12_near ⟨by decide, hcc, hss⟩ (Nat.le_of_ble_eq_true rfl) dL_law_862 rfl ?_
                                                  show PT X 4 (cc + 6) (ss + 70) 865 [(0, .ref b), (1, .ref x), (2, .ref m), (3, .int s.1)] [.int q257.1, .int q253.1] q257.2
                                                  refine pt_icmp_eq C (tgt := 1161) (by decide) dL_law_865 (fun c260 => ?_) (fun c260 => ?_)
                                                  · rw [if_pos c260] at hf
                                                    refine pt_iinc C 3 [(3, .int (s.1 + 5)), (0, .ref b), (1, .ref x), (2, .ref m)] rfl (iinc_eq s.1 (by decide)) (by decide) rfl dL_law_1161 ?_
                                                    refine pt_goto C (tgt := 18) (by decide) dL_law_1164 ?_
                                                    refine pt_sub C [(0, .ref b), (1, .ref x), (2, .ref m), (3, .int (s.1 + 5))] [1, 2, 3, 0] rfl ?_
                                                    exact K0 _ _ (Option.some.inj hf).symm
                                                  · rw [if_neg c260] at hf
                                                    cases hf
                                                · rw [if_neg c251] at hf
                                                  by_cases c261 : ((xs s.1.toNatClampNeg) &&& 63) = 23
                                                  · rw [if_pos c261] at hf
                                                    refine pt_tabIn C (tgt := 870) (off := 838) (by rw [c261]; decide) (by rw [c261]; decide) (by rw [c261]; decide) (by decide) dL_law_32 ?_
                                                    refine pt_aload_n C 1 rfl rfl dL_law_870 ?_
                                                    refine pt_aload_n C 0 rfl rfl dL_law_871 ?_
                                                    refine pt_iload_n C 3 rfl rfl dL_law_872 ?_
                                                    refine pt_iconst C (v := 1) (by decide) dL_law_873 ?_
                                                    refine pt_iadd C dL_law_874 ?_
                                                    refine ob hf (fun _ g262 hf => ?_)
                                                    refine pt_sld C SX (hsx_spec g262) dL_law_875 ?_
                                                    refine pt_aload_n C 0 rfl rfl dL_law_876 ?_
                                                    refine pt_iload_n C 3 rfl rfl dL_law_877 ?_
                                                    refine pt_iconst C (v := 2) (by decide) dL_law_878 ?_
                                                    refine pt_iadd C dL_law_879 ?_
                                                    refine ob hf (fun _ g263 hf => ?_)
                                                    refine pt_sld C SX (hsx_spec g263) dL_law_880 ?_
                                                    refine ob hf (fun _ g266 hf => ?_)
                                                    refine ob hf (fun q264 g265 hf => ?_)
                                                    refine pt_callV C (As := [.int (xs (s.1 + 1).toNatClampNeg), .int (xs (s.1 + 2).toNatClampNeg)]) (rest := []) (v := (some (.int q264.1))) (fun l => con_X11_nearAt l x (xs (s.1 + 1).toNatClampNeg) (xs (s.1 + 2).toNatClampNeg) s.2 _ g265) tw_766 tw_763 tw_764 tw_765 kX11 g266 tw_1 yn_X11_nearAt ⟨by decide, Nat.le_trans (Nat.add_le_add_left (by decide) cc) hcc, Nat.le_trans (Nat.add_le_add_left (by decide) ss) hss⟩ (Nat.le_of_ble_eq_true rfl) dL_law_881 rfl ?_
                                                    refine pt_widen C (c2 := cc + 6) (s2 := ss + 70) (Nat.add_le_add_left (by decide) cc) (Nat.add_le_add_left (by decide) ss) ?_
                                                    show PT X 4 (cc + 6) (ss + 70) 884 [(0, .ref b), (1, .ref x), (2, .ref m), (3, .int s.1)] [.int q264.1] q264.2
                                                    refine pt_aload_n C 2 rfl rfl dL_law_884 ?_
                                                    refine pt_aload_n C 0 rfl rfl dL_law_885 ?_
                                                    refine pt_iload_n C 3 rfl rfl dL_law_886 ?_
                                                    refine pt_iconst C (v := 1) (by decide) dL_law_887 ?_
                                                    refine pt_iadd C dL_law_888 ?_
                                                    refine ob hf (fun _ g267 hf => ?_)
                                                    refine pt_sld C SX (hsx_spec g267) dL_law_889 ?_
                                                    refine pt_aload_n C 0 rfl rfl dL_law_890 ?_
                                                    refine pt_iload_n C 3 rfl rfl dL_law_891 ?_
                                                    refine pt_iconst C (v := 2) (by decide) dL_law_892 ?_
                                                    refine pt_iadd C dL_law_893 ?_
                                                    refine ob hf (fun _ g268 hf => ?_)
                                                    refine pt_sld C SX (hsx_spec g268) dL_law_894 ?_
                                                    refine ob hf (fun _ g271 hf => ?_)
                                                    refine ob hf (fun q269 g270 hf => ?_)
                                                    refine pt_callV C (As := [.int (xs (s.1 + 1).toNatClampNeg), .int (xs (s.1 + 2).toNatClampNeg)]) (rest := [.int q264.1]) (v := (some (.int q269.1))) (fun l => con_X12_nearAt l m (xs (s.1 + 1).toNatClampNeg) (xs (s.1 + 2).toNatClampNeg) q264.2 _ g270) tw_1235 tw_1232 tw_1233 tw_1234 kX12 g271 tw_13 yn_X12_nearAt ⟨by decide, hcc, hss⟩ (Nat.le_of_ble_eq_true rfl) dL_law_895 rfl ?_
                                                    show PT X 4 (cc + 6) (ss + 70) 898 [(0, .ref b), (1, .ref x), (2, .ref m), (3, .int s.1)] [.int q269.1, .int q264.1] q269.2
                                                    refine pt_icmp_eq C (tgt := 1161) (by decide) dL_law_898 (fun c272 => ?_) (fun c272 => ?_)
                                                    · rw [if_pos c272] at hf
                                                      refine pt_iinc C 3 [(3, .int (s.1 + 5)), (0, .ref b), (1, .ref x), (2, .ref m)] rfl (iinc_eq s.1 (by decide)) (by decide) rfl dL_law_1161 ?_
                                                      refine pt_goto C (tgt := 18) (by decide) dL_law_1164 ?_
                                                      refine pt_sub C [(0, .ref b), (1, .ref x), (2, .ref m), (3, .int (s.1 + 5))] [1, 2, 3, 0] rfl ?_
                                                      exact K0 _ _ (Option.some.inj hf).symm
                                                    · rw [if_neg c272] at hf
                                                      cases hf
                                                  · rw [if_neg c261] at hf
                                                    by_cases c273 : ((xs s.1.toNatClampNeg) &&& 63) = 24
                                                    · rw [if_pos c273] at hf
                                                      refine pt_tabIn C (tgt := 903) (off := 871) (by rw [c273]; decide) (by rw [c273]; decide) (by rw [c273]; decide) (by decide) dL_law_32 ?_
                                                      refine pt_aload_n C 1 rfl rfl dL_law_903 ?_
                                                      refine pt_aload_n C 0 rfl rfl dL_law_904 ?_
                                                      refine pt_iload_n C 3 rfl rfl dL_law_905 ?_
                                                      refine pt_iconst C (v := 1) (by decide) dL_law_906 ?_
                                                      refine pt_iadd C dL_law_907 ?_
                                                      refine ob hf (fun _ g274 hf => ?_)
                                                      refine pt_sld C SX (hsx_spec g274) dL_law_908 ?_
                                                      refine pt_aload_n C 0 rfl rfl dL_law_909 ?_
                                                      refine pt_iload_n C 3 rfl rfl dL_law_910 ?_
                                                      refine pt_iconst C (v := 2) (by decide) dL_law_911 ?_
                                                      refine pt_iadd C dL_law_912 ?_
                                                      refine ob hf (fun _ g275 hf => ?_)
                                                      refine pt_sld C SX (hsx_spec g275) dL_law_913 ?_
                                                      refine ob hf (fun _ g278 hf => ?_)
                                                      refine ob hf (fun q276 g277 hf => ?_)
                                                      refine pt_callV C (As := [.int (xs (s.1 + 1).toNatClampNeg), .int (xs (s.1 + 2).toNatClampNeg)]) (rest := []) (v := (some (.int q276.1))) (fun l => con_X11_mark l x (xs (s.1 + 1).toNatClampNeg) (xs (s.1 + 2).toNatClampNeg) s.2 _ g277) tw_775 tw_772 tw_773 tw_774 kX11 g278 tw_1 yn_X11_mark ⟨by decide, Nat.le_trans (Nat.add_le_add_left (by decide) cc) hcc, Nat.le_trans (Nat.add_le_add_left (by decide) ss) hss⟩ (Nat.le_of_ble_eq_true rfl) dL_law_914 rfl ?_
                                                      refine pt_widen C (c2 := cc + 6) (s2 := ss + 70) (Nat.add_le_add_left (by decide) cc) (Nat.add_le_add_left (by decide) ss) ?_
                                                      show PT X 4 (cc + 6) (ss + 70) 917 [(0, .ref b), (1, .ref x), (2, .ref m), (3, .int s.1)] [.int q276.1] q276.2
                                                      refine pt_aload_n C 2 rfl rfl dL_law_917 ?_
                                                      refine pt_aload_n C 0 rfl rfl dL_law_918 ?_
                                                      refine pt_iload_n C 3 rfl rfl dL_law_919 ?_
                                                      refine pt_iconst C (v := 1) (by decide) dL_law_920 ?_
                                                      refine pt_iadd C dL_law_921 ?_
                                                      refine ob hf (fun _ g279 hf => ?_)
                                                      refine pt_sld C SX (hsx_spec g279) dL_law_922 ?_
                                                      refine pt_aload_n C 0 rfl rfl dL_law_923 ?_
                                                      refine pt_iload_n C 3 rfl rfl dL_law_924 ?_
                                                      refine pt_iconst C (v := 2) (by decide) dL_law_925 ?_
                                                      refine pt_iadd C dL_law_926 ?_
                                                      refine ob hf (fun _ g280 hf => ?_)
                                                      refine pt_sld C SX (hsx_spec g280) dL_law_927 ?_
                                                      refine ob hf (fun _ g283 hf => ?_)
                                                      refine ob hf (fun q281 g282 hf => ?_)
                                                      refine pt_callV C (As := [.int (xs (s.1 + 1).toNatClampNeg), .int (xs (s.1 + 2).toNatClampNeg)]) (rest := [.int q276.1]) (v := (some (.int q281.1))) (fun l => con_X12_mark l m (xs (s.1 + 1).toNatClampNeg) (xs (s.1 + 2).toNatClampNeg) q276.2 _ g282) tw_1239 tw_1236 tw_1237 tw_1238 kX12 g283 tw_13 yn_X12_mark ⟨by decide, hcc, hss⟩ (Nat.le_of_ble_eq_true rfl) dL_law_928 rfl ?_
                                                      show PT X 4 (cc + 6) (ss + 70) 931 [(0, .ref b), (1, .ref x), (2, .ref m), (3, .int s.1)] [.int q281.1, .int q276.1] q281.2
                                                      refine pt_icmp_eq C (tgt := 1161) (by decide) dL_law_931 (fun c284 => ?_) (fun c284 => ?_)
                                                      · rw [if_pos c284] at hf
                                                        refine pt_iinc C 3 [(3, .int (s.1 + 5)), (0, .ref b), (1, .ref x), (2, .ref m)] rfl (iinc_eq s.1 (by decide)) (by decide) rfl dL_law_1161 ?_
                                                        refine pt_goto C (tgt := 18) (by decide) dL_law_1164 ?_
                                                        refine pt_sub C [(0, .ref b), (1, .ref x), (2, .ref m), (3, .int (s.1 + 5))] [1, 2, 3, 0] rfl ?_
                                                        exact K0 _ _ (Option.some.inj hf).symm
                                                      · rw [if_neg c284] at hf
                                                        cases hf
                                                    · rw [if_neg c273] at hf
                                                      by_cases c285 : ((xs s.1.toNatClampNeg) &&& 63) = 25
                                                      · rw [if_pos c285] at hf
                                                        refine pt_tabIn C (tgt := 936) (off := 904) (by rw [c285]; decide) (by rw [c285]; decide) (by rw [c285]; decide) (by decide) dL_law_32 ?_
                                                        refine pt_aload_n C 1 rfl rfl dL_law_936 ?_
                                                        refine ob hf (fun _ g288 hf => ?_)
                                                        refine ob hf (fun q286 g287 hf => ?_)
                                                        refine pt_callV C (As := []) (rest := []) (v := (some (.int q286.1))) (fun l => con_X11_wipe l x s.2 _ g287) tw_783 tw_780 tw_781 tw_782 kX11 g288 tw_1 yn_X11_wipe ⟨by decide, Nat.le_trans (Nat.add_le_add_left (by decide) cc) hcc, Nat.le_trans (Nat.add_le_add_left (by decide) ss) hss⟩ (Nat.le_of_ble_eq_true rfl) dL_law_937 rfl ?_
                                                        refine pt_widen C (c2 := cc + 6) (s2 := ss + 70) (Nat.add_le_add_left (by decide) cc) (Nat.add_le_add_left (by decide) ss) ?_
                                                        show PT X 4 (cc + 6) (ss + 70) 940 [(0, .ref b), (1, .ref x), (2, .ref m), (3, .int s.1)] [.int q286.1] q286.2
                                                        refine pt_aload_n C 2 rfl rfl dL_law_940 ?_
                                                        refine ob hf (fun _ g291 hf => ?_)
                                                        refine ob hf (fun q289 g290 hf => ?_)
                                                        refine pt_callV C (As := []) (rest := [.int q286.1]) (v := (some (.int q289.1))) (fun l => con_X12_wipe l m q286.2 _ g290) tw_1245 tw_1242 tw_1243 tw_1244 kX12 g291 tw_13 yn_X12_wipe ⟨by decide, hcc, hss⟩ (Nat.le_of_ble_eq_true rfl) dL_law_941 rfl ?_
                                                        show PT X 4 (cc + 6) (ss + 70) 944 [(0, .ref b), (1, .ref x), (2, .ref m), (3, .int s.1)] [.int q289.1, .int q286.1] q289.2
                                                        refine pt_icmp_eq C (tgt := 1161) (by decide) dL_law_944 (fun c292 => ?_) (fun c292 => ?_)
                                                        · rw [if_pos c292] at hf
                                                          refine pt_iinc C 3 [(3, .int (s.1 + 5)), (0, .ref b), (1, .ref x), (2, .ref m)] rfl (iinc_eq s.1 (by decide)) (by decide) rfl dL_law_1161 ?_
                                                          refine pt_goto C (tgt := 18) (by decide) dL_law_1164 ?_
                                                          refine pt_sub C [(0, .ref b), (1, .ref x), (2, .ref m), (3, .int (s.1 + 5))] [1, 2, 3, 0] rfl ?_
                                                          exact K0 _ _ (Option.some.inj hf).symm
                                                        · rw [if_neg c292] at hf
                                                          cases hf
                                                      · rw [if_neg c285] at hf
                                                        by_cases c293 : ((xs s.1.toNatClampNeg) &&& 63) = 26
                                                        · rw [if_pos c293] at hf
                                                          refine pt_tabIn C (tgt := 949) (off := 917) (by rw [c293]; decide) (by rw [c293]; decide) (by rw [c293]; decide) (by decide) dL_law_32 ?_
                                                          refine pt_aload_n C 1 rfl rfl dL_law_949 ?_
                                                          refine pt_aload_n C 0 rfl rfl dL_law_950 ?_
                                                          refine pt_iload_n C 3 rfl rfl dL_law_951 ?_
                                                          refine pt_iconst C (v := 1) (by decide) dL_law_952 ?_
                                                          refine pt_iadd C dL_law_953 ?_
                                                          refine ob hf (fun _ g294 hf => ?_)
                                                          refine pt_sld C SX (hsx_spec g294) dL_law_954 ?_
                                                          refine pt_aload_n C 0 rfl rfl dL_law_955 ?_
                                                          refine pt_iload_n C 3 rfl rfl dL_law_956 ?_
                                                          refine pt_iconst C (v := 2) (by decide) dL_law_957 ?_
                                                          refine pt_iadd C dL_law_958 ?_
                                                          refine ob hf (fun _ g295 hf => ?_)
                                                          refine pt_sld C SX (hsx_spec g295) dL_law_959 ?_
                                                          refine pt_aload_n C 0 rfl rfl dL_law_960 ?_
                                                          refine pt_iload_n C 3 rfl rfl dL_law_961 ?_
                                                          refine pt_iconst C (v := 3) (by decide) dL_law_962 ?_
                                                          refine pt_iadd C dL_law_963 ?_
                                                          refine ob hf (fun _ g296 hf => ?_)
                                                          refine pt_sld C SX (hsx_spec g296) dL_law_964 ?_
                                                          refine pt_aload_n C 0 rfl rfl dL_law_965 ?_
                                                          refine pt_iload_n C 3 rfl rfl dL_law_966 ?_
                                                          refine pt_iconst C (v := 4) (by decide) dL_law_967 ?_
                                                          refine pt_iadd C dL_law_968 ?_
                                                          refine ob hf (fun _ g297 hf => ?_)
                                                          refine pt_sld C SX (hsx_spec g297) dL_law_969 ?_
                                                          refine ob hf (fun _ g300 hf => ?_)
                                                          refine ob hf (fun q298 g299 hf => ?_)
                                                          refine pt_callV C (As := [.int (xs (s.1 + 1).toNatClampNeg), .int (xs (s.1 + 2).toNatClampNeg), .int (xs (s.1 + 3).toNatClampNeg), .int (xs (s.1 + 4).toNatClampNeg)]) (rest := []) (v := (some (.int q298.1))) (fun l => con_X11_who l x (xs (s.1 + 1).toNatClampNeg) (xs (s.1 + 2).toNatClampNeg) (xs (s.1 + 3).toNatClampNeg) (xs (s.1 + 4).toNatClampNeg) s.2 _ g299) tw_787 tw_784 tw_785 tw_786 kX11 g300 tw_1 yn_X11_who ⟨by decide, Nat.le_trans (Nat.add_le_add_left (by decide) cc) hcc, Nat.le_trans (Nat.add_le_add_left (by decide) ss) hss⟩ (Nat.le_of_ble_eq_true rfl) dL_law_970 rfl ?_
                                                          refine pt_widen C (c2 := cc + 6) (s2 := ss + 70) (Nat.add_le_add_left (by decide) cc) (Nat.add_le_add_left (by decide) ss) ?_
                                                          show PT X 4 (cc + 6) (ss + 70) 973 [(0, .ref b), (1, .ref x), (2, .ref m), (3, .int s.1)] [.int q298.1] q298.2
                                                          refine pt_aload_n C 2 rfl rfl dL_law_973 ?_
                                                          refine pt_aload_n C 0 rfl rfl dL_law_974 ?_
                                                          refine pt_iload_n C 3 rfl rfl dL_law_975 ?_
                                                          refine pt_iconst C (v := 1) (by decide) dL_law_976 ?_
                                                          refine pt_iadd C dL_law_977 ?_
                                                          refine ob hf (fun _ g301 hf => ?_)
                                                          refine pt_sld C SX (hsx_spec g301) dL_law_978 ?_
                                                          refine pt_aload_n C 0 rfl rfl dL_law_979 ?_
                                                          refine pt_iload_n C 3 rfl rfl dL_law_980 ?_
                                                          refine pt_iconst C (v := 2) (by decide) dL_law_981 ?_
                                                          refine pt_iadd C dL_law_982 ?_
                                                          refine ob hf (fun _ g302 hf => ?_)
                                                          refine pt_sld C SX (hsx_spec g302) dL_law_983 ?_
                                                          refine pt_aload_n C 0 rfl rfl dL_law_984 ?_
                                                          refine pt_iload_n C 3 rfl rfl dL_law_985 ?_
                                                          refine pt_iconst C (v := 3) (by decide) dL_law_986 ?_
                                                          refine pt_iadd C dL_law_987 ?_
                                                          refine ob hf (fun _ g303 hf => ?_)
                                                          refine pt_sld C SX (hsx_spec g303) dL_law_988 ?_
                                                          refine pt_aload_n C 0 rfl rfl dL_law_989 ?_
                                                          refine pt_iload_n C 3 rfl rfl dL_law_990 ?_
                                                          refine pt_iconst C (v := 4) (by decide) dL_law_991 ?_
                                                          refine pt_iadd C dL_law_992 ?_
                                                          refine ob hf (fun _ g304 hf => ?_)
                                                          refine pt_sld C SX (hsx_spec g304) dL_law_993 ?_
                                                          refine ob hf (fun _ g307 hf => ?_)
                                                          refine ob hf (fun q305 g306 hf => ?_)
                                                          refine pt_callV C (As := [.int (xs (s.1 + 1).toNatClampNeg), .int (xs (s.1 + 2).toNatClampNeg), .int (xs (s.1 + 3).toNatClampNeg), .int (xs (s.1 + 4).toNatClampNeg)]) (rest := [.int q298.1]) (v := (some (.int q305.1))) (fun l => con_X12_who l m (xs (s.1 + 1).toNatClampNeg) (xs (s.1 + 2).toNatClampNeg) (xs (s.1 + 3).toNatClampNeg) (xs (s.1 + 4).toNatClampNeg) q298.2 _ g306) tw_1249 tw_1246 tw_1247 tw_1248 kX12 g307 tw_13 yn_X12_who ⟨by decide, hcc, hss⟩ (Nat.le_of_ble_eq_true rfl) dL_law_994 rfl ?_
                                                          show PT X 4 (cc + 6) (ss + 70) 997 [(0, .ref b), (1, .ref x), (2, .ref m), (3, .int s.1)] [.int q305.1, .int q298.1] q305.2
                                                          refine pt_icmp_eq C (tgt := 1161) (by decide) dL_law_997 (fun c308 => ?_) (fun c308 => ?_)
                                                          · rw [if_pos c308] at hf
                                                            refine pt_iinc C 3 [(3, .int (s.1 + 5)), (0, .ref b), (1, .ref x), (2, .ref m)] rfl (iinc_eq s.1 (by decide)) (by decide) rfl dL_law_1161 ?_
                                                            refine pt_goto C (tgt := 18) (by decide) dL_law_1164 ?_
                                                            refine pt_sub C [(0, .ref b), (1, .ref x), (2, .ref m), (3, .int (s.1 + 5))] [1, 2, 3, 0] rfl ?_
                                                            exact K0 _ _ (Option.some.inj hf).symm
                                                          · rw [if_neg c308] at hf
                                                            cases hf
                                                        · rw [if_neg c293] at hf
                                                          by_cases c309 : ((xs s.1.toNatClampNeg) &&& 63) = 27
                                                          · rw [if_pos c309] at hf
                                                            refine pt_tabIn C (tgt := 1002) (off := 970) (by rw [c309]; decide) (by rw [c309]; decide) (by rw [c309]; decide) (by decide) dL_law_32 ?_
                                                            refine pt_aload_n C 1 rfl rfl dL_law_1002 ?_
                                                            refine pt_aload_n C 0 rfl rfl dL_law_1003 ?_
                                                            refine pt_iload_n C 3 rfl rfl dL_law_1004 ?_
                                                            refine pt_iconst C (v := 1) (by decide) dL_law_1005 ?_
                                                            refine pt_iadd C dL_law_1006 ?_
                                                            refine ob hf (fun _ g310 hf => ?_)
                                                            refine pt_sld C SX (hsx_spec g310) dL_law_1007 ?_
                                                            refine pt_aload_n C 0 rfl rfl dL_law_1008 ?_
                                                            refine pt_iload_n C 3 rfl rfl dL_law_1009 ?_
                                                            refine pt_iconst C (v := 2) (by decide) dL_law_1010 ?_
                                                            refine pt_iadd C dL_law_1011 ?_
                                                            refine ob hf (fun _ g311 hf => ?_)
                                                            refine pt_sld C SX (hsx_spec g311) dL_law_1012 ?_
                                                            refine pt_aload_n C 0 rfl rfl dL_law_1013 ?_
                                                            refine pt_iload_n C 3 rfl rfl dL_law_1014 ?_
                                                            refine pt_iconst C (v := 3) (by decide) dL_law_1015 ?_
                                                            refine pt_iadd C dL_law_1016 ?_
                                                            refine ob hf (fun _ g312 hf => ?_)
                                                            refine pt_sld C SX (hsx_spec g312) dL_law_1017 ?_
                                                            refine pt_aload_n C 0 rfl rfl dL_law_1018 ?_
                                                            refine pt_iload_n C 3 rfl rfl dL_law_1019 ?_
                                                            refine pt_iconst C (v := 4) (by decide) dL_law_1020 ?_
                                                            refine pt_iadd C dL_law_1021 ?_
                                                            refine ob hf (fun _ g313 hf => ?_)
                                                            refine pt_sld C SX (hsx_spec g313) dL_law_1022 ?_
                                                            refine ob hf (fun _ g316 hf => ?_)
                                                            refine ob hf (fun q314 g315 hf => ?_)
                                                            refine pt_callV C (As := [.int (xs (s.1 + 1).toNatClampNeg), .int (xs (s.1 + 2).toNatClampNeg), .int (xs (s.1 + 3).toNatClampNeg), .int (xs (s.1 + 4).toNatClampNeg)]) (rest := []) (v := (some (.int q314.1))) (fun l => con_X11_two l x (xs (s.1 + 1).toNatClampNeg) (xs (s.1 + 2).toNatClampNeg) (xs (s.1 + 3).toNatClampNeg) (xs (s.1 + 4).toNatClampNeg) s.2 _ g315) tw_818 tw_815 tw_816 tw_817 kX11 g316 tw_1 yn_X11_two ⟨by decide, Nat.le_trans (Nat.add_le_add_left (by decide) cc) hcc, Nat.le_trans (Nat.add_le_add_left (by decide) ss) hss⟩ (Nat.le_of_ble_eq_true rfl) dL_law_1023 rfl ?_
                                                            refine pt_widen C (c2 := cc + 6) (s2 := ss + 70) (Nat.add_le_add_left (by decide) cc) (Nat.add_le_add_left (by decide) ss) ?_
                                                            show PT X 4 (cc + 6) (ss + 70) 1026 [(0, .ref b), (1, .ref x), (2, .ref m), (3, .int s.1)] [.int q314.1] q314.2
                                                            refine pt_aload_n C 2 rfl rfl dL_law_1026 ?_
                                                            refine pt_aload_n C 0 rfl rfl dL_law_1027 ?_
                                                            refine pt_iload_n C 3 rfl rfl dL_law_1028 ?_
                                                            refine pt_iconst C (v := 1) (by decide) dL_law_1029 ?_
                                                            refine pt_iadd C dL_law_1030 ?_
                                                            refine ob hf (fun _ g317 hf => ?_)
                                                            refine pt_sld C SX (hsx_spec g317) dL_law_1031 ?_
                                                            refine pt_aload_n C 0 rfl rfl dL_law_1032 ?_
                                                            refine pt_iload_n C 3 rfl rfl dL_law_1033 ?_
                                                            refine pt_iconst C (v := 2) (by decide) dL_law_1034 ?_
                                                            refine pt_iadd C dL_law_1035 ?_
                                                            refine ob hf (fun _ g318 hf => ?_)
                                                            refine pt_sld C SX (hsx_spec g318) dL_law_1036 ?_
                                                            refine pt_aload_n C 0 rfl rfl dL_law_1037 ?_
                                                            refine pt_iload_n C 3 rfl rfl dL_law_1038 ?_
                                                            refine pt_iconst C (v := 3) (by decide) dL_law_1039 ?_
                                                            refine pt_iadd C dL_law_1040 ?_
                                                            refine ob hf (fun _ g319 hf => ?_)
                                                            refine pt_sld C SX (hsx_spec g319) dL_law_1041 ?_
                                                            refine pt_aload_n C 0 rfl rfl dL_law_1042 ?_
                                                            refine pt_iload_n C 3 rfl rfl dL_law_1043 ?_
                                                            refine pt_iconst C (v := 4) (by decide) dL_law_1044 ?_
                                                            refine pt_iadd C dL_law_1045 ?_
                                                            refine ob hf (fun _ g320 hf => ?_)
                                                            refine pt_sld C SX (hsx_spec g320) dL_law_1046 ?_
                                                            refine ob hf (fun _ g323 hf => ?_)
                                                            refine ob hf (fun q321 g322 hf => ?_)
                                                            refine pt_callV C (As := [.int (xs (s.1 + 1).toNatClampNeg), .int (xs (s.1 + 2).toNatClampNeg), .int (xs (s.1 + 3).toNatClampNeg), .int (xs (s.1 + 4).toNatClampNeg)]) (rest := [.int q314.1]) (v := (some (.int q321.1))) (fun l => con_X12_two l m (xs (s.1 + 1).toNatClampNeg) (xs (s.1 + 2).toNatClampNeg) (xs (s.1 + 3).toNatClampNeg) (xs (s.1 + 4).toNatClampNeg) q314.2 _ g322) tw_1261 tw_1258 tw_1259 tw_1260 kX12 g323 tw_13 yn_X12_two ⟨by decide, hcc, hss⟩ (Nat.le_of_ble_eq_true rfl) dL_law_1047 rfl ?_
                                                            show PT X 4 (cc + 6) (ss + 70) 1050 [(0, .ref b), (1, .ref x), (2, .ref m), (3, .int s.1)] [.int q321.1, .int q314.1] q321.2
                                                            refine pt_icmp_eq C (tgt := 1161) (by decide) dL_law_1050 (fun c324 => ?_) (fun c324 => ?_)
                                                            · rw [if_pos c324] at hf
                                                              refine pt_iinc C 3 [(3, .int (s.1 + 5)), (0, .ref b), (1, .ref x), (2, .ref m)] rfl (iinc_eq s.1 (by decide)) (by decide) rfl dL_law_1161 ?_
                                                              refine pt_goto C (tgt := 18) (by decide) dL_law_1164 ?_
                                                              refine pt_sub C [(0, .ref b), (1, .ref x), (2, .ref m), (3, .int (s.1 + 5))] [1, 2, 3, 0] rfl ?_
                                                              exact K0 _ _ (Option.some.inj hf).symm
                                                            · rw [if_neg c324] at hf
                                                              cases hf
                                                          · rw [if_neg c309] at hf
                                                            by_cases c325 : ((xs s.1.toNatClampNeg) &&& 63) = 28
                                                            · rw [if_pos c325] at hf
                                                              refine pt_tabIn C (tgt := 1055) (off := 1023) (by rw [c325]; decide) (by rw [c325]; decide) (by rw [c325]; decide) (by decide) dL_law_32 ?_
                                                              refine pt_aload_n C 1 rfl rfl dL_law_1055 ?_
                                                              refine pt_aload_n C 0 rfl rfl dL_law_1056 ?_
                                                              refine pt_iload_n C 3 rfl rfl dL_law_1057 ?_
                                                              refine pt_iconst C (v := 1) (by decide) dL_law_1058 ?_
                                                              refine pt_iadd C dL_law_1059 ?_
                                                              refine ob hf (fun _ g326 hf => ?_)
                                                              refine pt_sld C SX (hsx_spec g326) dL_law_1060 ?_
                                                              refine pt_aload_n C 0 rfl rfl dL_law_1061 ?_
                                                              refine pt_iload_n C 3 rfl rfl dL_law_1062 ?_
                                                              refine pt_iconst C (v := 2) (by decide) dL_law_1063 ?_
                                                              refine pt_iadd C dL_law_1064 ?_
                                                              refine ob hf (fun _ g327 hf => ?_)
                                                              refine pt_sld C SX (hsx_spec g327) dL_law_1065 ?_
                                                              refine ob hf (fun _ g330 hf => ?_)
                                                              refine ob hf (fun q328 g329 hf => ?_)
                                                              refine pt_callV C (As := [.int (xs (s.1 + 1).toNatClampNeg), .int (xs (s.1 + 2).toNatClampNeg)]) (rest := []) (v := (some (.int q328.1))) (fun l => con_X11_apart l x (xs (s.1 + 1).toNatClampNeg) (xs (s.1 + 2).toNatClampNeg) s.2 _ g329) tw_832 tw_829 tw_830 tw_831 kX11 g330 tw_1 yn_X11_apart ⟨by decide, Nat.le_trans (Nat.add_le_add_left (by decide) cc) hcc, Nat.le_trans (Nat.add_le_add_left (by decide) ss) hss⟩ (Nat.le_of_ble_eq_true rfl) dL_law_1066 rfl ?_
                                                              refine pt_widen C (c2 := cc + 6) (s2 := ss + 70) (Nat.add_le_add_left (by decide) cc) (Nat.add_le_add_left (by decide) ss) ?_
                                                              show PT X 4 (cc + 6) (ss + 70) 1069 [(0, .ref b), (1, .ref x), (2, .ref m), (3, .int s.1)] [.int q328.1] q328.2
                                                              refine pt_aload_n C 2 rfl rfl dL_law_1069 ?_
                                                              refine pt_aload_n C 0 rfl rfl dL_law_1070 ?_
                                                              refine pt_iload_n C 3 rfl rfl dL_law_1071 ?_
                                                              refine pt_iconst C (v := 1) (by decide) dL_law_1072 ?_
                                                              refine pt_iadd C dL_law_1073 ?_
                                                              refine ob hf (fun _ g331 hf => ?_)
                                                              refine pt_sld C SX (hsx_spec g331) dL_law_1074 ?_
                                                              refine pt_aload_n C 0 rfl rfl dL_law_1075 ?_
                                                              refine pt_iload_n C 3 rfl rfl dL_law_1076 ?_
                                                              refine pt_iconst C (v := 2) (by decide) dL_law_1077 ?_
                                                              refine pt_iadd C dL_law_1078 ?_
                                                              refine ob hf (fun _ g332 hf => ?_)
                                                              refine pt_sld C SX (hsx_spec g332) dL_law_1079 ?_
                                                              refine ob hf (fun _ g335 hf => ?_)
                                                              refine ob hf (fun q333 g334 hf => ?_)
                                                              refine pt_callV C (As := [.int (xs (s.1 + 1).toNatClampNeg), .int (xs (s.1 + 2).toNatClampNeg)]) (rest := [.int q328.1]) (v := (some (.int q333.1))) (fun l => con_X12_apart l m (xs (s.1 + 1).toNatClampNeg) (xs (s.1 + 2).toNatClampNeg) q328.2 _ g334) tw_1270 tw_1267 tw_1268 tw_1269 kX12 g335 tw_13 yn_X12_apart ⟨by decide, hcc, hss⟩ (Nat.le_of_ble_eq_true rfl) dL_law_1080 rfl ?_
                                                              show PT X 4 (cc + 6) (ss + 70) 1083 [(0, .ref b), (1, .ref x), (2, .ref m), (3, .int s.1)] [.int q333.1, .int q328.1] q333.2
                                                              refine pt_icmp_eq C (tgt := 1161) (by decide) dL_law_1083 (fun c336 => ?_) (fun c336 => ?_)
                                                              · rw [if_pos c336] at hf
                                                                refine pt_iinc C 3 [(3, .int (s.1 + 5)), (0, .ref b), (1, .ref x), (2, .ref m)] rfl (iinc_eq s.1 (by decide)) (by decide) rfl dL_law_1161 ?_
                                                                refine pt_goto C (tgt := 18) (by decide) dL_law_1164 ?_
                                                                refine pt_sub C [(0, .ref b), (1, .ref x), (2, .ref m), (3, .int (s.1 + 5))] [1, 2, 3, 0] rfl ?_
                                                                exact K0 _ _ (Option.some.inj hf).symm
                                                              · rw [if_neg c336] at hf
                                                                cases hf
                                                            · rw [if_neg c325] at hf
                                                              by_cases c337 : ((xs s.1.toNatClampNeg) &&& 63) = 29
                                                              · rw [if_pos c337] at hf
                                                                refine pt_tabIn C (tgt := 1088) (off := 1056) (by rw [c337]; decide) (by rw [c337]; decide) (by rw [c337]; decide) (by decide) dL_law_32 ?_
                                                                refine pt_aload_n C 1 rfl rfl dL_law_1088 ?_
                                                                refine pt_aload_n C 0 rfl rfl dL_law_1089 ?_
                                                                refine pt_iload_n C 3 rfl rfl dL_law_1090 ?_
                                                                refine pt_iconst C (v := 1) (by decide) dL_law_1091 ?_
                                                                refine pt_iadd C dL_law_1092 ?_
                                                                refine ob hf (fun _ g338 hf => ?_)
                                                                refine pt_sld C SX (hsx_spec g338) dL_law_1093 ?_
                                                                refine ob hf (fun _ g341 hf => ?_)
                                                                refine ob hf (fun q339 g340 hf => ?_)
                                                                refine pt_callV C (As := [.int (xs (s.1 + 1).toNatClampNeg)]) (rest := []) (v := (some (.int q339.1))) (fun l => con_X11_hangs l x (xs (s.1 + 1).toNatClampNeg) s.2 _ g340) tw_845 tw_842 tw_843 tw_844 kX11 g341 tw_1 yn_X11_hangs ⟨by decide, Nat.le_trans (Nat.add_le_add_left (by decide) cc) hcc, Nat.le_trans (Nat.add_le_add_left (by decide) ss) hss⟩ (Nat.le_of_ble_eq_true rfl) dL_law_1094 rfl ?_
                                                                refine pt_widen C (c2 := cc + 6) (s2 := ss + 70) (Nat.add_le_add_left (by decide) cc) (Nat.add_le_add_left (by decide) ss) ?_
                                                                show PT X 4 (cc + 6) (ss + 70) 1097 [(0, .ref b), (1, .ref x), (2, .ref m), (3, .int s.1)] [.int q339.1] q339.2
                                                                refine pt_aload_n C 2 rfl rfl dL_law_1097 ?_
                                                                refine pt_aload_n C 0 rfl rfl dL_law_1098 ?_
                                                                refine pt_iload_n C 3 rfl rfl dL_law_1099 ?_
                                                                refine pt_iconst C (v := 1) (by decide) dL_law_1100 ?_
                                                                refine pt_iadd C dL_law_1101 ?_
                                                                refine ob hf (fun _ g342 hf => ?_)
                                                                refine pt_sld C SX (hsx_spec g342) dL_law_1102 ?_
                                                                refine ob hf (fun _ g345 hf => ?_)
                                                                refine ob hf (fun q343 g344 hf => ?_)
                                                                refine pt_callV C (As := [.int (xs (s.1 + 1).toNatClampNeg)]) (rest := [.int q339.1]) (v := (some (.int q343.1))) (fun l => con_X12_hangs l m (xs (s.1 + 1).toNatClampNeg) q339.2 _ g344) tw_1282 tw_1279 tw_1280 tw_1281 kX12 g345 tw_13 yn_X12_hangs ⟨by decide, hcc, hss⟩ (Nat.le_of_ble_eq_true rfl) dL_law_1103 rfl ?_
                                                                show PT X 4 (cc + 6) (ss + 70) 1106 [(0, .ref b), (1, .ref x), (2, .ref m), (3, .int s.1)] [.int q343.1, .int q339.1] q343.2
                                                                refine pt_icmp_eq C (tgt := 1161) (by decide) dL_law_1106 (fun c346 => ?_) (fun c346 => ?_)
                                                                · rw [if_pos c346] at hf
                                                                  refine pt_iinc C 3 [(3, .int (s.1 + 5)), (0, .ref b), (1, .ref x), (2, .ref m)] rfl (iinc_eq s.1 (by decide)) (by decide) rfl dL_law_1161 ?_
                                                                  refine pt_goto C (tgt := 18) (by decide) dL_law_1164 ?_
                                                                  refine pt_sub C [(0, .ref b), (1, .ref x), (2, .ref m), (3, .int (s.1 + 5))] [1, 2, 3, 0] rfl ?_
                                                                  exact K0 _ _ (Option.some.inj hf).symm
                                                                · rw [if_neg c346] at hf
                                                                  cases hf
                                                              · rw [if_neg c337] at hf
                                                                by_cases c347 : ((xs s.1.toNatClampNeg) &&& 63) = 30
                                                                · rw [if_pos c347] at hf
                                                                  refine pt_tabIn C (tgt := 1111) (off := 1079) (by rw [c347]; decide) (by rw [c347]; decide) (by rw [c347]; decide) (by decide) dL_law_32 ?_
                                                                  refine pt_aload_n C 1 rfl rfl dL_law_1111 ?_
                                                                  refine ob hf (fun _ g350 hf => ?_)
                                                                  refine ob hf (fun q348 g349 hf => ?_)
                                                                  refine pt_callV C (As := []) (rest := []) (v := (some (.int q348.1))) (fun l => con_X11_tree l x s.2 _ g349) tw_862 tw_859 tw_860 tw_861 kX11 g350 tw_1 yn_X11_tree ⟨by decide, Nat.le_trans (Nat.add_le_add_left (by decide) cc) hcc, Nat.le_trans (Nat.add_le_add_left (by decide) ss) hss⟩ (Nat.le_of_ble_eq_true rfl) dL_law_1112 rfl ?_
                                                                  refine pt_widen C (c2 := cc + 6) (s2 := ss + 70) (Nat.add_le_add_left (by decide) cc) (Nat.add_le_add_left (by decide) ss) ?_
                                                                  show PT X 4 (cc + 6) (ss + 70) 1115 [(0, .ref b), (1, .ref x), (2, .ref m), (3, .int s.1)] [.int q348.1] q348.2
                                                                  refine pt_aload_n C 2 rfl rfl dL_law_1115 ?_
                                                                  refine ob hf (fun _ g353 hf => ?_)
                                                                  refine ob hf (fun q351 g352 hf => ?_)
                                                                  refine pt_callV C (As := []) (rest := [.int q348.1]) (v := (some (.int q351.1))) (fun l => con_X12_tree l m q348.2 _ g352) tw_1290 tw_1287 tw_1288 tw_1289 kX12 g353 tw_13 yn_X12_tree ⟨by decide, hcc, hss⟩ (Nat.le_of_ble_eq_true rfl) dL_law_1116 rfl ?_
                                                                  show PT X 4 (cc + 6) (ss + 70) 1119 [(0, .ref b), (1, .ref x), (2, .ref m), (3, .int s.1)] [.int q351.1, .int q348.1] q351.2
                                                                  refine pt_icmp_eq C (tgt := 1161) (by decide) dL_law_1119 (fun c354 => ?_) (fun c354 => ?_)
                                                                  · rw [if_pos c354] at hf
                                                                    refine pt_iinc C 3 [(3, .int (s.1 + 5)), (0, .ref b), (1, .ref x), (2, .ref m)] rfl (iinc_eq s.1 (by decide)) (by decide) rfl dL_law_1161 ?_
                                                                    refine pt_goto C (tgt := 18) (by decide) dL_law_1164 ?_
                                                                    refine pt_sub C [(0, .ref b), (1, .ref x), (2, .ref m), (3, .int (s.1 + 5))] [1, 2, 3, 0] rfl ?_
                                                                    exact K0 _ _ (Option.some.inj hf).symm
                                                                  · rw [if_neg c354] at hf
                                                                    cases hf
                                                                · rw [if_neg c347] at hf
                                                                  by_cases c355 : ((xs s.1.toNatClampNeg) &&& 63) = 31
                                                                  · rw [if_pos c355] at hf
                                                                    refine pt_tabIn C (tgt := 1124) (off := 1092) (by rw [c355]; decide) (by rw [c355]; decide) (by rw [c355]; decide) (by decide) dL_law_32 ?_
                                                                    refine pt_aload_n C 1 rfl rfl dL_law_1124 ?_
                                                                    refine pt_aload_n C 0 rfl rfl dL_law_1125 ?_
                                                                    refine pt_iload_n C 3 rfl rfl dL_law_1126 ?_
                                                                    refine pt_iconst C (v := 1) (by decide) dL_law_1127 ?_
                                                                    refine pt_iadd C dL_law_1128 ?_
                                                                    refine ob hf (fun _ g356 hf => ?_)
                                                                    refine pt_sld C SX (hsx_spec g356) dL_law_1129 ?_
                                                                    refine ob hf (fun _ g359 hf => ?_)
                                                                    refine ob hf (fun q357 g358 hf => ?_)
                                                                    refine pt_callV C (As := [.int (xs (s.1 + 1).toNatClampNeg)]) (rest := []) (v := (some (.int q357.1))) (fun l => con_X11_count l x (xs (s.1 + 1).toNatClampNeg) s.2 _ g358) tw_866 tw_863 tw_864 tw_865 kX11 g359 tw_1 yn_X11_count ⟨by decide, Nat.le_trans (Nat.add_le_add_left (by decide) cc) hcc, Nat.le_trans (Nat.add_le_add_left (by decide) ss) hss⟩ (Nat.le_of_ble_eq_true rfl) dL_law_1130 rfl ?_
                                                                    refine pt_widen C (c2 := cc + 6) (s2 := ss + 70) (Nat.add_le_add_left (by decide) cc) (Nat.add_le_add_left (by decide) ss) ?_
                                                                    show PT X 4 (cc + 6) (ss + 70) 1133 [(0, .ref b), (1, .ref x), (2, .ref m), (3, .int s.1)] [.int q357.1] q357.2
                                                                    refine pt_aload_n C 2 rfl rfl dL_law_1133 ?_
                                                                    refine pt_aload_n C 0 rfl rfl dL_law_1134 ?_
                                                                    refine pt_iload_n C 3 rfl rfl dL_law_1135 ?_
                                                                    refine pt_iconst C (v := 1) (by decide) dL_law_1136 ?_
                                                                    refine pt_iadd C dL_law_1137 ?_
                                                                    refine ob hf (fun _ g360 hf => ?_)
                                                                    refine pt_sld C SX (hsx_spec g360) dL_law_1138 ?_
                                                                    refine ob hf (fun _ g363 hf => ?_)
                                                                    refine ob hf (fun q361 g362 hf => ?_)
                                                                    refine pt_callV C (As := [.int (xs (s.1 + 1).toNatClampNeg)]) (rest := [.int q357.1]) (v := (some (.int q361.1))) (fun l => con_X12_count l m (xs (s.1 + 1).toNatClampNeg) q357.2 _ g362) tw_1294 tw_1291 tw_1292 tw_1293 kX12 g363 tw_13 yn_X12_count ⟨by decide, hcc, hss⟩ (Nat.le_of_ble_eq_true rfl) dL_law_1139 rfl ?_
                                                                    show PT X 4 (cc + 6) (ss + 70) 1142 [(0, .ref b), (1, .ref x), (2, .ref m), (3, .int s.1)] [.int q361.1, .int q357.1] q361.2
                                                                    refine pt_icmp_eq C (tgt := 1161) (by decide) dL_law_1142 (fun c364 => ?_) (fun c364 => ?_)
                                                                    · rw [if_pos c364] at hf
                                                                      refine pt_iinc C 3 [(3, .int (s.1 + 5)), (0, .ref b), (1, .ref x), (2, .ref m)] rfl (iinc_eq s.1 (by decide)) (by decide) rfl dL_law_1161 ?_
                                                                      refine pt_goto C (tgt := 18) (by decide) dL_law_1164 ?_
                                                                      refine pt_sub C [(0, .ref b), (1, .ref x), (2, .ref m), (3, .int (s.1 + 5))] [1, 2, 3, 0] rfl ?_
                                                                      exact K0 _ _ (Option.some.inj hf).symm
                                                                    · rw [if_neg c364] at hf
                                                                      cases hf
                                                                  · rw [if_neg c355] at hf
                                                                    by_cases c365 : ((xs s.1.toNatClampNeg) &&& 63) = 32
                                                                    · rw [if_pos c365] at hf
                                                                      refine pt_tabIn C (tgt := 1147) (off := 1115) (by rw [c365]; decide) (by rw [c365]; decide) (by rw [c365]; decide) (by decide) dL_law_32 ?_
                                                                      refine pt_aload_n C 1 rfl rfl dL_law_1147 ?_
                                                                      refine ob hf (fun _ g368 hf => ?_)
                                                                      refine ob hf (fun q366 g367 hf => ?_)
                                                                      refine pt_callV C (As := []) (rest := []) (v := (some (.long q366.1))) (fun l => con_X11_digest l x s.2 _ g367) tw_870 tw_867 tw_868 tw_869 kX11 g368 tw_1 yn_X11_digest ⟨by decide, Nat.le_trans (Nat.add_le_add_left (by decide) cc) hcc, Nat.le_trans (Nat.add_le_add_left (by decide) ss) hss⟩ (Nat.le_of_ble_eq_true rfl) dL_law_1148 rfl ?_
                                                                      refine pt_widen C (c2 := cc + 6) (s2 := ss + 70) (Nat.add_le_add_left (by decide) cc) (Nat.add_le_add_left (by decide) ss) ?_
                                                                      show PT X 4 (cc + 6) (ss + 70) 1151 [(0, .ref b), (1, .ref x), (2, .ref m), (3, .int s.1)] [.long q366.1] q366.2
                                                                      refine pt_aload_n C 2 rfl rfl dL_law_1151 ?_
                                                                      refine ob hf (fun _ g371 hf => ?_)
                                                                      refine ob hf (fun q369 g370 hf => ?_)
                                                                      refine pt_callV C (As := []) (rest := [.long q366.1]) (v := (some (.long q369.1))) (fun l => con_X12_digest l m q366.2 _ g370) tw_1298 tw_1295 tw_1296 tw_1297 kX12 g371 tw_13 yn_X12_digest ⟨by decide, hcc, hss⟩ (Nat.le_of_ble_eq_true rfl) dL_law_1152 rfl ?_
                                                                      show PT X 4 (cc + 6) (ss + 70) 1155 [(0, .ref b), (1, .ref x), (2, .ref m), (3, .int s.1)] [.long q369.1, .long q366.1] q369.2
                                                                      refine pt_lcmp C dL_law_1155 ?_
                                                                      refine pt_if_eq C (tgt := 1161) (by decide) dL_law_1156 (fun c372 => ?_) (fun c372 => ?_)
                                                                      · rw [if_pos c372] at hf
                                                                        refine pt_iinc C 3 [(3, .int (s.1 + 5)), (0, .ref b), (1, .ref x), (2, .ref m)] rfl (iinc_eq s.1 (by decide)) (by decide) rfl dL_law_1161 ?_
                                                                        refine pt_goto C (tgt := 18) (by decide) dL_law_1164 ?_
                                                                        refine pt_sub C [(0, .ref b), (1, .ref x), (2, .ref m), (3, .int (s.1 + 5))] [1, 2, 3, 0] rfl ?_
                                                                        exact K0 _ _ (Option.some.inj hf).symm
                                                                      · rw [if_neg c372] at hf
                                                                        cases hf
                                                                    · rw [if_neg c365] at hf
                                                                      refine pt_tabOut C (tgt := 1161) (tab_out 33 (fun j hj => by match j, hj with | 0, _ => exact c3 | 1, _ => exact c13 | 2, _ => exact c21 | 3, _ => exact c29 | 4, _ => exact c39 | 5, _ => exact c51 | 6, _ => exact c67 | 7, _ => exact c79 | 8, _ => exact c89 | 9, _ => exact c99 | 10, _ => exact c109 | 11, _ => exact c119 | 12, _ => exact c135 | 13, _ => exact c145 | 14, _ => exact c155 | 15, _ => exact c169 | 16, _ => exact c179 | 17, _ => exact c187 | 18, _ => exact c197 | 19, _ => exact c213 | 20, _ => exact c225 | 21, _ => exact c235 | 22, _ => exact c251 | 23, _ => exact c261 | 24, _ => exact c273 | 25, _ => exact c285 | 26, _ => exact c293 | 27, _ => exact c309 | 28, _ => exact c325 | 29, _ => exact c337 | 30, _ => exact c347 | 31, _ => exact c355 | 32, _ => exact c365 | j + 33, h9 => exact absurd h9 (by omega))) (by decide) dL_law_32 ?_
                                                                      refine pt_iinc C 3 [(3, .int (s.1 + 5)), (0, .ref b), (1, .ref x), (2, .ref m)] rfl (iinc_eq s.1 (by decide)) (by decide) rfl dL_law_1161 ?_
                                                                      refine pt_goto C (tgt := 18) (by decide) dL_law_1164 ?_
                                                                      refine pt_widen C (Nat.le_add_right cc 6) (Nat.le_add_right ss 70) ?_
                                                                      refine pt_sub C [(0, .ref b), (1, .ref x), (2, .ref m), (3, .int (s.1 + 5))] [1, 2, 3, 0] rfl ?_
                                                                      exact K0 _ _ (Option.some.inj hf).symm
theorem l_law {X : MX} (C : CX X cL_law 4 RL ret room_1) {b L : Nat} {xs : Nat → Int32} (SX : SXp X b L xs) (x m c0 s0 : Nat) (hc0 : c0 + 3600 ≤ 600000) (hs0 : s0 + 42000 ≤ 7302250) (n : Nat) (s : Int32 × AH) (r : AH) (hf : iter (f_L_law_L18 x m L xs) n s = some r) (K : ∀ c2 s2 : Nat, c2 ≤ 600000 → s2 ≤ 7302250 → PT X 4 c2 s2 1167 [] [] r) (hn : n ≤ 600) : PT X 4 (c0 + (600 - n) * 6) (s0 + (600 - n) * 70) 18 [(0, .ref b), (1, .ref x), (2, .ref m), (3, .int s.1)] [] s.2 := by
  refine iter_Wn (fun (n : Nat) (s : Int32 × AH) => n ≤ 600 → PT X 4 (c0 + (600 - n) * 6) (s0 + (600 - n) * 70) 18 [(0, .ref b), (1, .ref x), (2, .ref m), (3, .int s.1)] [] s.2) (fun r => ∀ c2 s2 : Nat, c2 ≤ 600000 → s2 ≤ 7302250 → PT X 4 c2 s2 1167 [] [] r) (f_L_law_L18 x m L xs) ?_ ?_ n s r hf K hn
  · intro n s s2 hf P hn
    refine w_L_law_L18 C SX x m _ _ (by omega) (by omega) s _ hf (fun u3 hu e => ?_) (fun hu e => by cases e)
    cases e
    have P2 := P (by omega)
    rw [show 600 - n = (600 - (n + 1)) + 1 by omega, Nat.succ_mul, Nat.succ_mul, ← Nat.add_assoc, ← Nat.add_assoc] at P2
    exact P2
  · intro n s r hf k hn
    refine w_L_law_L18 C SX x m _ _ (by omega) (by omega) s _ hf (fun u3 hu e => by cases e) (fun hu e => ?_)
    cases e
    exact k _ _ (by omega) (by omega)
set_option maxRecDepth 100000 in
set_option maxHeartbeats 4000000 in
theorem w_L_law_0 {X : MX} (C : CX X cL_law 4 RL ret room_1) {b L : Nat} {xs : Nat → Int32} (SX : SXp X b L xs) (h r : AH) (hf : f_L_law L xs h = some r) (K : ∀ c2 s2 : Nat, c2 ≤ 600000 → s2 ≤ 7302250 → PT X 4 c2 s2 1167 [] [] r) : PT X 4 0 0 0 [(0, .ref b)] [] h := by
  unfold f_L_law at hf
  refine pt_new C kX11 tw_24 tw_25 tw_1 [.null, .null, .null, .null, .null, .int 0, .null, .null, .null, .null, .null, .null] (fun j hj => match j, hj with | 0, _ => rfl | 1, _ => rfl | 2, _ => rfl | 3, _ => rfl | 4, _ => rfl | 5, _ => rfl | 6, _ => rfl | 7, _ => rfl | 8, _ => rfl | 9, _ => rfl | 10, _ => rfl | 11, _ => rfl) (by decide) (by decide) dL_law_0 ?_
  refine pt_dup C rfl dL_law_3 ?_
  refine ob hf (fun q1 g2 hf => ?_)
  refine pt_callI C (As := []) (rest := [.ref h.1]) (v := none) (fun l => con_X11_init l h.1 (hnew h (.inr (12, [.null, .null, .null, .null, .null, .int 0, .null, .null, .null, .null, .null, .null]))) _ g2) tw_28 tw_26 tw_27 rfl tw_1 yn_X11_init (by decide) (Nat.le_of_ble_eq_true rfl) dL_law_4 rfl ?_
  show PT X 4 51 2321 7 [(0, .ref b)] [.ref h.1] q1
  refine pt_astore_n C [(1, .ref h.1), (0, .ref b)] rfl (by decide) rfl dL_law_7 ?_
  refine pt_new C kX12 tw_910 tw_911 tw_13 [.int 0, .null, .null, .null, .null, .int 0, .null, .int 0, .null, .null, .null, .null, .null, .null, .int 0, .int 0, .int 0, .null, .null, .null, .int 0, .int 0, .int 0, .null, .null, .null, .int 0, .null, .null, .null, .int 0, .null, .null, .null, .null, .int 0, .null, .null, .null, .int 0, .int 0, .int 0, .int 0, .null, .null, .int 0, .long 0] (fun j hj => match j, hj with | 0, _ => rfl | 1, _ => rfl | 2, _ => rfl | 3, _ => rfl | 4, _ => rfl | 5, _ => rfl | 6, _ => rfl | 7, _ => rfl | 8, _ => rfl | 9, _ => rfl | 10, _ => rfl | 11, _ => rfl | 12, _ => rfl | 13, _ => rfl | 14, _ => rfl | 15, _ => rfl | 16, _ => rfl | 17, _ => rfl | 18, _ => rfl | 19, _ => rfl | 20, _ => rfl | 21, _ => rfl | 22, _ => rfl | 23, _ => rfl | 24, _ => rfl | 25, _ => rfl | 26, _ => rfl | 27, _ => rfl | 28, _ => rfl | 29, _ => rfl | 30, _ => rfl | 31, _ => rfl | 32, _ => rfl | 33, _ => rfl | 34, _ => rfl | 35, _ => rfl | 36, _ => rfl | 37, _ => rfl | 38, _ => rfl | 39, _ => rfl | 40, _ => rfl | 41, _ => rfl | 42, _ => rfl | 43, _ => rfl | 44, _ => rfl | 45, _ => rfl | 46, _ => rfl | j + 47, h9 => absurd h9 (by omega)) (by decide) (by decide) dL_law_8 ?_
  refine pt_dup C rfl dL_law_11 ?_
  refine ob hf (fun q3 g4 hf => ?_)
  refine pt_callI C (As := []) (rest := [.ref q1.1]) (v := none) (fun l => con_X12_init l q1.1 (hnew q1 (.inr (13, [.int 0, .null, .null, .null, .null, .int 0, .null, .int 0, .null, .null, .null, .null, .null, .null, .int 0, .int 0, .int 0, .null, .null, .null, .int 0, .int 0, .int 0, .null, .null, .null, .int 0, .null, .null, .null, .int 0, .null, .null, .null, .null, .int 0, .null, .null, .null, .int 0, .int 0, .int 0, .int 0, .null, .null, .int 0, .long 0]))) _ g4) tw_914 tw_912 tw_913 rfl tw_13 yn_X12_init (by decide) (Nat.le_of_ble_eq_true rfl) dL_law_12 rfl ?_
  show PT X 4 81 4515 15 [(1, .ref h.1), (0, .ref b)] [.ref q1.1] q3
  refine pt_astore_n C [(2, .ref q1.1), (1, .ref h.1), (0, .ref b)] rfl (by decide) rfl dL_law_15 ?_
  refine pt_iconst C (v := 0) (by decide) dL_law_16 ?_
  refine pt_istore_n C [(3, .int 0), (2, .ref q1.1), (1, .ref h.1), (0, .ref b)] rfl (by decide) rfl dL_law_17 ?_
  refine pt_sub C [(0, .ref b), (1, .ref h.1), (2, .ref q1.1), (3, .int 0)] [3, 2, 1, 0] rfl ?_
  exact l_law C SX h.1 q1.1 81 4515 (by decide) (by decide) 600 _ _ hf K (Nat.le_refl _)
