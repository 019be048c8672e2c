abbrev rmX12_bit : Room := { frames := 0, cells := 0, slots := 0, locals := 0 }
theorem yn_X12_bit : YN yX12_bit 1 := by refine ⟨?_, ?_, ?_⟩ <;> decide +kernel
set_option maxRecDepth 100000 in
set_option maxHeartbeats 4000000 in
theorem w_X12_bit_0 {X : MX} (C : CX X cX12_bit 1 RX12 (some .int) rmX12_bit) (a0 : Int32) (h : AH) (res : Int32 × AH) (hf : f_X12_bit a0 h = some res) (K : ∀ (v : Int32) (h2 : AH), res = (v, h2) → PR X rmX12_bit (some (.int v)) h2) : PT X 1 0 0 0 [(0, .int a0)] [] h := by
  unfold f_X12_bit at hf
  refine pt_iload_n C 0 rfl rfl dX12_bit_0 ?_
  refine pt_if_eq C (tgt := 8) (by decide) dX12_bit_1 (fun c1 => ?_) (fun c1 => ?_)
  · rw [if_pos c1] at hf
    refine pt_iconst C (v := 0) (by decide) dX12_bit_8 ?_
    exact pt_iret C (K _ _ (Option.some.inj hf).symm) (by decide) (by decide) dX12_bit_9
  · rw [if_neg c1] at hf
    refine pt_iconst C (v := 1) (by decide) dX12_bit_4 ?_
    refine pt_goto C (tgt := 9) (by decide) dX12_bit_5 ?_
    exact pt_iret C (K _ _ (Option.some.inj hf).symm) (by decide) (by decide) dX12_bit_9
theorem con_X12_bit (l : Launch) (a0 : Int32) (h : AH) (q : Int32 × AH) (hf : f_X12_bit a0 h = some q) : Con l yX12_bit cX12_bit 1 (some .int) rmX12_bit [.int a0] h (some (.int q.1)) q.2 := Con.of (by decide +kernel) (Nat.le_of_ble_eq_true rfl) (fun X C I K => w_X12_bit_0 C a0 h q hf (fun v h2 e => by cases e; exact K))
abbrev rmX12_apartBy : Room := { frames := 1, cells := 0, slots := 0, locals := 20 }
theorem yn_X12_apartBy : YN yX12_apartBy 3 := by refine ⟨?_, ?_, ?_⟩ <;> decide +kernel
set_option maxRecDepth 100000 in
set_option maxHeartbeats 4000000 in
theorem w_X12_apartBy_L55_J258 {X : MX} (C : CX X cX12_apartBy 14 RX12 (some .int) rmX12_apartBy) (x0 : Nat) (x1 : Int32) (x2 : Int32) (x3 : Int32) (x4 : Int32) (x5 : Int32) (x6 : Int32) (y7 : Int32) (y8 : Int32) (h : AH) (res : (Int32 × AH) ⊕ ((AH))) (hf : f_X12_apartBy_L55_J258 x0 x1 x2 x3 x4 x5 x6 y7 y8 h = some res) (K0 : ∀ (u7 : Int32) (hu : AH), res = .inl (u7, hu) → PT X 14 0 0 55 [(0, .ref x0), (1, .int x1), (2, .int x2), (3, .int x3), (4, .int x4), (5, .int x5), (6, .int x6), (7, .int u7)] [] hu) (K1 : ∀ (hu : AH), res = .inr (hu) → PT X 14 0 0 279 [(0, .ref x0), (1, .int x1), (2, .int x2), (3, .int x3), (4, .int x4), (5, .int x5), (6, .int x6)] [] hu) : PT X 14 0 0 258 [(0, .ref x0), (1, .int x1), (2, .int x2), (3, .int x3), (4, .int x4), (5, .int x5), (6, .int x6), (7, .int y7), (8, .int y8)] [] h := by
  unfold f_X12_apartBy_L55_J258 at hf
  refine pt_aload_n C 0 rfl rfl dX12_apartBy_258 ?_
  refine ob hf (fun v14 g15 hf => ?_)
  refine pt_getR C kX12 43 (by decide) tw_959 (Or.inl rfl) g15 dX12_apartBy_259 ?_
  refine pt_bipush C (v := 25) (by decide) dX12_apartBy_262 ?_
  refine pt_iload C 6 rfl dX12_apartBy_264 ?_
  refine pt_imul C dX12_apartBy_266 ?_
  refine pt_iload C 7 rfl dX12_apartBy_267 ?_
  refine pt_iadd C dX12_apartBy_269 ?_
  refine pt_iload C 8 rfl dX12_apartBy_270 ?_
  refine ob hf (fun h16 g17 hf => ?_)
  refine pt_iast C g17 dX12_apartBy_272 ?_
  refine pt_iinc C 7 [(7, .int (y7 + 1)), (0, .ref x0), (1, .int x1), (2, .int x2), (3, .int x3), (4, .int x4), (5, .int x5), (6, .int x6), (8, .int y8)] rfl (iinc_eq y7 (by decide)) (by decide) rfl dX12_apartBy_273 ?_
  refine pt_goto C (tgt := 55) (by decide) dX12_apartBy_276 ?_
  refine pt_sub C [(0, .ref x0), (1, .int x1), (2, .int x2), (3, .int x3), (4, .int x4), (5, .int x5), (6, .int x6), (7, .int (y7 + 1))] [1, 2, 3, 4, 5, 6, 7, 0] rfl ?_
  exact K0 _ _ (Option.some.inj hf).symm
set_option maxRecDepth 100000 in
set_option maxHeartbeats 4000000 in
theorem w_X12_apartBy_L55_J256 {X : MX} (C : CX X cX12_apartBy 14 RX12 (some .int) rmX12_apartBy) (x0 : Nat) (x1 : Int32) (x2 : Int32) (x3 : Int32) (x4 : Int32) (x5 : Int32) (x6 : Int32) (y7 : Int32) (z0 : Int32) (h : AH) (res : (Int32 × AH) ⊕ ((AH))) (hf : f_X12_apartBy_L55_J256 x0 x1 x2 x3 x4 x5 x6 y7 z0 h = some res) (K0 : ∀ (u7 : Int32) (hu : AH), res = .inl (u7, hu) → PT X 14 0 0 55 [(0, .ref x0), (1, .int x1), (2, .int x2), (3, .int x3), (4, .int x4), (5, .int x5), (6, .int x6), (7, .int u7)] [] hu) (K1 : ∀ (hu : AH), res = .inr (hu) → PT X 14 0 0 279 [(0, .ref x0), (1, .int x1), (2, .int x2), (3, .int x3), (4, .int x4), (5, .int x5), (6, .int x6)] [] hu) : PT X 14 0 0 256 [(0, .ref x0), (1, .int x1), (2, .int x2), (3, .int x3), (4, .int x4), (5, .int x5), (6, .int x6), (7, .int y7)] [.int z0] h := by
  unfold f_X12_apartBy_L55_J256 at hf
  refine pt_istore C [(8, .int z0), (0, .ref x0), (1, .int x1), (2, .int x2), (3, .int x3), (4, .int x4), (5, .int x5), (6, .int x6), (7, .int y7)] (by decide) rfl dX12_apartBy_256 ?_
  refine pt_sub C [(0, .ref x0), (1, .int x1), (2, .int x2), (3, .int x3), (4, .int x4), (5, .int x5), (6, .int x6), (7, .int y7), (8, .int z0)] [1, 2, 3, 4, 5, 6, 7, 8, 0] rfl ?_
  exact w_X12_apartBy_L55_J258 C x0 x1 x2 x3 x4 x5 x6 y7 z0 h _ hf K0 K1
set_option maxRecDepth 100000 in
set_option maxHeartbeats 4000000 in
theorem w_X12_apartBy_L55_J240 {X : MX} (C : CX X cX12_apartBy 14 RX12 (some .int) rmX12_apartBy) (x0 : Nat) (x1 : Int32) (x2 : Int32) (x3 : Int32) (x4 : Int32) (x5 : Int32) (x6 : Int32) (y7 : Int32) (y13 : Int32) (z0 : Int32) (h : AH) (res : (Int32 × AH) ⊕ ((AH))) (hf : f_X12_apartBy_L55_J240 x0 x1 x2 x3 x4 x5 x6 y7 y13 z0 h = some res) (K0 : ∀ (u7 : Int32) (hu : AH), res = .inl (u7, hu) → PT X 14 0 0 55 [(0, .ref x0), (1, .int x1), (2, .int x2), (3, .int x3), (4, .int x4), (5, .int x5), (6, .int x6), (7, .int u7)] [] hu) (K1 : ∀ (hu : AH), res = .inr (hu) → PT X 14 0 0 279 [(0, .ref x0), (1, .int x1), (2, .int x2), (3, .int x3), (4, .int x4), (5, .int x5), (6, .int x6)] [] hu) : PT X 14 0 0 240 [(0, .ref x0), (1, .int x1), (2, .int x2), (3, .int x3), (4, .int x4), (5, .int x5), (6, .int x6), (7, .int y7), (13, .int y13)] [.int z0] h := by
  unfold f_X12_apartBy_L55_J240 at hf
  refine pt_istore C [(8, .int z0), (0, .ref x0), (1, .int x1), (2, .int x2), (3, .int x3), (4, .int x4), (5, .int x5), (6, .int x6), (7, .int y7), (13, .int y13)] (by decide) rfl dX12_apartBy_240 ?_
  refine pt_iload C 9 rfl dX12_apartBy_242 ?_
  refine pt_iload C 0 rfl dX12_apartBy_244 ?_
  refine pt_icmp_ge C (tgt := 254) (by decide) dX12_apartBy_246 (fun c45 => ?_) (fun c45 => ?_)
  · rw [if_pos c45] at hf
    refine pt_iload C 0 rfl dX12_apartBy_254 ?_
    refine pt_sub C [(0, .ref x0), (1, .int x1), (2, .int x2), (3, .int x3), (4, .int x4), (5, .int x5), (6, .int x6), (7, .int y7)] [1, 2, 3, 4, 5, 6, 7, 8] rfl ?_
    exact w_X12_apartBy_L55_J256 C x0 x1 x2 x3 x4 x5 x6 y7 z0 h _ hf K0 K1
  · rw [if_neg c45] at hf
    refine pt_iload C 9 rfl dX12_apartBy_249 ?_
    refine pt_goto C (tgt := 256) (by decide) dX12_apartBy_251 ?_
    refine pt_sub C [(0, .ref x0), (1, .int x1), (2, .int x2), (3, .int x3), (4, .int x4), (5, .int x5), (6, .int x6), (7, .int y7)] [1, 2, 3, 4, 5, 6, 7, 8] rfl ?_
    exact w_X12_apartBy_L55_J256 C x0 x1 x2 x3 x4 x5 x6 y7 y13 h _ hf K0 K1
set_option maxRecDepth 100000 in
set_option maxHeartbeats 4000000 in
theorem w_X12_apartBy_L55_J182 {X : MX} (C : CX X cX12_apartBy 14 RX12 (some .int) rmX12_apartBy) (x0 : Nat) (x1 : Int32) (x2 : Int32) (x3 : Int32) (x4 : Int32) (x5 : Int32) (x6 : Int32) (y7 : Int32) (z0 : Int32) (z1 : Int32) (h : AH) (res : (Int32 × AH) ⊕ ((AH))) (hf : f_X12_apartBy_L55_J182 x0 x1 x2 x3 x4 x5 x6 y7 z0 z1 h = some res) (K0 : ∀ (u7 : Int32) (hu : AH), res = .inl (u7, hu) → PT X 14 0 0 55 [(0, .ref x0), (1, .int x1), (2, .int x2), (3, .int x3), (4, .int x4), (5, .int x5), (6, .int x6), (7, .int u7)] [] hu) (K1 : ∀ (hu : AH), res = .inr (hu) → PT X 14 0 0 279 [(0, .ref x0), (1, .int x1), (2, .int x2), (3, .int x3), (4, .int x4), (5, .int x5), (6, .int x6)] [] hu) : PT X 14 0 0 182 [(0, .ref x0), (1, .int x1), (2, .int x2), (3, .int x3), (4, .int x4), (5, .int x5), (6, .int x6), (7, .int y7)] [.int z0, .int z1] h := by
  unfold f_X12_apartBy_L55_J182 at hf
  refine ob hf (fun q34 g35 hf => ?_)
  refine pt_callS C (As := [.int z0]) (rest := [.int z1]) (v := (some (.int q34.1))) (fun l => con_X12_bit l z0 h _ g35) tw_1127 tw_1125 tw_1126 tw_13 yn_X12_bit (by decide) (Nat.le_of_ble_eq_true rfl) dX12_apartBy_182 rfl ?_
  show PT X 14 0 0 185 [(0, .ref x0), (1, .int x1), (2, .int x2), (3, .int x3), (4, .int x4), (5, .int x5), (6, .int x6), (7, .int y7)] [.int q34.1, .int z1] q34.2
  refine pt_iadd C dX12_apartBy_185 ?_
  refine pt_istore C [(11, .int (z1 + q34.1)), (0, .ref x0), (1, .int x1), (2, .int x2), (3, .int x3), (4, .int x4), (5, .int x5), (6, .int x6), (7, .int y7)] (by decide) rfl dX12_apartBy_186 ?_
  refine pt_aload_n C 1 rfl rfl dX12_apartBy_188 ?_
  refine ob hf (fun v36 g37 hf => ?_)
  refine pt_getR C kX12 43 (by decide) tw_959 (Or.inl rfl) g37 dX12_apartBy_189 ?_
  refine pt_bipush C (v := 25) (by decide) dX12_apartBy_192 ?_
  refine pt_iload C 7 rfl dX12_apartBy_194 ?_
  refine pt_iconst C (v := 1) (by decide) dX12_apartBy_196 ?_
  refine pt_isub C dX12_apartBy_197 ?_
  refine pt_imul C dX12_apartBy_198 ?_
  refine pt_iload C 8 rfl dX12_apartBy_199 ?_
  refine pt_iadd C dX12_apartBy_201 ?_
  refine ob hf (fun v38 g39 hf => ?_)
  refine pt_iald C g39 dX12_apartBy_202 ?_
  refine pt_iconst C (v := 1) (by decide) dX12_apartBy_203 ?_
  refine pt_iadd C dX12_apartBy_204 ?_
  refine pt_istore C [(12, .int (v38 + 1)), (11, .int (z1 + q34.1)), (0, .ref x0), (1, .int x1), (2, .int x2), (3, .int x3), (4, .int x4), (5, .int x5), (6, .int x6), (7, .int y7)] (by decide) rfl dX12_apartBy_205 ?_
  refine pt_aload_n C 2 rfl rfl dX12_apartBy_207 ?_
  refine ob hf (fun v40 g41 hf => ?_)
  refine pt_getR C kX12 43 (by decide) tw_959 (Or.inl rfl) g41 dX12_apartBy_208 ?_
  refine pt_bipush C (v := 25) (by decide) dX12_apartBy_211 ?_
  refine pt_iload C 8 rfl dX12_apartBy_213 ?_
  refine pt_imul C dX12_apartBy_215 ?_
  refine pt_iload C 9 rfl dX12_apartBy_216 ?_
  refine pt_iadd C dX12_apartBy_218 ?_
  refine pt_iconst C (v := 1) (by decide) dX12_apartBy_219 ?_
  refine pt_isub C dX12_apartBy_220 ?_
  refine ob hf (fun v42 g43 hf => ?_)
  refine pt_iald C g43 dX12_apartBy_221 ?_
  refine pt_iconst C (v := 1) (by decide) dX12_apartBy_222 ?_
  refine pt_iadd C dX12_apartBy_223 ?_
  refine pt_istore C [(13, .int (v42 + 1)), (12, .int (v38 + 1)), (11, .int (z1 + q34.1)), (0, .ref x0), (1, .int x1), (2, .int x2), (3, .int x3), (4, .int x4), (5, .int x5), (6, .int x6), (7, .int y7)] (by decide) rfl dX12_apartBy_224 ?_
  refine pt_iload C 2 rfl dX12_apartBy_226 ?_
  refine pt_iload C 1 rfl dX12_apartBy_228 ?_
  refine pt_icmp_ge C (tgt := 238) (by decide) dX12_apartBy_230 (fun c44 => ?_) (fun c44 => ?_)
  · rw [if_pos c44] at hf
    refine pt_iload C 1 rfl dX12_apartBy_238 ?_
    refine pt_sub C [(0, .ref x0), (1, .int x1), (2, .int x2), (3, .int x3), (4, .int x4), (5, .int x5), (6, .int x6), (7, .int y7), (13, .int (v42 + 1))] [3, 4, 5, 6, 7, 8, 9, 10, 0] rfl ?_
    exact w_X12_apartBy_L55_J240 C x0 x1 x2 x3 x4 x5 x6 y7 (v42 + 1) (v38 + 1) q34.2 _ hf K0 K1
  · rw [if_neg c44] at hf
    refine pt_iload C 2 rfl dX12_apartBy_233 ?_
    refine pt_goto C (tgt := 240) (by decide) dX12_apartBy_235 ?_
    refine pt_sub C [(0, .ref x0), (1, .int x1), (2, .int x2), (3, .int x3), (4, .int x4), (5, .int x5), (6, .int x6), (7, .int y7), (13, .int (v42 + 1))] [3, 4, 5, 6, 7, 8, 9, 10, 0] rfl ?_
    exact w_X12_apartBy_L55_J240 C x0 x1 x2 x3 x4 x5 x6 y7 (v42 + 1) (z1 + q34.1) q34.2 _ hf K0 K1
set_option maxRecDepth 100000 in
set_option maxHeartbeats 4000000 in
theorem w_X12_apartBy_L55_J151 {X : MX} (C : CX X cX12_apartBy 14 RX12 (some .int) rmX12_apartBy) (x0 : Nat) (x1 : Int32) (x2 : Int32) (x3 : Int32) (x4 : Int32) (x5 : Int32) (x6 : Int32) (y7 : Int32) (y9 : Int32) (z0 : Int32) (h : AH) (res : (Int32 × AH) ⊕ ((AH))) (hf : f_X12_apartBy_L55_J151 x0 x1 x2 x3 x4 x5 x6 y7 y9 z0 h = some res) (K0 : ∀ (u7 : Int32) (hu : AH), res = .inl (u7, hu) → PT X 14 0 0 55 [(0, .ref x0), (1, .int x1), (2, .int x2), (3, .int x3), (4, .int x4), (5, .int x5), (6, .int x6), (7, .int u7)] [] hu) (K1 : ∀ (hu : AH), res = .inr (hu) → PT X 14 0 0 279 [(0, .ref x0), (1, .int x1), (2, .int x2), (3, .int x3), (4, .int x4), (5, .int x5), (6, .int x6)] [] hu) : PT X 14 0 0 151 [(0, .ref x0), (1, .int x1), (2, .int x2), (3, .int x3), (4, .int x4), (5, .int x5), (6, .int x6), (7, .int y7), (9, .int y9)] [.int z0] h := by
  unfold f_X12_apartBy_L55_J151 at hf
  refine pt_istore C [(10, .int z0), (0, .ref x0), (1, .int x1), (2, .int x2), (3, .int x3), (4, .int x4), (5, .int x5), (6, .int x6), (7, .int y7), (9, .int y9)] (by decide) rfl dX12_apartBy_151 ?_
  refine pt_aload_n C 1 rfl rfl dX12_apartBy_153 ?_
  refine ob hf (fun v29 g30 hf => ?_)
  refine pt_getR C kX12 43 (by decide) tw_959 (Or.inl rfl) g30 dX12_apartBy_154 ?_
  refine pt_bipush C (v := 25) (by decide) dX12_apartBy_157 ?_
  refine pt_iload C 7 rfl dX12_apartBy_159 ?_
  refine pt_iconst C (v := 1) (by decide) dX12_apartBy_161 ?_
  refine pt_isub C dX12_apartBy_162 ?_
  refine pt_imul C dX12_apartBy_163 ?_
  refine pt_iload C 8 rfl dX12_apartBy_164 ?_
  refine pt_iadd C dX12_apartBy_166 ?_
  refine pt_iconst C (v := 1) (by decide) dX12_apartBy_167 ?_
  refine pt_isub C dX12_apartBy_168 ?_
  refine ob hf (fun v31 g32 hf => ?_)
  refine pt_iald C g32 dX12_apartBy_169 ?_
  refine pt_iload C 9 rfl dX12_apartBy_170 ?_
  refine pt_iload C 0 rfl dX12_apartBy_172 ?_
  refine pt_icmp_eq C (tgt := 181) (by decide) dX12_apartBy_174 (fun c33 => ?_) (fun c33 => ?_)
  · rw [if_pos c33] at hf
    refine pt_iconst C (v := 0) (by decide) dX12_apartBy_181 ?_
    refine pt_sub C [(0, .ref x0), (1, .int x1), (2, .int x2), (3, .int x3), (4, .int x4), (5, .int x5), (6, .int x6), (7, .int y7)] [1, 2, 3, 4, 5, 6, 7, 8] rfl ?_
    exact w_X12_apartBy_L55_J182 C x0 x1 x2 x3 x4 x5 x6 y7 0 v31 h _ hf K0 K1
  · rw [if_neg c33] at hf
    refine pt_iconst C (v := 1) (by decide) dX12_apartBy_177 ?_
    refine pt_goto C (tgt := 182) (by decide) dX12_apartBy_178 ?_
    refine pt_sub C [(0, .ref x0), (1, .int x1), (2, .int x2), (3, .int x3), (4, .int x4), (5, .int x5), (6, .int x6), (7, .int y7)] [1, 2, 3, 4, 5, 6, 7, 8] rfl ?_
    exact w_X12_apartBy_L55_J182 C x0 x1 x2 x3 x4 x5 x6 y7 1 v31 h _ hf K0 K1
set_option maxRecDepth 100000 in
set_option maxHeartbeats 4000000 in
theorem w_X12_apartBy_L55_J114 {X : MX} (C : CX X cX12_apartBy 14 RX12 (some .int) rmX12_apartBy) (x0 : Nat) (x1 : Int32) (x2 : Int32) (x3 : Int32) (x4 : Int32) (x5 : Int32) (x6 : Int32) (y7 : Int32) (z0 : Int32) (h : AH) (res : (Int32 × AH) ⊕ ((AH))) (hf : f_X12_apartBy_L55_J114 x0 x1 x2 x3 x4 x5 x6 y7 z0 h = some res) (K0 : ∀ (u7 : Int32) (hu : AH), res = .inl (u7, hu) → PT X 14 0 0 55 [(0, .ref x0), (1, .int x1), (2, .int x2), (3, .int x3), (4, .int x4), (5, .int x5), (6, .int x6), (7, .int u7)] [] hu) (K1 : ∀ (hu : AH), res = .inr (hu) → PT X 14 0 0 279 [(0, .ref x0), (1, .int x1), (2, .int x2), (3, .int x3), (4, .int x4), (5, .int x5), (6, .int x6)] [] hu) : PT X 14 0 0 114 [(0, .ref x0), (1, .int x1), (2, .int x2), (3, .int x3), (4, .int x4), (5, .int x5), (6, .int x6), (7, .int y7)] [.int z0] h := by
  unfold f_X12_apartBy_L55_J114 at hf
  refine pt_istore C [(9, .int z0), (0, .ref x0), (1, .int x1), (2, .int x2), (3, .int x3), (4, .int x4), (5, .int x5), (6, .int x6), (7, .int y7)] (by decide) rfl dX12_apartBy_114 ?_
  refine pt_iload_n C 2 rfl rfl dX12_apartBy_116 ?_
  refine pt_if_eq C (tgt := 137) (by decide) dX12_apartBy_117 (fun c24 => ?_) (fun c24 => ?_)
  · rw [if_pos c24] at hf
    refine pt_aload_n C 1 rfl rfl dX12_apartBy_137 ?_
    refine ob hf (fun v25 g26 hf => ?_)
    refine pt_getR C kX12 4 (by decide) tw_920 (Or.inl rfl) g26 dX12_apartBy_138 ?_
    refine pt_bipush C (v := 12) (by decide) dX12_apartBy_141 ?_
    refine pt_iload_n C 4 rfl rfl dX12_apartBy_143 ?_
    refine pt_imul C dX12_apartBy_144 ?_
    refine pt_iload C 8 rfl dX12_apartBy_145 ?_
    refine pt_iadd C dX12_apartBy_147 ?_
    refine pt_iconst C (v := 1) (by decide) dX12_apartBy_148 ?_
    refine pt_isub C dX12_apartBy_149 ?_
    refine ob hf (fun v27 g28 hf => ?_)
    refine pt_iald C g28 dX12_apartBy_150 ?_
    refine pt_sub C [(0, .ref x0), (1, .int x1), (2, .int x2), (3, .int x3), (4, .int x4), (5, .int x5), (6, .int x6), (7, .int y7), (9, .int z0)] [1, 2, 3, 4, 5, 6, 7, 8, 0] rfl ?_
    exact w_X12_apartBy_L55_J151 C x0 x1 x2 x3 x4 x5 x6 y7 z0 v27 h _ hf K0 K1
  · rw [if_neg c24] at hf
    refine pt_aload_n C 1 rfl rfl dX12_apartBy_120 ?_
    refine ob hf (fun v46 g47 hf => ?_)
    refine pt_getR C kX12 3 (by decide) tw_919 (Or.inl rfl) g47 dX12_apartBy_121 ?_
    refine pt_bipush C (v := 24) (by decide) dX12_apartBy_124 ?_
    refine pt_iload_n C 4 rfl rfl dX12_apartBy_126 ?_
    refine pt_imul C dX12_apartBy_127 ?_
    refine pt_iload C 8 rfl dX12_apartBy_128 ?_
    refine pt_iadd C dX12_apartBy_130 ?_
    refine pt_iconst C (v := 1) (by decide) dX12_apartBy_131 ?_
    refine pt_isub C dX12_apartBy_132 ?_
    refine ob hf (fun v48 g49 hf => ?_)
    refine pt_iald C g49 dX12_apartBy_133 ?_
    refine pt_goto C (tgt := 151) (by decide) dX12_apartBy_134 ?_
    refine pt_sub C [(0, .ref x0), (1, .int x1), (2, .int x2), (3, .int x3), (4, .int x4), (5, .int x5), (6, .int x6), (7, .int y7), (9, .int z0)] [1, 2, 3, 4, 5, 6, 7, 8, 0] rfl ?_
    exact w_X12_apartBy_L55_J151 C x0 x1 x2 x3 x4 x5 x6 y7 z0 v48 h _ hf K0 K1
set_option maxRecDepth 100000 in
set_option maxHeartbeats 4000000 in
theorem w_X12_apartBy_L55 {X : MX} (C : CX X cX12_apartBy 14 RX12 (some .int) rmX12_apartBy) (x0 : Nat) (x1 : Int32) (x2 : Int32) (x3 : Int32) (x4 : Int32) (x5 : Int32) (x6 : Int32) (s : Int32 × AH) (res : (Int32 × AH) ⊕ ((AH))) (hf : f_X12_apartBy_L55 x0 x1 x2 x3 x4 x5 x6 s = some res) (K0 : ∀ (u7 : Int32) (hu : AH), res = .inl (u7, hu) → PT X 14 0 0 55 [(0, .ref x0), (1, .int x1), (2, .int x2), (3, .int x3), (4, .int x4), (5, .int x5), (6, .int x6), (7, .int u7)] [] hu) (K1 : ∀ (hu : AH), res = .inr (hu) → PT X 14 0 0 279 [(0, .ref x0), (1, .int x1), (2, .int x2), (3, .int x3), (4, .int x4), (5, .int x5), (6, .int x6)] [] hu) : PT X 14 0 0 55 [(0, .ref x0), (1, .int x1), (2, .int x2), (3, .int x3), (4, .int x4), (5, .int x5), (6, .int x6), (7, .int s.1)] [] s.2 := by
  unfold f_X12_apartBy_L55 at hf
  refine pt_iload C 7 rfl dX12_apartBy_55 ?_
  refine pt_iload C 5 rfl dX12_apartBy_57 ?_
  refine pt_icmp_gt C (tgt := 279) (by decide) dX12_apartBy_59 (fun c12 => ?_) (fun c12 => ?_)
  · rw [if_pos c12] at hf
    refine pt_sub C [(0, .ref x0), (1, .int x1), (2, .int x2), (3, .int x3), (4, .int x4), (5, .int x5), (6, .int x6)] [0, 1, 2, 3, 4, 5, 6] rfl ?_
    exact K1 _ (Option.some.inj hf).symm
  · rw [if_neg c12] at hf
    refine pt_iload C 6 rfl dX12_apartBy_62 ?_
    refine pt_iload C 7 rfl dX12_apartBy_64 ?_
    refine pt_iadd C dX12_apartBy_66 ?_
    refine pt_istore C [(8, .int (x6 + s.1)), (0, .ref x0), (1, .int x1), (2, .int x2), (3, .int x3), (4, .int x4), (5, .int x5), (6, .int x6), (7, .int s.1)] (by decide) rfl dX12_apartBy_67 ?_
    refine pt_iload C 7 rfl dX12_apartBy_69 ?_
    refine pt_if_le C (tgt := 258) (by decide) dX12_apartBy_71 (fun c13 => ?_) (fun c13 => ?_)
    · rw [if_pos c13] at hf
      refine pt_sub C [(0, .ref x0), (1, .int x1), (2, .int x2), (3, .int x3), (4, .int x4), (5, .int x5), (6, .int x6), (7, .int s.1), (8, .int (x6 + s.1))] [1, 2, 3, 4, 5, 6, 7, 8, 0] rfl ?_
      exact w_X12_apartBy_L55_J258 C x0 x1 x2 x3 x4 x5 x6 s.1 (x6 + s.1) s.2 _ hf K0 K1
    · rw [if_neg c13] at hf
      refine pt_iload C 8 rfl dX12_apartBy_74 ?_
      refine pt_if_le C (tgt := 258) (by decide) dX12_apartBy_76 (fun c18 => ?_) (fun c18 => ?_)
      · rw [if_pos c18] at hf
        refine pt_sub C [(0, .ref x0), (1, .int x1), (2, .int x2), (3, .int x3), (4, .int x4), (5, .int x5), (6, .int x6), (7, .int s.1), (8, .int (x6 + s.1))] [1, 2, 3, 4, 5, 6, 7, 8, 0] rfl ?_
        exact w_X12_apartBy_L55_J258 C x0 x1 x2 x3 x4 x5 x6 s.1 (x6 + s.1) s.2 _ hf K0 K1
      · rw [if_neg c18] at hf
        refine pt_iload_n C 2 rfl rfl dX12_apartBy_79 ?_
        refine pt_if_eq C (tgt := 100) (by decide) dX12_apartBy_80 (fun c19 => ?_) (fun c19 => ?_)
        · rw [if_pos c19] at hf
          refine pt_aload_n C 1 rfl rfl dX12_apartBy_100 ?_
          refine ob hf (fun v20 g21 hf => ?_)
          refine pt_getR C kX12 4 (by decide) tw_920 (Or.inl rfl) g21 dX12_apartBy_101 ?_
          refine pt_bipush C (v := 12) (by decide) dX12_apartBy_104 ?_
          refine pt_iload_n C 3 rfl rfl dX12_apartBy_106 ?_
          refine pt_imul C dX12_apartBy_107 ?_
          refine pt_iload C 7 rfl dX12_apartBy_108 ?_
          refine pt_iadd C dX12_apartBy_110 ?_
          refine pt_iconst C (v := 1) (by decide) dX12_apartBy_111 ?_
          refine pt_isub C dX12_apartBy_112 ?_
          refine ob hf (fun v22 g23 hf => ?_)
          refine pt_iald C g23 dX12_apartBy_113 ?_
          refine pt_sub C [(0, .ref x0), (1, .int x1), (2, .int x2), (3, .int x3), (4, .int x4), (5, .int x5), (6, .int x6), (7, .int s.1)] [1, 2, 3, 4, 5, 6, 7, 8] rfl ?_
          exact w_X12_apartBy_L55_J114 C x0 x1 x2 x3 x4 x5 x6 s.1 v22 s.2 _ hf K0 K1
        · rw [if_neg c19] at hf
          refine pt_aload_n C 1 rfl rfl dX12_apartBy_83 ?_
          refine ob hf (fun v50 g51 hf => ?_)
          refine pt_getR C kX12 3 (by decide) tw_919 (Or.inl rfl) g51 dX12_apartBy_84 ?_
          refine pt_bipush C (v := 24) (by decide) dX12_apartBy_87 ?_
          refine pt_iload_n C 3 rfl rfl dX12_apartBy_89 ?_
          refine pt_imul C dX12_apartBy_90 ?_
          refine pt_iload C 7 rfl dX12_apartBy_91 ?_
          refine pt_iadd C dX12_apartBy_93 ?_
          refine pt_iconst C (v := 1) (by decide) dX12_apartBy_94 ?_
          refine pt_isub C dX12_apartBy_95 ?_
          refine ob hf (fun v52 g53 hf => ?_)
          refine pt_iald C g53 dX12_apartBy_96 ?_
          refine pt_goto C (tgt := 114) (by decide) dX12_apartBy_97 ?_
          refine pt_sub C [(0, .ref x0), (1, .int x1), (2, .int x2), (3, .int x3), (4, .int x4), (5, .int x5), (6, .int x6), (7, .int s.1)] [1, 2, 3, 4, 5, 6, 7, 8] rfl ?_
          exact w_X12_apartBy_L55_J114 C x0 x1 x2 x3 x4 x5 x6 s.1 v52 s.2 _ hf K0 K1
theorem l_X12_apartBy_L55 {X : MX} (C : CX X cX12_apartBy 14 RX12 (some .int) rmX12_apartBy) (x0 : Nat) (x1 : Int32) (x2 : Int32) (x3 : Int32) (x4 : Int32) (x5 : Int32) (x6 : Int32) : ∀ (n : Nat) (s : Int32 × AH) (r : (AH)), iter (f_X12_apartBy_L55 x0 x1 x2 x3 x4 x5 x6) n s = some r → (fun r : (AH) => PT X 14 0 0 279 [(0, .ref x0), (1, .int x1), (2, .int x2), (3, .int x3), (4, .int x4), (5, .int x5), (6, .int x6)] [] r) r → PT X 14 0 0 55 [(0, .ref x0), (1, .int x1), (2, .int x2), (3, .int x3), (4, .int x4), (5, .int x5), (6, .int x6), (7, .int s.1)] [] s.2 :=
  iter_W (fun s : Int32 × AH => PT X 14 0 0 55 [(0, .ref x0), (1, .int x1), (2, .int x2), (3, .int x3), (4, .int x4), (5, .int x5), (6, .int x6), (7, .int s.1)] [] s.2) (fun r : (AH) => PT X 14 0 0 279 [(0, .ref x0), (1, .int x1), (2, .int x2), (3, .int x3), (4, .int x4), (5, .int x5), (6, .int x6)] [] r) _ (fun s s2 hf P => w_X12_apartBy_L55 C x0 x1 x2 x3 x4 x5 x6 s _ hf (fun u7 hu e => by cases e; exact P) (fun hu e => by cases e)) (fun s r hf P => w_X12_apartBy_L55 C x0 x1 x2 x3 x4 x5 x6 s _ hf (fun u7 hu e => by cases e) (fun hu e => by cases e; exact P))
set_option maxRecDepth 100000 in
set_option maxHeartbeats 4000000 in
theorem w_X12_apartBy_L45 {X : MX} (C : CX X cX12_apartBy 14 RX12 (some .int) rmX12_apartBy) (x0 : Nat) (x1 : Int32) (x2 : Int32) (x3 : Int32) (x4 : Int32) (x5 : Int32) (s : Int32 × AH) (res : (Int32 × AH) ⊕ ((AH))) (hf : f_X12_apartBy_L45 x0 x1 x2 x3 x4 x5 s = some res) (K0 : ∀ (u6 : Int32) (hu : AH), res = .inl (u6, hu) → PT X 14 0 0 45 [(0, .ref x0), (1, .int x1), (2, .int x2), (3, .int x3), (4, .int x4), (5, .int x5), (6, .int u6)] [] hu) (K1 : ∀ (hu : AH), res = .inr (hu) → PT X 14 0 0 285 [(0, .ref x0), (4, .int x4), (5, .int x5)] [] hu) : PT X 14 0 0 45 [(0, .ref x0), (1, .int x1), (2, .int x2), (3, .int x3), (4, .int x4), (5, .int x5), (6, .int s.1)] [] s.2 := by
  unfold f_X12_apartBy_L45 at hf
  refine pt_iload C 6 rfl dX12_apartBy_45 ?_
  refine pt_iload C 4 rfl dX12_apartBy_47 ?_
  refine pt_icmp_gt C (tgt := 285) (by decide) dX12_apartBy_49 (fun c11 => ?_) (fun c11 => ?_)
  · rw [if_pos c11] at hf
    refine pt_sub C [(0, .ref x0), (4, .int x4), (5, .int x5)] [0, 4, 5] rfl ?_
    exact K1 _ (Option.some.inj hf).symm
  · rw [if_neg c11] at hf
    refine pt_iconst C (v := 0) (by decide) dX12_apartBy_52 ?_
    refine pt_istore C [(7, .int 0), (0, .ref x0), (1, .int x1), (2, .int x2), (3, .int x3), (4, .int x4), (5, .int x5), (6, .int s.1)] (by decide) rfl dX12_apartBy_53 ?_
    refine pt_sub C [(0, .ref x0), (1, .int x1), (2, .int x2), (3, .int x3), (4, .int x4), (5, .int x5), (6, .int s.1), (7, .int 0)] [1, 2, 3, 4, 5, 6, 7, 0] rfl ?_
    refine ob hf (fun e54 g55 hf => ?_)
    refine l_X12_apartBy_L55 C x0 x1 x2 x3 x4 x5 s.1 _ _ _ g55 ?_
    refine pt_iinc C 6 [(6, .int (s.1 + 1)), (0, .ref x0), (1, .int x1), (2, .int x2), (3, .int x3), (4, .int x4), (5, .int x5)] rfl (iinc_eq s.1 (by decide)) (by decide) rfl dX12_apartBy_279 ?_
    refine pt_goto C (tgt := 45) (by decide) dX12_apartBy_282 ?_
    refine pt_sub C [(0, .ref x0), (1, .int x1), (2, .int x2), (3, .int x3), (4, .int x4), (5, .int x5), (6, .int (s.1 + 1))] [1, 2, 3, 4, 5, 6, 0] rfl ?_
    exact K0 _ _ (Option.some.inj hf).symm
theorem l_X12_apartBy_L45 {X : MX} (C : CX X cX12_apartBy 14 RX12 (some .int) rmX12_apartBy) (x0 : Nat) (x1 : Int32) (x2 : Int32) (x3 : Int32) (x4 : Int32) (x5 : Int32) : ∀ (n : Nat) (s : Int32 × AH) (r : (AH)), iter (f_X12_apartBy_L45 x0 x1 x2 x3 x4 x5) n s = some r → (fun r : (AH) => PT X 14 0 0 285 [(0, .ref x0), (4, .int x4), (5, .int x5)] [] r) r → PT X 14 0 0 45 [(0, .ref x0), (1, .int x1), (2, .int x2), (3, .int x3), (4, .int x4), (5, .int x5), (6, .int s.1)] [] s.2 :=
  iter_W (fun s : Int32 × AH => PT X 14 0 0 45 [(0, .ref x0), (1, .int x1), (2, .int x2), (3, .int x3), (4, .int x4), (5, .int x5), (6, .int s.1)] [] s.2) (fun r : (AH) => PT X 14 0 0 285 [(0, .ref x0), (4, .int x4), (5, .int x5)] [] r) _ (fun s s2 hf P => w_X12_apartBy_L45 C x0 x1 x2 x3 x4 x5 s _ hf (fun u6 hu e => by cases e; exact P) (fun hu e => by cases e)) (fun s r hf P => w_X12_apartBy_L45 C x0 x1 x2 x3 x4 x5 s _ hf (fun u6 hu e => by cases e) (fun hu e => by cases e; exact P))
set_option maxRecDepth 100000 in
set_option maxHeartbeats 4000000 in
theorem w_X12_apartBy_J40 {X : MX} (C : CX X cX12_apartBy 14 RX12 (some .int) rmX12_apartBy) (a0 : Nat) (a1 : Int32) (a2 : Int32) (a3 : Int32) (y4 : Int32) (z0 : Int32) (h : AH) (res : Int32 × AH) (hf : f_X12_apartBy_J40 a0 a1 a2 a3 y4 z0 h = some res) (K : ∀ (v : Int32) (h2 : AH), res = (v, h2) → PR X rmX12_apartBy (some (.int v)) h2) : PT X 14 0 0 40 [(0, .ref a0), (1, .int a1), (2, .int a2), (3, .int a3), (4, .int y4)] [.int z0] h := by
  unfold f_X12_apartBy_J40 at hf
  refine pt_istore C [(5, .int z0), (0, .ref a0), (1, .int a1), (2, .int a2), (3, .int a3), (4, .int y4)] (by decide) rfl dX12_apartBy_40 ?_
  refine pt_iconst C (v := 0) (by decide) dX12_apartBy_42 ?_
  refine pt_istore C [(6, .int 0), (5, .int z0), (0, .ref a0), (1, .int a1), (2, .int a2), (3, .int a3), (4, .int y4)] (by decide) rfl dX12_apartBy_43 ?_
  refine pt_sub C [(0, .ref a0), (1, .int a1), (2, .int a2), (3, .int a3), (4, .int y4), (5, .int z0), (6, .int 0)] [2, 3, 4, 5, 6, 1, 0] rfl ?_
  refine ob hf (fun e56 g57 hf => ?_)
  refine l_X12_apartBy_L45 C a0 a1 a2 a3 y4 z0 _ _ _ g57 ?_
  refine pt_aload_n C 0 rfl rfl dX12_apartBy_285 ?_
  refine ob hf (fun v58 g59 hf => ?_)
  refine pt_getR C kX12 43 (by decide) tw_959 (Or.inl rfl) g59 dX12_apartBy_286 ?_
  refine pt_bipush C (v := 25) (by decide) dX12_apartBy_289 ?_
  refine pt_iload C 1 rfl dX12_apartBy_291 ?_
  refine pt_imul C dX12_apartBy_293 ?_
  refine pt_iload C 2 rfl dX12_apartBy_294 ?_
  refine pt_iadd C dX12_apartBy_296 ?_
  refine ob hf (fun v60 g61 hf => ?_)
  refine pt_iald C g61 dX12_apartBy_297 ?_
  exact pt_iret C (K _ _ (Option.some.inj hf).symm) (by decide) (by decide) dX12_apartBy_298
set_option maxRecDepth 100000 in
set_option maxHeartbeats 4000000 in
theorem w_X12_apartBy_J19 {X : MX} (C : CX X cX12_apartBy 14 RX12 (some .int) rmX12_apartBy) (a0 : Nat) (a1 : Int32) (a2 : Int32) (a3 : Int32) (z0 : Int32) (h : AH) (res : Int32 × AH) (hf : f_X12_apartBy_J19 a0 a1 a2 a3 z0 h = some res) (K : ∀ (v : Int32) (h2 : AH), res = (v, h2) → PR X rmX12_apartBy (some (.int v)) h2) : PT X 14 0 0 19 [(0, .ref a0), (1, .int a1), (2, .int a2), (3, .int a3)] [.int z0] h := by
  unfold f_X12_apartBy_J19 at hf
  refine pt_istore C [(4, .int z0), (0, .ref a0), (1, .int a1), (2, .int a2), (3, .int a3)] (by decide) rfl dX12_apartBy_19 ?_
  refine pt_iload_n C 2 rfl rfl dX12_apartBy_21 ?_
  refine pt_if_eq C (tgt := 34) (by decide) dX12_apartBy_22 (fun c6 => ?_) (fun c6 => ?_)
  · rw [if_pos c6] at hf
    refine pt_aload_n C 1 rfl rfl dX12_apartBy_34 ?_
    refine ob hf (fun v7 g8 hf => ?_)
    refine pt_getR C kX12 2 (by decide) tw_918 (Or.inl rfl) g8 dX12_apartBy_35 ?_
    refine pt_iload_n C 4 rfl rfl dX12_apartBy_38 ?_
    refine ob hf (fun v9 g10 hf => ?_)
    refine pt_iald C g10 dX12_apartBy_39 ?_
    refine pt_sub C [(0, .ref a0), (1, .int a1), (2, .int a2), (3, .int a3), (4, .int z0)] [1, 2, 3, 4, 0] rfl ?_
    exact w_X12_apartBy_J40 C a0 a1 a2 a3 z0 v9 h _ hf K
  · rw [if_neg c6] at hf
    refine pt_aload_n C 1 rfl rfl dX12_apartBy_25 ?_
    refine ob hf (fun v62 g63 hf => ?_)
    refine pt_getR C kX12 1 (by decide) tw_917 (Or.inl rfl) g63 dX12_apartBy_26 ?_
    refine pt_iload_n C 4 rfl rfl dX12_apartBy_29 ?_
    refine ob hf (fun v64 g65 hf => ?_)
    refine pt_iald C g65 dX12_apartBy_30 ?_
    refine pt_goto C (tgt := 40) (by decide) dX12_apartBy_31 ?_
    refine pt_sub C [(0, .ref a0), (1, .int a1), (2, .int a2), (3, .int a3), (4, .int z0)] [1, 2, 3, 4, 0] rfl ?_
    exact w_X12_apartBy_J40 C a0 a1 a2 a3 z0 v64 h _ hf K
set_option maxRecDepth 100000 in
set_option maxHeartbeats 4000000 in
theorem w_X12_apartBy_0 {X : MX} (C : CX X cX12_apartBy 14 RX12 (some .int) rmX12_apartBy) (a0 : Nat) (a1 : Int32) (a2 : Int32) (a3 : Int32) (h : AH) (res : Int32 × AH) (hf : f_X12_apartBy a0 a1 a2 a3 h = some res) (K : ∀ (v : Int32) (h2 : AH), res = (v, h2) → PR X rmX12_apartBy (some (.int v)) h2) : PT X 14 0 0 0 [(0, .ref a0), (1, .int a1), (2, .int a2), (3, .int a3)] [] h := by
  unfold f_X12_apartBy at hf
  refine pt_iload_n C 1 rfl rfl dX12_apartBy_0 ?_
  refine pt_if_eq C (tgt := 13) (by decide) dX12_apartBy_1 (fun c1 => ?_) (fun c1 => ?_)
  · rw [if_pos c1] at hf
    refine pt_aload_n C 0 rfl rfl dX12_apartBy_13 ?_
    refine ob hf (fun v2 g3 hf => ?_)
    refine pt_getR C kX12 2 (by decide) tw_918 (Or.inl rfl) g3 dX12_apartBy_14 ?_
    refine pt_iload_n C 2 rfl rfl dX12_apartBy_17 ?_
    refine ob hf (fun v4 g5 hf => ?_)
    refine pt_iald C g5 dX12_apartBy_18 ?_
    exact w_X12_apartBy_J19 C a0 a1 a2 a3 v4 h _ hf K
  · rw [if_neg c1] at hf
    refine pt_aload_n C 0 rfl rfl dX12_apartBy_4 ?_
    refine ob hf (fun v66 g67 hf => ?_)
    refine pt_getR C kX12 1 (by decide) tw_917 (Or.inl rfl) g67 dX12_apartBy_5 ?_
    refine pt_iload_n C 2 rfl rfl dX12_apartBy_8 ?_
    refine ob hf (fun v68 g69 hf => ?_)
    refine pt_iald C g69 dX12_apartBy_9 ?_
    refine pt_goto C (tgt := 19) (by decide) dX12_apartBy_10 ?_
    exact w_X12_apartBy_J19 C a0 a1 a2 a3 v68 h _ hf K
theorem con_X12_apartBy (l : Launch) (a0 : Nat) (a1 : Int32) (a2 : Int32) (a3 : Int32) (h : AH) (q : Int32 × AH) (hf : f_X12_apartBy a0 a1 a2 a3 h = some q) : Con l yX12_apartBy cX12_apartBy 14 (some .int) rmX12_apartBy [.ref a0, .int a1, .int a2, .int a3] h (some (.int q.1)) q.2 := Con.of (by decide +kernel) (Nat.le_of_ble_eq_true rfl) (fun X C I K => w_X12_apartBy_0 C a0 a1 a2 a3 h q hf (fun v h2 e => by cases e; exact K))
abbrev rmX12_apartOf : Room := { frames := 2, cells := 0, slots := 0, locals := 53 }
theorem yn_X12_apartOf : YN yX12_apartOf 2 := by refine ⟨?_, ?_, ?_⟩ <;> decide +kernel
set_option maxRecDepth 100000 in
set_option maxHeartbeats 4000000 in
theorem w_X12_apartOf_0 {X : MX} (C : CX X cX12_apartOf 3 RX12 (some .int) rmX12_apartOf) (a0 : Nat) (a1 : Int32) (a2 : Int32) (h : AH) (res : Int32 × AH) (hf : f_X12_apartOf a0 a1 a2 h = some res) (K : ∀ (v : Int32) (h2 : AH), res = (v, h2) → PR X rmX12_apartOf (some (.int v)) h2) : PT X 3 0 0 0 [(0, .ref a0), (1, .int a1), (2, .int a2)] [] h := by
  unfold f_X12_apartOf at hf
  refine pt_aload_n C 0 rfl rfl dX12_apartOf_0 ?_
  refine pt_iconst C (v := 1) (by decide) dX12_apartOf_1 ?_
  refine pt_iload_n C 1 rfl rfl dX12_apartOf_2 ?_
  refine pt_iload_n C 2 rfl rfl dX12_apartOf_3 ?_
  refine ob hf (fun _ g3 hf => ?_)
  refine ob hf (fun q1 g2 hf => ?_)
  refine pt_callV C (As := [.int 1, .int a1, .int a2]) (rest := []) (v := (some (.int q1.1))) (fun l => con_X12_apartBy l a0 1 a1 a2 h _ g2) tw_1278 tw_1275 tw_1277 tp_40 kX12 g3 tw_13 yn_X12_apartBy (by decide) (Nat.le_of_ble_eq_true rfl) dX12_apartOf_4 rfl ?_
  show PT X 3 0 0 7 [(0, .ref a0), (1, .int a1), (2, .int a2)] [.int q1.1] q1.2
  refine pt_aload_n C 0 rfl rfl dX12_apartOf_7 ?_
  refine pt_iconst C (v := 0) (by decide) dX12_apartOf_8 ?_
  refine pt_iload_n C 1 rfl rfl dX12_apartOf_9 ?_
  refine pt_iload_n C 2 rfl rfl dX12_apartOf_10 ?_
  refine ob hf (fun _ g6 hf => ?_)
  refine ob hf (fun q4 g5 hf => ?_)
  refine pt_callV C (As := [.int 0, .int a1, .int a2]) (rest := [.int q1.1]) (v := (some (.int q4.1))) (fun l => con_X12_apartBy l a0 0 a1 a2 q1.2 _ g5) tw_1278 tw_1275 tw_1277 tp_40 kX12 g6 tw_13 yn_X12_apartBy (by decide) (Nat.le_of_ble_eq_true rfl) dX12_apartOf_11 rfl ?_
  show PT X 3 0 0 14 [(0, .ref a0), (1, .int a1), (2, .int a2)] [.int q4.1, .int q1.1] q4.2
  refine pt_iadd C dX12_apartOf_14 ?_
  exact pt_iret C (K _ _ (Option.some.inj hf).symm) (by decide) (by decide) dX12_apartOf_15
theorem con_X12_apartOf (l : Launch) (a0 : Nat) (a1 : Int32) (a2 : Int32) (h : AH) (q : Int32 × AH) (hf : f_X12_apartOf a0 a1 a2 h = some q) : Con l yX12_apartOf cX12_apartOf 3 (some .int) rmX12_apartOf [.ref a0, .int a1, .int a2] h (some (.int q.1)) q.2 := Con.of (by decide +kernel) (Nat.le_of_ble_eq_true rfl) (fun X C I K => w_X12_apartOf_0 C a0 a1 a2 h q hf (fun v h2 e => by cases e; exact K))
abbrev rmX12_apart : Room := { frames := 3, cells := 0, slots := 0, locals := 75 }
theorem yn_X12_apart : YN yX12_apart 2 := by refine ⟨?_, ?_, ?_⟩ <;> decide +kernel
set_option maxRecDepth 100000 in
set_option maxHeartbeats 4000000 in
theorem w_X12_apart_0 {X : MX} (C : CX X cX12_apart 3 RX12 (some .int) rmX12_apart) (a0 : Nat) (a1 : Int32) (a2 : Int32) (h : AH) (res : Int32 × AH) (hf : f_X12_apart a0 a1 a2 h = some res) (K : ∀ (v : Int32) (h2 : AH), res = (v, h2) → PR X rmX12_apart (some (.int v)) h2) : PT X 3 0 0 0 [(0, .ref a0), (1, .int a1), (2, .int a2)] [] h := by
  unfold f_X12_apart at hf
  refine pt_aload_n C 0 rfl rfl dX12_apart_0 ?_
  refine pt_iload_n C 1 rfl rfl dX12_apart_1 ?_
  refine ob hf (fun _ g3 hf => ?_)
  refine ob hf (fun q1 g2 hf => ?_)
  refine pt_callV C (As := [.int a1]) (rest := []) (v := (some (.int q1.1))) (fun l => con_X12_noSong l a0 a1 h _ g2) tw_1081 tw_1078 tw_1080 tp_22 kX12 g3 tw_13 yn_X12_noSong (by decide) (Nat.le_of_ble_eq_true rfl) dX12_apart_2 rfl ?_
  show PT X 3 0 0 5 [(0, .ref a0), (1, .int a1), (2, .int a2)] [.int q1.1] q1.2
  refine pt_if_ne C (tgt := 16) (by decide) dX12_apart_5 (fun c4 => ?_) (fun c4 => ?_)
  · rw [if_neg c4] at hf
    refine pt_bipush C (v := (-2)) (by decide) dX12_apart_16 ?_
    refine pt_goto C (tgt := 27) (by decide) dX12_apart_18 ?_
    exact pt_iret C (K _ _ (Option.some.inj hf).symm) (by decide) (by decide) dX12_apart_27
  · rw [if_pos c4] at hf
    refine pt_aload_n C 0 rfl rfl dX12_apart_8 ?_
    refine pt_iload_n C 2 rfl rfl dX12_apart_9 ?_
    refine ob hf (fun _ g7 hf => ?_)
    refine ob hf (fun q5 g6 hf => ?_)
    refine pt_callV C (As := [.int a2]) (rest := []) (v := (some (.int q5.1))) (fun l => con_X12_noSong l a0 a2 q1.2 _ g6) tw_1081 tw_1078 tw_1080 tp_22 kX12 g7 tw_13 yn_X12_noSong (by decide) (Nat.le_of_ble_eq_true rfl) dX12_apart_10 rfl ?_
    show PT X 3 0 0 13 [(0, .ref a0), (1, .int a1), (2, .int a2)] [.int q5.1] q5.2
    refine pt_if_eq C (tgt := 21) (by decide) dX12_apart_13 (fun c8 => ?_) (fun c8 => ?_)
    · rw [if_pos c8] at hf
      refine pt_aload_n C 0 rfl rfl dX12_apart_21 ?_
      refine pt_iload_n C 1 rfl rfl dX12_apart_22 ?_
      refine pt_iload_n C 2 rfl rfl dX12_apart_23 ?_
      refine ob hf (fun _ g11 hf => ?_)
      refine ob hf (fun q9 g10 hf => ?_)
      refine pt_callV C (As := [.int a1, .int a2]) (rest := []) (v := (some (.int q9.1))) (fun l => con_X12_apartOf l a0 a1 a2 q5.2 _ g10) tw_1274 tw_1271 tw_1273 tp_39 kX12 g11 tw_13 yn_X12_apartOf (by decide) (Nat.le_of_ble_eq_true rfl) dX12_apart_24 rfl ?_
      show PT X 3 0 0 27 [(0, .ref a0), (1, .int a1), (2, .int a2)] [.int q9.1] q9.2
      exact pt_iret C (K _ _ (Option.some.inj hf).symm) (by decide) (by decide) dX12_apart_27
    · rw [if_neg c8] at hf
      refine pt_bipush C (v := (-2)) (by decide) dX12_apart_16 ?_
      refine pt_goto C (tgt := 27) (by decide) dX12_apart_18 ?_
      exact pt_iret C (K _ _ (Option.some.inj hf).symm) (by decide) (by decide) dX12_apart_27
theorem con_X12_apart (l : Launch) (a0 : Nat) (a1 : Int32) (a2 : Int32) (h : AH) (q : Int32 × AH) (hf : f_X12_apart a0 a1 a2 h = some q) : Con l yX12_apart cX12_apart 3 (some .int) rmX12_apart [.ref a0, .int a1, .int a2] h (some (.int q.1)) q.2 := Con.of (by decide +kernel) (Nat.le_of_ble_eq_true rfl) (fun X C I K => w_X12_apart_0 C a0 a1 a2 h q hf (fun v h2 e => by cases e; exact K))
abbrev rmX12_beat : Room := { frames := 1, cells := 0, slots := 0, locals := 25 }
theorem yn_X12_beat : YN yX12_beat 1 := by refine ⟨?_, ?_, ?_⟩ <;> decide +kernel
set_option maxRecDepth 100000 in
set_option maxHeartbeats 4000000 in
theorem w_X12_beat_0 {X : MX} (C : CX X cX12_beat 2 RX12 (some .int) rmX12_beat) (a0 : Nat) (a1 : Int32) (h : AH) (res : Int32 × AH) (hf : f_X12_beat a0 a1 h = some res) (K : ∀ (v : Int32) (h2 : AH), res = (v, h2) → PR X rmX12_beat (some (.int v)) h2) : PT X 2 0 0 0 [(0, .ref a0), (1, .int a1)] [] h := by
  unfold f_X12_beat at hf
  refine pt_iload_n C 1 rfl rfl dX12_beat_0 ?_
  refine pt_i2l C dX12_beat_1 ?_
  refine pt_lconst C (v := 0) (by decide) dX12_beat_2 ?_
  refine pt_ldc2 C tw_1062 dX12_beat_3 ?_
  refine ob hf (fun q1 g2 hf => ?_)
  refine pt_callS C (As := [.long a1.toInt64, .long 0, .long 3]) (rest := []) (v := (some (.int q1.1))) (fun l => con_X12_in l a1.toInt64 0 3 h _ g2) tw_1065 tw_1063 tw_1064 tw_13 yn_X12_in (by decide) (Nat.le_of_ble_eq_true rfl) dX12_beat_6 rfl ?_
  show PT X 2 0 0 9 [(0, .ref a0), (1, .int a1)] [.int q1.1] q1.2
  refine pt_if_ne C (tgt := 15) (by decide) dX12_beat_9 (fun c3 => ?_) (fun c3 => ?_)
  · rw [if_neg c3] at hf
    refine pt_aload_n C 0 rfl rfl dX12_beat_15 ?_
    refine ob hf (fun v4 g5 hf => ?_)
    refine pt_getI C kX12 5 (by decide) tw_921 (Or.inl rfl) g5 dX12_beat_16 ?_
    refine pt_bipush C (v := 24) (by decide) dX12_beat_19 ?_
    refine pt_icmp_ne C (tgt := 27) (by decide) dX12_beat_21 (fun c6 => ?_) (fun c6 => ?_)
    · rw [if_neg c6] at hf
      refine pt_aload_n C 0 rfl rfl dX12_beat_27 ?_
      refine ob hf (fun v7 g8 hf => ?_)
      refine pt_getR C kX12 6 (by decide) tw_922 (Or.inl rfl) g8 dX12_beat_28 ?_
      refine pt_aload_n C 0 rfl rfl dX12_beat_31 ?_
      refine ob hf (fun v9 g10 hf => ?_)
      refine pt_getI C kX12 5 (by decide) tw_921 (Or.inl rfl) g10 dX12_beat_32 ?_
      refine pt_iload_n C 1 rfl rfl dX12_beat_35 ?_
      refine ob hf (fun h11 g12 hf => ?_)
      refine pt_iast C g12 dX12_beat_36 ?_
      refine pt_aload_n C 0 rfl rfl dX12_beat_37 ?_
      refine pt_dup C rfl dX12_beat_38 ?_
      refine ob hf (fun v13 g14 hf => ?_)
      refine pt_getI C kX12 5 (by decide) tw_921 (Or.inl rfl) g14 dX12_beat_39 ?_
      refine pt_iconst C (v := 1) (by decide) dX12_beat_42 ?_
      refine pt_iadd C dX12_beat_43 ?_
      refine ob hf (fun h15 g16 hf => ?_)
      refine pt_put C kX12 5 (by decide) tw_921 (Or.inl rfl) rfl rfl rfl g16 dX12_beat_44 ?_
      refine pt_aload_n C 0 rfl rfl dX12_beat_47 ?_
      refine ob hf (fun v17 g18 hf => ?_)
      refine pt_getI C kX12 5 (by decide) tw_921 (Or.inl rfl) g18 dX12_beat_48 ?_
      exact pt_iret C (K _ _ (Option.some.inj hf).symm) (by decide) (by decide) dX12_beat_51
    · rw [if_pos c6] at hf
      refine pt_bipush C (v := (-4)) (by decide) dX12_beat_24 ?_
      exact pt_iret C (K _ _ (Option.some.inj hf).symm) (by decide) (by decide) dX12_beat_26
  · rw [if_pos c3] at hf
    refine pt_bipush C (v := (-2)) (by decide) dX12_beat_12 ?_
    exact pt_iret C (K _ _ (Option.some.inj hf).symm) (by decide) (by decide) dX12_beat_14
theorem con_X12_beat (l : Launch) (a0 : Nat) (a1 : Int32) (h : AH) (q : Int32 × AH) (hf : f_X12_beat a0 a1 h = some q) : Con l yX12_beat cX12_beat 2 (some .int) rmX12_beat [.ref a0, .int a1] h (some (.int q.1)) q.2 := Con.of (by decide +kernel) (Nat.le_of_ble_eq_true rfl) (fun X C I K => w_X12_beat_0 C a0 a1 h q hf (fun v h2 e => by cases e; exact K))
abbrev rmX12_beatOf : Room := { frames := 0, cells := 0, slots := 0, locals := 0 }
theorem yn_X12_beatOf : YN yX12_beatOf 2 := by refine ⟨?_, ?_, ?_⟩ <;> decide +kernel
set_option maxRecDepth 100000 in
set_option maxHeartbeats 4000000 in
theorem w_X12_beatOf_0 {X : MX} (C : CX X cX12_beatOf 4 RX12 (some .int) rmX12_beatOf) (a0 : Nat) (a1 : Int32) (a2 : Int32) (h : AH) (res : Int32 × AH) (hf : f_X12_beatOf a0 a1 a2 h = some res) (K : ∀ (v : Int32) (h2 : AH), res = (v, h2) → PR X rmX12_beatOf (some (.int v)) h2) : PT X 4 0 0 0 [(0, .ref a0), (1, .int a1), (2, .int a2)] [] h := by
  unfold f_X12_beatOf at hf
  refine pt_iload_n C 2 rfl rfl dX12_beatOf_0 ?_
  refine pt_aload_n C 0 rfl rfl dX12_beatOf_1 ?_
  refine ob hf (fun v1 g2 hf => ?_)
  refine pt_getR C kX12 1 (by decide) tw_917 (Or.inl rfl) g2 dX12_beatOf_2 ?_
  refine pt_iload_n C 1 rfl rfl dX12_beatOf_5 ?_
  refine ob hf (fun v3 g4 hf => ?_)
  refine pt_iald C g4 dX12_beatOf_6 ?_
  refine pt_aload_n C 0 rfl rfl dX12_beatOf_7 ?_
  refine ob hf (fun v5 g6 hf => ?_)
  refine pt_getR C kX12 2 (by decide) tw_918 (Or.inl rfl) g6 dX12_beatOf_8 ?_
  refine pt_iload_n C 1 rfl rfl dX12_beatOf_11 ?_
  refine ob hf (fun v7 g8 hf => ?_)
  refine pt_iald C g8 dX12_beatOf_12 ?_
  refine pt_iadd C dX12_beatOf_13 ?_
  refine ob hf (fun _ g9 hf => ?_)
  refine pt_irem C (hdv_spec g9) dX12_beatOf_14 ?_
  refine pt_istore_n C [(3, .int (a2 - a2 / (v3 + v7) * (v3 + v7))), (0, .ref a0), (1, .int a1), (2, .int a2)] rfl (by decide) rfl dX12_beatOf_15 ?_
  refine pt_iload_n C 0 rfl rfl dX12_beatOf_16 ?_
  refine pt_aload_n C 1 rfl rfl dX12_beatOf_17 ?_
  refine ob hf (fun v10 g11 hf => ?_)
  refine pt_getR C kX12 1 (by decide) tw_917 (Or.inl rfl) g11 dX12_beatOf_18 ?_
  refine pt_iload_n C 2 rfl rfl dX12_beatOf_21 ?_
  refine ob hf (fun v12 g13 hf => ?_)
  refine pt_iald C g13 dX12_beatOf_22 ?_
  refine pt_icmp_ge C (tgt := 40) (by decide) dX12_beatOf_23 (fun c14 => ?_) (fun c14 => ?_)
  · rw [if_pos c14] at hf
    refine pt_aload_n C 1 rfl rfl dX12_beatOf_40 ?_
    refine ob hf (fun v15 g16 hf => ?_)
    refine pt_getR C kX12 4 (by decide) tw_920 (Or.inl rfl) g16 dX12_beatOf_41 ?_
    refine pt_bipush C (v := 12) (by decide) dX12_beatOf_44 ?_
    refine pt_iload_n C 2 rfl rfl dX12_beatOf_46 ?_
    refine pt_imul C dX12_beatOf_47 ?_
    refine pt_iload_n C 0 rfl rfl dX12_beatOf_48 ?_
    refine pt_iadd C dX12_beatOf_49 ?_
    refine pt_aload_n C 1 rfl rfl dX12_beatOf_50 ?_
    refine ob hf (fun v17 g18 hf => ?_)
    refine pt_getR C kX12 1 (by decide) tw_917 (Or.inl rfl) g18 dX12_beatOf_51 ?_
    refine pt_iload_n C 2 rfl rfl dX12_beatOf_54 ?_
    refine ob hf (fun v19 g20 hf => ?_)
    refine pt_iald C g20 dX12_beatOf_55 ?_
    refine pt_isub C dX12_beatOf_56 ?_
    refine ob hf (fun v21 g22 hf => ?_)
    refine pt_iald C g22 dX12_beatOf_57 ?_
    exact pt_iret C (K _ _ (Option.some.inj hf).symm) (by decide) (by decide) dX12_beatOf_58
  · rw [if_neg c14] at hf
    refine pt_aload_n C 1 rfl rfl dX12_beatOf_26 ?_
    refine ob hf (fun v23 g24 hf => ?_)
    refine pt_getR C kX12 3 (by decide) tw_919 (Or.inl rfl) g24 dX12_beatOf_27 ?_
    refine pt_bipush C (v := 24) (by decide) dX12_beatOf_30 ?_
    refine pt_iload_n C 2 rfl rfl dX12_beatOf_32 ?_
    refine pt_imul C dX12_beatOf_33 ?_
    refine pt_iload_n C 0 rfl rfl dX12_beatOf_34 ?_
    refine pt_iadd C dX12_beatOf_35 ?_
    refine ob hf (fun v25 g26 hf => ?_)
    refine pt_iald C g26 dX12_beatOf_36 ?_
    refine pt_goto C (tgt := 58) (by decide) dX12_beatOf_37 ?_
    exact pt_iret C (K _ _ (Option.some.inj hf).symm) (by decide) (by decide) dX12_beatOf_58
theorem con_X12_beatOf (l : Launch) (a0 : Nat) (a1 : Int32) (a2 : Int32) (h : AH) (q : Int32 × AH) (hf : f_X12_beatOf a0 a1 a2 h = some q) : Con l yX12_beatOf cX12_beatOf 4 (some .int) rmX12_beatOf [.ref a0, .int a1, .int a2] h (some (.int q.1)) q.2 := Con.of (by decide +kernel) (Nat.le_of_ble_eq_true rfl) (fun X C I K => w_X12_beatOf_0 C a0 a1 a2 h q hf (fun v h2 e => by cases e; exact K))
abbrev rmX12_beatAt : Room := { frames := 2, cells := 0, slots := 0, locals := 46 }
theorem yn_X12_beatAt : YN yX12_beatAt 2 := by refine ⟨?_, ?_, ?_⟩ <;> decide +kernel
set_option maxRecDepth 100000 in
set_option maxHeartbeats 4000000 in
theorem w_X12_beatAt_0 {X : MX} (C : CX X cX12_beatAt 3 RX12 (some .int) rmX12_beatAt) (a0 : Nat) (a1 : Int32) (a2 : Int32) (h : AH) (res : Int32 × AH) (hf : f_X12_beatAt a0 a1 a2 h = some res) (K : ∀ (v : Int32) (h2 : AH), res = (v, h2) → PR X rmX12_beatAt (some (.int v)) h2) : PT X 3 0 0 0 [(0, .ref a0), (1, .int a1), (2, .int a2)] [] h := by
  unfold f_X12_beatAt at hf
  refine pt_aload_n C 0 rfl rfl dX12_beatAt_0 ?_
  refine pt_iload_n C 1 rfl rfl dX12_beatAt_1 ?_
  refine ob hf (fun _ g3 hf => ?_)
  refine ob hf (fun q1 g2 hf => ?_)
  refine pt_callV C (As := [.int a1]) (rest := []) (v := (some (.int q1.1))) (fun l => con_X12_noSong l a0 a1 h _ g2) tw_1081 tw_1078 tw_1080 tp_22 kX12 g3 tw_13 yn_X12_noSong (by decide) (Nat.le_of_ble_eq_true rfl) dX12_beatAt_2 rfl ?_
  show PT X 3 0 0 5 [(0, .ref a0), (1, .int a1), (2, .int a2)] [.int q1.1] q1.2
  refine pt_if_ne C (tgt := 20) (by decide) dX12_beatAt_5 (fun c4 => ?_) (fun c4 => ?_)
  · rw [if_neg c4] at hf
    refine pt_bipush C (v := (-2)) (by decide) dX12_beatAt_20 ?_
    refine pt_goto C (tgt := 31) (by decide) dX12_beatAt_22 ?_
    exact pt_iret C (K _ _ (Option.some.inj hf).symm) (by decide) (by decide) dX12_beatAt_31
  · rw [if_pos c4] at hf
    refine pt_iload_n C 2 rfl rfl dX12_beatAt_8 ?_
    refine pt_i2l C dX12_beatAt_9 ?_
    refine pt_lconst C (v := 0) (by decide) dX12_beatAt_10 ?_
    refine pt_ldc2 C tw_1086 dX12_beatAt_11 ?_
    refine ob hf (fun q5 g6 hf => ?_)
    refine pt_callS C (As := [.long a2.toInt64, .long 0, .long 1000]) (rest := []) (v := (some (.int q5.1))) (fun l => con_X12_in l a2.toInt64 0 1000 q1.2 _ g6) tw_1065 tw_1063 tw_1064 tw_13 yn_X12_in (by decide) (Nat.le_of_ble_eq_true rfl) dX12_beatAt_14 rfl ?_
    show PT X 3 0 0 17 [(0, .ref a0), (1, .int a1), (2, .int a2)] [.int q5.1] q5.2
    refine pt_if_ne C (tgt := 25) (by decide) dX12_beatAt_17 (fun c7 => ?_) (fun c7 => ?_)
    · rw [if_neg c7] at hf
      refine pt_aload_n C 0 rfl rfl dX12_beatAt_25 ?_
      refine pt_iload_n C 1 rfl rfl dX12_beatAt_26 ?_
      refine pt_iload_n C 2 rfl rfl dX12_beatAt_27 ?_
      refine ob hf (fun _ g10 hf => ?_)
      refine ob hf (fun q8 g9 hf => ?_)
      refine pt_callV C (As := [.int a1, .int a2]) (rest := []) (v := (some (.int q8.1))) (fun l => con_X12_beatOf l a0 a1 a2 q5.2 _ g9) tw_1090 tw_1087 tw_1089 tp_23 kX12 g10 tw_13 yn_X12_beatOf (by decide) (Nat.le_of_ble_eq_true rfl) dX12_beatAt_28 rfl ?_
      show PT X 3 0 0 31 [(0, .ref a0), (1, .int a1), (2, .int a2)] [.int q8.1] q8.2
      exact pt_iret C (K _ _ (Option.some.inj hf).symm) (by decide) (by decide) dX12_beatAt_31
    · rw [if_pos c7] at hf
      refine pt_bipush C (v := (-2)) (by decide) dX12_beatAt_20 ?_
      refine pt_goto C (tgt := 31) (by decide) dX12_beatAt_22 ?_
      exact pt_iret C (K _ _ (Option.some.inj hf).symm) (by decide) (by decide) dX12_beatAt_31
theorem con_X12_beatAt (l : Launch) (a0 : Nat) (a1 : Int32) (a2 : Int32) (h : AH) (q : Int32 × AH) (hf : f_X12_beatAt a0 a1 a2 h = some q) : Con l yX12_beatAt cX12_beatAt 3 (some .int) rmX12_beatAt [.ref a0, .int a1, .int a2] h (some (.int q.1)) q.2 := Con.of (by decide +kernel) (Nat.le_of_ble_eq_true rfl) (fun X C I K => w_X12_beatAt_0 C a0 a1 a2 h q hf (fun v h2 e => by cases e; exact K))
abbrev rmX12_ones : Room := { frames := 0, cells := 0, slots := 0, locals := 0 }
theorem yn_X12_ones : YN yX12_ones 1 := by refine ⟨?_, ?_, ?_⟩ <;> decide +kernel
set_option maxRecDepth 100000 in
set_option maxHeartbeats 4000000 in
theorem w_X12_ones_L4 {X : MX} (C : CX X cX12_ones 3 RX12 (some .int) rmX12_ones) (x0 : Int32) (s : Int32 × Int32 × AH) (res : (Int32 × Int32 × AH) ⊕ ((Int32 × AH))) (hf : f_X12_ones_L4 x0 s = some res) (K0 : ∀ (u1 : Int32) (u2 : Int32) (hu : AH), res = .inl (u1, u2, hu) → PT X 3 0 0 4 [(0, .int x0), (1, .int u1), (2, .int u2)] [] hu) (K1 : ∀ (u1 : Int32) (hu : AH), res = .inr ((u1, hu)) → PT X 3 0 0 24 [(1, .int u1)] [] hu) : PT X 3 0 0 4 [(0, .int x0), (1, .int s.1), (2, .int s.2.1)] [] s.2.2 := by
  unfold f_X12_ones_L4 at hf
  refine pt_iload_n C 2 rfl rfl dX12_ones_4 ?_
  refine pt_bipush C (v := 12) (by decide) dX12_ones_5 ?_
  refine pt_icmp_ge C (tgt := 24) (by decide) dX12_ones_7 (fun c1 => ?_) (fun c1 => ?_)
  · rw [if_pos c1] at hf
    refine pt_sub C [(1, .int s.1)] [1] rfl ?_
    exact K1 _ _ (Option.some.inj hf).symm
  · rw [if_neg c1] at hf
    refine pt_iload_n C 1 rfl rfl dX12_ones_10 ?_
    refine pt_iload_n C 0 rfl rfl dX12_ones_11 ?_
    refine pt_iload_n C 2 rfl rfl dX12_ones_12 ?_
    refine pt_ishr C dX12_ones_13 ?_
    refine pt_iconst C (v := 1) (by decide) dX12_ones_14 ?_
    refine pt_iand C dX12_ones_15 ?_
    refine pt_iadd C dX12_ones_16 ?_
    refine pt_istore_n C [(1, .int (s.1 + ((x0 >>> (s.2.1 &&& 31)) &&& 1))), (0, .int x0), (2, .int s.2.1)] rfl (by decide) rfl dX12_ones_17 ?_
    refine pt_iinc C 2 [(2, .int (s.2.1 + 1)), (1, .int (s.1 + ((x0 >>> (s.2.1 &&& 31)) &&& 1))), (0, .int x0)] rfl (iinc_eq s.2.1 (by decide)) (by decide) rfl dX12_ones_18 ?_
    refine pt_goto C (tgt := 4) (by decide) dX12_ones_21 ?_
    refine pt_sub C [(0, .int x0), (1, .int (s.1 + ((x0 >>> (s.2.1 &&& 31)) &&& 1))), (2, .int (s.2.1 + 1))] [2, 1, 0] rfl ?_
    exact K0 _ _ _ (Option.some.inj hf).symm
theorem l_X12_ones_L4 {X : MX} (C : CX X cX12_ones 3 RX12 (some .int) rmX12_ones) (x0 : Int32) : ∀ (n : Nat) (s : Int32 × Int32 × AH) (r : (Int32 × AH)), iter (f_X12_ones_L4 x0) n s = some r → (fun r : (Int32 × AH) => PT X 3 0 0 24 [(1, .int r.1)] [] r.2) r → PT X 3 0 0 4 [(0, .int x0), (1, .int s.1), (2, .int s.2.1)] [] s.2.2 :=
  iter_W (fun s : Int32 × Int32 × AH => PT X 3 0 0 4 [(0, .int x0), (1, .int s.1), (2, .int s.2.1)] [] s.2.2) (fun r : (Int32 × AH) => PT X 3 0 0 24 [(1, .int r.1)] [] r.2) _ (fun s s2 hf P => w_X12_ones_L4 C x0 s _ hf (fun u1 u2 hu e => by cases e; exact P) (fun u1 hu e => by cases e)) (fun s r hf P => w_X12_ones_L4 C x0 s _ hf (fun u1 u2 hu e => by cases e) (fun u1 hu e => by cases e; exact P))
set_option maxRecDepth 100000 in
set_option maxHeartbeats 4000000 in
theorem w_X12_ones_0 {X : MX} (C : CX X cX12_ones 3 RX12 (some .int) rmX12_ones) (a0 : Int32) (h : AH) (res : Int32 × AH) (hf : f_X12_ones a0 h = some res) (K : ∀ (v : Int32) (h2 : AH), res = (v, h2) → PR X rmX12_ones (some (.int v)) h2) : PT X 3 0 0 0 [(0, .int a0)] [] h := by
  unfold f_X12_ones at hf
  refine pt_iconst C (v := 0) (by decide) dX12_ones_0 ?_
  refine pt_istore_n C [(1, .int 0), (0, .int a0)] rfl (by decide) rfl dX12_ones_1 ?_
  refine pt_iconst C (v := 0) (by decide) dX12_ones_2 ?_
  refine pt_istore_n C [(2, .int 0), (1, .int 0), (0, .int a0)] rfl (by decide) rfl dX12_ones_3 ?_
  refine pt_sub C [(0, .int a0), (1, .int 0), (2, .int 0)] [2, 1, 0] rfl ?_
  refine ob hf (fun e2 g3 hf => ?_)
  refine l_X12_ones_L4 C a0 _ _ _ g3 ?_
  refine pt_iload_n C 0 rfl rfl dX12_ones_24 ?_
  exact pt_iret C (K _ _ (Option.some.inj hf).symm) (by decide) (by decide) dX12_ones_25
theorem con_X12_ones (l : Launch) (a0 : Int32) (h : AH) (q : Int32 × AH) (hf : f_X12_ones a0 h = some q) : Con l yX12_ones cX12_ones 3 (some .int) rmX12_ones [.int a0] h (some (.int q.1)) q.2 := Con.of (by decide +kernel) (Nat.le_of_ble_eq_true rfl) (fun X C I K => w_X12_ones_0 C a0 h q hf (fun v h2 e => by cases e; exact K))
abbrev rmX12_carry : Room := { frames := 0, cells := 0, slots := 0, locals := 0 }
theorem yn_X12_carry : YN yX12_carry 2 := by refine ⟨?_, ?_, ?_⟩ <;> decide +kernel
set_option maxRecDepth 100000 in
set_option maxHeartbeats 4000000 in
theorem w_X12_carry_L2 {X : MX} (C : CX X cX12_carry 4 RX12 none rmX12_carry) (x0 : Nat) (x1 : Int32) (x2 : Int32) (s : Int32 × AH) (res : (Int32 × AH) ⊕ ((AH))) (hf : f_X12_carry_L2 x0 x1 x2 s = some res) (K0 : ∀ (u3 : Int32) (hu : AH), res = .inl (u3, hu) → PT X 4 0 0 2 [(0, .ref x0), (1, .int x1), (2, .int x2), (3, .int u3)] [] hu) (K1 : ∀ (hu : AH), res = .inr (hu) → PT X 4 0 0 38 [] [] hu) : PT X 4 0 0 2 [(0, .ref x0), (1, .int x1), (2, .int x2), (3, .int s.1)] [] s.2 := by
  unfold f_X12_carry_L2 at hf
  refine pt_iload_n C 3 rfl rfl dX12_carry_2 ?_
  refine pt_aload_n C 0 rfl rfl dX12_carry_3 ?_
  refine ob hf (fun v1 g2 hf => ?_)
  refine pt_getI C kX12 7 (by decide) tw_923 (Or.inl rfl) g2 dX12_carry_4 ?_
  refine pt_icmp_ge C (tgt := 38) (by decide) dX12_carry_7 (fun c3 => ?_) (fun c3 => ?_)
  · rw [if_pos c3] at hf
    refine pt_sub C [] [] rfl ?_
    exact K1 _ (Option.some.inj hf).symm
  · rw [if_neg c3] at hf
    refine pt_aload_n C 0 rfl rfl dX12_carry_10 ?_
    refine ob hf (fun v4 g5 hf => ?_)
    refine pt_getR C kX12 13 (by decide) tw_929 (Or.inl rfl) g5 dX12_carry_11 ?_
    refine pt_bipush C (v := 10) (by decide) dX12_carry_14 ?_
    refine pt_iload_n C 2 rfl rfl dX12_carry_16 ?_
    refine pt_imul C dX12_carry_17 ?_
    refine pt_iload_n C 3 rfl rfl dX12_carry_18 ?_
    refine pt_iadd C dX12_carry_19 ?_
    refine pt_aload_n C 0 rfl rfl dX12_carry_20 ?_
    refine ob hf (fun v6 g7 hf => ?_)
    refine pt_getR C kX12 13 (by decide) tw_929 (Or.inl rfl) g7 dX12_carry_21 ?_
    refine pt_bipush C (v := 10) (by decide) dX12_carry_24 ?_
    refine pt_iload_n C 1 rfl rfl dX12_carry_26 ?_
    refine pt_imul C dX12_carry_27 ?_
    refine pt_iload_n C 3 rfl rfl dX12_carry_28 ?_
    refine pt_iadd C dX12_carry_29 ?_
    refine ob hf (fun v8 g9 hf => ?_)
    refine pt_iald C g9 dX12_carry_30 ?_
    refine ob hf (fun h10 g11 hf => ?_)
    refine pt_iast C g11 dX12_carry_31 ?_
    refine pt_iinc C 3 [(3, .int (s.1 + 1)), (0, .ref x0), (1, .int x1), (2, .int x2)] rfl (iinc_eq s.1 (by decide)) (by decide) rfl dX12_carry_32 ?_
    refine pt_goto C (tgt := 2) (by decide) dX12_carry_35 ?_
    refine pt_sub C [(0, .ref x0), (1, .int x1), (2, .int x2), (3, .int (s.1 + 1))] [1, 2, 3, 0] rfl ?_
    exact K0 _ _ (Option.some.inj hf).symm
theorem l_X12_carry_L2 {X : MX} (C : CX X cX12_carry 4 RX12 none rmX12_carry) (x0 : Nat) (x1 : Int32) (x2 : Int32) : ∀ (n : Nat) (s : Int32 × AH) (r : (AH)), iter (f_X12_carry_L2 x0 x1 x2) n s = some r → (fun r : (AH) => PT X 4 0 0 38 [] [] r) r → PT X 4 0 0 2 [(0, .ref x0), (1, .int x1), (2, .int x2), (3, .int s.1)] [] s.2 :=
  iter_W (fun s : Int32 × AH => PT X 4 0 0 2 [(0, .ref x0), (1, .int x1), (2, .int x2), (3, .int s.1)] [] s.2) (fun r : (AH) => PT X 4 0 0 38 [] [] r) _ (fun s s2 hf P => w_X12_carry_L2 C x0 x1 x2 s _ hf (fun u3 hu e => by cases e; exact P) (fun hu e => by cases e)) (fun s r hf P => w_X12_carry_L2 C x0 x1 x2 s _ hf (fun u3 hu e => by cases e) (fun hu e => by cases e; exact P))
set_option maxRecDepth 100000 in
set_option maxHeartbeats 4000000 in
theorem w_X12_carry_0 {X : MX} (C : CX X cX12_carry 4 RX12 none rmX12_carry) (a0 : Nat) (a1 : Int32) (a2 : Int32) (h : AH) (res : AH) (hf : f_X12_carry a0 a1 a2 h = some res) (K : PR X rmX12_carry none res) : PT X 4 0 0 0 [(0, .ref a0), (1, .int a1), (2, .int a2)] [] h := by
  unfold f_X12_carry at hf
  refine pt_iconst C (v := 0) (by decide) dX12_carry_0 ?_
  refine pt_istore_n C [(3, .int 0), (0, .ref a0), (1, .int a1), (2, .int a2)] rfl (by decide) rfl dX12_carry_1 ?_
  refine pt_sub C [(0, .ref a0), (1, .int a1), (2, .int a2), (3, .int 0)] [1, 2, 3, 0] rfl ?_
  refine ob hf (fun e12 g13 hf => ?_)
  refine l_X12_carry_L2 C a0 a1 a2 _ _ _ g13 ?_
  obtain rfl := Option.some.inj hf
  exact pt_vret C K (by decide) (by decide) dX12_carry_38
theorem con_X12_carry (l : Launch) (a0 : Nat) (a1 : Int32) (a2 : Int32) (h : AH) (q : AH) (hf : f_X12_carry a0 a1 a2 h = some q) : Con l yX12_carry cX12_carry 4 none rmX12_carry [.ref a0, .int a1, .int a2] h none q := Con.of (by decide +kernel) (Nat.le_of_ble_eq_true rfl) (fun X C I K => w_X12_carry_0 C a0 a1 a2 h q hf K)
abbrev rmX12_step : Room := { frames := 1, cells := 0, slots := 0, locals := 23 }
theorem yn_X12_step : YN yX12_step 6 := by refine ⟨?_, ?_, ?_⟩ <;> decide +kernel
set_option maxRecDepth 100000 in
set_option maxHeartbeats 4000000 in
theorem w_X12_step_L11_J94 {X : MX} (C : CX X cX12_step 11 RX12 none rmX12_step) (x0 : Nat) (x1 : Int32) (x2 : Int32) (x3 : Int32) (x4 : Int32) (x5 : Int32) (x6 : Int32) (y7 : Int32) (y8 : Int32) (y9 : Int32) (z0 : Int32) (z1 : Int32) (z2 : Nat) (h : AH) (res : (Int32 × Int32 × AH) ⊕ ((Int32 × AH))) (hf : f_X12_step_L11_J94 x0 x1 x2 x3 x4 x5 x6 y7 y8 y9 z0 z1 z2 h = some res) (K0 : ∀ (u7 : Int32) (u8 : Int32) (hu : AH), res = .inl (u7, u8, hu) → PT X 11 0 0 11 [(0, .ref x0), (1, .int x1), (2, .int x2), (3, .int x3), (4, .int x4), (5, .int x5), (6, .int x6), (7, .int u7), (8, .int u8)] [] hu) (K1 : ∀ (u7 : Int32) (hu : AH), res = .inr ((u7, hu)) → PT X 11 0 0 117 [(0, .ref x0), (1, .int x1), (2, .int x2), (3, .int x3), (4, .int x4), (5, .int x5), (6, .int x6), (7, .int u7)] [] hu) : PT X 11 0 0 94 [(0, .ref x0), (1, .int x1), (2, .int x2), (3, .int x3), (4, .int x4), (5, .int x5), (6, .int x6), (7, .int y7), (8, .int y8), (9, .int y9)] [.int z0, .int z1, .ref z2] h := by
  unfold f_X12_step_L11_J94 at hf
  refine pt_iadd C dX12_step_94 ?_
  refine ob hf (fun h10 g11 hf => ?_)
  refine pt_put C kX12 21 (by decide) tw_937 (Or.inl rfl) rfl rfl rfl g11 dX12_step_95 ?_
  refine pt_iload C 7 rfl dX12_step_98 ?_
  refine pt_iload C 9 rfl dX12_step_100 ?_
  refine ob hf (fun q12 g13 hf => ?_)
  refine pt_callS C (As := [.int y9]) (rest := [.int y7]) (v := (some (.int q12.1))) (fun l => con_X12_bit l y9 h10 _ g13) tw_1127 tw_1125 tw_1126 tw_13 yn_X12_bit (by decide) (Nat.le_of_ble_eq_true rfl) dX12_step_102 rfl ?_
  show PT X 11 0 0 105 [(0, .ref x0), (1, .int x1), (2, .int x2), (3, .int x3), (4, .int x4), (5, .int x5), (6, .int x6), (7, .int y7), (8, .int y8), (9, .int y9)] [.int q12.1, .int y7] q12.2
  refine pt_iload C 8 rfl dX12_step_105 ?_
  refine pt_ishl C dX12_step_107 ?_
  refine pt_ior C dX12_step_108 ?_
  refine pt_istore C [(7, .int (y7 ||| (q12.1 <<< (y8 &&& 31)))), (0, .ref x0), (1, .int x1), (2, .int x2), (3, .int x3), (4, .int x4), (5, .int x5), (6, .int x6), (8, .int y8), (9, .int y9)] (by decide) rfl dX12_step_109 ?_
  refine pt_iinc C 8 [(8, .int (y8 + 1)), (7, .int (y7 ||| (q12.1 <<< (y8 &&& 31)))), (0, .ref x0), (1, .int x1), (2, .int x2), (3, .int x3), (4, .int x4), (5, .int x5), (6, .int x6), (9, .int y9)] rfl (iinc_eq y8 (by decide)) (by decide) rfl dX12_step_111 ?_
  refine pt_goto C (tgt := 11) (by decide) dX12_step_114 ?_
  refine pt_sub C [(0, .ref x0), (1, .int x1), (2, .int x2), (3, .int x3), (4, .int x4), (5, .int x5), (6, .int x6), (7, .int (y7 ||| (q12.1 <<< (y8 &&& 31)))), (8, .int (y8 + 1))] [2, 3, 4, 5, 6, 7, 8, 1, 0] rfl ?_
  exact K0 _ _ _ (Option.some.inj hf).symm
set_option maxRecDepth 100000 in
set_option maxHeartbeats 4000000 in
theorem w_X12_step_L11_J66 {X : MX} (C : CX X cX12_step 11 RX12 none rmX12_step) (x0 : Nat) (x1 : Int32) (x2 : Int32) (x3 : Int32) (x4 : Int32) (x5 : Int32) (x6 : Int32) (y7 : Int32) (y8 : Int32) (z0 : Int32) (h : AH) (res : (Int32 × Int32 × AH) ⊕ ((Int32 × AH))) (hf : f_X12_step_L11_J66 x0 x1 x2 x3 x4 x5 x6 y7 y8 z0 h = some res) (K0 : ∀ (u7 : Int32) (u8 : Int32) (hu : AH), res = .inl (u7, u8, hu) → PT X 11 0 0 11 [(0, .ref x0), (1, .int x1), (2, .int x2), (3, .int x3), (4, .int x4), (5, .int x5), (6, .int x6), (7, .int u7), (8, .int u8)] [] hu) (K1 : ∀ (u7 : Int32) (hu : AH), res = .inr ((u7, hu)) → PT X 11 0 0 117 [(0, .ref x0), (1, .int x1), (2, .int x2), (3, .int x3), (4, .int x4), (5, .int x5), (6, .int x6), (7, .int u7)] [] hu) : PT X 11 0 0 66 [(0, .ref x0), (1, .int x1), (2, .int x2), (3, .int x3), (4, .int x4), (5, .int x5), (6, .int x6), (7, .int y7), (8, .int y8)] [.int z0] h := by
  unfold f_X12_step_L11_J66 at hf
  refine pt_istore C [(9, .int z0), (0, .ref x0), (1, .int x1), (2, .int x2), (3, .int x3), (4, .int x4), (5, .int x5), (6, .int x6), (7, .int y7), (8, .int y8)] (by decide) rfl dX12_step_66 ?_
  refine pt_aload_n C 1 rfl rfl dX12_step_68 ?_
  refine pt_dup C rfl dX12_step_69 ?_
  refine ob hf (fun v7 g8 hf => ?_)
  refine pt_getI C kX12 21 (by decide) tw_937 (Or.inl rfl) g8 dX12_step_70 ?_
  refine pt_iload C 0 rfl dX12_step_73 ?_
  refine pt_if_eq C (tgt := 93) (by decide) dX12_step_75 (fun c9 => ?_) (fun c9 => ?_)
  · rw [if_pos c9] at hf
    refine pt_iconst C (v := 0) (by decide) dX12_step_93 ?_
    refine pt_sub C [(0, .ref x0), (1, .int x1), (2, .int x2), (3, .int x3), (4, .int x4), (5, .int x5), (6, .int x6), (7, .int y7), (8, .int y8), (9, .int z0)] [1, 2, 3, 4, 5, 6, 7, 8, 9, 0] rfl ?_
    exact w_X12_step_L11_J94 C x0 x1 x2 x3 x4 x5 x6 y7 y8 z0 0 v7 x0 h _ hf K0 K1
  · rw [if_neg c9] at hf
    refine pt_aload_n C 1 rfl rfl dX12_step_78 ?_
    refine ob hf (fun v14 g15 hf => ?_)
    refine pt_getR C kX12 13 (by decide) tw_929 (Or.inl rfl) g15 dX12_step_79 ?_
    refine pt_bipush C (v := 10) (by decide) dX12_step_82 ?_
    refine pt_iload_n C 2 rfl rfl dX12_step_84 ?_
    refine pt_imul C dX12_step_85 ?_
    refine pt_iload C 9 rfl dX12_step_86 ?_
    refine pt_iadd C dX12_step_88 ?_
    refine ob hf (fun v16 g17 hf => ?_)
    refine pt_iald C g17 dX12_step_89 ?_
    refine pt_goto C (tgt := 94) (by decide) dX12_step_90 ?_
    refine pt_sub C [(0, .ref x0), (1, .int x1), (2, .int x2), (3, .int x3), (4, .int x4), (5, .int x5), (6, .int x6), (7, .int y7), (8, .int y8), (9, .int z0)] [1, 2, 3, 4, 5, 6, 7, 8, 9, 0] rfl ?_
    exact w_X12_step_L11_J94 C x0 x1 x2 x3 x4 x5 x6 y7 y8 z0 v16 v7 x0 h _ hf K0 K1
set_option maxRecDepth 100000 in
set_option maxHeartbeats 4000000 in
theorem w_X12_step_L11_J65 {X : MX} (C : CX X cX12_step 11 RX12 none rmX12_step) (x0 : Nat) (x1 : Int32) (x2 : Int32) (x3 : Int32) (x4 : Int32) (x5 : Int32) (x6 : Int32) (y7 : Int32) (y8 : Int32) (h : AH) (res : (Int32 × Int32 × AH) ⊕ ((Int32 × AH))) (hf : f_X12_step_L11_J65 x0 x1 x2 x3 x4 x5 x6 y7 y8 h = some res) (K0 : ∀ (u7 : Int32) (u8 : Int32) (hu : AH), res = .inl (u7, u8, hu) → PT X 11 0 0 11 [(0, .ref x0), (1, .int x1), (2, .int x2), (3, .int x3), (4, .int x4), (5, .int x5), (6, .int x6), (7, .int u7), (8, .int u8)] [] hu) (K1 : ∀ (u7 : Int32) (hu : AH), res = .inr ((u7, hu)) → PT X 11 0 0 117 [(0, .ref x0), (1, .int x1), (2, .int x2), (3, .int x3), (4, .int x4), (5, .int x5), (6, .int x6), (7, .int u7)] [] hu) : PT X 11 0 0 65 [(0, .ref x0), (1, .int x1), (2, .int x2), (3, .int x3), (4, .int x4), (5, .int x5), (6, .int x6), (7, .int y7), (8, .int y8)] [] h := by
  unfold f_X12_step_L11_J65 at hf
  refine pt_iconst C (v := 0) (by decide) dX12_step_65 ?_
  exact w_X12_step_L11_J66 C x0 x1 x2 x3 x4 x5 x6 y7 y8 0 h _ hf K0 K1
set_option maxRecDepth 100000 in
set_option maxHeartbeats 4000000 in
theorem w_X12_step_L11 {X : MX} (C : CX X cX12_step 11 RX12 none rmX12_step) (x0 : Nat) (x1 : Int32) (x2 : Int32) (x3 : Int32) (x4 : Int32) (x5 : Int32) (x6 : Int32) (s : Int32 × Int32 × AH) (res : (Int32 × Int32 × AH) ⊕ ((Int32 × AH))) (hf : f_X12_step_L11 x0 x1 x2 x3 x4 x5 x6 s = some res) (K0 : ∀ (u7 : Int32) (u8 : Int32) (hu : AH), res = .inl (u7, u8, hu) → PT X 11 0 0 11 [(0, .ref x0), (1, .int x1), (2, .int x2), (3, .int x3), (4, .int x4), (5, .int x5), (6, .int x6), (7, .int u7), (8, .int u8)] [] hu) (K1 : ∀ (u7 : Int32) (hu : AH), res = .inr ((u7, hu)) → PT X 11 0 0 117 [(0, .ref x0), (1, .int x1), (2, .int x2), (3, .int x3), (4, .int x4), (5, .int x5), (6, .int x6), (7, .int u7)] [] hu) : PT X 11 0 0 11 [(0, .ref x0), (1, .int x1), (2, .int x2), (3, .int x3), (4, .int x4), (5, .int x5), (6, .int x6), (7, .int s.1), (8, .int s.2.1)] [] s.2.2 := by
  unfold f_X12_step_L11 at hf
  refine pt_iload C 8 rfl dX12_step_11 ?_
  refine pt_aload_n C 0 rfl rfl dX12_step_13 ?_
  refine ob hf (fun v3 g4 hf => ?_)
  refine pt_getI C kX12 7 (by decide) tw_923 (Or.inl rfl) g4 dX12_step_14 ?_
  refine pt_icmp_ge C (tgt := 117) (by decide) dX12_step_17 (fun c5 => ?_) (fun c5 => ?_)
  · rw [if_pos c5] at hf
    refine pt_sub C [(0, .ref x0), (1, .int x1), (2, .int x2), (3, .int x3), (4, .int x4), (5, .int x5), (6, .int x6), (7, .int s.1)] [0, 1, 2, 3, 4, 5, 6, 7] rfl ?_
    exact K1 _ _ (Option.some.inj hf).symm
  · rw [if_neg c5] at hf
    refine pt_iload_n C 3 rfl rfl dX12_step_20 ?_
    refine pt_iload C 8 rfl dX12_step_21 ?_
    refine pt_ishr C dX12_step_23 ?_
    refine pt_iconst C (v := 1) (by decide) dX12_step_24 ?_
    refine pt_iand C dX12_step_25 ?_
    refine pt_iconst C (v := 1) (by decide) dX12_step_26 ?_
    refine pt_icmp_ne C (tgt := 65) (by decide) dX12_step_27 (fun c6 => ?_) (fun c6 => ?_)
    · rw [if_neg c6] at hf
      exact w_X12_step_L11_J65 C x0 x1 x2 x3 x4 x5 x6 s.1 s.2.1 s.2.2 _ hf K0 K1
    · rw [if_pos c6] at hf
      refine pt_iload C 6 rfl dX12_step_30 ?_
      refine pt_aload_n C 0 rfl rfl dX12_step_32 ?_
      refine ob hf (fun v18 g19 hf => ?_)
      refine pt_getR C kX12 19 (by decide) tw_935 (Or.inl rfl) g19 dX12_step_33 ?_
      refine pt_iload C 8 rfl dX12_step_36 ?_
      refine ob hf (fun v20 g21 hf => ?_)
      refine pt_iald C g21 dX12_step_38 ?_
      refine pt_icmp_lt C (tgt := 65) (by decide) dX12_step_39 (fun c22 => ?_) (fun c22 => ?_)
      · rw [if_pos c22] at hf
        exact w_X12_step_L11_J65 C x0 x1 x2 x3 x4 x5 x6 s.1 s.2.1 s.2.2 _ hf K0 K1
      · rw [if_neg c22] at hf
        refine pt_aload_n C 0 rfl rfl dX12_step_42 ?_
        refine pt_iload_n C 2 rfl rfl dX12_step_43 ?_
        refine pt_iload C 6 rfl dX12_step_44 ?_
        refine pt_aload_n C 0 rfl rfl dX12_step_46 ?_
        refine ob hf (fun v23 g24 hf => ?_)
        refine pt_getR C kX12 19 (by decide) tw_935 (Or.inl rfl) g24 dX12_step_47 ?_
        refine pt_iload C 8 rfl dX12_step_50 ?_
        refine ob hf (fun v25 g26 hf => ?_)
        refine pt_iald C g26 dX12_step_52 ?_
        refine pt_isub C dX12_step_53 ?_
        refine ob hf (fun _ g29 hf => ?_)
        refine ob hf (fun q27 g28 hf => ?_)
        refine pt_callV C (As := [.int x2, .int (x6 - v25)]) (rest := []) (v := (some (.int q27.1))) (fun l => con_X12_beatOf l x0 x2 (x6 - v25) s.2.2 _ g28) tw_1090 tw_1087 tw_1089 tp_23 kX12 g29 tw_13 yn_X12_beatOf (by decide) (Nat.le_of_ble_eq_true rfl) dX12_step_54 rfl ?_
        show PT X 11 0 0 57 [(0, .ref x0), (1, .int x1), (2, .int x2), (3, .int x3), (4, .int x4), (5, .int x5), (6, .int x6), (7, .int s.1), (8, .int s.2.1)] [.int q27.1] q27.2
        refine pt_iconst C (v := 2) (by decide) dX12_step_57 ?_
        refine pt_icmp_ne C (tgt := 65) (by decide) dX12_step_58 (fun c30 => ?_) (fun c30 => ?_)
        · rw [if_neg c30] at hf
          exact w_X12_step_L11_J65 C x0 x1 x2 x3 x4 x5 x6 s.1 s.2.1 q27.2 _ hf K0 K1
        · rw [if_pos c30] at hf
          refine pt_iconst C (v := 1) (by decide) dX12_step_61 ?_
          refine pt_goto C (tgt := 66) (by decide) dX12_step_62 ?_
          exact w_X12_step_L11_J66 C x0 x1 x2 x3 x4 x5 x6 s.1 s.2.1 1 q27.2 _ hf K0 K1
theorem l_X12_step_L11 {X : MX} (C : CX X cX12_step 11 RX12 none rmX12_step) (x0 : Nat) (x1 : Int32) (x2 : Int32) (x3 : Int32) (x4 : Int32) (x5 : Int32) (x6 : Int32) : ∀ (n : Nat) (s : Int32 × Int32 × AH) (r : (Int32 × AH)), iter (f_X12_step_L11 x0 x1 x2 x3 x4 x5 x6) n s = some r → (fun r : (Int32 × AH) => PT X 11 0 0 117 [(0, .ref x0), (1, .int x1), (2, .int x2), (3, .int x3), (4, .int x4), (5, .int x5), (6, .int x6), (7, .int r.1)] [] r.2) r → PT X 11 0 0 11 [(0, .ref x0), (1, .int x1), (2, .int x2), (3, .int x3), (4, .int x4), (5, .int x5), (6, .int x6), (7, .int s.1), (8, .int s.2.1)] [] s.2.2 :=
  iter_W (fun s : Int32 × Int32 × AH => PT X 11 0 0 11 [(0, .ref x0), (1, .int x1), (2, .int x2), (3, .int x3), (4, .int x4), (5, .int x5), (6, .int x6), (7, .int s.1), (8, .int s.2.1)] [] s.2.2) (fun r : (Int32 × AH) => PT X 11 0 0 117 [(0, .ref x0), (1, .int x1), (2, .int x2), (3, .int x3), (4, .int x4), (5, .int x5), (6, .int x6), (7, .int r.1)] [] r.2) _ (fun s s2 hf P => w_X12_step_L11 C x0 x1 x2 x3 x4 x5 x6 s _ hf (fun u7 u8 hu e => by cases e; exact P) (fun u7 hu e => by cases e)) (fun s r hf P => w_X12_step_L11 C x0 x1 x2 x3 x4 x5 x6 s _ hf (fun u7 u8 hu e => by cases e) (fun u7 hu e => by cases e; exact P))
set_option maxRecDepth 100000 in
set_option maxHeartbeats 4000000 in
theorem w_X12_step_L184_J296 {X : MX} (C : CX X cX12_step 11 RX12 none rmX12_step) (x0 : Nat) (x1 : Int32) (x3 : Int32) (x7 : Int32) (x8 : Int32) (y9 : Int32) (y10 : Int32) (h : AH) (res : (Int32 × AH) ⊕ ((AH))) (hf : f_X12_step_L184_J296 x0 x1 x3 x7 x8 y9 y10 h = some res) (K0 : ∀ (u9 : Int32) (hu : AH), res = .inl (u9, hu) → PT X 11 0 0 184 [(0, .ref x0), (1, .int x1), (3, .int x3), (7, .int x7), (8, .int x8), (9, .int u9)] [] hu) (K1 : ∀ (hu : AH), res = .inr (hu) → PT X 11 0 0 338 [] [] hu) : PT X 11 0 0 296 [(0, .ref x0), (1, .int x1), (3, .int x3), (7, .int x7), (8, .int x8), (9, .int y9), (10, .int y10)] [] h := by
  unfold f_X12_step_L184_J296 at hf
  refine pt_aload_n C 0 rfl rfl dX12_step_296 ?_
  refine ob hf (fun v57 g58 hf => ?_)
  refine pt_getR C kX12 13 (by decide) tw_929 (Or.inl rfl) g58 dX12_step_297 ?_
  refine pt_bipush C (v := 10) (by decide) dX12_step_300 ?_
  refine pt_iload_n C 1 rfl rfl dX12_step_302 ?_
  refine pt_imul C dX12_step_303 ?_
  refine pt_iload C 5 rfl dX12_step_304 ?_
  refine pt_iadd C dX12_step_306 ?_
  refine pt_iload C 6 rfl dX12_step_307 ?_
  refine pt_aload_n C 0 rfl rfl dX12_step_309 ?_
  refine ob hf (fun v59 g60 hf => ?_)
  refine pt_getR C kX12 8 (by decide) tw_924 (Or.inl rfl) g60 dX12_step_310 ?_
  refine pt_iload C 5 rfl dX12_step_313 ?_
  refine ob hf (fun v61 g62 hf => ?_)
  refine pt_iald C g62 dX12_step_315 ?_
  refine pt_icmp_le C (tgt := 329) (by decide) dX12_step_316 (fun c63 => ?_) (fun c63 => ?_)
  · rw [if_pos c63] at hf
    refine pt_iload C 6 rfl dX12_step_329 ?_
    refine ob hf (fun h64 g65 hf => ?_)
    refine pt_iast C g65 dX12_step_331 ?_
    refine pt_iinc C 5 [(9, .int (y9 + 1)), (0, .ref x0), (1, .int x1), (3, .int x3), (7, .int x7), (8, .int x8), (10, .int y10)] rfl (iinc_eq y9 (by decide)) (by decide) rfl dX12_step_332 ?_
    refine pt_goto C (tgt := 184) (by decide) dX12_step_335 ?_
    refine pt_sub C [(0, .ref x0), (1, .int x1), (3, .int x3), (7, .int x7), (8, .int x8), (9, .int (y9 + 1))] [1, 2, 3, 4, 5, 0] rfl ?_
    exact K0 _ _ (Option.some.inj hf).symm
  · rw [if_neg c63] at hf
    refine pt_aload_n C 0 rfl rfl dX12_step_319 ?_
    refine ob hf (fun v66 g67 hf => ?_)
    refine pt_getR C kX12 8 (by decide) tw_924 (Or.inl rfl) g67 dX12_step_320 ?_
    refine pt_iload C 5 rfl dX12_step_323 ?_
    refine ob hf (fun v68 g69 hf => ?_)
    refine pt_iald C g69 dX12_step_325 ?_
    refine pt_goto C (tgt := 331) (by decide) dX12_step_326 ?_
    refine ob hf (fun h70 g71 hf => ?_)
    refine pt_iast C g71 dX12_step_331 ?_
    refine pt_iinc C 5 [(9, .int (y9 + 1)), (0, .ref x0), (1, .int x1), (3, .int x3), (7, .int x7), (8, .int x8), (10, .int y10)] rfl (iinc_eq y9 (by decide)) (by decide) rfl dX12_step_332 ?_
    refine pt_goto C (tgt := 184) (by decide) dX12_step_335 ?_
    refine pt_sub C [(0, .ref x0), (1, .int x1), (3, .int x3), (7, .int x7), (8, .int x8), (9, .int (y9 + 1))] [1, 2, 3, 4, 5, 0] rfl ?_
    exact K0 _ _ (Option.some.inj hf).symm
set_option maxRecDepth 100000 in
set_option maxHeartbeats 4000000 in
theorem w_X12_step_L184_J263 {X : MX} (C : CX X cX12_step 11 RX12 none rmX12_step) (x0 : Nat) (x1 : Int32) (x3 : Int32) (x7 : Int32) (x8 : Int32) (y9 : Int32) (y10 : Int32) (h : AH) (res : (Int32 × AH) ⊕ ((AH))) (hf : f_X12_step_L184_J263 x0 x1 x3 x7 x8 y9 y10 h = some res) (K0 : ∀ (u9 : Int32) (hu : AH), res = .inl (u9, hu) → PT X 11 0 0 184 [(0, .ref x0), (1, .int x1), (3, .int x3), (7, .int x7), (8, .int x8), (9, .int u9)] [] hu) (K1 : ∀ (hu : AH), res = .inr (hu) → PT X 11 0 0 338 [] [] hu) : PT X 11 0 0 263 [(0, .ref x0), (1, .int x1), (3, .int x3), (7, .int x7), (8, .int x8), (9, .int y9), (10, .int y10)] [] h := by
  unfold f_X12_step_L184_J263 at hf
  refine pt_iload C 6 rfl dX12_step_263 ?_
  refine pt_aload_n C 0 rfl rfl dX12_step_265 ?_
  refine ob hf (fun v53 g54 hf => ?_)
  refine pt_getR C kX12 10 (by decide) tw_926 (Or.inl rfl) g54 dX12_step_266 ?_
  refine pt_iload C 5 rfl dX12_step_269 ?_
  refine ob hf (fun v55 g56 hf => ?_)
  refine pt_iald C g56 dX12_step_271 ?_
  refine pt_iadd C dX12_step_272 ?_
  refine pt_istore C [(10, .int (y10 + v55)), (0, .ref x0), (1, .int x1), (3, .int x3), (7, .int x7), (8, .int x8), (9, .int y9)] (by decide) rfl dX12_step_273 ?_
  refine pt_goto C (tgt := 296) (by decide) dX12_step_275 ?_
  refine pt_sub C [(0, .ref x0), (1, .int x1), (3, .int x3), (7, .int x7), (8, .int x8), (9, .int y9), (10, .int (y10 + v55))] [1, 2, 3, 4, 5, 6, 0] rfl ?_
  exact w_X12_step_L184_J296 C x0 x1 x3 x7 x8 y9 (y10 + v55) h _ hf K0 K1
set_option maxRecDepth 100000 in
set_option maxHeartbeats 4000000 in
theorem w_X12_step_L184_J244 {X : MX} (C : CX X cX12_step 11 RX12 none rmX12_step) (x0 : Nat) (x1 : Int32) (x3 : Int32) (x7 : Int32) (x8 : Int32) (y9 : Int32) (z0 : Int32) (h : AH) (res : (Int32 × AH) ⊕ ((AH))) (hf : f_X12_step_L184_J244 x0 x1 x3 x7 x8 y9 z0 h = some res) (K0 : ∀ (u9 : Int32) (hu : AH), res = .inl (u9, hu) → PT X 11 0 0 184 [(0, .ref x0), (1, .int x1), (3, .int x3), (7, .int x7), (8, .int x8), (9, .int u9)] [] hu) (K1 : ∀ (hu : AH), res = .inr (hu) → PT X 11 0 0 338 [] [] hu) : PT X 11 0 0 244 [(0, .ref x0), (1, .int x1), (3, .int x3), (7, .int x7), (8, .int x8), (9, .int y9)] [.int z0] h := by
  unfold f_X12_step_L184_J244 at hf
  refine pt_istore C [(10, .int z0), (0, .ref x0), (1, .int x1), (3, .int x3), (7, .int x7), (8, .int x8), (9, .int y9)] (by decide) rfl dX12_step_244 ?_
  refine pt_goto C (tgt := 296) (by decide) dX12_step_246 ?_
  refine pt_sub C [(0, .ref x0), (1, .int x1), (3, .int x3), (7, .int x7), (8, .int x8), (9, .int y9), (10, .int z0)] [1, 2, 3, 4, 5, 6, 0] rfl ?_
  exact w_X12_step_L184_J296 C x0 x1 x3 x7 x8 y9 z0 h _ hf K0 K1
set_option maxRecDepth 100000 in
set_option maxHeartbeats 4000000 in
theorem w_X12_step_L184 {X : MX} (C : CX X cX12_step 11 RX12 none rmX12_step) (x0 : Nat) (x1 : Int32) (x3 : Int32) (x7 : Int32) (x8 : Int32) (s : Int32 × AH) (res : (Int32 × AH) ⊕ ((AH))) (hf : f_X12_step_L184 x0 x1 x3 x7 x8 s = some res) (K0 : ∀ (u9 : Int32) (hu : AH), res = .inl (u9, hu) → PT X 11 0 0 184 [(0, .ref x0), (1, .int x1), (3, .int x3), (7, .int x7), (8, .int x8), (9, .int u9)] [] hu) (K1 : ∀ (hu : AH), res = .inr (hu) → PT X 11 0 0 338 [] [] hu) : PT X 11 0 0 184 [(0, .ref x0), (1, .int x1), (3, .int x3), (7, .int x7), (8, .int x8), (9, .int s.1)] [] s.2 := by
  unfold f_X12_step_L184 at hf
  refine pt_iload C 5 rfl dX12_step_184 ?_
  refine pt_aload_n C 0 rfl rfl dX12_step_186 ?_
  refine ob hf (fun v44 g45 hf => ?_)
  refine pt_getI C kX12 7 (by decide) tw_923 (Or.inl rfl) g45 dX12_step_187 ?_
  refine pt_icmp_ge C (tgt := 338) (by decide) dX12_step_190 (fun c46 => ?_) (fun c46 => ?_)
  · rw [if_pos c46] at hf
    refine pt_sub C [] [] rfl ?_
    exact K1 _ (Option.some.inj hf).symm
  · rw [if_neg c46] at hf
    refine pt_aload_n C 0 rfl rfl dX12_step_193 ?_
    refine ob hf (fun v47 g48 hf => ?_)
    refine pt_getR C kX12 13 (by decide) tw_929 (Or.inl rfl) g48 dX12_step_194 ?_
    refine pt_bipush C (v := 10) (by decide) dX12_step_197 ?_
    refine pt_iload_n C 1 rfl rfl dX12_step_199 ?_
    refine pt_imul C dX12_step_200 ?_
    refine pt_iload C 5 rfl dX12_step_201 ?_
    refine pt_iadd C dX12_step_203 ?_
    refine ob hf (fun v49 g50 hf => ?_)
    refine pt_iald C g50 dX12_step_204 ?_
    refine pt_istore C [(10, .int v49), (0, .ref x0), (1, .int x1), (3, .int x3), (7, .int x7), (8, .int x8), (9, .int s.1)] (by decide) rfl dX12_step_205 ?_
    refine pt_iload C 4 rfl dX12_step_207 ?_
    refine pt_iload C 6 rfl dX12_step_209 ?_
    refine pt_ishr C dX12_step_211 ?_
    refine pt_iconst C (v := 1) (by decide) dX12_step_212 ?_
    refine pt_iand C dX12_step_213 ?_
    refine pt_iconst C (v := 1) (by decide) dX12_step_214 ?_
    refine pt_icmp_ne C (tgt := 249) (by decide) dX12_step_215 (fun c51 => ?_) (fun c51 => ?_)
    · rw [if_neg c51] at hf
      refine pt_iload_n C 3 rfl rfl dX12_step_249 ?_
      refine pt_iload C 6 rfl dX12_step_250 ?_
      refine pt_ishr C dX12_step_252 ?_
      refine pt_iconst C (v := 1) (by decide) dX12_step_253 ?_
      refine pt_iand C dX12_step_254 ?_
      refine pt_if_eq C (tgt := 263) (by decide) dX12_step_255 (fun c52 => ?_) (fun c52 => ?_)
      · rw [if_pos c52] at hf
        refine pt_sub C [(0, .ref x0), (1, .int x1), (3, .int x3), (7, .int x7), (8, .int x8), (9, .int s.1), (10, .int v49)] [1, 2, 3, 4, 5, 6, 0] rfl ?_
        exact w_X12_step_L184_J263 C x0 x1 x3 x7 x8 s.1 v49 s.2 _ hf K0 K1
      · rw [if_neg c52] at hf
        refine pt_iload C 5 rfl dX12_step_258 ?_
        refine pt_if_ne C (tgt := 278) (by decide) dX12_step_260 (fun c72 => ?_) (fun c72 => ?_)
        · rw [if_neg c72] at hf
          refine pt_iload C 5 rfl dX12_step_278 ?_
          refine pt_iconst C (v := 3) (by decide) dX12_step_280 ?_
          refine pt_icmp_ne C (tgt := 296) (by decide) dX12_step_281 (fun c73 => ?_) (fun c73 => ?_)
          · rw [if_neg c73] at hf
            refine pt_sub C [(0, .ref x0), (1, .int x1), (3, .int x3), (7, .int x7), (8, .int x8), (9, .int s.1), (10, .int v49)] [1, 2, 3, 4, 5, 6, 0] rfl ?_
            exact w_X12_step_L184_J296 C x0 x1 x3 x7 x8 s.1 v49 s.2 _ hf K0 K1
          · rw [if_pos c73] at hf
            refine pt_iload C 0 rfl dX12_step_284 ?_
            refine pt_aload_n C 1 rfl rfl dX12_step_286 ?_
            refine ob hf (fun v74 g75 hf => ?_)
            refine pt_getR C kX12 11 (by decide) tw_927 (Or.inl rfl) g75 dX12_step_287 ?_
            refine pt_iload C 6 rfl dX12_step_290 ?_
            refine ob hf (fun v76 g77 hf => ?_)
            refine pt_iald C g77 dX12_step_292 ?_
            refine pt_iadd C dX12_step_293 ?_
            refine pt_istore C [(10, .int (v49 + v76)), (0, .ref x0), (1, .int x1), (3, .int x3), (7, .int x7), (8, .int x8), (9, .int s.1)] (by decide) rfl dX12_step_294 ?_
            refine pt_sub C [(0, .ref x0), (1, .int x1), (3, .int x3), (7, .int x7), (8, .int x8), (9, .int s.1), (10, .int (v49 + v76))] [1, 2, 3, 4, 5, 6, 0] rfl ?_
            exact w_X12_step_L184_J296 C x0 x1 x3 x7 x8 s.1 (v49 + v76) s.2 _ hf K0 K1
        · rw [if_pos c72] at hf
          refine pt_sub C [(0, .ref x0), (1, .int x1), (3, .int x3), (7, .int x7), (8, .int x8), (9, .int s.1), (10, .int v49)] [1, 2, 3, 4, 5, 6, 0] rfl ?_
          exact w_X12_step_L184_J263 C x0 x1 x3 x7 x8 s.1 v49 s.2 _ hf K0 K1
    · rw [if_pos c51] at hf
      refine pt_iload C 0 rfl dX12_step_218 ?_
      refine pt_aload_n C 1 rfl rfl dX12_step_220 ?_
      refine ob hf (fun v78 g79 hf => ?_)
      refine pt_getR C kX12 9 (by decide) tw_925 (Or.inl rfl) g79 dX12_step_221 ?_
      refine pt_iload C 6 rfl dX12_step_224 ?_
      refine ob hf (fun v80 g81 hf => ?_)
      refine pt_iald C g81 dX12_step_226 ?_
      refine pt_icmp_le C (tgt := 243) (by decide) dX12_step_227 (fun c82 => ?_) (fun c82 => ?_)
      · rw [if_pos c82] at hf
        refine pt_iconst C (v := 0) (by decide) dX12_step_243 ?_
        refine pt_sub C [(0, .ref x0), (1, .int x1), (3, .int x3), (7, .int x7), (8, .int x8), (9, .int s.1)] [1, 2, 3, 4, 5, 6] rfl ?_
        exact w_X12_step_L184_J244 C x0 x1 x3 x7 x8 s.1 0 s.2 _ hf K0 K1
      · rw [if_neg c82] at hf
        refine pt_iload C 0 rfl dX12_step_230 ?_
        refine pt_aload_n C 1 rfl rfl dX12_step_232 ?_
        refine ob hf (fun v83 g84 hf => ?_)
        refine pt_getR C kX12 9 (by decide) tw_925 (Or.inl rfl) g84 dX12_step_233 ?_
        refine pt_iload C 6 rfl dX12_step_236 ?_
        refine ob hf (fun v85 g86 hf => ?_)
        refine pt_iald C g86 dX12_step_238 ?_
        refine pt_isub C dX12_step_239 ?_
        refine pt_goto C (tgt := 244) (by decide) dX12_step_240 ?_
        refine pt_sub C [(0, .ref x0), (1, .int x1), (3, .int x3), (7, .int x7), (8, .int x8), (9, .int s.1)] [1, 2, 3, 4, 5, 6] rfl ?_
        exact w_X12_step_L184_J244 C x0 x1 x3 x7 x8 s.1 (v49 - v85) s.2 _ hf K0 K1
theorem l_X12_step_L184 {X : MX} (C : CX X cX12_step 11 RX12 none rmX12_step) (x0 : Nat) (x1 : Int32) (x3 : Int32) (x7 : Int32) (x8 : Int32) : ∀ (n : Nat) (s : Int32 × AH) (r : (AH)), iter (f_X12_step_L184 x0 x1 x3 x7 x8) n s = some r → (fun r : (AH) => PT X 11 0 0 338 [] [] r) r → PT X 11 0 0 184 [(0, .ref x0), (1, .int x1), (3, .int x3), (7, .int x7), (8, .int x8), (9, .int s.1)] [] s.2 :=
  iter_W (fun s : Int32 × AH => PT X 11 0 0 184 [(0, .ref x0), (1, .int x1), (3, .int x3), (7, .int x7), (8, .int x8), (9, .int s.1)] [] s.2) (fun r : (AH) => PT X 11 0 0 338 [] [] r) _ (fun s s2 hf P => w_X12_step_L184 C x0 x1 x3 x7 x8 s _ hf (fun u9 hu e => by cases e; exact P) (fun hu e => by cases e)) (fun s r hf P => w_X12_step_L184 C x0 x1 x3 x7 x8 s _ hf (fun u9 hu e => by cases e) (fun hu e => by cases e; exact P))
set_option maxRecDepth 100000 in
set_option maxHeartbeats 4000000 in
theorem w_X12_step_J172 {X : MX} (C : CX X cX12_step 11 RX12 none rmX12_step) (a0 : Nat) (a1 : Int32) (a2 : Int32) (a3 : Int32) (a4 : Int32) (a5 : Int32) (a6 : Int32) (y7 : Int32) (h : AH) (res : AH) (hf : f_X12_step_J172 a0 a1 a2 a3 a4 a5 a6 y7 h = some res) (K : PR X rmX12_step none res) : PT X 11 0 0 172 [(0, .ref a0), (1, .int a1), (2, .int a2), (3, .int a3), (6, .int a6), (7, .int y7)] [] h := by
  unfold f_X12_step_J172 at hf
  refine pt_aload_n C 0 rfl rfl dX12_step_172 ?_
  refine pt_iload_n C 2 rfl rfl dX12_step_173 ?_
  refine pt_iload C 4 rfl dX12_step_174 ?_
  refine ob hf (fun _ g43 hf => ?_)
  refine ob hf (fun q41 g42 hf => ?_)
  refine pt_callV C (As := [.int a2, .int a6]) (rest := []) (v := (some (.int q41.1))) (fun l => con_X12_beatOf l a0 a2 a6 h _ g42) tw_1090 tw_1087 tw_1089 tp_23 kX12 g43 tw_13 yn_X12_beatOf (by decide) (Nat.le_of_ble_eq_true rfl) dX12_step_176 rfl ?_
  show PT X 11 0 0 179 [(0, .ref a0), (1, .int a1), (2, .int a2), (3, .int a3), (6, .int a6), (7, .int y7)] [.int q41.1] q41.2
  refine pt_istore C [(8, .int q41.1), (0, .ref a0), (1, .int a1), (2, .int a2), (3, .int a3), (6, .int a6), (7, .int y7)] (by decide) rfl dX12_step_179 ?_
  refine pt_iconst C (v := 0) (by decide) dX12_step_181 ?_
  refine pt_istore C [(9, .int 0), (8, .int q41.1), (0, .ref a0), (1, .int a1), (2, .int a2), (3, .int a3), (6, .int a6), (7, .int y7)] (by decide) rfl dX12_step_182 ?_
  refine pt_sub C [(0, .ref a0), (1, .int a1), (3, .int a3), (7, .int y7), (8, .int q41.1), (9, .int 0)] [2, 3, 5, 7, 1, 0] rfl ?_
  refine ob hf (fun e87 g88 hf => ?_)
  refine l_X12_step_L184 C a0 a1 a3 y7 q41.1 _ _ _ g88 ?_
  obtain rfl := Option.some.inj hf
  exact pt_vret C K (by decide) (by decide) dX12_step_338
set_option maxRecDepth 100000 in
set_option maxHeartbeats 4000000 in
theorem w_X12_step_J169 {X : MX} (C : CX X cX12_step 11 RX12 none rmX12_step) (a0 : Nat) (a1 : Int32) (a2 : Int32) (a3 : Int32) (a4 : Int32) (a5 : Int32) (a6 : Int32) (y7 : Int32) (z0 : Int32) (z1 : Nat) (h : AH) (res : AH) (hf : f_X12_step_J169 a0 a1 a2 a3 a4 a5 a6 y7 z0 z1 h = some res) (K : PR X rmX12_step none res) : PT X 11 0 0 169 [(0, .ref a0), (1, .int a1), (2, .int a2), (3, .int a3), (6, .int a6), (7, .int y7)] [.int z0, .ref z1] h := by
  unfold f_X12_step_J169 at hf
  refine ob hf (fun h39 g40 hf => ?_)
  refine pt_put C kX12 20 (by decide) tw_936 (Or.inl rfl) rfl rfl rfl g40 dX12_step_169 ?_
  exact w_X12_step_J172 C a0 a1 a2 a3 a4 a5 a6 y7 h39 _ hf K
set_option maxRecDepth 100000 in
set_option maxHeartbeats 4000000 in
theorem w_X12_step_0 {X : MX} (C : CX X cX12_step 11 RX12 none rmX12_step) (a0 : Nat) (a1 : Int32) (a2 : Int32) (a3 : Int32) (a4 : Int32) (a5 : Int32) (a6 : Int32) (h : AH) (res : AH) (hf : f_X12_step a0 a1 a2 a3 a4 a5 a6 h = some res) (K : PR X rmX12_step none res) : PT X 11 0 0 0 [(0, .ref a0), (1, .int a1), (2, .int a2), (3, .int a3), (4, .int a4), (5, .int a5), (6, .int a6)] [] h := by
  unfold f_X12_step at hf
  refine pt_aload_n C 0 rfl rfl dX12_step_0 ?_
  refine pt_iconst C (v := 0) (by decide) dX12_step_1 ?_
  refine ob hf (fun h1 g2 hf => ?_)
  refine pt_put C kX12 21 (by decide) tw_937 (Or.inl rfl) rfl rfl rfl g2 dX12_step_2 ?_
  refine pt_iconst C (v := 0) (by decide) dX12_step_5 ?_
  refine pt_istore C [(7, .int 0), (0, .ref a0), (1, .int a1), (2, .int a2), (3, .int a3), (4, .int a4), (5, .int a5), (6, .int a6)] (by decide) rfl dX12_step_6 ?_
  refine pt_iconst C (v := 0) (by decide) dX12_step_8 ?_
  refine pt_istore C [(8, .int 0), (7, .int 0), (0, .ref a0), (1, .int a1), (2, .int a2), (3, .int a3), (4, .int a4), (5, .int a5), (6, .int a6)] (by decide) rfl dX12_step_9 ?_
  refine pt_sub C [(0, .ref a0), (1, .int a1), (2, .int a2), (3, .int a3), (4, .int a4), (5, .int a5), (6, .int a6), (7, .int 0), (8, .int 0)] [2, 3, 4, 5, 6, 7, 8, 1, 0] rfl ?_
  refine ob hf (fun e31 g32 hf => ?_)
  refine l_X12_step_L11 C a0 a1 a2 a3 a4 a5 a6 _ _ _ g32 ?_
  refine pt_aload_n C 0 rfl rfl dX12_step_117 ?_
  refine ob hf (fun v33 g34 hf => ?_)
  refine pt_getI C kX12 21 (by decide) tw_937 (Or.inl rfl) g34 dX12_step_118 ?_
  refine pt_iload C 4 rfl dX12_step_121 ?_
  refine pt_icmp_le C (tgt := 148) (by decide) dX12_step_123 (fun c35 => ?_) (fun c35 => ?_)
  · rw [if_pos c35] at hf
    refine pt_aload_n C 0 rfl rfl dX12_step_148 ?_
    refine pt_aload_n C 0 rfl rfl dX12_step_149 ?_
    refine ob hf (fun v36 g37 hf => ?_)
    refine pt_getI C kX12 20 (by decide) tw_936 (Or.inl rfl) g37 dX12_step_150 ?_
    refine pt_iload C 5 rfl dX12_step_153 ?_
    refine pt_icmp_le C (tgt := 168) (by decide) dX12_step_155 (fun c38 => ?_) (fun c38 => ?_)
    · rw [if_pos c38] at hf
      refine pt_iconst C (v := 0) (by decide) dX12_step_168 ?_
      refine pt_sub C [(0, .ref a0), (1, .int a1), (2, .int a2), (3, .int a3), (6, .int a6), (7, .int e31.1)] [0, 1, 2, 3, 6, 7] rfl ?_
      exact w_X12_step_J169 C a0 a1 a2 a3 a4 a5 a6 e31.1 0 a0 e31.2 _ hf K
    · rw [if_neg c38] at hf
      refine pt_aload_n C 0 rfl rfl dX12_step_158 ?_
      refine ob hf (fun v89 g90 hf => ?_)
      refine pt_getI C kX12 20 (by decide) tw_936 (Or.inl rfl) g90 dX12_step_159 ?_
      refine pt_iload C 5 rfl dX12_step_162 ?_
      refine pt_isub C dX12_step_164 ?_
      refine pt_goto C (tgt := 169) (by decide) dX12_step_165 ?_
      refine pt_sub C [(0, .ref a0), (1, .int a1), (2, .int a2), (3, .int a3), (6, .int a6), (7, .int e31.1)] [0, 1, 2, 3, 6, 7] rfl ?_
      exact w_X12_step_J169 C a0 a1 a2 a3 a4 a5 a6 e31.1 (v89 - a5) a0 e31.2 _ hf K
  · rw [if_neg c35] at hf
    refine pt_aload_n C 0 rfl rfl dX12_step_126 ?_
    refine pt_dup C rfl dX12_step_127 ?_
    refine ob hf (fun v91 g92 hf => ?_)
    refine pt_getI C kX12 20 (by decide) tw_936 (Or.inl rfl) g92 dX12_step_128 ?_
    refine pt_aload_n C 0 rfl rfl dX12_step_131 ?_
    refine ob hf (fun v93 g94 hf => ?_)
    refine pt_getI C kX12 21 (by decide) tw_937 (Or.inl rfl) g94 dX12_step_132 ?_
    refine pt_iload C 4 rfl dX12_step_135 ?_
    refine pt_isub C dX12_step_137 ?_
    refine pt_bipush C (v := 10) (by decide) dX12_step_138 ?_
    refine pt_idiv C (by decide) dX12_step_140 ?_
    refine pt_iadd C dX12_step_141 ?_
    refine ob hf (fun h95 g96 hf => ?_)
    refine pt_put C kX12 20 (by decide) tw_936 (Or.inl rfl) rfl rfl rfl g96 dX12_step_142 ?_
    refine pt_goto C (tgt := 172) (by decide) dX12_step_145 ?_
    refine pt_sub C [(0, .ref a0), (1, .int a1), (2, .int a2), (3, .int a3), (6, .int a6), (7, .int e31.1)] [0, 1, 2, 3, 6, 7] rfl ?_
    exact w_X12_step_J172 C a0 a1 a2 a3 a4 a5 a6 e31.1 h95 _ hf K
theorem con_X12_step (l : Launch) (a0 : Nat) (a1 : Int32) (a2 : Int32) (a3 : Int32) (a4 : Int32) (a5 : Int32) (a6 : Int32) (h : AH) (q : AH) (hf : f_X12_step a0 a1 a2 a3 a4 a5 a6 h = some q) : Con l yX12_step cX12_step 11 none rmX12_step [.ref a0, .int a1, .int a2, .int a3, .int a4, .int a5, .int a6] h none q := Con.of (by decide +kernel) (Nat.le_of_ble_eq_true rfl) (fun X C I K => w_X12_step_0 C a0 a1 a2 a3 a4 a5 a6 h q hf K)
abbrev rmX12_isAbove : Room := { frames := 0, cells := 0, slots := 0, locals := 0 }
theorem yn_X12_isAbove : YN yX12_isAbove 2 := by refine ⟨?_, ?_, ?_⟩ <;> decide +kernel
set_option maxRecDepth 100000 in
set_option maxHeartbeats 4000000 in
theorem w_X12_isAbove_L5_J46 {X : MX} (C : CX X cX12_isAbove 5 RX12 (some .boolean) rmX12_isAbove) (x0 : Nat) (x1 : Int32) (x2 : Int32) (y4 : Int32) (h : AH) (res : (Int32 × Int32 × AH) ⊕ ((Int32 × AH))) (hf : f_X12_isAbove_L5_J46 x0 x1 x2 y4 h = some res) (K0 : ∀ (u3 : Int32) (u4 : Int32) (hu : AH), res = .inl (u3, u4, hu) → PT X 5 0 0 5 [(0, .ref x0), (1, .int x1), (2, .int x2), (3, .int u3), (4, .int u4)] [] hu) (K1 : ∀ (u3 : Int32) (hu : AH), res = .inr ((u3, hu)) → PT X 5 0 0 58 [(3, .int u3)] [] hu) : PT X 5 0 0 46 [(0, .ref x0), (1, .int x1), (2, .int x2), (4, .int y4)] [] h := by
  unfold f_X12_isAbove_L5_J46 at hf
  refine pt_iconst C (v := 1) (by decide) dX12_isAbove_46 ?_
  refine pt_goto C (tgt := 51) (by decide) dX12_isAbove_47 ?_
  refine pt_istore_n C [(3, .int 1), (0, .ref x0), (1, .int x1), (2, .int x2), (4, .int y4)] rfl (by decide) rfl dX12_isAbove_51 ?_
  refine pt_iinc C 4 [(4, .int (y4 + 1)), (3, .int 1), (0, .ref x0), (1, .int x1), (2, .int x2)] rfl (iinc_eq y4 (by decide)) (by decide) rfl dX12_isAbove_52 ?_
  refine pt_goto C (tgt := 5) (by decide) dX12_isAbove_55 ?_
  refine pt_sub C [(0, .ref x0), (1, .int x1), (2, .int x2), (3, .int 1), (4, .int (y4 + 1))] [2, 3, 4, 1, 0] rfl ?_
  exact K0 _ _ _ (Option.some.inj hf).symm
set_option maxRecDepth 100000 in
set_option maxHeartbeats 4000000 in
theorem w_X12_isAbove_L5 {X : MX} (C : CX X cX12_isAbove 5 RX12 (some .boolean) rmX12_isAbove) (x0 : Nat) (x1 : Int32) (x2 : Int32) (s : Int32 × Int32 × AH) (res : (Int32 × Int32 × AH) ⊕ ((Int32 × AH))) (hf : f_X12_isAbove_L5 x0 x1 x2 s = some res) (K0 : ∀ (u3 : Int32) (u4 : Int32) (hu : AH), res = .inl (u3, u4, hu) → PT X 5 0 0 5 [(0, .ref x0), (1, .int x1), (2, .int x2), (3, .int u3), (4, .int u4)] [] hu) (K1 : ∀ (u3 : Int32) (hu : AH), res = .inr ((u3, hu)) → PT X 5 0 0 58 [(3, .int u3)] [] hu) : PT X 5 0 0 5 [(0, .ref x0), (1, .int x1), (2, .int x2), (3, .int s.1), (4, .int s.2.1)] [] s.2.2 := by
  unfold f_X12_isAbove_L5 at hf
  refine pt_iload C 4 rfl dX12_isAbove_5 ?_
  refine pt_aload_n C 0 rfl rfl dX12_isAbove_7 ?_
  refine ob hf (fun v1 g2 hf => ?_)
  refine pt_getI C kX12 7 (by decide) tw_923 (Or.inl rfl) g2 dX12_isAbove_8 ?_
  refine pt_icmp_ge C (tgt := 58) (by decide) dX12_isAbove_11 (fun c3 => ?_) (fun c3 => ?_)
  · rw [if_pos c3] at hf
    refine pt_sub C [(3, .int s.1)] [3] rfl ?_
    exact K1 _ _ (Option.some.inj hf).symm
  · rw [if_neg c3] at hf
    refine pt_iload_n C 3 rfl rfl dX12_isAbove_14 ?_
    refine pt_if_eq C (tgt := 50) (by decide) dX12_isAbove_15 (fun c4 => ?_) (fun c4 => ?_)
    · rw [if_pos c4] at hf
      refine pt_iconst C (v := 0) (by decide) dX12_isAbove_50 ?_
      refine pt_istore_n C [(3, .int 0), (0, .ref x0), (1, .int x1), (2, .int x2), (4, .int s.2.1)] rfl (by decide) rfl dX12_isAbove_51 ?_
      refine pt_iinc C 4 [(4, .int (s.2.1 + 1)), (3, .int 0), (0, .ref x0), (1, .int x1), (2, .int x2)] rfl (iinc_eq s.2.1 (by decide)) (by decide) rfl dX12_isAbove_52 ?_
      refine pt_goto C (tgt := 5) (by decide) dX12_isAbove_55 ?_
      refine pt_sub C [(0, .ref x0), (1, .int x1), (2, .int x2), (3, .int 0), (4, .int (s.2.1 + 1))] [2, 3, 4, 1, 0] rfl ?_
      exact K0 _ _ _ (Option.some.inj hf).symm
    · rw [if_neg c4] at hf
      refine pt_iload_n C 2 rfl rfl dX12_isAbove_18 ?_
      refine pt_iload C 4 rfl dX12_isAbove_19 ?_
      refine pt_ishr C dX12_isAbove_21 ?_
      refine pt_iconst C (v := 1) (by decide) dX12_isAbove_22 ?_
      refine pt_iand C dX12_isAbove_23 ?_
      refine pt_if_eq C (tgt := 46) (by decide) dX12_isAbove_24 (fun c5 => ?_) (fun c5 => ?_)
      · rw [if_pos c5] at hf
        refine pt_sub C [(0, .ref x0), (1, .int x1), (2, .int x2), (4, .int s.2.1)] [0, 1, 2, 4] rfl ?_
        exact w_X12_isAbove_L5_J46 C x0 x1 x2 s.2.1 s.2.2 _ hf K0 K1
      · rw [if_neg c5] at hf
        refine pt_aload_n C 0 rfl rfl dX12_isAbove_27 ?_
        refine ob hf (fun v6 g7 hf => ?_)
        refine pt_getR C kX12 13 (by decide) tw_929 (Or.inl rfl) g7 dX12_isAbove_28 ?_
        refine pt_bipush C (v := 10) (by decide) dX12_isAbove_31 ?_
        refine pt_iload_n C 1 rfl rfl dX12_isAbove_33 ?_
        refine pt_imul C dX12_isAbove_34 ?_
        refine pt_iload C 4 rfl dX12_isAbove_35 ?_
        refine pt_iadd C dX12_isAbove_37 ?_
        refine ob hf (fun v8 g9 hf => ?_)
        refine pt_iald C g9 dX12_isAbove_38 ?_
        refine pt_aload_n C 0 rfl rfl dX12_isAbove_39 ?_
        refine ob hf (fun v10 g11 hf => ?_)
        refine pt_getI C kX12 15 (by decide) tw_931 (Or.inl rfl) g11 dX12_isAbove_40 ?_
        refine pt_icmp_lt C (tgt := 50) (by decide) dX12_isAbove_43 (fun c12 => ?_) (fun c12 => ?_)
        · rw [if_pos c12] at hf
          refine pt_iconst C (v := 0) (by decide) dX12_isAbove_50 ?_
          refine pt_istore_n C [(3, .int 0), (0, .ref x0), (1, .int x1), (2, .int x2), (4, .int s.2.1)] rfl (by decide) rfl dX12_isAbove_51 ?_
          refine pt_iinc C 4 [(4, .int (s.2.1 + 1)), (3, .int 0), (0, .ref x0), (1, .int x1), (2, .int x2)] rfl (iinc_eq s.2.1 (by decide)) (by decide) rfl dX12_isAbove_52 ?_
          refine pt_goto C (tgt := 5) (by decide) dX12_isAbove_55 ?_
          refine pt_sub C [(0, .ref x0), (1, .int x1), (2, .int x2), (3, .int 0), (4, .int (s.2.1 + 1))] [2, 3, 4, 1, 0] rfl ?_
          exact K0 _ _ _ (Option.some.inj hf).symm
        · rw [if_neg c12] at hf
          refine pt_sub C [(0, .ref x0), (1, .int x1), (2, .int x2), (4, .int s.2.1)] [0, 1, 2, 4] rfl ?_
          exact w_X12_isAbove_L5_J46 C x0 x1 x2 s.2.1 s.2.2 _ hf K0 K1
theorem l_X12_isAbove_L5 {X : MX} (C : CX X cX12_isAbove 5 RX12 (some .boolean) rmX12_isAbove) (x0 : Nat) (x1 : Int32) (x2 : Int32) : ∀ (n : Nat) (s : Int32 × Int32 × AH) (r : (Int32 × AH)), iter (f_X12_isAbove_L5 x0 x1 x2) n s = some r → (fun r : (Int32 × AH) => PT X 5 0 0 58 [(3, .int r.1)] [] r.2) r → PT X 5 0 0 5 [(0, .ref x0), (1, .int x1), (2, .int x2), (3, .int s.1), (4, .int s.2.1)] [] s.2.2 :=
  iter_W (fun s : Int32 × Int32 × AH => PT X 5 0 0 5 [(0, .ref x0), (1, .int x1), (2, .int x2), (3, .int s.1), (4, .int s.2.1)] [] s.2.2) (fun r : (Int32 × AH) => PT X 5 0 0 58 [(3, .int r.1)] [] r.2) _ (fun s s2 hf P => w_X12_isAbove_L5 C x0 x1 x2 s _ hf (fun u3 u4 hu e => by cases e; exact P) (fun u3 hu e => by cases e)) (fun s r hf P => w_X12_isAbove_L5 C x0 x1 x2 s _ hf (fun u3 u4 hu e => by cases e) (fun u3 hu e => by cases e; exact P))
set_option maxRecDepth 100000 in
set_option maxHeartbeats 4000000 in
theorem w_X12_isAbove_0 {X : MX} (C : CX X cX12_isAbove 5 RX12 (some .boolean) rmX12_isAbove) (a0 : Nat) (a1 : Int32) (a2 : Int32) (h : AH) (res : Int32 × AH) (hf : f_X12_isAbove a0 a1 a2 h = some res) (K : ∀ (v : Int32) (h2 : AH), res = (v, h2) → PR X rmX12_isAbove (some (.int v)) h2) : PT X 5 0 0 0 [(0, .ref a0), (1, .int a1), (2, .int a2)] [] h := by
  unfold f_X12_isAbove at hf
  refine pt_iconst C (v := 1) (by decide) dX12_isAbove_0 ?_
  refine pt_istore_n C [(3, .int 1), (0, .ref a0), (1, .int a1), (2, .int a2)] rfl (by decide) rfl dX12_isAbove_1 ?_
  refine pt_iconst C (v := 0) (by decide) dX12_isAbove_2 ?_
  refine pt_istore C [(4, .int 0), (3, .int 1), (0, .ref a0), (1, .int a1), (2, .int a2)] (by decide) rfl dX12_isAbove_3 ?_
  refine pt_sub C [(0, .ref a0), (1, .int a1), (2, .int a2), (3, .int 1), (4, .int 0)] [2, 3, 4, 1, 0] rfl ?_
  refine ob hf (fun e13 g14 hf => ?_)
  refine l_X12_isAbove_L5 C a0 a1 a2 _ _ _ g14 ?_
  refine pt_iload_n C 0 rfl rfl dX12_isAbove_58 ?_
  refine ob hf (fun _ g15 hf => ?_)
  exact pt_zret C (hzb_spec g15) (K _ _ (Option.some.inj hf).symm) (by decide) (by decide) dX12_isAbove_59
theorem con_X12_isAbove (l : Launch) (a0 : Nat) (a1 : Int32) (a2 : Int32) (h : AH) (q : Int32 × AH) (hf : f_X12_isAbove a0 a1 a2 h = some q) : Con l yX12_isAbove cX12_isAbove 5 (some .boolean) rmX12_isAbove [.ref a0, .int a1, .int a2] h (some (.int q.1)) q.2 := Con.of (by decide +kernel) (Nat.le_of_ble_eq_true rfl) (fun X C I K => w_X12_isAbove_0 C a0 a1 a2 h q hf (fun v h2 e => by cases e; exact K))
abbrev rmX12_work : Room := { frames := 2, cells := 0, slots := 0, locals := 53 }
theorem yn_X12_work : YN yX12_work 7 := by refine ⟨?_, ?_, ?_⟩ <;> decide +kernel
set_option maxRecDepth 100000 in
set_option maxHeartbeats 4000000 in
theorem w_X12_work_L8 {X : MX} (C : CX X cX12_work 9 RX12 (some .int) rmX12_work) (x0 : Nat) (x1 : Int32) (x2 : Int32) (x3 : Int32) (x4 : Int32) (x5 : Int32) (x6 : Int32) (x7 : Int32) (s : Int32 × AH) (res : (Int32 × AH) ⊕ ((AH))) (hf : f_X12_work_L8 x0 x1 x2 x3 x4 x5 x6 x7 s = some res) (K0 : ∀ (u8 : Int32) (hu : AH), res = .inl (u8, hu) → PT X 9 0 0 8 [(0, .ref x0), (1, .int x1), (2, .int x2), (3, .int x3), (4, .int x4), (5, .int x5), (6, .int x6), (7, .int x7), (8, .int u8)] [] hu) (K1 : ∀ (hu : AH), res = .inr (hu) → PT X 9 0 0 37 [(0, .ref x0), (1, .int x1), (2, .int x2), (3, .int x3), (4, .int x4), (5, .int x5), (6, .int x6), (7, .int x7)] [] hu) : PT X 9 0 0 8 [(0, .ref x0), (1, .int x1), (2, .int x2), (3, .int x3), (4, .int x4), (5, .int x5), (6, .int x6), (7, .int x7), (8, .int s.1)] [] s.2 := by
  unfold f_X12_work_L8 at hf
  refine pt_iload C 8 rfl dX12_work_8 ?_
  refine pt_aload_n C 0 rfl rfl dX12_work_10 ?_
  refine ob hf (fun v3 g4 hf => ?_)
  refine pt_getI C kX12 7 (by decide) tw_923 (Or.inl rfl) g4 dX12_work_11 ?_
  refine pt_icmp_ge C (tgt := 37) (by decide) dX12_work_14 (fun c5 => ?_) (fun c5 => ?_)
  · rw [if_pos c5] at hf
    refine pt_sub C [(0, .ref x0), (1, .int x1), (2, .int x2), (3, .int x3), (4, .int x4), (5, .int x5), (6, .int x6), (7, .int x7)] [0, 1, 2, 3, 4, 5, 6, 7] rfl ?_
    exact K1 _ (Option.some.inj hf).symm
  · rw [if_neg c5] at hf
    refine pt_aload_n C 0 rfl rfl dX12_work_17 ?_
    refine ob hf (fun v6 g7 hf => ?_)
    refine pt_getR C kX12 19 (by decide) tw_935 (Or.inl rfl) g7 dX12_work_18 ?_
    refine pt_iload C 8 rfl dX12_work_21 ?_
    refine pt_aload_n C 0 rfl rfl dX12_work_23 ?_
    refine ob hf (fun v8 g9 hf => ?_)
    refine pt_getR C kX12 12 (by decide) tw_928 (Or.inl rfl) g9 dX12_work_24 ?_
    refine pt_iload C 8 rfl dX12_work_27 ?_
    refine ob hf (fun v10 g11 hf => ?_)
    refine pt_iald C g11 dX12_work_29 ?_
    refine ob hf (fun h12 g13 hf => ?_)
    refine pt_iast C g13 dX12_work_30 ?_
    refine pt_iinc C 8 [(8, .int (s.1 + 1)), (0, .ref x0), (1, .int x1), (2, .int x2), (3, .int x3), (4, .int x4), (5, .int x5), (6, .int x6), (7, .int x7)] rfl (iinc_eq s.1 (by decide)) (by decide) rfl dX12_work_31 ?_
    refine pt_goto C (tgt := 8) (by decide) dX12_work_34 ?_
    refine pt_sub C [(0, .ref x0), (1, .int x1), (2, .int x2), (3, .int x3), (4, .int x4), (5, .int x5), (6, .int x6), (7, .int x7), (8, .int (s.1 + 1))] [1, 2, 3, 4, 5, 6, 7, 8, 0] rfl ?_
    exact K0 _ _ (Option.some.inj hf).symm
theorem l_X12_work_L8 {X : MX} (C : CX X cX12_work 9 RX12 (some .int) rmX12_work) (x0 : Nat) (x1 : Int32) (x2 : Int32) (x3 : Int32) (x4 : Int32) (x5 : Int32) (x6 : Int32) (x7 : Int32) : ∀ (n : Nat) (s : Int32 × AH) (r : (AH)), iter (f_X12_work_L8 x0 x1 x2 x3 x4 x5 x6 x7) n s = some r → (fun r : (AH) => PT X 9 0 0 37 [(0, .ref x0), (1, .int x1), (2, .int x2), (3, .int x3), (4, .int x4), (5, .int x5), (6, .int x6), (7, .int x7)] [] r) r → PT X 9 0 0 8 [(0, .ref x0), (1, .int x1), (2, .int x2), (3, .int x3), (4, .int x4), (5, .int x5), (6, .int x6), (7, .int x7), (8, .int s.1)] [] s.2 :=
  iter_W (fun s : Int32 × AH => PT X 9 0 0 8 [(0, .ref x0), (1, .int x1), (2, .int x2), (3, .int x3), (4, .int x4), (5, .int x5), (6, .int x6), (7, .int x7), (8, .int s.1)] [] s.2) (fun r : (AH) => PT X 9 0 0 37 [(0, .ref x0), (1, .int x1), (2, .int x2), (3, .int x3), (4, .int x4), (5, .int x5), (6, .int x6), (7, .int x7)] [] r) _ (fun s s2 hf P => w_X12_work_L8 C x0 x1 x2 x3 x4 x5 x6 x7 s _ hf (fun u8 hu e => by cases e; exact P) (fun hu e => by cases e)) (fun s r hf P => w_X12_work_L8 C x0 x1 x2 x3 x4 x5 x6 x7 s _ hf (fun u8 hu e => by cases e) (fun hu e => by cases e; exact P))
set_option maxRecDepth 100000 in
set_option maxHeartbeats 4000000 in
theorem w_X12_work_L40_J96 {X : MX} (C : CX X cX12_work 9 RX12 (some .int) rmX12_work) (x0 : Nat) (x1 : Int32) (x2 : Int32) (x3 : Int32) (x4 : Int32) (x5 : Int32) (x6 : Int32) (x7 : Int32) (y8 : Int32) (h : AH) (res : (Int32 × AH) ⊕ ((AH) ⊕ (Int32 × AH) ⊕ (Int32 × AH))) (hf : f_X12_work_L40_J96 x0 x1 x2 x3 x4 x5 x6 x7 y8 h = some res) (K0 : ∀ (u8 : Int32) (hu : AH), res = .inl (u8, hu) → PT X 9 0 0 40 [(0, .ref x0), (1, .int x1), (2, .int x2), (3, .int x3), (4, .int x4), (5, .int x5), (6, .int x6), (7, .int x7), (8, .int u8)] [] hu) (K1 : ∀ (hu : AH), res = .inr (.inl (hu)) → PT X 9 0 0 132 [] [] hu) (K2 : ∀ (u8 : Int32) (hu : AH), res = .inr (.inr (.inl ((u8, hu)))) → PT X 9 0 0 121 [(8, .int u8)] [] hu) (K3 : ∀ (u8 : Int32) (hu : AH), res = .inr (.inr (.inr ((u8, hu)))) → PT X 9 0 0 105 [(8, .int u8)] [] hu) : PT X 9 0 0 96 [(0, .ref x0), (1, .int x1), (2, .int x2), (3, .int x3), (4, .int x4), (5, .int x5), (6, .int x6), (7, .int x7), (8, .int y8)] [] h := by
  unfold f_X12_work_L40_J96 at hf
  refine pt_aload_n C 0 rfl rfl dX12_work_96 ?_
  refine pt_iload_n C 1 rfl rfl dX12_work_97 ?_
  refine pt_iload_n C 3 rfl rfl dX12_work_98 ?_
  refine ob hf (fun _ g23 hf => ?_)
  refine ob hf (fun q21 g22 hf => ?_)
  refine pt_callV C (As := [.int x1, .int x3]) (rest := []) (v := (some (.int q21.1))) (fun l => con_X12_isAbove l x0 x1 x3 h _ g22) tw_1148 tw_1145 tw_1147 tp_28 kX12 g23 tw_13 yn_X12_isAbove (by decide) (Nat.le_of_ble_eq_true rfl) dX12_work_99 rfl ?_
  show PT X 9 0 0 102 [(0, .ref x0), (1, .int x1), (2, .int x2), (3, .int x3), (4, .int x4), (5, .int x5), (6, .int x6), (7, .int x7), (8, .int y8)] [.int q21.1] q21.2
  refine pt_if_ne C (tgt := 112) (by decide) dX12_work_102 (fun c24 => ?_) (fun c24 => ?_)
  · rw [if_neg c24] at hf
    refine pt_aload_n C 0 rfl rfl dX12_work_112 ?_
    refine ob hf (fun v25 g26 hf => ?_)
    refine pt_getI C kX12 20 (by decide) tw_936 (Or.inl rfl) g26 dX12_work_113 ?_
    refine pt_iload C 4 rfl dX12_work_116 ?_
    refine pt_icmp_lt C (tgt := 126) (by decide) dX12_work_118 (fun c27 => ?_) (fun c27 => ?_)
    · rw [if_pos c27] at hf
      refine pt_iinc C 8 [(8, .int (y8 + 1)), (0, .ref x0), (1, .int x1), (2, .int x2), (3, .int x3), (4, .int x4), (5, .int x5), (6, .int x6), (7, .int x7)] rfl (iinc_eq y8 (by decide)) (by decide) rfl dX12_work_126 ?_
      refine pt_goto C (tgt := 40) (by decide) dX12_work_129 ?_
      refine pt_sub C [(0, .ref x0), (1, .int x1), (2, .int x2), (3, .int x3), (4, .int x4), (5, .int x5), (6, .int x6), (7, .int x7), (8, .int (y8 + 1))] [1, 2, 3, 4, 5, 6, 7, 8, 0] rfl ?_
      exact K0 _ _ (Option.some.inj hf).symm
    · rw [if_neg c27] at hf
      refine pt_sub C [(8, .int y8)] [8] rfl ?_
      exact K2 _ _ (Option.some.inj hf).symm
  · rw [if_pos c24] at hf
    refine pt_sub C [(8, .int y8)] [8] rfl ?_
    exact K3 _ _ (Option.some.inj hf).symm
set_option maxRecDepth 100000 in
set_option maxHeartbeats 4000000 in
theorem w_X12_work_L40 {X : MX} (C : CX X cX12_work 9 RX12 (some .int) rmX12_work) (x0 : Nat) (x1 : Int32) (x2 : Int32) (x3 : Int32) (x4 : Int32) (x5 : Int32) (x6 : Int32) (x7 : Int32) (s : Int32 × AH) (res : (Int32 × AH) ⊕ ((AH) ⊕ (Int32 × AH) ⊕ (Int32 × AH))) (hf : f_X12_work_L40 x0 x1 x2 x3 x4 x5 x6 x7 s = some res) (K0 : ∀ (u8 : Int32) (hu : AH), res = .inl (u8, hu) → PT X 9 0 0 40 [(0, .ref x0), (1, .int x1), (2, .int x2), (3, .int x3), (4, .int x4), (5, .int x5), (6, .int x6), (7, .int x7), (8, .int u8)] [] hu) (K1 : ∀ (hu : AH), res = .inr (.inl (hu)) → PT X 9 0 0 132 [] [] hu) (K2 : ∀ (u8 : Int32) (hu : AH), res = .inr (.inr (.inl ((u8, hu)))) → PT X 9 0 0 121 [(8, .int u8)] [] hu) (K3 : ∀ (u8 : Int32) (hu : AH), res = .inr (.inr (.inr ((u8, hu)))) → PT X 9 0 0 105 [(8, .int u8)] [] hu) : PT X 9 0 0 40 [(0, .ref x0), (1, .int x1), (2, .int x2), (3, .int x3), (4, .int x4), (5, .int x5), (6, .int x6), (7, .int x7), (8, .int s.1)] [] s.2 := by
  unfold f_X12_work_L40 at hf
  refine pt_iload C 8 rfl dX12_work_40 ?_
  refine pt_sipush C (v := 300) (by decide) dX12_work_42 ?_
  refine pt_icmp_ge C (tgt := 132) (by decide) dX12_work_45 (fun c16 => ?_) (fun c16 => ?_)
  · rw [if_pos c16] at hf
    refine pt_sub C [] [] rfl ?_
    exact K1 _ (Option.some.inj hf).symm
  · rw [if_neg c16] at hf
    refine pt_aload_n C 0 rfl rfl dX12_work_48 ?_
    refine pt_iload_n C 1 rfl rfl dX12_work_49 ?_
    refine pt_iload_n C 2 rfl rfl dX12_work_50 ?_
    refine pt_iload_n C 3 rfl rfl dX12_work_51 ?_
    refine pt_iload C 5 rfl dX12_work_52 ?_
    refine pt_iload C 6 rfl dX12_work_54 ?_
    refine pt_iload C 8 rfl dX12_work_56 ?_
    refine ob hf (fun _ g19 hf => ?_)
    refine ob hf (fun q17 g18 hf => ?_)
    refine pt_callV C (As := [.int x1, .int x2, .int x3, .int x5, .int x6, .int s.1]) (rest := []) (v := none) (fun l => con_X12_step l x0 x1 x2 x3 x5 x6 s.1 s.2 _ g18) tw_1144 tw_1141 tw_1143 tp_27 kX12 g19 tw_13 yn_X12_step (by decide) (Nat.le_of_ble_eq_true rfl) dX12_work_58 rfl ?_
    show PT X 9 0 0 61 [(0, .ref x0), (1, .int x1), (2, .int x2), (3, .int x3), (4, .int x4), (5, .int x5), (6, .int x6), (7, .int x7), (8, .int s.1)] [] q17
    refine pt_iload C 7 rfl dX12_work_61 ?_
    refine pt_if_eq C (tgt := 96) (by decide) dX12_work_63 (fun c20 => ?_) (fun c20 => ?_)
    · rw [if_pos c20] at hf
      exact w_X12_work_L40_J96 C x0 x1 x2 x3 x4 x5 x6 x7 s.1 q17 _ hf K0 K1 K2 K3
    · rw [if_neg c20] at hf
      refine pt_aload_n C 0 rfl rfl dX12_work_66 ?_
      refine ob hf (fun v28 g29 hf => ?_)
      refine pt_getR C kX12 17 (by decide) tw_933 (Or.inl rfl) g29 dX12_work_67 ?_
      refine pt_iload C 8 rfl dX12_work_70 ?_
      refine pt_aload_n C 0 rfl rfl dX12_work_72 ?_
      refine ob hf (fun v30 g31 hf => ?_)
      refine pt_getI C kX12 20 (by decide) tw_936 (Or.inl rfl) g31 dX12_work_73 ?_
      refine ob hf (fun h32 g33 hf => ?_)
      refine pt_iast C g33 dX12_work_76 ?_
      refine pt_aload_n C 0 rfl rfl dX12_work_77 ?_
      refine ob hf (fun v34 g35 hf => ?_)
      refine pt_getR C kX12 18 (by decide) tw_934 (Or.inl rfl) g35 dX12_work_78 ?_
      refine pt_iload C 8 rfl dX12_work_81 ?_
      refine pt_aload_n C 0 rfl rfl dX12_work_83 ?_
      refine ob hf (fun v36 g37 hf => ?_)
      refine pt_getI C kX12 21 (by decide) tw_937 (Or.inl rfl) g37 dX12_work_84 ?_
      refine ob hf (fun h38 g39 hf => ?_)
      refine pt_iast C g39 dX12_work_87 ?_
      refine pt_aload_n C 0 rfl rfl dX12_work_88 ?_
      refine pt_iload C 8 rfl dX12_work_89 ?_
      refine pt_iconst C (v := 1) (by decide) dX12_work_91 ?_
      refine pt_iadd C dX12_work_92 ?_
      refine ob hf (fun h40 g41 hf => ?_)
      refine pt_put C kX12 16 (by decide) tw_932 (Or.inl rfl) rfl rfl rfl g41 dX12_work_93 ?_
      exact w_X12_work_L40_J96 C x0 x1 x2 x3 x4 x5 x6 x7 s.1 h40 _ hf K0 K1 K2 K3
theorem l_X12_work_L40 {X : MX} (C : CX X cX12_work 9 RX12 (some .int) rmX12_work) (x0 : Nat) (x1 : Int32) (x2 : Int32) (x3 : Int32) (x4 : Int32) (x5 : Int32) (x6 : Int32) (x7 : Int32) : ∀ (n : Nat) (s : Int32 × AH) (r : (AH) ⊕ (Int32 × AH) ⊕ (Int32 × AH)), iter (f_X12_work_L40 x0 x1 x2 x3 x4 x5 x6 x7) n s = some r → (Sum.elim (fun r : (AH) => PT X 9 0 0 132 [] [] r) (Sum.elim (fun r : (Int32 × AH) => PT X 9 0 0 121 [(8, .int r.1)] [] r.2) (fun r : (Int32 × AH) => PT X 9 0 0 105 [(8, .int r.1)] [] r.2))) r → PT X 9 0 0 40 [(0, .ref x0), (1, .int x1), (2, .int x2), (3, .int x3), (4, .int x4), (5, .int x5), (6, .int x6), (7, .int x7), (8, .int s.1)] [] s.2 :=
  iter_W (fun s : Int32 × AH => PT X 9 0 0 40 [(0, .ref x0), (1, .int x1), (2, .int x2), (3, .int x3), (4, .int x4), (5, .int x5), (6, .int x6), (7, .int x7), (8, .int s.1)] [] s.2) (Sum.elim (fun r : (AH) => PT X 9 0 0 132 [] [] r) (Sum.elim (fun r : (Int32 × AH) => PT X 9 0 0 121 [(8, .int r.1)] [] r.2) (fun r : (Int32 × AH) => PT X 9 0 0 105 [(8, .int r.1)] [] r.2))) _ (fun s s2 hf P => w_X12_work_L40 C x0 x1 x2 x3 x4 x5 x6 x7 s _ hf (fun u8 hu e => by cases e; exact P) (fun hu e => by cases e) (fun u8 hu e => by cases e) (fun u8 hu e => by cases e)) (fun s r hf P => w_X12_work_L40 C x0 x1 x2 x3 x4 x5 x6 x7 s _ hf (fun u8 hu e => by cases e) (fun hu e => by cases e; exact P) (fun u8 hu e => by cases e; exact P) (fun u8 hu e => by cases e; exact P))
set_option maxRecDepth 100000 in
set_option maxHeartbeats 4000000 in
theorem w_X12_work_0 {X : MX} (C : CX X cX12_work 9 RX12 (some .int) rmX12_work) (a0 : Nat) (a1 : Int32) (a2 : Int32) (a3 : Int32) (a4 : Int32) (a5 : Int32) (a6 : Int32) (a7 : Int32) (h : AH) (res : Int32 × AH) (hf : f_X12_work a0 a1 a2 a3 a4 a5 a6 a7 h = some res) (K : ∀ (v : Int32) (h2 : AH), res = (v, h2) → PR X rmX12_work (some (.int v)) h2) : PT X 9 0 0 0 [(0, .ref a0), (1, .int a1), (2, .int a2), (3, .int a3), (4, .int a4), (5, .int a5), (6, .int a6), (7, .int a7)] [] h := by
  unfold f_X12_work at hf
  refine pt_aload_n C 0 rfl rfl dX12_work_0 ?_
  refine pt_iconst C (v := 0) (by decide) dX12_work_1 ?_
  refine ob hf (fun h1 g2 hf => ?_)
  refine pt_put C kX12 20 (by decide) tw_936 (Or.inl rfl) rfl rfl rfl g2 dX12_work_2 ?_
  refine pt_iconst C (v := 0) (by decide) dX12_work_5 ?_
  refine pt_istore C [(8, .int 0), (0, .ref a0), (1, .int a1), (2, .int a2), (3, .int a3), (4, .int a4), (5, .int a5), (6, .int a6), (7, .int a7)] (by decide) rfl dX12_work_6 ?_
  refine pt_sub C [(0, .ref a0), (1, .int a1), (2, .int a2), (3, .int a3), (4, .int a4), (5, .int a5), (6, .int a6), (7, .int a7), (8, .int 0)] [1, 2, 3, 4, 5, 6, 7, 8, 0] rfl ?_
  refine ob hf (fun e14 g15 hf => ?_)
  refine l_X12_work_L8 C a0 a1 a2 a3 a4 a5 a6 a7 _ _ _ g15 ?_
  refine pt_iconst C (v := 0) (by decide) dX12_work_37 ?_
  refine pt_istore C [(8, .int 0), (0, .ref a0), (1, .int a1), (2, .int a2), (3, .int a3), (4, .int a4), (5, .int a5), (6, .int a6), (7, .int a7)] (by decide) rfl dX12_work_38 ?_
  refine pt_sub C [(0, .ref a0), (1, .int a1), (2, .int a2), (3, .int a3), (4, .int a4), (5, .int a5), (6, .int a6), (7, .int a7), (8, .int 0)] [1, 2, 3, 4, 5, 6, 7, 8, 0] rfl ?_
  refine ob hf (fun e42 g43 hf => ?_)
  refine l_X12_work_L40 C a0 a1 a2 a3 a4 a5 a6 a7 _ _ _ g43 ?_
  cases e42 with
  | inl e44 =>
    simp only [Sum.elim_inl] at hf ⊢
    refine pt_sipush C (v := (-300)) (by decide) dX12_work_132 ?_
    exact pt_iret C (K _ _ (Option.some.inj hf).symm) (by decide) (by decide) dX12_work_135
  | inr e45 =>
    simp only [Sum.elim_inr] at hf ⊢
    cases e45 with
    | inl e46 =>
      simp only [Sum.elim_inl] at hf ⊢
      refine pt_iload C 0 rfl dX12_work_121 ?_
      refine pt_iconst C (v := 1) (by decide) dX12_work_123 ?_
      refine pt_iadd C dX12_work_124 ?_
      exact pt_iret C (K _ _ (Option.some.inj hf).symm) (by decide) (by decide) dX12_work_125
    | inr e47 =>
      simp only [Sum.elim_inr] at hf ⊢
      refine pt_iconst C (v := 0) (by decide) dX12_work_105 ?_
      refine pt_iload C 0 rfl dX12_work_106 ?_
      refine pt_isub C dX12_work_108 ?_
      refine pt_iconst C (v := 1) (by decide) dX12_work_109 ?_
      refine pt_isub C dX12_work_110 ?_
      exact pt_iret C (K _ _ (Option.some.inj hf).symm) (by decide) (by decide) dX12_work_111
theorem con_X12_work (l : Launch) (a0 : Nat) (a1 : Int32) (a2 : Int32) (a3 : Int32) (a4 : Int32) (a5 : Int32) (a6 : Int32) (a7 : Int32) (h : AH) (q : Int32 × AH) (hf : f_X12_work a0 a1 a2 a3 a4 a5 a6 a7 h = some q) : Con l yX12_work cX12_work 9 (some .int) rmX12_work [.ref a0, .int a1, .int a2, .int a3, .int a4, .int a5, .int a6, .int a7] h (some (.int q.1)) q.2 := Con.of (by decide +kernel) (Nat.le_of_ble_eq_true rfl) (fun X C I K => w_X12_work_0 C a0 a1 a2 a3 a4 a5 a6 a7 h q hf (fun v h2 e => by cases e; exact K))
