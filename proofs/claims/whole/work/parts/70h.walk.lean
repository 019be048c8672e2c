abbrev rmX12_leastNow : Room := { frames := 0, cells := 0, slots := 0, locals := 0 }
theorem yn_X12_leastNow : YN yX12_leastNow 1 := by refine ⟨?_, ?_, ?_⟩ <;> decide +kernel
set_option maxRecDepth 100000 in
set_option maxHeartbeats 4000000 in
theorem w_X12_leastNow_L6 {X : MX} (C : CX X cX12_leastNow 5 RX12 (some .int) rmX12_leastNow) (x0 : Nat) (x1 : Int32) (s : Int32 × Int32 × AH) (res : (Int32 × Int32 × AH) ⊕ ((Int32 × AH))) (hf : f_X12_leastNow_L6 x0 x1 s = some res) (K0 : ∀ (u2 : Int32) (u3 : Int32) (hu : AH), res = .inl (u2, u3, hu) → PT X 5 0 0 6 [(0, .ref x0), (1, .int x1), (2, .int u2), (3, .int u3)] [] hu) (K1 : ∀ (u2 : Int32) (hu : AH), res = .inr ((u2, hu)) → PT X 5 0 0 46 [(2, .int u2)] [] hu) : PT X 5 0 0 6 [(0, .ref x0), (1, .int x1), (2, .int s.1), (3, .int s.2.1)] [] s.2.2 := by
  unfold f_X12_leastNow_L6 at hf
  refine pt_iload_n C 3 rfl rfl dX12_leastNow_6 ?_
  refine pt_aload_n C 0 rfl rfl dX12_leastNow_7 ?_
  refine ob hf (fun v1 g2 hf => ?_)
  refine pt_getI C kX12 7 (by decide) tw_923 (Or.inl rfl) g2 dX12_leastNow_8 ?_
  refine pt_icmp_ge C (tgt := 46) (by decide) dX12_leastNow_11 (fun c3 => ?_) (fun c3 => ?_)
  · rw [if_pos c3] at hf
    refine pt_sub C [(2, .int s.1)] [2] rfl ?_
    exact K1 _ _ (Option.some.inj hf).symm
  · rw [if_neg c3] at hf
    refine pt_aload_n C 0 rfl rfl dX12_leastNow_14 ?_
    refine ob hf (fun v4 g5 hf => ?_)
    refine pt_getR C kX12 13 (by decide) tw_929 (Or.inl rfl) g5 dX12_leastNow_15 ?_
    refine pt_bipush C (v := 10) (by decide) dX12_leastNow_18 ?_
    refine pt_iload_n C 1 rfl rfl dX12_leastNow_20 ?_
    refine pt_imul C dX12_leastNow_21 ?_
    refine pt_iload_n C 3 rfl rfl dX12_leastNow_22 ?_
    refine pt_iadd C dX12_leastNow_23 ?_
    refine ob hf (fun v6 g7 hf => ?_)
    refine pt_iald C g7 dX12_leastNow_24 ?_
    refine pt_istore C [(4, .int v6), (0, .ref x0), (1, .int x1), (2, .int s.1), (3, .int s.2.1)] (by decide) rfl dX12_leastNow_25 ?_
    refine pt_iload C 0 rfl dX12_leastNow_27 ?_
    refine pt_iload_n C 3 rfl rfl dX12_leastNow_29 ?_
    refine pt_icmp_ge C (tgt := 38) (by decide) dX12_leastNow_30 (fun c8 => ?_) (fun c8 => ?_)
    · rw [if_pos c8] at hf
      refine pt_iload_n C 3 rfl rfl dX12_leastNow_38 ?_
      refine pt_istore_n C [(2, .int s.1), (4, .int v6), (0, .ref x0), (1, .int x1), (3, .int s.2.1)] rfl (by decide) rfl dX12_leastNow_39 ?_
      refine pt_iinc C 4 [(3, .int (s.2.1 + 1)), (2, .int s.1), (4, .int v6), (0, .ref x0), (1, .int x1)] rfl (iinc_eq s.2.1 (by decide)) (by decide) rfl dX12_leastNow_40 ?_
      refine pt_goto C (tgt := 6) (by decide) dX12_leastNow_43 ?_
      refine pt_sub C [(0, .ref x0), (1, .int x1), (2, .int s.1), (3, .int (s.2.1 + 1))] [3, 4, 1, 0] rfl ?_
      exact K0 _ _ _ (Option.some.inj hf).symm
    · rw [if_neg c8] at hf
      refine pt_iload C 0 rfl dX12_leastNow_33 ?_
      refine pt_goto C (tgt := 39) (by decide) dX12_leastNow_35 ?_
      refine pt_istore_n C [(2, .int v6), (4, .int v6), (0, .ref x0), (1, .int x1), (3, .int s.2.1)] rfl (by decide) rfl dX12_leastNow_39 ?_
      refine pt_iinc C 4 [(3, .int (s.2.1 + 1)), (2, .int v6), (4, .int v6), (0, .ref x0), (1, .int x1)] rfl (iinc_eq s.2.1 (by decide)) (by decide) rfl dX12_leastNow_40 ?_
      refine pt_goto C (tgt := 6) (by decide) dX12_leastNow_43 ?_
      refine pt_sub C [(0, .ref x0), (1, .int x1), (2, .int v6), (3, .int (s.2.1 + 1))] [3, 4, 1, 0] rfl ?_
      exact K0 _ _ _ (Option.some.inj hf).symm
theorem l_X12_leastNow_L6 {X : MX} (C : CX X cX12_leastNow 5 RX12 (some .int) rmX12_leastNow) (x0 : Nat) (x1 : Int32) : ∀ (n : Nat) (s : Int32 × Int32 × AH) (r : (Int32 × AH)), iter (f_X12_leastNow_L6 x0 x1) n s = some r → (fun r : (Int32 × AH) => PT X 5 0 0 46 [(2, .int r.1)] [] r.2) r → PT X 5 0 0 6 [(0, .ref x0), (1, .int x1), (2, .int s.1), (3, .int s.2.1)] [] s.2.2 :=
  iter_W (fun s : Int32 × Int32 × AH => PT X 5 0 0 6 [(0, .ref x0), (1, .int x1), (2, .int s.1), (3, .int s.2.1)] [] s.2.2) (fun r : (Int32 × AH) => PT X 5 0 0 46 [(2, .int r.1)] [] r.2) _ (fun s s2 hf P => w_X12_leastNow_L6 C x0 x1 s _ hf (fun u2 u3 hu e => by cases e; exact P) (fun u2 hu e => by cases e)) (fun s r hf P => w_X12_leastNow_L6 C x0 x1 s _ hf (fun u2 u3 hu e => by cases e) (fun u2 hu e => by cases e; exact P))
set_option maxRecDepth 100000 in
set_option maxHeartbeats 4000000 in
theorem w_X12_leastNow_0 {X : MX} (C : CX X cX12_leastNow 5 RX12 (some .int) rmX12_leastNow) (a0 : Nat) (a1 : Int32) (h : AH) (res : Int32 × AH) (hf : f_X12_leastNow a0 a1 h = some res) (K : ∀ (v : Int32) (h2 : AH), res = (v, h2) → PR X rmX12_leastNow (some (.int v)) h2) : PT X 5 0 0 0 [(0, .ref a0), (1, .int a1)] [] h := by
  unfold f_X12_leastNow at hf
  refine pt_sipush C (v := 1000) (by decide) dX12_leastNow_0 ?_
  refine pt_istore_n C [(2, .int 1000), (0, .ref a0), (1, .int a1)] rfl (by decide) rfl dX12_leastNow_3 ?_
  refine pt_iconst C (v := 0) (by decide) dX12_leastNow_4 ?_
  refine pt_istore_n C [(3, .int 0), (2, .int 1000), (0, .ref a0), (1, .int a1)] rfl (by decide) rfl dX12_leastNow_5 ?_
  refine pt_sub C [(0, .ref a0), (1, .int a1), (2, .int 1000), (3, .int 0)] [2, 3, 1, 0] rfl ?_
  refine ob hf (fun e9 g10 hf => ?_)
  refine l_X12_leastNow_L6 C a0 a1 _ _ _ g10 ?_
  refine pt_iload_n C 0 rfl rfl dX12_leastNow_46 ?_
  exact pt_iret C (K _ _ (Option.some.inj hf).symm) (by decide) (by decide) dX12_leastNow_47
theorem con_X12_leastNow (l : Launch) (a0 : Nat) (a1 : Int32) (h : AH) (q : Int32 × AH) (hf : f_X12_leastNow a0 a1 h = some q) : Con l yX12_leastNow cX12_leastNow 5 (some .int) rmX12_leastNow [.ref a0, .int a1] h (some (.int q.1)) q.2 := Con.of (by decide +kernel) (Nat.le_of_ble_eq_true rfl) (fun X C I K => w_X12_leastNow_0 C a0 a1 h q hf (fun v h2 e => by cases e; exact K))
abbrev rmX12_best : Room := { frames := 3, cells := 0, slots := 0, locals := 81 }
theorem yn_X12_best : YN yX12_best 4 := by refine ⟨?_, ?_, ?_⟩ <;> decide +kernel
set_option maxRecDepth 100000 in
set_option maxHeartbeats 4000000 in
theorem w_X12_best_L66_J159 {X : MX} (C : CX X cX12_best 11 RX12 (some .int) rmX12_best) (x0 : Nat) (x1 : Int32) (x2 : Int32) (x3 : Int32) (x4 : Int32) (y8 : Int32) (y9 : Int32) (y10 : Int32) (h : AH) (res : (Int32 × Int32 × Int32 × Int32 × AH) ⊕ ((Int32 × Int32 × Int32 × AH))) (hf : f_X12_best_L66_J159 x0 x1 x2 x3 x4 y8 y9 y10 h = some res) (K0 : ∀ (u5 : Int32) (u6 : Int32) (u7 : Int32) (u8 : Int32) (hu : AH), res = .inl (u5, u6, u7, u8, hu) → PT X 11 0 0 66 [(0, .ref x0), (1, .int x1), (2, .int x2), (3, .int x3), (4, .int x4), (5, .int u5), (6, .int u6), (7, .int u7), (8, .int u8)] [] hu) (K1 : ∀ (u5 : Int32) (u6 : Int32) (u7 : Int32) (hu : AH), res = .inr ((u5, u6, u7, hu)) → PT X 11 0 0 177 [(4, .int x4), (5, .int u5), (6, .int u6), (7, .int u7)] [] hu) : PT X 11 0 0 159 [(0, .ref x0), (1, .int x1), (2, .int x2), (3, .int x3), (4, .int x4), (8, .int y8), (9, .int y9), (10, .int y10)] [] h := by
  unfold f_X12_best_L66_J159 at hf
  refine pt_iload C 5 rfl dX12_best_159 ?_
  refine pt_istore C [(5, .int y8), (0, .ref x0), (1, .int x1), (2, .int x2), (3, .int x3), (4, .int x4), (8, .int y8), (9, .int y9), (10, .int y10)] (by decide) rfl dX12_best_161 ?_
  refine pt_iload C 7 rfl dX12_best_163 ?_
  refine pt_istore C [(6, .int y9), (5, .int y8), (0, .ref x0), (1, .int x1), (2, .int x2), (3, .int x3), (4, .int x4), (8, .int y8), (9, .int y9), (10, .int y10)] (by decide) rfl dX12_best_165 ?_
  refine pt_iload C 9 rfl dX12_best_167 ?_
  refine pt_istore C [(7, .int y10), (6, .int y9), (5, .int y8), (0, .ref x0), (1, .int x1), (2, .int x2), (3, .int x3), (4, .int x4), (8, .int y8), (9, .int y9), (10, .int y10)] (by decide) rfl dX12_best_169 ?_
  refine pt_iinc C 8 [(8, .int (y8 + 1)), (7, .int y10), (6, .int y9), (5, .int y8), (0, .ref x0), (1, .int x1), (2, .int x2), (3, .int x3), (4, .int x4), (9, .int y9), (10, .int y10)] rfl (iinc_eq y8 (by decide)) (by decide) rfl dX12_best_171 ?_
  refine pt_goto C (tgt := 66) (by decide) dX12_best_174 ?_
  refine pt_sub C [(0, .ref x0), (1, .int x1), (2, .int x2), (3, .int x3), (4, .int x4), (5, .int y8), (6, .int y9), (7, .int y10), (8, .int (y8 + 1))] [4, 5, 6, 7, 8, 3, 2, 1, 0] rfl ?_
  exact K0 _ _ _ _ _ (Option.some.inj hf).symm
set_option maxRecDepth 100000 in
set_option maxHeartbeats 4000000 in
theorem w_X12_best_L66 {X : MX} (C : CX X cX12_best 11 RX12 (some .int) rmX12_best) (x0 : Nat) (x1 : Int32) (x2 : Int32) (x3 : Int32) (x4 : Int32) (s : Int32 × Int32 × Int32 × Int32 × AH) (res : (Int32 × Int32 × Int32 × Int32 × AH) ⊕ ((Int32 × Int32 × Int32 × AH))) (hf : f_X12_best_L66 x0 x1 x2 x3 x4 s = some res) (K0 : ∀ (u5 : Int32) (u6 : Int32) (u7 : Int32) (u8 : Int32) (hu : AH), res = .inl (u5, u6, u7, u8, hu) → PT X 11 0 0 66 [(0, .ref x0), (1, .int x1), (2, .int x2), (3, .int x3), (4, .int x4), (5, .int u5), (6, .int u6), (7, .int u7), (8, .int u8)] [] hu) (K1 : ∀ (u5 : Int32) (u6 : Int32) (u7 : Int32) (hu : AH), res = .inr ((u5, u6, u7, hu)) → PT X 11 0 0 177 [(4, .int x4), (5, .int u5), (6, .int u6), (7, .int u7)] [] hu) : PT X 11 0 0 66 [(0, .ref x0), (1, .int x1), (2, .int x2), (3, .int x3), (4, .int x4), (5, .int s.1), (6, .int s.2.1), (7, .int s.2.2.1), (8, .int s.2.2.2.1)] [] s.2.2.2.2 := by
  unfold f_X12_best_L66 at hf
  refine pt_iload C 8 rfl dX12_best_66 ?_
  refine pt_iconst C (v := 1) (by decide) dX12_best_68 ?_
  refine pt_aload_n C 0 rfl rfl dX12_best_69 ?_
  refine ob hf (fun v18 g19 hf => ?_)
  refine pt_getI C kX12 7 (by decide) tw_923 (Or.inl rfl) g19 dX12_best_70 ?_
  refine pt_ishl C dX12_best_73 ?_
  refine pt_icmp_ge C (tgt := 177) (by decide) dX12_best_74 (fun c20 => ?_) (fun c20 => ?_)
  · rw [if_pos c20] at hf
    refine pt_sub C [(4, .int x4), (5, .int s.1), (6, .int s.2.1), (7, .int s.2.2.1)] [4, 5, 6, 7] rfl ?_
    exact K1 _ _ _ _ (Option.some.inj hf).symm
  · rw [if_neg c20] at hf
    refine pt_iload C 8 rfl dX12_best_77 ?_
    refine ob hf (fun q21 g22 hf => ?_)
    refine pt_callS C (As := [.int s.2.2.2.1]) (rest := []) (v := (some (.int q21.1))) (fun l => con_X12_ones l s.2.2.2.1 s.2.2.2.2 _ g22) tw_1192 tw_1190 tw_1191 tw_13 yn_X12_ones (by decide) (Nat.le_of_ble_eq_true rfl) dX12_best_79 rfl ?_
    show PT X 11 0 0 82 [(0, .ref x0), (1, .int x1), (2, .int x2), (3, .int x3), (4, .int x4), (5, .int s.1), (6, .int s.2.1), (7, .int s.2.2.1), (8, .int s.2.2.2.1)] [.int q21.1] q21.2
    refine pt_iload_n C 3 rfl rfl dX12_best_82 ?_
    refine pt_icmp_ne C (tgt := 171) (by decide) dX12_best_83 (fun c23 => ?_) (fun c23 => ?_)
    · rw [if_neg c23] at hf
      refine pt_iinc C 8 [(8, .int (s.2.2.2.1 + 1)), (0, .ref x0), (1, .int x1), (2, .int x2), (3, .int x3), (4, .int x4), (5, .int s.1), (6, .int s.2.1), (7, .int s.2.2.1)] rfl (iinc_eq s.2.2.2.1 (by decide)) (by decide) rfl dX12_best_171 ?_
      refine pt_goto C (tgt := 66) (by decide) dX12_best_174 ?_
      refine pt_sub C [(0, .ref x0), (1, .int x1), (2, .int x2), (3, .int x3), (4, .int x4), (5, .int s.1), (6, .int s.2.1), (7, .int s.2.2.1), (8, .int (s.2.2.2.1 + 1))] [1, 2, 3, 4, 5, 6, 7, 8, 0] rfl ?_
      exact K0 _ _ _ _ _ (Option.some.inj hf).symm
    · rw [if_pos c23] at hf
      refine pt_aload_n C 0 rfl rfl dX12_best_86 ?_
      refine pt_iconst C (v := 0) (by decide) dX12_best_87 ?_
      refine pt_iconst C (v := 1) (by decide) dX12_best_88 ?_
      refine ob hf (fun _ g26 hf => ?_)
      refine ob hf (fun q24 g25 hf => ?_)
      refine pt_callV C (As := [.int 0, .int 1]) (rest := []) (v := none) (fun l => con_X12_carry l x0 0 1 q21.2 _ g25) tw_1180 tw_1177 tw_1179 tp_31 kX12 g26 tw_13 yn_X12_carry (by decide) (Nat.le_of_ble_eq_true rfl) dX12_best_89 rfl ?_
      show PT X 11 0 0 92 [(0, .ref x0), (1, .int x1), (2, .int x2), (3, .int x3), (4, .int x4), (5, .int s.1), (6, .int s.2.1), (7, .int s.2.2.1), (8, .int s.2.2.2.1)] [] q24
      refine pt_aload_n C 0 rfl rfl dX12_best_92 ?_
      refine pt_iconst C (v := 1) (by decide) dX12_best_93 ?_
      refine pt_iload_n C 1 rfl rfl dX12_best_94 ?_
      refine pt_iload C 8 rfl dX12_best_95 ?_
      refine pt_aload_n C 0 rfl rfl dX12_best_97 ?_
      refine ob hf (fun v27 g28 hf => ?_)
      refine pt_getR C kX12 23 (by decide) tw_939 (Or.inl rfl) g28 dX12_best_98 ?_
      refine pt_iload_n C 2 rfl rfl dX12_best_101 ?_
      refine ob hf (fun v29 g30 hf => ?_)
      refine pt_iald C g30 dX12_best_102 ?_
      refine pt_aload_n C 0 rfl rfl dX12_best_103 ?_
      refine ob hf (fun v31 g32 hf => ?_)
      refine pt_getR C kX12 24 (by decide) tw_940 (Or.inl rfl) g32 dX12_best_104 ?_
      refine pt_iload_n C 2 rfl rfl dX12_best_107 ?_
      refine ob hf (fun v33 g34 hf => ?_)
      refine pt_iald C g34 dX12_best_108 ?_
      refine pt_aload_n C 0 rfl rfl dX12_best_109 ?_
      refine ob hf (fun v35 g36 hf => ?_)
      refine pt_getR C kX12 25 (by decide) tw_941 (Or.inl rfl) g36 dX12_best_110 ?_
      refine pt_iload_n C 2 rfl rfl dX12_best_113 ?_
      refine ob hf (fun v37 g38 hf => ?_)
      refine pt_iald C g38 dX12_best_114 ?_
      refine pt_iconst C (v := 0) (by decide) dX12_best_115 ?_
      refine ob hf (fun _ g41 hf => ?_)
      refine ob hf (fun q39 g40 hf => ?_)
      refine pt_callV C (As := [.int 1, .int x1, .int s.2.2.2.1, .int v29, .int v33, .int v37, .int 0]) (rest := []) (v := (some (.int q39.1))) (fun l => con_X12_work l x0 1 x1 s.2.2.2.1 v29 v33 v37 0 q24 _ g40) tw_1140 tw_1137 tw_1139 tp_26 kX12 g41 tw_13 yn_X12_work (by decide) (Nat.le_of_ble_eq_true rfl) dX12_best_116 rfl ?_
      show PT X 11 0 0 119 [(0, .ref x0), (1, .int x1), (2, .int x2), (3, .int x3), (4, .int x4), (5, .int s.1), (6, .int s.2.1), (7, .int s.2.2.1), (8, .int s.2.2.2.1)] [.int q39.1] q39.2
      refine pt_istore C [(9, .int q39.1), (0, .ref x0), (1, .int x1), (2, .int x2), (3, .int x3), (4, .int x4), (5, .int s.1), (6, .int s.2.1), (7, .int s.2.2.1), (8, .int s.2.2.2.1)] (by decide) rfl dX12_best_119 ?_
      refine pt_aload_n C 1 rfl rfl dX12_best_121 ?_
      refine pt_iconst C (v := 1) (by decide) dX12_best_122 ?_
      refine ob hf (fun _ g44 hf => ?_)
      refine ob hf (fun q42 g43 hf => ?_)
      refine pt_callV C (As := [.int 1]) (rest := []) (v := (some (.int q42.1))) (fun l => con_X12_leastNow l x0 1 q39.2 _ g43) tw_1196 tw_1193 tw_1195 tp_32 kX12 g44 tw_13 yn_X12_leastNow (by decide) (Nat.le_of_ble_eq_true rfl) dX12_best_123 rfl ?_
      show PT X 11 0 0 126 [(9, .int q39.1), (0, .ref x0), (1, .int x1), (2, .int x2), (3, .int x3), (4, .int x4), (5, .int s.1), (6, .int s.2.1), (7, .int s.2.2.1), (8, .int s.2.2.2.1)] [.int q42.1] q42.2
      refine pt_istore C [(10, .int q42.1), (9, .int q39.1), (0, .ref x0), (1, .int x1), (2, .int x2), (3, .int x3), (4, .int x4), (5, .int s.1), (6, .int s.2.1), (7, .int s.2.2.1), (8, .int s.2.2.2.1)] (by decide) rfl dX12_best_126 ?_
      refine pt_iload C 1 rfl dX12_best_128 ?_
      refine pt_if_le C (tgt := 171) (by decide) dX12_best_130 (fun c45 => ?_) (fun c45 => ?_)
      · rw [if_pos c45] at hf
        refine pt_iinc C 10 [(8, .int (s.2.2.2.1 + 1)), (10, .int q42.1), (9, .int q39.1), (0, .ref x0), (1, .int x1), (2, .int x2), (3, .int x3), (4, .int x4), (5, .int s.1), (6, .int s.2.1), (7, .int s.2.2.1)] rfl (iinc_eq s.2.2.2.1 (by decide)) (by decide) rfl dX12_best_171 ?_
        refine pt_goto C (tgt := 66) (by decide) dX12_best_174 ?_
        refine pt_sub C [(0, .ref x0), (1, .int x1), (2, .int x2), (3, .int x3), (4, .int x4), (5, .int s.1), (6, .int s.2.1), (7, .int s.2.2.1), (8, .int (s.2.2.2.1 + 1))] [3, 4, 5, 6, 7, 8, 9, 10, 0] rfl ?_
        exact K0 _ _ _ _ _ (Option.some.inj hf).symm
      · rw [if_neg c45] at hf
        refine pt_iload C 7 rfl dX12_best_133 ?_
        refine pt_if_lt C (tgt := 159) (by decide) dX12_best_135 (fun c46 => ?_) (fun c46 => ?_)
        · rw [if_pos c46] at hf
          refine pt_sub C [(0, .ref x0), (1, .int x1), (2, .int x2), (3, .int x3), (4, .int x4), (8, .int s.2.2.2.1), (9, .int q39.1), (10, .int q42.1)] [2, 3, 4, 5, 6, 10, 1, 0] rfl ?_
          exact w_X12_best_L66_J159 C x0 x1 x2 x3 x4 s.2.2.2.1 q39.1 q42.1 q42.2 _ hf K0 K1
        · rw [if_neg c46] at hf
          refine pt_iload C 1 rfl dX12_best_138 ?_
          refine pt_iload C 8 rfl dX12_best_140 ?_
          refine pt_icmp_lt C (tgt := 159) (by decide) dX12_best_142 (fun c47 => ?_) (fun c47 => ?_)
          · rw [if_pos c47] at hf
            refine pt_sub C [(0, .ref x0), (1, .int x1), (2, .int x2), (3, .int x3), (4, .int x4), (8, .int s.2.2.2.1), (9, .int q39.1), (10, .int q42.1)] [2, 3, 4, 5, 6, 10, 1, 0] rfl ?_
            exact w_X12_best_L66_J159 C x0 x1 x2 x3 x4 s.2.2.2.1 q39.1 q42.1 q42.2 _ hf K0 K1
          · rw [if_neg c47] at hf
            refine pt_iload C 1 rfl dX12_best_145 ?_
            refine pt_iload C 8 rfl dX12_best_147 ?_
            refine pt_icmp_ne C (tgt := 171) (by decide) dX12_best_149 (fun c48 => ?_) (fun c48 => ?_)
            · rw [if_neg c48] at hf
              refine pt_iinc C 10 [(8, .int (s.2.2.2.1 + 1)), (10, .int q42.1), (9, .int q39.1), (0, .ref x0), (1, .int x1), (2, .int x2), (3, .int x3), (4, .int x4), (5, .int s.1), (6, .int s.2.1), (7, .int s.2.2.1)] rfl (iinc_eq s.2.2.2.1 (by decide)) (by decide) rfl dX12_best_171 ?_
              refine pt_goto C (tgt := 66) (by decide) dX12_best_174 ?_
              refine pt_sub C [(0, .ref x0), (1, .int x1), (2, .int x2), (3, .int x3), (4, .int x4), (5, .int s.1), (6, .int s.2.1), (7, .int s.2.2.1), (8, .int (s.2.2.2.1 + 1))] [3, 4, 5, 6, 7, 8, 9, 10, 0] rfl ?_
              exact K0 _ _ _ _ _ (Option.some.inj hf).symm
            · rw [if_pos c48] at hf
              refine pt_iload C 0 rfl dX12_best_152 ?_
              refine pt_iload C 9 rfl dX12_best_154 ?_
              refine pt_icmp_le C (tgt := 171) (by decide) dX12_best_156 (fun c49 => ?_) (fun c49 => ?_)
              · rw [if_pos c49] at hf
                refine pt_iinc C 10 [(8, .int (s.2.2.2.1 + 1)), (10, .int q42.1), (9, .int q39.1), (0, .ref x0), (1, .int x1), (2, .int x2), (3, .int x3), (4, .int x4), (5, .int s.1), (6, .int s.2.1), (7, .int s.2.2.1)] rfl (iinc_eq s.2.2.2.1 (by decide)) (by decide) rfl dX12_best_171 ?_
                refine pt_goto C (tgt := 66) (by decide) dX12_best_174 ?_
                refine pt_sub C [(0, .ref x0), (1, .int x1), (2, .int x2), (3, .int x3), (4, .int x4), (5, .int s.1), (6, .int s.2.1), (7, .int s.2.2.1), (8, .int (s.2.2.2.1 + 1))] [3, 4, 5, 6, 7, 8, 9, 10, 0] rfl ?_
                exact K0 _ _ _ _ _ (Option.some.inj hf).symm
              · rw [if_neg c49] at hf
                refine pt_sub C [(0, .ref x0), (1, .int x1), (2, .int x2), (3, .int x3), (4, .int x4), (8, .int s.2.2.2.1), (9, .int q39.1), (10, .int q42.1)] [2, 3, 4, 5, 6, 10, 1, 0] rfl ?_
                exact w_X12_best_L66_J159 C x0 x1 x2 x3 x4 s.2.2.2.1 q39.1 q42.1 q42.2 _ hf K0 K1
theorem l_X12_best_L66 {X : MX} (C : CX X cX12_best 11 RX12 (some .int) rmX12_best) (x0 : Nat) (x1 : Int32) (x2 : Int32) (x3 : Int32) (x4 : Int32) : ∀ (n : Nat) (s : Int32 × Int32 × Int32 × Int32 × AH) (r : (Int32 × Int32 × Int32 × AH)), iter (f_X12_best_L66 x0 x1 x2 x3 x4) n s = some r → (fun r : (Int32 × Int32 × Int32 × AH) => PT X 11 0 0 177 [(4, .int x4), (5, .int r.1), (6, .int r.2.1), (7, .int r.2.2.1)] [] r.2.2.2) r → PT X 11 0 0 66 [(0, .ref x0), (1, .int x1), (2, .int x2), (3, .int x3), (4, .int x4), (5, .int s.1), (6, .int s.2.1), (7, .int s.2.2.1), (8, .int s.2.2.2.1)] [] s.2.2.2.2 :=
  iter_W (fun s : Int32 × Int32 × Int32 × Int32 × AH => PT X 11 0 0 66 [(0, .ref x0), (1, .int x1), (2, .int x2), (3, .int x3), (4, .int x4), (5, .int s.1), (6, .int s.2.1), (7, .int s.2.2.1), (8, .int s.2.2.2.1)] [] s.2.2.2.2) (fun r : (Int32 × Int32 × Int32 × AH) => PT X 11 0 0 177 [(4, .int x4), (5, .int r.1), (6, .int r.2.1), (7, .int r.2.2.1)] [] r.2.2.2) _ (fun s s2 hf P => w_X12_best_L66 C x0 x1 x2 x3 x4 s _ hf (fun u5 u6 u7 u8 hu e => by cases e; exact P) (fun u5 u6 u7 hu e => by cases e)) (fun s r hf P => w_X12_best_L66 C x0 x1 x2 x3 x4 s _ hf (fun u5 u6 u7 u8 hu e => by cases e) (fun u5 u6 u7 hu e => by cases e; exact P))
set_option maxRecDepth 100000 in
set_option maxHeartbeats 4000000 in
theorem w_X12_best_0 {X : MX} (C : CX X cX12_best 11 RX12 (some .int) rmX12_best) (a0 : Nat) (a1 : Int32) (a2 : Int32) (a3 : Int32) (a4 : Int32) (h : AH) (res : Int32 × AH) (hf : f_X12_best a0 a1 a2 a3 a4 h = some res) (K : ∀ (v : Int32) (h2 : AH), res = (v, h2) → PR X rmX12_best (some (.int v)) h2) : PT X 11 0 0 0 [(0, .ref a0), (1, .int a1), (2, .int a2), (3, .int a3), (4, .int a4)] [] h := by
  unfold f_X12_best at hf
  refine pt_aload_n C 0 rfl rfl dX12_best_0 ?_
  refine pt_iload_n C 1 rfl rfl dX12_best_1 ?_
  refine ob hf (fun _ g3 hf => ?_)
  refine ob hf (fun q1 g2 hf => ?_)
  refine pt_callV C (As := [.int a1]) (rest := []) (v := (some (.int q1.1))) (fun l => con_X12_noSong l a0 a1 h _ g2) tw_1081 tw_1078 tw_1080 tp_22 kX12 g3 tw_13 yn_X12_noSong (by decide) (Nat.le_of_ble_eq_true rfl) dX12_best_2 rfl ?_
  show PT X 11 0 0 5 [(0, .ref a0), (1, .int a1), (2, .int a2), (3, .int a3), (4, .int a4)] [.int q1.1] q1.2
  refine pt_if_ne C (tgt := 51) (by decide) dX12_best_5 (fun c4 => ?_) (fun c4 => ?_)
  · rw [if_neg c4] at hf
    refine pt_bipush C (v := (-2)) (by decide) dX12_best_51 ?_
    exact pt_iret C (K _ _ (Option.some.inj hf).symm) (by decide) (by decide) dX12_best_53
  · rw [if_pos c4] at hf
    refine pt_iload_n C 2 rfl rfl dX12_best_8 ?_
    refine pt_i2l C dX12_best_9 ?_
    refine pt_lconst C (v := 0) (by decide) dX12_best_10 ?_
    refine pt_aload_n C 0 rfl rfl dX12_best_11 ?_
    refine ob hf (fun v5 g6 hf => ?_)
    refine pt_getI C kX12 22 (by decide) tw_938 (Or.inl rfl) g6 dX12_best_12 ?_
    refine pt_iconst C (v := 1) (by decide) dX12_best_15 ?_
    refine pt_isub C dX12_best_16 ?_
    refine pt_i2l C dX12_best_17 ?_
    refine ob hf (fun q7 g8 hf => ?_)
    refine pt_callS C (As := [.long a2.toInt64, .long 0, .long ((v5 - 1).toInt64)]) (rest := []) (v := (some (.int q7.1))) (fun l => con_X12_in l a2.toInt64 0 ((v5 - 1).toInt64) q1.2 _ g8) tw_1065 tw_1063 tw_1064 tw_13 yn_X12_in (by decide) (Nat.le_of_ble_eq_true rfl) dX12_best_18 rfl ?_
    show PT X 11 0 0 21 [(0, .ref a0), (1, .int a1), (2, .int a2), (3, .int a3), (4, .int a4)] [.int q7.1] q7.2
    refine pt_if_eq C (tgt := 51) (by decide) dX12_best_21 (fun c9 => ?_) (fun c9 => ?_)
    · rw [if_pos c9] at hf
      refine pt_bipush C (v := (-2)) (by decide) dX12_best_51 ?_
      exact pt_iret C (K _ _ (Option.some.inj hf).symm) (by decide) (by decide) dX12_best_53
    · rw [if_neg c9] at hf
      refine pt_iload_n C 3 rfl rfl dX12_best_24 ?_
      refine pt_i2l C dX12_best_25 ?_
      refine pt_lconst C (v := 1) (by decide) dX12_best_26 ?_
      refine pt_aload_n C 0 rfl rfl dX12_best_27 ?_
      refine ob hf (fun v10 g11 hf => ?_)
      refine pt_getI C kX12 7 (by decide) tw_923 (Or.inl rfl) g11 dX12_best_28 ?_
      refine pt_i2l C dX12_best_31 ?_
      refine ob hf (fun q12 g13 hf => ?_)
      refine pt_callS C (As := [.long a3.toInt64, .long 1, .long v10.toInt64]) (rest := []) (v := (some (.int q12.1))) (fun l => con_X12_in l a3.toInt64 1 v10.toInt64 q7.2 _ g13) tw_1065 tw_1063 tw_1064 tw_13 yn_X12_in (by decide) (Nat.le_of_ble_eq_true rfl) dX12_best_32 rfl ?_
      show PT X 11 0 0 35 [(0, .ref a0), (1, .int a1), (2, .int a2), (3, .int a3), (4, .int a4)] [.int q12.1] q12.2
      refine pt_if_eq C (tgt := 51) (by decide) dX12_best_35 (fun c14 => ?_) (fun c14 => ?_)
      · rw [if_pos c14] at hf
        refine pt_bipush C (v := (-2)) (by decide) dX12_best_51 ?_
        exact pt_iret C (K _ _ (Option.some.inj hf).symm) (by decide) (by decide) dX12_best_53
      · rw [if_neg c14] at hf
        refine pt_iload C 4 rfl dX12_best_38 ?_
        refine pt_i2l C dX12_best_40 ?_
        refine pt_lconst C (v := 0) (by decide) dX12_best_41 ?_
        refine pt_ldc2 C tw_1189 dX12_best_42 ?_
        refine ob hf (fun q15 g16 hf => ?_)
        refine pt_callS C (As := [.long a4.toInt64, .long 0, .long 2]) (rest := []) (v := (some (.int q15.1))) (fun l => con_X12_in l a4.toInt64 0 2 q12.2 _ g16) tw_1065 tw_1063 tw_1064 tw_13 yn_X12_in (by decide) (Nat.le_of_ble_eq_true rfl) dX12_best_45 rfl ?_
        show PT X 11 0 0 48 [(0, .ref a0), (1, .int a1), (2, .int a2), (3, .int a3), (4, .int a4)] [.int q15.1] q15.2
        refine pt_if_ne C (tgt := 54) (by decide) dX12_best_48 (fun c17 => ?_) (fun c17 => ?_)
        · rw [if_neg c17] at hf
          refine pt_iconst C (v := (-1)) (by decide) dX12_best_54 ?_
          refine pt_istore C [(5, .int (-1)), (0, .ref a0), (1, .int a1), (2, .int a2), (3, .int a3), (4, .int a4)] (by decide) rfl dX12_best_55 ?_
          refine pt_iconst C (v := 0) (by decide) dX12_best_57 ?_
          refine pt_istore C [(6, .int 0), (5, .int (-1)), (0, .ref a0), (1, .int a1), (2, .int a2), (3, .int a3), (4, .int a4)] (by decide) rfl dX12_best_58 ?_
          refine pt_iconst C (v := 0) (by decide) dX12_best_60 ?_
          refine pt_istore C [(7, .int 0), (6, .int 0), (5, .int (-1)), (0, .ref a0), (1, .int a1), (2, .int a2), (3, .int a3), (4, .int a4)] (by decide) rfl dX12_best_61 ?_
          refine pt_iconst C (v := 1) (by decide) dX12_best_63 ?_
          refine pt_istore C [(8, .int 1), (7, .int 0), (6, .int 0), (5, .int (-1)), (0, .ref a0), (1, .int a1), (2, .int a2), (3, .int a3), (4, .int a4)] (by decide) rfl dX12_best_64 ?_
          refine pt_sub C [(0, .ref a0), (1, .int a1), (2, .int a2), (3, .int a3), (4, .int a4), (5, .int (-1)), (6, .int 0), (7, .int 0), (8, .int 1)] [4, 5, 6, 7, 8, 3, 2, 1, 0] rfl ?_
          refine ob hf (fun e50 g51 hf => ?_)
          refine l_X12_best_L66 C a0 a1 a2 a3 a4 _ _ _ g51 ?_
          refine pt_iload C 1 rfl dX12_best_177 ?_
          refine pt_if_ge C (tgt := 186) (by decide) dX12_best_179 (fun c52 => ?_) (fun c52 => ?_)
          · rw [if_pos c52] at hf
            refine pt_iload C 0 rfl dX12_best_186 ?_
            refine pt_if_ne C (tgt := 196) (by decide) dX12_best_188 (fun c53 => ?_) (fun c53 => ?_)
            · rw [if_neg c53] at hf
              refine pt_iload C 0 rfl dX12_best_196 ?_
              refine pt_iconst C (v := 1) (by decide) dX12_best_198 ?_
              refine pt_icmp_ne C (tgt := 207) (by decide) dX12_best_199 (fun c54 => ?_) (fun c54 => ?_)
              · rw [if_neg c54] at hf
                refine pt_iload C 3 rfl dX12_best_207 ?_
                exact pt_iret C (K _ _ (Option.some.inj hf).symm) (by decide) (by decide) dX12_best_209
              · rw [if_pos c54] at hf
                refine pt_iload C 2 rfl dX12_best_202 ?_
                refine pt_goto C (tgt := 209) (by decide) dX12_best_204 ?_
                exact pt_iret C (K _ _ (Option.some.inj hf).symm) (by decide) (by decide) dX12_best_209
            · rw [if_pos c53] at hf
              refine pt_iload C 1 rfl dX12_best_191 ?_
              refine pt_goto C (tgt := 209) (by decide) dX12_best_193 ?_
              exact pt_iret C (K _ _ (Option.some.inj hf).symm) (by decide) (by decide) dX12_best_209
          · rw [if_neg c52] at hf
            refine pt_iconst C (v := (-1)) (by decide) dX12_best_182 ?_
            refine pt_goto C (tgt := 209) (by decide) dX12_best_183 ?_
            exact pt_iret C (K _ _ (Option.some.inj hf).symm) (by decide) (by decide) dX12_best_209
        · rw [if_pos c17] at hf
          refine pt_bipush C (v := (-2)) (by decide) dX12_best_51 ?_
          exact pt_iret C (K _ _ (Option.some.inj hf).symm) (by decide) (by decide) dX12_best_53
theorem con_X12_best (l : Launch) (a0 : Nat) (a1 : Int32) (a2 : Int32) (a3 : Int32) (a4 : Int32) (h : AH) (q : Int32 × AH) (hf : f_X12_best a0 a1 a2 a3 a4 h = some q) : Con l yX12_best cX12_best 11 (some .int) rmX12_best [.ref a0, .int a1, .int a2, .int a3, .int a4] h (some (.int q.1)) q.2 := Con.of (by decide +kernel) (Nat.le_of_ble_eq_true rfl) (fun X C I K => w_X12_best_0 C a0 a1 a2 a3 a4 h q hf (fun v h2 e => by cases e; exact K))
abbrev rmX12_between : Room := { frames := 1, cells := 0, slots := 0, locals := 25 }
theorem yn_X12_between : YN yX12_between 1 := by refine ⟨?_, ?_, ?_⟩ <;> decide +kernel
set_option maxRecDepth 100000 in
set_option maxHeartbeats 4000000 in
theorem w_X12_between_0 {X : MX} (C : CX X cX12_between 3 RX12 (some .int) rmX12_between) (a0 : Nat) (a1 : Int32) (h : AH) (res : Int32 × AH) (hf : f_X12_between a0 a1 h = some res) (K : ∀ (v : Int32) (h2 : AH), res = (v, h2) → PR X rmX12_between (some (.int v)) h2) : PT X 3 0 0 0 [(0, .ref a0), (1, .int a1)] [] h := by
  unfold f_X12_between at hf
  refine pt_iload_n C 1 rfl rfl dX12_between_0 ?_
  refine pt_i2l C dX12_between_1 ?_
  refine pt_lconst C (v := 0) (by decide) dX12_between_2 ?_
  refine pt_ldc2 C tw_1136 dX12_between_3 ?_
  refine ob hf (fun q1 g2 hf => ?_)
  refine pt_callS C (As := [.long a1.toInt64, .long 0, .long 50]) (rest := []) (v := (some (.int q1.1))) (fun l => con_X12_in l a1.toInt64 0 50 h _ g2) tw_1065 tw_1063 tw_1064 tw_13 yn_X12_in (by decide) (Nat.le_of_ble_eq_true rfl) dX12_between_6 rfl ?_
  show PT X 3 0 0 9 [(0, .ref a0), (1, .int a1)] [.int q1.1] q1.2
  refine pt_if_ne C (tgt := 15) (by decide) dX12_between_9 (fun c3 => ?_) (fun c3 => ?_)
  · rw [if_neg c3] at hf
    refine pt_aload_n C 0 rfl rfl dX12_between_15 ?_
    refine ob hf (fun v4 g5 hf => ?_)
    refine pt_getI C kX12 26 (by decide) tw_942 (Or.inl rfl) g5 dX12_between_16 ?_
    refine pt_istore_n C [(2, .int v4), (0, .ref a0), (1, .int a1)] rfl (by decide) rfl dX12_between_19 ?_
    refine pt_aload_n C 1 rfl rfl dX12_between_20 ?_
    refine pt_iload_n C 2 rfl rfl dX12_between_21 ?_
    refine ob hf (fun h6 g7 hf => ?_)
    refine pt_put C kX12 26 (by decide) tw_942 (Or.inl rfl) rfl rfl rfl g7 dX12_between_22 ?_
    refine pt_iload_n C 0 rfl rfl dX12_between_25 ?_
    exact pt_iret C (K _ _ (Option.some.inj hf).symm) (by decide) (by decide) dX12_between_26
  · rw [if_pos c3] at hf
    refine pt_bipush C (v := (-2)) (by decide) dX12_between_12 ?_
    exact pt_iret C (K _ _ (Option.some.inj hf).symm) (by decide) (by decide) dX12_between_14
theorem con_X12_between (l : Launch) (a0 : Nat) (a1 : Int32) (h : AH) (q : Int32 × AH) (hf : f_X12_between a0 a1 h = some q) : Con l yX12_between cX12_between 3 (some .int) rmX12_between [.ref a0, .int a1] h (some (.int q.1)) q.2 := Con.of (by decide +kernel) (Nat.le_of_ble_eq_true rfl) (fun X C I K => w_X12_between_0 C a0 a1 h q hf (fun v h2 e => by cases e; exact K))
abbrev rmX12_count : Room := { frames := 0, cells := 0, slots := 0, locals := 0 }
theorem yn_X12_count : YN yX12_count 1 := by refine ⟨?_, ?_, ?_⟩ <;> decide +kernel
set_option maxRecDepth 100000 in
set_option maxHeartbeats 4000000 in
theorem w_X12_count_0 {X : MX} (C : CX X cX12_count 2 RX12 (some .int) rmX12_count) (a0 : Nat) (a1 : Int32) (h : AH) (res : Int32 × AH) (hf : f_X12_count a0 a1 h = some res) (K : ∀ (v : Int32) (h2 : AH), res = (v, h2) → PR X rmX12_count (some (.int v)) h2) : PT X 2 0 0 0 [(0, .ref a0), (1, .int a1)] [] h := by
  unfold f_X12_count at hf
  refine pt_iload_n C 1 rfl rfl dX12_count_0 ?_
  by_cases c1 : a1 = 0
  · rw [if_pos c1] at hf
    refine pt_tabIn C (tgt := 52) (off := 51) (by rw [c1]; decide) (by rw [c1]; decide) (by rw [c1]; decide) (by decide) dX12_count_1 ?_
    refine pt_aload_n C 0 rfl rfl dX12_count_52 ?_
    refine ob hf (fun v2 g3 hf => ?_)
    refine pt_getI C kX12 0 (by decide) tw_916 (Or.inl rfl) g3 dX12_count_53 ?_
    exact pt_iret C (K _ _ (Option.some.inj hf).symm) (by decide) (by decide) dX12_count_56
  · rw [if_neg c1] at hf
    by_cases c4 : a1 = 1
    · rw [if_pos c4] at hf
      refine pt_tabIn C (tgt := 57) (off := 56) (by rw [c4]; decide) (by rw [c4]; decide) (by rw [c4]; decide) (by decide) dX12_count_1 ?_
      refine pt_aload_n C 0 rfl rfl dX12_count_57 ?_
      refine ob hf (fun v5 g6 hf => ?_)
      refine pt_getI C kX12 7 (by decide) tw_923 (Or.inl rfl) g6 dX12_count_58 ?_
      exact pt_iret C (K _ _ (Option.some.inj hf).symm) (by decide) (by decide) dX12_count_61
    · rw [if_neg c4] at hf
      by_cases c7 : a1 = 2
      · rw [if_pos c7] at hf
        refine pt_tabIn C (tgt := 62) (off := 61) (by rw [c7]; decide) (by rw [c7]; decide) (by rw [c7]; decide) (by decide) dX12_count_1 ?_
        refine pt_aload_n C 0 rfl rfl dX12_count_62 ?_
        refine ob hf (fun v8 g9 hf => ?_)
        refine pt_getI C kX12 14 (by decide) tw_930 (Or.inl rfl) g9 dX12_count_63 ?_
        exact pt_iret C (K _ _ (Option.some.inj hf).symm) (by decide) (by decide) dX12_count_66
      · rw [if_neg c7] at hf
        by_cases c10 : a1 = 3
        · rw [if_pos c10] at hf
          refine pt_tabIn C (tgt := 67) (off := 66) (by rw [c10]; decide) (by rw [c10]; decide) (by rw [c10]; decide) (by decide) dX12_count_1 ?_
          refine pt_aload_n C 0 rfl rfl dX12_count_67 ?_
          refine ob hf (fun v11 g12 hf => ?_)
          refine pt_getI C kX12 15 (by decide) tw_931 (Or.inl rfl) g12 dX12_count_68 ?_
          exact pt_iret C (K _ _ (Option.some.inj hf).symm) (by decide) (by decide) dX12_count_71
        · rw [if_neg c10] at hf
          by_cases c13 : a1 = 4
          · rw [if_pos c13] at hf
            refine pt_tabIn C (tgt := 72) (off := 71) (by rw [c13]; decide) (by rw [c13]; decide) (by rw [c13]; decide) (by decide) dX12_count_1 ?_
            refine pt_aload_n C 0 rfl rfl dX12_count_72 ?_
            refine ob hf (fun v14 g15 hf => ?_)
            refine pt_getI C kX12 22 (by decide) tw_938 (Or.inl rfl) g15 dX12_count_73 ?_
            exact pt_iret C (K _ _ (Option.some.inj hf).symm) (by decide) (by decide) dX12_count_76
          · rw [if_neg c13] at hf
            by_cases c16 : a1 = 5
            · rw [if_pos c16] at hf
              refine pt_tabIn C (tgt := 77) (off := 76) (by rw [c16]; decide) (by rw [c16]; decide) (by rw [c16]; decide) (by decide) dX12_count_1 ?_
              refine pt_aload_n C 0 rfl rfl dX12_count_77 ?_
              refine ob hf (fun v17 g18 hf => ?_)
              refine pt_getI C kX12 30 (by decide) tw_946 (Or.inl rfl) g18 dX12_count_78 ?_
              exact pt_iret C (K _ _ (Option.some.inj hf).symm) (by decide) (by decide) dX12_count_81
            · rw [if_neg c16] at hf
              by_cases c19 : a1 = 6
              · rw [if_pos c19] at hf
                refine pt_tabIn C (tgt := 82) (off := 81) (by rw [c19]; decide) (by rw [c19]; decide) (by rw [c19]; decide) (by decide) dX12_count_1 ?_
                refine pt_aload_n C 0 rfl rfl dX12_count_82 ?_
                refine ob hf (fun v20 g21 hf => ?_)
                refine pt_getI C kX12 35 (by decide) tw_951 (Or.inl rfl) g21 dX12_count_83 ?_
                exact pt_iret C (K _ _ (Option.some.inj hf).symm) (by decide) (by decide) dX12_count_86
              · rw [if_neg c19] at hf
                by_cases c22 : a1 = 7
                · rw [if_pos c22] at hf
                  refine pt_tabIn C (tgt := 87) (off := 86) (by rw [c22]; decide) (by rw [c22]; decide) (by rw [c22]; decide) (by decide) dX12_count_1 ?_
                  refine pt_aload_n C 0 rfl rfl dX12_count_87 ?_
                  refine ob hf (fun v23 g24 hf => ?_)
                  refine pt_getI C kX12 5 (by decide) tw_921 (Or.inl rfl) g24 dX12_count_88 ?_
                  exact pt_iret C (K _ _ (Option.some.inj hf).symm) (by decide) (by decide) dX12_count_91
                · rw [if_neg c22] at hf
                  by_cases c25 : a1 = 8
                  · rw [if_pos c25] at hf
                    refine pt_tabIn C (tgt := 92) (off := 91) (by rw [c25]; decide) (by rw [c25]; decide) (by rw [c25]; decide) (by decide) dX12_count_1 ?_
                    refine pt_aload_n C 0 rfl rfl dX12_count_92 ?_
                    refine ob hf (fun v26 g27 hf => ?_)
                    refine pt_getI C kX12 16 (by decide) tw_932 (Or.inl rfl) g27 dX12_count_93 ?_
                    exact pt_iret C (K _ _ (Option.some.inj hf).symm) (by decide) (by decide) dX12_count_96
                  · rw [if_neg c25] at hf
                    refine pt_tabOut C (tgt := 97) (tab_out 9 (fun j hj => by match j, hj with | 0, _ => exact c1 | 1, _ => exact c4 | 2, _ => exact c7 | 3, _ => exact c10 | 4, _ => exact c13 | 5, _ => exact c16 | 6, _ => exact c19 | 7, _ => exact c22 | 8, _ => exact c25)) (by decide) dX12_count_1 ?_
                    refine pt_bipush C (v := (-2)) (by decide) dX12_count_97 ?_
                    exact pt_iret C (K _ _ (Option.some.inj hf).symm) (by decide) (by decide) dX12_count_99
theorem con_X12_count (l : Launch) (a0 : Nat) (a1 : Int32) (h : AH) (q : Int32 × AH) (hf : f_X12_count a0 a1 h = some q) : Con l yX12_count cX12_count 2 (some .int) rmX12_count [.ref a0, .int a1] h (some (.int q.1)) q.2 := Con.of (by decide +kernel) (Nat.le_of_ble_eq_true rfl) (fun X C I K => w_X12_count_0 C a0 a1 h q hf (fun v h2 e => by cases e; exact K))
abbrev rmX12_crew : Room := { frames := 1, cells := 0, slots := 0, locals := 25 }
theorem yn_X12_crew : YN yX12_crew 1 := by refine ⟨?_, ?_, ?_⟩ <;> decide +kernel
set_option maxRecDepth 100000 in
set_option maxHeartbeats 4000000 in
theorem w_X12_crew_0 {X : MX} (C : CX X cX12_crew 3 RX12 (some .int) rmX12_crew) (a0 : Nat) (a1 : Int32) (h : AH) (res : Int32 × AH) (hf : f_X12_crew a0 a1 h = some res) (K : ∀ (v : Int32) (h2 : AH), res = (v, h2) → PR X rmX12_crew (some (.int v)) h2) : PT X 3 0 0 0 [(0, .ref a0), (1, .int a1)] [] h := by
  unfold f_X12_crew at hf
  refine pt_iload_n C 1 rfl rfl dX12_crew_0 ?_
  refine pt_i2l C dX12_crew_1 ?_
  refine pt_lconst C (v := 0) (by decide) dX12_crew_2 ?_
  refine pt_iconst C (v := 1) (by decide) dX12_crew_3 ?_
  refine pt_aload_n C 0 rfl rfl dX12_crew_4 ?_
  refine ob hf (fun v1 g2 hf => ?_)
  refine pt_getI C kX12 7 (by decide) tw_923 (Or.inl rfl) g2 dX12_crew_5 ?_
  refine pt_ishl C dX12_crew_8 ?_
  refine pt_iconst C (v := 1) (by decide) dX12_crew_9 ?_
  refine pt_isub C dX12_crew_10 ?_
  refine pt_i2l C dX12_crew_11 ?_
  refine ob hf (fun q3 g4 hf => ?_)
  refine pt_callS C (As := [.long a1.toInt64, .long 0, .long (((1 <<< (v1 &&& 31)) - 1).toInt64)]) (rest := []) (v := (some (.int q3.1))) (fun l => con_X12_in l a1.toInt64 0 (((1 <<< (v1 &&& 31)) - 1).toInt64) h _ g4) tw_1065 tw_1063 tw_1064 tw_13 yn_X12_in (by decide) (Nat.le_of_ble_eq_true rfl) dX12_crew_12 rfl ?_
  show PT X 3 0 0 15 [(0, .ref a0), (1, .int a1)] [.int q3.1] q3.2
  refine pt_if_ne C (tgt := 21) (by decide) dX12_crew_15 (fun c5 => ?_) (fun c5 => ?_)
  · rw [if_neg c5] at hf
    refine pt_aload_n C 0 rfl rfl dX12_crew_21 ?_
    refine ob hf (fun v6 g7 hf => ?_)
    refine pt_getI C kX12 14 (by decide) tw_930 (Or.inl rfl) g7 dX12_crew_22 ?_
    refine pt_istore_n C [(2, .int v6), (0, .ref a0), (1, .int a1)] rfl (by decide) rfl dX12_crew_25 ?_
    refine pt_aload_n C 1 rfl rfl dX12_crew_26 ?_
    refine pt_iload_n C 2 rfl rfl dX12_crew_27 ?_
    refine ob hf (fun h8 g9 hf => ?_)
    refine pt_put C kX12 14 (by decide) tw_930 (Or.inl rfl) rfl rfl rfl g9 dX12_crew_28 ?_
    refine pt_iload_n C 0 rfl rfl dX12_crew_31 ?_
    exact pt_iret C (K _ _ (Option.some.inj hf).symm) (by decide) (by decide) dX12_crew_32
  · rw [if_pos c5] at hf
    refine pt_bipush C (v := (-2)) (by decide) dX12_crew_18 ?_
    exact pt_iret C (K _ _ (Option.some.inj hf).symm) (by decide) (by decide) dX12_crew_20
theorem con_X12_crew (l : Launch) (a0 : Nat) (a1 : Int32) (h : AH) (q : Int32 × AH) (hf : f_X12_crew a0 a1 h = some q) : Con l yX12_crew cX12_crew 3 (some .int) rmX12_crew [.ref a0, .int a1] h (some (.int q.1)) q.2 := Con.of (by decide +kernel) (Nat.le_of_ble_eq_true rfl) (fun X C I K => w_X12_crew_0 C a0 a1 h q hf (fun v h2 e => by cases e; exact K))
abbrev rmX12_note : Room := { frames := 0, cells := 0, slots := 0, locals := 0 }
theorem yn_X12_note : YN yX12_note 1 := by refine ⟨?_, ?_, ?_⟩ <;> decide +kernel
set_option maxRecDepth 100000 in
set_option maxHeartbeats 4000000 in
theorem w_X12_note_0 {X : MX} (C : CX X cX12_note 3 RX12 none rmX12_note) (a0 : Nat) (a1 : Int64) (h : AH) (res : AH) (hf : f_X12_note a0 a1 h = some res) (K : PR X rmX12_note none res) : PT X 3 0 0 0 [(0, .ref a0), (1, .long a1)] [] h := by
  unfold f_X12_note at hf
  refine pt_aload_n C 0 rfl rfl dX12_note_0 ?_
  refine pt_ldc2 C tw_1305 dX12_note_1 ?_
  refine pt_aload_n C 0 rfl rfl dX12_note_4 ?_
  refine ob hf (fun v1 g2 hf => ?_)
  refine pt_getJ C kX12 46 (by decide) tw_962 (Or.inl rfl) g2 dX12_note_5 ?_
  refine pt_lmul C dX12_note_8 ?_
  refine pt_lload_n C 1 rfl rfl dX12_note_9 ?_
  refine pt_ladd C dX12_note_10 ?_
  refine ob hf (fun h3 g4 hf => ?_)
  refine pt_put C kX12 46 (by decide) tw_962 (Or.inl rfl) rfl rfl rfl g4 dX12_note_11 ?_
  obtain rfl := Option.some.inj hf
  exact pt_vret C K (by decide) (by decide) dX12_note_14
theorem con_X12_note (l : Launch) (a0 : Nat) (a1 : Int64) (h : AH) (q : AH) (hf : f_X12_note a0 a1 h = some q) : Con l yX12_note cX12_note 3 none rmX12_note [.ref a0, .long a1] h none q := Con.of (by decide +kernel) (Nat.le_of_ble_eq_true rfl) (fun X C I K => w_X12_note_0 C a0 a1 h q hf K)
abbrev rmX12_digest : Room := { frames := 1, cells := 0, slots := 0, locals := 22 }
theorem yn_X12_digest : YN yX12_digest 0 := by refine ⟨?_, ?_, ?_⟩ <;> decide +kernel
set_option maxRecDepth 100000 in
set_option maxHeartbeats 4000000 in
theorem w_X12_digest_L9 {X : MX} (C : CX X cX12_digest 3 RX12 (some .long) rmX12_digest) (x0 : Nat) (s : Int32 × AH) (res : (Int32 × AH) ⊕ ((AH))) (hf : f_X12_digest_L9 x0 s = some res) (K0 : ∀ (u1 : Int32) (hu : AH), res = .inl (u1, hu) → PT X 3 0 0 9 [(0, .ref x0), (1, .int u1)] [] hu) (K1 : ∀ (hu : AH), res = .inr (hu) → PT X 3 0 0 31 [(0, .ref x0)] [] hu) : PT X 3 0 0 9 [(0, .ref x0), (1, .int s.1)] [] s.2 := by
  unfold f_X12_digest_L9 at hf
  refine pt_iload_n C 1 rfl rfl dX12_digest_9 ?_
  refine pt_bipush C (v := 9) (by decide) dX12_digest_10 ?_
  refine pt_icmp_ge C (tgt := 31) (by decide) dX12_digest_12 (fun c3 => ?_) (fun c3 => ?_)
  · rw [if_pos c3] at hf
    refine pt_sub C [(0, .ref x0)] [0] rfl ?_
    exact K1 _ (Option.some.inj hf).symm
  · rw [if_neg c3] at hf
    refine pt_aload_n C 0 rfl rfl dX12_digest_15 ?_
    refine pt_aload_n C 0 rfl rfl dX12_digest_16 ?_
    refine pt_iload_n C 1 rfl rfl dX12_digest_17 ?_
    refine ob hf (fun _ g6 hf => ?_)
    refine ob hf (fun q4 g5 hf => ?_)
    refine pt_callV C (As := [.int s.1]) (rest := [.ref x0]) (v := (some (.int q4.1))) (fun l => con_X12_count l x0 s.1 s.2 _ g5) tw_1294 tw_1300 tw_1292 tw_1293 kX12 g6 tw_13 yn_X12_count (by decide) (Nat.le_of_ble_eq_true rfl) dX12_digest_18 rfl ?_
    show PT X 3 0 0 21 [(0, .ref x0), (1, .int s.1)] [.int q4.1, .ref x0] q4.2
    refine pt_i2l C dX12_digest_21 ?_
    refine ob hf (fun _ g9 hf => ?_)
    refine ob hf (fun q7 g8 hf => ?_)
    refine pt_callV C (As := [.long q4.1.toInt64]) (rest := []) (v := none) (fun l => con_X12_note l x0 q4.1.toInt64 q4.2 _ g8) tw_1304 tw_1301 tw_1303 tp_42 kX12 g9 tw_13 yn_X12_note (by decide) (Nat.le_of_ble_eq_true rfl) dX12_digest_22 rfl ?_
    show PT X 3 0 0 25 [(0, .ref x0), (1, .int s.1)] [] q7
    refine pt_iinc C 1 [(1, .int (s.1 + 1)), (0, .ref x0)] rfl (iinc_eq s.1 (by decide)) (by decide) rfl dX12_digest_25 ?_
    refine pt_goto C (tgt := 9) (by decide) dX12_digest_28 ?_
    refine pt_sub C [(0, .ref x0), (1, .int (s.1 + 1))] [1, 0] rfl ?_
    exact K0 _ _ (Option.some.inj hf).symm
theorem l_X12_digest_L9 {X : MX} (C : CX X cX12_digest 3 RX12 (some .long) rmX12_digest) (x0 : Nat) : ∀ (n : Nat) (s : Int32 × AH) (r : (AH)), iter (f_X12_digest_L9 x0) n s = some r → (fun r : (AH) => PT X 3 0 0 31 [(0, .ref x0)] [] r) r → PT X 3 0 0 9 [(0, .ref x0), (1, .int s.1)] [] s.2 :=
  iter_W (fun s : Int32 × AH => PT X 3 0 0 9 [(0, .ref x0), (1, .int s.1)] [] s.2) (fun r : (AH) => PT X 3 0 0 31 [(0, .ref x0)] [] r) _ (fun s s2 hf P => w_X12_digest_L9 C x0 s _ hf (fun u1 hu e => by cases e; exact P) (fun hu e => by cases e)) (fun s r hf P => w_X12_digest_L9 C x0 s _ hf (fun u1 hu e => by cases e) (fun hu e => by cases e; exact P))
set_option maxRecDepth 100000 in
set_option maxHeartbeats 4000000 in
theorem w_X12_digest_L33 {X : MX} (C : CX X cX12_digest 3 RX12 (some .long) rmX12_digest) (x0 : Nat) (s : Int32 × AH) (res : (Int32 × AH) ⊕ ((AH))) (hf : f_X12_digest_L33 x0 s = some res) (K0 : ∀ (u1 : Int32) (hu : AH), res = .inl (u1, hu) → PT X 3 0 0 33 [(0, .ref x0), (1, .int u1)] [] hu) (K1 : ∀ (hu : AH), res = .inr (hu) → PT X 3 0 0 58 [(0, .ref x0)] [] hu) : PT X 3 0 0 33 [(0, .ref x0), (1, .int s.1)] [] s.2 := by
  unfold f_X12_digest_L33 at hf
  refine pt_iload_n C 1 rfl rfl dX12_digest_33 ?_
  refine pt_aload_n C 0 rfl rfl dX12_digest_34 ?_
  refine ob hf (fun v12 g13 hf => ?_)
  refine pt_getI C kX12 5 (by decide) tw_921 (Or.inl rfl) g13 dX12_digest_35 ?_
  refine pt_icmp_ge C (tgt := 58) (by decide) dX12_digest_38 (fun c14 => ?_) (fun c14 => ?_)
  · rw [if_pos c14] at hf
    refine pt_sub C [(0, .ref x0)] [0] rfl ?_
    exact K1 _ (Option.some.inj hf).symm
  · rw [if_neg c14] at hf
    refine pt_aload_n C 0 rfl rfl dX12_digest_41 ?_
    refine pt_aload_n C 0 rfl rfl dX12_digest_42 ?_
    refine ob hf (fun v15 g16 hf => ?_)
    refine pt_getR C kX12 6 (by decide) tw_922 (Or.inl rfl) g16 dX12_digest_43 ?_
    refine pt_iload_n C 1 rfl rfl dX12_digest_46 ?_
    refine ob hf (fun v17 g18 hf => ?_)
    refine pt_iald C g18 dX12_digest_47 ?_
    refine pt_i2l C dX12_digest_48 ?_
    refine ob hf (fun _ g21 hf => ?_)
    refine ob hf (fun q19 g20 hf => ?_)
    refine pt_callV C (As := [.long v17.toInt64]) (rest := []) (v := none) (fun l => con_X12_note l x0 v17.toInt64 s.2 _ g20) tw_1304 tw_1301 tw_1303 tp_42 kX12 g21 tw_13 yn_X12_note (by decide) (Nat.le_of_ble_eq_true rfl) dX12_digest_49 rfl ?_
    show PT X 3 0 0 52 [(0, .ref x0), (1, .int s.1)] [] q19
    refine pt_iinc C 1 [(1, .int (s.1 + 1)), (0, .ref x0)] rfl (iinc_eq s.1 (by decide)) (by decide) rfl dX12_digest_52 ?_
    refine pt_goto C (tgt := 33) (by decide) dX12_digest_55 ?_
    refine pt_sub C [(0, .ref x0), (1, .int (s.1 + 1))] [1, 0] rfl ?_
    exact K0 _ _ (Option.some.inj hf).symm
theorem l_X12_digest_L33 {X : MX} (C : CX X cX12_digest 3 RX12 (some .long) rmX12_digest) (x0 : Nat) : ∀ (n : Nat) (s : Int32 × AH) (r : (AH)), iter (f_X12_digest_L33 x0) n s = some r → (fun r : (AH) => PT X 3 0 0 58 [(0, .ref x0)] [] r) r → PT X 3 0 0 33 [(0, .ref x0), (1, .int s.1)] [] s.2 :=
  iter_W (fun s : Int32 × AH => PT X 3 0 0 33 [(0, .ref x0), (1, .int s.1)] [] s.2) (fun r : (AH) => PT X 3 0 0 58 [(0, .ref x0)] [] r) _ (fun s s2 hf P => w_X12_digest_L33 C x0 s _ hf (fun u1 hu e => by cases e; exact P) (fun hu e => by cases e)) (fun s r hf P => w_X12_digest_L33 C x0 s _ hf (fun u1 hu e => by cases e) (fun hu e => by cases e; exact P))
set_option maxRecDepth 100000 in
set_option maxHeartbeats 4000000 in
theorem w_X12_digest_L92 {X : MX} (C : CX X cX12_digest 3 RX12 (some .long) rmX12_digest) (x0 : Nat) (x1 : Int32) (s : Int32 × AH) (res : (Int32 × AH) ⊕ ((AH))) (hf : f_X12_digest_L92 x0 x1 s = some res) (K0 : ∀ (u2 : Int32) (hu : AH), res = .inl (u2, hu) → PT X 3 0 0 92 [(0, .ref x0), (1, .int x1), (2, .int u2)] [] hu) (K1 : ∀ (hu : AH), res = .inr (hu) → PT X 3 0 0 124 [(0, .ref x0), (1, .int x1)] [] hu) : PT X 3 0 0 92 [(0, .ref x0), (1, .int x1), (2, .int s.1)] [] s.2 := by
  unfold f_X12_digest_L92 at hf
  refine pt_iload_n C 2 rfl rfl dX12_digest_92 ?_
  refine pt_aload_n C 0 rfl rfl dX12_digest_93 ?_
  refine ob hf (fun v41 g42 hf => ?_)
  refine pt_getR C kX12 1 (by decide) tw_917 (Or.inl rfl) g42 dX12_digest_94 ?_
  refine pt_iload_n C 1 rfl rfl dX12_digest_97 ?_
  refine ob hf (fun v43 g44 hf => ?_)
  refine pt_iald C g44 dX12_digest_98 ?_
  refine pt_icmp_ge C (tgt := 124) (by decide) dX12_digest_99 (fun c45 => ?_) (fun c45 => ?_)
  · rw [if_pos c45] at hf
    refine pt_sub C [(0, .ref x0), (1, .int x1)] [0, 1] rfl ?_
    exact K1 _ (Option.some.inj hf).symm
  · rw [if_neg c45] at hf
    refine pt_aload_n C 0 rfl rfl dX12_digest_102 ?_
    refine pt_aload_n C 0 rfl rfl dX12_digest_103 ?_
    refine ob hf (fun v46 g47 hf => ?_)
    refine pt_getR C kX12 3 (by decide) tw_919 (Or.inl rfl) g47 dX12_digest_104 ?_
    refine pt_bipush C (v := 24) (by decide) dX12_digest_107 ?_
    refine pt_iload_n C 1 rfl rfl dX12_digest_109 ?_
    refine pt_imul C dX12_digest_110 ?_
    refine pt_iload_n C 2 rfl rfl dX12_digest_111 ?_
    refine pt_iadd C dX12_digest_112 ?_
    refine ob hf (fun v48 g49 hf => ?_)
    refine pt_iald C g49 dX12_digest_113 ?_
    refine pt_i2l C dX12_digest_114 ?_
    refine ob hf (fun _ g52 hf => ?_)
    refine ob hf (fun q50 g51 hf => ?_)
    refine pt_callV C (As := [.long v48.toInt64]) (rest := []) (v := none) (fun l => con_X12_note l x0 v48.toInt64 s.2 _ g51) tw_1304 tw_1301 tw_1303 tp_42 kX12 g52 tw_13 yn_X12_note (by decide) (Nat.le_of_ble_eq_true rfl) dX12_digest_115 rfl ?_
    show PT X 3 0 0 118 [(0, .ref x0), (1, .int x1), (2, .int s.1)] [] q50
    refine pt_iinc C 2 [(2, .int (s.1 + 1)), (0, .ref x0), (1, .int x1)] rfl (iinc_eq s.1 (by decide)) (by decide) rfl dX12_digest_118 ?_
    refine pt_goto C (tgt := 92) (by decide) dX12_digest_121 ?_
    refine pt_sub C [(0, .ref x0), (1, .int x1), (2, .int (s.1 + 1))] [1, 2, 0] rfl ?_
    exact K0 _ _ (Option.some.inj hf).symm
theorem l_X12_digest_L92 {X : MX} (C : CX X cX12_digest 3 RX12 (some .long) rmX12_digest) (x0 : Nat) (x1 : Int32) : ∀ (n : Nat) (s : Int32 × AH) (r : (AH)), iter (f_X12_digest_L92 x0 x1) n s = some r → (fun r : (AH) => PT X 3 0 0 124 [(0, .ref x0), (1, .int x1)] [] r) r → PT X 3 0 0 92 [(0, .ref x0), (1, .int x1), (2, .int s.1)] [] s.2 :=
  iter_W (fun s : Int32 × AH => PT X 3 0 0 92 [(0, .ref x0), (1, .int x1), (2, .int s.1)] [] s.2) (fun r : (AH) => PT X 3 0 0 124 [(0, .ref x0), (1, .int x1)] [] r) _ (fun s s2 hf P => w_X12_digest_L92 C x0 x1 s _ hf (fun u2 hu e => by cases e; exact P) (fun hu e => by cases e)) (fun s r hf P => w_X12_digest_L92 C x0 x1 s _ hf (fun u2 hu e => by cases e) (fun hu e => by cases e; exact P))
set_option maxRecDepth 100000 in
set_option maxHeartbeats 4000000 in
theorem w_X12_digest_L126 {X : MX} (C : CX X cX12_digest 3 RX12 (some .long) rmX12_digest) (x0 : Nat) (x1 : Int32) (s : Int32 × AH) (res : (Int32 × AH) ⊕ ((AH))) (hf : f_X12_digest_L126 x0 x1 s = some res) (K0 : ∀ (u2 : Int32) (hu : AH), res = .inl (u2, hu) → PT X 3 0 0 126 [(0, .ref x0), (1, .int x1), (2, .int u2)] [] hu) (K1 : ∀ (hu : AH), res = .inr (hu) → PT X 3 0 0 158 [(0, .ref x0), (1, .int x1)] [] hu) : PT X 3 0 0 126 [(0, .ref x0), (1, .int x1), (2, .int s.1)] [] s.2 := by
  unfold f_X12_digest_L126 at hf
  refine pt_iload_n C 2 rfl rfl dX12_digest_126 ?_
  refine pt_aload_n C 0 rfl rfl dX12_digest_127 ?_
  refine ob hf (fun v55 g56 hf => ?_)
  refine pt_getR C kX12 2 (by decide) tw_918 (Or.inl rfl) g56 dX12_digest_128 ?_
  refine pt_iload_n C 1 rfl rfl dX12_digest_131 ?_
  refine ob hf (fun v57 g58 hf => ?_)
  refine pt_iald C g58 dX12_digest_132 ?_
  refine pt_icmp_ge C (tgt := 158) (by decide) dX12_digest_133 (fun c59 => ?_) (fun c59 => ?_)
  · rw [if_pos c59] at hf
    refine pt_sub C [(0, .ref x0), (1, .int x1)] [0, 1] rfl ?_
    exact K1 _ (Option.some.inj hf).symm
  · rw [if_neg c59] at hf
    refine pt_aload_n C 0 rfl rfl dX12_digest_136 ?_
    refine pt_aload_n C 0 rfl rfl dX12_digest_137 ?_
    refine ob hf (fun v60 g61 hf => ?_)
    refine pt_getR C kX12 4 (by decide) tw_920 (Or.inl rfl) g61 dX12_digest_138 ?_
    refine pt_bipush C (v := 12) (by decide) dX12_digest_141 ?_
    refine pt_iload_n C 1 rfl rfl dX12_digest_143 ?_
    refine pt_imul C dX12_digest_144 ?_
    refine pt_iload_n C 2 rfl rfl dX12_digest_145 ?_
    refine pt_iadd C dX12_digest_146 ?_
    refine ob hf (fun v62 g63 hf => ?_)
    refine pt_iald C g63 dX12_digest_147 ?_
    refine pt_i2l C dX12_digest_148 ?_
    refine ob hf (fun _ g66 hf => ?_)
    refine ob hf (fun q64 g65 hf => ?_)
    refine pt_callV C (As := [.long v62.toInt64]) (rest := []) (v := none) (fun l => con_X12_note l x0 v62.toInt64 s.2 _ g65) tw_1304 tw_1301 tw_1303 tp_42 kX12 g66 tw_13 yn_X12_note (by decide) (Nat.le_of_ble_eq_true rfl) dX12_digest_149 rfl ?_
    show PT X 3 0 0 152 [(0, .ref x0), (1, .int x1), (2, .int s.1)] [] q64
    refine pt_iinc C 2 [(2, .int (s.1 + 1)), (0, .ref x0), (1, .int x1)] rfl (iinc_eq s.1 (by decide)) (by decide) rfl dX12_digest_152 ?_
    refine pt_goto C (tgt := 126) (by decide) dX12_digest_155 ?_
    refine pt_sub C [(0, .ref x0), (1, .int x1), (2, .int (s.1 + 1))] [1, 2, 0] rfl ?_
    exact K0 _ _ (Option.some.inj hf).symm
theorem l_X12_digest_L126 {X : MX} (C : CX X cX12_digest 3 RX12 (some .long) rmX12_digest) (x0 : Nat) (x1 : Int32) : ∀ (n : Nat) (s : Int32 × AH) (r : (AH)), iter (f_X12_digest_L126 x0 x1) n s = some r → (fun r : (AH) => PT X 3 0 0 158 [(0, .ref x0), (1, .int x1)] [] r) r → PT X 3 0 0 126 [(0, .ref x0), (1, .int x1), (2, .int s.1)] [] s.2 :=
  iter_W (fun s : Int32 × AH => PT X 3 0 0 126 [(0, .ref x0), (1, .int x1), (2, .int s.1)] [] s.2) (fun r : (AH) => PT X 3 0 0 158 [(0, .ref x0), (1, .int x1)] [] r) _ (fun s s2 hf P => w_X12_digest_L126 C x0 x1 s _ hf (fun u2 hu e => by cases e; exact P) (fun hu e => by cases e)) (fun s r hf P => w_X12_digest_L126 C x0 x1 s _ hf (fun u2 hu e => by cases e) (fun hu e => by cases e; exact P))
set_option maxRecDepth 100000 in
set_option maxHeartbeats 4000000 in
theorem w_X12_digest_L60 {X : MX} (C : CX X cX12_digest 3 RX12 (some .long) rmX12_digest) (x0 : Nat) (s : Int32 × AH) (res : (Int32 × AH) ⊕ ((AH))) (hf : f_X12_digest_L60 x0 s = some res) (K0 : ∀ (u1 : Int32) (hu : AH), res = .inl (u1, hu) → PT X 3 0 0 60 [(0, .ref x0), (1, .int u1)] [] hu) (K1 : ∀ (hu : AH), res = .inr (hu) → PT X 3 0 0 164 [(0, .ref x0)] [] hu) : PT X 3 0 0 60 [(0, .ref x0), (1, .int s.1)] [] s.2 := by
  unfold f_X12_digest_L60 at hf
  refine pt_iload_n C 1 rfl rfl dX12_digest_60 ?_
  refine pt_aload_n C 0 rfl rfl dX12_digest_61 ?_
  refine ob hf (fun v24 g25 hf => ?_)
  refine pt_getI C kX12 0 (by decide) tw_916 (Or.inl rfl) g25 dX12_digest_62 ?_
  refine pt_icmp_ge C (tgt := 164) (by decide) dX12_digest_65 (fun c26 => ?_) (fun c26 => ?_)
  · rw [if_pos c26] at hf
    refine pt_sub C [(0, .ref x0)] [0] rfl ?_
    exact K1 _ (Option.some.inj hf).symm
  · rw [if_neg c26] at hf
    refine pt_aload_n C 0 rfl rfl dX12_digest_68 ?_
    refine pt_aload_n C 0 rfl rfl dX12_digest_69 ?_
    refine ob hf (fun v27 g28 hf => ?_)
    refine pt_getR C kX12 1 (by decide) tw_917 (Or.inl rfl) g28 dX12_digest_70 ?_
    refine pt_iload_n C 1 rfl rfl dX12_digest_73 ?_
    refine ob hf (fun v29 g30 hf => ?_)
    refine pt_iald C g30 dX12_digest_74 ?_
    refine pt_i2l C dX12_digest_75 ?_
    refine ob hf (fun _ g33 hf => ?_)
    refine ob hf (fun q31 g32 hf => ?_)
    refine pt_callV C (As := [.long v29.toInt64]) (rest := []) (v := none) (fun l => con_X12_note l x0 v29.toInt64 s.2 _ g32) tw_1304 tw_1301 tw_1303 tp_42 kX12 g33 tw_13 yn_X12_note (by decide) (Nat.le_of_ble_eq_true rfl) dX12_digest_76 rfl ?_
    show PT X 3 0 0 79 [(0, .ref x0), (1, .int s.1)] [] q31
    refine pt_aload_n C 0 rfl rfl dX12_digest_79 ?_
    refine pt_aload_n C 0 rfl rfl dX12_digest_80 ?_
    refine ob hf (fun v34 g35 hf => ?_)
    refine pt_getR C kX12 2 (by decide) tw_918 (Or.inl rfl) g35 dX12_digest_81 ?_
    refine pt_iload_n C 1 rfl rfl dX12_digest_84 ?_
    refine ob hf (fun v36 g37 hf => ?_)
    refine pt_iald C g37 dX12_digest_85 ?_
    refine pt_i2l C dX12_digest_86 ?_
    refine ob hf (fun _ g40 hf => ?_)
    refine ob hf (fun q38 g39 hf => ?_)
    refine pt_callV C (As := [.long v36.toInt64]) (rest := []) (v := none) (fun l => con_X12_note l x0 v36.toInt64 q31 _ g39) tw_1304 tw_1301 tw_1303 tp_42 kX12 g40 tw_13 yn_X12_note (by decide) (Nat.le_of_ble_eq_true rfl) dX12_digest_87 rfl ?_
    show PT X 3 0 0 90 [(0, .ref x0), (1, .int s.1)] [] q38
    refine pt_iconst C (v := 0) (by decide) dX12_digest_90 ?_
    refine pt_istore_n C [(2, .int 0), (0, .ref x0), (1, .int s.1)] rfl (by decide) rfl dX12_digest_91 ?_
    refine pt_sub C [(0, .ref x0), (1, .int s.1), (2, .int 0)] [1, 2, 0] rfl ?_
    refine ob hf (fun e53 g54 hf => ?_)
    refine l_X12_digest_L92 C x0 s.1 _ _ _ g54 ?_
    refine pt_iconst C (v := 0) (by decide) dX12_digest_124 ?_
    refine pt_istore_n C [(2, .int 0), (0, .ref x0), (1, .int s.1)] rfl (by decide) rfl dX12_digest_125 ?_
    refine pt_sub C [(0, .ref x0), (1, .int s.1), (2, .int 0)] [1, 2, 0] rfl ?_
    refine ob hf (fun e67 g68 hf => ?_)
    refine l_X12_digest_L126 C x0 s.1 _ _ _ g68 ?_
    refine pt_iinc C 1 [(1, .int (s.1 + 1)), (0, .ref x0)] rfl (iinc_eq s.1 (by decide)) (by decide) rfl dX12_digest_158 ?_
    refine pt_goto C (tgt := 60) (by decide) dX12_digest_161 ?_
    refine pt_sub C [(0, .ref x0), (1, .int (s.1 + 1))] [1, 0] rfl ?_
    exact K0 _ _ (Option.some.inj hf).symm
theorem l_X12_digest_L60 {X : MX} (C : CX X cX12_digest 3 RX12 (some .long) rmX12_digest) (x0 : Nat) : ∀ (n : Nat) (s : Int32 × AH) (r : (AH)), iter (f_X12_digest_L60 x0) n s = some r → (fun r : (AH) => PT X 3 0 0 164 [(0, .ref x0)] [] r) r → PT X 3 0 0 60 [(0, .ref x0), (1, .int s.1)] [] s.2 :=
  iter_W (fun s : Int32 × AH => PT X 3 0 0 60 [(0, .ref x0), (1, .int s.1)] [] s.2) (fun r : (AH) => PT X 3 0 0 164 [(0, .ref x0)] [] r) _ (fun s s2 hf P => w_X12_digest_L60 C x0 s _ hf (fun u1 hu e => by cases e; exact P) (fun hu e => by cases e)) (fun s r hf P => w_X12_digest_L60 C x0 s _ hf (fun u1 hu e => by cases e) (fun hu e => by cases e; exact P))
set_option maxRecDepth 100000 in
set_option maxHeartbeats 4000000 in
theorem w_X12_digest_L166 {X : MX} (C : CX X cX12_digest 3 RX12 (some .long) rmX12_digest) (x0 : Nat) (s : Int32 × AH) (res : (Int32 × AH) ⊕ ((AH))) (hf : f_X12_digest_L166 x0 s = some res) (K0 : ∀ (u1 : Int32) (hu : AH), res = .inl (u1, hu) → PT X 3 0 0 166 [(0, .ref x0), (1, .int u1)] [] hu) (K1 : ∀ (hu : AH), res = .inr (hu) → PT X 3 0 0 246 [(0, .ref x0)] [] hu) : PT X 3 0 0 166 [(0, .ref x0), (1, .int s.1)] [] s.2 := by
  unfold f_X12_digest_L166 at hf
  refine pt_iload_n C 1 rfl rfl dX12_digest_166 ?_
  refine pt_aload_n C 0 rfl rfl dX12_digest_167 ?_
  refine ob hf (fun v71 g72 hf => ?_)
  refine pt_getI C kX12 7 (by decide) tw_923 (Or.inl rfl) g72 dX12_digest_168 ?_
  refine pt_icmp_ge C (tgt := 246) (by decide) dX12_digest_171 (fun c73 => ?_) (fun c73 => ?_)
  · rw [if_pos c73] at hf
    refine pt_sub C [(0, .ref x0)] [0] rfl ?_
    exact K1 _ (Option.some.inj hf).symm
  · rw [if_neg c73] at hf
    refine pt_aload_n C 0 rfl rfl dX12_digest_174 ?_
    refine pt_aload_n C 0 rfl rfl dX12_digest_175 ?_
    refine ob hf (fun v74 g75 hf => ?_)
    refine pt_getR C kX12 8 (by decide) tw_924 (Or.inl rfl) g75 dX12_digest_176 ?_
    refine pt_iload_n C 1 rfl rfl dX12_digest_179 ?_
    refine ob hf (fun v76 g77 hf => ?_)
    refine pt_iald C g77 dX12_digest_180 ?_
    refine pt_i2l C dX12_digest_181 ?_
    refine ob hf (fun _ g80 hf => ?_)
    refine ob hf (fun q78 g79 hf => ?_)
    refine pt_callV C (As := [.long v76.toInt64]) (rest := []) (v := none) (fun l => con_X12_note l x0 v76.toInt64 s.2 _ g79) tw_1304 tw_1301 tw_1303 tp_42 kX12 g80 tw_13 yn_X12_note (by decide) (Nat.le_of_ble_eq_true rfl) dX12_digest_182 rfl ?_
    show PT X 3 0 0 185 [(0, .ref x0), (1, .int s.1)] [] q78
    refine pt_aload_n C 0 rfl rfl dX12_digest_185 ?_
    refine pt_aload_n C 0 rfl rfl dX12_digest_186 ?_
    refine ob hf (fun v81 g82 hf => ?_)
    refine pt_getR C kX12 9 (by decide) tw_925 (Or.inl rfl) g82 dX12_digest_187 ?_
    refine pt_iload_n C 1 rfl rfl dX12_digest_190 ?_
    refine ob hf (fun v83 g84 hf => ?_)
    refine pt_iald C g84 dX12_digest_191 ?_
    refine pt_i2l C dX12_digest_192 ?_
    refine ob hf (fun _ g87 hf => ?_)
    refine ob hf (fun q85 g86 hf => ?_)
    refine pt_callV C (As := [.long v83.toInt64]) (rest := []) (v := none) (fun l => con_X12_note l x0 v83.toInt64 q78 _ g86) tw_1304 tw_1301 tw_1303 tp_42 kX12 g87 tw_13 yn_X12_note (by decide) (Nat.le_of_ble_eq_true rfl) dX12_digest_193 rfl ?_
    show PT X 3 0 0 196 [(0, .ref x0), (1, .int s.1)] [] q85
    refine pt_aload_n C 0 rfl rfl dX12_digest_196 ?_
    refine pt_aload_n C 0 rfl rfl dX12_digest_197 ?_
    refine ob hf (fun v88 g89 hf => ?_)
    refine pt_getR C kX12 10 (by decide) tw_926 (Or.inl rfl) g89 dX12_digest_198 ?_
    refine pt_iload_n C 1 rfl rfl dX12_digest_201 ?_
    refine ob hf (fun v90 g91 hf => ?_)
    refine pt_iald C g91 dX12_digest_202 ?_
    refine pt_i2l C dX12_digest_203 ?_
    refine ob hf (fun _ g94 hf => ?_)
    refine ob hf (fun q92 g93 hf => ?_)
    refine pt_callV C (As := [.long v90.toInt64]) (rest := []) (v := none) (fun l => con_X12_note l x0 v90.toInt64 q85 _ g93) tw_1304 tw_1301 tw_1303 tp_42 kX12 g94 tw_13 yn_X12_note (by decide) (Nat.le_of_ble_eq_true rfl) dX12_digest_204 rfl ?_
    show PT X 3 0 0 207 [(0, .ref x0), (1, .int s.1)] [] q92
    refine pt_aload_n C 0 rfl rfl dX12_digest_207 ?_
    refine pt_aload_n C 0 rfl rfl dX12_digest_208 ?_
    refine ob hf (fun v95 g96 hf => ?_)
    refine pt_getR C kX12 11 (by decide) tw_927 (Or.inl rfl) g96 dX12_digest_209 ?_
    refine pt_iload_n C 1 rfl rfl dX12_digest_212 ?_
    refine ob hf (fun v97 g98 hf => ?_)
    refine pt_iald C g98 dX12_digest_213 ?_
    refine pt_i2l C dX12_digest_214 ?_
    refine ob hf (fun _ g101 hf => ?_)
    refine ob hf (fun q99 g100 hf => ?_)
    refine pt_callV C (As := [.long v97.toInt64]) (rest := []) (v := none) (fun l => con_X12_note l x0 v97.toInt64 q92 _ g100) tw_1304 tw_1301 tw_1303 tp_42 kX12 g101 tw_13 yn_X12_note (by decide) (Nat.le_of_ble_eq_true rfl) dX12_digest_215 rfl ?_
    show PT X 3 0 0 218 [(0, .ref x0), (1, .int s.1)] [] q99
    refine pt_aload_n C 0 rfl rfl dX12_digest_218 ?_
    refine pt_aload_n C 0 rfl rfl dX12_digest_219 ?_
    refine ob hf (fun v102 g103 hf => ?_)
    refine pt_getR C kX12 12 (by decide) tw_928 (Or.inl rfl) g103 dX12_digest_220 ?_
    refine pt_iload_n C 1 rfl rfl dX12_digest_223 ?_
    refine ob hf (fun v104 g105 hf => ?_)
    refine pt_iald C g105 dX12_digest_224 ?_
    refine pt_i2l C dX12_digest_225 ?_
    refine ob hf (fun _ g108 hf => ?_)
    refine ob hf (fun q106 g107 hf => ?_)
    refine pt_callV C (As := [.long v104.toInt64]) (rest := []) (v := none) (fun l => con_X12_note l x0 v104.toInt64 q99 _ g107) tw_1304 tw_1301 tw_1303 tp_42 kX12 g108 tw_13 yn_X12_note (by decide) (Nat.le_of_ble_eq_true rfl) dX12_digest_226 rfl ?_
    show PT X 3 0 0 229 [(0, .ref x0), (1, .int s.1)] [] q106
    refine pt_aload_n C 0 rfl rfl dX12_digest_229 ?_
    refine pt_aload_n C 0 rfl rfl dX12_digest_230 ?_
    refine ob hf (fun v109 g110 hf => ?_)
    refine pt_getR C kX12 13 (by decide) tw_929 (Or.inl rfl) g110 dX12_digest_231 ?_
    refine pt_iload_n C 1 rfl rfl dX12_digest_234 ?_
    refine ob hf (fun v111 g112 hf => ?_)
    refine pt_iald C g112 dX12_digest_235 ?_
    refine pt_i2l C dX12_digest_236 ?_
    refine ob hf (fun _ g115 hf => ?_)
    refine ob hf (fun q113 g114 hf => ?_)
    refine pt_callV C (As := [.long v111.toInt64]) (rest := []) (v := none) (fun l => con_X12_note l x0 v111.toInt64 q106 _ g114) tw_1304 tw_1301 tw_1303 tp_42 kX12 g115 tw_13 yn_X12_note (by decide) (Nat.le_of_ble_eq_true rfl) dX12_digest_237 rfl ?_
    show PT X 3 0 0 240 [(0, .ref x0), (1, .int s.1)] [] q113
    refine pt_iinc C 1 [(1, .int (s.1 + 1)), (0, .ref x0)] rfl (iinc_eq s.1 (by decide)) (by decide) rfl dX12_digest_240 ?_
    refine pt_goto C (tgt := 166) (by decide) dX12_digest_243 ?_
    refine pt_sub C [(0, .ref x0), (1, .int (s.1 + 1))] [1, 0] rfl ?_
    exact K0 _ _ (Option.some.inj hf).symm
theorem l_X12_digest_L166 {X : MX} (C : CX X cX12_digest 3 RX12 (some .long) rmX12_digest) (x0 : Nat) : ∀ (n : Nat) (s : Int32 × AH) (r : (AH)), iter (f_X12_digest_L166 x0) n s = some r → (fun r : (AH) => PT X 3 0 0 246 [(0, .ref x0)] [] r) r → PT X 3 0 0 166 [(0, .ref x0), (1, .int s.1)] [] s.2 :=
  iter_W (fun s : Int32 × AH => PT X 3 0 0 166 [(0, .ref x0), (1, .int s.1)] [] s.2) (fun r : (AH) => PT X 3 0 0 246 [(0, .ref x0)] [] r) _ (fun s s2 hf P => w_X12_digest_L166 C x0 s _ hf (fun u1 hu e => by cases e; exact P) (fun hu e => by cases e)) (fun s r hf P => w_X12_digest_L166 C x0 s _ hf (fun u1 hu e => by cases e) (fun hu e => by cases e; exact P))
set_option maxRecDepth 100000 in
set_option maxHeartbeats 4000000 in
theorem w_X12_digest_L248 {X : MX} (C : CX X cX12_digest 3 RX12 (some .long) rmX12_digest) (x0 : Nat) (s : Int32 × AH) (res : (Int32 × AH) ⊕ ((AH))) (hf : f_X12_digest_L248 x0 s = some res) (K0 : ∀ (u1 : Int32) (hu : AH), res = .inl (u1, hu) → PT X 3 0 0 248 [(0, .ref x0), (1, .int u1)] [] hu) (K1 : ∀ (hu : AH), res = .inr (hu) → PT X 3 0 0 273 [(0, .ref x0)] [] hu) : PT X 3 0 0 248 [(0, .ref x0), (1, .int s.1)] [] s.2 := by
  unfold f_X12_digest_L248 at hf
  refine pt_iload_n C 1 rfl rfl dX12_digest_248 ?_
  refine pt_aload_n C 0 rfl rfl dX12_digest_249 ?_
  refine ob hf (fun v118 g119 hf => ?_)
  refine pt_getI C kX12 16 (by decide) tw_932 (Or.inl rfl) g119 dX12_digest_250 ?_
  refine pt_icmp_ge C (tgt := 273) (by decide) dX12_digest_253 (fun c120 => ?_) (fun c120 => ?_)
  · rw [if_pos c120] at hf
    refine pt_sub C [(0, .ref x0)] [0] rfl ?_
    exact K1 _ (Option.some.inj hf).symm
  · rw [if_neg c120] at hf
    refine pt_aload_n C 0 rfl rfl dX12_digest_256 ?_
    refine pt_aload_n C 0 rfl rfl dX12_digest_257 ?_
    refine ob hf (fun v121 g122 hf => ?_)
    refine pt_getR C kX12 17 (by decide) tw_933 (Or.inl rfl) g122 dX12_digest_258 ?_
    refine pt_iload_n C 1 rfl rfl dX12_digest_261 ?_
    refine ob hf (fun v123 g124 hf => ?_)
    refine pt_iald C g124 dX12_digest_262 ?_
    refine pt_i2l C dX12_digest_263 ?_
    refine ob hf (fun _ g127 hf => ?_)
    refine ob hf (fun q125 g126 hf => ?_)
    refine pt_callV C (As := [.long v123.toInt64]) (rest := []) (v := none) (fun l => con_X12_note l x0 v123.toInt64 s.2 _ g126) tw_1304 tw_1301 tw_1303 tp_42 kX12 g127 tw_13 yn_X12_note (by decide) (Nat.le_of_ble_eq_true rfl) dX12_digest_264 rfl ?_
    show PT X 3 0 0 267 [(0, .ref x0), (1, .int s.1)] [] q125
    refine pt_iinc C 1 [(1, .int (s.1 + 1)), (0, .ref x0)] rfl (iinc_eq s.1 (by decide)) (by decide) rfl dX12_digest_267 ?_
    refine pt_goto C (tgt := 248) (by decide) dX12_digest_270 ?_
    refine pt_sub C [(0, .ref x0), (1, .int (s.1 + 1))] [1, 0] rfl ?_
    exact K0 _ _ (Option.some.inj hf).symm
theorem l_X12_digest_L248 {X : MX} (C : CX X cX12_digest 3 RX12 (some .long) rmX12_digest) (x0 : Nat) : ∀ (n : Nat) (s : Int32 × AH) (r : (AH)), iter (f_X12_digest_L248 x0) n s = some r → (fun r : (AH) => PT X 3 0 0 273 [(0, .ref x0)] [] r) r → PT X 3 0 0 248 [(0, .ref x0), (1, .int s.1)] [] s.2 :=
  iter_W (fun s : Int32 × AH => PT X 3 0 0 248 [(0, .ref x0), (1, .int s.1)] [] s.2) (fun r : (AH) => PT X 3 0 0 273 [(0, .ref x0)] [] r) _ (fun s s2 hf P => w_X12_digest_L248 C x0 s _ hf (fun u1 hu e => by cases e; exact P) (fun hu e => by cases e)) (fun s r hf P => w_X12_digest_L248 C x0 s _ hf (fun u1 hu e => by cases e) (fun hu e => by cases e; exact P))
set_option maxRecDepth 100000 in
set_option maxHeartbeats 4000000 in
theorem w_X12_digest_L275 {X : MX} (C : CX X cX12_digest 3 RX12 (some .long) rmX12_digest) (x0 : Nat) (s : Int32 × AH) (res : (Int32 × AH) ⊕ ((AH))) (hf : f_X12_digest_L275 x0 s = some res) (K0 : ∀ (u1 : Int32) (hu : AH), res = .inl (u1, hu) → PT X 3 0 0 275 [(0, .ref x0), (1, .int u1)] [] hu) (K1 : ∀ (hu : AH), res = .inr (hu) → PT X 3 0 0 300 [(0, .ref x0)] [] hu) : PT X 3 0 0 275 [(0, .ref x0), (1, .int s.1)] [] s.2 := by
  unfold f_X12_digest_L275 at hf
  refine pt_iload_n C 1 rfl rfl dX12_digest_275 ?_
  refine pt_aload_n C 0 rfl rfl dX12_digest_276 ?_
  refine ob hf (fun v130 g131 hf => ?_)
  refine pt_getI C kX12 16 (by decide) tw_932 (Or.inl rfl) g131 dX12_digest_277 ?_
  refine pt_icmp_ge C (tgt := 300) (by decide) dX12_digest_280 (fun c132 => ?_) (fun c132 => ?_)
  · rw [if_pos c132] at hf
    refine pt_sub C [(0, .ref x0)] [0] rfl ?_
    exact K1 _ (Option.some.inj hf).symm
  · rw [if_neg c132] at hf
    refine pt_aload_n C 0 rfl rfl dX12_digest_283 ?_
    refine pt_aload_n C 0 rfl rfl dX12_digest_284 ?_
    refine ob hf (fun v133 g134 hf => ?_)
    refine pt_getR C kX12 18 (by decide) tw_934 (Or.inl rfl) g134 dX12_digest_285 ?_
    refine pt_iload_n C 1 rfl rfl dX12_digest_288 ?_
    refine ob hf (fun v135 g136 hf => ?_)
    refine pt_iald C g136 dX12_digest_289 ?_
    refine pt_i2l C dX12_digest_290 ?_
    refine ob hf (fun _ g139 hf => ?_)
    refine ob hf (fun q137 g138 hf => ?_)
    refine pt_callV C (As := [.long v135.toInt64]) (rest := []) (v := none) (fun l => con_X12_note l x0 v135.toInt64 s.2 _ g138) tw_1304 tw_1301 tw_1303 tp_42 kX12 g139 tw_13 yn_X12_note (by decide) (Nat.le_of_ble_eq_true rfl) dX12_digest_291 rfl ?_
    show PT X 3 0 0 294 [(0, .ref x0), (1, .int s.1)] [] q137
    refine pt_iinc C 1 [(1, .int (s.1 + 1)), (0, .ref x0)] rfl (iinc_eq s.1 (by decide)) (by decide) rfl dX12_digest_294 ?_
    refine pt_goto C (tgt := 275) (by decide) dX12_digest_297 ?_
    refine pt_sub C [(0, .ref x0), (1, .int (s.1 + 1))] [1, 0] rfl ?_
    exact K0 _ _ (Option.some.inj hf).symm
theorem l_X12_digest_L275 {X : MX} (C : CX X cX12_digest 3 RX12 (some .long) rmX12_digest) (x0 : Nat) : ∀ (n : Nat) (s : Int32 × AH) (r : (AH)), iter (f_X12_digest_L275 x0) n s = some r → (fun r : (AH) => PT X 3 0 0 300 [(0, .ref x0)] [] r) r → PT X 3 0 0 275 [(0, .ref x0), (1, .int s.1)] [] s.2 :=
  iter_W (fun s : Int32 × AH => PT X 3 0 0 275 [(0, .ref x0), (1, .int s.1)] [] s.2) (fun r : (AH) => PT X 3 0 0 300 [(0, .ref x0)] [] r) _ (fun s s2 hf P => w_X12_digest_L275 C x0 s _ hf (fun u1 hu e => by cases e; exact P) (fun hu e => by cases e)) (fun s r hf P => w_X12_digest_L275 C x0 s _ hf (fun u1 hu e => by cases e) (fun hu e => by cases e; exact P))
set_option maxRecDepth 100000 in
set_option maxHeartbeats 4000000 in
theorem w_X12_digest_L302 {X : MX} (C : CX X cX12_digest 3 RX12 (some .long) rmX12_digest) (x0 : Nat) (s : Int32 × AH) (res : (Int32 × AH) ⊕ ((AH))) (hf : f_X12_digest_L302 x0 s = some res) (K0 : ∀ (u1 : Int32) (hu : AH), res = .inl (u1, hu) → PT X 3 0 0 302 [(0, .ref x0), (1, .int u1)] [] hu) (K1 : ∀ (hu : AH), res = .inr (hu) → PT X 3 0 0 349 [(0, .ref x0)] [] hu) : PT X 3 0 0 302 [(0, .ref x0), (1, .int s.1)] [] s.2 := by
  unfold f_X12_digest_L302 at hf
  refine pt_iload_n C 1 rfl rfl dX12_digest_302 ?_
  refine pt_aload_n C 0 rfl rfl dX12_digest_303 ?_
  refine ob hf (fun v142 g143 hf => ?_)
  refine pt_getI C kX12 22 (by decide) tw_938 (Or.inl rfl) g143 dX12_digest_304 ?_
  refine pt_icmp_ge C (tgt := 349) (by decide) dX12_digest_307 (fun c144 => ?_) (fun c144 => ?_)
  · rw [if_pos c144] at hf
    refine pt_sub C [(0, .ref x0)] [0] rfl ?_
    exact K1 _ (Option.some.inj hf).symm
  · rw [if_neg c144] at hf
    refine pt_aload_n C 0 rfl rfl dX12_digest_310 ?_
    refine pt_aload_n C 0 rfl rfl dX12_digest_311 ?_
    refine ob hf (fun v145 g146 hf => ?_)
    refine pt_getR C kX12 23 (by decide) tw_939 (Or.inl rfl) g146 dX12_digest_312 ?_
    refine pt_iload_n C 1 rfl rfl dX12_digest_315 ?_
    refine ob hf (fun v147 g148 hf => ?_)
    refine pt_iald C g148 dX12_digest_316 ?_
    refine pt_i2l C dX12_digest_317 ?_
    refine ob hf (fun _ g151 hf => ?_)
    refine ob hf (fun q149 g150 hf => ?_)
    refine pt_callV C (As := [.long v147.toInt64]) (rest := []) (v := none) (fun l => con_X12_note l x0 v147.toInt64 s.2 _ g150) tw_1304 tw_1301 tw_1303 tp_42 kX12 g151 tw_13 yn_X12_note (by decide) (Nat.le_of_ble_eq_true rfl) dX12_digest_318 rfl ?_
    show PT X 3 0 0 321 [(0, .ref x0), (1, .int s.1)] [] q149
    refine pt_aload_n C 0 rfl rfl dX12_digest_321 ?_
    refine pt_aload_n C 0 rfl rfl dX12_digest_322 ?_
    refine ob hf (fun v152 g153 hf => ?_)
    refine pt_getR C kX12 24 (by decide) tw_940 (Or.inl rfl) g153 dX12_digest_323 ?_
    refine pt_iload_n C 1 rfl rfl dX12_digest_326 ?_
    refine ob hf (fun v154 g155 hf => ?_)
    refine pt_iald C g155 dX12_digest_327 ?_
    refine pt_i2l C dX12_digest_328 ?_
    refine ob hf (fun _ g158 hf => ?_)
    refine ob hf (fun q156 g157 hf => ?_)
    refine pt_callV C (As := [.long v154.toInt64]) (rest := []) (v := none) (fun l => con_X12_note l x0 v154.toInt64 q149 _ g157) tw_1304 tw_1301 tw_1303 tp_42 kX12 g158 tw_13 yn_X12_note (by decide) (Nat.le_of_ble_eq_true rfl) dX12_digest_329 rfl ?_
    show PT X 3 0 0 332 [(0, .ref x0), (1, .int s.1)] [] q156
    refine pt_aload_n C 0 rfl rfl dX12_digest_332 ?_
    refine pt_aload_n C 0 rfl rfl dX12_digest_333 ?_
    refine ob hf (fun v159 g160 hf => ?_)
    refine pt_getR C kX12 25 (by decide) tw_941 (Or.inl rfl) g160 dX12_digest_334 ?_
    refine pt_iload_n C 1 rfl rfl dX12_digest_337 ?_
    refine ob hf (fun v161 g162 hf => ?_)
    refine pt_iald C g162 dX12_digest_338 ?_
    refine pt_i2l C dX12_digest_339 ?_
    refine ob hf (fun _ g165 hf => ?_)
    refine ob hf (fun q163 g164 hf => ?_)
    refine pt_callV C (As := [.long v161.toInt64]) (rest := []) (v := none) (fun l => con_X12_note l x0 v161.toInt64 q156 _ g164) tw_1304 tw_1301 tw_1303 tp_42 kX12 g165 tw_13 yn_X12_note (by decide) (Nat.le_of_ble_eq_true rfl) dX12_digest_340 rfl ?_
    show PT X 3 0 0 343 [(0, .ref x0), (1, .int s.1)] [] q163
    refine pt_iinc C 1 [(1, .int (s.1 + 1)), (0, .ref x0)] rfl (iinc_eq s.1 (by decide)) (by decide) rfl dX12_digest_343 ?_
    refine pt_goto C (tgt := 302) (by decide) dX12_digest_346 ?_
    refine pt_sub C [(0, .ref x0), (1, .int (s.1 + 1))] [1, 0] rfl ?_
    exact K0 _ _ (Option.some.inj hf).symm
theorem l_X12_digest_L302 {X : MX} (C : CX X cX12_digest 3 RX12 (some .long) rmX12_digest) (x0 : Nat) : ∀ (n : Nat) (s : Int32 × AH) (r : (AH)), iter (f_X12_digest_L302 x0) n s = some r → (fun r : (AH) => PT X 3 0 0 349 [(0, .ref x0)] [] r) r → PT X 3 0 0 302 [(0, .ref x0), (1, .int s.1)] [] s.2 :=
  iter_W (fun s : Int32 × AH => PT X 3 0 0 302 [(0, .ref x0), (1, .int s.1)] [] s.2) (fun r : (AH) => PT X 3 0 0 349 [(0, .ref x0)] [] r) _ (fun s s2 hf P => w_X12_digest_L302 C x0 s _ hf (fun u1 hu e => by cases e; exact P) (fun hu e => by cases e)) (fun s r hf P => w_X12_digest_L302 C x0 s _ hf (fun u1 hu e => by cases e) (fun hu e => by cases e; exact P))
set_option maxRecDepth 100000 in
set_option maxHeartbeats 4000000 in
theorem w_X12_digest_L351 {X : MX} (C : CX X cX12_digest 3 RX12 (some .long) rmX12_digest) (x0 : Nat) (s : Int32 × AH) (res : (Int32 × AH) ⊕ ((AH))) (hf : f_X12_digest_L351 x0 s = some res) (K0 : ∀ (u1 : Int32) (hu : AH), res = .inl (u1, hu) → PT X 3 0 0 351 [(0, .ref x0), (1, .int u1)] [] hu) (K1 : ∀ (hu : AH), res = .inr (hu) → PT X 3 0 0 387 [(0, .ref x0)] [] hu) : PT X 3 0 0 351 [(0, .ref x0), (1, .int s.1)] [] s.2 := by
  unfold f_X12_digest_L351 at hf
  refine pt_iload_n C 1 rfl rfl dX12_digest_351 ?_
  refine pt_aload_n C 0 rfl rfl dX12_digest_352 ?_
  refine ob hf (fun v168 g169 hf => ?_)
  refine pt_getI C kX12 30 (by decide) tw_946 (Or.inl rfl) g169 dX12_digest_353 ?_
  refine pt_icmp_ge C (tgt := 387) (by decide) dX12_digest_356 (fun c170 => ?_) (fun c170 => ?_)
  · rw [if_pos c170] at hf
    refine pt_sub C [(0, .ref x0)] [0] rfl ?_
    exact K1 _ (Option.some.inj hf).symm
  · rw [if_neg c170] at hf
    refine pt_aload_n C 0 rfl rfl dX12_digest_359 ?_
    refine pt_aload_n C 0 rfl rfl dX12_digest_360 ?_
    refine ob hf (fun v171 g172 hf => ?_)
    refine pt_getR C kX12 31 (by decide) tw_947 (Or.inl rfl) g172 dX12_digest_361 ?_
    refine pt_iload_n C 1 rfl rfl dX12_digest_364 ?_
    refine ob hf (fun v173 g174 hf => ?_)
    refine pt_iald C g174 dX12_digest_365 ?_
    refine pt_i2l C dX12_digest_366 ?_
    refine ob hf (fun _ g177 hf => ?_)
    refine ob hf (fun q175 g176 hf => ?_)
    refine pt_callV C (As := [.long v173.toInt64]) (rest := []) (v := none) (fun l => con_X12_note l x0 v173.toInt64 s.2 _ g176) tw_1304 tw_1301 tw_1303 tp_42 kX12 g177 tw_13 yn_X12_note (by decide) (Nat.le_of_ble_eq_true rfl) dX12_digest_367 rfl ?_
    show PT X 3 0 0 370 [(0, .ref x0), (1, .int s.1)] [] q175
    refine pt_aload_n C 0 rfl rfl dX12_digest_370 ?_
    refine pt_aload_n C 0 rfl rfl dX12_digest_371 ?_
    refine ob hf (fun v178 g179 hf => ?_)
    refine pt_getR C kX12 32 (by decide) tw_948 (Or.inl rfl) g179 dX12_digest_372 ?_
    refine pt_iload_n C 1 rfl rfl dX12_digest_375 ?_
    refine ob hf (fun v180 g181 hf => ?_)
    refine pt_iald C g181 dX12_digest_376 ?_
    refine pt_i2l C dX12_digest_377 ?_
    refine ob hf (fun _ g184 hf => ?_)
    refine ob hf (fun q182 g183 hf => ?_)
    refine pt_callV C (As := [.long v180.toInt64]) (rest := []) (v := none) (fun l => con_X12_note l x0 v180.toInt64 q175 _ g183) tw_1304 tw_1301 tw_1303 tp_42 kX12 g184 tw_13 yn_X12_note (by decide) (Nat.le_of_ble_eq_true rfl) dX12_digest_378 rfl ?_
    show PT X 3 0 0 381 [(0, .ref x0), (1, .int s.1)] [] q182
    refine pt_iinc C 1 [(1, .int (s.1 + 1)), (0, .ref x0)] rfl (iinc_eq s.1 (by decide)) (by decide) rfl dX12_digest_381 ?_
    refine pt_goto C (tgt := 351) (by decide) dX12_digest_384 ?_
    refine pt_sub C [(0, .ref x0), (1, .int (s.1 + 1))] [1, 0] rfl ?_
    exact K0 _ _ (Option.some.inj hf).symm
theorem l_X12_digest_L351 {X : MX} (C : CX X cX12_digest 3 RX12 (some .long) rmX12_digest) (x0 : Nat) : ∀ (n : Nat) (s : Int32 × AH) (r : (AH)), iter (f_X12_digest_L351 x0) n s = some r → (fun r : (AH) => PT X 3 0 0 387 [(0, .ref x0)] [] r) r → PT X 3 0 0 351 [(0, .ref x0), (1, .int s.1)] [] s.2 :=
  iter_W (fun s : Int32 × AH => PT X 3 0 0 351 [(0, .ref x0), (1, .int s.1)] [] s.2) (fun r : (AH) => PT X 3 0 0 387 [(0, .ref x0)] [] r) _ (fun s s2 hf P => w_X12_digest_L351 C x0 s _ hf (fun u1 hu e => by cases e; exact P) (fun hu e => by cases e)) (fun s r hf P => w_X12_digest_L351 C x0 s _ hf (fun u1 hu e => by cases e) (fun hu e => by cases e; exact P))
set_option maxRecDepth 100000 in
set_option maxHeartbeats 4000000 in
theorem w_X12_digest_L389 {X : MX} (C : CX X cX12_digest 3 RX12 (some .long) rmX12_digest) (x0 : Nat) (s : Int32 × AH) (res : (Int32 × AH) ⊕ ((AH))) (hf : f_X12_digest_L389 x0 s = some res) (K0 : ∀ (u1 : Int32) (hu : AH), res = .inl (u1, hu) → PT X 3 0 0 389 [(0, .ref x0), (1, .int u1)] [] hu) (K1 : ∀ (hu : AH), res = .inr (hu) → PT X 3 0 0 425 [(0, .ref x0)] [] hu) : PT X 3 0 0 389 [(0, .ref x0), (1, .int s.1)] [] s.2 := by
  unfold f_X12_digest_L389 at hf
  refine pt_iload_n C 1 rfl rfl dX12_digest_389 ?_
  refine pt_aload_n C 0 rfl rfl dX12_digest_390 ?_
  refine ob hf (fun v187 g188 hf => ?_)
  refine pt_getI C kX12 35 (by decide) tw_951 (Or.inl rfl) g188 dX12_digest_391 ?_
  refine pt_icmp_ge C (tgt := 425) (by decide) dX12_digest_394 (fun c189 => ?_) (fun c189 => ?_)
  · rw [if_pos c189] at hf
    refine pt_sub C [(0, .ref x0)] [0] rfl ?_
    exact K1 _ (Option.some.inj hf).symm
  · rw [if_neg c189] at hf
    refine pt_aload_n C 0 rfl rfl dX12_digest_397 ?_
    refine pt_aload_n C 0 rfl rfl dX12_digest_398 ?_
    refine ob hf (fun v190 g191 hf => ?_)
    refine pt_getR C kX12 36 (by decide) tw_952 (Or.inl rfl) g191 dX12_digest_399 ?_
    refine pt_iload_n C 1 rfl rfl dX12_digest_402 ?_
    refine ob hf (fun v192 g193 hf => ?_)
    refine pt_iald C g193 dX12_digest_403 ?_
    refine pt_i2l C dX12_digest_404 ?_
    refine ob hf (fun _ g196 hf => ?_)
    refine ob hf (fun q194 g195 hf => ?_)
    refine pt_callV C (As := [.long v192.toInt64]) (rest := []) (v := none) (fun l => con_X12_note l x0 v192.toInt64 s.2 _ g195) tw_1304 tw_1301 tw_1303 tp_42 kX12 g196 tw_13 yn_X12_note (by decide) (Nat.le_of_ble_eq_true rfl) dX12_digest_405 rfl ?_
    show PT X 3 0 0 408 [(0, .ref x0), (1, .int s.1)] [] q194
    refine pt_aload_n C 0 rfl rfl dX12_digest_408 ?_
    refine pt_aload_n C 0 rfl rfl dX12_digest_409 ?_
    refine ob hf (fun v197 g198 hf => ?_)
    refine pt_getR C kX12 37 (by decide) tw_953 (Or.inl rfl) g198 dX12_digest_410 ?_
    refine pt_iload_n C 1 rfl rfl dX12_digest_413 ?_
    refine ob hf (fun v199 g200 hf => ?_)
    refine pt_iald C g200 dX12_digest_414 ?_
    refine pt_i2l C dX12_digest_415 ?_
    refine ob hf (fun _ g203 hf => ?_)
    refine ob hf (fun q201 g202 hf => ?_)
    refine pt_callV C (As := [.long v199.toInt64]) (rest := []) (v := none) (fun l => con_X12_note l x0 v199.toInt64 q194 _ g202) tw_1304 tw_1301 tw_1303 tp_42 kX12 g203 tw_13 yn_X12_note (by decide) (Nat.le_of_ble_eq_true rfl) dX12_digest_416 rfl ?_
    show PT X 3 0 0 419 [(0, .ref x0), (1, .int s.1)] [] q201
    refine pt_iinc C 1 [(1, .int (s.1 + 1)), (0, .ref x0)] rfl (iinc_eq s.1 (by decide)) (by decide) rfl dX12_digest_419 ?_
    refine pt_goto C (tgt := 389) (by decide) dX12_digest_422 ?_
    refine pt_sub C [(0, .ref x0), (1, .int (s.1 + 1))] [1, 0] rfl ?_
    exact K0 _ _ (Option.some.inj hf).symm
theorem l_X12_digest_L389 {X : MX} (C : CX X cX12_digest 3 RX12 (some .long) rmX12_digest) (x0 : Nat) : ∀ (n : Nat) (s : Int32 × AH) (r : (AH)), iter (f_X12_digest_L389 x0) n s = some r → (fun r : (AH) => PT X 3 0 0 425 [(0, .ref x0)] [] r) r → PT X 3 0 0 389 [(0, .ref x0), (1, .int s.1)] [] s.2 :=
  iter_W (fun s : Int32 × AH => PT X 3 0 0 389 [(0, .ref x0), (1, .int s.1)] [] s.2) (fun r : (AH) => PT X 3 0 0 425 [(0, .ref x0)] [] r) _ (fun s s2 hf P => w_X12_digest_L389 C x0 s _ hf (fun u1 hu e => by cases e; exact P) (fun hu e => by cases e)) (fun s r hf P => w_X12_digest_L389 C x0 s _ hf (fun u1 hu e => by cases e) (fun hu e => by cases e; exact P))
set_option maxRecDepth 100000 in
set_option maxHeartbeats 4000000 in
theorem w_X12_digest_0 {X : MX} (C : CX X cX12_digest 3 RX12 (some .long) rmX12_digest) (a0 : Nat) (h : AH) (res : Int64 × AH) (hf : f_X12_digest a0 h = some res) (K : ∀ (v : Int64) (h2 : AH), res = (v, h2) → PR X rmX12_digest (some (.long v)) h2) : PT X 3 0 0 0 [(0, .ref a0)] [] h := by
  unfold f_X12_digest at hf
  refine pt_aload_n C 0 rfl rfl dX12_digest_0 ?_
  refine pt_ldc2 C tw_1299 dX12_digest_1 ?_
  refine ob hf (fun h1 g2 hf => ?_)
  refine pt_put C kX12 46 (by decide) tw_962 (Or.inl rfl) rfl rfl rfl g2 dX12_digest_4 ?_
  refine pt_iconst C (v := 0) (by decide) dX12_digest_7 ?_
  refine pt_istore_n C [(1, .int 0), (0, .ref a0)] rfl (by decide) rfl dX12_digest_8 ?_
  refine pt_sub C [(0, .ref a0), (1, .int 0)] [1, 0] rfl ?_
  refine ob hf (fun e10 g11 hf => ?_)
  refine l_X12_digest_L9 C a0 _ _ _ g11 ?_
  refine pt_iconst C (v := 0) (by decide) dX12_digest_31 ?_
  refine pt_istore_n C [(1, .int 0), (0, .ref a0)] rfl (by decide) rfl dX12_digest_32 ?_
  refine pt_sub C [(0, .ref a0), (1, .int 0)] [1, 0] rfl ?_
  refine ob hf (fun e22 g23 hf => ?_)
  refine l_X12_digest_L33 C a0 _ _ _ g23 ?_
  refine pt_iconst C (v := 0) (by decide) dX12_digest_58 ?_
  refine pt_istore_n C [(1, .int 0), (0, .ref a0)] rfl (by decide) rfl dX12_digest_59 ?_
  refine pt_sub C [(0, .ref a0), (1, .int 0)] [1, 0] rfl ?_
  refine ob hf (fun e69 g70 hf => ?_)
  refine l_X12_digest_L60 C a0 _ _ _ g70 ?_
  refine pt_iconst C (v := 0) (by decide) dX12_digest_164 ?_
  refine pt_istore_n C [(1, .int 0), (0, .ref a0)] rfl (by decide) rfl dX12_digest_165 ?_
  refine pt_sub C [(0, .ref a0), (1, .int 0)] [1, 0] rfl ?_
  refine ob hf (fun e116 g117 hf => ?_)
  refine l_X12_digest_L166 C a0 _ _ _ g117 ?_
  refine pt_iconst C (v := 0) (by decide) dX12_digest_246 ?_
  refine pt_istore_n C [(1, .int 0), (0, .ref a0)] rfl (by decide) rfl dX12_digest_247 ?_
  refine pt_sub C [(0, .ref a0), (1, .int 0)] [1, 0] rfl ?_
  refine ob hf (fun e128 g129 hf => ?_)
  refine l_X12_digest_L248 C a0 _ _ _ g129 ?_
  refine pt_iconst C (v := 0) (by decide) dX12_digest_273 ?_
  refine pt_istore_n C [(1, .int 0), (0, .ref a0)] rfl (by decide) rfl dX12_digest_274 ?_
  refine pt_sub C [(0, .ref a0), (1, .int 0)] [1, 0] rfl ?_
  refine ob hf (fun e140 g141 hf => ?_)
  refine l_X12_digest_L275 C a0 _ _ _ g141 ?_
  refine pt_iconst C (v := 0) (by decide) dX12_digest_300 ?_
  refine pt_istore_n C [(1, .int 0), (0, .ref a0)] rfl (by decide) rfl dX12_digest_301 ?_
  refine pt_sub C [(0, .ref a0), (1, .int 0)] [1, 0] rfl ?_
  refine ob hf (fun e166 g167 hf => ?_)
  refine l_X12_digest_L302 C a0 _ _ _ g167 ?_
  refine pt_iconst C (v := 0) (by decide) dX12_digest_349 ?_
  refine pt_istore_n C [(1, .int 0), (0, .ref a0)] rfl (by decide) rfl dX12_digest_350 ?_
  refine pt_sub C [(0, .ref a0), (1, .int 0)] [1, 0] rfl ?_
  refine ob hf (fun e185 g186 hf => ?_)
  refine l_X12_digest_L351 C a0 _ _ _ g186 ?_
  refine pt_iconst C (v := 0) (by decide) dX12_digest_387 ?_
  refine pt_istore_n C [(1, .int 0), (0, .ref a0)] rfl (by decide) rfl dX12_digest_388 ?_
  refine pt_sub C [(0, .ref a0), (1, .int 0)] [1, 0] rfl ?_
  refine ob hf (fun e204 g205 hf => ?_)
  refine l_X12_digest_L389 C a0 _ _ _ g205 ?_
  refine pt_aload_n C 0 rfl rfl dX12_digest_425 ?_
  refine ob hf (fun v206 g207 hf => ?_)
  refine pt_getJ C kX12 46 (by decide) tw_962 (Or.inl rfl) g207 dX12_digest_426 ?_
  exact pt_lret C (K _ _ (Option.some.inj hf).symm) (by decide) (by decide) dX12_digest_429
theorem con_X12_digest (l : Launch) (a0 : Nat) (h : AH) (q : Int64 × AH) (hf : f_X12_digest a0 h = some q) : Con l yX12_digest cX12_digest 3 (some .long) rmX12_digest [.ref a0] h (some (.long q.1)) q.2 := Con.of (by decide +kernel) (Nat.le_of_ble_eq_true rfl) (fun X C I K => w_X12_digest_0 C a0 h q hf (fun v h2 e => by cases e; exact K))
abbrev rmX12_isSung : Room := { frames := 0, cells := 0, slots := 0, locals := 0 }
theorem yn_X12_isSung : YN yX12_isSung 1 := by refine ⟨?_, ?_, ?_⟩ <;> decide +kernel
set_option maxRecDepth 100000 in
set_option maxHeartbeats 4000000 in
theorem w_X12_isSung_0 {X : MX} (C : CX X cX12_isSung 1 RX12 (some .boolean) rmX12_isSung) (a0 : Int32) (h : AH) (res : Int32 × AH) (hf : f_X12_isSung a0 h = some res) (K : ∀ (v : Int32) (h2 : AH), res = (v, h2) → PR X rmX12_isSung (some (.int v)) h2) : PT X 1 0 0 0 [(0, .int a0)] [] h := by
  unfold f_X12_isSung at hf
  refine pt_iload_n C 0 rfl rfl dX12_isSung_0 ?_
  refine pt_iconst C (v := 1) (by decide) dX12_isSung_1 ?_
  refine pt_icmp_eq C (tgt := 10) (by decide) dX12_isSung_2 (fun c1 => ?_) (fun c1 => ?_)
  · rw [if_pos c1] at hf
    refine pt_iconst C (v := 1) (by decide) dX12_isSung_10 ?_
    refine pt_goto C (tgt := 15) (by decide) dX12_isSung_11 ?_
    exact pt_zret C (by decide) (K _ _ (Option.some.inj hf).symm) (by decide) (by decide) dX12_isSung_15
  · rw [if_neg c1] at hf
    refine pt_iload_n C 0 rfl rfl dX12_isSung_5 ?_
    refine pt_iconst C (v := 2) (by decide) dX12_isSung_6 ?_
    refine pt_icmp_ne C (tgt := 14) (by decide) dX12_isSung_7 (fun c2 => ?_) (fun c2 => ?_)
    · rw [if_neg c2] at hf
      refine pt_iconst C (v := 0) (by decide) dX12_isSung_14 ?_
      exact pt_zret C (by decide) (K _ _ (Option.some.inj hf).symm) (by decide) (by decide) dX12_isSung_15
    · rw [if_pos c2] at hf
      refine pt_iconst C (v := 1) (by decide) dX12_isSung_10 ?_
      refine pt_goto C (tgt := 15) (by decide) dX12_isSung_11 ?_
      exact pt_zret C (by decide) (K _ _ (Option.some.inj hf).symm) (by decide) (by decide) dX12_isSung_15
theorem con_X12_isSung (l : Launch) (a0 : Int32) (h : AH) (q : Int32 × AH) (hf : f_X12_isSung a0 h = some q) : Con l yX12_isSung cX12_isSung 1 (some .boolean) rmX12_isSung [.int a0] h (some (.int q.1)) q.2 := Con.of (by decide +kernel) (Nat.le_of_ble_eq_true rfl) (fun X C I K => w_X12_isSung_0 C a0 h q hf (fun v h2 e => by cases e; exact K))
abbrev rmX12_sungFrom : Room := { frames := 1, cells := 0, slots := 0, locals := 20 }
theorem yn_X12_sungFrom : YN yX12_sungFrom 2 := by refine ⟨?_, ?_, ?_⟩ <;> decide +kernel
set_option maxRecDepth 100000 in
set_option maxHeartbeats 4000000 in
theorem w_X12_sungFrom_L2 {X : MX} (C : CX X cX12_sungFrom 4 RX12 (some .int) rmX12_sungFrom) (x0 : Nat) (x1 : Int32) (s : Int32 × AH) (res : (Int32 × AH) ⊕ ((Int32 × AH))) (hf : f_X12_sungFrom_L2 x0 x1 s = some res) (K0 : ∀ (u3 : Int32) (hu : AH), res = .inl (u3, hu) → PT X 4 0 0 2 [(0, .ref x0), (1, .int x1), (3, .int u3)] [] hu) (K1 : ∀ (u3 : Int32) (hu : AH), res = .inr ((u3, hu)) → PT X 4 0 0 35 [(3, .int u3)] [] hu) : PT X 4 0 0 2 [(0, .ref x0), (1, .int x1), (3, .int s.1)] [] s.2 := by
  unfold f_X12_sungFrom_L2 at hf
  refine pt_iload_n C 2 rfl rfl dX12_sungFrom_2 ?_
  refine pt_aload_n C 0 rfl rfl dX12_sungFrom_3 ?_
  refine ob hf (fun v1 g2 hf => ?_)
  refine pt_getR C kX12 1 (by decide) tw_917 (Or.inl rfl) g2 dX12_sungFrom_4 ?_
  refine pt_iload_n C 1 rfl rfl dX12_sungFrom_7 ?_
  refine ob hf (fun v3 g4 hf => ?_)
  refine pt_iald C g4 dX12_sungFrom_8 ?_
  refine pt_icmp_ge C (tgt := 35) (by decide) dX12_sungFrom_9 (fun c5 => ?_) (fun c5 => ?_)
  · rw [if_pos c5] at hf
    refine pt_sub C [(3, .int s.1)] [2] rfl ?_
    exact K1 _ _ (Option.some.inj hf).symm
  · rw [if_neg c5] at hf
    refine pt_aload_n C 0 rfl rfl dX12_sungFrom_12 ?_
    refine ob hf (fun v6 g7 hf => ?_)
    refine pt_getR C kX12 3 (by decide) tw_919 (Or.inl rfl) g7 dX12_sungFrom_13 ?_
    refine pt_bipush C (v := 24) (by decide) dX12_sungFrom_16 ?_
    refine pt_iload_n C 1 rfl rfl dX12_sungFrom_18 ?_
    refine pt_imul C dX12_sungFrom_19 ?_
    refine pt_iload_n C 2 rfl rfl dX12_sungFrom_20 ?_
    refine pt_iadd C dX12_sungFrom_21 ?_
    refine ob hf (fun v8 g9 hf => ?_)
    refine pt_iald C g9 dX12_sungFrom_22 ?_
    refine ob hf (fun q10 g11 hf => ?_)
    refine pt_callS C (As := [.int v8]) (rest := []) (v := (some (.int q10.1))) (fun l => con_X12_isSung l v8 s.2 _ g11) tw_1217 tw_1215 tw_1216 tw_13 yn_X12_isSung (by decide) (Nat.le_of_ble_eq_true rfl) dX12_sungFrom_23 rfl ?_
    show PT X 4 0 0 26 [(0, .ref x0), (1, .int x1), (3, .int s.1)] [.int q10.1] q10.2
    refine pt_if_ne C (tgt := 35) (by decide) dX12_sungFrom_26 (fun c12 => ?_) (fun c12 => ?_)
    · rw [if_neg c12] at hf
      refine pt_sub C [(3, .int s.1)] [2] rfl ?_
      exact K1 _ _ (Option.some.inj hf).symm
    · rw [if_pos c12] at hf
      refine pt_iinc C 2 [(3, .int (s.1 + 1)), (0, .ref x0), (1, .int x1)] rfl (iinc_eq s.1 (by decide)) (by decide) rfl dX12_sungFrom_29 ?_
      refine pt_goto C (tgt := 2) (by decide) dX12_sungFrom_32 ?_
      refine pt_sub C [(0, .ref x0), (1, .int x1), (3, .int (s.1 + 1))] [1, 2, 0] rfl ?_
      exact K0 _ _ (Option.some.inj hf).symm
theorem l_X12_sungFrom_L2 {X : MX} (C : CX X cX12_sungFrom 4 RX12 (some .int) rmX12_sungFrom) (x0 : Nat) (x1 : Int32) : ∀ (n : Nat) (s : Int32 × AH) (r : (Int32 × AH)), iter (f_X12_sungFrom_L2 x0 x1) n s = some r → (fun r : (Int32 × AH) => PT X 4 0 0 35 [(3, .int r.1)] [] r.2) r → PT X 4 0 0 2 [(0, .ref x0), (1, .int x1), (3, .int s.1)] [] s.2 :=
  iter_W (fun s : Int32 × AH => PT X 4 0 0 2 [(0, .ref x0), (1, .int x1), (3, .int s.1)] [] s.2) (fun r : (Int32 × AH) => PT X 4 0 0 35 [(3, .int r.1)] [] r.2) _ (fun s s2 hf P => w_X12_sungFrom_L2 C x0 x1 s _ hf (fun u3 hu e => by cases e; exact P) (fun u3 hu e => by cases e)) (fun s r hf P => w_X12_sungFrom_L2 C x0 x1 s _ hf (fun u3 hu e => by cases e) (fun u3 hu e => by cases e; exact P))
set_option maxRecDepth 100000 in
set_option maxHeartbeats 4000000 in
theorem w_X12_sungFrom_0 {X : MX} (C : CX X cX12_sungFrom 4 RX12 (some .int) rmX12_sungFrom) (a0 : Nat) (a1 : Int32) (a2 : Int32) (h : AH) (res : Int32 × AH) (hf : f_X12_sungFrom a0 a1 a2 h = some res) (K : ∀ (v : Int32) (h2 : AH), res = (v, h2) → PR X rmX12_sungFrom (some (.int v)) h2) : PT X 4 0 0 0 [(0, .ref a0), (1, .int a1), (2, .int a2)] [] h := by
  unfold f_X12_sungFrom at hf
  refine pt_iload_n C 2 rfl rfl dX12_sungFrom_0 ?_
  refine pt_istore_n C [(3, .int a2), (0, .ref a0), (1, .int a1), (2, .int a2)] rfl (by decide) rfl dX12_sungFrom_1 ?_
  refine pt_sub C [(0, .ref a0), (1, .int a1), (3, .int a2)] [1, 2, 0] rfl ?_
  refine ob hf (fun e13 g14 hf => ?_)
  refine l_X12_sungFrom_L2 C a0 a1 _ _ _ g14 ?_
  refine pt_iload_n C 0 rfl rfl dX12_sungFrom_35 ?_
  exact pt_iret C (K _ _ (Option.some.inj hf).symm) (by decide) (by decide) dX12_sungFrom_36
theorem con_X12_sungFrom (l : Launch) (a0 : Nat) (a1 : Int32) (a2 : Int32) (h : AH) (q : Int32 × AH) (hf : f_X12_sungFrom a0 a1 a2 h = some q) : Con l yX12_sungFrom cX12_sungFrom 4 (some .int) rmX12_sungFrom [.ref a0, .int a1, .int a2] h (some (.int q.1)) q.2 := Con.of (by decide +kernel) (Nat.le_of_ble_eq_true rfl) (fun X C I K => w_X12_sungFrom_0 C a0 a1 a2 h q hf (fun v h2 e => by cases e; exact K))
abbrev rmX12_wrongOf : Room := { frames := 1, cells := 0, slots := 0, locals := 20 }
theorem yn_X12_wrongOf : YN yX12_wrongOf 3 := by refine ⟨?_, ?_, ?_⟩ <;> decide +kernel
set_option maxRecDepth 100000 in
set_option maxHeartbeats 4000000 in
theorem w_X12_wrongOf_L25_J116 {X : MX} (C : CX X cX12_wrongOf 8 RX12 (some .int) rmX12_wrongOf) (x0 : Nat) (x1 : Int32) (x2 : Int32) (x3 : Int32) (y5 : Int32) (z0 : Int32) (z1 : Int32) (h : AH) (res : (Int32 × Int32 × AH) ⊕ ((Int32 × AH) ⊕ (AH))) (hf : f_X12_wrongOf_L25_J116 x0 x1 x2 x3 y5 z0 z1 h = some res) (K0 : ∀ (u4 : Int32) (u5 : Int32) (hu : AH), res = .inl (u4, u5, hu) → PT X 8 0 0 25 [(0, .ref x0), (1, .int x1), (2, .int x2), (3, .int x3), (4, .int u4), (5, .int u5)] [] hu) (K1 : ∀ (u4 : Int32) (hu : AH), res = .inr (.inl ((u4, hu))) → PT X 8 0 0 128 [(4, .int u4)] [] hu) (K2 : ∀ (hu : AH), res = .inr (.inr (hu)) → PT X 8 0 0 60 [] [] hu) : PT X 8 0 0 116 [(0, .ref x0), (1, .int x1), (2, .int x2), (3, .int x3), (5, .int y5)] [.int z0, .int z1] h := by
  unfold f_X12_wrongOf_L25_J116 at hf
  refine ob hf (fun q33 g34 hf => ?_)
  refine pt_callS C (As := [.int z0]) (rest := [.int z1]) (v := (some (.int q33.1))) (fun l => con_X12_bit l z0 h _ g34) tw_1127 tw_1125 tw_1126 tw_13 yn_X12_bit (by decide) (Nat.le_of_ble_eq_true rfl) dX12_wrongOf_116 rfl ?_
  show PT X 8 0 0 119 [(0, .ref x0), (1, .int x1), (2, .int x2), (3, .int x3), (5, .int y5)] [.int q33.1, .int z1] q33.2
  refine pt_iadd C dX12_wrongOf_119 ?_
  refine pt_istore C [(4, .int (z1 + q33.1)), (0, .ref x0), (1, .int x1), (2, .int x2), (3, .int x3), (5, .int y5)] (by decide) rfl dX12_wrongOf_120 ?_
  refine pt_iinc C 5 [(5, .int (y5 + 1)), (4, .int (z1 + q33.1)), (0, .ref x0), (1, .int x1), (2, .int x2), (3, .int x3)] rfl (iinc_eq y5 (by decide)) (by decide) rfl dX12_wrongOf_122 ?_
  refine pt_goto C (tgt := 25) (by decide) dX12_wrongOf_125 ?_
  refine pt_sub C [(0, .ref x0), (1, .int x1), (2, .int x2), (3, .int x3), (4, .int (z1 + q33.1)), (5, .int (y5 + 1))] [2, 3, 4, 5, 1, 0] rfl ?_
  exact K0 _ _ _ (Option.some.inj hf).symm
set_option maxRecDepth 100000 in
set_option maxHeartbeats 4000000 in
theorem w_X12_wrongOf_L25_J108 {X : MX} (C : CX X cX12_wrongOf 8 RX12 (some .int) rmX12_wrongOf) (x0 : Nat) (x1 : Int32) (x2 : Int32) (x3 : Int32) (y5 : Int32) (z0 : Int32) (z1 : Int32) (z2 : Int32) (h : AH) (res : (Int32 × Int32 × AH) ⊕ ((Int32 × AH) ⊕ (AH))) (hf : f_X12_wrongOf_L25_J108 x0 x1 x2 x3 y5 z0 z1 z2 h = some res) (K0 : ∀ (u4 : Int32) (u5 : Int32) (hu : AH), res = .inl (u4, u5, hu) → PT X 8 0 0 25 [(0, .ref x0), (1, .int x1), (2, .int x2), (3, .int x3), (4, .int u4), (5, .int u5)] [] hu) (K1 : ∀ (u4 : Int32) (hu : AH), res = .inr (.inl ((u4, hu))) → PT X 8 0 0 128 [(4, .int u4)] [] hu) (K2 : ∀ (hu : AH), res = .inr (.inr (hu)) → PT X 8 0 0 60 [] [] hu) : PT X 8 0 0 108 [(0, .ref x0), (1, .int x1), (2, .int x2), (3, .int x3), (5, .int y5)] [.int z0, .int z1, .int z2] h := by
  unfold f_X12_wrongOf_L25_J108 at hf
  refine pt_icmp_eq C (tgt := 115) (by decide) dX12_wrongOf_108 (fun c32 => ?_) (fun c32 => ?_)
  · rw [if_pos c32] at hf
    refine pt_iconst C (v := 0) (by decide) dX12_wrongOf_115 ?_
    exact w_X12_wrongOf_L25_J116 C x0 x1 x2 x3 y5 0 z2 h _ hf K0 K1 K2
  · rw [if_neg c32] at hf
    refine pt_iconst C (v := 1) (by decide) dX12_wrongOf_111 ?_
    refine pt_goto C (tgt := 116) (by decide) dX12_wrongOf_112 ?_
    exact w_X12_wrongOf_L25_J116 C x0 x1 x2 x3 y5 1 z2 h _ hf K0 K1 K2
set_option maxRecDepth 100000 in
set_option maxHeartbeats 4000000 in
theorem w_X12_wrongOf_L25_J97 {X : MX} (C : CX X cX12_wrongOf 8 RX12 (some .int) rmX12_wrongOf) (x0 : Nat) (x1 : Int32) (x2 : Int32) (x3 : Int32) (y5 : Int32) (y6 : Int32) (z0 : Int32) (z1 : Int32) (h : AH) (res : (Int32 × Int32 × AH) ⊕ ((Int32 × AH) ⊕ (AH))) (hf : f_X12_wrongOf_L25_J97 x0 x1 x2 x3 y5 y6 z0 z1 h = some res) (K0 : ∀ (u4 : Int32) (u5 : Int32) (hu : AH), res = .inl (u4, u5, hu) → PT X 8 0 0 25 [(0, .ref x0), (1, .int x1), (2, .int x2), (3, .int x3), (4, .int u4), (5, .int u5)] [] hu) (K1 : ∀ (u4 : Int32) (hu : AH), res = .inr (.inl ((u4, hu))) → PT X 8 0 0 128 [(4, .int u4)] [] hu) (K2 : ∀ (hu : AH), res = .inr (.inr (hu)) → PT X 8 0 0 60 [] [] hu) : PT X 8 0 0 97 [(0, .ref x0), (1, .int x1), (2, .int x2), (3, .int x3), (5, .int y5), (6, .int y6)] [.int z0, .int z1] h := by
  unfold f_X12_wrongOf_L25_J97 at hf
  refine pt_iload C 5 rfl dX12_wrongOf_97 ?_
  refine pt_iconst C (v := 2) (by decide) dX12_wrongOf_99 ?_
  refine pt_icmp_ne C (tgt := 107) (by decide) dX12_wrongOf_100 (fun c31 => ?_) (fun c31 => ?_)
  · rw [if_neg c31] at hf
    refine pt_iconst C (v := 0) (by decide) dX12_wrongOf_107 ?_
    refine pt_sub C [(0, .ref x0), (1, .int x1), (2, .int x2), (3, .int x3), (5, .int y5)] [0, 1, 2, 3, 4] rfl ?_
    exact w_X12_wrongOf_L25_J108 C x0 x1 x2 x3 y5 0 z0 z1 h _ hf K0 K1 K2
  · rw [if_pos c31] at hf
    refine pt_iconst C (v := 1) (by decide) dX12_wrongOf_103 ?_
    refine pt_goto C (tgt := 108) (by decide) dX12_wrongOf_104 ?_
    refine pt_sub C [(0, .ref x0), (1, .int x1), (2, .int x2), (3, .int x3), (5, .int y5)] [0, 1, 2, 3, 4] rfl ?_
    exact w_X12_wrongOf_L25_J108 C x0 x1 x2 x3 y5 1 z0 z1 h _ hf K0 K1 K2
set_option maxRecDepth 100000 in
set_option maxHeartbeats 4000000 in
theorem w_X12_wrongOf_L25 {X : MX} (C : CX X cX12_wrongOf 8 RX12 (some .int) rmX12_wrongOf) (x0 : Nat) (x1 : Int32) (x2 : Int32) (x3 : Int32) (s : Int32 × Int32 × AH) (res : (Int32 × Int32 × AH) ⊕ ((Int32 × AH) ⊕ (AH))) (hf : f_X12_wrongOf_L25 x0 x1 x2 x3 s = some res) (K0 : ∀ (u4 : Int32) (u5 : Int32) (hu : AH), res = .inl (u4, u5, hu) → PT X 8 0 0 25 [(0, .ref x0), (1, .int x1), (2, .int x2), (3, .int x3), (4, .int u4), (5, .int u5)] [] hu) (K1 : ∀ (u4 : Int32) (hu : AH), res = .inr (.inl ((u4, hu))) → PT X 8 0 0 128 [(4, .int u4)] [] hu) (K2 : ∀ (hu : AH), res = .inr (.inr (hu)) → PT X 8 0 0 60 [] [] hu) : PT X 8 0 0 25 [(0, .ref x0), (1, .int x1), (2, .int x2), (3, .int x3), (4, .int s.1), (5, .int s.2.1)] [] s.2.2 := by
  unfold f_X12_wrongOf_L25 at hf
  refine pt_iload C 5 rfl dX12_wrongOf_25 ?_
  refine pt_aload_n C 0 rfl rfl dX12_wrongOf_27 ?_
  refine ob hf (fun v10 g11 hf => ?_)
  refine pt_getR C kX12 31 (by decide) tw_947 (Or.inl rfl) g11 dX12_wrongOf_28 ?_
  refine pt_iload_n C 3 rfl rfl dX12_wrongOf_31 ?_
  refine ob hf (fun v12 g13 hf => ?_)
  refine pt_iald C g13 dX12_wrongOf_32 ?_
  refine pt_icmp_ge C (tgt := 128) (by decide) dX12_wrongOf_33 (fun c14 => ?_) (fun c14 => ?_)
  · rw [if_pos c14] at hf
    refine pt_sub C [(4, .int s.1)] [4] rfl ?_
    exact K1 _ _ (Option.some.inj hf).symm
  · rw [if_neg c14] at hf
    refine pt_aload_n C 0 rfl rfl dX12_wrongOf_36 ?_
    refine ob hf (fun v15 g16 hf => ?_)
    refine pt_getR C kX12 3 (by decide) tw_919 (Or.inl rfl) g16 dX12_wrongOf_37 ?_
    refine pt_bipush C (v := 24) (by decide) dX12_wrongOf_40 ?_
    refine pt_iload_n C 1 rfl rfl dX12_wrongOf_42 ?_
    refine pt_imul C dX12_wrongOf_43 ?_
    refine pt_iload_n C 2 rfl rfl dX12_wrongOf_44 ?_
    refine pt_iadd C dX12_wrongOf_45 ?_
    refine pt_iload C 5 rfl dX12_wrongOf_46 ?_
    refine pt_iadd C dX12_wrongOf_48 ?_
    refine ob hf (fun v17 g18 hf => ?_)
    refine pt_iald C g18 dX12_wrongOf_49 ?_
    refine pt_istore C [(6, .int v17), (0, .ref x0), (1, .int x1), (2, .int x2), (3, .int x3), (4, .int s.1), (5, .int s.2.1)] (by decide) rfl dX12_wrongOf_50 ?_
    refine pt_iload C 0 rfl dX12_wrongOf_52 ?_
    refine ob hf (fun q19 g20 hf => ?_)
    refine pt_callS C (As := [.int v17]) (rest := []) (v := (some (.int q19.1))) (fun l => con_X12_isSung l v17 s.2.2 _ g20) tw_1217 tw_1215 tw_1216 tw_13 yn_X12_isSung (by decide) (Nat.le_of_ble_eq_true rfl) dX12_wrongOf_54 rfl ?_
    show PT X 8 0 0 57 [(6, .int v17), (0, .ref x0), (1, .int x1), (2, .int x2), (3, .int x3), (4, .int s.1), (5, .int s.2.1)] [.int q19.1] q19.2
    refine pt_if_ne C (tgt := 62) (by decide) dX12_wrongOf_57 (fun c21 => ?_) (fun c21 => ?_)
    · rw [if_neg c21] at hf
      refine pt_aload_n C 1 rfl rfl dX12_wrongOf_62 ?_
      refine ob hf (fun v22 g23 hf => ?_)
      refine pt_getR C kX12 32 (by decide) tw_948 (Or.inl rfl) g23 dX12_wrongOf_63 ?_
      refine pt_iload_n C 4 rfl rfl dX12_wrongOf_66 ?_
      refine ob hf (fun v24 g25 hf => ?_)
      refine pt_iald C g25 dX12_wrongOf_67 ?_
      refine pt_aload_n C 1 rfl rfl dX12_wrongOf_68 ?_
      refine ob hf (fun v26 g27 hf => ?_)
      refine pt_getR C kX12 31 (by decide) tw_947 (Or.inl rfl) g27 dX12_wrongOf_69 ?_
      refine pt_iload_n C 4 rfl rfl dX12_wrongOf_72 ?_
      refine ob hf (fun v28 g29 hf => ?_)
      refine pt_iald C g29 dX12_wrongOf_73 ?_
      refine pt_iconst C (v := 1) (by decide) dX12_wrongOf_74 ?_
      refine pt_isub C dX12_wrongOf_75 ?_
      refine pt_iload C 6 rfl dX12_wrongOf_76 ?_
      refine pt_isub C dX12_wrongOf_78 ?_
      refine pt_ishr C dX12_wrongOf_79 ?_
      refine pt_iconst C (v := 1) (by decide) dX12_wrongOf_80 ?_
      refine pt_iand C dX12_wrongOf_81 ?_
      refine pt_istore C [(7, .int ((v24 >>> (((v28 - 1) - s.2.1) &&& 31)) &&& 1)), (6, .int v17), (0, .ref x0), (1, .int x1), (2, .int x2), (3, .int x3), (4, .int s.1), (5, .int s.2.1)] (by decide) rfl dX12_wrongOf_82 ?_
      refine pt_iload C 6 rfl dX12_wrongOf_84 ?_
      refine pt_iload C 0 rfl dX12_wrongOf_86 ?_
      refine pt_iconst C (v := 1) (by decide) dX12_wrongOf_88 ?_
      refine pt_icmp_ne C (tgt := 96) (by decide) dX12_wrongOf_89 (fun c30 => ?_) (fun c30 => ?_)
      · rw [if_neg c30] at hf
        refine pt_iconst C (v := 0) (by decide) dX12_wrongOf_96 ?_
        refine pt_sub C [(0, .ref x0), (1, .int x1), (2, .int x2), (3, .int x3), (5, .int s.2.1), (6, .int v17)] [2, 3, 4, 5, 7, 1] rfl ?_
        exact w_X12_wrongOf_L25_J97 C x0 x1 x2 x3 s.2.1 v17 0 s.1 q19.2 _ hf K0 K1 K2
      · rw [if_pos c30] at hf
        refine pt_iconst C (v := 1) (by decide) dX12_wrongOf_92 ?_
        refine pt_goto C (tgt := 97) (by decide) dX12_wrongOf_93 ?_
        refine pt_sub C [(0, .ref x0), (1, .int x1), (2, .int x2), (3, .int x3), (5, .int s.2.1), (6, .int v17)] [2, 3, 4, 5, 7, 1] rfl ?_
        exact w_X12_wrongOf_L25_J97 C x0 x1 x2 x3 s.2.1 v17 1 s.1 q19.2 _ hf K0 K1 K2
    · rw [if_pos c21] at hf
      refine pt_sub C [] [] rfl ?_
      exact K2 _ (Option.some.inj hf).symm
theorem l_X12_wrongOf_L25 {X : MX} (C : CX X cX12_wrongOf 8 RX12 (some .int) rmX12_wrongOf) (x0 : Nat) (x1 : Int32) (x2 : Int32) (x3 : Int32) : ∀ (n : Nat) (s : Int32 × Int32 × AH) (r : (Int32 × AH) ⊕ (AH)), iter (f_X12_wrongOf_L25 x0 x1 x2 x3) n s = some r → (Sum.elim (fun r : (Int32 × AH) => PT X 8 0 0 128 [(4, .int r.1)] [] r.2) (fun r : (AH) => PT X 8 0 0 60 [] [] r)) r → PT X 8 0 0 25 [(0, .ref x0), (1, .int x1), (2, .int x2), (3, .int x3), (4, .int s.1), (5, .int s.2.1)] [] s.2.2 :=
  iter_W (fun s : Int32 × Int32 × AH => PT X 8 0 0 25 [(0, .ref x0), (1, .int x1), (2, .int x2), (3, .int x3), (4, .int s.1), (5, .int s.2.1)] [] s.2.2) (Sum.elim (fun r : (Int32 × AH) => PT X 8 0 0 128 [(4, .int r.1)] [] r.2) (fun r : (AH) => PT X 8 0 0 60 [] [] r)) _ (fun s s2 hf P => w_X12_wrongOf_L25 C x0 x1 x2 x3 s _ hf (fun u4 u5 hu e => by cases e; exact P) (fun u4 hu e => by cases e) (fun hu e => by cases e)) (fun s r hf P => w_X12_wrongOf_L25 C x0 x1 x2 x3 s _ hf (fun u4 u5 hu e => by cases e) (fun u4 hu e => by cases e; exact P) (fun hu e => by cases e; exact P))
set_option maxRecDepth 100000 in
set_option maxHeartbeats 4000000 in
theorem w_X12_wrongOf_0 {X : MX} (C : CX X cX12_wrongOf 8 RX12 (some .int) rmX12_wrongOf) (a0 : Nat) (a1 : Int32) (a2 : Int32) (a3 : Int32) (h : AH) (res : Int32 × AH) (hf : f_X12_wrongOf a0 a1 a2 a3 h = some res) (K : ∀ (v : Int32) (h2 : AH), res = (v, h2) → PR X rmX12_wrongOf (some (.int v)) h2) : PT X 8 0 0 0 [(0, .ref a0), (1, .int a1), (2, .int a2), (3, .int a3)] [] h := by
  unfold f_X12_wrongOf at hf
  refine pt_iload_n C 2 rfl rfl dX12_wrongOf_0 ?_
  refine pt_aload_n C 0 rfl rfl dX12_wrongOf_1 ?_
  refine ob hf (fun v1 g2 hf => ?_)
  refine pt_getR C kX12 31 (by decide) tw_947 (Or.inl rfl) g2 dX12_wrongOf_2 ?_
  refine pt_iload_n C 3 rfl rfl dX12_wrongOf_5 ?_
  refine ob hf (fun v3 g4 hf => ?_)
  refine pt_iald C g4 dX12_wrongOf_6 ?_
  refine pt_iadd C dX12_wrongOf_7 ?_
  refine pt_aload_n C 0 rfl rfl dX12_wrongOf_8 ?_
  refine ob hf (fun v5 g6 hf => ?_)
  refine pt_getR C kX12 1 (by decide) tw_917 (Or.inl rfl) g6 dX12_wrongOf_9 ?_
  refine pt_iload_n C 1 rfl rfl dX12_wrongOf_12 ?_
  refine ob hf (fun v7 g8 hf => ?_)
  refine pt_iald C g8 dX12_wrongOf_13 ?_
  refine pt_icmp_le C (tgt := 19) (by decide) dX12_wrongOf_14 (fun c9 => ?_) (fun c9 => ?_)
  · rw [if_pos c9] at hf
    refine pt_iconst C (v := 0) (by decide) dX12_wrongOf_19 ?_
    refine pt_istore C [(4, .int 0), (0, .ref a0), (1, .int a1), (2, .int a2), (3, .int a3)] (by decide) rfl dX12_wrongOf_20 ?_
    refine pt_iconst C (v := 0) (by decide) dX12_wrongOf_22 ?_
    refine pt_istore C [(5, .int 0), (4, .int 0), (0, .ref a0), (1, .int a1), (2, .int a2), (3, .int a3)] (by decide) rfl dX12_wrongOf_23 ?_
    refine pt_sub C [(0, .ref a0), (1, .int a1), (2, .int a2), (3, .int a3), (4, .int 0), (5, .int 0)] [2, 3, 4, 5, 1, 0] rfl ?_
    refine ob hf (fun e35 g36 hf => ?_)
    refine l_X12_wrongOf_L25 C a0 a1 a2 a3 _ _ _ g36 ?_
    cases e35 with
    | inl e37 =>
      simp only [Sum.elim_inl] at hf ⊢
      refine pt_iload C 0 rfl dX12_wrongOf_128 ?_
      exact pt_iret C (K _ _ (Option.some.inj hf).symm) (by decide) (by decide) dX12_wrongOf_130
    | inr e38 =>
      simp only [Sum.elim_inr] at hf ⊢
      refine pt_iconst C (v := (-1)) (by decide) dX12_wrongOf_60 ?_
      exact pt_iret C (K _ _ (Option.some.inj hf).symm) (by decide) (by decide) dX12_wrongOf_61
  · rw [if_neg c9] at hf
    refine pt_iconst C (v := (-1)) (by decide) dX12_wrongOf_17 ?_
    exact pt_iret C (K _ _ (Option.some.inj hf).symm) (by decide) (by decide) dX12_wrongOf_18
theorem con_X12_wrongOf (l : Launch) (a0 : Nat) (a1 : Int32) (a2 : Int32) (a3 : Int32) (h : AH) (q : Int32 × AH) (hf : f_X12_wrongOf a0 a1 a2 a3 h = some q) : Con l yX12_wrongOf cX12_wrongOf 8 (some .int) rmX12_wrongOf [.ref a0, .int a1, .int a2, .int a3] h (some (.int q.1)) q.2 := Con.of (by decide +kernel) (Nat.le_of_ble_eq_true rfl) (fun X C I K => w_X12_wrongOf_0 C a0 a1 a2 a3 h q hf (fun v h2 e => by cases e; exact K))
abbrev rmX12_findLines : Room := { frames := 2, cells := 0, slots := 0, locals := 47 }
theorem yn_X12_findLines : YN yX12_findLines 1 := by refine ⟨?_, ?_, ?_⟩ <;> decide +kernel
set_option maxRecDepth 100000 in
set_option maxHeartbeats 4000000 in
theorem w_X12_findLines_L82_J144 {X : MX} (C : CX X cX12_findLines 10 RX12 none rmX12_findLines) (x0 : Nat) (x1 : Int32) (x3 : Int32) (y5 : Int64) (y7 : Int32) (y8 : Int32) (y9 : Int32) (h : AH) (res : (Int64 × Int32 × Int32 × AH) ⊕ ((Int64 × Int32 × AH))) (hf : f_X12_findLines_L82_J144 x0 x1 x3 y5 y7 y8 y9 h = some res) (K0 : ∀ (u5 : Int64) (u7 : Int32) (u8 : Int32) (hu : AH), res = .inl (u5, u7, u8, hu) → PT X 10 0 0 82 [(0, .ref x0), (1, .int x1), (3, .int x3), (5, .long u5), (7, .int u7), (8, .int u8)] [] hu) (K1 : ∀ (u5 : Int64) (u7 : Int32) (hu : AH), res = .inr ((u5, u7, hu)) → PT X 10 0 0 196 [(0, .ref x0), (1, .int x1), (3, .int x3), (5, .long u5), (7, .int u7)] [] hu) : PT X 10 0 0 144 [(0, .ref x0), (1, .int x1), (3, .int x3), (5, .long y5), (7, .int y7), (8, .int y8), (9, .int y9)] [] h := by
  unfold f_X12_findLines_L82_J144 at hf
  refine pt_iload C 6 rfl dX12_findLines_144 ?_
  refine pt_if_lt C (tgt := 190) (by decide) dX12_findLines_146 (fun c25 => ?_) (fun c25 => ?_)
  · rw [if_pos c25] at hf
    refine pt_iinc C 5 [(8, .int (y8 + 1)), (0, .ref x0), (1, .int x1), (3, .int x3), (5, .long y5), (7, .int y7), (9, .int y9)] rfl (iinc_eq y8 (by decide)) (by decide) rfl dX12_findLines_190 ?_
    refine pt_goto C (tgt := 82) (by decide) dX12_findLines_193 ?_
    refine pt_sub C [(0, .ref x0), (1, .int x1), (3, .int x3), (5, .long y5), (7, .int y7), (8, .int (y8 + 1))] [1, 2, 3, 4, 5, 0] rfl ?_
    exact K0 _ _ _ _ (Option.some.inj hf).symm
  · rw [if_neg c25] at hf
    refine pt_iload C 6 rfl dX12_findLines_149 ?_
    refine pt_aload_n C 0 rfl rfl dX12_findLines_151 ?_
    refine ob hf (fun v26 g27 hf => ?_)
    refine pt_getR C kX12 34 (by decide) tw_950 (Or.inl rfl) g27 dX12_findLines_152 ?_
    refine pt_iload_n C 2 rfl rfl dX12_findLines_155 ?_
    refine pt_aload_n C 0 rfl rfl dX12_findLines_156 ?_
    refine ob hf (fun v28 g29 hf => ?_)
    refine pt_getR C kX12 31 (by decide) tw_947 (Or.inl rfl) g29 dX12_findLines_157 ?_
    refine pt_iload C 5 rfl dX12_findLines_160 ?_
    refine ob hf (fun v30 g31 hf => ?_)
    refine pt_iald C g31 dX12_findLines_162 ?_
    refine pt_iadd C dX12_findLines_163 ?_
    refine ob hf (fun v32 g33 hf => ?_)
    refine pt_iald C g33 dX12_findLines_164 ?_
    refine pt_iadd C dX12_findLines_165 ?_
    refine pt_iload C 4 rfl dX12_findLines_166 ?_
    refine pt_icmp_ge C (tgt := 190) (by decide) dX12_findLines_168 (fun c34 => ?_) (fun c34 => ?_)
    · rw [if_pos c34] at hf
      refine pt_iinc C 5 [(8, .int (y8 + 1)), (0, .ref x0), (1, .int x1), (3, .int x3), (5, .long y5), (7, .int y7), (9, .int y9)] rfl (iinc_eq y8 (by decide)) (by decide) rfl dX12_findLines_190 ?_
      refine pt_goto C (tgt := 82) (by decide) dX12_findLines_193 ?_
      refine pt_sub C [(0, .ref x0), (1, .int x1), (3, .int x3), (5, .long y5), (7, .int y7), (8, .int (y8 + 1))] [1, 2, 3, 4, 5, 0] rfl ?_
      exact K0 _ _ _ _ (Option.some.inj hf).symm
    · rw [if_neg c34] at hf
      refine pt_iload C 6 rfl dX12_findLines_171 ?_
      refine pt_aload_n C 0 rfl rfl dX12_findLines_173 ?_
      refine ob hf (fun v35 g36 hf => ?_)
      refine pt_getR C kX12 34 (by decide) tw_950 (Or.inl rfl) g36 dX12_findLines_174 ?_
      refine pt_iload_n C 2 rfl rfl dX12_findLines_177 ?_
      refine pt_aload_n C 0 rfl rfl dX12_findLines_178 ?_
      refine ob hf (fun v37 g38 hf => ?_)
      refine pt_getR C kX12 31 (by decide) tw_947 (Or.inl rfl) g38 dX12_findLines_179 ?_
      refine pt_iload C 5 rfl dX12_findLines_182 ?_
      refine ob hf (fun v39 g40 hf => ?_)
      refine pt_iald C g40 dX12_findLines_184 ?_
      refine pt_iadd C dX12_findLines_185 ?_
      refine ob hf (fun v41 g42 hf => ?_)
      refine pt_iald C g42 dX12_findLines_186 ?_
      refine pt_iadd C dX12_findLines_187 ?_
      refine pt_istore C [(7, .int (y9 + v41)), (0, .ref x0), (1, .int x1), (3, .int x3), (5, .long y5), (8, .int y8), (9, .int y9)] (by decide) rfl dX12_findLines_188 ?_
      refine pt_iinc C 5 [(8, .int (y8 + 1)), (7, .int (y9 + v41)), (0, .ref x0), (1, .int x1), (3, .int x3), (5, .long y5), (9, .int y9)] rfl (iinc_eq y8 (by decide)) (by decide) rfl dX12_findLines_190 ?_
      refine pt_goto C (tgt := 82) (by decide) dX12_findLines_193 ?_
      refine pt_sub C [(0, .ref x0), (1, .int x1), (3, .int x3), (5, .long y5), (7, .int (y9 + v41)), (8, .int (y8 + 1))] [2, 3, 4, 5, 1, 0] rfl ?_
      exact K0 _ _ _ _ (Option.some.inj hf).symm
set_option maxRecDepth 100000 in
set_option maxHeartbeats 4000000 in
theorem w_X12_findLines_L82_J142 {X : MX} (C : CX X cX12_findLines 10 RX12 none rmX12_findLines) (x0 : Nat) (x1 : Int32) (x3 : Int32) (y7 : Int32) (y8 : Int32) (y9 : Int32) (z0 : Int64) (h : AH) (res : (Int64 × Int32 × Int32 × AH) ⊕ ((Int64 × Int32 × AH))) (hf : f_X12_findLines_L82_J142 x0 x1 x3 y7 y8 y9 z0 h = some res) (K0 : ∀ (u5 : Int64) (u7 : Int32) (u8 : Int32) (hu : AH), res = .inl (u5, u7, u8, hu) → PT X 10 0 0 82 [(0, .ref x0), (1, .int x1), (3, .int x3), (5, .long u5), (7, .int u7), (8, .int u8)] [] hu) (K1 : ∀ (u5 : Int64) (u7 : Int32) (hu : AH), res = .inr ((u5, u7, hu)) → PT X 10 0 0 196 [(0, .ref x0), (1, .int x1), (3, .int x3), (5, .long u5), (7, .int u7)] [] hu) : PT X 10 0 0 142 [(0, .ref x0), (1, .int x1), (3, .int x3), (7, .int y7), (8, .int y8), (9, .int y9)] [.long z0] h := by
  unfold f_X12_findLines_L82_J142 at hf
  refine pt_lstore C [(5, .long z0), (0, .ref x0), (1, .int x1), (3, .int x3), (7, .int y7), (8, .int y8), (9, .int y9)] (by decide) rfl dX12_findLines_142 ?_
  refine pt_sub C [(0, .ref x0), (1, .int x1), (3, .int x3), (5, .long z0), (7, .int y7), (8, .int y8), (9, .int y9)] [1, 2, 3, 0, 4, 5, 6] rfl ?_
  exact w_X12_findLines_L82_J144 C x0 x1 x3 z0 y7 y8 y9 h _ hf K0 K1
set_option maxRecDepth 100000 in
set_option maxHeartbeats 4000000 in
theorem w_X12_findLines_L82 {X : MX} (C : CX X cX12_findLines 10 RX12 none rmX12_findLines) (x0 : Nat) (x1 : Int32) (x3 : Int32) (s : Int64 × Int32 × Int32 × AH) (res : (Int64 × Int32 × Int32 × AH) ⊕ ((Int64 × Int32 × AH))) (hf : f_X12_findLines_L82 x0 x1 x3 s = some res) (K0 : ∀ (u5 : Int64) (u7 : Int32) (u8 : Int32) (hu : AH), res = .inl (u5, u7, u8, hu) → PT X 10 0 0 82 [(0, .ref x0), (1, .int x1), (3, .int x3), (5, .long u5), (7, .int u7), (8, .int u8)] [] hu) (K1 : ∀ (u5 : Int64) (u7 : Int32) (hu : AH), res = .inr ((u5, u7, hu)) → PT X 10 0 0 196 [(0, .ref x0), (1, .int x1), (3, .int x3), (5, .long u5), (7, .int u7)] [] hu) : PT X 10 0 0 82 [(0, .ref x0), (1, .int x1), (3, .int x3), (5, .long s.1), (7, .int s.2.1), (8, .int s.2.2.1)] [] s.2.2.2 := by
  unfold f_X12_findLines_L82 at hf
  refine pt_iload C 5 rfl dX12_findLines_82 ?_
  refine pt_aload_n C 0 rfl rfl dX12_findLines_84 ?_
  refine ob hf (fun v18 g19 hf => ?_)
  refine pt_getI C kX12 30 (by decide) tw_946 (Or.inl rfl) g19 dX12_findLines_85 ?_
  refine pt_icmp_ge C (tgt := 196) (by decide) dX12_findLines_88 (fun c20 => ?_) (fun c20 => ?_)
  · rw [if_pos c20] at hf
    refine pt_sub C [(0, .ref x0), (1, .int x1), (3, .int x3), (5, .long s.1), (7, .int s.2.1)] [0, 1, 2, 3, 4] rfl ?_
    exact K1 _ _ _ (Option.some.inj hf).symm
  · rw [if_neg c20] at hf
    refine pt_aload_n C 0 rfl rfl dX12_findLines_91 ?_
    refine pt_iload_n C 1 rfl rfl dX12_findLines_92 ?_
    refine pt_iload_n C 2 rfl rfl dX12_findLines_93 ?_
    refine pt_iload C 5 rfl dX12_findLines_94 ?_
    refine ob hf (fun _ g23 hf => ?_)
    refine ob hf (fun q21 g22 hf => ?_)
    refine pt_callV C (As := [.int x1, .int x3, .int s.2.2.1]) (rest := []) (v := (some (.int q21.1))) (fun l => con_X12_wrongOf l x0 x1 x3 s.2.2.1 s.2.2.2 _ g22) tw_1222 tw_1219 tw_1221 tp_35 kX12 g23 tw_13 yn_X12_wrongOf (by decide) (Nat.le_of_ble_eq_true rfl) dX12_findLines_96 rfl ?_
    show PT X 10 0 0 99 [(0, .ref x0), (1, .int x1), (3, .int x3), (5, .long s.1), (7, .int s.2.1), (8, .int s.2.2.1)] [.int q21.1] q21.2
    refine pt_istore C [(9, .int q21.1), (0, .ref x0), (1, .int x1), (3, .int x3), (5, .long s.1), (7, .int s.2.1), (8, .int s.2.2.1)] (by decide) rfl dX12_findLines_99 ?_
    refine pt_iload C 0 rfl dX12_findLines_101 ?_
    refine pt_if_ne C (tgt := 144) (by decide) dX12_findLines_103 (fun c24 => ?_) (fun c24 => ?_)
    · rw [if_neg c24] at hf
      refine pt_sub C [(0, .ref x0), (1, .int x1), (3, .int x3), (5, .long s.1), (7, .int s.2.1), (8, .int s.2.2.1), (9, .int q21.1)] [1, 2, 3, 4, 5, 6, 0] rfl ?_
      exact w_X12_findLines_L82_J144 C x0 x1 x3 s.1 s.2.1 s.2.2.1 q21.1 q21.2 _ hf K0 K1
    · rw [if_pos c24] at hf
      refine pt_lload C 4 rfl dX12_findLines_106 ?_
      refine pt_aload_n C 1 rfl rfl dX12_findLines_108 ?_
      refine ob hf (fun v43 g44 hf => ?_)
      refine pt_getR C kX12 33 (by decide) tw_949 (Or.inl rfl) g44 dX12_findLines_109 ?_
      refine pt_iload_n C 3 rfl rfl dX12_findLines_112 ?_
      refine pt_aload_n C 1 rfl rfl dX12_findLines_113 ?_
      refine ob hf (fun v45 g46 hf => ?_)
      refine pt_getR C kX12 31 (by decide) tw_947 (Or.inl rfl) g46 dX12_findLines_114 ?_
      refine pt_iload C 6 rfl dX12_findLines_117 ?_
      refine ob hf (fun v47 g48 hf => ?_)
      refine pt_iald C g48 dX12_findLines_119 ?_
      refine pt_iadd C dX12_findLines_120 ?_
      refine ob hf (fun v49 g50 hf => ?_)
      refine pt_lald C g50 dX12_findLines_121 ?_
      refine pt_ladd C dX12_findLines_122 ?_
      refine pt_lstore C [(5, .long (s.1 + v49)), (9, .int q21.1), (0, .ref x0), (1, .int x1), (3, .int x3), (7, .int s.2.1), (8, .int s.2.2.1)] (by decide) rfl dX12_findLines_123 ?_
      refine pt_lload C 0 rfl dX12_findLines_125 ?_
      refine pt_ldc2 C tw_1223 dX12_findLines_127 ?_
      refine pt_lcmp C dX12_findLines_130 ?_
      refine pt_if_le C (tgt := 140) (by decide) dX12_findLines_131 (fun c51 => ?_) (fun c51 => ?_)
      · rw [if_pos c51] at hf
        refine pt_lload C 0 rfl dX12_findLines_140 ?_
        refine pt_sub C [(0, .ref x0), (1, .int x1), (3, .int x3), (7, .int s.2.1), (8, .int s.2.2.1), (9, .int q21.1)] [2, 3, 4, 5, 6, 1] rfl ?_
        exact w_X12_findLines_L82_J142 C x0 x1 x3 s.2.1 s.2.2.1 q21.1 (s.1 + v49) q21.2 _ hf K0 K1
      · rw [if_neg c51] at hf
        refine pt_ldc2 C tw_1223 dX12_findLines_134 ?_
        refine pt_goto C (tgt := 142) (by decide) dX12_findLines_137 ?_
        refine pt_sub C [(0, .ref x0), (1, .int x1), (3, .int x3), (7, .int s.2.1), (8, .int s.2.2.1), (9, .int q21.1)] [2, 3, 4, 5, 6, 1] rfl ?_
        exact w_X12_findLines_L82_J142 C x0 x1 x3 s.2.1 s.2.2.1 q21.1 1000000000000000 q21.2 _ hf K0 K1
theorem l_X12_findLines_L82 {X : MX} (C : CX X cX12_findLines 10 RX12 none rmX12_findLines) (x0 : Nat) (x1 : Int32) (x3 : Int32) : ∀ (n : Nat) (s : Int64 × Int32 × Int32 × AH) (r : (Int64 × Int32 × AH)), iter (f_X12_findLines_L82 x0 x1 x3) n s = some r → (fun r : (Int64 × Int32 × AH) => PT X 10 0 0 196 [(0, .ref x0), (1, .int x1), (3, .int x3), (5, .long r.1), (7, .int r.2.1)] [] r.2.2) r → PT X 10 0 0 82 [(0, .ref x0), (1, .int x1), (3, .int x3), (5, .long s.1), (7, .int s.2.1), (8, .int s.2.2.1)] [] s.2.2.2 :=
  iter_W (fun s : Int64 × Int32 × Int32 × AH => PT X 10 0 0 82 [(0, .ref x0), (1, .int x1), (3, .int x3), (5, .long s.1), (7, .int s.2.1), (8, .int s.2.2.1)] [] s.2.2.2) (fun r : (Int64 × Int32 × AH) => PT X 10 0 0 196 [(0, .ref x0), (1, .int x1), (3, .int x3), (5, .long r.1), (7, .int r.2.1)] [] r.2.2) _ (fun s s2 hf P => w_X12_findLines_L82 C x0 x1 x3 s _ hf (fun u5 u7 u8 hu e => by cases e; exact P) (fun u5 u7 hu e => by cases e)) (fun s r hf P => w_X12_findLines_L82 C x0 x1 x3 s _ hf (fun u5 u7 u8 hu e => by cases e) (fun u5 u7 hu e => by cases e; exact P))
set_option maxRecDepth 100000 in
set_option maxHeartbeats 4000000 in
theorem w_X12_findLines_L25 {X : MX} (C : CX X cX12_findLines 10 RX12 none rmX12_findLines) (x0 : Nat) (x1 : Int32) (s : Int32 × AH) (res : (Int32 × AH) ⊕ ((AH))) (hf : f_X12_findLines_L25 x0 x1 s = some res) (K0 : ∀ (u3 : Int32) (hu : AH), res = .inl (u3, hu) → PT X 10 0 0 25 [(0, .ref x0), (1, .int x1), (3, .int u3)] [] hu) (K1 : ∀ (hu : AH), res = .inr (hu) → PT X 10 0 0 218 [] [] hu) : PT X 10 0 0 25 [(0, .ref x0), (1, .int x1), (3, .int s.1)] [] s.2 := by
  unfold f_X12_findLines_L25 at hf
  refine pt_iload_n C 2 rfl rfl dX12_findLines_25 ?_
  refine pt_if_lt C (tgt := 218) (by decide) dX12_findLines_26 (fun c13 => ?_) (fun c13 => ?_)
  · rw [if_pos c13] at hf
    refine pt_sub C [] [] rfl ?_
    exact K1 _ (Option.some.inj hf).symm
  · rw [if_neg c13] at hf
    refine pt_aload_n C 0 rfl rfl dX12_findLines_29 ?_
    refine pt_iload_n C 1 rfl rfl dX12_findLines_30 ?_
    refine pt_iload_n C 2 rfl rfl dX12_findLines_31 ?_
    refine ob hf (fun _ g16 hf => ?_)
    refine ob hf (fun q14 g15 hf => ?_)
    refine pt_callV C (As := [.int x1, .int s.1]) (rest := []) (v := (some (.int q14.1))) (fun l => con_X12_sungFrom l x0 x1 s.1 s.2 _ g15) tw_1214 tw_1211 tw_1213 tp_34 kX12 g16 tw_13 yn_X12_sungFrom (by decide) (Nat.le_of_ble_eq_true rfl) dX12_findLines_32 rfl ?_
    show PT X 10 0 0 35 [(0, .ref x0), (1, .int x1), (3, .int s.1)] [.int q14.1] q14.2
    refine pt_istore C [(4, .int q14.1), (0, .ref x0), (1, .int x1), (3, .int s.1)] (by decide) rfl dX12_findLines_35 ?_
    refine pt_iload C 0 rfl dX12_findLines_37 ?_
    refine pt_iload_n C 3 rfl rfl dX12_findLines_39 ?_
    refine pt_icmp_le C (tgt := 72) (by decide) dX12_findLines_40 (fun c17 => ?_) (fun c17 => ?_)
    · rw [if_pos c17] at hf
      refine pt_lconst C (v := 0) (by decide) dX12_findLines_72 ?_
      refine pt_lstore C [(5, .long 0), (4, .int q14.1), (0, .ref x0), (1, .int x1), (3, .int s.1)] (by decide) rfl dX12_findLines_73 ?_
      refine pt_ldc C tw_1218 dX12_findLines_75 ?_
      refine pt_istore C [(7, .int 1000000000), (5, .long 0), (4, .int q14.1), (0, .ref x0), (1, .int x1), (3, .int s.1)] (by decide) rfl dX12_findLines_77 ?_
      refine pt_iconst C (v := 0) (by decide) dX12_findLines_79 ?_
      refine pt_istore C [(8, .int 0), (7, .int 1000000000), (5, .long 0), (4, .int q14.1), (0, .ref x0), (1, .int x1), (3, .int s.1)] (by decide) rfl dX12_findLines_80 ?_
      refine pt_sub C [(0, .ref x0), (1, .int x1), (3, .int s.1), (5, .long 0), (7, .int 1000000000), (8, .int 0)] [4, 5, 6, 2, 1, 0] rfl ?_
      refine ob hf (fun e52 g53 hf => ?_)
      refine l_X12_findLines_L82 C x0 x1 s.1 _ _ _ g53 ?_
      refine pt_aload_n C 0 rfl rfl dX12_findLines_196 ?_
      refine ob hf (fun v54 g55 hf => ?_)
      refine pt_getR C kX12 33 (by decide) tw_949 (Or.inl rfl) g55 dX12_findLines_197 ?_
      refine pt_iload_n C 2 rfl rfl dX12_findLines_200 ?_
      refine pt_lload C 3 rfl dX12_findLines_201 ?_
      refine ob hf (fun h56 g57 hf => ?_)
      refine pt_last C g57 dX12_findLines_203 ?_
      refine pt_aload_n C 0 rfl rfl dX12_findLines_204 ?_
      refine ob hf (fun v58 g59 hf => ?_)
      refine pt_getR C kX12 34 (by decide) tw_950 (Or.inl rfl) g59 dX12_findLines_205 ?_
      refine pt_iload_n C 2 rfl rfl dX12_findLines_208 ?_
      refine pt_iload C 4 rfl dX12_findLines_209 ?_
      refine ob hf (fun h60 g61 hf => ?_)
      refine pt_iast C g61 dX12_findLines_211 ?_
      refine pt_iinc C 2 [(3, .int (s.1 + (-1))), (0, .ref x0), (1, .int x1), (5, .long e52.1), (7, .int e52.2.1)] rfl (iinc_eq s.1 (by decide)) (by decide) rfl dX12_findLines_212 ?_
      refine pt_goto C (tgt := 25) (by decide) dX12_findLines_215 ?_
      refine pt_sub C [(0, .ref x0), (1, .int x1), (3, .int (s.1 + (-1)))] [1, 2, 0] rfl ?_
      exact K0 _ _ (Option.some.inj hf).symm
    · rw [if_neg c17] at hf
      refine pt_aload_n C 1 rfl rfl dX12_findLines_43 ?_
      refine ob hf (fun v62 g63 hf => ?_)
      refine pt_getR C kX12 33 (by decide) tw_949 (Or.inl rfl) g63 dX12_findLines_44 ?_
      refine pt_iload_n C 3 rfl rfl dX12_findLines_47 ?_
      refine pt_aload_n C 1 rfl rfl dX12_findLines_48 ?_
      refine ob hf (fun v64 g65 hf => ?_)
      refine pt_getR C kX12 33 (by decide) tw_949 (Or.inl rfl) g65 dX12_findLines_49 ?_
      refine pt_iload C 0 rfl dX12_findLines_52 ?_
      refine ob hf (fun v66 g67 hf => ?_)
      refine pt_lald C g67 dX12_findLines_54 ?_
      refine ob hf (fun h68 g69 hf => ?_)
      refine pt_last C g69 dX12_findLines_55 ?_
      refine pt_aload_n C 1 rfl rfl dX12_findLines_56 ?_
      refine ob hf (fun v70 g71 hf => ?_)
      refine pt_getR C kX12 34 (by decide) tw_950 (Or.inl rfl) g71 dX12_findLines_57 ?_
      refine pt_iload_n C 3 rfl rfl dX12_findLines_60 ?_
      refine pt_aload_n C 1 rfl rfl dX12_findLines_61 ?_
      refine ob hf (fun v72 g73 hf => ?_)
      refine pt_getR C kX12 34 (by decide) tw_950 (Or.inl rfl) g73 dX12_findLines_62 ?_
      refine pt_iload C 0 rfl dX12_findLines_65 ?_
      refine ob hf (fun v74 g75 hf => ?_)
      refine pt_iald C g75 dX12_findLines_67 ?_
      refine ob hf (fun h76 g77 hf => ?_)
      refine pt_iast C g77 dX12_findLines_68 ?_
      refine pt_goto C (tgt := 212) (by decide) dX12_findLines_69 ?_
      refine pt_iinc C 3 [(3, .int (s.1 + (-1))), (4, .int q14.1), (0, .ref x0), (1, .int x1)] rfl (iinc_eq s.1 (by decide)) (by decide) rfl dX12_findLines_212 ?_
      refine pt_goto C (tgt := 25) (by decide) dX12_findLines_215 ?_
      refine pt_sub C [(0, .ref x0), (1, .int x1), (3, .int (s.1 + (-1)))] [2, 3, 0] rfl ?_
      exact K0 _ _ (Option.some.inj hf).symm
theorem l_X12_findLines_L25 {X : MX} (C : CX X cX12_findLines 10 RX12 none rmX12_findLines) (x0 : Nat) (x1 : Int32) : ∀ (n : Nat) (s : Int32 × AH) (r : (AH)), iter (f_X12_findLines_L25 x0 x1) n s = some r → (fun r : (AH) => PT X 10 0 0 218 [] [] r) r → PT X 10 0 0 25 [(0, .ref x0), (1, .int x1), (3, .int s.1)] [] s.2 :=
  iter_W (fun s : Int32 × AH => PT X 10 0 0 25 [(0, .ref x0), (1, .int x1), (3, .int s.1)] [] s.2) (fun r : (AH) => PT X 10 0 0 218 [] [] r) _ (fun s s2 hf P => w_X12_findLines_L25 C x0 x1 s _ hf (fun u3 hu e => by cases e; exact P) (fun hu e => by cases e)) (fun s r hf P => w_X12_findLines_L25 C x0 x1 s _ hf (fun u3 hu e => by cases e) (fun hu e => by cases e; exact P))
set_option maxRecDepth 100000 in
set_option maxHeartbeats 4000000 in
theorem w_X12_findLines_0 {X : MX} (C : CX X cX12_findLines 10 RX12 none rmX12_findLines) (a0 : Nat) (a1 : Int32) (h : AH) (res : AH) (hf : f_X12_findLines a0 a1 h = some res) (K : PR X rmX12_findLines none res) : PT X 10 0 0 0 [(0, .ref a0), (1, .int a1)] [] h := by
  unfold f_X12_findLines at hf
  refine pt_aload_n C 0 rfl rfl dX12_findLines_0 ?_
  refine ob hf (fun v1 g2 hf => ?_)
  refine pt_getR C kX12 1 (by decide) tw_917 (Or.inl rfl) g2 dX12_findLines_1 ?_
  refine pt_iload_n C 1 rfl rfl dX12_findLines_4 ?_
  refine ob hf (fun v3 g4 hf => ?_)
  refine pt_iald C g4 dX12_findLines_5 ?_
  refine pt_istore_n C [(2, .int v3), (0, .ref a0), (1, .int a1)] rfl (by decide) rfl dX12_findLines_6 ?_
  refine pt_aload_n C 1 rfl rfl dX12_findLines_7 ?_
  refine ob hf (fun v5 g6 hf => ?_)
  refine pt_getR C kX12 33 (by decide) tw_949 (Or.inl rfl) g6 dX12_findLines_8 ?_
  refine pt_iload_n C 0 rfl rfl dX12_findLines_11 ?_
  refine pt_lconst C (v := 1) (by decide) dX12_findLines_12 ?_
  refine ob hf (fun h7 g8 hf => ?_)
  refine pt_last C g8 dX12_findLines_13 ?_
  refine pt_aload_n C 1 rfl rfl dX12_findLines_14 ?_
  refine ob hf (fun v9 g10 hf => ?_)
  refine pt_getR C kX12 34 (by decide) tw_950 (Or.inl rfl) g10 dX12_findLines_15 ?_
  refine pt_iload_n C 0 rfl rfl dX12_findLines_18 ?_
  refine pt_iconst C (v := 0) (by decide) dX12_findLines_19 ?_
  refine ob hf (fun h11 g12 hf => ?_)
  refine pt_iast C g12 dX12_findLines_20 ?_
  refine pt_iload_n C 0 rfl rfl dX12_findLines_21 ?_
  refine pt_iconst C (v := 1) (by decide) dX12_findLines_22 ?_
  refine pt_isub C dX12_findLines_23 ?_
  refine pt_istore_n C [(3, .int (v3 - 1)), (2, .int v3), (0, .ref a0), (1, .int a1)] rfl (by decide) rfl dX12_findLines_24 ?_
  refine pt_sub C [(0, .ref a0), (1, .int a1), (3, .int (v3 - 1))] [2, 3, 0] rfl ?_
  refine ob hf (fun e78 g79 hf => ?_)
  refine l_X12_findLines_L25 C a0 a1 _ _ _ g79 ?_
  obtain rfl := Option.some.inj hf
  exact pt_vret C K (by decide) (by decide) dX12_findLines_218
theorem con_X12_findLines (l : Launch) (a0 : Nat) (a1 : Int32) (h : AH) (q : AH) (hf : f_X12_findLines a0 a1 h = some q) : Con l yX12_findLines cX12_findLines 10 none rmX12_findLines [.ref a0, .int a1] h none q := Con.of (by decide +kernel) (Nat.le_of_ble_eq_true rfl) (fun X C I K => w_X12_findLines_0 C a0 a1 h q hf K)
