abbrev rmX12_restAll : Room := { frames := 0, cells := 0, slots := 0, locals := 0 }
theorem yn_X12_restAll : YN yX12_restAll 2 := by refine ⟨?_, ?_, ?_⟩ <;> decide +kernel
set_option maxRecDepth 100000 in
set_option maxHeartbeats 4000000 in
theorem w_X12_restAll_L2 {X : MX} (C : CX X cX12_restAll 5 RX12 none rmX12_restAll) (x0 : Nat) (x1 : Int32) (x2 : Int32) (s : Int32 × AH) (res : (Int32 × AH) ⊕ ((AH))) (hf : f_X12_restAll_L2 x0 x1 x2 s = some res) (K0 : ∀ (u3 : Int32) (hu : AH), res = .inl (u3, hu) → PT X 5 0 0 2 [(0, .ref x0), (1, .int x1), (2, .int x2), (3, .int u3)] [] hu) (K1 : ∀ (hu : AH), res = .inr (hu) → PT X 5 0 0 71 [] [] hu) : PT X 5 0 0 2 [(0, .ref x0), (1, .int x1), (2, .int x2), (3, .int s.1)] [] s.2 := by
  unfold f_X12_restAll_L2 at hf
  refine pt_iload_n C 3 rfl rfl dX12_restAll_2 ?_
  refine pt_aload_n C 0 rfl rfl dX12_restAll_3 ?_
  refine ob hf (fun v1 g2 hf => ?_)
  refine pt_getI C kX12 7 (by decide) tw_923 (Or.inl rfl) g2 dX12_restAll_4 ?_
  refine pt_icmp_ge C (tgt := 71) (by decide) dX12_restAll_7 (fun c3 => ?_) (fun c3 => ?_)
  · rw [if_pos c3] at hf
    refine pt_sub C [] [] rfl ?_
    exact K1 _ (Option.some.inj hf).symm
  · rw [if_neg c3] at hf
    refine pt_aload_n C 0 rfl rfl dX12_restAll_10 ?_
    refine ob hf (fun v4 g5 hf => ?_)
    refine pt_getR C kX12 13 (by decide) tw_929 (Or.inl rfl) g5 dX12_restAll_11 ?_
    refine pt_bipush C (v := 10) (by decide) dX12_restAll_14 ?_
    refine pt_iload_n C 1 rfl rfl dX12_restAll_16 ?_
    refine pt_imul C dX12_restAll_17 ?_
    refine pt_iload_n C 3 rfl rfl dX12_restAll_18 ?_
    refine pt_iadd C dX12_restAll_19 ?_
    refine ob hf (fun v6 g7 hf => ?_)
    refine pt_iald C g7 dX12_restAll_20 ?_
    refine pt_iload_n C 2 rfl rfl dX12_restAll_21 ?_
    refine pt_aload_n C 0 rfl rfl dX12_restAll_22 ?_
    refine ob hf (fun v8 g9 hf => ?_)
    refine pt_getR C kX12 10 (by decide) tw_926 (Or.inl rfl) g9 dX12_restAll_23 ?_
    refine pt_iload_n C 3 rfl rfl dX12_restAll_26 ?_
    refine ob hf (fun v10 g11 hf => ?_)
    refine pt_iald C g11 dX12_restAll_27 ?_
    refine pt_imul C dX12_restAll_28 ?_
    refine pt_iadd C dX12_restAll_29 ?_
    refine pt_istore C [(4, .int (v6 + (x2 * v10))), (0, .ref x0), (1, .int x1), (2, .int x2), (3, .int s.1)] (by decide) rfl dX12_restAll_30 ?_
    refine pt_aload_n C 1 rfl rfl dX12_restAll_32 ?_
    refine ob hf (fun v12 g13 hf => ?_)
    refine pt_getR C kX12 13 (by decide) tw_929 (Or.inl rfl) g13 dX12_restAll_33 ?_
    refine pt_bipush C (v := 10) (by decide) dX12_restAll_36 ?_
    refine pt_iload_n C 2 rfl rfl dX12_restAll_38 ?_
    refine pt_imul C dX12_restAll_39 ?_
    refine pt_iload_n C 4 rfl rfl dX12_restAll_40 ?_
    refine pt_iadd C dX12_restAll_41 ?_
    refine pt_iload C 0 rfl dX12_restAll_42 ?_
    refine pt_aload_n C 1 rfl rfl dX12_restAll_44 ?_
    refine ob hf (fun v14 g15 hf => ?_)
    refine pt_getR C kX12 8 (by decide) tw_924 (Or.inl rfl) g15 dX12_restAll_45 ?_
    refine pt_iload_n C 4 rfl rfl dX12_restAll_48 ?_
    refine ob hf (fun v16 g17 hf => ?_)
    refine pt_iald C g17 dX12_restAll_49 ?_
    refine pt_icmp_le C (tgt := 62) (by decide) dX12_restAll_50 (fun c18 => ?_) (fun c18 => ?_)
    · rw [if_pos c18] at hf
      refine pt_iload C 0 rfl dX12_restAll_62 ?_
      refine ob hf (fun h19 g20 hf => ?_)
      refine pt_iast C g20 dX12_restAll_64 ?_
      refine pt_iinc C 4 [(3, .int (s.1 + 1)), (4, .int (v6 + (x2 * v10))), (0, .ref x0), (1, .int x1), (2, .int x2)] rfl (iinc_eq s.1 (by decide)) (by decide) rfl dX12_restAll_65 ?_
      refine pt_goto C (tgt := 2) (by decide) dX12_restAll_68 ?_
      refine pt_sub C [(0, .ref x0), (1, .int x1), (2, .int x2), (3, .int (s.1 + 1))] [2, 3, 4, 0] rfl ?_
      exact K0 _ _ (Option.some.inj hf).symm
    · rw [if_neg c18] at hf
      refine pt_aload_n C 1 rfl rfl dX12_restAll_53 ?_
      refine ob hf (fun v21 g22 hf => ?_)
      refine pt_getR C kX12 8 (by decide) tw_924 (Or.inl rfl) g22 dX12_restAll_54 ?_
      refine pt_iload_n C 4 rfl rfl dX12_restAll_57 ?_
      refine ob hf (fun v23 g24 hf => ?_)
      refine pt_iald C g24 dX12_restAll_58 ?_
      refine pt_goto C (tgt := 64) (by decide) dX12_restAll_59 ?_
      refine ob hf (fun h25 g26 hf => ?_)
      refine pt_iast C g26 dX12_restAll_64 ?_
      refine pt_iinc C 4 [(3, .int (s.1 + 1)), (4, .int (v6 + (x2 * v10))), (0, .ref x0), (1, .int x1), (2, .int x2)] rfl (iinc_eq s.1 (by decide)) (by decide) rfl dX12_restAll_65 ?_
      refine pt_goto C (tgt := 2) (by decide) dX12_restAll_68 ?_
      refine pt_sub C [(0, .ref x0), (1, .int x1), (2, .int x2), (3, .int (s.1 + 1))] [2, 3, 4, 0] rfl ?_
      exact K0 _ _ (Option.some.inj hf).symm
theorem l_X12_restAll_L2 {X : MX} (C : CX X cX12_restAll 5 RX12 none rmX12_restAll) (x0 : Nat) (x1 : Int32) (x2 : Int32) : ∀ (n : Nat) (s : Int32 × AH) (r : (AH)), iter (f_X12_restAll_L2 x0 x1 x2) n s = some r → (fun r : (AH) => PT X 5 0 0 71 [] [] r) r → PT X 5 0 0 2 [(0, .ref x0), (1, .int x1), (2, .int x2), (3, .int s.1)] [] s.2 :=
  iter_W (fun s : Int32 × AH => PT X 5 0 0 2 [(0, .ref x0), (1, .int x1), (2, .int x2), (3, .int s.1)] [] s.2) (fun r : (AH) => PT X 5 0 0 71 [] [] r) _ (fun s s2 hf P => w_X12_restAll_L2 C x0 x1 x2 s _ hf (fun u3 hu e => by cases e; exact P) (fun hu e => by cases e)) (fun s r hf P => w_X12_restAll_L2 C x0 x1 x2 s _ hf (fun u3 hu e => by cases e) (fun hu e => by cases e; exact P))
set_option maxRecDepth 100000 in
set_option maxHeartbeats 4000000 in
theorem w_X12_restAll_0 {X : MX} (C : CX X cX12_restAll 5 RX12 none rmX12_restAll) (a0 : Nat) (a1 : Int32) (a2 : Int32) (h : AH) (res : AH) (hf : f_X12_restAll a0 a1 a2 h = some res) (K : PR X rmX12_restAll none res) : PT X 5 0 0 0 [(0, .ref a0), (1, .int a1), (2, .int a2)] [] h := by
  unfold f_X12_restAll at hf
  refine pt_iconst C (v := 0) (by decide) dX12_restAll_0 ?_
  refine pt_istore_n C [(3, .int 0), (0, .ref a0), (1, .int a1), (2, .int a2)] rfl (by decide) rfl dX12_restAll_1 ?_
  refine pt_sub C [(0, .ref a0), (1, .int a1), (2, .int a2), (3, .int 0)] [1, 2, 3, 0] rfl ?_
  refine ob hf (fun e27 g28 hf => ?_)
  refine l_X12_restAll_L2 C a0 a1 a2 _ _ _ g28 ?_
  obtain rfl := Option.some.inj hf
  exact pt_vret C K (by decide) (by decide) dX12_restAll_71
theorem con_X12_restAll (l : Launch) (a0 : Nat) (a1 : Int32) (a2 : Int32) (h : AH) (q : AH) (hf : f_X12_restAll a0 a1 a2 h = some q) : Con l yX12_restAll cX12_restAll 5 none rmX12_restAll [.ref a0, .int a1, .int a2] h none q := Con.of (by decide +kernel) (Nat.le_of_ble_eq_true rfl) (fun X C I K => w_X12_restAll_0 C a0 a1 a2 h q hf K)
abbrev rmX12_go : Room := { frames := 3, cells := 0, slots := 0, locals := 81 }
theorem yn_X12_go : YN yX12_go 2 := by refine ⟨?_, ?_, ?_⟩ <;> decide +kernel
set_option maxRecDepth 100000 in
set_option maxHeartbeats 4000000 in
theorem w_X12_go_J80 {X : MX} (C : CX X cX12_go 4 RX12 (some .boolean) rmX12_go) (a0 : Nat) (a1 : Int32) (a2 : Int32) (y3 : Int32) (z0 : Int32) (z1 : Int32) (z2 : Int32) (z3 : Nat) (h : AH) (res : Int32 × AH) (hf : f_X12_go_J80 a0 a1 a2 y3 z0 z1 z2 z3 h = some res) (K : ∀ (v : Int32) (h2 : AH), res = (v, h2) → PR X rmX12_go (some (.int v)) h2) : PT X 4 0 0 80 [(3, .int y3)] [.int z0, .int z1, .int z2, .ref z3] h := by
  unfold f_X12_go_J80 at hf
  refine pt_iadd C dX12_go_80 ?_
  refine pt_iload_n C 0 rfl rfl dX12_go_81 ?_
  refine pt_iadd C dX12_go_82 ?_
  refine ob hf (fun h29 g30 hf => ?_)
  refine pt_iast C g30 dX12_go_83 ?_
  refine pt_iload_n C 0 rfl rfl dX12_go_84 ?_
  refine pt_if_le C (tgt := 92) (by decide) dX12_go_85 (fun c31 => ?_) (fun c31 => ?_)
  · rw [if_pos c31] at hf
    refine pt_iconst C (v := 0) (by decide) dX12_go_92 ?_
    exact pt_zret C (by decide) (K _ _ (Option.some.inj hf).symm) (by decide) (by decide) dX12_go_93
  · rw [if_neg c31] at hf
    refine pt_iconst C (v := 1) (by decide) dX12_go_88 ?_
    refine pt_goto C (tgt := 93) (by decide) dX12_go_89 ?_
    exact pt_zret C (by decide) (K _ _ (Option.some.inj hf).symm) (by decide) (by decide) dX12_go_93
set_option maxRecDepth 100000 in
set_option maxHeartbeats 4000000 in
theorem w_X12_go_J23 {X : MX} (C : CX X cX12_go 4 RX12 (some .boolean) rmX12_go) (a0 : Nat) (a1 : Int32) (a2 : Int32) (h : AH) (res : Int32 × AH) (hf : f_X12_go_J23 a0 a1 a2 h = some res) (K : ∀ (v : Int32) (h2 : AH), res = (v, h2) → PR X rmX12_go (some (.int v)) h2) : PT X 4 0 0 23 [(0, .ref a0), (1, .int a1), (2, .int a2)] [] h := by
  unfold f_X12_go_J23 at hf
  refine pt_aload_n C 0 rfl rfl dX12_go_23 ?_
  refine pt_iload_n C 1 rfl rfl dX12_go_24 ?_
  refine pt_iconst C (v := 1) (by decide) dX12_go_25 ?_
  refine pt_iadd C dX12_go_26 ?_
  refine pt_iload_n C 2 rfl rfl dX12_go_27 ?_
  refine pt_aload_n C 0 rfl rfl dX12_go_28 ?_
  refine ob hf (fun v5 g6 hf => ?_)
  refine pt_getI C kX12 14 (by decide) tw_930 (Or.inl rfl) g6 dX12_go_29 ?_
  refine pt_aload_n C 0 rfl rfl dX12_go_32 ?_
  refine ob hf (fun v7 g8 hf => ?_)
  refine pt_getR C kX12 23 (by decide) tw_939 (Or.inl rfl) g8 dX12_go_33 ?_
  refine pt_iload_n C 1 rfl rfl dX12_go_36 ?_
  refine ob hf (fun v9 g10 hf => ?_)
  refine pt_iald C g10 dX12_go_37 ?_
  refine pt_aload_n C 0 rfl rfl dX12_go_38 ?_
  refine ob hf (fun v11 g12 hf => ?_)
  refine pt_getR C kX12 24 (by decide) tw_940 (Or.inl rfl) g12 dX12_go_39 ?_
  refine pt_iload_n C 1 rfl rfl dX12_go_42 ?_
  refine ob hf (fun v13 g14 hf => ?_)
  refine pt_iald C g14 dX12_go_43 ?_
  refine pt_aload_n C 0 rfl rfl dX12_go_44 ?_
  refine ob hf (fun v15 g16 hf => ?_)
  refine pt_getR C kX12 25 (by decide) tw_941 (Or.inl rfl) g16 dX12_go_45 ?_
  refine pt_iload_n C 1 rfl rfl dX12_go_48 ?_
  refine ob hf (fun v17 g18 hf => ?_)
  refine pt_iald C g18 dX12_go_49 ?_
  refine pt_iconst C (v := 0) (by decide) dX12_go_50 ?_
  refine ob hf (fun _ g21 hf => ?_)
  refine ob hf (fun q19 g20 hf => ?_)
  refine pt_callV C (As := [.int (a1 + 1), .int a2, .int v5, .int v9, .int v13, .int v17, .int 0]) (rest := []) (v := (some (.int q19.1))) (fun l => con_X12_work l a0 (a1 + 1) a2 v5 v9 v13 v17 0 h _ g20) tw_1140 tw_1137 tw_1139 tp_26 kX12 g21 tw_13 yn_X12_work (by decide) (Nat.le_of_ble_eq_true rfl) dX12_go_51 rfl ?_
  show PT X 4 0 0 54 [(0, .ref a0), (1, .int a1), (2, .int a2)] [.int q19.1] q19.2
  refine pt_istore_n C [(3, .int q19.1), (0, .ref a0), (1, .int a1), (2, .int a2)] rfl (by decide) rfl dX12_go_54 ?_
  refine pt_aload_n C 1 rfl rfl dX12_go_55 ?_
  refine ob hf (fun v22 g23 hf => ?_)
  refine pt_getR C kX12 29 (by decide) tw_945 (Or.inl rfl) g23 dX12_go_56 ?_
  refine pt_iload_n C 2 rfl rfl dX12_go_59 ?_
  refine pt_iconst C (v := 1) (by decide) dX12_go_60 ?_
  refine pt_iadd C dX12_go_61 ?_
  refine pt_aload_n C 1 rfl rfl dX12_go_62 ?_
  refine ob hf (fun v24 g25 hf => ?_)
  refine pt_getR C kX12 29 (by decide) tw_945 (Or.inl rfl) g25 dX12_go_63 ?_
  refine pt_iload_n C 2 rfl rfl dX12_go_66 ?_
  refine ob hf (fun v26 g27 hf => ?_)
  refine pt_iald C g27 dX12_go_67 ?_
  refine pt_iload_n C 2 rfl rfl dX12_go_68 ?_
  refine pt_if_le C (tgt := 79) (by decide) dX12_go_69 (fun c28 => ?_) (fun c28 => ?_)
  · rw [if_pos c28] at hf
    refine pt_iconst C (v := 0) (by decide) dX12_go_79 ?_
    refine pt_sub C [(3, .int q19.1)] [0] rfl ?_
    exact w_X12_go_J80 C a0 a1 a2 q19.1 0 v26 (a1 + 1) v22 q19.2 _ hf K
  · rw [if_neg c28] at hf
    refine pt_aload_n C 1 rfl rfl dX12_go_72 ?_
    refine ob hf (fun v32 g33 hf => ?_)
    refine pt_getI C kX12 26 (by decide) tw_942 (Or.inl rfl) g33 dX12_go_73 ?_
    refine pt_goto C (tgt := 80) (by decide) dX12_go_76 ?_
    refine pt_sub C [(3, .int q19.1)] [0] rfl ?_
    exact w_X12_go_J80 C a0 a1 a2 q19.1 v32 v26 (a1 + 1) v22 q19.2 _ hf K
set_option maxRecDepth 100000 in
set_option maxHeartbeats 4000000 in
theorem w_X12_go_0 {X : MX} (C : CX X cX12_go 4 RX12 (some .boolean) rmX12_go) (a0 : Nat) (a1 : Int32) (a2 : Int32) (h : AH) (res : Int32 × AH) (hf : f_X12_go a0 a1 a2 h = some res) (K : ∀ (v : Int32) (h2 : AH), res = (v, h2) → PR X rmX12_go (some (.int v)) h2) : PT X 4 0 0 0 [(0, .ref a0), (1, .int a1), (2, .int a2)] [] h := by
  unfold f_X12_go at hf
  refine pt_aload_n C 0 rfl rfl dX12_go_0 ?_
  refine pt_iload_n C 1 rfl rfl dX12_go_1 ?_
  refine pt_iload_n C 1 rfl rfl dX12_go_2 ?_
  refine pt_iconst C (v := 1) (by decide) dX12_go_3 ?_
  refine pt_iadd C dX12_go_4 ?_
  refine ob hf (fun _ g3 hf => ?_)
  refine ob hf (fun q1 g2 hf => ?_)
  refine pt_callV C (As := [.int a1, .int (a1 + 1)]) (rest := []) (v := none) (fun l => con_X12_carry l a0 a1 (a1 + 1) h _ g2) tw_1180 tw_1177 tw_1179 tp_31 kX12 g3 tw_13 yn_X12_carry (by decide) (Nat.le_of_ble_eq_true rfl) dX12_go_5 rfl ?_
  show PT X 4 0 0 8 [(0, .ref a0), (1, .int a1), (2, .int a2)] [] q1
  refine pt_iload_n C 1 rfl rfl dX12_go_8 ?_
  refine pt_if_le C (tgt := 23) (by decide) dX12_go_9 (fun c4 => ?_) (fun c4 => ?_)
  · rw [if_pos c4] at hf
    exact w_X12_go_J23 C a0 a1 a2 q1 _ hf K
  · rw [if_neg c4] at hf
    refine pt_aload_n C 0 rfl rfl dX12_go_12 ?_
    refine pt_iload_n C 1 rfl rfl dX12_go_13 ?_
    refine pt_iconst C (v := 1) (by decide) dX12_go_14 ?_
    refine pt_iadd C dX12_go_15 ?_
    refine pt_aload_n C 0 rfl rfl dX12_go_16 ?_
    refine ob hf (fun v34 g35 hf => ?_)
    refine pt_getI C kX12 26 (by decide) tw_942 (Or.inl rfl) g35 dX12_go_17 ?_
    refine ob hf (fun _ g38 hf => ?_)
    refine ob hf (fun q36 g37 hf => ?_)
    refine pt_callV C (As := [.int (a1 + 1), .int v34]) (rest := []) (v := none) (fun l => con_X12_restAll l a0 (a1 + 1) v34 q1 _ g37) tw_1124 tw_1121 tw_1123 tp_25 kX12 g38 tw_13 yn_X12_restAll (by decide) (Nat.le_of_ble_eq_true rfl) dX12_go_20 rfl ?_
    show PT X 4 0 0 23 [(0, .ref a0), (1, .int a1), (2, .int a2)] [] q36
    exact w_X12_go_J23 C a0 a1 a2 q36 _ hf K
theorem con_X12_go (l : Launch) (a0 : Nat) (a1 : Int32) (a2 : Int32) (h : AH) (q : Int32 × AH) (hf : f_X12_go a0 a1 a2 h = some q) : Con l yX12_go cX12_go 4 (some .boolean) rmX12_go [.ref a0, .int a1, .int a2] h (some (.int q.1)) q.2 := Con.of (by decide +kernel) (Nat.le_of_ble_eq_true rfl) (fun X C I K => w_X12_go_0 C a0 a1 a2 h q hf (fun v h2 e => by cases e; exact K))
abbrev rmX12_findPlan : Room := { frames := 4, cells := 0, slots := 0, locals := 104 }
theorem yn_X12_findPlan : YN yX12_findPlan 0 := by refine ⟨?_, ?_, ?_⟩ <;> decide +kernel
set_option maxRecDepth 100000 in
set_option maxHeartbeats 4000000 in
theorem w_X12_findPlan_L134 {X : MX} (C : CX X cX12_findPlan 4 RX12 (some .int) rmX12_findPlan) (x0 : Nat) (x1 : Int32) (x2 : Int32) (s : Int32 × AH) (res : (Int32 × AH) ⊕ ((AH))) (hf : f_X12_findPlan_L134 x0 x1 x2 s = some res) (K0 : ∀ (u3 : Int32) (hu : AH), res = .inl (u3, hu) → PT X 4 0 0 134 [(0, .ref x0), (1, .int x1), (2, .int x2), (3, .int u3)] [] hu) (K1 : ∀ (hu : AH), res = .inr (hu) → PT X 4 0 0 160 [(0, .ref x0), (1, .int x1), (2, .int x2)] [] hu) : PT X 4 0 0 134 [(0, .ref x0), (1, .int x1), (2, .int x2), (3, .int s.1)] [] s.2 := by
  unfold f_X12_findPlan_L134 at hf
  refine pt_iload_n C 3 rfl rfl dX12_findPlan_134 ?_
  refine pt_aload_n C 0 rfl rfl dX12_findPlan_135 ?_
  refine ob hf (fun v35 g36 hf => ?_)
  refine pt_getI C kX12 22 (by decide) tw_938 (Or.inl rfl) g36 dX12_findPlan_136 ?_
  refine pt_icmp_ge C (tgt := 160) (by decide) dX12_findPlan_139 (fun c37 => ?_) (fun c37 => ?_)
  · rw [if_pos c37] at hf
    refine pt_sub C [(0, .ref x0), (1, .int x1), (2, .int x2)] [0, 1, 2] rfl ?_
    exact K1 _ (Option.some.inj hf).symm
  · rw [if_neg c37] at hf
    refine pt_aload_n C 0 rfl rfl dX12_findPlan_142 ?_
    refine ob hf (fun v38 g39 hf => ?_)
    refine pt_getR C kX12 28 (by decide) tw_944 (Or.inl rfl) g39 dX12_findPlan_143 ?_
    refine pt_iload_n C 3 rfl rfl dX12_findPlan_146 ?_
    refine pt_aload_n C 0 rfl rfl dX12_findPlan_147 ?_
    refine ob hf (fun v40 g41 hf => ?_)
    refine pt_getR C kX12 27 (by decide) tw_943 (Or.inl rfl) g41 dX12_findPlan_148 ?_
    refine pt_iload_n C 3 rfl rfl dX12_findPlan_151 ?_
    refine ob hf (fun v42 g43 hf => ?_)
    refine pt_iald C g43 dX12_findPlan_152 ?_
    refine ob hf (fun h44 g45 hf => ?_)
    refine pt_iast C g45 dX12_findPlan_153 ?_
    refine pt_iinc C 3 [(3, .int (s.1 + 1)), (0, .ref x0), (1, .int x1), (2, .int x2)] rfl (iinc_eq s.1 (by decide)) (by decide) rfl dX12_findPlan_154 ?_
    refine pt_goto C (tgt := 134) (by decide) dX12_findPlan_157 ?_
    refine pt_sub C [(0, .ref x0), (1, .int x1), (2, .int x2), (3, .int (s.1 + 1))] [1, 2, 3, 0] rfl ?_
    exact K0 _ _ (Option.some.inj hf).symm
theorem l_X12_findPlan_L134 {X : MX} (C : CX X cX12_findPlan 4 RX12 (some .int) rmX12_findPlan) (x0 : Nat) (x1 : Int32) (x2 : Int32) : ∀ (n : Nat) (s : Int32 × AH) (r : (AH)), iter (f_X12_findPlan_L134 x0 x1 x2) n s = some r → (fun r : (AH) => PT X 4 0 0 160 [(0, .ref x0), (1, .int x1), (2, .int x2)] [] r) r → PT X 4 0 0 134 [(0, .ref x0), (1, .int x1), (2, .int x2), (3, .int s.1)] [] s.2 :=
  iter_W (fun s : Int32 × AH => PT X 4 0 0 134 [(0, .ref x0), (1, .int x1), (2, .int x2), (3, .int s.1)] [] s.2) (fun r : (AH) => PT X 4 0 0 160 [(0, .ref x0), (1, .int x1), (2, .int x2)] [] r) _ (fun s s2 hf P => w_X12_findPlan_L134 C x0 x1 x2 s _ hf (fun u3 hu e => by cases e; exact P) (fun hu e => by cases e)) (fun s r hf P => w_X12_findPlan_L134 C x0 x1 x2 s _ hf (fun u3 hu e => by cases e) (fun hu e => by cases e; exact P))
set_option maxRecDepth 100000 in
set_option maxHeartbeats 4000000 in
theorem w_X12_findPlan_L18_J160 {X : MX} (C : CX X cX12_findPlan 4 RX12 (some .int) rmX12_findPlan) (x0 : Nat) (y1 : Int32) (y2 : Int32) (h : AH) (res : (Int32 × Int32 × AH) ⊕ ((Int32 × AH))) (hf : f_X12_findPlan_L18_J160 x0 y1 y2 h = some res) (K0 : ∀ (u1 : Int32) (u2 : Int32) (hu : AH), res = .inl (u1, u2, hu) → PT X 4 0 0 18 [(0, .ref x0), (1, .int u1), (2, .int u2)] [] hu) (K1 : ∀ (u1 : Int32) (hu : AH), res = .inr ((u1, hu)) → PT X 4 0 0 173 [(1, .int u1)] [] hu) : PT X 4 0 0 160 [(0, .ref x0), (1, .int y1), (2, .int y2)] [] h := by
  unfold f_X12_findPlan_L18_J160 at hf
  refine pt_aload_n C 0 rfl rfl dX12_findPlan_160 ?_
  refine ob hf (fun v48 g49 hf => ?_)
  refine pt_getR C kX12 27 (by decide) tw_943 (Or.inl rfl) g49 dX12_findPlan_161 ?_
  refine pt_iload_n C 2 rfl rfl dX12_findPlan_164 ?_
  refine pt_dup2 C rfl rfl dX12_findPlan_165 ?_
  refine ob hf (fun v50 g51 hf => ?_)
  refine pt_iald C g51 dX12_findPlan_166 ?_
  refine pt_iconst C (v := 1) (by decide) dX12_findPlan_167 ?_
  refine pt_iadd C dX12_findPlan_168 ?_
  refine ob hf (fun h52 g53 hf => ?_)
  refine pt_iast C g53 dX12_findPlan_169 ?_
  refine pt_goto C (tgt := 18) (by decide) dX12_findPlan_170 ?_
  exact K0 _ _ _ (Option.some.inj hf).symm
set_option maxRecDepth 100000 in
set_option maxHeartbeats 4000000 in
theorem w_X12_findPlan_L18_J122 {X : MX} (C : CX X cX12_findPlan 4 RX12 (some .int) rmX12_findPlan) (x0 : Nat) (y2 : Int32) (h : AH) (res : (Int32 × Int32 × AH) ⊕ ((Int32 × AH))) (hf : f_X12_findPlan_L18_J122 x0 y2 h = some res) (K0 : ∀ (u1 : Int32) (u2 : Int32) (hu : AH), res = .inl (u1, u2, hu) → PT X 4 0 0 18 [(0, .ref x0), (1, .int u1), (2, .int u2)] [] hu) (K1 : ∀ (u1 : Int32) (hu : AH), res = .inr ((u1, hu)) → PT X 4 0 0 173 [(1, .int u1)] [] hu) : PT X 4 0 0 122 [(0, .ref x0), (2, .int y2)] [] h := by
  unfold f_X12_findPlan_L18_J122 at hf
  refine pt_aload_n C 0 rfl rfl dX12_findPlan_122 ?_
  refine ob hf (fun v29 g30 hf => ?_)
  refine pt_getR C kX12 29 (by decide) tw_945 (Or.inl rfl) g30 dX12_findPlan_123 ?_
  refine pt_aload_n C 0 rfl rfl dX12_findPlan_126 ?_
  refine ob hf (fun v31 g32 hf => ?_)
  refine pt_getI C kX12 22 (by decide) tw_938 (Or.inl rfl) g32 dX12_findPlan_127 ?_
  refine ob hf (fun v33 g34 hf => ?_)
  refine pt_iald C g34 dX12_findPlan_130 ?_
  refine pt_istore_n C [(1, .int v33), (0, .ref x0), (2, .int y2)] rfl (by decide) rfl dX12_findPlan_131 ?_
  refine pt_iconst C (v := 0) (by decide) dX12_findPlan_132 ?_
  refine pt_istore_n C [(3, .int 0), (1, .int v33), (0, .ref x0), (2, .int y2)] rfl (by decide) rfl dX12_findPlan_133 ?_
  refine pt_sub C [(0, .ref x0), (1, .int v33), (2, .int y2), (3, .int 0)] [2, 1, 3, 0] rfl ?_
  refine ob hf (fun e46 g47 hf => ?_)
  refine l_X12_findPlan_L134 C x0 v33 y2 _ _ _ g47 ?_
  exact w_X12_findPlan_L18_J160 C x0 v33 y2 e46 _ hf K0 K1
set_option maxRecDepth 100000 in
set_option maxHeartbeats 4000000 in
theorem w_X12_findPlan_L18 {X : MX} (C : CX X cX12_findPlan 4 RX12 (some .int) rmX12_findPlan) (x0 : Nat) (s : Int32 × Int32 × AH) (res : (Int32 × Int32 × AH) ⊕ ((Int32 × AH))) (hf : f_X12_findPlan_L18 x0 s = some res) (K0 : ∀ (u1 : Int32) (u2 : Int32) (hu : AH), res = .inl (u1, u2, hu) → PT X 4 0 0 18 [(0, .ref x0), (1, .int u1), (2, .int u2)] [] hu) (K1 : ∀ (u1 : Int32) (hu : AH), res = .inr ((u1, hu)) → PT X 4 0 0 173 [(1, .int u1)] [] hu) : PT X 4 0 0 18 [(0, .ref x0), (1, .int s.1), (2, .int s.2.1)] [] s.2.2 := by
  unfold f_X12_findPlan_L18 at hf
  refine pt_iload_n C 2 rfl rfl dX12_findPlan_18 ?_
  refine pt_if_lt C (tgt := 173) (by decide) dX12_findPlan_19 (fun c9 => ?_) (fun c9 => ?_)
  · rw [if_pos c9] at hf
    refine pt_sub C [(1, .int s.1)] [1] rfl ?_
    exact K1 _ _ (Option.some.inj hf).symm
  · rw [if_neg c9] at hf
    refine pt_aload_n C 0 rfl rfl dX12_findPlan_22 ?_
    refine ob hf (fun v10 g11 hf => ?_)
    refine pt_getR C kX12 27 (by decide) tw_943 (Or.inl rfl) g11 dX12_findPlan_23 ?_
    refine pt_iload_n C 2 rfl rfl dX12_findPlan_26 ?_
    refine ob hf (fun v12 g13 hf => ?_)
    refine pt_iald C g13 dX12_findPlan_27 ?_
    refine pt_aload_n C 0 rfl rfl dX12_findPlan_28 ?_
    refine ob hf (fun v14 g15 hf => ?_)
    refine pt_getI C kX12 0 (by decide) tw_916 (Or.inl rfl) g15 dX12_findPlan_29 ?_
    refine pt_icmp_ne C (tgt := 55) (by decide) dX12_findPlan_32 (fun c16 => ?_) (fun c16 => ?_)
    · rw [if_neg c16] at hf
      refine pt_aload_n C 0 rfl rfl dX12_findPlan_55 ?_
      refine pt_iload_n C 2 rfl rfl dX12_findPlan_56 ?_
      refine pt_aload_n C 0 rfl rfl dX12_findPlan_57 ?_
      refine ob hf (fun v17 g18 hf => ?_)
      refine pt_getR C kX12 27 (by decide) tw_943 (Or.inl rfl) g18 dX12_findPlan_58 ?_
      refine pt_iload_n C 2 rfl rfl dX12_findPlan_61 ?_
      refine ob hf (fun v19 g20 hf => ?_)
      refine pt_iald C g20 dX12_findPlan_62 ?_
      refine ob hf (fun _ g23 hf => ?_)
      refine ob hf (fun q21 g22 hf => ?_)
      refine pt_callV C (As := [.int s.2.1, .int v19]) (rest := []) (v := (some (.int q21.1))) (fun l => con_X12_go l x0 s.2.1 v19 s.2.2 _ g22) tw_1176 tw_1173 tw_1175 tp_30 kX12 g23 tw_13 yn_X12_go (by decide) (Nat.le_of_ble_eq_true rfl) dX12_findPlan_63 rfl ?_
      show PT X 4 0 0 66 [(0, .ref x0), (1, .int s.1), (2, .int s.2.1)] [.int q21.1] q21.2
      refine pt_if_ne C (tgt := 82) (by decide) dX12_findPlan_66 (fun c24 => ?_) (fun c24 => ?_)
      · rw [if_neg c24] at hf
        refine pt_iload_n C 2 rfl rfl dX12_findPlan_82 ?_
        refine pt_iconst C (v := 1) (by decide) dX12_findPlan_83 ?_
        refine pt_iadd C dX12_findPlan_84 ?_
        refine pt_aload_n C 0 rfl rfl dX12_findPlan_85 ?_
        refine ob hf (fun v25 g26 hf => ?_)
        refine pt_getI C kX12 22 (by decide) tw_938 (Or.inl rfl) g26 dX12_findPlan_86 ?_
        refine pt_icmp_ge C (tgt := 105) (by decide) dX12_findPlan_89 (fun c27 => ?_) (fun c27 => ?_)
        · rw [if_pos c27] at hf
          refine pt_iload_n C 1 rfl rfl dX12_findPlan_105 ?_
          refine pt_if_lt C (tgt := 122) (by decide) dX12_findPlan_106 (fun c28 => ?_) (fun c28 => ?_)
          · rw [if_pos c28] at hf
            refine pt_sub C [(0, .ref x0), (2, .int s.2.1)] [0, 2] rfl ?_
            exact w_X12_findPlan_L18_J122 C x0 s.2.1 q21.2 _ hf K0 K1
          · rw [if_neg c28] at hf
            refine pt_aload_n C 0 rfl rfl dX12_findPlan_109 ?_
            refine ob hf (fun v54 g55 hf => ?_)
            refine pt_getR C kX12 29 (by decide) tw_945 (Or.inl rfl) g55 dX12_findPlan_110 ?_
            refine pt_aload_n C 0 rfl rfl dX12_findPlan_113 ?_
            refine ob hf (fun v56 g57 hf => ?_)
            refine pt_getI C kX12 22 (by decide) tw_938 (Or.inl rfl) g57 dX12_findPlan_114 ?_
            refine ob hf (fun v58 g59 hf => ?_)
            refine pt_iald C g59 dX12_findPlan_117 ?_
            refine pt_iload_n C 1 rfl rfl dX12_findPlan_118 ?_
            refine pt_icmp_ge C (tgt := 160) (by decide) dX12_findPlan_119 (fun c60 => ?_) (fun c60 => ?_)
            · rw [if_pos c60] at hf
              exact w_X12_findPlan_L18_J160 C x0 s.1 s.2.1 q21.2 _ hf K0 K1
            · rw [if_neg c60] at hf
              refine pt_sub C [(0, .ref x0), (2, .int s.2.1)] [0, 2] rfl ?_
              exact w_X12_findPlan_L18_J122 C x0 s.2.1 q21.2 _ hf K0 K1
        · rw [if_neg c27] at hf
          refine pt_iinc C 2 [(2, .int (s.2.1 + 1)), (0, .ref x0), (1, .int s.1)] rfl (iinc_eq s.2.1 (by decide)) (by decide) rfl dX12_findPlan_92 ?_
          refine pt_aload_n C 1 rfl rfl dX12_findPlan_95 ?_
          refine ob hf (fun v61 g62 hf => ?_)
          refine pt_getR C kX12 27 (by decide) tw_943 (Or.inl rfl) g62 dX12_findPlan_96 ?_
          refine pt_iload_n C 0 rfl rfl dX12_findPlan_99 ?_
          refine pt_iconst C (v := 0) (by decide) dX12_findPlan_100 ?_
          refine ob hf (fun h63 g64 hf => ?_)
          refine pt_iast C g64 dX12_findPlan_101 ?_
          refine pt_goto C (tgt := 18) (by decide) dX12_findPlan_102 ?_
          refine pt_sub C [(0, .ref x0), (1, .int s.1), (2, .int (s.2.1 + 1))] [1, 2, 0] rfl ?_
          exact K0 _ _ _ (Option.some.inj hf).symm
      · rw [if_pos c24] at hf
        refine pt_aload_n C 0 rfl rfl dX12_findPlan_69 ?_
        refine ob hf (fun v65 g66 hf => ?_)
        refine pt_getR C kX12 27 (by decide) tw_943 (Or.inl rfl) g66 dX12_findPlan_70 ?_
        refine pt_iload_n C 2 rfl rfl dX12_findPlan_73 ?_
        refine pt_dup2 C rfl rfl dX12_findPlan_74 ?_
        refine ob hf (fun v67 g68 hf => ?_)
        refine pt_iald C g68 dX12_findPlan_75 ?_
        refine pt_iconst C (v := 1) (by decide) dX12_findPlan_76 ?_
        refine pt_iadd C dX12_findPlan_77 ?_
        refine ob hf (fun h69 g70 hf => ?_)
        refine pt_iast C g70 dX12_findPlan_78 ?_
        refine pt_goto C (tgt := 18) (by decide) dX12_findPlan_79 ?_
        exact K0 _ _ _ (Option.some.inj hf).symm
    · rw [if_pos c16] at hf
      refine pt_iinc C 2 [(2, .int (s.2.1 + (-1))), (0, .ref x0), (1, .int s.1)] rfl (iinc_eq s.2.1 (by decide)) (by decide) rfl dX12_findPlan_35 ?_
      refine pt_iload_n C 0 rfl rfl dX12_findPlan_38 ?_
      refine pt_if_lt C (tgt := 18) (by decide) dX12_findPlan_39 (fun c71 => ?_) (fun c71 => ?_)
      · rw [if_pos c71] at hf
        refine pt_sub C [(0, .ref x0), (1, .int s.1), (2, .int (s.2.1 + (-1)))] [1, 2, 0] rfl ?_
        exact K0 _ _ _ (Option.some.inj hf).symm
      · rw [if_neg c71] at hf
        refine pt_aload_n C 1 rfl rfl dX12_findPlan_42 ?_
        refine ob hf (fun v72 g73 hf => ?_)
        refine pt_getR C kX12 27 (by decide) tw_943 (Or.inl rfl) g73 dX12_findPlan_43 ?_
        refine pt_iload_n C 0 rfl rfl dX12_findPlan_46 ?_
        refine pt_dup2 C rfl rfl dX12_findPlan_47 ?_
        refine ob hf (fun v74 g75 hf => ?_)
        refine pt_iald C g75 dX12_findPlan_48 ?_
        refine pt_iconst C (v := 1) (by decide) dX12_findPlan_49 ?_
        refine pt_iadd C dX12_findPlan_50 ?_
        refine ob hf (fun h76 g77 hf => ?_)
        refine pt_iast C g77 dX12_findPlan_51 ?_
        refine pt_goto C (tgt := 18) (by decide) dX12_findPlan_52 ?_
        refine pt_sub C [(0, .ref x0), (1, .int s.1), (2, .int (s.2.1 + (-1)))] [1, 2, 0] rfl ?_
        exact K0 _ _ _ (Option.some.inj hf).symm
theorem l_X12_findPlan_L18 {X : MX} (C : CX X cX12_findPlan 4 RX12 (some .int) rmX12_findPlan) (x0 : Nat) : ∀ (n : Nat) (s : Int32 × Int32 × AH) (r : (Int32 × AH)), iter (f_X12_findPlan_L18 x0) n s = some r → (fun r : (Int32 × AH) => PT X 4 0 0 173 [(1, .int r.1)] [] r.2) r → PT X 4 0 0 18 [(0, .ref x0), (1, .int s.1), (2, .int s.2.1)] [] s.2.2 :=
  iter_W (fun s : Int32 × Int32 × AH => PT X 4 0 0 18 [(0, .ref x0), (1, .int s.1), (2, .int s.2.1)] [] s.2.2) (fun r : (Int32 × AH) => PT X 4 0 0 173 [(1, .int r.1)] [] r.2) _ (fun s s2 hf P => w_X12_findPlan_L18 C x0 s _ hf (fun u1 u2 hu e => by cases e; exact P) (fun u1 hu e => by cases e)) (fun s r hf P => w_X12_findPlan_L18 C x0 s _ hf (fun u1 u2 hu e => by cases e) (fun u1 hu e => by cases e; exact P))
set_option maxRecDepth 100000 in
set_option maxHeartbeats 4000000 in
theorem w_X12_findPlan_0 {X : MX} (C : CX X cX12_findPlan 4 RX12 (some .int) rmX12_findPlan) (a0 : Nat) (h : AH) (res : Int32 × AH) (hf : f_X12_findPlan a0 h = some res) (K : ∀ (v : Int32) (h2 : AH), res = (v, h2) → PR X rmX12_findPlan (some (.int v)) h2) : PT X 4 0 0 0 [(0, .ref a0)] [] h := by
  unfold f_X12_findPlan at hf
  refine pt_iconst C (v := (-1)) (by decide) dX12_findPlan_0 ?_
  refine pt_istore_n C [(1, .int (-1)), (0, .ref a0)] rfl (by decide) rfl dX12_findPlan_1 ?_
  refine pt_aload_n C 1 rfl rfl dX12_findPlan_2 ?_
  refine ob hf (fun v1 g2 hf => ?_)
  refine pt_getR C kX12 29 (by decide) tw_945 (Or.inl rfl) g2 dX12_findPlan_3 ?_
  refine pt_iconst C (v := 0) (by decide) dX12_findPlan_6 ?_
  refine pt_iconst C (v := 0) (by decide) dX12_findPlan_7 ?_
  refine ob hf (fun h3 g4 hf => ?_)
  refine pt_iast C g4 dX12_findPlan_8 ?_
  refine pt_iconst C (v := 0) (by decide) dX12_findPlan_9 ?_
  refine pt_istore_n C [(2, .int 0), (1, .int (-1)), (0, .ref a0)] rfl (by decide) rfl dX12_findPlan_10 ?_
  refine pt_aload_n C 2 rfl rfl dX12_findPlan_11 ?_
  refine ob hf (fun v5 g6 hf => ?_)
  refine pt_getR C kX12 27 (by decide) tw_943 (Or.inl rfl) g6 dX12_findPlan_12 ?_
  refine pt_iconst C (v := 0) (by decide) dX12_findPlan_15 ?_
  refine pt_iconst C (v := 0) (by decide) dX12_findPlan_16 ?_
  refine ob hf (fun h7 g8 hf => ?_)
  refine pt_iast C g8 dX12_findPlan_17 ?_
  refine pt_sub C [(0, .ref a0), (1, .int (-1)), (2, .int 0)] [2, 1, 0] rfl ?_
  refine ob hf (fun e78 g79 hf => ?_)
  refine l_X12_findPlan_L18 C a0 _ _ _ g79 ?_
  refine pt_iload_n C 0 rfl rfl dX12_findPlan_173 ?_
  exact pt_iret C (K _ _ (Option.some.inj hf).symm) (by decide) (by decide) dX12_findPlan_174
theorem con_X12_findPlan (l : Launch) (a0 : Nat) (h : AH) (q : Int32 × AH) (hf : f_X12_findPlan a0 h = some q) : Con l yX12_findPlan cX12_findPlan 4 (some .int) rmX12_findPlan [.ref a0] h (some (.int q.1)) q.2 := Con.of (by decide +kernel) (Nat.le_of_ble_eq_true rfl) (fun X C I K => w_X12_findPlan_0 C a0 h q hf (fun v h2 e => by cases e; exact K))
abbrev rmX12_findTree : Room := { frames := 3, cells := 0, slots := 0, locals := 75 }
theorem yn_X12_findTree : YN yX12_findTree 0 := by refine ⟨?_, ?_, ?_⟩ <;> decide +kernel
set_option maxRecDepth 100000 in
set_option maxHeartbeats 4000000 in
theorem w_X12_findTree_L48_J89 {X : MX} (C : CX X cX12_findTree 9 RX12 none rmX12_findTree) (x0 : Nat) (x1 : Int32) (x2 : Int32) (x6 : Int32) (y3 : Int32) (y4 : Int32) (y5 : Int32) (y7 : Int32) (z0 : Int32) (h : AH) (res : (Int32 × Int32 × Int32 × Int32 × AH) ⊕ ((Int32 × Int32 × Int32 × AH))) (hf : f_X12_findTree_L48_J89 x0 x1 x2 x6 y3 y4 y5 y7 z0 h = some res) (K0 : ∀ (u3 : Int32) (u4 : Int32) (u5 : Int32) (u7 : Int32) (hu : AH), res = .inl (u3, u4, u5, u7, hu) → PT X 9 0 0 48 [(0, .ref x0), (1, .int x1), (2, .int x2), (3, .int u3), (4, .int u4), (5, .int u5), (6, .int x6), (7, .int u7)] [] hu) (K1 : ∀ (u3 : Int32) (u4 : Int32) (u5 : Int32) (hu : AH), res = .inr ((u3, u4, u5, hu)) → PT X 9 0 0 115 [(0, .ref x0), (1, .int x1), (2, .int x2), (3, .int u3), (4, .int u4), (5, .int u5), (6, .int x6)] [] hu) : PT X 9 0 0 89 [(0, .ref x0), (1, .int x1), (2, .int x2), (3, .int y3), (4, .int y4), (5, .int y5), (6, .int x6), (7, .int y7)] [.int z0] h := by
  unfold f_X12_findTree_L48_J89 at hf
  refine pt_istore C [(8, .int z0), (0, .ref x0), (1, .int x1), (2, .int x2), (3, .int y3), (4, .int y4), (5, .int y5), (6, .int x6), (7, .int y7)] (by decide) rfl dX12_findTree_89 ?_
  refine pt_iload C 0 rfl dX12_findTree_91 ?_
  refine pt_iload C 5 rfl dX12_findTree_93 ?_
  refine pt_icmp_ge C (tgt := 109) (by decide) dX12_findTree_95 (fun c18 => ?_) (fun c18 => ?_)
  · rw [if_pos c18] at hf
    refine pt_iinc C 8 [(7, .int (y7 + 1)), (8, .int z0), (0, .ref x0), (1, .int x1), (2, .int x2), (3, .int y3), (4, .int y4), (5, .int y5), (6, .int x6)] rfl (iinc_eq y7 (by decide)) (by decide) rfl dX12_findTree_109 ?_
    refine pt_goto C (tgt := 48) (by decide) dX12_findTree_112 ?_
    refine pt_sub C [(0, .ref x0), (1, .int x1), (2, .int x2), (3, .int y3), (4, .int y4), (5, .int y5), (6, .int x6), (7, .int (y7 + 1))] [2, 3, 4, 5, 6, 7, 8, 0] rfl ?_
    exact K0 _ _ _ _ _ (Option.some.inj hf).symm
  · rw [if_neg c18] at hf
    refine pt_iload C 0 rfl dX12_findTree_98 ?_
    refine pt_istore C [(4, .int z0), (8, .int z0), (0, .ref x0), (1, .int x1), (2, .int x2), (3, .int y3), (5, .int y5), (6, .int x6), (7, .int y7)] (by decide) rfl dX12_findTree_100 ?_
    refine pt_iload C 7 rfl dX12_findTree_102 ?_
    refine pt_istore_n C [(3, .int x6), (4, .int z0), (8, .int z0), (0, .ref x0), (1, .int x1), (2, .int x2), (5, .int y5), (6, .int x6), (7, .int y7)] rfl (by decide) rfl dX12_findTree_104 ?_
    refine pt_iload C 8 rfl dX12_findTree_105 ?_
    refine pt_istore C [(5, .int y7), (3, .int x6), (4, .int z0), (8, .int z0), (0, .ref x0), (1, .int x1), (2, .int x2), (6, .int x6), (7, .int y7)] (by decide) rfl dX12_findTree_107 ?_
    refine pt_iinc C 8 [(7, .int (y7 + 1)), (5, .int y7), (3, .int x6), (4, .int z0), (8, .int z0), (0, .ref x0), (1, .int x1), (2, .int x2), (6, .int x6)] rfl (iinc_eq y7 (by decide)) (by decide) rfl dX12_findTree_109 ?_
    refine pt_goto C (tgt := 48) (by decide) dX12_findTree_112 ?_
    refine pt_sub C [(0, .ref x0), (1, .int x1), (2, .int x2), (3, .int x6), (4, .int z0), (5, .int y7), (6, .int x6), (7, .int (y7 + 1))] [5, 6, 7, 2, 3, 1, 8, 0] rfl ?_
    exact K0 _ _ _ _ _ (Option.some.inj hf).symm
set_option maxRecDepth 100000 in
set_option maxHeartbeats 4000000 in
theorem w_X12_findTree_L48 {X : MX} (C : CX X cX12_findTree 9 RX12 none rmX12_findTree) (x0 : Nat) (x1 : Int32) (x2 : Int32) (x6 : Int32) (s : Int32 × Int32 × Int32 × Int32 × AH) (res : (Int32 × Int32 × Int32 × Int32 × AH) ⊕ ((Int32 × Int32 × Int32 × AH))) (hf : f_X12_findTree_L48 x0 x1 x2 x6 s = some res) (K0 : ∀ (u3 : Int32) (u4 : Int32) (u5 : Int32) (u7 : Int32) (hu : AH), res = .inl (u3, u4, u5, u7, hu) → PT X 9 0 0 48 [(0, .ref x0), (1, .int x1), (2, .int x2), (3, .int u3), (4, .int u4), (5, .int u5), (6, .int x6), (7, .int u7)] [] hu) (K1 : ∀ (u3 : Int32) (u4 : Int32) (u5 : Int32) (hu : AH), res = .inr ((u3, u4, u5, hu)) → PT X 9 0 0 115 [(0, .ref x0), (1, .int x1), (2, .int x2), (3, .int u3), (4, .int u4), (5, .int u5), (6, .int x6)] [] hu) : PT X 9 0 0 48 [(0, .ref x0), (1, .int x1), (2, .int x2), (3, .int s.1), (4, .int s.2.1), (5, .int s.2.2.1), (6, .int x6), (7, .int s.2.2.2.1)] [] s.2.2.2.2 := by
  unfold f_X12_findTree_L48 at hf
  refine pt_iload C 7 rfl dX12_findTree_48 ?_
  refine pt_aload_n C 0 rfl rfl dX12_findTree_50 ?_
  refine ob hf (fun v13 g14 hf => ?_)
  refine pt_getI C kX12 0 (by decide) tw_916 (Or.inl rfl) g14 dX12_findTree_51 ?_
  refine pt_icmp_ge C (tgt := 115) (by decide) dX12_findTree_54 (fun c15 => ?_) (fun c15 => ?_)
  · rw [if_pos c15] at hf
    refine pt_sub C [(0, .ref x0), (1, .int x1), (2, .int x2), (3, .int s.1), (4, .int s.2.1), (5, .int s.2.2.1), (6, .int x6)] [0, 1, 2, 3, 4, 5, 6] rfl ?_
    exact K1 _ _ _ _ (Option.some.inj hf).symm
  · rw [if_neg c15] at hf
    refine pt_iload_n C 1 rfl rfl dX12_findTree_57 ?_
    refine pt_iload C 6 rfl dX12_findTree_58 ?_
    refine pt_ishr C dX12_findTree_60 ?_
    refine pt_iconst C (v := 1) (by decide) dX12_findTree_61 ?_
    refine pt_iand C dX12_findTree_62 ?_
    refine pt_if_ne C (tgt := 115) (by decide) dX12_findTree_63 (fun c16 => ?_) (fun c16 => ?_)
    · rw [if_neg c16] at hf
      refine pt_sub C [(0, .ref x0), (1, .int x1), (2, .int x2), (3, .int s.1), (4, .int s.2.1), (5, .int s.2.2.1), (6, .int x6)] [0, 1, 2, 3, 4, 5, 6] rfl ?_
      exact K1 _ _ _ _ (Option.some.inj hf).symm
    · rw [if_pos c16] at hf
      refine pt_iload_n C 1 rfl rfl dX12_findTree_66 ?_
      refine pt_iload C 7 rfl dX12_findTree_67 ?_
      refine pt_ishr C dX12_findTree_69 ?_
      refine pt_iconst C (v := 1) (by decide) dX12_findTree_70 ?_
      refine pt_iand C dX12_findTree_71 ?_
      refine pt_iconst C (v := 1) (by decide) dX12_findTree_72 ?_
      refine pt_icmp_ne C (tgt := 87) (by decide) dX12_findTree_73 (fun c17 => ?_) (fun c17 => ?_)
      · rw [if_neg c17] at hf
        refine pt_ldc C tw_1218 dX12_findTree_87 ?_
        exact w_X12_findTree_L48_J89 C x0 x1 x2 x6 s.1 s.2.1 s.2.2.1 s.2.2.2.1 1000000000 s.2.2.2.2 _ hf K0 K1
      · rw [if_pos c17] at hf
        refine pt_aload_n C 0 rfl rfl dX12_findTree_76 ?_
        refine pt_iload C 6 rfl dX12_findTree_77 ?_
        refine pt_iload C 7 rfl dX12_findTree_79 ?_
        refine ob hf (fun _ g21 hf => ?_)
        refine ob hf (fun q19 g20 hf => ?_)
        refine pt_callV C (As := [.int x6, .int s.2.2.2.1]) (rest := []) (v := (some (.int q19.1))) (fun l => con_X12_apartOf l x0 x6 s.2.2.2.1 s.2.2.2.2 _ g20) tw_1274 tw_1271 tw_1273 tp_39 kX12 g21 tw_13 yn_X12_apartOf (by decide) (Nat.le_of_ble_eq_true rfl) dX12_findTree_81 rfl ?_
        show PT X 9 0 0 84 [(0, .ref x0), (1, .int x1), (2, .int x2), (3, .int s.1), (4, .int s.2.1), (5, .int s.2.2.1), (6, .int x6), (7, .int s.2.2.2.1)] [.int q19.1] q19.2
        refine pt_goto C (tgt := 89) (by decide) dX12_findTree_84 ?_
        exact w_X12_findTree_L48_J89 C x0 x1 x2 x6 s.1 s.2.1 s.2.2.1 s.2.2.2.1 q19.1 q19.2 _ hf K0 K1
theorem l_X12_findTree_L48 {X : MX} (C : CX X cX12_findTree 9 RX12 none rmX12_findTree) (x0 : Nat) (x1 : Int32) (x2 : Int32) (x6 : Int32) : ∀ (n : Nat) (s : Int32 × Int32 × Int32 × Int32 × AH) (r : (Int32 × Int32 × Int32 × AH)), iter (f_X12_findTree_L48 x0 x1 x2 x6) n s = some r → (fun r : (Int32 × Int32 × Int32 × AH) => PT X 9 0 0 115 [(0, .ref x0), (1, .int x1), (2, .int x2), (3, .int r.1), (4, .int r.2.1), (5, .int r.2.2.1), (6, .int x6)] [] r.2.2.2) r → PT X 9 0 0 48 [(0, .ref x0), (1, .int x1), (2, .int x2), (3, .int s.1), (4, .int s.2.1), (5, .int s.2.2.1), (6, .int x6), (7, .int s.2.2.2.1)] [] s.2.2.2.2 :=
  iter_W (fun s : Int32 × Int32 × Int32 × Int32 × AH => PT X 9 0 0 48 [(0, .ref x0), (1, .int x1), (2, .int x2), (3, .int s.1), (4, .int s.2.1), (5, .int s.2.2.1), (6, .int x6), (7, .int s.2.2.2.1)] [] s.2.2.2.2) (fun r : (Int32 × Int32 × Int32 × AH) => PT X 9 0 0 115 [(0, .ref x0), (1, .int x1), (2, .int x2), (3, .int r.1), (4, .int r.2.1), (5, .int r.2.2.1), (6, .int x6)] [] r.2.2.2) _ (fun s s2 hf P => w_X12_findTree_L48 C x0 x1 x2 x6 s _ hf (fun u3 u4 u5 u7 hu e => by cases e; exact P) (fun u3 u4 u5 hu e => by cases e)) (fun s r hf P => w_X12_findTree_L48 C x0 x1 x2 x6 s _ hf (fun u3 u4 u5 u7 hu e => by cases e) (fun u3 u4 u5 hu e => by cases e; exact P))
set_option maxRecDepth 100000 in
set_option maxHeartbeats 4000000 in
theorem w_X12_findTree_L36 {X : MX} (C : CX X cX12_findTree 9 RX12 none rmX12_findTree) (x0 : Nat) (x1 : Int32) (x2 : Int32) (s : Int32 × Int32 × Int32 × Int32 × AH) (res : (Int32 × Int32 × Int32 × Int32 × AH) ⊕ ((Int32 × Int32 × Int32 × AH))) (hf : f_X12_findTree_L36 x0 x1 x2 s = some res) (K0 : ∀ (u3 : Int32) (u4 : Int32) (u5 : Int32) (u6 : Int32) (hu : AH), res = .inl (u3, u4, u5, u6, hu) → PT X 9 0 0 36 [(0, .ref x0), (1, .int x1), (2, .int x2), (3, .int u3), (4, .int u4), (5, .int u5), (6, .int u6)] [] hu) (K1 : ∀ (u3 : Int32) (u4 : Int32) (u5 : Int32) (hu : AH), res = .inr ((u3, u4, u5, hu)) → PT X 9 0 0 121 [(0, .ref x0), (1, .int x1), (2, .int x2), (3, .int u3), (4, .int u4), (5, .int u5)] [] hu) : PT X 9 0 0 36 [(0, .ref x0), (1, .int x1), (2, .int x2), (3, .int s.1), (4, .int s.2.1), (5, .int s.2.2.1), (6, .int s.2.2.2.1)] [] s.2.2.2.2 := by
  unfold f_X12_findTree_L36 at hf
  refine pt_iload C 6 rfl dX12_findTree_36 ?_
  refine pt_aload_n C 0 rfl rfl dX12_findTree_38 ?_
  refine ob hf (fun v10 g11 hf => ?_)
  refine pt_getI C kX12 0 (by decide) tw_916 (Or.inl rfl) g11 dX12_findTree_39 ?_
  refine pt_icmp_ge C (tgt := 121) (by decide) dX12_findTree_42 (fun c12 => ?_) (fun c12 => ?_)
  · rw [if_pos c12] at hf
    refine pt_sub C [(0, .ref x0), (1, .int x1), (2, .int x2), (3, .int s.1), (4, .int s.2.1), (5, .int s.2.2.1)] [0, 1, 2, 3, 4, 5] rfl ?_
    exact K1 _ _ _ _ (Option.some.inj hf).symm
  · rw [if_neg c12] at hf
    refine pt_iconst C (v := 0) (by decide) dX12_findTree_45 ?_
    refine pt_istore C [(7, .int 0), (0, .ref x0), (1, .int x1), (2, .int x2), (3, .int s.1), (4, .int s.2.1), (5, .int s.2.2.1), (6, .int s.2.2.2.1)] (by decide) rfl dX12_findTree_46 ?_
    refine pt_sub C [(0, .ref x0), (1, .int x1), (2, .int x2), (3, .int s.1), (4, .int s.2.1), (5, .int s.2.2.1), (6, .int s.2.2.2.1), (7, .int 0)] [1, 2, 3, 4, 5, 6, 7, 0] rfl ?_
    refine ob hf (fun e22 g23 hf => ?_)
    refine l_X12_findTree_L48 C x0 x1 x2 s.2.2.2.1 _ _ _ g23 ?_
    refine pt_iinc C 6 [(6, .int (s.2.2.2.1 + 1)), (0, .ref x0), (1, .int x1), (2, .int x2), (3, .int e22.1), (4, .int e22.2.1), (5, .int e22.2.2.1)] rfl (iinc_eq s.2.2.2.1 (by decide)) (by decide) rfl dX12_findTree_115 ?_
    refine pt_goto C (tgt := 36) (by decide) dX12_findTree_118 ?_
    refine pt_sub C [(0, .ref x0), (1, .int x1), (2, .int x2), (3, .int e22.1), (4, .int e22.2.1), (5, .int e22.2.2.1), (6, .int (s.2.2.2.1 + 1))] [1, 2, 3, 4, 5, 6, 0] rfl ?_
    exact K0 _ _ _ _ _ (Option.some.inj hf).symm
theorem l_X12_findTree_L36 {X : MX} (C : CX X cX12_findTree 9 RX12 none rmX12_findTree) (x0 : Nat) (x1 : Int32) (x2 : Int32) : ∀ (n : Nat) (s : Int32 × Int32 × Int32 × Int32 × AH) (r : (Int32 × Int32 × Int32 × AH)), iter (f_X12_findTree_L36 x0 x1 x2) n s = some r → (fun r : (Int32 × Int32 × Int32 × AH) => PT X 9 0 0 121 [(0, .ref x0), (1, .int x1), (2, .int x2), (3, .int r.1), (4, .int r.2.1), (5, .int r.2.2.1)] [] r.2.2.2) r → PT X 9 0 0 36 [(0, .ref x0), (1, .int x1), (2, .int x2), (3, .int s.1), (4, .int s.2.1), (5, .int s.2.2.1), (6, .int s.2.2.2.1)] [] s.2.2.2.2 :=
  iter_W (fun s : Int32 × Int32 × Int32 × Int32 × AH => PT X 9 0 0 36 [(0, .ref x0), (1, .int x1), (2, .int x2), (3, .int s.1), (4, .int s.2.1), (5, .int s.2.2.1), (6, .int s.2.2.2.1)] [] s.2.2.2.2) (fun r : (Int32 × Int32 × Int32 × AH) => PT X 9 0 0 121 [(0, .ref x0), (1, .int x1), (2, .int x2), (3, .int r.1), (4, .int r.2.1), (5, .int r.2.2.1)] [] r.2.2.2) _ (fun s s2 hf P => w_X12_findTree_L36 C x0 x1 x2 s _ hf (fun u3 u4 u5 u6 hu e => by cases e; exact P) (fun u3 u4 u5 hu e => by cases e)) (fun s r hf P => w_X12_findTree_L36 C x0 x1 x2 s _ hf (fun u3 u4 u5 u6 hu e => by cases e) (fun u3 u4 u5 hu e => by cases e; exact P))
set_option maxRecDepth 100000 in
set_option maxHeartbeats 4000000 in
theorem w_X12_findTree_L16 {X : MX} (C : CX X cX12_findTree 9 RX12 none rmX12_findTree) (x0 : Nat) (s : Int32 × Int32 × AH) (res : (Int32 × Int32 × AH) ⊕ ((AH))) (hf : f_X12_findTree_L16 x0 s = some res) (K0 : ∀ (u1 : Int32) (u2 : Int32) (hu : AH), res = .inl (u1, u2, hu) → PT X 9 0 0 16 [(0, .ref x0), (1, .int u1), (2, .int u2)] [] hu) (K1 : ∀ (hu : AH), res = .inr (hu) → PT X 9 0 0 152 [] [] hu) : PT X 9 0 0 16 [(0, .ref x0), (1, .int s.1), (2, .int s.2.1)] [] s.2.2 := by
  unfold f_X12_findTree_L16 at hf
  refine pt_iload_n C 2 rfl rfl dX12_findTree_16 ?_
  refine pt_aload_n C 0 rfl rfl dX12_findTree_17 ?_
  refine ob hf (fun v7 g8 hf => ?_)
  refine pt_getI C kX12 0 (by decide) tw_916 (Or.inl rfl) g8 dX12_findTree_18 ?_
  refine pt_icmp_ge C (tgt := 152) (by decide) dX12_findTree_21 (fun c9 => ?_) (fun c9 => ?_)
  · rw [if_pos c9] at hf
    refine pt_sub C [] [] rfl ?_
    exact K1 _ (Option.some.inj hf).symm
  · rw [if_neg c9] at hf
    refine pt_iconst C (v := (-1)) (by decide) dX12_findTree_24 ?_
    refine pt_istore_n C [(3, .int (-1)), (0, .ref x0), (1, .int s.1), (2, .int s.2.1)] rfl (by decide) rfl dX12_findTree_25 ?_
    refine pt_ldc C tw_1218 dX12_findTree_26 ?_
    refine pt_istore C [(4, .int 1000000000), (3, .int (-1)), (0, .ref x0), (1, .int s.1), (2, .int s.2.1)] (by decide) rfl dX12_findTree_28 ?_
    refine pt_iconst C (v := (-1)) (by decide) dX12_findTree_30 ?_
    refine pt_istore C [(5, .int (-1)), (4, .int 1000000000), (3, .int (-1)), (0, .ref x0), (1, .int s.1), (2, .int s.2.1)] (by decide) rfl dX12_findTree_31 ?_
    refine pt_iconst C (v := 0) (by decide) dX12_findTree_33 ?_
    refine pt_istore C [(6, .int 0), (5, .int (-1)), (4, .int 1000000000), (3, .int (-1)), (0, .ref x0), (1, .int s.1), (2, .int s.2.1)] (by decide) rfl dX12_findTree_34 ?_
    refine pt_sub C [(0, .ref x0), (1, .int s.1), (2, .int s.2.1), (3, .int (-1)), (4, .int 1000000000), (5, .int (-1)), (6, .int 0)] [4, 5, 6, 3, 2, 1, 0] rfl ?_
    refine ob hf (fun e24 g25 hf => ?_)
    refine l_X12_findTree_L36 C x0 s.1 s.2.1 _ _ _ g25 ?_
    refine pt_iload_n C 1 rfl rfl dX12_findTree_121 ?_
    refine pt_iconst C (v := 1) (by decide) dX12_findTree_122 ?_
    refine pt_iload_n C 3 rfl rfl dX12_findTree_123 ?_
    refine pt_ishl C dX12_findTree_124 ?_
    refine pt_ior C dX12_findTree_125 ?_
    refine pt_istore_n C [(1, .int (s.1 ||| (1 <<< (e24.1 &&& 31)))), (0, .ref x0), (2, .int s.2.1), (3, .int e24.1), (4, .int e24.2.1), (5, .int e24.2.2.1)] rfl (by decide) rfl dX12_findTree_126 ?_
    refine pt_aload_n C 1 rfl rfl dX12_findTree_127 ?_
    refine ob hf (fun v26 g27 hf => ?_)
    refine pt_getR C kX12 44 (by decide) tw_960 (Or.inl rfl) g27 dX12_findTree_128 ?_
    refine pt_iload_n C 3 rfl rfl dX12_findTree_131 ?_
    refine pt_iload C 5 rfl dX12_findTree_132 ?_
    refine ob hf (fun h28 g29 hf => ?_)
    refine pt_iast C g29 dX12_findTree_134 ?_
    refine pt_aload_n C 1 rfl rfl dX12_findTree_135 ?_
    refine pt_dup C rfl dX12_findTree_136 ?_
    refine ob hf (fun v30 g31 hf => ?_)
    refine pt_getI C kX12 45 (by decide) tw_961 (Or.inl rfl) g31 dX12_findTree_137 ?_
    refine pt_iload C 4 rfl dX12_findTree_140 ?_
    refine pt_iadd C dX12_findTree_142 ?_
    refine ob hf (fun h32 g33 hf => ?_)
    refine pt_put C kX12 45 (by decide) tw_961 (Or.inl rfl) rfl rfl rfl g33 dX12_findTree_143 ?_
    refine pt_iinc C 2 [(2, .int (s.2.1 + 1)), (1, .int (s.1 ||| (1 <<< (e24.1 &&& 31)))), (0, .ref x0), (3, .int e24.1), (4, .int e24.2.1), (5, .int e24.2.2.1)] rfl (iinc_eq s.2.1 (by decide)) (by decide) rfl dX12_findTree_146 ?_
    refine pt_goto C (tgt := 16) (by decide) dX12_findTree_149 ?_
    refine pt_sub C [(0, .ref x0), (1, .int (s.1 ||| (1 <<< (e24.1 &&& 31)))), (2, .int (s.2.1 + 1))] [2, 1, 0] rfl ?_
    exact K0 _ _ _ (Option.some.inj hf).symm
theorem l_X12_findTree_L16 {X : MX} (C : CX X cX12_findTree 9 RX12 none rmX12_findTree) (x0 : Nat) : ∀ (n : Nat) (s : Int32 × Int32 × AH) (r : (AH)), iter (f_X12_findTree_L16 x0) n s = some r → (fun r : (AH) => PT X 9 0 0 152 [] [] r) r → PT X 9 0 0 16 [(0, .ref x0), (1, .int s.1), (2, .int s.2.1)] [] s.2.2 :=
  iter_W (fun s : Int32 × Int32 × AH => PT X 9 0 0 16 [(0, .ref x0), (1, .int s.1), (2, .int s.2.1)] [] s.2.2) (fun r : (AH) => PT X 9 0 0 152 [] [] r) _ (fun s s2 hf P => w_X12_findTree_L16 C x0 s _ hf (fun u1 u2 hu e => by cases e; exact P) (fun hu e => by cases e)) (fun s r hf P => w_X12_findTree_L16 C x0 s _ hf (fun u1 u2 hu e => by cases e) (fun hu e => by cases e; exact P))
set_option maxRecDepth 100000 in
set_option maxHeartbeats 4000000 in
theorem w_X12_findTree_0 {X : MX} (C : CX X cX12_findTree 9 RX12 none rmX12_findTree) (a0 : Nat) (h : AH) (res : AH) (hf : f_X12_findTree a0 h = some res) (K : PR X rmX12_findTree none res) : PT X 9 0 0 0 [(0, .ref a0)] [] h := by
  unfold f_X12_findTree at hf
  refine pt_aload_n C 0 rfl rfl dX12_findTree_0 ?_
  refine pt_iconst C (v := 0) (by decide) dX12_findTree_1 ?_
  refine ob hf (fun h1 g2 hf => ?_)
  refine pt_put C kX12 45 (by decide) tw_961 (Or.inl rfl) rfl rfl rfl g2 dX12_findTree_2 ?_
  refine pt_iconst C (v := 1) (by decide) dX12_findTree_5 ?_
  refine pt_istore_n C [(1, .int 1), (0, .ref a0)] rfl (by decide) rfl dX12_findTree_6 ?_
  refine pt_aload_n C 1 rfl rfl dX12_findTree_7 ?_
  refine ob hf (fun v3 g4 hf => ?_)
  refine pt_getR C kX12 44 (by decide) tw_960 (Or.inl rfl) g4 dX12_findTree_8 ?_
  refine pt_iconst C (v := 0) (by decide) dX12_findTree_11 ?_
  refine pt_iconst C (v := (-1)) (by decide) dX12_findTree_12 ?_
  refine ob hf (fun h5 g6 hf => ?_)
  refine pt_iast C g6 dX12_findTree_13 ?_
  refine pt_iconst C (v := 1) (by decide) dX12_findTree_14 ?_
  refine pt_istore_n C [(2, .int 1), (1, .int 1), (0, .ref a0)] rfl (by decide) rfl dX12_findTree_15 ?_
  refine pt_sub C [(0, .ref a0), (1, .int 1), (2, .int 1)] [2, 1, 0] rfl ?_
  refine ob hf (fun e34 g35 hf => ?_)
  refine l_X12_findTree_L16 C a0 _ _ _ g35 ?_
  obtain rfl := Option.some.inj hf
  exact pt_vret C K (by decide) (by decide) dX12_findTree_152
theorem con_X12_findTree (l : Launch) (a0 : Nat) (h : AH) (q : AH) (hf : f_X12_findTree a0 h = some q) : Con l yX12_findTree cX12_findTree 9 none rmX12_findTree [.ref a0] h none q := Con.of (by decide +kernel) (Nat.le_of_ble_eq_true rfl) (fun X C I K => w_X12_findTree_0 C a0 h q hf K)
abbrev rmX12_floor : Room := { frames := 1, cells := 0, slots := 0, locals := 25 }
theorem yn_X12_floor : YN yX12_floor 1 := by refine ⟨?_, ?_, ?_⟩ <;> decide +kernel
set_option maxRecDepth 100000 in
set_option maxHeartbeats 4000000 in
theorem w_X12_floor_0 {X : MX} (C : CX X cX12_floor 3 RX12 (some .int) rmX12_floor) (a0 : Nat) (a1 : Int32) (h : AH) (res : Int32 × AH) (hf : f_X12_floor a0 a1 h = some res) (K : ∀ (v : Int32) (h2 : AH), res = (v, h2) → PR X rmX12_floor (some (.int v)) h2) : PT X 3 0 0 0 [(0, .ref a0), (1, .int a1)] [] h := by
  unfold f_X12_floor at hf
  refine pt_iload_n C 1 rfl rfl dX12_floor_0 ?_
  refine pt_i2l C dX12_floor_1 ?_
  refine pt_lconst C (v := 0) (by decide) dX12_floor_2 ?_
  refine pt_ldc2 C tw_1095 dX12_floor_3 ?_
  refine ob hf (fun q1 g2 hf => ?_)
  refine pt_callS C (As := [.long a1.toInt64, .long 0, .long 100]) (rest := []) (v := (some (.int q1.1))) (fun l => con_X12_in l a1.toInt64 0 100 h _ g2) tw_1065 tw_1063 tw_1064 tw_13 yn_X12_in (by decide) (Nat.le_of_ble_eq_true rfl) dX12_floor_6 rfl ?_
  show PT X 3 0 0 9 [(0, .ref a0), (1, .int a1)] [.int q1.1] q1.2
  refine pt_if_ne C (tgt := 15) (by decide) dX12_floor_9 (fun c3 => ?_) (fun c3 => ?_)
  · rw [if_neg c3] at hf
    refine pt_aload_n C 0 rfl rfl dX12_floor_15 ?_
    refine ob hf (fun v4 g5 hf => ?_)
    refine pt_getI C kX12 15 (by decide) tw_931 (Or.inl rfl) g5 dX12_floor_16 ?_
    refine pt_istore_n C [(2, .int v4), (0, .ref a0), (1, .int a1)] rfl (by decide) rfl dX12_floor_19 ?_
    refine pt_aload_n C 1 rfl rfl dX12_floor_20 ?_
    refine pt_iload_n C 2 rfl rfl dX12_floor_21 ?_
    refine ob hf (fun h6 g7 hf => ?_)
    refine pt_put C kX12 15 (by decide) tw_931 (Or.inl rfl) rfl rfl rfl g7 dX12_floor_22 ?_
    refine pt_iload_n C 0 rfl rfl dX12_floor_25 ?_
    exact pt_iret C (K _ _ (Option.some.inj hf).symm) (by decide) (by decide) dX12_floor_26
  · rw [if_pos c3] at hf
    refine pt_bipush C (v := (-2)) (by decide) dX12_floor_12 ?_
    exact pt_iret C (K _ _ (Option.some.inj hf).symm) (by decide) (by decide) dX12_floor_14
theorem con_X12_floor (l : Launch) (a0 : Nat) (a1 : Int32) (h : AH) (q : Int32 × AH) (hf : f_X12_floor a0 a1 h = some q) : Con l yX12_floor cX12_floor 3 (some .int) rmX12_floor [.ref a0, .int a1] h (some (.int q.1)) q.2 := Con.of (by decide +kernel) (Nat.le_of_ble_eq_true rfl) (fun X C I K => w_X12_floor_0 C a0 a1 h q hf (fun v h2 e => by cases e; exact K))
abbrev rmX12_force : Room := { frames := 0, cells := 0, slots := 0, locals := 0 }
theorem yn_X12_force : YN yX12_force 1 := by refine ⟨?_, ?_, ?_⟩ <;> decide +kernel
set_option maxRecDepth 100000 in
set_option maxHeartbeats 4000000 in
theorem w_X12_force_0 {X : MX} (C : CX X cX12_force 2 RX12 (some .int) rmX12_force) (a0 : Nat) (a1 : Int32) (h : AH) (res : Int32 × AH) (hf : f_X12_force a0 a1 h = some res) (K : ∀ (v : Int32) (h2 : AH), res = (v, h2) → PR X rmX12_force (some (.int v)) h2) : PT X 2 0 0 0 [(0, .ref a0), (1, .int a1)] [] h := by
  unfold f_X12_force at hf
  refine pt_iload_n C 1 rfl rfl dX12_force_0 ?_
  refine pt_if_ge C (tgt := 9) (by decide) dX12_force_1 (fun c1 => ?_) (fun c1 => ?_)
  · rw [if_pos c1] at hf
    refine pt_iload_n C 1 rfl rfl dX12_force_9 ?_
    refine pt_aload_n C 0 rfl rfl dX12_force_10 ?_
    refine ob hf (fun v2 g3 hf => ?_)
    refine pt_getI C kX12 16 (by decide) tw_932 (Or.inl rfl) g3 dX12_force_11 ?_
    refine pt_icmp_ge C (tgt := 26) (by decide) dX12_force_14 (fun c4 => ?_) (fun c4 => ?_)
    · rw [if_pos c4] at hf
      refine pt_iconst C (v := (-1)) (by decide) dX12_force_26 ?_
      exact pt_iret C (K _ _ (Option.some.inj hf).symm) (by decide) (by decide) dX12_force_27
    · rw [if_neg c4] at hf
      refine pt_aload_n C 0 rfl rfl dX12_force_17 ?_
      refine ob hf (fun v5 g6 hf => ?_)
      refine pt_getR C kX12 18 (by decide) tw_934 (Or.inl rfl) g6 dX12_force_18 ?_
      refine pt_iload_n C 1 rfl rfl dX12_force_21 ?_
      refine ob hf (fun v7 g8 hf => ?_)
      refine pt_iald C g8 dX12_force_22 ?_
      refine pt_goto C (tgt := 27) (by decide) dX12_force_23 ?_
      exact pt_iret C (K _ _ (Option.some.inj hf).symm) (by decide) (by decide) dX12_force_27
  · rw [if_neg c1] at hf
    refine pt_bipush C (v := (-2)) (by decide) dX12_force_4 ?_
    refine pt_goto C (tgt := 27) (by decide) dX12_force_6 ?_
    exact pt_iret C (K _ _ (Option.some.inj hf).symm) (by decide) (by decide) dX12_force_27
theorem con_X12_force (l : Launch) (a0 : Nat) (a1 : Int32) (h : AH) (q : Int32 × AH) (hf : f_X12_force a0 a1 h = some q) : Con l yX12_force cX12_force 2 (some .int) rmX12_force [.ref a0, .int a1] h (some (.int q.1)) q.2 := Con.of (by decide +kernel) (Nat.le_of_ble_eq_true rfl) (fun X C I K => w_X12_force_0 C a0 a1 h q hf (fun v h2 e => by cases e; exact K))
abbrev rmX12_hand : Room := { frames := 1, cells := 0, slots := 0, locals := 25 }
theorem yn_X12_hand : YN yX12_hand 4 := by refine ⟨?_, ?_, ?_⟩ <;> decide +kernel
set_option maxRecDepth 100000 in
set_option maxHeartbeats 4000000 in
theorem w_X12_hand_0 {X : MX} (C : CX X cX12_hand 5 RX12 (some .int) rmX12_hand) (a0 : Nat) (a1 : Int32) (a2 : Int32) (a3 : Int32) (a4 : Int32) (h : AH) (res : Int32 × AH) (hf : f_X12_hand a0 a1 a2 a3 a4 h = some res) (K : ∀ (v : Int32) (h2 : AH), res = (v, h2) → PR X rmX12_hand (some (.int v)) h2) : PT X 5 0 0 0 [(0, .ref a0), (1, .int a1), (2, .int a2), (3, .int a3), (4, .int a4)] [] h := by
  unfold f_X12_hand at hf
  refine pt_iload_n C 1 rfl rfl dX12_hand_0 ?_
  refine pt_i2l C dX12_hand_1 ?_
  refine pt_lconst C (v := 1) (by decide) dX12_hand_2 ?_
  refine pt_ldc2 C tw_1095 dX12_hand_3 ?_
  refine ob hf (fun q1 g2 hf => ?_)
  refine pt_callS C (As := [.long a1.toInt64, .long 1, .long 100]) (rest := []) (v := (some (.int q1.1))) (fun l => con_X12_in l a1.toInt64 1 100 h _ g2) tw_1065 tw_1063 tw_1064 tw_13 yn_X12_in (by decide) (Nat.le_of_ble_eq_true rfl) dX12_hand_6 rfl ?_
  show PT X 5 0 0 9 [(0, .ref a0), (1, .int a1), (2, .int a2), (3, .int a3), (4, .int a4)] [.int q1.1] q1.2
  refine pt_if_eq C (tgt := 49) (by decide) dX12_hand_9 (fun c3 => ?_) (fun c3 => ?_)
  · rw [if_pos c3] at hf
    refine pt_bipush C (v := (-2)) (by decide) dX12_hand_49 ?_
    exact pt_iret C (K _ _ (Option.some.inj hf).symm) (by decide) (by decide) dX12_hand_51
  · rw [if_neg c3] at hf
    refine pt_iload_n C 2 rfl rfl dX12_hand_12 ?_
    refine pt_i2l C dX12_hand_13 ?_
    refine pt_lconst C (v := 0) (by decide) dX12_hand_14 ?_
    refine pt_ldc2 C tw_1096 dX12_hand_15 ?_
    refine ob hf (fun q4 g5 hf => ?_)
    refine pt_callS C (As := [.long a2.toInt64, .long 0, .long 30]) (rest := []) (v := (some (.int q4.1))) (fun l => con_X12_in l a2.toInt64 0 30 q1.2 _ g5) tw_1065 tw_1063 tw_1064 tw_13 yn_X12_in (by decide) (Nat.le_of_ble_eq_true rfl) dX12_hand_18 rfl ?_
    show PT X 5 0 0 21 [(0, .ref a0), (1, .int a1), (2, .int a2), (3, .int a3), (4, .int a4)] [.int q4.1] q4.2
    refine pt_if_eq C (tgt := 49) (by decide) dX12_hand_21 (fun c6 => ?_) (fun c6 => ?_)
    · rw [if_pos c6] at hf
      refine pt_bipush C (v := (-2)) (by decide) dX12_hand_49 ?_
      exact pt_iret C (K _ _ (Option.some.inj hf).symm) (by decide) (by decide) dX12_hand_51
    · rw [if_neg c6] at hf
      refine pt_iload_n C 3 rfl rfl dX12_hand_24 ?_
      refine pt_i2l C dX12_hand_25 ?_
      refine pt_lconst C (v := 0) (by decide) dX12_hand_26 ?_
      refine pt_ldc2 C tw_1096 dX12_hand_27 ?_
      refine ob hf (fun q7 g8 hf => ?_)
      refine pt_callS C (As := [.long a3.toInt64, .long 0, .long 30]) (rest := []) (v := (some (.int q7.1))) (fun l => con_X12_in l a3.toInt64 0 30 q4.2 _ g8) tw_1065 tw_1063 tw_1064 tw_13 yn_X12_in (by decide) (Nat.le_of_ble_eq_true rfl) dX12_hand_30 rfl ?_
      show PT X 5 0 0 33 [(0, .ref a0), (1, .int a1), (2, .int a2), (3, .int a3), (4, .int a4)] [.int q7.1] q7.2
      refine pt_if_eq C (tgt := 49) (by decide) dX12_hand_33 (fun c9 => ?_) (fun c9 => ?_)
      · rw [if_pos c9] at hf
        refine pt_bipush C (v := (-2)) (by decide) dX12_hand_49 ?_
        exact pt_iret C (K _ _ (Option.some.inj hf).symm) (by decide) (by decide) dX12_hand_51
      · rw [if_neg c9] at hf
        refine pt_iload C 4 rfl dX12_hand_36 ?_
        refine pt_i2l C dX12_hand_38 ?_
        refine pt_lconst C (v := 0) (by decide) dX12_hand_39 ?_
        refine pt_ldc2 C tw_1096 dX12_hand_40 ?_
        refine ob hf (fun q10 g11 hf => ?_)
        refine pt_callS C (As := [.long a4.toInt64, .long 0, .long 30]) (rest := []) (v := (some (.int q10.1))) (fun l => con_X12_in l a4.toInt64 0 30 q7.2 _ g11) tw_1065 tw_1063 tw_1064 tw_13 yn_X12_in (by decide) (Nat.le_of_ble_eq_true rfl) dX12_hand_43 rfl ?_
        show PT X 5 0 0 46 [(0, .ref a0), (1, .int a1), (2, .int a2), (3, .int a3), (4, .int a4)] [.int q10.1] q10.2
        refine pt_if_ne C (tgt := 52) (by decide) dX12_hand_46 (fun c12 => ?_) (fun c12 => ?_)
        · rw [if_neg c12] at hf
          refine pt_aload_n C 0 rfl rfl dX12_hand_52 ?_
          refine ob hf (fun v13 g14 hf => ?_)
          refine pt_getI C kX12 7 (by decide) tw_923 (Or.inl rfl) g14 dX12_hand_53 ?_
          refine pt_bipush C (v := 10) (by decide) dX12_hand_56 ?_
          refine pt_icmp_ne C (tgt := 64) (by decide) dX12_hand_58 (fun c15 => ?_) (fun c15 => ?_)
          · rw [if_neg c15] at hf
            refine pt_aload_n C 0 rfl rfl dX12_hand_64 ?_
            refine ob hf (fun v16 g17 hf => ?_)
            refine pt_getR C kX12 8 (by decide) tw_924 (Or.inl rfl) g17 dX12_hand_65 ?_
            refine pt_aload_n C 0 rfl rfl dX12_hand_68 ?_
            refine ob hf (fun v18 g19 hf => ?_)
            refine pt_getI C kX12 7 (by decide) tw_923 (Or.inl rfl) g19 dX12_hand_69 ?_
            refine pt_iload_n C 1 rfl rfl dX12_hand_72 ?_
            refine ob hf (fun h20 g21 hf => ?_)
            refine pt_iast C g21 dX12_hand_73 ?_
            refine pt_aload_n C 0 rfl rfl dX12_hand_74 ?_
            refine ob hf (fun v22 g23 hf => ?_)
            refine pt_getR C kX12 9 (by decide) tw_925 (Or.inl rfl) g23 dX12_hand_75 ?_
            refine pt_aload_n C 0 rfl rfl dX12_hand_78 ?_
            refine ob hf (fun v24 g25 hf => ?_)
            refine pt_getI C kX12 7 (by decide) tw_923 (Or.inl rfl) g25 dX12_hand_79 ?_
            refine pt_iload_n C 2 rfl rfl dX12_hand_82 ?_
            refine ob hf (fun h26 g27 hf => ?_)
            refine pt_iast C g27 dX12_hand_83 ?_
            refine pt_aload_n C 0 rfl rfl dX12_hand_84 ?_
            refine ob hf (fun v28 g29 hf => ?_)
            refine pt_getR C kX12 10 (by decide) tw_926 (Or.inl rfl) g29 dX12_hand_85 ?_
            refine pt_aload_n C 0 rfl rfl dX12_hand_88 ?_
            refine ob hf (fun v30 g31 hf => ?_)
            refine pt_getI C kX12 7 (by decide) tw_923 (Or.inl rfl) g31 dX12_hand_89 ?_
            refine pt_iload_n C 3 rfl rfl dX12_hand_92 ?_
            refine ob hf (fun h32 g33 hf => ?_)
            refine pt_iast C g33 dX12_hand_93 ?_
            refine pt_aload_n C 0 rfl rfl dX12_hand_94 ?_
            refine ob hf (fun v34 g35 hf => ?_)
            refine pt_getR C kX12 11 (by decide) tw_927 (Or.inl rfl) g35 dX12_hand_95 ?_
            refine pt_aload_n C 0 rfl rfl dX12_hand_98 ?_
            refine ob hf (fun v36 g37 hf => ?_)
            refine pt_getI C kX12 7 (by decide) tw_923 (Or.inl rfl) g37 dX12_hand_99 ?_
            refine pt_iload C 4 rfl dX12_hand_102 ?_
            refine ob hf (fun h38 g39 hf => ?_)
            refine pt_iast C g39 dX12_hand_104 ?_
            refine pt_aload_n C 0 rfl rfl dX12_hand_105 ?_
            refine ob hf (fun v40 g41 hf => ?_)
            refine pt_getR C kX12 12 (by decide) tw_928 (Or.inl rfl) g41 dX12_hand_106 ?_
            refine pt_aload_n C 0 rfl rfl dX12_hand_109 ?_
            refine ob hf (fun v42 g43 hf => ?_)
            refine pt_getI C kX12 7 (by decide) tw_923 (Or.inl rfl) g43 dX12_hand_110 ?_
            refine pt_iconst C (v := 0) (by decide) dX12_hand_113 ?_
            refine ob hf (fun h44 g45 hf => ?_)
            refine pt_iast C g45 dX12_hand_114 ?_
            refine pt_aload_n C 0 rfl rfl dX12_hand_115 ?_
            refine ob hf (fun v46 g47 hf => ?_)
            refine pt_getR C kX12 13 (by decide) tw_929 (Or.inl rfl) g47 dX12_hand_116 ?_
            refine pt_aload_n C 0 rfl rfl dX12_hand_119 ?_
            refine ob hf (fun v48 g49 hf => ?_)
            refine pt_getI C kX12 7 (by decide) tw_923 (Or.inl rfl) g49 dX12_hand_120 ?_
            refine pt_iload_n C 1 rfl rfl dX12_hand_123 ?_
            refine ob hf (fun h50 g51 hf => ?_)
            refine pt_iast C g51 dX12_hand_124 ?_
            refine pt_aload_n C 0 rfl rfl dX12_hand_125 ?_
            refine pt_dup C rfl dX12_hand_126 ?_
            refine ob hf (fun v52 g53 hf => ?_)
            refine pt_getI C kX12 14 (by decide) tw_930 (Or.inl rfl) g53 dX12_hand_127 ?_
            refine pt_iconst C (v := 1) (by decide) dX12_hand_130 ?_
            refine pt_aload_n C 0 rfl rfl dX12_hand_131 ?_
            refine ob hf (fun v54 g55 hf => ?_)
            refine pt_getI C kX12 7 (by decide) tw_923 (Or.inl rfl) g55 dX12_hand_132 ?_
            refine pt_ishl C dX12_hand_135 ?_
            refine pt_ior C dX12_hand_136 ?_
            refine ob hf (fun h56 g57 hf => ?_)
            refine pt_put C kX12 14 (by decide) tw_930 (Or.inl rfl) rfl rfl rfl g57 dX12_hand_137 ?_
            refine pt_aload_n C 0 rfl rfl dX12_hand_140 ?_
            refine pt_dup C rfl dX12_hand_141 ?_
            refine ob hf (fun v58 g59 hf => ?_)
            refine pt_getI C kX12 7 (by decide) tw_923 (Or.inl rfl) g59 dX12_hand_142 ?_
            refine pt_iconst C (v := 1) (by decide) dX12_hand_145 ?_
            refine pt_iadd C dX12_hand_146 ?_
            refine ob hf (fun h60 g61 hf => ?_)
            refine pt_put C kX12 7 (by decide) tw_923 (Or.inl rfl) rfl rfl rfl g61 dX12_hand_147 ?_
            refine pt_aload_n C 0 rfl rfl dX12_hand_150 ?_
            refine ob hf (fun v62 g63 hf => ?_)
            refine pt_getI C kX12 7 (by decide) tw_923 (Or.inl rfl) g63 dX12_hand_151 ?_
            refine pt_iconst C (v := 1) (by decide) dX12_hand_154 ?_
            refine pt_isub C dX12_hand_155 ?_
            exact pt_iret C (K _ _ (Option.some.inj hf).symm) (by decide) (by decide) dX12_hand_156
          · rw [if_pos c15] at hf
            refine pt_bipush C (v := (-4)) (by decide) dX12_hand_61 ?_
            exact pt_iret C (K _ _ (Option.some.inj hf).symm) (by decide) (by decide) dX12_hand_63
        · rw [if_pos c12] at hf
          refine pt_bipush C (v := (-2)) (by decide) dX12_hand_49 ?_
          exact pt_iret C (K _ _ (Option.some.inj hf).symm) (by decide) (by decide) dX12_hand_51
theorem con_X12_hand (l : Launch) (a0 : Nat) (a1 : Int32) (a2 : Int32) (a3 : Int32) (a4 : Int32) (h : AH) (q : Int32 × AH) (hf : f_X12_hand a0 a1 a2 a3 a4 h = some q) : Con l yX12_hand cX12_hand 5 (some .int) rmX12_hand [.ref a0, .int a1, .int a2, .int a3, .int a4] h (some (.int q.1)) q.2 := Con.of (by decide +kernel) (Nat.le_of_ble_eq_true rfl) (fun X C I K => w_X12_hand_0 C a0 a1 a2 a3 a4 h q hf (fun v h2 e => by cases e; exact K))
abbrev rmX12_hangs : Room := { frames := 4, cells := 0, slots := 0, locals := 103 }
theorem yn_X12_hangs : YN yX12_hangs 1 := by refine ⟨?_, ?_, ?_⟩ <;> decide +kernel
set_option maxRecDepth 100000 in
set_option maxHeartbeats 4000000 in
theorem w_X12_hangs_0 {X : MX} (C : CX X cX12_hangs 2 RX12 (some .int) rmX12_hangs) (a0 : Nat) (a1 : Int32) (h : AH) (res : Int32 × AH) (hf : f_X12_hangs a0 a1 h = some res) (K : ∀ (v : Int32) (h2 : AH), res = (v, h2) → PR X rmX12_hangs (some (.int v)) h2) : PT X 2 0 0 0 [(0, .ref a0), (1, .int a1)] [] h := by
  unfold f_X12_hangs at hf
  refine pt_aload_n C 0 rfl rfl dX12_hangs_0 ?_
  refine pt_iload_n C 1 rfl rfl dX12_hangs_1 ?_
  refine ob hf (fun _ g3 hf => ?_)
  refine ob hf (fun q1 g2 hf => ?_)
  refine pt_callV C (As := [.int a1]) (rest := []) (v := (some (.int q1.1))) (fun l => con_X12_noSong l a0 a1 h _ g2) tw_1081 tw_1078 tw_1080 tp_22 kX12 g3 tw_13 yn_X12_noSong (by decide) (Nat.le_of_ble_eq_true rfl) dX12_hangs_2 rfl ?_
  show PT X 2 0 0 5 [(0, .ref a0), (1, .int a1)] [.int q1.1] q1.2
  refine pt_if_eq C (tgt := 11) (by decide) dX12_hangs_5 (fun c4 => ?_) (fun c4 => ?_)
  · rw [if_pos c4] at hf
    refine pt_aload_n C 0 rfl rfl dX12_hangs_11 ?_
    refine ob hf (fun _ g7 hf => ?_)
    refine ob hf (fun q5 g6 hf => ?_)
    refine pt_callV C (As := []) (rest := []) (v := none) (fun l => con_X12_findTree l a0 q1.2 _ g6) tw_1286 tw_1283 tw_1285 tp_41 kX12 g7 tw_13 yn_X12_findTree (by decide) (Nat.le_of_ble_eq_true rfl) dX12_hangs_12 rfl ?_
    show PT X 2 0 0 15 [(0, .ref a0), (1, .int a1)] [] q5
    refine pt_aload_n C 0 rfl rfl dX12_hangs_15 ?_
    refine ob hf (fun v8 g9 hf => ?_)
    refine pt_getR C kX12 44 (by decide) tw_960 (Or.inl rfl) g9 dX12_hangs_16 ?_
    refine pt_iload_n C 1 rfl rfl dX12_hangs_19 ?_
    refine ob hf (fun v10 g11 hf => ?_)
    refine pt_iald C g11 dX12_hangs_20 ?_
    exact pt_iret C (K _ _ (Option.some.inj hf).symm) (by decide) (by decide) dX12_hangs_21
  · rw [if_neg c4] at hf
    refine pt_bipush C (v := (-2)) (by decide) dX12_hangs_8 ?_
    exact pt_iret C (K _ _ (Option.some.inj hf).symm) (by decide) (by decide) dX12_hangs_10
theorem con_X12_hangs (l : Launch) (a0 : Nat) (a1 : Int32) (h : AH) (q : Int32 × AH) (hf : f_X12_hangs a0 a1 h = some q) : Con l yX12_hangs cX12_hangs 2 (some .int) rmX12_hangs [.ref a0, .int a1] h (some (.int q.1)) q.2 := Con.of (by decide +kernel) (Nat.le_of_ble_eq_true rfl) (fun X C I K => w_X12_hangs_0 C a0 a1 h q hf (fun v h2 e => by cases e; exact K))
abbrev rmX12_isTask : Room := { frames := 1, cells := 0, slots := 0, locals := 25 }
theorem yn_X12_isTask : YN yX12_isTask 3 := by refine ⟨?_, ?_, ?_⟩ <;> decide +kernel
set_option maxRecDepth 100000 in
set_option maxHeartbeats 4000000 in
theorem w_X12_isTask_0 {X : MX} (C : CX X cX12_isTask 3 RX12 (some .boolean) rmX12_isTask) (a0 : Int32) (a1 : Int32) (a2 : Int32) (h : AH) (res : Int32 × AH) (hf : f_X12_isTask a0 a1 a2 h = some res) (K : ∀ (v : Int32) (h2 : AH), res = (v, h2) → PR X rmX12_isTask (some (.int v)) h2) : PT X 3 0 0 0 [(0, .int a0), (1, .int a1), (2, .int a2)] [] h := by
  unfold f_X12_isTask at hf
  refine pt_iload_n C 0 rfl rfl dX12_isTask_0 ?_
  refine pt_i2l C dX12_isTask_1 ?_
  refine pt_lconst C (v := 1) (by decide) dX12_isTask_2 ?_
  refine pt_ldc2 C tw_1135 dX12_isTask_3 ?_
  refine ob hf (fun q1 g2 hf => ?_)
  refine pt_callS C (As := [.long a0.toInt64, .long 1, .long 3000]) (rest := []) (v := (some (.int q1.1))) (fun l => con_X12_in l a0.toInt64 1 3000 h _ g2) tw_1065 tw_1063 tw_1064 tw_13 yn_X12_in (by decide) (Nat.le_of_ble_eq_true rfl) dX12_isTask_6 rfl ?_
  show PT X 3 0 0 9 [(0, .int a0), (1, .int a1), (2, .int a2)] [.int q1.1] q1.2
  refine pt_if_eq C (tgt := 40) (by decide) dX12_isTask_9 (fun c3 => ?_) (fun c3 => ?_)
  · rw [if_pos c3] at hf
    refine pt_iconst C (v := 0) (by decide) dX12_isTask_40 ?_
    exact pt_zret C (by decide) (K _ _ (Option.some.inj hf).symm) (by decide) (by decide) dX12_isTask_41
  · rw [if_neg c3] at hf
    refine pt_iload_n C 1 rfl rfl dX12_isTask_12 ?_
    refine pt_i2l C dX12_isTask_13 ?_
    refine pt_lconst C (v := 0) (by decide) dX12_isTask_14 ?_
    refine pt_ldc2 C tw_1086 dX12_isTask_15 ?_
    refine ob hf (fun q4 g5 hf => ?_)
    refine pt_callS C (As := [.long a1.toInt64, .long 0, .long 1000]) (rest := []) (v := (some (.int q4.1))) (fun l => con_X12_in l a1.toInt64 0 1000 q1.2 _ g5) tw_1065 tw_1063 tw_1064 tw_13 yn_X12_in (by decide) (Nat.le_of_ble_eq_true rfl) dX12_isTask_18 rfl ?_
    show PT X 3 0 0 21 [(0, .int a0), (1, .int a1), (2, .int a2)] [.int q4.1] q4.2
    refine pt_if_eq C (tgt := 40) (by decide) dX12_isTask_21 (fun c6 => ?_) (fun c6 => ?_)
    · rw [if_pos c6] at hf
      refine pt_iconst C (v := 0) (by decide) dX12_isTask_40 ?_
      exact pt_zret C (by decide) (K _ _ (Option.some.inj hf).symm) (by decide) (by decide) dX12_isTask_41
    · rw [if_neg c6] at hf
      refine pt_iload_n C 2 rfl rfl dX12_isTask_24 ?_
      refine pt_i2l C dX12_isTask_25 ?_
      refine pt_lconst C (v := 0) (by decide) dX12_isTask_26 ?_
      refine pt_ldc2 C tw_1136 dX12_isTask_27 ?_
      refine ob hf (fun q7 g8 hf => ?_)
      refine pt_callS C (As := [.long a2.toInt64, .long 0, .long 50]) (rest := []) (v := (some (.int q7.1))) (fun l => con_X12_in l a2.toInt64 0 50 q4.2 _ g8) tw_1065 tw_1063 tw_1064 tw_13 yn_X12_in (by decide) (Nat.le_of_ble_eq_true rfl) dX12_isTask_30 rfl ?_
      show PT X 3 0 0 33 [(0, .int a0), (1, .int a1), (2, .int a2)] [.int q7.1] q7.2
      refine pt_if_eq C (tgt := 40) (by decide) dX12_isTask_33 (fun c9 => ?_) (fun c9 => ?_)
      · rw [if_pos c9] at hf
        refine pt_iconst C (v := 0) (by decide) dX12_isTask_40 ?_
        exact pt_zret C (by decide) (K _ _ (Option.some.inj hf).symm) (by decide) (by decide) dX12_isTask_41
      · rw [if_neg c9] at hf
        refine pt_iconst C (v := 1) (by decide) dX12_isTask_36 ?_
        refine pt_goto C (tgt := 41) (by decide) dX12_isTask_37 ?_
        exact pt_zret C (by decide) (K _ _ (Option.some.inj hf).symm) (by decide) (by decide) dX12_isTask_41
theorem con_X12_isTask (l : Launch) (a0 : Int32) (a1 : Int32) (a2 : Int32) (h : AH) (q : Int32 × AH) (hf : f_X12_isTask a0 a1 a2 h = some q) : Con l yX12_isTask cX12_isTask 3 (some .boolean) rmX12_isTask [.int a0, .int a1, .int a2] h (some (.int q.1)) q.2 := Con.of (by decide +kernel) (Nat.le_of_ble_eq_true rfl) (fun X C I K => w_X12_isTask_0 C a0 a1 a2 h q hf (fun v h2 e => by cases e; exact K))
abbrev rmX12_haul : Room := { frames := 3, cells := 0, slots := 0, locals := 81 }
theorem yn_X12_haul : YN yX12_haul 4 := by refine ⟨?_, ?_, ?_⟩ <;> decide +kernel
set_option maxRecDepth 100000 in
set_option maxHeartbeats 4000000 in
theorem w_X12_haul_0 {X : MX} (C : CX X cX12_haul 6 RX12 (some .int) rmX12_haul) (a0 : Nat) (a1 : Int32) (a2 : Int32) (a3 : Int32) (a4 : Int32) (h : AH) (res : Int32 × AH) (hf : f_X12_haul a0 a1 a2 a3 a4 h = some res) (K : ∀ (v : Int32) (h2 : AH), res = (v, h2) → PR X rmX12_haul (some (.int v)) h2) : PT X 6 0 0 0 [(0, .ref a0), (1, .int a1), (2, .int a2), (3, .int a3), (4, .int a4)] [] h := by
  unfold f_X12_haul at hf
  refine pt_aload_n C 0 rfl rfl dX12_haul_0 ?_
  refine pt_iload_n C 1 rfl rfl dX12_haul_1 ?_
  refine ob hf (fun _ g3 hf => ?_)
  refine ob hf (fun q1 g2 hf => ?_)
  refine pt_callV C (As := [.int a1]) (rest := []) (v := (some (.int q1.1))) (fun l => con_X12_noSong l a0 a1 h _ g2) tw_1081 tw_1078 tw_1080 tp_22 kX12 g3 tw_13 yn_X12_noSong (by decide) (Nat.le_of_ble_eq_true rfl) dX12_haul_2 rfl ?_
  show PT X 6 0 0 5 [(0, .ref a0), (1, .int a1), (2, .int a2), (3, .int a3), (4, .int a4)] [.int q1.1] q1.2
  refine pt_if_ne C (tgt := 18) (by decide) dX12_haul_5 (fun c4 => ?_) (fun c4 => ?_)
  · rw [if_neg c4] at hf
    refine pt_bipush C (v := (-2)) (by decide) dX12_haul_18 ?_
    exact pt_iret C (K _ _ (Option.some.inj hf).symm) (by decide) (by decide) dX12_haul_20
  · rw [if_pos c4] at hf
    refine pt_iload_n C 2 rfl rfl dX12_haul_8 ?_
    refine pt_iload_n C 3 rfl rfl dX12_haul_9 ?_
    refine pt_iload C 4 rfl dX12_haul_10 ?_
    refine ob hf (fun q5 g6 hf => ?_)
    refine pt_callS C (As := [.int a2, .int a3, .int a4]) (rest := []) (v := (some (.int q5.1))) (fun l => con_X12_isTask l a2 a3 a4 q1.2 _ g6) tw_1134 tw_1132 tw_1133 tw_13 yn_X12_isTask (by decide) (Nat.le_of_ble_eq_true rfl) dX12_haul_12 rfl ?_
    show PT X 6 0 0 15 [(0, .ref a0), (1, .int a1), (2, .int a2), (3, .int a3), (4, .int a4)] [.int q5.1] q5.2
    refine pt_if_ne C (tgt := 21) (by decide) dX12_haul_15 (fun c7 => ?_) (fun c7 => ?_)
    · rw [if_neg c7] at hf
      refine pt_aload_n C 0 rfl rfl dX12_haul_21 ?_
      refine pt_iconst C (v := 0) (by decide) dX12_haul_22 ?_
      refine pt_iload_n C 1 rfl rfl dX12_haul_23 ?_
      refine pt_aload_n C 0 rfl rfl dX12_haul_24 ?_
      refine ob hf (fun v8 g9 hf => ?_)
      refine pt_getI C kX12 14 (by decide) tw_930 (Or.inl rfl) g9 dX12_haul_25 ?_
      refine pt_iload_n C 2 rfl rfl dX12_haul_28 ?_
      refine pt_iload_n C 3 rfl rfl dX12_haul_29 ?_
      refine pt_iload C 4 rfl dX12_haul_30 ?_
      refine pt_iconst C (v := 1) (by decide) dX12_haul_32 ?_
      refine ob hf (fun _ g12 hf => ?_)
      refine ob hf (fun q10 g11 hf => ?_)
      refine pt_callV C (As := [.int 0, .int a1, .int v8, .int a2, .int a3, .int a4, .int 1]) (rest := []) (v := (some (.int q10.1))) (fun l => con_X12_work l a0 0 a1 v8 a2 a3 a4 1 q5.2 _ g11) tw_1140 tw_1137 tw_1139 tp_26 kX12 g12 tw_13 yn_X12_work (by decide) (Nat.le_of_ble_eq_true rfl) dX12_haul_33 rfl ?_
      show PT X 6 0 0 36 [(0, .ref a0), (1, .int a1), (2, .int a2), (3, .int a3), (4, .int a4)] [.int q10.1] q10.2
      refine pt_istore C [(5, .int q10.1), (0, .ref a0), (1, .int a1), (2, .int a2), (3, .int a3), (4, .int a4)] (by decide) rfl dX12_haul_36 ?_
      refine pt_iload C 0 rfl dX12_haul_38 ?_
      refine pt_if_ge C (tgt := 51) (by decide) dX12_haul_40 (fun c13 => ?_) (fun c13 => ?_)
      · rw [if_pos c13] at hf
        refine pt_iload C 0 rfl dX12_haul_51 ?_
        exact pt_iret C (K _ _ (Option.some.inj hf).symm) (by decide) (by decide) dX12_haul_53
      · rw [if_neg c13] at hf
        refine pt_bipush C (v := (-10)) (by decide) dX12_haul_43 ?_
        refine pt_iload C 0 rfl dX12_haul_45 ?_
        refine pt_iadd C dX12_haul_47 ?_
        refine pt_goto C (tgt := 53) (by decide) dX12_haul_48 ?_
        exact pt_iret C (K _ _ (Option.some.inj hf).symm) (by decide) (by decide) dX12_haul_53
    · rw [if_pos c7] at hf
      refine pt_bipush C (v := (-2)) (by decide) dX12_haul_18 ?_
      exact pt_iret C (K _ _ (Option.some.inj hf).symm) (by decide) (by decide) dX12_haul_20
theorem con_X12_haul (l : Launch) (a0 : Nat) (a1 : Int32) (a2 : Int32) (a3 : Int32) (a4 : Int32) (h : AH) (q : Int32 × AH) (hf : f_X12_haul a0 a1 a2 a3 a4 h = some q) : Con l yX12_haul cX12_haul 6 (some .int) rmX12_haul [.ref a0, .int a1, .int a2, .int a3, .int a4] h (some (.int q.1)) q.2 := Con.of (by decide +kernel) (Nat.le_of_ble_eq_true rfl) (fun X C I K => w_X12_haul_0 C a0 a1 a2 a3 a4 h q hf (fun v h2 e => by cases e; exact K))
abbrev rmX12_init : Room := { frames := 1, cells := 29, slots := 2147, locals := 20 }
theorem yn_X12_init : YN yX12_init 0 := by refine ⟨?_, ?_, ?_⟩ <;> decide +kernel
set_option maxRecDepth 100000 in
set_option maxHeartbeats 4000000 in
theorem w_X12_init_0 {X : MX} (C : CX X cX12_init 1 RX12 none rmX12_init) (I : IN X) (a0 : Nat) (h : AH) (res : AH) (hf : f_X12_init a0 h = some res) (K : PR X rmX12_init none res) : PT X 1 0 0 0 [(0, .ref a0)] [] h := by
  unfold f_X12_init at hf
  refine pt_aload_n C 0 rfl rfl dX12_init_0 ?_
  refine pt_objInit C tw_915 tw_30 tw_31 (by decide) (Nat.le_of_ble_eq_true rfl) dX12_init_1 ?_
  refine pt_aload_n C 0 rfl rfl dX12_init_4 ?_
  refine pt_bipush C (v := 6) (by decide) dX12_init_5 ?_
  refine pt_newI C 6 tw_54 (by decide) (by decide) (by decide) (by decide) (by decide) dX12_init_7 ?_
  refine ob hf (fun h1 g2 hf => ?_)
  refine pt_putF C I kX12 1 (by decide) tw_917 (Or.inl rfl) rfl rfl rfl rfl g2 dX12_init_9 ?_
  refine pt_aload_n C 0 rfl rfl dX12_init_12 ?_
  refine pt_bipush C (v := 6) (by decide) dX12_init_13 ?_
  refine pt_newI C 6 tw_54 (by decide) (by decide) (by decide) (by decide) (by decide) dX12_init_15 ?_
  refine ob hf (fun h3 g4 hf => ?_)
  refine pt_putF C I kX12 2 (by decide) tw_918 (Or.inl rfl) rfl rfl rfl rfl g4 dX12_init_17 ?_
  refine pt_aload_n C 0 rfl rfl dX12_init_20 ?_
  refine pt_sipush C (v := 144) (by decide) dX12_init_21 ?_
  refine pt_newI C 144 tw_54 (by decide) (by decide) (by decide) (by decide) (by decide) dX12_init_24 ?_
  refine ob hf (fun h5 g6 hf => ?_)
  refine pt_putF C I kX12 3 (by decide) tw_919 (Or.inl rfl) rfl rfl rfl rfl g6 dX12_init_26 ?_
  refine pt_aload_n C 0 rfl rfl dX12_init_29 ?_
  refine pt_bipush C (v := 72) (by decide) dX12_init_30 ?_
  refine pt_newI C 72 tw_54 (by decide) (by decide) (by decide) (by decide) (by decide) dX12_init_32 ?_
  refine ob hf (fun h7 g8 hf => ?_)
  refine pt_putF C I kX12 4 (by decide) tw_920 (Or.inl rfl) rfl rfl rfl rfl g8 dX12_init_34 ?_
  refine pt_aload_n C 0 rfl rfl dX12_init_37 ?_
  refine pt_bipush C (v := 24) (by decide) dX12_init_38 ?_
  refine pt_newI C 24 tw_54 (by decide) (by decide) (by decide) (by decide) (by decide) dX12_init_40 ?_
  refine ob hf (fun h9 g10 hf => ?_)
  refine pt_putF C I kX12 6 (by decide) tw_922 (Or.inl rfl) rfl rfl rfl rfl g10 dX12_init_42 ?_
  refine pt_aload_n C 0 rfl rfl dX12_init_45 ?_
  refine pt_bipush C (v := 10) (by decide) dX12_init_46 ?_
  refine pt_newI C 10 tw_54 (by decide) (by decide) (by decide) (by decide) (by decide) dX12_init_48 ?_
  refine ob hf (fun h11 g12 hf => ?_)
  refine pt_putF C I kX12 8 (by decide) tw_924 (Or.inl rfl) rfl rfl rfl rfl g12 dX12_init_50 ?_
  refine pt_aload_n C 0 rfl rfl dX12_init_53 ?_
  refine pt_bipush C (v := 10) (by decide) dX12_init_54 ?_
  refine pt_newI C 10 tw_54 (by decide) (by decide) (by decide) (by decide) (by decide) dX12_init_56 ?_
  refine ob hf (fun h13 g14 hf => ?_)
  refine pt_putF C I kX12 9 (by decide) tw_925 (Or.inl rfl) rfl rfl rfl rfl g14 dX12_init_58 ?_
  refine pt_aload_n C 0 rfl rfl dX12_init_61 ?_
  refine pt_bipush C (v := 10) (by decide) dX12_init_62 ?_
  refine pt_newI C 10 tw_54 (by decide) (by decide) (by decide) (by decide) (by decide) dX12_init_64 ?_
  refine ob hf (fun h15 g16 hf => ?_)
  refine pt_putF C I kX12 10 (by decide) tw_926 (Or.inl rfl) rfl rfl rfl rfl g16 dX12_init_66 ?_
  refine pt_aload_n C 0 rfl rfl dX12_init_69 ?_
  refine pt_bipush C (v := 10) (by decide) dX12_init_70 ?_
  refine pt_newI C 10 tw_54 (by decide) (by decide) (by decide) (by decide) (by decide) dX12_init_72 ?_
  refine ob hf (fun h17 g18 hf => ?_)
  refine pt_putF C I kX12 11 (by decide) tw_927 (Or.inl rfl) rfl rfl rfl rfl g18 dX12_init_74 ?_
  refine pt_aload_n C 0 rfl rfl dX12_init_77 ?_
  refine pt_bipush C (v := 10) (by decide) dX12_init_78 ?_
  refine pt_newI C 10 tw_54 (by decide) (by decide) (by decide) (by decide) (by decide) dX12_init_80 ?_
  refine ob hf (fun h19 g20 hf => ?_)
  refine pt_putF C I kX12 12 (by decide) tw_928 (Or.inl rfl) rfl rfl rfl rfl g20 dX12_init_82 ?_
  refine pt_aload_n C 0 rfl rfl dX12_init_85 ?_
  refine pt_bipush C (v := 60) (by decide) dX12_init_86 ?_
  refine pt_newI C 60 tw_54 (by decide) (by decide) (by decide) (by decide) (by decide) dX12_init_88 ?_
  refine ob hf (fun h21 g22 hf => ?_)
  refine pt_putF C I kX12 13 (by decide) tw_929 (Or.inl rfl) rfl rfl rfl rfl g22 dX12_init_90 ?_
  refine pt_aload_n C 0 rfl rfl dX12_init_93 ?_
  refine pt_sipush C (v := 300) (by decide) dX12_init_94 ?_
  refine pt_newI C 300 tw_54 (by decide) (by decide) (by decide) (by decide) (by decide) dX12_init_97 ?_
  refine ob hf (fun h23 g24 hf => ?_)
  refine pt_putF C I kX12 17 (by decide) tw_933 (Or.inl rfl) rfl rfl rfl rfl g24 dX12_init_99 ?_
  refine pt_aload_n C 0 rfl rfl dX12_init_102 ?_
  refine pt_sipush C (v := 300) (by decide) dX12_init_103 ?_
  refine pt_newI C 300 tw_54 (by decide) (by decide) (by decide) (by decide) (by decide) dX12_init_106 ?_
  refine ob hf (fun h25 g26 hf => ?_)
  refine pt_putF C I kX12 18 (by decide) tw_934 (Or.inl rfl) rfl rfl rfl rfl g26 dX12_init_108 ?_
  refine pt_aload_n C 0 rfl rfl dX12_init_111 ?_
  refine pt_bipush C (v := 10) (by decide) dX12_init_112 ?_
  refine pt_newI C 10 tw_54 (by decide) (by decide) (by decide) (by decide) (by decide) dX12_init_114 ?_
  refine ob hf (fun h27 g28 hf => ?_)
  refine pt_putF C I kX12 19 (by decide) tw_935 (Or.inl rfl) rfl rfl rfl rfl g28 dX12_init_116 ?_
  refine pt_aload_n C 0 rfl rfl dX12_init_119 ?_
  refine pt_iconst C (v := 4) (by decide) dX12_init_120 ?_
  refine pt_newI C 4 tw_54 (by decide) (by decide) (by decide) (by decide) (by decide) dX12_init_121 ?_
  refine ob hf (fun h29 g30 hf => ?_)
  refine pt_putF C I kX12 23 (by decide) tw_939 (Or.inl rfl) rfl rfl rfl rfl g30 dX12_init_123 ?_
  refine pt_aload_n C 0 rfl rfl dX12_init_126 ?_
  refine pt_iconst C (v := 4) (by decide) dX12_init_127 ?_
  refine pt_newI C 4 tw_54 (by decide) (by decide) (by decide) (by decide) (by decide) dX12_init_128 ?_
  refine ob hf (fun h31 g32 hf => ?_)
  refine pt_putF C I kX12 24 (by decide) tw_940 (Or.inl rfl) rfl rfl rfl rfl g32 dX12_init_130 ?_
  refine pt_aload_n C 0 rfl rfl dX12_init_133 ?_
  refine pt_iconst C (v := 4) (by decide) dX12_init_134 ?_
  refine pt_newI C 4 tw_54 (by decide) (by decide) (by decide) (by decide) (by decide) dX12_init_135 ?_
  refine ob hf (fun h33 g34 hf => ?_)
  refine pt_putF C I kX12 25 (by decide) tw_941 (Or.inl rfl) rfl rfl rfl rfl g34 dX12_init_137 ?_
  refine pt_aload_n C 0 rfl rfl dX12_init_140 ?_
  refine pt_iconst C (v := 4) (by decide) dX12_init_141 ?_
  refine pt_newI C 4 tw_54 (by decide) (by decide) (by decide) (by decide) (by decide) dX12_init_142 ?_
  refine ob hf (fun h35 g36 hf => ?_)
  refine pt_putF C I kX12 27 (by decide) tw_943 (Or.inl rfl) rfl rfl rfl rfl g36 dX12_init_144 ?_
  refine pt_aload_n C 0 rfl rfl dX12_init_147 ?_
  refine pt_iconst C (v := 4) (by decide) dX12_init_148 ?_
  refine pt_newI C 4 tw_54 (by decide) (by decide) (by decide) (by decide) (by decide) dX12_init_149 ?_
  refine ob hf (fun h37 g38 hf => ?_)
  refine pt_putF C I kX12 28 (by decide) tw_944 (Or.inl rfl) rfl rfl rfl rfl g38 dX12_init_151 ?_
  refine pt_aload_n C 0 rfl rfl dX12_init_154 ?_
  refine pt_iconst C (v := 5) (by decide) dX12_init_155 ?_
  refine pt_newI C 5 tw_54 (by decide) (by decide) (by decide) (by decide) (by decide) dX12_init_156 ?_
  refine ob hf (fun h39 g40 hf => ?_)
  refine pt_putF C I kX12 29 (by decide) tw_945 (Or.inl rfl) rfl rfl rfl rfl g40 dX12_init_158 ?_
  refine pt_aload_n C 0 rfl rfl dX12_init_161 ?_
  refine pt_bipush C (v := 12) (by decide) dX12_init_162 ?_
  refine pt_newI C 12 tw_54 (by decide) (by decide) (by decide) (by decide) (by decide) dX12_init_164 ?_
  refine ob hf (fun h41 g42 hf => ?_)
  refine pt_putF C I kX12 31 (by decide) tw_947 (Or.inl rfl) rfl rfl rfl rfl g42 dX12_init_166 ?_
  refine pt_aload_n C 0 rfl rfl dX12_init_169 ?_
  refine pt_bipush C (v := 12) (by decide) dX12_init_170 ?_
  refine pt_newI C 12 tw_54 (by decide) (by decide) (by decide) (by decide) (by decide) dX12_init_172 ?_
  refine ob hf (fun h43 g44 hf => ?_)
  refine pt_putF C I kX12 32 (by decide) tw_948 (Or.inl rfl) rfl rfl rfl rfl g44 dX12_init_174 ?_
  refine pt_aload_n C 0 rfl rfl dX12_init_177 ?_
  refine pt_bipush C (v := 25) (by decide) dX12_init_178 ?_
  refine pt_newJ C 25 tw_239 (by decide) (by decide) (by decide) (by decide) (by decide) dX12_init_180 ?_
  refine ob hf (fun h45 g46 hf => ?_)
  refine pt_putF C I kX12 33 (by decide) tw_949 (Or.inl rfl) rfl rfl rfl rfl g46 dX12_init_182 ?_
  refine pt_aload_n C 0 rfl rfl dX12_init_185 ?_
  refine pt_bipush C (v := 25) (by decide) dX12_init_186 ?_
  refine pt_newI C 25 tw_54 (by decide) (by decide) (by decide) (by decide) (by decide) dX12_init_188 ?_
  refine ob hf (fun h47 g48 hf => ?_)
  refine pt_putF C I kX12 34 (by decide) tw_950 (Or.inl rfl) rfl rfl rfl rfl g48 dX12_init_190 ?_
  refine pt_aload_n C 0 rfl rfl dX12_init_193 ?_
  refine pt_bipush C (v := 60) (by decide) dX12_init_194 ?_
  refine pt_newI C 60 tw_54 (by decide) (by decide) (by decide) (by decide) (by decide) dX12_init_196 ?_
  refine ob hf (fun h49 g50 hf => ?_)
  refine pt_putF C I kX12 36 (by decide) tw_952 (Or.inl rfl) rfl rfl rfl rfl g50 dX12_init_198 ?_
  refine pt_aload_n C 0 rfl rfl dX12_init_201 ?_
  refine pt_bipush C (v := 60) (by decide) dX12_init_202 ?_
  refine pt_newI C 60 tw_54 (by decide) (by decide) (by decide) (by decide) (by decide) dX12_init_204 ?_
  refine ob hf (fun h51 g52 hf => ?_)
  refine pt_putF C I kX12 37 (by decide) tw_953 (Or.inl rfl) rfl rfl rfl rfl g52 dX12_init_206 ?_
  refine pt_aload_n C 0 rfl rfl dX12_init_209 ?_
  refine pt_sipush C (v := 300) (by decide) dX12_init_210 ?_
  refine pt_newI C 300 tw_54 (by decide) (by decide) (by decide) (by decide) (by decide) dX12_init_213 ?_
  refine ob hf (fun h53 g54 hf => ?_)
  refine pt_putF C I kX12 38 (by decide) tw_954 (Or.inl rfl) rfl rfl rfl rfl g54 dX12_init_215 ?_
  refine pt_aload_n C 0 rfl rfl dX12_init_218 ?_
  refine pt_sipush C (v := 650) (by decide) dX12_init_219 ?_
  refine pt_newI C 650 tw_54 (by decide) (by decide) (by decide) (by decide) (by decide) dX12_init_222 ?_
  refine ob hf (fun h55 g56 hf => ?_)
  refine pt_putF C I kX12 43 (by decide) tw_959 (Or.inl rfl) rfl rfl rfl rfl g56 dX12_init_224 ?_
  refine pt_aload_n C 0 rfl rfl dX12_init_227 ?_
  refine pt_bipush C (v := 6) (by decide) dX12_init_228 ?_
  refine pt_newI C 6 tw_54 (by decide) (by decide) (by decide) (by decide) (by decide) dX12_init_230 ?_
  refine ob hf (fun h57 g58 hf => ?_)
  refine pt_putF C I kX12 44 (by decide) tw_960 (Or.inl rfl) rfl rfl rfl rfl g58 dX12_init_232 ?_
  obtain rfl := Option.some.inj hf
  exact pt_vret C K (by decide) (by decide) dX12_init_235
theorem con_X12_init (l : Launch) (a0 : Nat) (h : AH) (q : AH) (hf : f_X12_init a0 h = some q) : Con l yX12_init cX12_init 1 none rmX12_init [.ref a0] h none q := Con.of (by decide +kernel) (Nat.le_of_ble_eq_true rfl) (fun X C I K => w_X12_init_0 C (I rfl) a0 h q hf K)
abbrev rmX12_isOf : Room := { frames := 0, cells := 0, slots := 0, locals := 0 }
theorem yn_X12_isOf : YN yX12_isOf 1 := by refine ⟨?_, ?_, ?_⟩ <;> decide +kernel
set_option maxRecDepth 100000 in
set_option maxHeartbeats 4000000 in
theorem w_X12_isOf_0 {X : MX} (C : CX X cX12_isOf 2 RX12 (some .boolean) rmX12_isOf) (a0 : Nat) (a1 : Int32) (h : AH) (res : Int32 × AH) (hf : f_X12_isOf a0 a1 h = some res) (K : ∀ (v : Int32) (h2 : AH), res = (v, h2) → PR X rmX12_isOf (some (.int v)) h2) : PT X 2 0 0 0 [(0, .ref a0), (1, .int a1)] [] h := by
  unfold f_X12_isOf at hf
  refine pt_aload_n C 0 rfl rfl dX12_isOf_0 ?_
  refine ob hf (fun v1 g2 hf => ?_)
  refine pt_getI C kX12 14 (by decide) tw_930 (Or.inl rfl) g2 dX12_isOf_1 ?_
  refine pt_iload_n C 1 rfl rfl dX12_isOf_4 ?_
  refine pt_ishr C dX12_isOf_5 ?_
  refine pt_iconst C (v := 1) (by decide) dX12_isOf_6 ?_
  refine pt_iand C dX12_isOf_7 ?_
  refine pt_iconst C (v := 1) (by decide) dX12_isOf_8 ?_
  refine pt_icmp_ne C (tgt := 16) (by decide) dX12_isOf_9 (fun c3 => ?_) (fun c3 => ?_)
  · rw [if_neg c3] at hf
    refine pt_iconst C (v := 0) (by decide) dX12_isOf_16 ?_
    exact pt_zret C (by decide) (K _ _ (Option.some.inj hf).symm) (by decide) (by decide) dX12_isOf_17
  · rw [if_pos c3] at hf
    refine pt_iconst C (v := 1) (by decide) dX12_isOf_12 ?_
    refine pt_goto C (tgt := 17) (by decide) dX12_isOf_13 ?_
    exact pt_zret C (by decide) (K _ _ (Option.some.inj hf).symm) (by decide) (by decide) dX12_isOf_17
theorem con_X12_isOf (l : Launch) (a0 : Nat) (a1 : Int32) (h : AH) (q : Int32 × AH) (hf : f_X12_isOf a0 a1 h = some q) : Con l yX12_isOf cX12_isOf 2 (some .boolean) rmX12_isOf [.ref a0, .int a1] h (some (.int q.1)) q.2 := Con.of (by decide +kernel) (Nat.le_of_ble_eq_true rfl) (fun X C I K => w_X12_isOf_0 C a0 a1 h q hf (fun v h2 e => by cases e; exact K))
abbrev rmX12_noHand : Room := { frames := 1, cells := 0, slots := 0, locals := 25 }
theorem yn_X12_noHand : YN yX12_noHand 1 := by refine ⟨?_, ?_, ?_⟩ <;> decide +kernel
set_option maxRecDepth 100000 in
set_option maxHeartbeats 4000000 in
theorem w_X12_noHand_0 {X : MX} (C : CX X cX12_noHand 2 RX12 (some .boolean) rmX12_noHand) (a0 : Nat) (a1 : Int32) (h : AH) (res : Int32 × AH) (hf : f_X12_noHand a0 a1 h = some res) (K : ∀ (v : Int32) (h2 : AH), res = (v, h2) → PR X rmX12_noHand (some (.int v)) h2) : PT X 2 0 0 0 [(0, .ref a0), (1, .int a1)] [] h := by
  unfold f_X12_noHand at hf
  refine pt_iload_n C 1 rfl rfl dX12_noHand_0 ?_
  refine pt_i2l C dX12_noHand_1 ?_
  refine pt_lconst C (v := 0) (by decide) dX12_noHand_2 ?_
  refine pt_aload_n C 0 rfl rfl dX12_noHand_3 ?_
  refine ob hf (fun v1 g2 hf => ?_)
  refine pt_getI C kX12 7 (by decide) tw_923 (Or.inl rfl) g2 dX12_noHand_4 ?_
  refine pt_iconst C (v := 1) (by decide) dX12_noHand_7 ?_
  refine pt_isub C dX12_noHand_8 ?_
  refine pt_i2l C dX12_noHand_9 ?_
  refine ob hf (fun q3 g4 hf => ?_)
  refine pt_callS C (As := [.long a1.toInt64, .long 0, .long ((v1 - 1).toInt64)]) (rest := []) (v := (some (.int q3.1))) (fun l => con_X12_in l a1.toInt64 0 ((v1 - 1).toInt64) h _ g4) tw_1065 tw_1063 tw_1064 tw_13 yn_X12_in (by decide) (Nat.le_of_ble_eq_true rfl) dX12_noHand_10 rfl ?_
  show PT X 2 0 0 13 [(0, .ref a0), (1, .int a1)] [.int q3.1] q3.2
  refine pt_if_ne C (tgt := 20) (by decide) dX12_noHand_13 (fun c5 => ?_) (fun c5 => ?_)
  · rw [if_neg c5] at hf
    refine pt_iconst C (v := 0) (by decide) dX12_noHand_20 ?_
    exact pt_zret C (by decide) (K _ _ (Option.some.inj hf).symm) (by decide) (by decide) dX12_noHand_21
  · rw [if_pos c5] at hf
    refine pt_iconst C (v := 1) (by decide) dX12_noHand_16 ?_
    refine pt_goto C (tgt := 21) (by decide) dX12_noHand_17 ?_
    exact pt_zret C (by decide) (K _ _ (Option.some.inj hf).symm) (by decide) (by decide) dX12_noHand_21
theorem con_X12_noHand (l : Launch) (a0 : Nat) (a1 : Int32) (h : AH) (q : Int32 × AH) (hf : f_X12_noHand a0 a1 h = some q) : Con l yX12_noHand cX12_noHand 2 (some .boolean) rmX12_noHand [.ref a0, .int a1] h (some (.int q.1)) q.2 := Con.of (by decide +kernel) (Nat.le_of_ble_eq_true rfl) (fun X C I K => w_X12_noHand_0 C a0 a1 h q hf (fun v h2 e => by cases e; exact K))
abbrev rmX12_late : Room := { frames := 2, cells := 0, slots := 0, locals := 46 }
theorem yn_X12_late : YN yX12_late 2 := by refine ⟨?_, ?_, ?_⟩ <;> decide +kernel
set_option maxRecDepth 100000 in
set_option maxHeartbeats 4000000 in
theorem w_X12_late_0 {X : MX} (C : CX X cX12_late 4 RX12 (some .int) rmX12_late) (a0 : Nat) (a1 : Int32) (a2 : Int32) (h : AH) (res : Int32 × AH) (hf : f_X12_late a0 a1 a2 h = some res) (K : ∀ (v : Int32) (h2 : AH), res = (v, h2) → PR X rmX12_late (some (.int v)) h2) : PT X 4 0 0 0 [(0, .ref a0), (1, .int a1), (2, .int a2)] [] h := by
  unfold f_X12_late at hf
  refine pt_aload_n C 0 rfl rfl dX12_late_0 ?_
  refine pt_iload_n C 1 rfl rfl dX12_late_1 ?_
  refine ob hf (fun _ g3 hf => ?_)
  refine ob hf (fun q1 g2 hf => ?_)
  refine pt_callV C (As := [.int a1]) (rest := []) (v := (some (.int q1.1))) (fun l => con_X12_noHand l a0 a1 h _ g2) tw_1104 tw_1101 tw_1103 tp_24 kX12 g3 tw_13 yn_X12_noHand (by decide) (Nat.le_of_ble_eq_true rfl) dX12_late_2 rfl ?_
  show PT X 4 0 0 5 [(0, .ref a0), (1, .int a1), (2, .int a2)] [.int q1.1] q1.2
  refine pt_if_ne C (tgt := 20) (by decide) dX12_late_5 (fun c4 => ?_) (fun c4 => ?_)
  · rw [if_neg c4] at hf
    refine pt_bipush C (v := (-2)) (by decide) dX12_late_20 ?_
    exact pt_iret C (K _ _ (Option.some.inj hf).symm) (by decide) (by decide) dX12_late_22
  · rw [if_pos c4] at hf
    refine pt_iload_n C 2 rfl rfl dX12_late_8 ?_
    refine pt_i2l C dX12_late_9 ?_
    refine pt_lconst C (v := 0) (by decide) dX12_late_10 ?_
    refine pt_ldc2 C tw_1062 dX12_late_11 ?_
    refine ob hf (fun q5 g6 hf => ?_)
    refine pt_callS C (As := [.long a2.toInt64, .long 0, .long 3]) (rest := []) (v := (some (.int q5.1))) (fun l => con_X12_in l a2.toInt64 0 3 q1.2 _ g6) tw_1065 tw_1063 tw_1064 tw_13 yn_X12_in (by decide) (Nat.le_of_ble_eq_true rfl) dX12_late_14 rfl ?_
    show PT X 4 0 0 17 [(0, .ref a0), (1, .int a1), (2, .int a2)] [.int q5.1] q5.2
    refine pt_if_ne C (tgt := 23) (by decide) dX12_late_17 (fun c7 => ?_) (fun c7 => ?_)
    · rw [if_neg c7] at hf
      refine pt_aload_n C 0 rfl rfl dX12_late_23 ?_
      refine ob hf (fun v8 g9 hf => ?_)
      refine pt_getR C kX12 12 (by decide) tw_928 (Or.inl rfl) g9 dX12_late_24 ?_
      refine pt_iload_n C 1 rfl rfl dX12_late_27 ?_
      refine ob hf (fun v10 g11 hf => ?_)
      refine pt_iald C g11 dX12_late_28 ?_
      refine pt_istore_n C [(3, .int v10), (0, .ref a0), (1, .int a1), (2, .int a2)] rfl (by decide) rfl dX12_late_29 ?_
      refine pt_aload_n C 1 rfl rfl dX12_late_30 ?_
      refine ob hf (fun v12 g13 hf => ?_)
      refine pt_getR C kX12 12 (by decide) tw_928 (Or.inl rfl) g13 dX12_late_31 ?_
      refine pt_iload_n C 2 rfl rfl dX12_late_34 ?_
      refine pt_iload_n C 3 rfl rfl dX12_late_35 ?_
      refine ob hf (fun h14 g15 hf => ?_)
      refine pt_iast C g15 dX12_late_36 ?_
      refine pt_iload_n C 0 rfl rfl dX12_late_37 ?_
      exact pt_iret C (K _ _ (Option.some.inj hf).symm) (by decide) (by decide) dX12_late_38
    · rw [if_pos c7] at hf
      refine pt_bipush C (v := (-2)) (by decide) dX12_late_20 ?_
      exact pt_iret C (K _ _ (Option.some.inj hf).symm) (by decide) (by decide) dX12_late_22
theorem con_X12_late (l : Launch) (a0 : Nat) (a1 : Int32) (a2 : Int32) (h : AH) (q : Int32 × AH) (hf : f_X12_late a0 a1 a2 h = some q) : Con l yX12_late cX12_late 4 (some .int) rmX12_late [.ref a0, .int a1, .int a2] h (some (.int q.1)) q.2 := Con.of (by decide +kernel) (Nat.le_of_ble_eq_true rfl) (fun X C I K => w_X12_late_0 C a0 a1 a2 h q hf (fun v h2 e => by cases e; exact K))
abbrev rmX12_lineAt : Room := { frames := 3, cells := 0, slots := 0, locals := 76 }
theorem yn_X12_lineAt : YN yX12_lineAt 3 := by refine ⟨?_, ?_, ?_⟩ <;> decide +kernel
set_option maxRecDepth 100000 in
set_option maxHeartbeats 4000000 in
theorem w_X12_lineAt_L71_J137 {X : MX} (C : CX X cX12_lineAt 13 RX12 (some .int) rmX12_lineAt) (x0 : Nat) (x1 : Int32) (x4 : Int32) (x7 : Int32) (x8 : Int32) (y9 : Int32) (y10 : Int32) (z0 : Int64) (z1 : Int64) (h : AH) (res : (Int64 × Int32 × Int32 × AH) ⊕ ((Int64 × Int32 × AH))) (hf : f_X12_lineAt_L71_J137 x0 x1 x4 x7 x8 y9 y10 z0 z1 h = some res) (K0 : ∀ (u5 : Int64) (u9 : Int32) (u10 : Int32) (hu : AH), res = .inl (u5, u9, u10, hu) → PT X 13 0 0 71 [(0, .ref x0), (1, .int x1), (4, .int x4), (5, .long u5), (7, .int x7), (8, .int x8), (9, .int u9), (10, .int u10)] [] hu) (K1 : ∀ (u5 : Int64) (u9 : Int32) (hu : AH), res = .inr ((u5, u9, hu)) → PT X 13 0 0 158 [(0, .ref x0), (1, .int x1), (4, .int x4), (5, .long u5), (7, .int x7), (8, .int x8), (9, .int u9)] [] hu) : PT X 13 0 0 137 [(0, .ref x0), (1, .int x1), (4, .int x4), (7, .int x7), (8, .int x8), (9, .int y9), (10, .int y10)] [.long z0, .long z1] h := by
  unfold f_X12_lineAt_L71_J137 at hf
  refine pt_lsub C dX12_lineAt_137 ?_
  refine pt_lstore C [(5, .long (z1 - z0)), (0, .ref x0), (1, .int x1), (4, .int x4), (7, .int x7), (8, .int x8), (9, .int y9), (10, .int y10)] (by decide) rfl dX12_lineAt_138 ?_
  refine pt_iload C 6 rfl dX12_lineAt_140 ?_
  refine pt_iload C 7 rfl dX12_lineAt_142 ?_
  refine pt_if_eq C (tgt := 151) (by decide) dX12_lineAt_144 (fun c30 => ?_) (fun c30 => ?_)
  · rw [if_pos c30] at hf
    refine pt_iconst C (v := 1) (by decide) dX12_lineAt_151 ?_
    refine pt_iadd C dX12_lineAt_152 ?_
    refine pt_istore C [(9, .int (y9 + 1)), (5, .long (z1 - z0)), (0, .ref x0), (1, .int x1), (4, .int x4), (7, .int x7), (8, .int x8), (10, .int y10)] (by decide) rfl dX12_lineAt_153 ?_
    refine pt_goto C (tgt := 71) (by decide) dX12_lineAt_155 ?_
    refine pt_sub C [(0, .ref x0), (1, .int x1), (4, .int x4), (5, .long (z1 - z0)), (7, .int x7), (8, .int x8), (9, .int (y9 + 1)), (10, .int y10)] [2, 3, 4, 1, 5, 6, 0, 7] rfl ?_
    exact K0 _ _ _ _ (Option.some.inj hf).symm
  · rw [if_neg c30] at hf
    refine pt_iconst C (v := 0) (by decide) dX12_lineAt_147 ?_
    refine pt_goto C (tgt := 152) (by decide) dX12_lineAt_148 ?_
    refine pt_iadd C dX12_lineAt_152 ?_
    refine pt_istore C [(9, .int (y9 + 0)), (5, .long (z1 - z0)), (0, .ref x0), (1, .int x1), (4, .int x4), (7, .int x7), (8, .int x8), (10, .int y10)] (by decide) rfl dX12_lineAt_153 ?_
    refine pt_goto C (tgt := 71) (by decide) dX12_lineAt_155 ?_
    refine pt_sub C [(0, .ref x0), (1, .int x1), (4, .int x4), (5, .long (z1 - z0)), (7, .int x7), (8, .int x8), (9, .int (y9 + 0)), (10, .int y10)] [2, 3, 4, 1, 5, 6, 0, 7] rfl ?_
    exact K0 _ _ _ _ (Option.some.inj hf).symm
set_option maxRecDepth 100000 in
set_option maxHeartbeats 4000000 in
theorem w_X12_lineAt_L71_J122 {X : MX} (C : CX X cX12_lineAt 13 RX12 (some .int) rmX12_lineAt) (x0 : Nat) (x1 : Int32) (x4 : Int32) (x7 : Int32) (x8 : Int32) (y5 : Int64) (y9 : Int32) (y11 : Int64) (z0 : Int32) (h : AH) (res : (Int64 × Int32 × Int32 × AH) ⊕ ((Int64 × Int32 × AH))) (hf : f_X12_lineAt_L71_J122 x0 x1 x4 x7 x8 y5 y9 y11 z0 h = some res) (K0 : ∀ (u5 : Int64) (u9 : Int32) (u10 : Int32) (hu : AH), res = .inl (u5, u9, u10, hu) → PT X 13 0 0 71 [(0, .ref x0), (1, .int x1), (4, .int x4), (5, .long u5), (7, .int x7), (8, .int x8), (9, .int u9), (10, .int u10)] [] hu) (K1 : ∀ (u5 : Int64) (u9 : Int32) (hu : AH), res = .inr ((u5, u9, hu)) → PT X 13 0 0 158 [(0, .ref x0), (1, .int x1), (4, .int x4), (5, .long u5), (7, .int x7), (8, .int x8), (9, .int u9)] [] hu) : PT X 13 0 0 122 [(0, .ref x0), (1, .int x1), (4, .int x4), (5, .long y5), (7, .int x7), (8, .int x8), (9, .int y9), (11, .long y11)] [.int z0] h := by
  unfold f_X12_lineAt_L71_J122 at hf
  refine pt_istore C [(10, .int z0), (0, .ref x0), (1, .int x1), (4, .int x4), (5, .long y5), (7, .int x7), (8, .int x8), (9, .int y9), (11, .long y11)] (by decide) rfl dX12_lineAt_122 ?_
  refine pt_lload C 4 rfl dX12_lineAt_124 ?_
  refine pt_iload C 0 rfl dX12_lineAt_126 ?_
  refine pt_if_eq C (tgt := 135) (by decide) dX12_lineAt_128 (fun c29 => ?_) (fun c29 => ?_)
  · rw [if_pos c29] at hf
    refine pt_lload C 8 rfl dX12_lineAt_135 ?_
    refine pt_sub C [(0, .ref x0), (1, .int x1), (4, .int x4), (7, .int x7), (8, .int x8), (9, .int y9), (10, .int z0)] [1, 2, 3, 5, 6, 7, 0] rfl ?_
    exact w_X12_lineAt_L71_J137 C x0 x1 x4 x7 x8 y9 z0 y11 y5 h _ hf K0 K1
  · rw [if_neg c29] at hf
    refine pt_lconst C (v := 0) (by decide) dX12_lineAt_131 ?_
    refine pt_goto C (tgt := 137) (by decide) dX12_lineAt_132 ?_
    refine pt_sub C [(0, .ref x0), (1, .int x1), (4, .int x4), (7, .int x7), (8, .int x8), (9, .int y9), (10, .int z0)] [1, 2, 3, 5, 6, 7, 0] rfl ?_
    exact w_X12_lineAt_L71_J137 C x0 x1 x4 x7 x8 y9 z0 0 y5 h _ hf K0 K1
set_option maxRecDepth 100000 in
set_option maxHeartbeats 4000000 in
theorem w_X12_lineAt_L71_J107 {X : MX} (C : CX X cX12_lineAt 13 RX12 (some .int) rmX12_lineAt) (x0 : Nat) (x1 : Int32) (x4 : Int32) (x7 : Int32) (x8 : Int32) (y5 : Int64) (y9 : Int32) (z0 : Int64) (h : AH) (res : (Int64 × Int32 × Int32 × AH) ⊕ ((Int64 × Int32 × AH))) (hf : f_X12_lineAt_L71_J107 x0 x1 x4 x7 x8 y5 y9 z0 h = some res) (K0 : ∀ (u5 : Int64) (u9 : Int32) (u10 : Int32) (hu : AH), res = .inl (u5, u9, u10, hu) → PT X 13 0 0 71 [(0, .ref x0), (1, .int x1), (4, .int x4), (5, .long u5), (7, .int x7), (8, .int x8), (9, .int u9), (10, .int u10)] [] hu) (K1 : ∀ (u5 : Int64) (u9 : Int32) (hu : AH), res = .inr ((u5, u9, hu)) → PT X 13 0 0 158 [(0, .ref x0), (1, .int x1), (4, .int x4), (5, .long u5), (7, .int x7), (8, .int x8), (9, .int u9)] [] hu) : PT X 13 0 0 107 [(0, .ref x0), (1, .int x1), (4, .int x4), (5, .long y5), (7, .int x7), (8, .int x8), (9, .int y9)] [.long z0] h := by
  unfold f_X12_lineAt_L71_J107 at hf
  refine pt_lstore C [(11, .long z0), (0, .ref x0), (1, .int x1), (4, .int x4), (5, .long y5), (7, .int x7), (8, .int x8), (9, .int y9)] (by decide) rfl dX12_lineAt_107 ?_
  refine pt_lload C 4 rfl dX12_lineAt_109 ?_
  refine pt_lload C 0 rfl dX12_lineAt_111 ?_
  refine pt_lcmp C dX12_lineAt_113 ?_
  refine pt_if_ge C (tgt := 121) (by decide) dX12_lineAt_114 (fun c28 => ?_) (fun c28 => ?_)
  · rw [if_pos c28] at hf
    refine pt_iconst C (v := 0) (by decide) dX12_lineAt_121 ?_
    refine pt_sub C [(0, .ref x0), (1, .int x1), (4, .int x4), (5, .long y5), (7, .int x7), (8, .int x8), (9, .int y9), (11, .long z0)] [1, 2, 3, 4, 5, 6, 7, 0] rfl ?_
    exact w_X12_lineAt_L71_J122 C x0 x1 x4 x7 x8 y5 y9 z0 0 h _ hf K0 K1
  · rw [if_neg c28] at hf
    refine pt_iconst C (v := 1) (by decide) dX12_lineAt_117 ?_
    refine pt_goto C (tgt := 122) (by decide) dX12_lineAt_118 ?_
    refine pt_sub C [(0, .ref x0), (1, .int x1), (4, .int x4), (5, .long y5), (7, .int x7), (8, .int x8), (9, .int y9), (11, .long z0)] [1, 2, 3, 4, 5, 6, 7, 0] rfl ?_
    exact w_X12_lineAt_L71_J122 C x0 x1 x4 x7 x8 y5 y9 z0 1 h _ hf K0 K1
set_option maxRecDepth 100000 in
set_option maxHeartbeats 4000000 in
theorem w_X12_lineAt_L71 {X : MX} (C : CX X cX12_lineAt 13 RX12 (some .int) rmX12_lineAt) (x0 : Nat) (x1 : Int32) (x4 : Int32) (x7 : Int32) (x8 : Int32) (s : Int64 × Int32 × Int32 × AH) (res : (Int64 × Int32 × Int32 × AH) ⊕ ((Int64 × Int32 × AH))) (hf : f_X12_lineAt_L71 x0 x1 x4 x7 x8 s = some res) (K0 : ∀ (u5 : Int64) (u9 : Int32) (u10 : Int32) (hu : AH), res = .inl (u5, u9, u10, hu) → PT X 13 0 0 71 [(0, .ref x0), (1, .int x1), (4, .int x4), (5, .long u5), (7, .int x7), (8, .int x8), (9, .int u9), (10, .int u10)] [] hu) (K1 : ∀ (u5 : Int64) (u9 : Int32) (hu : AH), res = .inr ((u5, u9, hu)) → PT X 13 0 0 158 [(0, .ref x0), (1, .int x1), (4, .int x4), (5, .long u5), (7, .int x7), (8, .int x8), (9, .int u9)] [] hu) : PT X 13 0 0 71 [(0, .ref x0), (1, .int x1), (4, .int x4), (5, .long s.1), (7, .int x7), (8, .int x8), (9, .int s.2.1), (10, .int s.2.2.1)] [] s.2.2.2 := by
  unfold f_X12_lineAt_L71 at hf
  refine pt_iload C 7 rfl dX12_lineAt_71 ?_
  refine pt_if_ne C (tgt := 158) (by decide) dX12_lineAt_73 (fun c23 => ?_) (fun c23 => ?_)
  · rw [if_neg c23] at hf
    refine pt_sub C [(0, .ref x0), (1, .int x1), (4, .int x4), (5, .long s.1), (7, .int x7), (8, .int x8), (9, .int s.2.1)] [0, 1, 2, 3, 4, 5, 6] rfl ?_
    exact K1 _ _ _ (Option.some.inj hf).symm
  · rw [if_pos c23] at hf
    refine pt_aload_n C 0 rfl rfl dX12_lineAt_76 ?_
    refine pt_iload_n C 1 rfl rfl dX12_lineAt_77 ?_
    refine pt_iload C 4 rfl dX12_lineAt_78 ?_
    refine pt_iload C 6 rfl dX12_lineAt_80 ?_
    refine ob hf (fun _ g26 hf => ?_)
    refine ob hf (fun q24 g25 hf => ?_)
    refine pt_callV C (As := [.int x1, .int x7, .int s.2.1]) (rest := []) (v := (some (.int q24.1))) (fun l => con_X12_wrongOf l x0 x1 x7 s.2.1 s.2.2.2 _ g25) tw_1222 tw_1219 tw_1221 tp_35 kX12 g26 tw_13 yn_X12_wrongOf (by decide) (Nat.le_of_ble_eq_true rfl) dX12_lineAt_82 rfl ?_
    show PT X 13 0 0 85 [(0, .ref x0), (1, .int x1), (4, .int x4), (5, .long s.1), (7, .int x7), (8, .int x8), (9, .int s.2.1), (10, .int s.2.2.1)] [.int q24.1] q24.2
    refine pt_if_ne C (tgt := 106) (by decide) dX12_lineAt_85 (fun c27 => ?_) (fun c27 => ?_)
    · rw [if_neg c27] at hf
      refine pt_lconst C (v := 0) (by decide) dX12_lineAt_106 ?_
      refine pt_sub C [(0, .ref x0), (1, .int x1), (4, .int x4), (5, .long s.1), (7, .int x7), (8, .int x8), (9, .int s.2.1)] [0, 1, 2, 3, 4, 5, 6] rfl ?_
      exact w_X12_lineAt_L71_J107 C x0 x1 x4 x7 x8 s.1 s.2.1 0 q24.2 _ hf K0 K1
    · rw [if_pos c27] at hf
      refine pt_aload_n C 0 rfl rfl dX12_lineAt_88 ?_
      refine ob hf (fun v31 g32 hf => ?_)
      refine pt_getR C kX12 33 (by decide) tw_949 (Or.inl rfl) g32 dX12_lineAt_89 ?_
      refine pt_iload C 4 rfl dX12_lineAt_92 ?_
      refine pt_aload_n C 0 rfl rfl dX12_lineAt_94 ?_
      refine ob hf (fun v33 g34 hf => ?_)
      refine pt_getR C kX12 31 (by decide) tw_947 (Or.inl rfl) g34 dX12_lineAt_95 ?_
      refine pt_iload C 6 rfl dX12_lineAt_98 ?_
      refine ob hf (fun v35 g36 hf => ?_)
      refine pt_iald C g36 dX12_lineAt_100 ?_
      refine pt_iadd C dX12_lineAt_101 ?_
      refine ob hf (fun v37 g38 hf => ?_)
      refine pt_lald C g38 dX12_lineAt_102 ?_
      refine pt_goto C (tgt := 107) (by decide) dX12_lineAt_103 ?_
      refine pt_sub C [(0, .ref x0), (1, .int x1), (4, .int x4), (5, .long s.1), (7, .int x7), (8, .int x8), (9, .int s.2.1)] [0, 1, 2, 3, 4, 5, 6] rfl ?_
      exact w_X12_lineAt_L71_J107 C x0 x1 x4 x7 x8 s.1 s.2.1 v37 q24.2 _ hf K0 K1
theorem l_X12_lineAt_L71 {X : MX} (C : CX X cX12_lineAt 13 RX12 (some .int) rmX12_lineAt) (x0 : Nat) (x1 : Int32) (x4 : Int32) (x7 : Int32) (x8 : Int32) : ∀ (n : Nat) (s : Int64 × Int32 × Int32 × AH) (r : (Int64 × Int32 × AH)), iter (f_X12_lineAt_L71 x0 x1 x4 x7 x8) n s = some r → (fun r : (Int64 × Int32 × AH) => PT X 13 0 0 158 [(0, .ref x0), (1, .int x1), (4, .int x4), (5, .long r.1), (7, .int x7), (8, .int x8), (9, .int r.2.1)] [] r.2.2) r → PT X 13 0 0 71 [(0, .ref x0), (1, .int x1), (4, .int x4), (5, .long s.1), (7, .int x7), (8, .int x8), (9, .int s.2.1), (10, .int s.2.2.1)] [] s.2.2.2 :=
  iter_W (fun s : Int64 × Int32 × Int32 × AH => PT X 13 0 0 71 [(0, .ref x0), (1, .int x1), (4, .int x4), (5, .long s.1), (7, .int x7), (8, .int x8), (9, .int s.2.1), (10, .int s.2.2.1)] [] s.2.2.2) (fun r : (Int64 × Int32 × AH) => PT X 13 0 0 158 [(0, .ref x0), (1, .int x1), (4, .int x4), (5, .long r.1), (7, .int x7), (8, .int x8), (9, .int r.2.1)] [] r.2.2) _ (fun s s2 hf P => w_X12_lineAt_L71 C x0 x1 x4 x7 x8 s _ hf (fun u5 u9 u10 hu e => by cases e; exact P) (fun u5 u9 hu e => by cases e)) (fun s r hf P => w_X12_lineAt_L71 C x0 x1 x4 x7 x8 s _ hf (fun u5 u9 u10 hu e => by cases e) (fun u5 u9 hu e => by cases e; exact P))
set_option maxRecDepth 100000 in
set_option maxHeartbeats 4000000 in
theorem w_X12_lineAt_L54 {X : MX} (C : CX X cX12_lineAt 13 RX12 (some .int) rmX12_lineAt) (x0 : Nat) (x1 : Int32) (x4 : Int32) (s : Int64 × Int32 × Int32 × AH) (res : (Int64 × Int32 × Int32 × AH) ⊕ ((AH) ⊕ (Int32 × AH))) (hf : f_X12_lineAt_L54 x0 x1 x4 s = some res) (K0 : ∀ (u5 : Int64) (u7 : Int32) (u8 : Int32) (hu : AH), res = .inl (u5, u7, u8, hu) → PT X 13 0 0 54 [(0, .ref x0), (1, .int x1), (4, .int x4), (5, .long u5), (7, .int u7), (8, .int u8)] [] hu) (K1 : ∀ (hu : AH), res = .inr (.inl (hu)) → PT X 13 0 0 191 [] [] hu) (K2 : ∀ (u9 : Int32) (hu : AH), res = .inr (.inr ((u9, hu))) → PT X 13 0 0 165 [(9, .int u9)] [] hu) : PT X 13 0 0 54 [(0, .ref x0), (1, .int x1), (4, .int x4), (5, .long s.1), (7, .int s.2.1), (8, .int s.2.2.1)] [] s.2.2.2 := by
  unfold f_X12_lineAt_L54 at hf
  refine pt_iload C 4 rfl dX12_lineAt_54 ?_
  refine pt_aload_n C 0 rfl rfl dX12_lineAt_56 ?_
  refine ob hf (fun v18 g19 hf => ?_)
  refine pt_getR C kX12 1 (by decide) tw_917 (Or.inl rfl) g19 dX12_lineAt_57 ?_
  refine pt_iload_n C 1 rfl rfl dX12_lineAt_60 ?_
  refine ob hf (fun v20 g21 hf => ?_)
  refine pt_iald C g21 dX12_lineAt_61 ?_
  refine pt_icmp_ge C (tgt := 191) (by decide) dX12_lineAt_62 (fun c22 => ?_) (fun c22 => ?_)
  · rw [if_pos c22] at hf
    refine pt_sub C [] [] rfl ?_
    exact K1 _ (Option.some.inj hf).symm
  · rw [if_neg c22] at hf
    refine pt_iconst C (v := 0) (by decide) dX12_lineAt_65 ?_
    refine pt_istore C [(9, .int 0), (0, .ref x0), (1, .int x1), (4, .int x4), (5, .long s.1), (7, .int s.2.1), (8, .int s.2.2.1)] (by decide) rfl dX12_lineAt_66 ?_
    refine pt_iconst C (v := 0) (by decide) dX12_lineAt_68 ?_
    refine pt_istore C [(10, .int 0), (9, .int 0), (0, .ref x0), (1, .int x1), (4, .int x4), (5, .long s.1), (7, .int s.2.1), (8, .int s.2.2.1)] (by decide) rfl dX12_lineAt_69 ?_
    refine pt_sub C [(0, .ref x0), (1, .int x1), (4, .int x4), (5, .long s.1), (7, .int s.2.1), (8, .int s.2.2.1), (9, .int 0), (10, .int 0)] [2, 3, 4, 5, 6, 7, 1, 0] rfl ?_
    refine ob hf (fun e39 g40 hf => ?_)
    refine l_X12_lineAt_L71 C x0 x1 x4 s.2.1 s.2.2.1 _ _ _ g40 ?_
    refine pt_iload C 5 rfl dX12_lineAt_158 ?_
    refine pt_iload C 2 rfl dX12_lineAt_160 ?_
    refine pt_icmp_ne C (tgt := 168) (by decide) dX12_lineAt_162 (fun c41 => ?_) (fun c41 => ?_)
    · rw [if_neg c41] at hf
      refine pt_iinc C 5 [(8, .int (s.2.2.1 + 1)), (0, .ref x0), (1, .int x1), (4, .int x4), (5, .long e39.1), (7, .int s.2.1), (9, .int e39.2.1)] rfl (iinc_eq s.2.2.1 (by decide)) (by decide) rfl dX12_lineAt_168 ?_
      refine pt_aload_n C 1 rfl rfl dX12_lineAt_171 ?_
      refine pt_iload_n C 2 rfl rfl dX12_lineAt_172 ?_
      refine pt_iload C 5 rfl dX12_lineAt_173 ?_
      refine pt_aload_n C 1 rfl rfl dX12_lineAt_175 ?_
      refine ob hf (fun v42 g43 hf => ?_)
      refine pt_getR C kX12 31 (by decide) tw_947 (Or.inl rfl) g43 dX12_lineAt_176 ?_
      refine pt_iload C 6 rfl dX12_lineAt_179 ?_
      refine ob hf (fun v44 g45 hf => ?_)
      refine pt_iald C g45 dX12_lineAt_181 ?_
      refine pt_iadd C dX12_lineAt_182 ?_
      refine ob hf (fun _ g48 hf => ?_)
      refine ob hf (fun q46 g47 hf => ?_)
      refine pt_callV C (As := [.int x1, .int (s.2.1 + v44)]) (rest := []) (v := (some (.int q46.1))) (fun l => con_X12_sungFrom l x0 x1 (s.2.1 + v44) e39.2.2 _ g47) tw_1214 tw_1211 tw_1213 tp_34 kX12 g48 tw_13 yn_X12_sungFrom (by decide) (Nat.le_of_ble_eq_true rfl) dX12_lineAt_183 rfl ?_
      show PT X 13 0 0 186 [(8, .int (s.2.2.1 + 1)), (0, .ref x0), (1, .int x1), (4, .int x4), (5, .long e39.1), (7, .int s.2.1), (9, .int e39.2.1)] [.int q46.1] q46.2
      refine pt_istore C [(7, .int q46.1), (8, .int (s.2.2.1 + 1)), (0, .ref x0), (1, .int x1), (4, .int x4), (5, .long e39.1), (9, .int e39.2.1)] (by decide) rfl dX12_lineAt_186 ?_
      refine pt_goto C (tgt := 54) (by decide) dX12_lineAt_188 ?_
      refine pt_sub C [(0, .ref x0), (1, .int x1), (4, .int x4), (5, .long e39.1), (7, .int q46.1), (8, .int (s.2.2.1 + 1))] [2, 3, 4, 5, 0, 1] rfl ?_
      exact K0 _ _ _ _ (Option.some.inj hf).symm
    · rw [if_pos c41] at hf
      refine pt_sub C [(9, .int e39.2.1)] [6] rfl ?_
      exact K2 _ _ (Option.some.inj hf).symm
theorem l_X12_lineAt_L54 {X : MX} (C : CX X cX12_lineAt 13 RX12 (some .int) rmX12_lineAt) (x0 : Nat) (x1 : Int32) (x4 : Int32) : ∀ (n : Nat) (s : Int64 × Int32 × Int32 × AH) (r : (AH) ⊕ (Int32 × AH)), iter (f_X12_lineAt_L54 x0 x1 x4) n s = some r → (Sum.elim (fun r : (AH) => PT X 13 0 0 191 [] [] r) (fun r : (Int32 × AH) => PT X 13 0 0 165 [(9, .int r.1)] [] r.2)) r → PT X 13 0 0 54 [(0, .ref x0), (1, .int x1), (4, .int x4), (5, .long s.1), (7, .int s.2.1), (8, .int s.2.2.1)] [] s.2.2.2 :=
  iter_W (fun s : Int64 × Int32 × Int32 × AH => PT X 13 0 0 54 [(0, .ref x0), (1, .int x1), (4, .int x4), (5, .long s.1), (7, .int s.2.1), (8, .int s.2.2.1)] [] s.2.2.2) (Sum.elim (fun r : (AH) => PT X 13 0 0 191 [] [] r) (fun r : (Int32 × AH) => PT X 13 0 0 165 [(9, .int r.1)] [] r.2)) _ (fun s s2 hf P => w_X12_lineAt_L54 C x0 x1 x4 s _ hf (fun u5 u7 u8 hu e => by cases e; exact P) (fun hu e => by cases e) (fun u9 hu e => by cases e)) (fun s r hf P => w_X12_lineAt_L54 C x0 x1 x4 s _ hf (fun u5 u7 u8 hu e => by cases e) (fun hu e => by cases e; exact P) (fun u9 hu e => by cases e; exact P))
set_option maxRecDepth 100000 in
set_option maxHeartbeats 4000000 in
theorem w_X12_lineAt_0 {X : MX} (C : CX X cX12_lineAt 13 RX12 (some .int) rmX12_lineAt) (a0 : Nat) (a1 : Int32) (a2 : Int64) (a4 : Int32) (h : AH) (res : Int32 × AH) (hf : f_X12_lineAt a0 a1 a2 a4 h = some res) (K : ∀ (v : Int32) (h2 : AH), res = (v, h2) → PR X rmX12_lineAt (some (.int v)) h2) : PT X 13 0 0 0 [(0, .ref a0), (1, .int a1), (2, .long a2), (4, .int a4)] [] h := by
  unfold f_X12_lineAt at hf
  refine pt_aload_n C 0 rfl rfl dX12_lineAt_0 ?_
  refine pt_iload_n C 1 rfl rfl dX12_lineAt_1 ?_
  refine ob hf (fun _ g3 hf => ?_)
  refine ob hf (fun q1 g2 hf => ?_)
  refine pt_callV C (As := [.int a1]) (rest := []) (v := (some (.int q1.1))) (fun l => con_X12_noSong l a0 a1 h _ g2) tw_1081 tw_1078 tw_1080 tp_22 kX12 g3 tw_13 yn_X12_noSong (by decide) (Nat.le_of_ble_eq_true rfl) dX12_lineAt_2 rfl ?_
  show PT X 13 0 0 5 [(0, .ref a0), (1, .int a1), (2, .long a2), (4, .int a4)] [.int q1.1] q1.2
  refine pt_if_ne C (tgt := 19) (by decide) dX12_lineAt_5 (fun c4 => ?_) (fun c4 => ?_)
  · rw [if_neg c4] at hf
    refine pt_bipush C (v := (-2)) (by decide) dX12_lineAt_19 ?_
    exact pt_iret C (K _ _ (Option.some.inj hf).symm) (by decide) (by decide) dX12_lineAt_21
  · rw [if_pos c4] at hf
    refine pt_lload_n C 2 rfl rfl dX12_lineAt_8 ?_
    refine pt_lconst C (v := 0) (by decide) dX12_lineAt_9 ?_
    refine pt_lcmp C dX12_lineAt_10 ?_
    refine pt_if_lt C (tgt := 19) (by decide) dX12_lineAt_11 (fun c5 => ?_) (fun c5 => ?_)
    · rw [if_pos c5] at hf
      refine pt_bipush C (v := (-2)) (by decide) dX12_lineAt_19 ?_
      exact pt_iret C (K _ _ (Option.some.inj hf).symm) (by decide) (by decide) dX12_lineAt_21
    · rw [if_neg c5] at hf
      refine pt_iload C 3 rfl dX12_lineAt_14 ?_
      refine pt_if_ge C (tgt := 22) (by decide) dX12_lineAt_16 (fun c6 => ?_) (fun c6 => ?_)
      · rw [if_pos c6] at hf
        refine pt_aload_n C 0 rfl rfl dX12_lineAt_22 ?_
        refine pt_iload_n C 1 rfl rfl dX12_lineAt_23 ?_
        refine ob hf (fun _ g9 hf => ?_)
        refine ob hf (fun q7 g8 hf => ?_)
        refine pt_callV C (As := [.int a1]) (rest := []) (v := none) (fun l => con_X12_findLines l a0 a1 q1.2 _ g8) tw_1210 tw_1207 tw_1209 tp_33 kX12 g9 tw_13 yn_X12_findLines (by decide) (Nat.le_of_ble_eq_true rfl) dX12_lineAt_24 rfl ?_
        show PT X 13 0 0 27 [(0, .ref a0), (1, .int a1), (2, .long a2), (4, .int a4)] [] q7
        refine pt_lload_n C 2 rfl rfl dX12_lineAt_27 ?_
        refine pt_aload_n C 0 rfl rfl dX12_lineAt_28 ?_
        refine ob hf (fun v10 g11 hf => ?_)
        refine pt_getR C kX12 33 (by decide) tw_949 (Or.inl rfl) g11 dX12_lineAt_29 ?_
        refine pt_iconst C (v := 0) (by decide) dX12_lineAt_32 ?_
        refine ob hf (fun v12 g13 hf => ?_)
        refine pt_lald C g13 dX12_lineAt_33 ?_
        refine pt_lcmp C dX12_lineAt_34 ?_
        refine pt_if_lt C (tgt := 40) (by decide) dX12_lineAt_35 (fun c14 => ?_) (fun c14 => ?_)
        · rw [if_pos c14] at hf
          refine pt_lload_n C 2 rfl rfl dX12_lineAt_40 ?_
          refine pt_lstore C [(5, .long a2), (0, .ref a0), (1, .int a1), (2, .long a2), (4, .int a4)] (by decide) rfl dX12_lineAt_41 ?_
          refine pt_aload_n C 1 rfl rfl dX12_lineAt_43 ?_
          refine pt_iload_n C 2 rfl rfl dX12_lineAt_44 ?_
          refine pt_iconst C (v := 0) (by decide) dX12_lineAt_45 ?_
          refine ob hf (fun _ g17 hf => ?_)
          refine ob hf (fun q15 g16 hf => ?_)
          refine pt_callV C (As := [.int a1, .int 0]) (rest := []) (v := (some (.int q15.1))) (fun l => con_X12_sungFrom l a0 a1 0 q7 _ g16) tw_1214 tw_1211 tw_1213 tp_34 kX12 g17 tw_13 yn_X12_sungFrom (by decide) (Nat.le_of_ble_eq_true rfl) dX12_lineAt_46 rfl ?_
          show PT X 13 0 0 49 [(5, .long a2), (0, .ref a0), (1, .int a1), (2, .long a2), (4, .int a4)] [.int q15.1] q15.2
          refine pt_istore C [(7, .int q15.1), (5, .long a2), (0, .ref a0), (1, .int a1), (2, .long a2), (4, .int a4)] (by decide) rfl dX12_lineAt_49 ?_
          refine pt_iconst C (v := 0) (by decide) dX12_lineAt_51 ?_
          refine pt_istore C [(8, .int 0), (7, .int q15.1), (5, .long a2), (0, .ref a0), (1, .int a1), (2, .long a2), (4, .int a4)] (by decide) rfl dX12_lineAt_52 ?_
          refine pt_sub C [(0, .ref a0), (1, .int a1), (4, .int a4), (5, .long a2), (7, .int q15.1), (8, .int 0)] [3, 4, 6, 2, 1, 0] rfl ?_
          refine ob hf (fun e49 g50 hf => ?_)
          refine l_X12_lineAt_L54 C a0 a1 a4 _ _ _ g50 ?_
          cases e49 with
          | inl e51 =>
            simp only [Sum.elim_inl] at hf ⊢
            refine pt_iconst C (v := (-1)) (by decide) dX12_lineAt_191 ?_
            exact pt_iret C (K _ _ (Option.some.inj hf).symm) (by decide) (by decide) dX12_lineAt_192
          | inr e52 =>
            simp only [Sum.elim_inr] at hf ⊢
            refine pt_iload C 0 rfl dX12_lineAt_165 ?_
            exact pt_iret C (K _ _ (Option.some.inj hf).symm) (by decide) (by decide) dX12_lineAt_167
        · rw [if_neg c14] at hf
          refine pt_iconst C (v := (-1)) (by decide) dX12_lineAt_38 ?_
          exact pt_iret C (K _ _ (Option.some.inj hf).symm) (by decide) (by decide) dX12_lineAt_39
      · rw [if_neg c6] at hf
        refine pt_bipush C (v := (-2)) (by decide) dX12_lineAt_19 ?_
        exact pt_iret C (K _ _ (Option.some.inj hf).symm) (by decide) (by decide) dX12_lineAt_21
theorem con_X12_lineAt (l : Launch) (a0 : Nat) (a1 : Int32) (a2 : Int64) (a4 : Int32) (h : AH) (q : Int32 × AH) (hf : f_X12_lineAt a0 a1 a2 a4 h = some q) : Con l yX12_lineAt cX12_lineAt 13 (some .int) rmX12_lineAt [.ref a0, .int a1, .long a2, .int a4] h (some (.int q.1)) q.2 := Con.of (by decide +kernel) (Nat.le_of_ble_eq_true rfl) (fun X C I K => w_X12_lineAt_0 C a0 a1 a2 a4 h q hf (fun v h2 e => by cases e; exact K))
