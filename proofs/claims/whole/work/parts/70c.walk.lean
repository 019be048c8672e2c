abbrev rmX11_count : Room := { frames := 1, cells := 0, slots := 0, locals := 20 }
theorem yn_X11_count : YN yX11_count 1 := by refine ⟨?_, ?_, ?_⟩ <;> decide +kernel
set_option maxRecDepth 100000 in
set_option maxHeartbeats 4000000 in
theorem w_X11_count_0 {X : MX} (C : CX X cX11_count 2 RX11 (some .int) rmX11_count) (a0 : Nat) (a1 : Int32) (h : AH) (res : Int32 × AH) (hf : f_X11_count a0 a1 h = some res) (K : ∀ (v : Int32) (h2 : AH), res = (v, h2) → PR X rmX11_count (some (.int v)) h2) : PT X 2 0 0 0 [(0, .ref a0), (1, .int a1)] [] h := by
  unfold f_X11_count at hf
  refine pt_iload_n C 1 rfl rfl dX11_count_0 ?_
  by_cases c1 : a1 = 0
  · rw [if_pos c1] at hf
    refine pt_tabIn C (tgt := 52) (off := 51) (by rw [c1]; decide) (by rw [c1]; decide) (by rw [c1]; decide) (by decide) dX11_count_1 ?_
    refine pt_aload_n C 0 rfl rfl dX11_count_52 ?_
    refine ob hf (fun v2 g3 hf => ?_)
    refine pt_getR C kX11 1 (by decide) tw_308 (Or.inl rfl) g3 dX11_count_53 ?_
    refine ob hf (fun _ g6 hf => ?_)
    refine ob hf (fun q4 g5 hf => ?_)
    refine pt_callV C (As := []) (rest := []) (v := (some (.int q4.1))) (fun l => con_Jx4a65c_size_8abf5 l v2 h _ g5) tw_363 tw_360 tw_361 tw_362 kJx4a65c g6 tw_5 yn_Jx4a65c_size_8abf5 (by decide) (Nat.le_of_ble_eq_true rfl) dX11_count_56 rfl ?_
    show PT X 2 0 0 59 [(0, .ref a0), (1, .int a1)] [.int q4.1] q4.2
    exact pt_iret C (K _ _ (Option.some.inj hf).symm) (by decide) (by decide) dX11_count_59
  · rw [if_neg c1] at hf
    by_cases c7 : a1 = 1
    · rw [if_pos c7] at hf
      refine pt_tabIn C (tgt := 60) (off := 59) (by rw [c7]; decide) (by rw [c7]; decide) (by rw [c7]; decide) (by decide) dX11_count_1 ?_
      refine pt_aload_n C 0 rfl rfl dX11_count_60 ?_
      refine ob hf (fun v8 g9 hf => ?_)
      refine pt_getR C kX11 2 (by decide) tw_309 (Or.inl rfl) g9 dX11_count_61 ?_
      refine ob hf (fun v10 g11 hf => ?_)
      refine pt_getI C kX0 6 (by decide) tw_106 (Or.inl rfl) g11 dX11_count_64 ?_
      exact pt_iret C (K _ _ (Option.some.inj hf).symm) (by decide) (by decide) dX11_count_67
    · rw [if_neg c7] at hf
      by_cases c12 : a1 = 2
      · rw [if_pos c12] at hf
        refine pt_tabIn C (tgt := 68) (off := 67) (by rw [c12]; decide) (by rw [c12]; decide) (by rw [c12]; decide) (by decide) dX11_count_1 ?_
        refine pt_aload_n C 0 rfl rfl dX11_count_68 ?_
        refine ob hf (fun v13 g14 hf => ?_)
        refine pt_getR C kX11 2 (by decide) tw_309 (Or.inl rfl) g14 dX11_count_69 ?_
        refine ob hf (fun v15 g16 hf => ?_)
        refine pt_getI C kX0 7 (by decide) tw_110 (Or.inl rfl) g16 dX11_count_72 ?_
        exact pt_iret C (K _ _ (Option.some.inj hf).symm) (by decide) (by decide) dX11_count_75
      · rw [if_neg c12] at hf
        by_cases c17 : a1 = 3
        · rw [if_pos c17] at hf
          refine pt_tabIn C (tgt := 76) (off := 75) (by rw [c17]; decide) (by rw [c17]; decide) (by rw [c17]; decide) (by decide) dX11_count_1 ?_
          refine pt_aload_n C 0 rfl rfl dX11_count_76 ?_
          refine ob hf (fun v18 g19 hf => ?_)
          refine pt_getR C kX11 2 (by decide) tw_309 (Or.inl rfl) g19 dX11_count_77 ?_
          refine ob hf (fun v20 g21 hf => ?_)
          refine pt_getI C kX0 8 (by decide) tw_112 (Or.inl rfl) g21 dX11_count_80 ?_
          exact pt_iret C (K _ _ (Option.some.inj hf).symm) (by decide) (by decide) dX11_count_83
        · rw [if_neg c17] at hf
          by_cases c22 : a1 = 4
          · rw [if_pos c22] at hf
            refine pt_tabIn C (tgt := 84) (off := 83) (by rw [c22]; decide) (by rw [c22]; decide) (by rw [c22]; decide) (by decide) dX11_count_1 ?_
            refine pt_aload_n C 0 rfl rfl dX11_count_84 ?_
            refine ob hf (fun v23 g24 hf => ?_)
            refine pt_getR C kX11 4 (by decide) tw_311 (Or.inl rfl) g24 dX11_count_85 ?_
            refine ob hf (fun _ g27 hf => ?_)
            refine ob hf (fun q25 g26 hf => ?_)
            refine pt_callV C (As := []) (rest := []) (v := (some (.int q25.1))) (fun l => con_Jx4a65c_size_8abf5 l v23 h _ g26) tw_363 tw_360 tw_361 tw_362 kJx4a65c g27 tw_5 yn_Jx4a65c_size_8abf5 (by decide) (Nat.le_of_ble_eq_true rfl) dX11_count_88 rfl ?_
            show PT X 2 0 0 91 [(0, .ref a0), (1, .int a1)] [.int q25.1] q25.2
            exact pt_iret C (K _ _ (Option.some.inj hf).symm) (by decide) (by decide) dX11_count_91
          · rw [if_neg c22] at hf
            by_cases c28 : a1 = 5
            · rw [if_pos c28] at hf
              refine pt_tabIn C (tgt := 92) (off := 91) (by rw [c28]; decide) (by rw [c28]; decide) (by rw [c28]; decide) (by decide) dX11_count_1 ?_
              refine pt_aload_n C 0 rfl rfl dX11_count_92 ?_
              refine ob hf (fun v29 g30 hf => ?_)
              refine pt_getR C kX11 7 (by decide) tw_314 (Or.inl rfl) g30 dX11_count_93 ?_
              refine ob hf (fun _ g33 hf => ?_)
              refine ob hf (fun q31 g32 hf => ?_)
              refine pt_callV C (As := []) (rest := []) (v := (some (.int q31.1))) (fun l => con_Jx4a65c_size_8abf5 l v29 h _ g32) tw_363 tw_360 tw_361 tw_362 kJx4a65c g33 tw_5 yn_Jx4a65c_size_8abf5 (by decide) (Nat.le_of_ble_eq_true rfl) dX11_count_96 rfl ?_
              show PT X 2 0 0 99 [(0, .ref a0), (1, .int a1)] [.int q31.1] q31.2
              exact pt_iret C (K _ _ (Option.some.inj hf).symm) (by decide) (by decide) dX11_count_99
            · rw [if_neg c28] at hf
              by_cases c34 : a1 = 6
              · rw [if_pos c34] at hf
                refine pt_tabIn C (tgt := 100) (off := 99) (by rw [c34]; decide) (by rw [c34]; decide) (by rw [c34]; decide) (by decide) dX11_count_1 ?_
                refine pt_aload_n C 0 rfl rfl dX11_count_100 ?_
                refine ob hf (fun v35 g36 hf => ?_)
                refine pt_getR C kX11 9 (by decide) tw_316 (Or.inl rfl) g36 dX11_count_101 ?_
                refine ob hf (fun v37 g38 hf => ?_)
                refine pt_getI C kX5 2 (by decide) tw_249 (Or.inl rfl) g38 dX11_count_104 ?_
                exact pt_iret C (K _ _ (Option.some.inj hf).symm) (by decide) (by decide) dX11_count_107
              · rw [if_neg c34] at hf
                by_cases c39 : a1 = 7
                · rw [if_pos c39] at hf
                  refine pt_tabIn C (tgt := 108) (off := 107) (by rw [c39]; decide) (by rw [c39]; decide) (by rw [c39]; decide) (by decide) dX11_count_1 ?_
                  refine pt_aload_n C 0 rfl rfl dX11_count_108 ?_
                  refine ob hf (fun v40 g41 hf => ?_)
                  refine pt_getR C kX11 0 (by decide) tw_307 (Or.inl rfl) g41 dX11_count_109 ?_
                  refine ob hf (fun v42 g43 hf => ?_)
                  refine pt_getI C kX6 1 (by decide) tw_46 (Or.inl rfl) g43 dX11_count_112 ?_
                  exact pt_iret C (K _ _ (Option.some.inj hf).symm) (by decide) (by decide) dX11_count_115
                · rw [if_neg c39] at hf
                  by_cases c44 : a1 = 8
                  · rw [if_pos c44] at hf
                    refine pt_tabIn C (tgt := 116) (off := 115) (by rw [c44]; decide) (by rw [c44]; decide) (by rw [c44]; decide) (by decide) dX11_count_1 ?_
                    refine pt_aload_n C 0 rfl rfl dX11_count_116 ?_
                    refine ob hf (fun v45 g46 hf => ?_)
                    refine pt_getR C kX11 3 (by decide) tw_310 (Or.inl rfl) g46 dX11_count_117 ?_
                    refine ob hf (fun v47 g48 hf => ?_)
                    refine pt_getI C kX1 7 (by decide) tw_154 (Or.inl rfl) g48 dX11_count_120 ?_
                    exact pt_iret C (K _ _ (Option.some.inj hf).symm) (by decide) (by decide) dX11_count_123
                  · rw [if_neg c44] at hf
                    refine pt_tabOut C (tgt := 124) (tab_out 9 (fun j hj => by match j, hj with | 0, _ => exact c1 | 1, _ => exact c7 | 2, _ => exact c12 | 3, _ => exact c17 | 4, _ => exact c22 | 5, _ => exact c28 | 6, _ => exact c34 | 7, _ => exact c39 | 8, _ => exact c44)) (by decide) dX11_count_1 ?_
                    refine pt_bipush C (v := (-2)) (by decide) dX11_count_124 ?_
                    exact pt_iret C (K _ _ (Option.some.inj hf).symm) (by decide) (by decide) dX11_count_126
theorem con_X11_count (l : Launch) (a0 : Nat) (a1 : Int32) (h : AH) (q : Int32 × AH) (hf : f_X11_count a0 a1 h = some q) : Con l yX11_count cX11_count 2 (some .int) rmX11_count [.ref a0, .int a1] h (some (.int q.1)) q.2 := Con.of (by decide +kernel) (Nat.le_of_ble_eq_true rfl) (fun X C I K => w_X11_count_0 C a0 a1 h q hf (fun v h2 e => by cases e; exact K))
abbrev rmX11_crew : Room := { frames := 1, cells := 0, slots := 0, locals := 22 }
theorem yn_X11_crew : YN yX11_crew 1 := by refine ⟨?_, ?_, ?_⟩ <;> decide +kernel
set_option maxRecDepth 100000 in
set_option maxHeartbeats 4000000 in
theorem w_X11_crew_0 {X : MX} (C : CX X cX11_crew 3 RX11 (some .int) rmX11_crew) (a0 : Nat) (a1 : Int32) (h : AH) (res : Int32 × AH) (hf : f_X11_crew a0 a1 h = some res) (K : ∀ (v : Int32) (h2 : AH), res = (v, h2) → PR X rmX11_crew (some (.int v)) h2) : PT X 3 0 0 0 [(0, .ref a0), (1, .int a1)] [] h := by
  unfold f_X11_crew at hf
  refine pt_iload_n C 1 rfl rfl dX11_crew_0 ?_
  refine pt_iconst C (v := 0) (by decide) dX11_crew_1 ?_
  refine pt_aload_n C 0 rfl rfl dX11_crew_2 ?_
  refine ob hf (fun v1 g2 hf => ?_)
  refine pt_getR C kX11 2 (by decide) tw_309 (Or.inl rfl) g2 dX11_crew_3 ?_
  refine ob hf (fun _ g5 hf => ?_)
  refine ob hf (fun q3 g4 hf => ?_)
  refine pt_callV C (As := []) (rest := [.int 0, .int a1]) (v := (some (.int q3.1))) (fun l => con_X0_allSet l v1 h _ g4) tw_508 tw_505 tw_506 tw_507 kX0 g5 tw_6 yn_X0_allSet (by decide) (Nat.le_of_ble_eq_true rfl) dX11_crew_6 rfl ?_
  show PT X 3 0 0 9 [(0, .ref a0), (1, .int a1)] [.int q3.1, .int 0, .int a1] q3.2
  refine ob hf (fun q6 g7 hf => ?_)
  refine pt_callS C (As := [.int a1, .int 0, .int q3.1]) (rest := []) (v := (some (.int q6.1))) (fun l => con_X11_within l a1 0 q3.1 q3.2 _ g7) tw_461 tw_459 tw_460 tw_1 yn_X11_within (by decide) (Nat.le_of_ble_eq_true rfl) dX11_crew_9 rfl ?_
  show PT X 3 0 0 12 [(0, .ref a0), (1, .int a1)] [.int q6.1] q6.2
  refine pt_if_ne C (tgt := 18) (by decide) dX11_crew_12 (fun c8 => ?_) (fun c8 => ?_)
  · rw [if_neg c8] at hf
    refine pt_aload_n C 0 rfl rfl dX11_crew_18 ?_
    refine ob hf (fun v9 g10 hf => ?_)
    refine pt_getR C kX11 2 (by decide) tw_309 (Or.inl rfl) g10 dX11_crew_19 ?_
    refine ob hf (fun v11 g12 hf => ?_)
    refine pt_getI C kX0 7 (by decide) tw_110 (Or.inl rfl) g12 dX11_crew_22 ?_
    refine pt_istore_n C [(2, .int v11), (0, .ref a0), (1, .int a1)] rfl (by decide) rfl dX11_crew_25 ?_
    refine pt_aload_n C 1 rfl rfl dX11_crew_26 ?_
    refine ob hf (fun v13 g14 hf => ?_)
    refine pt_getR C kX11 2 (by decide) tw_309 (Or.inl rfl) g14 dX11_crew_27 ?_
    refine pt_iload_n C 2 rfl rfl dX11_crew_30 ?_
    refine ob hf (fun h15 g16 hf => ?_)
    refine pt_put C kX0 7 (by decide) tw_110 (Or.inl rfl) rfl rfl rfl g16 dX11_crew_31 ?_
    refine pt_aload_n C 1 rfl rfl dX11_crew_34 ?_
    refine ob hf (fun v17 g18 hf => ?_)
    refine pt_getR C kX11 6 (by decide) tw_313 (Or.inl rfl) g18 dX11_crew_35 ?_
    refine pt_iconst C (v := 0) (by decide) dX11_crew_38 ?_
    refine ob hf (fun h19 g20 hf => ?_)
    refine pt_put C kX9 5 (by decide) tw_191 (Or.inl rfl) rfl (by decide) rfl g20 dX11_crew_39 ?_
    refine pt_iload_n C 0 rfl rfl dX11_crew_42 ?_
    exact pt_iret C (K _ _ (Option.some.inj hf).symm) (by decide) (by decide) dX11_crew_43
  · rw [if_pos c8] at hf
    refine pt_bipush C (v := (-2)) (by decide) dX11_crew_15 ?_
    exact pt_iret C (K _ _ (Option.some.inj hf).symm) (by decide) (by decide) dX11_crew_17
theorem con_X11_crew (l : Launch) (a0 : Nat) (a1 : Int32) (h : AH) (q : Int32 × AH) (hf : f_X11_crew a0 a1 h = some q) : Con l yX11_crew cX11_crew 3 (some .int) rmX11_crew [.ref a0, .int a1] h (some (.int q.1)) q.2 := Con.of (by decide +kernel) (Nat.le_of_ble_eq_true rfl) (fun X C I K => w_X11_crew_0 C a0 a1 h q hf (fun v h2 e => by cases e; exact K))
abbrev rmX6_mixedInto : Room := { frames := 0, cells := 0, slots := 0, locals := 0 }
theorem yn_X6_mixedInto : YN yX6_mixedInto 1 := by refine ⟨?_, ?_, ?_⟩ <;> decide +kernel
set_option maxRecDepth 100000 in
set_option maxHeartbeats 4000000 in
theorem w_X6_mixedInto_L5 {X : MX} (C : CX X cX6_mixedInto 6 RX6 (some .long) rmX6_mixedInto) (x0 : Nat) (s : Int64 × Int32 × AH) (res : (Int64 × Int32 × AH) ⊕ ((Int64 × AH))) (hf : f_X6_mixedInto_L5 x0 s = some res) (K0 : ∀ (u3 : Int64) (u5 : Int32) (hu : AH), res = .inl (u3, u5, hu) → PT X 6 0 0 5 [(0, .ref x0), (3, .long u3), (5, .int u5)] [] hu) (K1 : ∀ (u3 : Int64) (hu : AH), res = .inr ((u3, hu)) → PT X 6 0 0 35 [(3, .long u3)] [] hu) : PT X 6 0 0 5 [(0, .ref x0), (3, .long s.1), (5, .int s.2.1)] [] s.2.2 := by
  unfold f_X6_mixedInto_L5 at hf
  refine pt_iload C 2 rfl dX6_mixedInto_5 ?_
  refine pt_aload_n C 0 rfl rfl dX6_mixedInto_7 ?_
  refine ob hf (fun v1 g2 hf => ?_)
  refine pt_getI C kX6 1 (by decide) tw_43 (Or.inl rfl) g2 dX6_mixedInto_8 ?_
  refine pt_icmp_ge C (tgt := 35) (by decide) dX6_mixedInto_11 (fun c3 => ?_) (fun c3 => ?_)
  · rw [if_pos c3] at hf
    refine pt_sub C [(3, .long s.1)] [1] rfl ?_
    exact K1 _ _ (Option.some.inj hf).symm
  · rw [if_neg c3] at hf
    refine pt_ldc2 C tw_878 dX6_mixedInto_14 ?_
    refine pt_lload_n C 1 rfl rfl dX6_mixedInto_17 ?_
    refine pt_lmul C dX6_mixedInto_18 ?_
    refine pt_aload_n C 0 rfl rfl dX6_mixedInto_19 ?_
    refine ob hf (fun v4 g5 hf => ?_)
    refine pt_getR C kX6 0 (by decide) tw_38 (Or.inl rfl) g5 dX6_mixedInto_20 ?_
    refine pt_iload C 2 rfl dX6_mixedInto_23 ?_
    refine ob hf (fun v6 g7 hf => ?_)
    refine pt_iald C g7 dX6_mixedInto_25 ?_
    refine pt_i2l C dX6_mixedInto_26 ?_
    refine pt_ladd C dX6_mixedInto_27 ?_
    refine pt_lstore_n C [(3, .long ((31 * s.1) + v6.toInt64)), (0, .ref x0), (5, .int s.2.1)] rfl (by decide) rfl dX6_mixedInto_28 ?_
    refine pt_iinc C 2 [(5, .int (s.2.1 + 1)), (3, .long ((31 * s.1) + v6.toInt64)), (0, .ref x0)] rfl (iinc_eq s.2.1 (by decide)) (by decide) rfl dX6_mixedInto_29 ?_
    refine pt_goto C (tgt := 5) (by decide) dX6_mixedInto_32 ?_
    refine pt_sub C [(0, .ref x0), (3, .long ((31 * s.1) + v6.toInt64)), (5, .int (s.2.1 + 1))] [2, 1, 0] rfl ?_
    exact K0 _ _ _ (Option.some.inj hf).symm
theorem l_X6_mixedInto_L5 {X : MX} (C : CX X cX6_mixedInto 6 RX6 (some .long) rmX6_mixedInto) (x0 : Nat) : ∀ (n : Nat) (s : Int64 × Int32 × AH) (r : (Int64 × AH)), iter (f_X6_mixedInto_L5 x0) n s = some r → (fun r : (Int64 × AH) => PT X 6 0 0 35 [(3, .long r.1)] [] r.2) r → PT X 6 0 0 5 [(0, .ref x0), (3, .long s.1), (5, .int s.2.1)] [] s.2.2 :=
  iter_W (fun s : Int64 × Int32 × AH => PT X 6 0 0 5 [(0, .ref x0), (3, .long s.1), (5, .int s.2.1)] [] s.2.2) (fun r : (Int64 × AH) => PT X 6 0 0 35 [(3, .long r.1)] [] r.2) _ (fun s s2 hf P => w_X6_mixedInto_L5 C x0 s _ hf (fun u3 u5 hu e => by cases e; exact P) (fun u3 hu e => by cases e)) (fun s r hf P => w_X6_mixedInto_L5 C x0 s _ hf (fun u3 u5 hu e => by cases e) (fun u3 hu e => by cases e; exact P))
set_option maxRecDepth 100000 in
set_option maxHeartbeats 4000000 in
theorem w_X6_mixedInto_0 {X : MX} (C : CX X cX6_mixedInto 6 RX6 (some .long) rmX6_mixedInto) (a0 : Nat) (a1 : Int64) (h : AH) (res : Int64 × AH) (hf : f_X6_mixedInto a0 a1 h = some res) (K : ∀ (v : Int64) (h2 : AH), res = (v, h2) → PR X rmX6_mixedInto (some (.long v)) h2) : PT X 6 0 0 0 [(0, .ref a0), (1, .long a1)] [] h := by
  unfold f_X6_mixedInto at hf
  refine pt_lload_n C 1 rfl rfl dX6_mixedInto_0 ?_
  refine pt_lstore_n C [(3, .long a1), (0, .ref a0), (1, .long a1)] rfl (by decide) rfl dX6_mixedInto_1 ?_
  refine pt_iconst C (v := 0) (by decide) dX6_mixedInto_2 ?_
  refine pt_istore C [(5, .int 0), (3, .long a1), (0, .ref a0), (1, .long a1)] (by decide) rfl dX6_mixedInto_3 ?_
  refine pt_sub C [(0, .ref a0), (3, .long a1), (5, .int 0)] [2, 1, 0] rfl ?_
  refine ob hf (fun e8 g9 hf => ?_)
  refine l_X6_mixedInto_L5 C a0 _ _ _ g9 ?_
  refine pt_lload_n C 0 rfl rfl dX6_mixedInto_35 ?_
  exact pt_lret C (K _ _ (Option.some.inj hf).symm) (by decide) (by decide) dX6_mixedInto_36
theorem con_X6_mixedInto (l : Launch) (a0 : Nat) (a1 : Int64) (h : AH) (q : Int64 × AH) (hf : f_X6_mixedInto a0 a1 h = some q) : Con l yX6_mixedInto cX6_mixedInto 6 (some .long) rmX6_mixedInto [.ref a0, .long a1] h (some (.long q.1)) q.2 := Con.of (by decide +kernel) (Nat.le_of_ble_eq_true rfl) (fun X C I K => w_X6_mixedInto_0 C a0 a1 h q hf (fun v h2 e => by cases e; exact K))
abbrev rmX7_mixedInto : Room := { frames := 1, cells := 0, slots := 0, locals := 25 }
theorem yn_X7_mixedInto : YN yX7_mixedInto 1 := by refine ⟨?_, ?_, ?_⟩ <;> decide +kernel
set_option maxRecDepth 100000 in
set_option maxHeartbeats 4000000 in
theorem w_X7_mixedInto_0 {X : MX} (C : CX X cX7_mixedInto 5 RX7 (some .long) rmX7_mixedInto) (a0 : Nat) (a1 : Int64) (h : AH) (res : Int64 × AH) (hf : f_X7_mixedInto a0 a1 h = some res) (K : ∀ (v : Int64) (h2 : AH), res = (v, h2) → PR X rmX7_mixedInto (some (.long v)) h2) : PT X 5 0 0 0 [(0, .ref a0), (1, .long a1)] [] h := by
  unfold f_X7_mixedInto at hf
  refine pt_ldc2 C tw_883 dX7_mixedInto_0 ?_
  refine pt_lload_n C 1 rfl rfl dX7_mixedInto_3 ?_
  refine pt_lmul C dX7_mixedInto_4 ?_
  refine pt_aload_n C 0 rfl rfl dX7_mixedInto_5 ?_
  refine ob hf (fun v1 g2 hf => ?_)
  refine pt_getR C kX7 0 (by decide) tw_372 (Or.inl rfl) g2 dX7_mixedInto_6 ?_
  refine ob hf (fun v3 g4 hf => ?_)
  refine pt_getI C kX6 1 (by decide) tw_44 (Or.inl rfl) g4 dX7_mixedInto_9 ?_
  refine pt_i2l C dX7_mixedInto_12 ?_
  refine pt_ladd C dX7_mixedInto_13 ?_
  refine pt_lstore_n C [(3, .long ((31 * a1) + v3.toInt64)), (0, .ref a0), (1, .long a1)] rfl (by decide) rfl dX7_mixedInto_14 ?_
  refine pt_ldc2 C tw_883 dX7_mixedInto_15 ?_
  refine pt_lload_n C 0 rfl rfl dX7_mixedInto_18 ?_
  refine pt_lmul C dX7_mixedInto_19 ?_
  refine pt_aload_n C 1 rfl rfl dX7_mixedInto_20 ?_
  refine ob hf (fun v5 g6 hf => ?_)
  refine pt_getR C kX7 1 (by decide) tw_375 (Or.inl rfl) g6 dX7_mixedInto_21 ?_
  refine ob hf (fun v7 g8 hf => ?_)
  refine pt_getI C kX6 1 (by decide) tw_44 (Or.inl rfl) g8 dX7_mixedInto_24 ?_
  refine pt_i2l C dX7_mixedInto_27 ?_
  refine pt_ladd C dX7_mixedInto_28 ?_
  refine pt_lstore_n C [(3, .long ((31 * ((31 * a1) + v3.toInt64)) + v7.toInt64)), (0, .ref a0), (1, .long a1)] rfl (by decide) rfl dX7_mixedInto_29 ?_
  refine pt_aload_n C 1 rfl rfl dX7_mixedInto_30 ?_
  refine ob hf (fun v9 g10 hf => ?_)
  refine pt_getR C kX7 1 (by decide) tw_375 (Or.inl rfl) g10 dX7_mixedInto_31 ?_
  refine pt_aload_n C 1 rfl rfl dX7_mixedInto_34 ?_
  refine ob hf (fun v11 g12 hf => ?_)
  refine pt_getR C kX7 0 (by decide) tw_372 (Or.inl rfl) g12 dX7_mixedInto_35 ?_
  refine pt_lload_n C 0 rfl rfl dX7_mixedInto_38 ?_
  refine ob hf (fun _ g15 hf => ?_)
  refine ob hf (fun q13 g14 hf => ?_)
  refine pt_callV C (As := [.long ((31 * ((31 * a1) + v3.toInt64)) + v7.toInt64)]) (rest := [.ref v9]) (v := (some (.long q13.1))) (fun l => con_X6_mixedInto l v11 ((31 * ((31 * a1) + v3.toInt64)) + v7.toInt64) h _ g14) tw_877 tw_884 tw_875 tw_876 kX6 g15 tw_2 yn_X6_mixedInto (by decide) (Nat.le_of_ble_eq_true rfl) dX7_mixedInto_39 rfl ?_
  show PT X 5 0 0 42 [(3, .long ((31 * ((31 * a1) + v3.toInt64)) + v7.toInt64)), (0, .ref a0), (1, .long a1)] [.long q13.1, .ref v9] q13.2
  refine ob hf (fun _ g18 hf => ?_)
  refine ob hf (fun q16 g17 hf => ?_)
  refine pt_callV C (As := [.long q13.1]) (rest := []) (v := (some (.long q16.1))) (fun l => con_X6_mixedInto l v9 q13.1 q13.2 _ g17) tw_877 tw_884 tw_875 tw_876 kX6 g18 tw_2 yn_X6_mixedInto (by decide) (Nat.le_of_ble_eq_true rfl) dX7_mixedInto_42 rfl ?_
  show PT X 5 0 0 45 [(3, .long ((31 * ((31 * a1) + v3.toInt64)) + v7.toInt64)), (0, .ref a0), (1, .long a1)] [.long q16.1] q16.2
  exact pt_lret C (K _ _ (Option.some.inj hf).symm) (by decide) (by decide) dX7_mixedInto_45
theorem con_X7_mixedInto (l : Launch) (a0 : Nat) (a1 : Int64) (h : AH) (q : Int64 × AH) (hf : f_X7_mixedInto a0 a1 h = some q) : Con l yX7_mixedInto cX7_mixedInto 5 (some .long) rmX7_mixedInto [.ref a0, .long a1] h (some (.long q.1)) q.2 := Con.of (by decide +kernel) (Nat.le_of_ble_eq_true rfl) (fun X C I K => w_X7_mixedInto_0 C a0 a1 h q hf (fun v h2 e => by cases e; exact K))
abbrev rmX1_mixedInto : Room := { frames := 0, cells := 0, slots := 0, locals := 0 }
theorem yn_X1_mixedInto : YN yX1_mixedInto 1 := by refine ⟨?_, ?_, ?_⟩ <;> decide +kernel
set_option maxRecDepth 100000 in
set_option maxHeartbeats 4000000 in
theorem w_X1_mixedInto_L5 {X : MX} (C : CX X cX1_mixedInto 6 RX1 (some .long) rmX1_mixedInto) (x0 : Nat) (s : Int64 × Int32 × AH) (res : (Int64 × Int32 × AH) ⊕ ((Int64 × AH))) (hf : f_X1_mixedInto_L5 x0 s = some res) (K0 : ∀ (u3 : Int64) (u5 : Int32) (hu : AH), res = .inl (u3, u5, hu) → PT X 6 0 0 5 [(0, .ref x0), (3, .long u3), (5, .int u5)] [] hu) (K1 : ∀ (u3 : Int64) (hu : AH), res = .inr ((u3, hu)) → PT X 6 0 0 35 [(0, .ref x0), (3, .long u3)] [] hu) : PT X 6 0 0 5 [(0, .ref x0), (3, .long s.1), (5, .int s.2.1)] [] s.2.2 := by
  unfold f_X1_mixedInto_L5 at hf
  refine pt_iload C 2 rfl dX1_mixedInto_5 ?_
  refine pt_aload_n C 0 rfl rfl dX1_mixedInto_7 ?_
  refine ob hf (fun v1 g2 hf => ?_)
  refine pt_getI C kX1 7 (by decide) tw_153 (Or.inl rfl) g2 dX1_mixedInto_8 ?_
  refine pt_icmp_ge C (tgt := 35) (by decide) dX1_mixedInto_11 (fun c3 => ?_) (fun c3 => ?_)
  · rw [if_pos c3] at hf
    refine pt_sub C [(0, .ref x0), (3, .long s.1)] [0, 1] rfl ?_
    exact K1 _ _ (Option.some.inj hf).symm
  · rw [if_neg c3] at hf
    refine pt_ldc2 C tw_894 dX1_mixedInto_14 ?_
    refine pt_lload_n C 1 rfl rfl dX1_mixedInto_17 ?_
    refine pt_lmul C dX1_mixedInto_18 ?_
    refine pt_aload_n C 0 rfl rfl dX1_mixedInto_19 ?_
    refine ob hf (fun v4 g5 hf => ?_)
    refine pt_getR C kX1 2 (by decide) tw_143 (Or.inl rfl) g5 dX1_mixedInto_20 ?_
    refine pt_iload C 2 rfl dX1_mixedInto_23 ?_
    refine ob hf (fun v6 g7 hf => ?_)
    refine pt_iald C g7 dX1_mixedInto_25 ?_
    refine pt_i2l C dX1_mixedInto_26 ?_
    refine pt_ladd C dX1_mixedInto_27 ?_
    refine pt_lstore_n C [(3, .long ((31 * s.1) + v6.toInt64)), (0, .ref x0), (5, .int s.2.1)] rfl (by decide) rfl dX1_mixedInto_28 ?_
    refine pt_iinc C 2 [(5, .int (s.2.1 + 1)), (3, .long ((31 * s.1) + v6.toInt64)), (0, .ref x0)] rfl (iinc_eq s.2.1 (by decide)) (by decide) rfl dX1_mixedInto_29 ?_
    refine pt_goto C (tgt := 5) (by decide) dX1_mixedInto_32 ?_
    refine pt_sub C [(0, .ref x0), (3, .long ((31 * s.1) + v6.toInt64)), (5, .int (s.2.1 + 1))] [2, 1, 0] rfl ?_
    exact K0 _ _ _ (Option.some.inj hf).symm
theorem l_X1_mixedInto_L5 {X : MX} (C : CX X cX1_mixedInto 6 RX1 (some .long) rmX1_mixedInto) (x0 : Nat) : ∀ (n : Nat) (s : Int64 × Int32 × AH) (r : (Int64 × AH)), iter (f_X1_mixedInto_L5 x0) n s = some r → (fun r : (Int64 × AH) => PT X 6 0 0 35 [(0, .ref x0), (3, .long r.1)] [] r.2) r → PT X 6 0 0 5 [(0, .ref x0), (3, .long s.1), (5, .int s.2.1)] [] s.2.2 :=
  iter_W (fun s : Int64 × Int32 × AH => PT X 6 0 0 5 [(0, .ref x0), (3, .long s.1), (5, .int s.2.1)] [] s.2.2) (fun r : (Int64 × AH) => PT X 6 0 0 35 [(0, .ref x0), (3, .long r.1)] [] r.2) _ (fun s s2 hf P => w_X1_mixedInto_L5 C x0 s _ hf (fun u3 u5 hu e => by cases e; exact P) (fun u3 hu e => by cases e)) (fun s r hf P => w_X1_mixedInto_L5 C x0 s _ hf (fun u3 u5 hu e => by cases e) (fun u3 hu e => by cases e; exact P))
set_option maxRecDepth 100000 in
set_option maxHeartbeats 4000000 in
theorem w_X1_mixedInto_L38 {X : MX} (C : CX X cX1_mixedInto 6 RX1 (some .long) rmX1_mixedInto) (x0 : Nat) (s : Int64 × Int32 × AH) (res : (Int64 × Int32 × AH) ⊕ ((Int64 × AH))) (hf : f_X1_mixedInto_L38 x0 s = some res) (K0 : ∀ (u3 : Int64) (u5 : Int32) (hu : AH), res = .inl (u3, u5, hu) → PT X 6 0 0 38 [(0, .ref x0), (3, .long u3), (5, .int u5)] [] hu) (K1 : ∀ (u3 : Int64) (hu : AH), res = .inr ((u3, hu)) → PT X 6 0 0 68 [(3, .long u3)] [] hu) : PT X 6 0 0 38 [(0, .ref x0), (3, .long s.1), (5, .int s.2.1)] [] s.2.2 := by
  unfold f_X1_mixedInto_L38 at hf
  refine pt_iload C 2 rfl dX1_mixedInto_38 ?_
  refine pt_aload_n C 0 rfl rfl dX1_mixedInto_40 ?_
  refine ob hf (fun v10 g11 hf => ?_)
  refine pt_getI C kX1 7 (by decide) tw_153 (Or.inl rfl) g11 dX1_mixedInto_41 ?_
  refine pt_icmp_ge C (tgt := 68) (by decide) dX1_mixedInto_44 (fun c12 => ?_) (fun c12 => ?_)
  · rw [if_pos c12] at hf
    refine pt_sub C [(3, .long s.1)] [1] rfl ?_
    exact K1 _ _ (Option.some.inj hf).symm
  · rw [if_neg c12] at hf
    refine pt_ldc2 C tw_894 dX1_mixedInto_47 ?_
    refine pt_lload_n C 1 rfl rfl dX1_mixedInto_50 ?_
    refine pt_lmul C dX1_mixedInto_51 ?_
    refine pt_aload_n C 0 rfl rfl dX1_mixedInto_52 ?_
    refine ob hf (fun v13 g14 hf => ?_)
    refine pt_getR C kX1 3 (by decide) tw_146 (Or.inl rfl) g14 dX1_mixedInto_53 ?_
    refine pt_iload C 2 rfl dX1_mixedInto_56 ?_
    refine ob hf (fun v15 g16 hf => ?_)
    refine pt_iald C g16 dX1_mixedInto_58 ?_
    refine pt_i2l C dX1_mixedInto_59 ?_
    refine pt_ladd C dX1_mixedInto_60 ?_
    refine pt_lstore_n C [(3, .long ((31 * s.1) + v15.toInt64)), (0, .ref x0), (5, .int s.2.1)] rfl (by decide) rfl dX1_mixedInto_61 ?_
    refine pt_iinc C 2 [(5, .int (s.2.1 + 1)), (3, .long ((31 * s.1) + v15.toInt64)), (0, .ref x0)] rfl (iinc_eq s.2.1 (by decide)) (by decide) rfl dX1_mixedInto_62 ?_
    refine pt_goto C (tgt := 38) (by decide) dX1_mixedInto_65 ?_
    refine pt_sub C [(0, .ref x0), (3, .long ((31 * s.1) + v15.toInt64)), (5, .int (s.2.1 + 1))] [2, 1, 0] rfl ?_
    exact K0 _ _ _ (Option.some.inj hf).symm
theorem l_X1_mixedInto_L38 {X : MX} (C : CX X cX1_mixedInto 6 RX1 (some .long) rmX1_mixedInto) (x0 : Nat) : ∀ (n : Nat) (s : Int64 × Int32 × AH) (r : (Int64 × AH)), iter (f_X1_mixedInto_L38 x0) n s = some r → (fun r : (Int64 × AH) => PT X 6 0 0 68 [(3, .long r.1)] [] r.2) r → PT X 6 0 0 38 [(0, .ref x0), (3, .long s.1), (5, .int s.2.1)] [] s.2.2 :=
  iter_W (fun s : Int64 × Int32 × AH => PT X 6 0 0 38 [(0, .ref x0), (3, .long s.1), (5, .int s.2.1)] [] s.2.2) (fun r : (Int64 × AH) => PT X 6 0 0 68 [(3, .long r.1)] [] r.2) _ (fun s s2 hf P => w_X1_mixedInto_L38 C x0 s _ hf (fun u3 u5 hu e => by cases e; exact P) (fun u3 hu e => by cases e)) (fun s r hf P => w_X1_mixedInto_L38 C x0 s _ hf (fun u3 u5 hu e => by cases e) (fun u3 hu e => by cases e; exact P))
set_option maxRecDepth 100000 in
set_option maxHeartbeats 4000000 in
theorem w_X1_mixedInto_0 {X : MX} (C : CX X cX1_mixedInto 6 RX1 (some .long) rmX1_mixedInto) (a0 : Nat) (a1 : Int64) (h : AH) (res : Int64 × AH) (hf : f_X1_mixedInto a0 a1 h = some res) (K : ∀ (v : Int64) (h2 : AH), res = (v, h2) → PR X rmX1_mixedInto (some (.long v)) h2) : PT X 6 0 0 0 [(0, .ref a0), (1, .long a1)] [] h := by
  unfold f_X1_mixedInto at hf
  refine pt_lload_n C 1 rfl rfl dX1_mixedInto_0 ?_
  refine pt_lstore_n C [(3, .long a1), (0, .ref a0), (1, .long a1)] rfl (by decide) rfl dX1_mixedInto_1 ?_
  refine pt_iconst C (v := 0) (by decide) dX1_mixedInto_2 ?_
  refine pt_istore C [(5, .int 0), (3, .long a1), (0, .ref a0), (1, .long a1)] (by decide) rfl dX1_mixedInto_3 ?_
  refine pt_sub C [(0, .ref a0), (3, .long a1), (5, .int 0)] [2, 1, 0] rfl ?_
  refine ob hf (fun e8 g9 hf => ?_)
  refine l_X1_mixedInto_L5 C a0 _ _ _ g9 ?_
  refine pt_iconst C (v := 0) (by decide) dX1_mixedInto_35 ?_
  refine pt_istore C [(5, .int 0), (0, .ref a0), (3, .long e8.1)] (by decide) rfl dX1_mixedInto_36 ?_
  refine pt_sub C [(0, .ref a0), (3, .long e8.1), (5, .int 0)] [1, 2, 0] rfl ?_
  refine ob hf (fun e17 g18 hf => ?_)
  refine l_X1_mixedInto_L38 C a0 _ _ _ g18 ?_
  refine pt_lload_n C 0 rfl rfl dX1_mixedInto_68 ?_
  exact pt_lret C (K _ _ (Option.some.inj hf).symm) (by decide) (by decide) dX1_mixedInto_69
theorem con_X1_mixedInto (l : Launch) (a0 : Nat) (a1 : Int64) (h : AH) (q : Int64 × AH) (hf : f_X1_mixedInto a0 a1 h = some q) : Con l yX1_mixedInto cX1_mixedInto 6 (some .long) rmX1_mixedInto [.ref a0, .long a1] h (some (.long q.1)) q.2 := Con.of (by decide +kernel) (Nat.le_of_ble_eq_true rfl) (fun X C I K => w_X1_mixedInto_0 C a0 a1 h q hf (fun v h2 e => by cases e; exact K))
abbrev rmX8_mixedInto : Room := { frames := 0, cells := 0, slots := 0, locals := 0 }
theorem yn_X8_mixedInto : YN yX8_mixedInto 1 := by refine ⟨?_, ?_, ?_⟩ <;> decide +kernel
set_option maxRecDepth 100000 in
set_option maxHeartbeats 4000000 in
theorem w_X8_mixedInto_0 {X : MX} (C : CX X cX8_mixedInto 5 RX8 (some .long) rmX8_mixedInto) (a0 : Nat) (a1 : Int64) (h : AH) (res : Int64 × AH) (hf : f_X8_mixedInto a0 a1 h = some res) (K : ∀ (v : Int64) (h2 : AH), res = (v, h2) → PR X rmX8_mixedInto (some (.long v)) h2) : PT X 5 0 0 0 [(0, .ref a0), (1, .long a1)] [] h := by
  unfold f_X8_mixedInto at hf
  refine pt_ldc2 C tw_899 dX8_mixedInto_0 ?_
  refine pt_lload_n C 1 rfl rfl dX8_mixedInto_3 ?_
  refine pt_lmul C dX8_mixedInto_4 ?_
  refine pt_aload_n C 0 rfl rfl dX8_mixedInto_5 ?_
  refine ob hf (fun v1 g2 hf => ?_)
  refine pt_getI C kX8 0 (by decide) tw_551 (Or.inl rfl) g2 dX8_mixedInto_6 ?_
  refine pt_i2l C dX8_mixedInto_9 ?_
  refine pt_ladd C dX8_mixedInto_10 ?_
  refine pt_lstore_n C [(3, .long ((31 * a1) + v1.toInt64)), (0, .ref a0), (1, .long a1)] rfl (by decide) rfl dX8_mixedInto_11 ?_
  refine pt_ldc2 C tw_899 dX8_mixedInto_12 ?_
  refine pt_lload_n C 0 rfl rfl dX8_mixedInto_15 ?_
  refine pt_lmul C dX8_mixedInto_16 ?_
  refine pt_aload_n C 1 rfl rfl dX8_mixedInto_17 ?_
  refine ob hf (fun v3 g4 hf => ?_)
  refine pt_getI C kX8 1 (by decide) tw_553 (Or.inl rfl) g4 dX8_mixedInto_18 ?_
  refine pt_i2l C dX8_mixedInto_21 ?_
  refine pt_ladd C dX8_mixedInto_22 ?_
  refine pt_lstore_n C [(3, .long ((31 * ((31 * a1) + v1.toInt64)) + v3.toInt64)), (0, .ref a0), (1, .long a1)] rfl (by decide) rfl dX8_mixedInto_23 ?_
  refine pt_ldc2 C tw_899 dX8_mixedInto_24 ?_
  refine pt_lload_n C 0 rfl rfl dX8_mixedInto_27 ?_
  refine pt_lmul C dX8_mixedInto_28 ?_
  refine pt_aload_n C 1 rfl rfl dX8_mixedInto_29 ?_
  refine ob hf (fun v5 g6 hf => ?_)
  refine pt_getI C kX8 2 (by decide) tw_554 (Or.inl rfl) g6 dX8_mixedInto_30 ?_
  refine pt_i2l C dX8_mixedInto_33 ?_
  refine pt_ladd C dX8_mixedInto_34 ?_
  exact pt_lret C (K _ _ (Option.some.inj hf).symm) (by decide) (by decide) dX8_mixedInto_35
theorem con_X8_mixedInto (l : Launch) (a0 : Nat) (a1 : Int64) (h : AH) (q : Int64 × AH) (hf : f_X8_mixedInto a0 a1 h = some q) : Con l yX8_mixedInto cX8_mixedInto 5 (some .long) rmX8_mixedInto [.ref a0, .long a1] h (some (.long q.1)) q.2 := Con.of (by decide +kernel) (Nat.le_of_ble_eq_true rfl) (fun X C I K => w_X8_mixedInto_0 C a0 a1 h q hf (fun v h2 e => by cases e; exact K))
abbrev rmX5_mixedInto : Room := { frames := 0, cells := 0, slots := 0, locals := 0 }
theorem yn_X5_mixedInto : YN yX5_mixedInto 1 := by refine ⟨?_, ?_, ?_⟩ <;> decide +kernel
set_option maxRecDepth 100000 in
set_option maxHeartbeats 4000000 in
theorem w_X5_mixedInto_L5 {X : MX} (C : CX X cX5_mixedInto 6 RX5 (some .long) rmX5_mixedInto) (x0 : Nat) (s : Int64 × Int32 × AH) (res : (Int64 × Int32 × AH) ⊕ ((Int64 × AH))) (hf : f_X5_mixedInto_L5 x0 s = some res) (K0 : ∀ (u3 : Int64) (u5 : Int32) (hu : AH), res = .inl (u3, u5, hu) → PT X 6 0 0 5 [(0, .ref x0), (3, .long u3), (5, .int u5)] [] hu) (K1 : ∀ (u3 : Int64) (hu : AH), res = .inr ((u3, hu)) → PT X 6 0 0 50 [(3, .long u3)] [] hu) : PT X 6 0 0 5 [(0, .ref x0), (3, .long s.1), (5, .int s.2.1)] [] s.2.2 := by
  unfold f_X5_mixedInto_L5 at hf
  refine pt_iload C 2 rfl dX5_mixedInto_5 ?_
  refine pt_aload_n C 0 rfl rfl dX5_mixedInto_7 ?_
  refine ob hf (fun v1 g2 hf => ?_)
  refine pt_getI C kX5 2 (by decide) tw_248 (Or.inl rfl) g2 dX5_mixedInto_8 ?_
  refine pt_icmp_ge C (tgt := 50) (by decide) dX5_mixedInto_11 (fun c3 => ?_) (fun c3 => ?_)
  · rw [if_pos c3] at hf
    refine pt_sub C [(3, .long s.1)] [1] rfl ?_
    exact K1 _ _ (Option.some.inj hf).symm
  · rw [if_neg c3] at hf
    refine pt_ldc2 C tw_909 dX5_mixedInto_14 ?_
    refine pt_lload_n C 1 rfl rfl dX5_mixedInto_17 ?_
    refine pt_lmul C dX5_mixedInto_18 ?_
    refine pt_aload_n C 0 rfl rfl dX5_mixedInto_19 ?_
    refine ob hf (fun v4 g5 hf => ?_)
    refine pt_getR C kX5 0 (by decide) tw_246 (Or.inl rfl) g5 dX5_mixedInto_20 ?_
    refine pt_iload C 2 rfl dX5_mixedInto_23 ?_
    refine ob hf (fun v6 g7 hf => ?_)
    refine pt_iald C g7 dX5_mixedInto_25 ?_
    refine pt_i2l C dX5_mixedInto_26 ?_
    refine pt_ladd C dX5_mixedInto_27 ?_
    refine pt_lstore_n C [(3, .long ((31 * s.1) + v6.toInt64)), (0, .ref x0), (5, .int s.2.1)] rfl (by decide) rfl dX5_mixedInto_28 ?_
    refine pt_ldc2 C tw_909 dX5_mixedInto_29 ?_
    refine pt_lload_n C 0 rfl rfl dX5_mixedInto_32 ?_
    refine pt_lmul C dX5_mixedInto_33 ?_
    refine pt_aload_n C 1 rfl rfl dX5_mixedInto_34 ?_
    refine ob hf (fun v8 g9 hf => ?_)
    refine pt_getR C kX5 1 (by decide) tw_247 (Or.inl rfl) g9 dX5_mixedInto_35 ?_
    refine pt_iload C 2 rfl dX5_mixedInto_38 ?_
    refine ob hf (fun v10 g11 hf => ?_)
    refine pt_iald C g11 dX5_mixedInto_40 ?_
    refine pt_i2l C dX5_mixedInto_41 ?_
    refine pt_ladd C dX5_mixedInto_42 ?_
    refine pt_lstore_n C [(3, .long ((31 * ((31 * s.1) + v6.toInt64)) + v10.toInt64)), (0, .ref x0), (5, .int s.2.1)] rfl (by decide) rfl dX5_mixedInto_43 ?_
    refine pt_iinc C 2 [(5, .int (s.2.1 + 1)), (3, .long ((31 * ((31 * s.1) + v6.toInt64)) + v10.toInt64)), (0, .ref x0)] rfl (iinc_eq s.2.1 (by decide)) (by decide) rfl dX5_mixedInto_44 ?_
    refine pt_goto C (tgt := 5) (by decide) dX5_mixedInto_47 ?_
    refine pt_sub C [(0, .ref x0), (3, .long ((31 * ((31 * s.1) + v6.toInt64)) + v10.toInt64)), (5, .int (s.2.1 + 1))] [2, 1, 0] rfl ?_
    exact K0 _ _ _ (Option.some.inj hf).symm
theorem l_X5_mixedInto_L5 {X : MX} (C : CX X cX5_mixedInto 6 RX5 (some .long) rmX5_mixedInto) (x0 : Nat) : ∀ (n : Nat) (s : Int64 × Int32 × AH) (r : (Int64 × AH)), iter (f_X5_mixedInto_L5 x0) n s = some r → (fun r : (Int64 × AH) => PT X 6 0 0 50 [(3, .long r.1)] [] r.2) r → PT X 6 0 0 5 [(0, .ref x0), (3, .long s.1), (5, .int s.2.1)] [] s.2.2 :=
  iter_W (fun s : Int64 × Int32 × AH => PT X 6 0 0 5 [(0, .ref x0), (3, .long s.1), (5, .int s.2.1)] [] s.2.2) (fun r : (Int64 × AH) => PT X 6 0 0 50 [(3, .long r.1)] [] r.2) _ (fun s s2 hf P => w_X5_mixedInto_L5 C x0 s _ hf (fun u3 u5 hu e => by cases e; exact P) (fun u3 hu e => by cases e)) (fun s r hf P => w_X5_mixedInto_L5 C x0 s _ hf (fun u3 u5 hu e => by cases e) (fun u3 hu e => by cases e; exact P))
set_option maxRecDepth 100000 in
set_option maxHeartbeats 4000000 in
theorem w_X5_mixedInto_0 {X : MX} (C : CX X cX5_mixedInto 6 RX5 (some .long) rmX5_mixedInto) (a0 : Nat) (a1 : Int64) (h : AH) (res : Int64 × AH) (hf : f_X5_mixedInto a0 a1 h = some res) (K : ∀ (v : Int64) (h2 : AH), res = (v, h2) → PR X rmX5_mixedInto (some (.long v)) h2) : PT X 6 0 0 0 [(0, .ref a0), (1, .long a1)] [] h := by
  unfold f_X5_mixedInto at hf
  refine pt_lload_n C 1 rfl rfl dX5_mixedInto_0 ?_
  refine pt_lstore_n C [(3, .long a1), (0, .ref a0), (1, .long a1)] rfl (by decide) rfl dX5_mixedInto_1 ?_
  refine pt_iconst C (v := 0) (by decide) dX5_mixedInto_2 ?_
  refine pt_istore C [(5, .int 0), (3, .long a1), (0, .ref a0), (1, .long a1)] (by decide) rfl dX5_mixedInto_3 ?_
  refine pt_sub C [(0, .ref a0), (3, .long a1), (5, .int 0)] [2, 1, 0] rfl ?_
  refine ob hf (fun e12 g13 hf => ?_)
  refine l_X5_mixedInto_L5 C a0 _ _ _ g13 ?_
  refine pt_lload_n C 0 rfl rfl dX5_mixedInto_50 ?_
  exact pt_lret C (K _ _ (Option.some.inj hf).symm) (by decide) (by decide) dX5_mixedInto_51
theorem con_X5_mixedInto (l : Launch) (a0 : Nat) (a1 : Int64) (h : AH) (q : Int64 × AH) (hf : f_X5_mixedInto a0 a1 h = some q) : Con l yX5_mixedInto cX5_mixedInto 6 (some .long) rmX5_mixedInto [.ref a0, .long a1] h (some (.long q.1)) q.2 := Con.of (by decide +kernel) (Nat.le_of_ble_eq_true rfl) (fun X C I K => w_X5_mixedInto_0 C a0 a1 h q hf (fun v h2 e => by cases e; exact K))
abbrev rmX11_digest : Room := { frames := 3, cells := 0, slots := 0, locals := 64 }
theorem yn_X11_digest : YN yX11_digest 0 := by refine ⟨?_, ?_, ?_⟩ <;> decide +kernel
set_option maxRecDepth 100000 in
set_option maxHeartbeats 4000000 in
theorem w_X11_digest_L6 {X : MX} (C : CX X cX11_digest 4 RX11 (some .long) rmX11_digest) (x0 : Nat) (s : Int64 × Int32 × AH) (res : (Int64 × Int32 × AH) ⊕ ((Int64 × AH))) (hf : f_X11_digest_L6 x0 s = some res) (K0 : ∀ (u1 : Int64) (u3 : Int32) (hu : AH), res = .inl (u1, u3, hu) → PT X 4 0 0 6 [(0, .ref x0), (1, .long u1), (3, .int u3)] [] hu) (K1 : ∀ (u1 : Int64) (hu : AH), res = .inr ((u1, hu)) → PT X 4 0 0 31 [(0, .ref x0), (1, .long u1)] [] hu) : PT X 4 0 0 6 [(0, .ref x0), (1, .long s.1), (3, .int s.2.1)] [] s.2.2 := by
  unfold f_X11_digest_L6 at hf
  refine pt_iload_n C 2 rfl rfl dX11_digest_6 ?_
  refine pt_bipush C (v := 8) (by decide) dX11_digest_7 ?_
  refine pt_icmp_gt C (tgt := 31) (by decide) dX11_digest_9 (fun c1 => ?_) (fun c1 => ?_)
  · rw [if_pos c1] at hf
    refine pt_sub C [(0, .ref x0), (1, .long s.1)] [0, 1] rfl ?_
    exact K1 _ _ (Option.some.inj hf).symm
  · rw [if_neg c1] at hf
    refine pt_ldc2 C tw_872 dX11_digest_12 ?_
    refine pt_lload_n C 1 rfl rfl dX11_digest_15 ?_
    refine pt_lmul C dX11_digest_16 ?_
    refine pt_aload_n C 0 rfl rfl dX11_digest_17 ?_
    refine pt_iload_n C 2 rfl rfl dX11_digest_18 ?_
    refine ob hf (fun _ g4 hf => ?_)
    refine ob hf (fun q2 g3 hf => ?_)
    refine pt_callV C (As := [.int s.2.1]) (rest := [.long (31 * s.1)]) (v := (some (.int q2.1))) (fun l => con_X11_count l x0 s.2.1 s.2.2 _ g3) tw_866 tw_873 tw_864 tw_865 kX11 g4 tw_1 yn_X11_count (by decide) (Nat.le_of_ble_eq_true rfl) dX11_digest_19 rfl ?_
    show PT X 4 0 0 22 [(0, .ref x0), (1, .long s.1), (3, .int s.2.1)] [.int q2.1, .long (31 * s.1)] q2.2
    refine pt_i2l C dX11_digest_22 ?_
    refine pt_ladd C dX11_digest_23 ?_
    refine pt_lstore_n C [(1, .long ((31 * s.1) + q2.1.toInt64)), (0, .ref x0), (3, .int s.2.1)] rfl (by decide) rfl dX11_digest_24 ?_
    refine pt_iinc C 2 [(3, .int (s.2.1 + 1)), (1, .long ((31 * s.1) + q2.1.toInt64)), (0, .ref x0)] rfl (iinc_eq s.2.1 (by decide)) (by decide) rfl dX11_digest_25 ?_
    refine pt_goto C (tgt := 6) (by decide) dX11_digest_28 ?_
    refine pt_sub C [(0, .ref x0), (1, .long ((31 * s.1) + q2.1.toInt64)), (3, .int (s.2.1 + 1))] [2, 1, 0] rfl ?_
    exact K0 _ _ _ (Option.some.inj hf).symm
theorem l_X11_digest_L6 {X : MX} (C : CX X cX11_digest 4 RX11 (some .long) rmX11_digest) (x0 : Nat) : ∀ (n : Nat) (s : Int64 × Int32 × AH) (r : (Int64 × AH)), iter (f_X11_digest_L6 x0) n s = some r → (fun r : (Int64 × AH) => PT X 4 0 0 31 [(0, .ref x0), (1, .long r.1)] [] r.2) r → PT X 4 0 0 6 [(0, .ref x0), (1, .long s.1), (3, .int s.2.1)] [] s.2.2 :=
  iter_W (fun s : Int64 × Int32 × AH => PT X 4 0 0 6 [(0, .ref x0), (1, .long s.1), (3, .int s.2.1)] [] s.2.2) (fun r : (Int64 × AH) => PT X 4 0 0 31 [(0, .ref x0), (1, .long r.1)] [] r.2) _ (fun s s2 hf P => w_X11_digest_L6 C x0 s _ hf (fun u1 u3 hu e => by cases e; exact P) (fun u1 hu e => by cases e)) (fun s r hf P => w_X11_digest_L6 C x0 s _ hf (fun u1 u3 hu e => by cases e) (fun u1 hu e => by cases e; exact P))
set_option maxRecDepth 100000 in
set_option maxHeartbeats 4000000 in
theorem w_X11_digest_L42 {X : MX} (C : CX X cX11_digest 4 RX11 (some .long) rmX11_digest) (x0 : Nat) (s : Int64 × Int32 × AH) (res : (Int64 × Int32 × AH) ⊕ ((Int64 × AH))) (hf : f_X11_digest_L42 x0 s = some res) (K0 : ∀ (u1 : Int64) (u3 : Int32) (hu : AH), res = .inl (u1, u3, hu) → PT X 4 0 0 42 [(0, .ref x0), (1, .long u1), (3, .int u3)] [] hu) (K1 : ∀ (u1 : Int64) (hu : AH), res = .inr ((u1, hu)) → PT X 4 0 0 75 [(0, .ref x0), (1, .long u1)] [] hu) : PT X 4 0 0 42 [(0, .ref x0), (1, .long s.1), (3, .int s.2.1)] [] s.2.2 := by
  unfold f_X11_digest_L42 at hf
  refine pt_iload_n C 2 rfl rfl dX11_digest_42 ?_
  refine pt_aload_n C 0 rfl rfl dX11_digest_43 ?_
  refine ob hf (fun v12 g13 hf => ?_)
  refine pt_getR C kX11 1 (by decide) tw_308 (Or.inl rfl) g13 dX11_digest_44 ?_
  refine ob hf (fun _ g16 hf => ?_)
  refine ob hf (fun q14 g15 hf => ?_)
  refine pt_callV C (As := []) (rest := [.int s.2.1]) (v := (some (.int q14.1))) (fun l => con_Jx4a65c_size_8abf5 l v12 s.2.2 _ g15) tw_363 tw_360 tw_361 tw_362 kJx4a65c g16 tw_5 yn_Jx4a65c_size_8abf5 (by decide) (Nat.le_of_ble_eq_true rfl) dX11_digest_47 rfl ?_
  show PT X 4 0 0 50 [(0, .ref x0), (1, .long s.1), (3, .int s.2.1)] [.int q14.1, .int s.2.1] q14.2
  refine pt_icmp_ge C (tgt := 75) (by decide) dX11_digest_50 (fun c17 => ?_) (fun c17 => ?_)
  · rw [if_pos c17] at hf
    refine pt_sub C [(0, .ref x0), (1, .long s.1)] [0, 1] rfl ?_
    exact K1 _ _ (Option.some.inj hf).symm
  · rw [if_neg c17] at hf
    refine pt_aload_n C 0 rfl rfl dX11_digest_53 ?_
    refine ob hf (fun v18 g19 hf => ?_)
    refine pt_getR C kX11 1 (by decide) tw_308 (Or.inl rfl) g19 dX11_digest_54 ?_
    refine pt_iload_n C 2 rfl rfl dX11_digest_57 ?_
    refine ob hf (fun _ g22 hf => ?_)
    refine ob hf (fun q20 g21 hf => ?_)
    refine pt_callV C (As := [.int s.2.1]) (rest := []) (v := (some (.ref q20.1))) (fun l => con_Jx4a65c_get_915e3 l v18 s.2.1 q14.2 _ g21) tw_465 tw_462 tw_463 tw_464 kJx4a65c g22 tw_5 yn_Jx4a65c_get_915e3 (by decide) (Nat.le_of_ble_eq_true rfl) dX11_digest_58 rfl ?_
    show PT X 4 0 0 61 [(0, .ref x0), (1, .long s.1), (3, .int s.2.1)] [.ref q20.1] q20.2
    refine ob hf (fun _ g23 hf => ?_)
    refine pt_cast C kX7 tw_364 g23 dX11_digest_61 ?_
    refine pt_lload_n C 1 rfl rfl dX11_digest_64 ?_
    refine ob hf (fun _ g26 hf => ?_)
    refine ob hf (fun q24 g25 hf => ?_)
    refine pt_callV C (As := [.long s.1]) (rest := []) (v := (some (.long q24.1))) (fun l => con_X7_mixedInto l q20.1 s.1 q20.2 _ g25) tw_882 tw_879 tw_880 tw_881 kX7 g26 tw_14 yn_X7_mixedInto (by decide) (Nat.le_of_ble_eq_true rfl) dX11_digest_65 rfl ?_
    show PT X 4 0 0 68 [(0, .ref x0), (1, .long s.1), (3, .int s.2.1)] [.long q24.1] q24.2
    refine pt_lstore_n C [(1, .long q24.1), (0, .ref x0), (3, .int s.2.1)] rfl (by decide) rfl dX11_digest_68 ?_
    refine pt_iinc C 2 [(3, .int (s.2.1 + 1)), (1, .long q24.1), (0, .ref x0)] rfl (iinc_eq s.2.1 (by decide)) (by decide) rfl dX11_digest_69 ?_
    refine pt_goto C (tgt := 42) (by decide) dX11_digest_72 ?_
    refine pt_sub C [(0, .ref x0), (1, .long q24.1), (3, .int (s.2.1 + 1))] [2, 1, 0] rfl ?_
    exact K0 _ _ _ (Option.some.inj hf).symm
theorem l_X11_digest_L42 {X : MX} (C : CX X cX11_digest 4 RX11 (some .long) rmX11_digest) (x0 : Nat) : ∀ (n : Nat) (s : Int64 × Int32 × AH) (r : (Int64 × AH)), iter (f_X11_digest_L42 x0) n s = some r → (fun r : (Int64 × AH) => PT X 4 0 0 75 [(0, .ref x0), (1, .long r.1)] [] r.2) r → PT X 4 0 0 42 [(0, .ref x0), (1, .long s.1), (3, .int s.2.1)] [] s.2.2 :=
  iter_W (fun s : Int64 × Int32 × AH => PT X 4 0 0 42 [(0, .ref x0), (1, .long s.1), (3, .int s.2.1)] [] s.2.2) (fun r : (Int64 × AH) => PT X 4 0 0 75 [(0, .ref x0), (1, .long r.1)] [] r.2) _ (fun s s2 hf P => w_X11_digest_L42 C x0 s _ hf (fun u1 u3 hu e => by cases e; exact P) (fun u1 hu e => by cases e)) (fun s r hf P => w_X11_digest_L42 C x0 s _ hf (fun u1 u3 hu e => by cases e) (fun u1 hu e => by cases e; exact P))
set_option maxRecDepth 100000 in
set_option maxHeartbeats 4000000 in
theorem w_X11_digest_L95 {X : MX} (C : CX X cX11_digest 4 RX11 (some .long) rmX11_digest) (x0 : Nat) (s : Int64 × Int32 × AH) (res : (Int64 × Int32 × AH) ⊕ ((Int64 × AH))) (hf : f_X11_digest_L95 x0 s = some res) (K0 : ∀ (u1 : Int64) (u3 : Int32) (hu : AH), res = .inl (u1, u3, hu) → PT X 4 0 0 95 [(0, .ref x0), (1, .long u1), (3, .int u3)] [] hu) (K1 : ∀ (u1 : Int64) (hu : AH), res = .inr ((u1, hu)) → PT X 4 0 0 128 [(0, .ref x0), (1, .long u1)] [] hu) : PT X 4 0 0 95 [(0, .ref x0), (1, .long s.1), (3, .int s.2.1)] [] s.2.2 := by
  unfold f_X11_digest_L95 at hf
  refine pt_iload_n C 2 rfl rfl dX11_digest_95 ?_
  refine pt_aload_n C 0 rfl rfl dX11_digest_96 ?_
  refine ob hf (fun v39 g40 hf => ?_)
  refine pt_getR C kX11 4 (by decide) tw_311 (Or.inl rfl) g40 dX11_digest_97 ?_
  refine ob hf (fun _ g43 hf => ?_)
  refine ob hf (fun q41 g42 hf => ?_)
  refine pt_callV C (As := []) (rest := [.int s.2.1]) (v := (some (.int q41.1))) (fun l => con_Jx4a65c_size_8abf5 l v39 s.2.2 _ g42) tw_363 tw_360 tw_361 tw_362 kJx4a65c g43 tw_5 yn_Jx4a65c_size_8abf5 (by decide) (Nat.le_of_ble_eq_true rfl) dX11_digest_100 rfl ?_
  show PT X 4 0 0 103 [(0, .ref x0), (1, .long s.1), (3, .int s.2.1)] [.int q41.1, .int s.2.1] q41.2
  refine pt_icmp_ge C (tgt := 128) (by decide) dX11_digest_103 (fun c44 => ?_) (fun c44 => ?_)
  · rw [if_pos c44] at hf
    refine pt_sub C [(0, .ref x0), (1, .long s.1)] [0, 1] rfl ?_
    exact K1 _ _ (Option.some.inj hf).symm
  · rw [if_neg c44] at hf
    refine pt_aload_n C 0 rfl rfl dX11_digest_106 ?_
    refine ob hf (fun v45 g46 hf => ?_)
    refine pt_getR C kX11 4 (by decide) tw_311 (Or.inl rfl) g46 dX11_digest_107 ?_
    refine pt_iload_n C 2 rfl rfl dX11_digest_110 ?_
    refine ob hf (fun _ g49 hf => ?_)
    refine ob hf (fun q47 g48 hf => ?_)
    refine pt_callV C (As := [.int s.2.1]) (rest := []) (v := (some (.ref q47.1))) (fun l => con_Jx4a65c_get_915e3 l v45 s.2.1 q41.2 _ g48) tw_465 tw_462 tw_463 tw_464 kJx4a65c g49 tw_5 yn_Jx4a65c_get_915e3 (by decide) (Nat.le_of_ble_eq_true rfl) dX11_digest_111 rfl ?_
    show PT X 4 0 0 114 [(0, .ref x0), (1, .long s.1), (3, .int s.2.1)] [.ref q47.1] q47.2
    refine ob hf (fun _ g50 hf => ?_)
    refine pt_cast C kX8 tw_545 g50 dX11_digest_114 ?_
    refine pt_lload_n C 1 rfl rfl dX11_digest_117 ?_
    refine ob hf (fun _ g53 hf => ?_)
    refine ob hf (fun q51 g52 hf => ?_)
    refine pt_callV C (As := [.long s.1]) (rest := []) (v := (some (.long q51.1))) (fun l => con_X8_mixedInto l q47.1 s.1 q47.2 _ g52) tw_898 tw_895 tw_896 tw_897 kX8 g53 tw_21 yn_X8_mixedInto (by decide) (Nat.le_of_ble_eq_true rfl) dX11_digest_118 rfl ?_
    show PT X 4 0 0 121 [(0, .ref x0), (1, .long s.1), (3, .int s.2.1)] [.long q51.1] q51.2
    refine pt_lstore_n C [(1, .long q51.1), (0, .ref x0), (3, .int s.2.1)] rfl (by decide) rfl dX11_digest_121 ?_
    refine pt_iinc C 2 [(3, .int (s.2.1 + 1)), (1, .long q51.1), (0, .ref x0)] rfl (iinc_eq s.2.1 (by decide)) (by decide) rfl dX11_digest_122 ?_
    refine pt_goto C (tgt := 95) (by decide) dX11_digest_125 ?_
    refine pt_sub C [(0, .ref x0), (1, .long q51.1), (3, .int (s.2.1 + 1))] [2, 1, 0] rfl ?_
    exact K0 _ _ _ (Option.some.inj hf).symm
theorem l_X11_digest_L95 {X : MX} (C : CX X cX11_digest 4 RX11 (some .long) rmX11_digest) (x0 : Nat) : ∀ (n : Nat) (s : Int64 × Int32 × AH) (r : (Int64 × AH)), iter (f_X11_digest_L95 x0) n s = some r → (fun r : (Int64 × AH) => PT X 4 0 0 128 [(0, .ref x0), (1, .long r.1)] [] r.2) r → PT X 4 0 0 95 [(0, .ref x0), (1, .long s.1), (3, .int s.2.1)] [] s.2.2 :=
  iter_W (fun s : Int64 × Int32 × AH => PT X 4 0 0 95 [(0, .ref x0), (1, .long s.1), (3, .int s.2.1)] [] s.2.2) (fun r : (Int64 × AH) => PT X 4 0 0 128 [(0, .ref x0), (1, .long r.1)] [] r.2) _ (fun s s2 hf P => w_X11_digest_L95 C x0 s _ hf (fun u1 u3 hu e => by cases e; exact P) (fun u1 hu e => by cases e)) (fun s r hf P => w_X11_digest_L95 C x0 s _ hf (fun u1 u3 hu e => by cases e) (fun u1 hu e => by cases e; exact P))
set_option maxRecDepth 100000 in
set_option maxHeartbeats 4000000 in
theorem w_X11_digest_L130 {X : MX} (C : CX X cX11_digest 4 RX11 (some .long) rmX11_digest) (x0 : Nat) (s : Int64 × Int32 × AH) (res : (Int64 × Int32 × AH) ⊕ ((Int64 × AH))) (hf : f_X11_digest_L130 x0 s = some res) (K0 : ∀ (u1 : Int64) (u3 : Int32) (hu : AH), res = .inl (u1, u3, hu) → PT X 4 0 0 130 [(0, .ref x0), (1, .long u1), (3, .int u3)] [] hu) (K1 : ∀ (u1 : Int64) (hu : AH), res = .inr ((u1, hu)) → PT X 4 0 0 163 [(0, .ref x0), (1, .long u1)] [] hu) : PT X 4 0 0 130 [(0, .ref x0), (1, .long s.1), (3, .int s.2.1)] [] s.2.2 := by
  unfold f_X11_digest_L130 at hf
  refine pt_iload_n C 2 rfl rfl dX11_digest_130 ?_
  refine pt_aload_n C 0 rfl rfl dX11_digest_131 ?_
  refine ob hf (fun v56 g57 hf => ?_)
  refine pt_getR C kX11 7 (by decide) tw_314 (Or.inl rfl) g57 dX11_digest_132 ?_
  refine ob hf (fun _ g60 hf => ?_)
  refine ob hf (fun q58 g59 hf => ?_)
  refine pt_callV C (As := []) (rest := [.int s.2.1]) (v := (some (.int q58.1))) (fun l => con_Jx4a65c_size_8abf5 l v56 s.2.2 _ g59) tw_363 tw_360 tw_361 tw_362 kJx4a65c g60 tw_5 yn_Jx4a65c_size_8abf5 (by decide) (Nat.le_of_ble_eq_true rfl) dX11_digest_135 rfl ?_
  show PT X 4 0 0 138 [(0, .ref x0), (1, .long s.1), (3, .int s.2.1)] [.int q58.1, .int s.2.1] q58.2
  refine pt_icmp_ge C (tgt := 163) (by decide) dX11_digest_138 (fun c61 => ?_) (fun c61 => ?_)
  · rw [if_pos c61] at hf
    refine pt_sub C [(0, .ref x0), (1, .long s.1)] [0, 1] rfl ?_
    exact K1 _ _ (Option.some.inj hf).symm
  · rw [if_neg c61] at hf
    refine pt_aload_n C 0 rfl rfl dX11_digest_141 ?_
    refine ob hf (fun v62 g63 hf => ?_)
    refine pt_getR C kX11 7 (by decide) tw_314 (Or.inl rfl) g63 dX11_digest_142 ?_
    refine pt_iload_n C 2 rfl rfl dX11_digest_145 ?_
    refine ob hf (fun _ g66 hf => ?_)
    refine ob hf (fun q64 g65 hf => ?_)
    refine pt_callV C (As := [.int s.2.1]) (rest := []) (v := (some (.ref q64.1))) (fun l => con_Jx4a65c_get_915e3 l v62 s.2.1 q58.2 _ g65) tw_465 tw_462 tw_463 tw_464 kJx4a65c g66 tw_5 yn_Jx4a65c_get_915e3 (by decide) (Nat.le_of_ble_eq_true rfl) dX11_digest_146 rfl ?_
    show PT X 4 0 0 149 [(0, .ref x0), (1, .long s.1), (3, .int s.2.1)] [.ref q64.1] q64.2
    refine ob hf (fun _ g67 hf => ?_)
    refine pt_cast C kX10 tw_675 g67 dX11_digest_149 ?_
    refine pt_lload_n C 1 rfl rfl dX11_digest_152 ?_
    refine ob hf (fun _ g70 hf => ?_)
    refine ob hf (fun q68 g69 hf => ?_)
    refine pt_callV C (As := [.long s.1]) (rest := []) (v := (some (.long q68.1))) (fun l => con_X10_mixedInto l q64.1 s.1 q64.2 _ g69) tw_903 tw_900 tw_901 tw_902 kX10 g70 tw_23 yn_X10_mixedInto (by decide) (Nat.le_of_ble_eq_true rfl) dX11_digest_153 rfl ?_
    show PT X 4 0 0 156 [(0, .ref x0), (1, .long s.1), (3, .int s.2.1)] [.long q68.1] q68.2
    refine pt_lstore_n C [(1, .long q68.1), (0, .ref x0), (3, .int s.2.1)] rfl (by decide) rfl dX11_digest_156 ?_
    refine pt_iinc C 2 [(3, .int (s.2.1 + 1)), (1, .long q68.1), (0, .ref x0)] rfl (iinc_eq s.2.1 (by decide)) (by decide) rfl dX11_digest_157 ?_
    refine pt_goto C (tgt := 130) (by decide) dX11_digest_160 ?_
    refine pt_sub C [(0, .ref x0), (1, .long q68.1), (3, .int (s.2.1 + 1))] [2, 1, 0] rfl ?_
    exact K0 _ _ _ (Option.some.inj hf).symm
theorem l_X11_digest_L130 {X : MX} (C : CX X cX11_digest 4 RX11 (some .long) rmX11_digest) (x0 : Nat) : ∀ (n : Nat) (s : Int64 × Int32 × AH) (r : (Int64 × AH)), iter (f_X11_digest_L130 x0) n s = some r → (fun r : (Int64 × AH) => PT X 4 0 0 163 [(0, .ref x0), (1, .long r.1)] [] r.2) r → PT X 4 0 0 130 [(0, .ref x0), (1, .long s.1), (3, .int s.2.1)] [] s.2.2 :=
  iter_W (fun s : Int64 × Int32 × AH => PT X 4 0 0 130 [(0, .ref x0), (1, .long s.1), (3, .int s.2.1)] [] s.2.2) (fun r : (Int64 × AH) => PT X 4 0 0 163 [(0, .ref x0), (1, .long r.1)] [] r.2) _ (fun s s2 hf P => w_X11_digest_L130 C x0 s _ hf (fun u1 u3 hu e => by cases e; exact P) (fun u1 hu e => by cases e)) (fun s r hf P => w_X11_digest_L130 C x0 s _ hf (fun u1 u3 hu e => by cases e) (fun u1 hu e => by cases e; exact P))
set_option maxRecDepth 100000 in
set_option maxHeartbeats 4000000 in
theorem w_X11_digest_0 {X : MX} (C : CX X cX11_digest 4 RX11 (some .long) rmX11_digest) (a0 : Nat) (h : AH) (res : Int64 × AH) (hf : f_X11_digest a0 h = some res) (K : ∀ (v : Int64) (h2 : AH), res = (v, h2) → PR X rmX11_digest (some (.long v)) h2) : PT X 4 0 0 0 [(0, .ref a0)] [] h := by
  unfold f_X11_digest at hf
  refine pt_ldc2 C tw_871 dX11_digest_0 ?_
  refine pt_lstore_n C [(1, .long 283), (0, .ref a0)] rfl (by decide) rfl dX11_digest_3 ?_
  refine pt_iconst C (v := 0) (by decide) dX11_digest_4 ?_
  refine pt_istore_n C [(3, .int 0), (1, .long 283), (0, .ref a0)] rfl (by decide) rfl dX11_digest_5 ?_
  refine pt_sub C [(0, .ref a0), (1, .long 283), (3, .int 0)] [2, 1, 0] rfl ?_
  refine ob hf (fun e5 g6 hf => ?_)
  refine l_X11_digest_L6 C a0 _ _ _ g6 ?_
  refine pt_aload_n C 0 rfl rfl dX11_digest_31 ?_
  refine ob hf (fun v7 g8 hf => ?_)
  refine pt_getR C kX11 0 (by decide) tw_307 (Or.inl rfl) g8 dX11_digest_32 ?_
  refine pt_lload_n C 1 rfl rfl dX11_digest_35 ?_
  refine ob hf (fun _ g11 hf => ?_)
  refine ob hf (fun q9 g10 hf => ?_)
  refine pt_callV C (As := [.long e5.1]) (rest := []) (v := (some (.long q9.1))) (fun l => con_X6_mixedInto l v7 e5.1 e5.2 _ g10) tw_877 tw_874 tw_875 tw_876 kX6 g11 tw_2 yn_X6_mixedInto (by decide) (Nat.le_of_ble_eq_true rfl) dX11_digest_36 rfl ?_
  show PT X 4 0 0 39 [(0, .ref a0), (1, .long e5.1)] [.long q9.1] q9.2
  refine pt_lstore_n C [(1, .long q9.1), (0, .ref a0)] rfl (by decide) rfl dX11_digest_39 ?_
  refine pt_iconst C (v := 0) (by decide) dX11_digest_40 ?_
  refine pt_istore_n C [(3, .int 0), (1, .long q9.1), (0, .ref a0)] rfl (by decide) rfl dX11_digest_41 ?_
  refine pt_sub C [(0, .ref a0), (1, .long q9.1), (3, .int 0)] [2, 1, 0] rfl ?_
  refine ob hf (fun e27 g28 hf => ?_)
  refine l_X11_digest_L42 C a0 _ _ _ g28 ?_
  refine pt_aload_n C 0 rfl rfl dX11_digest_75 ?_
  refine ob hf (fun v29 g30 hf => ?_)
  refine pt_getR C kX11 2 (by decide) tw_309 (Or.inl rfl) g30 dX11_digest_76 ?_
  refine pt_lload_n C 1 rfl rfl dX11_digest_79 ?_
  refine ob hf (fun _ g33 hf => ?_)
  refine ob hf (fun q31 g32 hf => ?_)
  refine pt_callV C (As := [.long e27.1]) (rest := []) (v := (some (.long q31.1))) (fun l => con_X0_mixedInto l v29 e27.1 e27.2 _ g32) tw_888 tw_885 tw_886 tw_887 kX0 g33 tw_6 yn_X0_mixedInto (by decide) (Nat.le_of_ble_eq_true rfl) dX11_digest_80 rfl ?_
  show PT X 4 0 0 83 [(0, .ref a0), (1, .long e27.1)] [.long q31.1] q31.2
  refine pt_lstore_n C [(1, .long q31.1), (0, .ref a0)] rfl (by decide) rfl dX11_digest_83 ?_
  refine pt_aload_n C 1 rfl rfl dX11_digest_84 ?_
  refine ob hf (fun v34 g35 hf => ?_)
  refine pt_getR C kX11 3 (by decide) tw_310 (Or.inl rfl) g35 dX11_digest_85 ?_
  refine pt_lload_n C 0 rfl rfl dX11_digest_88 ?_
  refine ob hf (fun _ g38 hf => ?_)
  refine ob hf (fun q36 g37 hf => ?_)
  refine pt_callV C (As := [.long q31.1]) (rest := []) (v := (some (.long q36.1))) (fun l => con_X1_mixedInto l v34 q31.1 q31.2 _ g37) tw_893 tw_890 tw_891 tw_892 kX1 g38 tw_7 yn_X1_mixedInto (by decide) (Nat.le_of_ble_eq_true rfl) dX11_digest_89 rfl ?_
  show PT X 4 0 0 92 [(1, .long q31.1), (0, .ref a0)] [.long q36.1] q36.2
  refine pt_lstore_n C [(1, .long q36.1), (0, .ref a0)] rfl (by decide) rfl dX11_digest_92 ?_
  refine pt_iconst C (v := 0) (by decide) dX11_digest_93 ?_
  refine pt_istore_n C [(3, .int 0), (1, .long q36.1), (0, .ref a0)] rfl (by decide) rfl dX11_digest_94 ?_
  refine pt_sub C [(0, .ref a0), (1, .long q36.1), (3, .int 0)] [2, 1, 0] rfl ?_
  refine ob hf (fun e54 g55 hf => ?_)
  refine l_X11_digest_L95 C a0 _ _ _ g55 ?_
  refine pt_iconst C (v := 0) (by decide) dX11_digest_128 ?_
  refine pt_istore_n C [(3, .int 0), (0, .ref a0), (1, .long e54.1)] rfl (by decide) rfl dX11_digest_129 ?_
  refine pt_sub C [(0, .ref a0), (1, .long e54.1), (3, .int 0)] [1, 2, 0] rfl ?_
  refine ob hf (fun e71 g72 hf => ?_)
  refine l_X11_digest_L130 C a0 _ _ _ g72 ?_
  refine pt_aload_n C 0 rfl rfl dX11_digest_163 ?_
  refine ob hf (fun v73 g74 hf => ?_)
  refine pt_getR C kX11 9 (by decide) tw_316 (Or.inl rfl) g74 dX11_digest_164 ?_
  refine pt_lload_n C 1 rfl rfl dX11_digest_167 ?_
  refine ob hf (fun _ g77 hf => ?_)
  refine ob hf (fun q75 g76 hf => ?_)
  refine pt_callV C (As := [.long e71.1]) (rest := []) (v := (some (.long q75.1))) (fun l => con_X5_mixedInto l v73 e71.1 e71.2 _ g76) tw_908 tw_905 tw_906 tw_907 kX5 g77 tw_10 yn_X5_mixedInto (by decide) (Nat.le_of_ble_eq_true rfl) dX11_digest_168 rfl ?_
  show PT X 4 0 0 171 [(0, .ref a0), (1, .long e71.1)] [.long q75.1] q75.2
  exact pt_lret C (K _ _ (Option.some.inj hf).symm) (by decide) (by decide) dX11_digest_171
theorem con_X11_digest (l : Launch) (a0 : Nat) (h : AH) (q : Int64 × AH) (hf : f_X11_digest a0 h = some q) : Con l yX11_digest cX11_digest 4 (some .long) rmX11_digest [.ref a0] h (some (.long q.1)) q.2 := Con.of (by decide +kernel) (Nat.le_of_ble_eq_true rfl) (fun X C I K => w_X11_digest_0 C a0 h q hf (fun v h2 e => by cases e; exact K))
abbrev rmX11_floor : Room := { frames := 1, cells := 0, slots := 0, locals := 22 }
theorem yn_X11_floor : YN yX11_floor 1 := by refine ⟨?_, ?_, ?_⟩ <;> decide +kernel
set_option maxRecDepth 100000 in
set_option maxHeartbeats 4000000 in
theorem w_X11_floor_0 {X : MX} (C : CX X cX11_floor 3 RX11 (some .int) rmX11_floor) (a0 : Nat) (a1 : Int32) (h : AH) (res : Int32 × AH) (hf : f_X11_floor a0 a1 h = some res) (K : ∀ (v : Int32) (h2 : AH), res = (v, h2) → PR X rmX11_floor (some (.int v)) h2) : PT X 3 0 0 0 [(0, .ref a0), (1, .int a1)] [] h := by
  unfold f_X11_floor at hf
  refine pt_iload_n C 1 rfl rfl dX11_floor_0 ?_
  refine pt_iconst C (v := 0) (by decide) dX11_floor_1 ?_
  refine pt_bipush C (v := 100) (by decide) dX11_floor_2 ?_
  refine ob hf (fun q1 g2 hf => ?_)
  refine pt_callS C (As := [.int a1, .int 0, .int 100]) (rest := []) (v := (some (.int q1.1))) (fun l => con_X11_within l a1 0 100 h _ g2) tw_461 tw_459 tw_460 tw_1 yn_X11_within (by decide) (Nat.le_of_ble_eq_true rfl) dX11_floor_4 rfl ?_
  show PT X 3 0 0 7 [(0, .ref a0), (1, .int a1)] [.int q1.1] q1.2
  refine pt_if_ne C (tgt := 13) (by decide) dX11_floor_7 (fun c3 => ?_) (fun c3 => ?_)
  · rw [if_neg c3] at hf
    refine pt_aload_n C 0 rfl rfl dX11_floor_13 ?_
    refine ob hf (fun v4 g5 hf => ?_)
    refine pt_getR C kX11 2 (by decide) tw_309 (Or.inl rfl) g5 dX11_floor_14 ?_
    refine ob hf (fun v6 g7 hf => ?_)
    refine pt_getI C kX0 8 (by decide) tw_112 (Or.inl rfl) g7 dX11_floor_17 ?_
    refine pt_istore_n C [(2, .int v6), (0, .ref a0), (1, .int a1)] rfl (by decide) rfl dX11_floor_20 ?_
    refine pt_aload_n C 1 rfl rfl dX11_floor_21 ?_
    refine ob hf (fun v8 g9 hf => ?_)
    refine pt_getR C kX11 2 (by decide) tw_309 (Or.inl rfl) g9 dX11_floor_22 ?_
    refine pt_iload_n C 2 rfl rfl dX11_floor_25 ?_
    refine ob hf (fun h10 g11 hf => ?_)
    refine pt_put C kX0 8 (by decide) tw_112 (Or.inl rfl) rfl rfl rfl g11 dX11_floor_26 ?_
    refine pt_aload_n C 1 rfl rfl dX11_floor_29 ?_
    refine ob hf (fun v12 g13 hf => ?_)
    refine pt_getR C kX11 6 (by decide) tw_313 (Or.inl rfl) g13 dX11_floor_30 ?_
    refine pt_iconst C (v := 0) (by decide) dX11_floor_33 ?_
    refine ob hf (fun h14 g15 hf => ?_)
    refine pt_put C kX9 5 (by decide) tw_191 (Or.inl rfl) rfl (by decide) rfl g15 dX11_floor_34 ?_
    refine pt_iload_n C 0 rfl rfl dX11_floor_37 ?_
    exact pt_iret C (K _ _ (Option.some.inj hf).symm) (by decide) (by decide) dX11_floor_38
  · rw [if_pos c3] at hf
    refine pt_bipush C (v := (-2)) (by decide) dX11_floor_10 ?_
    exact pt_iret C (K _ _ (Option.some.inj hf).symm) (by decide) (by decide) dX11_floor_12
theorem con_X11_floor (l : Launch) (a0 : Nat) (a1 : Int32) (h : AH) (q : Int32 × AH) (hf : f_X11_floor a0 a1 h = some q) : Con l yX11_floor cX11_floor 3 (some .int) rmX11_floor [.ref a0, .int a1] h (some (.int q.1)) q.2 := Con.of (by decide +kernel) (Nat.le_of_ble_eq_true rfl) (fun X C I K => w_X11_floor_0 C a0 a1 h q hf (fun v h2 e => by cases e; exact K))
abbrev rmX11_ofLatest : Room := { frames := 0, cells := 0, slots := 0, locals := 0 }
theorem yn_X11_ofLatest : YN yX11_ofLatest 2 := by refine ⟨?_, ?_, ?_⟩ <;> decide +kernel
set_option maxRecDepth 100000 in
set_option maxHeartbeats 4000000 in
theorem w_X11_ofLatest_0 {X : MX} (C : CX X cX11_ofLatest 3 RX11 (some .int) rmX11_ofLatest) (a0 : Nat) (a1 : Nat) (a2 : Int32) (h : AH) (res : Int32 × AH) (hf : f_X11_ofLatest a0 a1 a2 h = some res) (K : ∀ (v : Int32) (h2 : AH), res = (v, h2) → PR X rmX11_ofLatest (some (.int v)) h2) : PT X 3 0 0 0 [(0, .ref a0), (1, .ref a1), (2, .int a2)] [] h := by
  unfold f_X11_ofLatest at hf
  refine pt_iload_n C 2 rfl rfl dX11_ofLatest_0 ?_
  refine pt_if_ge C (tgt := 7) (by decide) dX11_ofLatest_1 (fun c1 => ?_) (fun c1 => ?_)
  · rw [if_pos c1] at hf
    refine pt_iload_n C 2 rfl rfl dX11_ofLatest_7 ?_
    refine pt_aload_n C 0 rfl rfl dX11_ofLatest_8 ?_
    refine ob hf (fun v2 g3 hf => ?_)
    refine pt_getR C kX11 3 (by decide) tw_310 (Or.inl rfl) g3 dX11_ofLatest_9 ?_
    refine ob hf (fun v4 g5 hf => ?_)
    refine pt_getI C kX1 7 (by decide) tw_154 (Or.inl rfl) g5 dX11_ofLatest_12 ?_
    refine pt_icmp_ge C (tgt := 30) (by decide) dX11_ofLatest_15 (fun c6 => ?_) (fun c6 => ?_)
    · rw [if_pos c6] at hf
      refine pt_iconst C (v := (-1)) (by decide) dX11_ofLatest_30 ?_
      exact pt_iret C (K _ _ (Option.some.inj hf).symm) (by decide) (by decide) dX11_ofLatest_31
    · rw [if_neg c6] at hf
      refine pt_iload_n C 2 rfl rfl dX11_ofLatest_18 ?_
      refine pt_aload_n C 1 rfl rfl dX11_ofLatest_19 ?_
      refine ob hf (fun v7 g8 hf => ?_)
      refine pt_alen C g8 dX11_ofLatest_20 ?_
      refine pt_icmp_ge C (tgt := 30) (by decide) dX11_ofLatest_21 (fun c9 => ?_) (fun c9 => ?_)
      · rw [if_pos c9] at hf
        refine pt_iconst C (v := (-1)) (by decide) dX11_ofLatest_30 ?_
        exact pt_iret C (K _ _ (Option.some.inj hf).symm) (by decide) (by decide) dX11_ofLatest_31
      · rw [if_neg c9] at hf
        refine pt_aload_n C 1 rfl rfl dX11_ofLatest_24 ?_
        refine pt_iload_n C 2 rfl rfl dX11_ofLatest_25 ?_
        refine ob hf (fun v10 g11 hf => ?_)
        refine pt_iald C g11 dX11_ofLatest_26 ?_
        refine pt_goto C (tgt := 31) (by decide) dX11_ofLatest_27 ?_
        exact pt_iret C (K _ _ (Option.some.inj hf).symm) (by decide) (by decide) dX11_ofLatest_31
  · rw [if_neg c1] at hf
    refine pt_bipush C (v := (-2)) (by decide) dX11_ofLatest_4 ?_
    exact pt_iret C (K _ _ (Option.some.inj hf).symm) (by decide) (by decide) dX11_ofLatest_6
theorem con_X11_ofLatest (l : Launch) (a0 : Nat) (a1 : Nat) (a2 : Int32) (h : AH) (q : Int32 × AH) (hf : f_X11_ofLatest a0 a1 a2 h = some q) : Con l yX11_ofLatest cX11_ofLatest 3 (some .int) rmX11_ofLatest [.ref a0, .ref a1, .int a2] h (some (.int q.1)) q.2 := Con.of (by decide +kernel) (Nat.le_of_ble_eq_true rfl) (fun X C I K => w_X11_ofLatest_0 C a0 a1 a2 h q hf (fun v h2 e => by cases e; exact K))
abbrev rmX11_force : Room := { frames := 1, cells := 0, slots := 0, locals := 22 }
theorem yn_X11_force : YN yX11_force 1 := by refine ⟨?_, ?_, ?_⟩ <;> decide +kernel
set_option maxRecDepth 100000 in
set_option maxHeartbeats 4000000 in
theorem w_X11_force_0 {X : MX} (C : CX X cX11_force 2 RX11 (some .int) rmX11_force) (a0 : Nat) (a1 : Int32) (h : AH) (res : Int32 × AH) (hf : f_X11_force a0 a1 h = some res) (K : ∀ (v : Int32) (h2 : AH), res = (v, h2) → PR X rmX11_force (some (.int v)) h2) : PT X 2 0 0 0 [(0, .ref a0), (1, .int a1)] [] h := by
  unfold f_X11_force at hf
  refine pt_aload_n C 0 rfl rfl dX11_force_0 ?_
  refine pt_aload_n C 0 rfl rfl dX11_force_1 ?_
  refine ob hf (fun v1 g2 hf => ?_)
  refine pt_getR C kX11 3 (by decide) tw_310 (Or.inl rfl) g2 dX11_force_2 ?_
  refine ob hf (fun v3 g4 hf => ?_)
  refine pt_getR C kX1 3 (by decide) tw_147 (Or.inl rfl) g4 dX11_force_5 ?_
  refine pt_iload_n C 1 rfl rfl dX11_force_8 ?_
  refine ob hf (fun _ g7 hf => ?_)
  refine ob hf (fun q5 g6 hf => ?_)
  refine pt_callV C (As := [.ref v3, .int a1]) (rest := []) (v := (some (.int q5.1))) (fun l => con_X11_ofLatest l a0 v3 a1 h _ g6) tw_606 tw_603 tw_605 tp_9 kX11 g7 tw_1 yn_X11_ofLatest (by decide) (Nat.le_of_ble_eq_true rfl) dX11_force_9 rfl ?_
  show PT X 2 0 0 12 [(0, .ref a0), (1, .int a1)] [.int q5.1] q5.2
  exact pt_iret C (K _ _ (Option.some.inj hf).symm) (by decide) (by decide) dX11_force_12
theorem con_X11_force (l : Launch) (a0 : Nat) (a1 : Int32) (h : AH) (q : Int32 × AH) (hf : f_X11_force a0 a1 h = some q) : Con l yX11_force cX11_force 2 (some .int) rmX11_force [.ref a0, .int a1] h (some (.int q.1)) q.2 := Con.of (by decide +kernel) (Nat.le_of_ble_eq_true rfl) (fun X C I K => w_X11_force_0 C a0 a1 h q hf (fun v h2 e => by cases e; exact K))
abbrev rmX11_hand : Room := { frames := 1, cells := 0, slots := 0, locals := 24 }
theorem yn_X11_hand : YN yX11_hand 4 := by refine ⟨?_, ?_, ?_⟩ <;> decide +kernel
set_option maxRecDepth 100000 in
set_option maxHeartbeats 4000000 in
theorem w_X11_hand_0 {X : MX} (C : CX X cX11_hand 5 RX11 (some .int) rmX11_hand) (a0 : Nat) (a1 : Int32) (a2 : Int32) (a3 : Int32) (a4 : Int32) (h : AH) (res : Int32 × AH) (hf : f_X11_hand a0 a1 a2 a3 a4 h = some res) (K : ∀ (v : Int32) (h2 : AH), res = (v, h2) → PR X rmX11_hand (some (.int v)) h2) : PT X 5 0 0 0 [(0, .ref a0), (1, .int a1), (2, .int a2), (3, .int a3), (4, .int a4)] [] h := by
  unfold f_X11_hand at hf
  refine pt_iload_n C 1 rfl rfl dX11_hand_0 ?_
  refine pt_iconst C (v := 1) (by decide) dX11_hand_1 ?_
  refine pt_bipush C (v := 100) (by decide) dX11_hand_2 ?_
  refine ob hf (fun q1 g2 hf => ?_)
  refine pt_callS C (As := [.int a1, .int 1, .int 100]) (rest := []) (v := (some (.int q1.1))) (fun l => con_X11_within l a1 1 100 h _ g2) tw_461 tw_459 tw_460 tw_1 yn_X11_within (by decide) (Nat.le_of_ble_eq_true rfl) dX11_hand_4 rfl ?_
  show PT X 5 0 0 7 [(0, .ref a0), (1, .int a1), (2, .int a2), (3, .int a3), (4, .int a4)] [.int q1.1] q1.2
  refine pt_if_eq C (tgt := 41) (by decide) dX11_hand_7 (fun c3 => ?_) (fun c3 => ?_)
  · rw [if_pos c3] at hf
    refine pt_bipush C (v := (-2)) (by decide) dX11_hand_41 ?_
    exact pt_iret C (K _ _ (Option.some.inj hf).symm) (by decide) (by decide) dX11_hand_43
  · rw [if_neg c3] at hf
    refine pt_iload_n C 2 rfl rfl dX11_hand_10 ?_
    refine pt_iconst C (v := 0) (by decide) dX11_hand_11 ?_
    refine pt_bipush C (v := 30) (by decide) dX11_hand_12 ?_
    refine ob hf (fun q4 g5 hf => ?_)
    refine pt_callS C (As := [.int a2, .int 0, .int 30]) (rest := []) (v := (some (.int q4.1))) (fun l => con_X11_within l a2 0 30 q1.2 _ g5) tw_461 tw_459 tw_460 tw_1 yn_X11_within (by decide) (Nat.le_of_ble_eq_true rfl) dX11_hand_14 rfl ?_
    show PT X 5 0 0 17 [(0, .ref a0), (1, .int a1), (2, .int a2), (3, .int a3), (4, .int a4)] [.int q4.1] q4.2
    refine pt_if_eq C (tgt := 41) (by decide) dX11_hand_17 (fun c6 => ?_) (fun c6 => ?_)
    · rw [if_pos c6] at hf
      refine pt_bipush C (v := (-2)) (by decide) dX11_hand_41 ?_
      exact pt_iret C (K _ _ (Option.some.inj hf).symm) (by decide) (by decide) dX11_hand_43
    · rw [if_neg c6] at hf
      refine pt_iload_n C 3 rfl rfl dX11_hand_20 ?_
      refine pt_iconst C (v := 0) (by decide) dX11_hand_21 ?_
      refine pt_bipush C (v := 30) (by decide) dX11_hand_22 ?_
      refine ob hf (fun q7 g8 hf => ?_)
      refine pt_callS C (As := [.int a3, .int 0, .int 30]) (rest := []) (v := (some (.int q7.1))) (fun l => con_X11_within l a3 0 30 q4.2 _ g8) tw_461 tw_459 tw_460 tw_1 yn_X11_within (by decide) (Nat.le_of_ble_eq_true rfl) dX11_hand_24 rfl ?_
      show PT X 5 0 0 27 [(0, .ref a0), (1, .int a1), (2, .int a2), (3, .int a3), (4, .int a4)] [.int q7.1] q7.2
      refine pt_if_eq C (tgt := 41) (by decide) dX11_hand_27 (fun c9 => ?_) (fun c9 => ?_)
      · rw [if_pos c9] at hf
        refine pt_bipush C (v := (-2)) (by decide) dX11_hand_41 ?_
        exact pt_iret C (K _ _ (Option.some.inj hf).symm) (by decide) (by decide) dX11_hand_43
      · rw [if_neg c9] at hf
        refine pt_iload C 4 rfl dX11_hand_30 ?_
        refine pt_iconst C (v := 0) (by decide) dX11_hand_32 ?_
        refine pt_bipush C (v := 30) (by decide) dX11_hand_33 ?_
        refine ob hf (fun q10 g11 hf => ?_)
        refine pt_callS C (As := [.int a4, .int 0, .int 30]) (rest := []) (v := (some (.int q10.1))) (fun l => con_X11_within l a4 0 30 q7.2 _ g11) tw_461 tw_459 tw_460 tw_1 yn_X11_within (by decide) (Nat.le_of_ble_eq_true rfl) dX11_hand_35 rfl ?_
        show PT X 5 0 0 38 [(0, .ref a0), (1, .int a1), (2, .int a2), (3, .int a3), (4, .int a4)] [.int q10.1] q10.2
        refine pt_if_ne C (tgt := 44) (by decide) dX11_hand_38 (fun c12 => ?_) (fun c12 => ?_)
        · rw [if_neg c12] at hf
          refine pt_aload_n C 0 rfl rfl dX11_hand_44 ?_
          refine ob hf (fun v13 g14 hf => ?_)
          refine pt_getR C kX11 2 (by decide) tw_309 (Or.inl rfl) g14 dX11_hand_45 ?_
          refine pt_iload_n C 1 rfl rfl dX11_hand_48 ?_
          refine pt_iload_n C 2 rfl rfl dX11_hand_49 ?_
          refine pt_iload_n C 3 rfl rfl dX11_hand_50 ?_
          refine pt_iload C 4 rfl dX11_hand_51 ?_
          refine ob hf (fun _ g17 hf => ?_)
          refine ob hf (fun q15 g16 hf => ?_)
          refine pt_callV C (As := [.int a1, .int a2, .int a3, .int a4]) (rest := []) (v := (some (.int q15.1))) (fun l => con_X0_add l v13 a1 a2 a3 a4 q10.2 _ g16) tw_491 tw_488 tw_489 tw_490 kX0 g17 tw_6 yn_X0_add (by decide) (Nat.le_of_ble_eq_true rfl) dX11_hand_53 rfl ?_
          show PT X 5 0 0 56 [(0, .ref a0), (1, .int a1), (2, .int a2), (3, .int a3), (4, .int a4)] [.int q15.1] q15.2
          refine pt_if_ne C (tgt := 62) (by decide) dX11_hand_56 (fun c18 => ?_) (fun c18 => ?_)
          · rw [if_neg c18] at hf
            refine pt_aload_n C 0 rfl rfl dX11_hand_62 ?_
            refine ob hf (fun v19 g20 hf => ?_)
            refine pt_getR C kX11 6 (by decide) tw_313 (Or.inl rfl) g20 dX11_hand_63 ?_
            refine pt_iconst C (v := 0) (by decide) dX11_hand_66 ?_
            refine ob hf (fun h21 g22 hf => ?_)
            refine pt_put C kX9 5 (by decide) tw_191 (Or.inl rfl) rfl (by decide) rfl g22 dX11_hand_67 ?_
            refine pt_aload_n C 0 rfl rfl dX11_hand_70 ?_
            refine ob hf (fun v23 g24 hf => ?_)
            refine pt_getR C kX11 2 (by decide) tw_309 (Or.inl rfl) g24 dX11_hand_71 ?_
            refine ob hf (fun v25 g26 hf => ?_)
            refine pt_getI C kX0 6 (by decide) tw_106 (Or.inl rfl) g26 dX11_hand_74 ?_
            refine pt_iconst C (v := 1) (by decide) dX11_hand_77 ?_
            refine pt_isub C dX11_hand_78 ?_
            exact pt_iret C (K _ _ (Option.some.inj hf).symm) (by decide) (by decide) dX11_hand_79
          · rw [if_pos c18] at hf
            refine pt_bipush C (v := (-4)) (by decide) dX11_hand_59 ?_
            exact pt_iret C (K _ _ (Option.some.inj hf).symm) (by decide) (by decide) dX11_hand_61
        · rw [if_pos c12] at hf
          refine pt_bipush C (v := (-2)) (by decide) dX11_hand_41 ?_
          exact pt_iret C (K _ _ (Option.some.inj hf).symm) (by decide) (by decide) dX11_hand_43
theorem con_X11_hand (l : Launch) (a0 : Nat) (a1 : Int32) (a2 : Int32) (a3 : Int32) (a4 : Int32) (h : AH) (q : Int32 × AH) (hf : f_X11_hand a0 a1 a2 a3 a4 h = some q) : Con l yX11_hand cX11_hand 5 (some .int) rmX11_hand [.ref a0, .int a1, .int a2, .int a3, .int a4] h (some (.int q.1)) q.2 := Con.of (by decide +kernel) (Nat.le_of_ble_eq_true rfl) (fun X C I K => w_X11_hand_0 C a0 a1 a2 a3 a4 h q hf (fun v h2 e => by cases e; exact K))
abbrev rmX2_hangNearest : Room := { frames := 3, cells := 0, slots := 0, locals := 72 }
theorem yn_X2_hangNearest : YN yX2_hangNearest 1 := by refine ⟨?_, ?_, ?_⟩ <;> decide +kernel
set_option maxRecDepth 100000 in
set_option maxHeartbeats 4000000 in
theorem w_X2_hangNearest_L30 {X : MX} (C : CX X cX2_hangNearest 8 RX2 (some .int) rmX2_hangNearest) (x0 : Nat) (x1 : Nat) (x5 : Int32) (s : Int32 × Int32 × Int32 × Int32 × AH) (res : (Int32 × Int32 × Int32 × Int32 × AH) ⊕ ((Int32 × Int32 × Int32 × AH))) (hf : f_X2_hangNearest_L30 x0 x1 x5 s = some res) (K0 : ∀ (u2 : Int32) (u3 : Int32) (u4 : Int32) (u6 : Int32) (hu : AH), res = .inl (u2, u3, u4, u6, hu) → PT X 8 0 0 30 [(0, .ref x0), (1, .ref x1), (2, .int u2), (3, .int u3), (4, .int u4), (5, .int x5), (6, .int u6)] [] hu) (K1 : ∀ (u2 : Int32) (u3 : Int32) (u4 : Int32) (hu : AH), res = .inr ((u2, u3, u4, hu)) → PT X 8 0 0 112 [(0, .ref x0), (1, .ref x1), (2, .int u2), (3, .int u3), (4, .int u4), (5, .int x5)] [] hu) : PT X 8 0 0 30 [(0, .ref x0), (1, .ref x1), (2, .int s.1), (3, .int s.2.1), (4, .int s.2.2.1), (5, .int x5), (6, .int s.2.2.2.1)] [] s.2.2.2.2 := by
  unfold f_X2_hangNearest_L30 at hf
  refine pt_iload C 6 rfl dX2_hangNearest_30 ?_
  refine pt_aload_n C 1 rfl rfl dX2_hangNearest_32 ?_
  refine ob hf (fun _ g8 hf => ?_)
  refine ob hf (fun q6 g7 hf => ?_)
  refine pt_callV C (As := []) (rest := [.int s.2.2.2.1]) (v := (some (.int q6.1))) (fun l => con_Jx4a65c_size_8abf5 l x1 s.2.2.2.2 _ g7) tw_363 tw_850 tw_361 tw_362 kJx4a65c g8 tw_5 yn_Jx4a65c_size_8abf5 (by decide) (Nat.le_of_ble_eq_true rfl) dX2_hangNearest_33 rfl ?_
  show PT X 8 0 0 36 [(0, .ref x0), (1, .ref x1), (2, .int s.1), (3, .int s.2.1), (4, .int s.2.2.1), (5, .int x5), (6, .int s.2.2.2.1)] [.int q6.1, .int s.2.2.2.1] q6.2
  refine pt_icmp_ge C (tgt := 112) (by decide) dX2_hangNearest_36 (fun c9 => ?_) (fun c9 => ?_)
  · rw [if_pos c9] at hf
    refine pt_sub C [(0, .ref x0), (1, .ref x1), (2, .int s.1), (3, .int s.2.1), (4, .int s.2.2.1), (5, .int x5)] [0, 1, 2, 3, 4, 5] rfl ?_
    exact K1 _ _ _ _ (Option.some.inj hf).symm
  · rw [if_neg c9] at hf
    refine pt_iload C 6 rfl dX2_hangNearest_39 ?_
    refine pt_bipush C (v := 6) (by decide) dX2_hangNearest_41 ?_
    refine pt_icmp_ge C (tgt := 112) (by decide) dX2_hangNearest_43 (fun c10 => ?_) (fun c10 => ?_)
    · rw [if_pos c10] at hf
      refine pt_sub C [(0, .ref x0), (1, .ref x1), (2, .int s.1), (3, .int s.2.1), (4, .int s.2.2.1), (5, .int x5)] [0, 1, 2, 3, 4, 5] rfl ?_
      exact K1 _ _ _ _ (Option.some.inj hf).symm
    · rw [if_neg c10] at hf
      refine pt_aload_n C 0 rfl rfl dX2_hangNearest_46 ?_
      refine ob hf (fun v11 g12 hf => ?_)
      refine pt_getR C kX2 2 (by decide) tw_298 (Or.inl rfl) g12 dX2_hangNearest_47 ?_
      refine pt_iload C 5 rfl dX2_hangNearest_50 ?_
      refine ob hf (fun v13 g14 hf => ?_)
      refine pt_zald C g14 dX2_hangNearest_52 ?_
      refine pt_if_ne C (tgt := 106) (by decide) dX2_hangNearest_53 (fun c15 => ?_) (fun c15 => ?_)
      · rw [if_neg c15] at hf
        refine pt_iinc C 6 [(6, .int (s.2.2.2.1 + 1)), (0, .ref x0), (1, .ref x1), (2, .int s.1), (3, .int s.2.1), (4, .int s.2.2.1), (5, .int x5)] rfl (iinc_eq s.2.2.2.1 (by decide)) (by decide) rfl dX2_hangNearest_106 ?_
        refine pt_goto C (tgt := 30) (by decide) dX2_hangNearest_109 ?_
        refine pt_sub C [(0, .ref x0), (1, .ref x1), (2, .int s.1), (3, .int s.2.1), (4, .int s.2.2.1), (5, .int x5), (6, .int (s.2.2.2.1 + 1))] [1, 2, 3, 4, 5, 6, 0] rfl ?_
        exact K0 _ _ _ _ _ (Option.some.inj hf).symm
      · rw [if_pos c15] at hf
        refine pt_aload_n C 0 rfl rfl dX2_hangNearest_56 ?_
        refine ob hf (fun v16 g17 hf => ?_)
        refine pt_getR C kX2 2 (by decide) tw_298 (Or.inl rfl) g17 dX2_hangNearest_57 ?_
        refine pt_iload C 6 rfl dX2_hangNearest_60 ?_
        refine ob hf (fun v18 g19 hf => ?_)
        refine pt_zald C g19 dX2_hangNearest_62 ?_
        refine pt_if_eq C (tgt := 106) (by decide) dX2_hangNearest_63 (fun c20 => ?_) (fun c20 => ?_)
        · rw [if_pos c20] at hf
          refine pt_iinc C 6 [(6, .int (s.2.2.2.1 + 1)), (0, .ref x0), (1, .ref x1), (2, .int s.1), (3, .int s.2.1), (4, .int s.2.2.1), (5, .int x5)] rfl (iinc_eq s.2.2.2.1 (by decide)) (by decide) rfl dX2_hangNearest_106 ?_
          refine pt_goto C (tgt := 30) (by decide) dX2_hangNearest_109 ?_
          refine pt_sub C [(0, .ref x0), (1, .ref x1), (2, .int s.1), (3, .int s.2.1), (4, .int s.2.2.1), (5, .int x5), (6, .int (s.2.2.2.1 + 1))] [1, 2, 3, 4, 5, 6, 0] rfl ?_
          exact K0 _ _ _ _ _ (Option.some.inj hf).symm
        · rw [if_neg c20] at hf
          refine pt_aload_n C 0 rfl rfl dX2_hangNearest_66 ?_
          refine pt_aload_n C 1 rfl rfl dX2_hangNearest_67 ?_
          refine pt_iload C 5 rfl dX2_hangNearest_68 ?_
          refine ob hf (fun _ g23 hf => ?_)
          refine ob hf (fun q21 g22 hf => ?_)
          refine pt_callV C (As := [.int x5]) (rest := [.ref x0]) (v := (some (.ref q21.1))) (fun l => con_Jx4a65c_get_915e3 l x1 x5 q6.2 _ g22) tw_465 tw_856 tw_463 tw_464 kJx4a65c g23 tw_5 yn_Jx4a65c_get_915e3 (by decide) (Nat.le_of_ble_eq_true rfl) dX2_hangNearest_70 rfl ?_
          show PT X 8 0 0 73 [(0, .ref x0), (1, .ref x1), (2, .int s.1), (3, .int s.2.1), (4, .int s.2.2.1), (5, .int x5), (6, .int s.2.2.2.1)] [.ref q21.1, .ref x0] q21.2
          refine ob hf (fun _ g24 hf => ?_)
          refine pt_cast C kX7 tw_857 g24 dX2_hangNearest_73 ?_
          refine pt_aload_n C 1 rfl rfl dX2_hangNearest_76 ?_
          refine pt_iload C 6 rfl dX2_hangNearest_77 ?_
          refine ob hf (fun _ g27 hf => ?_)
          refine ob hf (fun q25 g26 hf => ?_)
          refine pt_callV C (As := [.int s.2.2.2.1]) (rest := [.ref q21.1, .ref x0]) (v := (some (.ref q25.1))) (fun l => con_Jx4a65c_get_915e3 l x1 s.2.2.2.1 q21.2 _ g26) tw_465 tw_856 tw_463 tw_464 kJx4a65c g27 tw_5 yn_Jx4a65c_get_915e3 (by decide) (Nat.le_of_ble_eq_true rfl) dX2_hangNearest_79 rfl ?_
          show PT X 8 0 0 82 [(0, .ref x0), (1, .ref x1), (2, .int s.1), (3, .int s.2.1), (4, .int s.2.2.1), (5, .int x5), (6, .int s.2.2.2.1)] [.ref q25.1, .ref q21.1, .ref x0] q25.2
          refine ob hf (fun _ g28 hf => ?_)
          refine pt_cast C kX7 tw_857 g28 dX2_hangNearest_82 ?_
          refine ob hf (fun _ g31 hf => ?_)
          refine ob hf (fun q29 g30 hf => ?_)
          refine pt_callV C (As := [.ref q21.1, .ref q25.1]) (rest := []) (v := (some (.int q29.1))) (fun l => con_X2_distance l x0 q21.1 q25.1 q25.2 _ g30) tw_836 tw_858 tw_834 tw_835 kX2 g31 tw_12 yn_X2_distance (by decide) (Nat.le_of_ble_eq_true rfl) dX2_hangNearest_85 rfl ?_
          show PT X 8 0 0 88 [(0, .ref x0), (1, .ref x1), (2, .int s.1), (3, .int s.2.1), (4, .int s.2.2.1), (5, .int x5), (6, .int s.2.2.2.1)] [.int q29.1] q29.2
          refine pt_istore C [(7, .int q29.1), (0, .ref x0), (1, .ref x1), (2, .int s.1), (3, .int s.2.1), (4, .int s.2.2.1), (5, .int x5), (6, .int s.2.2.2.1)] (by decide) rfl dX2_hangNearest_88 ?_
          refine pt_iload C 0 rfl dX2_hangNearest_90 ?_
          refine pt_iload_n C 3 rfl rfl dX2_hangNearest_92 ?_
          refine pt_icmp_ge C (tgt := 106) (by decide) dX2_hangNearest_93 (fun c32 => ?_) (fun c32 => ?_)
          · rw [if_pos c32] at hf
            refine pt_iinc C 7 [(6, .int (s.2.2.2.1 + 1)), (7, .int q29.1), (0, .ref x0), (1, .ref x1), (2, .int s.1), (3, .int s.2.1), (4, .int s.2.2.1), (5, .int x5)] rfl (iinc_eq s.2.2.2.1 (by decide)) (by decide) rfl dX2_hangNearest_106 ?_
            refine pt_goto C (tgt := 30) (by decide) dX2_hangNearest_109 ?_
            refine pt_sub C [(0, .ref x0), (1, .ref x1), (2, .int s.1), (3, .int s.2.1), (4, .int s.2.2.1), (5, .int x5), (6, .int (s.2.2.2.1 + 1))] [2, 3, 4, 5, 6, 7, 0] rfl ?_
            exact K0 _ _ _ _ _ (Option.some.inj hf).symm
          · rw [if_neg c32] at hf
            refine pt_iload C 0 rfl dX2_hangNearest_96 ?_
            refine pt_istore_n C [(2, .int q29.1), (7, .int q29.1), (0, .ref x0), (1, .ref x1), (3, .int s.2.1), (4, .int s.2.2.1), (5, .int x5), (6, .int s.2.2.2.1)] rfl (by decide) rfl dX2_hangNearest_98 ?_
            refine pt_iload C 6 rfl dX2_hangNearest_99 ?_
            refine pt_istore_n C [(3, .int x5), (2, .int q29.1), (7, .int q29.1), (0, .ref x0), (1, .ref x1), (4, .int s.2.2.1), (5, .int x5), (6, .int s.2.2.2.1)] rfl (by decide) rfl dX2_hangNearest_101 ?_
            refine pt_iload C 7 rfl dX2_hangNearest_102 ?_
            refine pt_istore C [(4, .int s.2.2.2.1), (3, .int x5), (2, .int q29.1), (7, .int q29.1), (0, .ref x0), (1, .ref x1), (5, .int x5), (6, .int s.2.2.2.1)] (by decide) rfl dX2_hangNearest_104 ?_
            refine pt_iinc C 7 [(6, .int (s.2.2.2.1 + 1)), (4, .int s.2.2.2.1), (3, .int x5), (2, .int q29.1), (7, .int q29.1), (0, .ref x0), (1, .ref x1), (5, .int x5)] rfl (iinc_eq s.2.2.2.1 (by decide)) (by decide) rfl dX2_hangNearest_106 ?_
            refine pt_goto C (tgt := 30) (by decide) dX2_hangNearest_109 ?_
            refine pt_sub C [(0, .ref x0), (1, .ref x1), (2, .int q29.1), (3, .int x5), (4, .int s.2.2.2.1), (5, .int x5), (6, .int (s.2.2.2.1 + 1))] [5, 6, 3, 2, 1, 7, 0] rfl ?_
            exact K0 _ _ _ _ _ (Option.some.inj hf).symm
theorem l_X2_hangNearest_L30 {X : MX} (C : CX X cX2_hangNearest 8 RX2 (some .int) rmX2_hangNearest) (x0 : Nat) (x1 : Nat) (x5 : Int32) : ∀ (n : Nat) (s : Int32 × Int32 × Int32 × Int32 × AH) (r : (Int32 × Int32 × Int32 × AH)), iter (f_X2_hangNearest_L30 x0 x1 x5) n s = some r → (fun r : (Int32 × Int32 × Int32 × AH) => PT X 8 0 0 112 [(0, .ref x0), (1, .ref x1), (2, .int r.1), (3, .int r.2.1), (4, .int r.2.2.1), (5, .int x5)] [] r.2.2.2) r → PT X 8 0 0 30 [(0, .ref x0), (1, .ref x1), (2, .int s.1), (3, .int s.2.1), (4, .int s.2.2.1), (5, .int x5), (6, .int s.2.2.2.1)] [] s.2.2.2.2 :=
  iter_W (fun s : Int32 × Int32 × Int32 × Int32 × AH => PT X 8 0 0 30 [(0, .ref x0), (1, .ref x1), (2, .int s.1), (3, .int s.2.1), (4, .int s.2.2.1), (5, .int x5), (6, .int s.2.2.2.1)] [] s.2.2.2.2) (fun r : (Int32 × Int32 × Int32 × AH) => PT X 8 0 0 112 [(0, .ref x0), (1, .ref x1), (2, .int r.1), (3, .int r.2.1), (4, .int r.2.2.1), (5, .int x5)] [] r.2.2.2) _ (fun s s2 hf P => w_X2_hangNearest_L30 C x0 x1 x5 s _ hf (fun u2 u3 u4 u6 hu e => by cases e; exact P) (fun u2 u3 u4 hu e => by cases e)) (fun s r hf P => w_X2_hangNearest_L30 C x0 x1 x5 s _ hf (fun u2 u3 u4 u6 hu e => by cases e) (fun u2 u3 u4 hu e => by cases e; exact P))
set_option maxRecDepth 100000 in
set_option maxHeartbeats 4000000 in
theorem w_X2_hangNearest_L11 {X : MX} (C : CX X cX2_hangNearest 8 RX2 (some .int) rmX2_hangNearest) (x0 : Nat) (x1 : Nat) (s : Int32 × Int32 × Int32 × Int32 × AH) (res : (Int32 × Int32 × Int32 × Int32 × AH) ⊕ ((Int32 × Int32 × Int32 × AH))) (hf : f_X2_hangNearest_L11 x0 x1 s = some res) (K0 : ∀ (u2 : Int32) (u3 : Int32) (u4 : Int32) (u5 : Int32) (hu : AH), res = .inl (u2, u3, u4, u5, hu) → PT X 8 0 0 11 [(0, .ref x0), (1, .ref x1), (2, .int u2), (3, .int u3), (4, .int u4), (5, .int u5)] [] hu) (K1 : ∀ (u2 : Int32) (u3 : Int32) (u4 : Int32) (hu : AH), res = .inr ((u2, u3, u4, hu)) → PT X 8 0 0 118 [(0, .ref x0), (2, .int u2), (3, .int u3), (4, .int u4)] [] hu) : PT X 8 0 0 11 [(0, .ref x0), (1, .ref x1), (2, .int s.1), (3, .int s.2.1), (4, .int s.2.2.1), (5, .int s.2.2.2.1)] [] s.2.2.2.2 := by
  unfold f_X2_hangNearest_L11 at hf
  refine pt_iload C 5 rfl dX2_hangNearest_11 ?_
  refine pt_aload_n C 1 rfl rfl dX2_hangNearest_13 ?_
  refine ob hf (fun _ g3 hf => ?_)
  refine ob hf (fun q1 g2 hf => ?_)
  refine pt_callV C (As := []) (rest := [.int s.2.2.2.1]) (v := (some (.int q1.1))) (fun l => con_Jx4a65c_size_8abf5 l x1 s.2.2.2.2 _ g2) tw_363 tw_850 tw_361 tw_362 kJx4a65c g3 tw_5 yn_Jx4a65c_size_8abf5 (by decide) (Nat.le_of_ble_eq_true rfl) dX2_hangNearest_14 rfl ?_
  show PT X 8 0 0 17 [(0, .ref x0), (1, .ref x1), (2, .int s.1), (3, .int s.2.1), (4, .int s.2.2.1), (5, .int s.2.2.2.1)] [.int q1.1, .int s.2.2.2.1] q1.2
  refine pt_icmp_ge C (tgt := 118) (by decide) dX2_hangNearest_17 (fun c4 => ?_) (fun c4 => ?_)
  · rw [if_pos c4] at hf
    refine pt_sub C [(0, .ref x0), (2, .int s.1), (3, .int s.2.1), (4, .int s.2.2.1)] [0, 2, 3, 4] rfl ?_
    exact K1 _ _ _ _ (Option.some.inj hf).symm
  · rw [if_neg c4] at hf
    refine pt_iload C 5 rfl dX2_hangNearest_20 ?_
    refine pt_bipush C (v := 6) (by decide) dX2_hangNearest_22 ?_
    refine pt_icmp_ge C (tgt := 118) (by decide) dX2_hangNearest_24 (fun c5 => ?_) (fun c5 => ?_)
    · rw [if_pos c5] at hf
      refine pt_sub C [(0, .ref x0), (2, .int s.1), (3, .int s.2.1), (4, .int s.2.2.1)] [0, 2, 3, 4] rfl ?_
      exact K1 _ _ _ _ (Option.some.inj hf).symm
    · rw [if_neg c5] at hf
      refine pt_iconst C (v := 0) (by decide) dX2_hangNearest_27 ?_
      refine pt_istore C [(6, .int 0), (0, .ref x0), (1, .ref x1), (2, .int s.1), (3, .int s.2.1), (4, .int s.2.2.1), (5, .int s.2.2.2.1)] (by decide) rfl dX2_hangNearest_28 ?_
      refine pt_sub C [(0, .ref x0), (1, .ref x1), (2, .int s.1), (3, .int s.2.1), (4, .int s.2.2.1), (5, .int s.2.2.2.1), (6, .int 0)] [1, 2, 3, 4, 5, 6, 0] rfl ?_
      refine ob hf (fun e33 g34 hf => ?_)
      refine l_X2_hangNearest_L30 C x0 x1 s.2.2.2.1 _ _ _ g34 ?_
      refine pt_iinc C 5 [(5, .int (s.2.2.2.1 + 1)), (0, .ref x0), (1, .ref x1), (2, .int e33.1), (3, .int e33.2.1), (4, .int e33.2.2.1)] rfl (iinc_eq s.2.2.2.1 (by decide)) (by decide) rfl dX2_hangNearest_112 ?_
      refine pt_goto C (tgt := 11) (by decide) dX2_hangNearest_115 ?_
      refine pt_sub C [(0, .ref x0), (1, .ref x1), (2, .int e33.1), (3, .int e33.2.1), (4, .int e33.2.2.1), (5, .int (s.2.2.2.1 + 1))] [1, 2, 3, 4, 5, 0] rfl ?_
      exact K0 _ _ _ _ _ (Option.some.inj hf).symm
theorem l_X2_hangNearest_L11 {X : MX} (C : CX X cX2_hangNearest 8 RX2 (some .int) rmX2_hangNearest) (x0 : Nat) (x1 : Nat) : ∀ (n : Nat) (s : Int32 × Int32 × Int32 × Int32 × AH) (r : (Int32 × Int32 × Int32 × AH)), iter (f_X2_hangNearest_L11 x0 x1) n s = some r → (fun r : (Int32 × Int32 × Int32 × AH) => PT X 8 0 0 118 [(0, .ref x0), (2, .int r.1), (3, .int r.2.1), (4, .int r.2.2.1)] [] r.2.2.2) r → PT X 8 0 0 11 [(0, .ref x0), (1, .ref x1), (2, .int s.1), (3, .int s.2.1), (4, .int s.2.2.1), (5, .int s.2.2.2.1)] [] s.2.2.2.2 :=
  iter_W (fun s : Int32 × Int32 × Int32 × Int32 × AH => PT X 8 0 0 11 [(0, .ref x0), (1, .ref x1), (2, .int s.1), (3, .int s.2.1), (4, .int s.2.2.1), (5, .int s.2.2.2.1)] [] s.2.2.2.2) (fun r : (Int32 × Int32 × Int32 × AH) => PT X 8 0 0 118 [(0, .ref x0), (2, .int r.1), (3, .int r.2.1), (4, .int r.2.2.1)] [] r.2.2.2) _ (fun s s2 hf P => w_X2_hangNearest_L11 C x0 x1 s _ hf (fun u2 u3 u4 u5 hu e => by cases e; exact P) (fun u2 u3 u4 hu e => by cases e)) (fun s r hf P => w_X2_hangNearest_L11 C x0 x1 s _ hf (fun u2 u3 u4 u5 hu e => by cases e) (fun u2 u3 u4 hu e => by cases e; exact P))
set_option maxRecDepth 100000 in
set_option maxHeartbeats 4000000 in
theorem w_X2_hangNearest_0 {X : MX} (C : CX X cX2_hangNearest 8 RX2 (some .int) rmX2_hangNearest) (a0 : Nat) (a1 : Nat) (h : AH) (res : Int32 × AH) (hf : f_X2_hangNearest a0 a1 h = some res) (K : ∀ (v : Int32) (h2 : AH), res = (v, h2) → PR X rmX2_hangNearest (some (.int v)) h2) : PT X 8 0 0 0 [(0, .ref a0), (1, .ref a1)] [] h := by
  unfold f_X2_hangNearest at hf
  refine pt_ldc C tw_855 dX2_hangNearest_0 ?_
  refine pt_istore_n C [(2, .int 1000000000), (0, .ref a0), (1, .ref a1)] rfl (by decide) rfl dX2_hangNearest_2 ?_
  refine pt_iconst C (v := 0) (by decide) dX2_hangNearest_3 ?_
  refine pt_istore_n C [(3, .int 0), (2, .int 1000000000), (0, .ref a0), (1, .ref a1)] rfl (by decide) rfl dX2_hangNearest_4 ?_
  refine pt_iconst C (v := (-1)) (by decide) dX2_hangNearest_5 ?_
  refine pt_istore C [(4, .int (-1)), (3, .int 0), (2, .int 1000000000), (0, .ref a0), (1, .ref a1)] (by decide) rfl dX2_hangNearest_6 ?_
  refine pt_iconst C (v := 0) (by decide) dX2_hangNearest_8 ?_
  refine pt_istore C [(5, .int 0), (4, .int (-1)), (3, .int 0), (2, .int 1000000000), (0, .ref a0), (1, .ref a1)] (by decide) rfl dX2_hangNearest_9 ?_
  refine pt_sub C [(0, .ref a0), (1, .ref a1), (2, .int 1000000000), (3, .int 0), (4, .int (-1)), (5, .int 0)] [4, 5, 3, 2, 1, 0] rfl ?_
  refine ob hf (fun e35 g36 hf => ?_)
  refine l_X2_hangNearest_L11 C a0 a1 _ _ _ g36 ?_
  refine pt_aload_n C 0 rfl rfl dX2_hangNearest_118 ?_
  refine ob hf (fun v37 g38 hf => ?_)
  refine pt_getR C kX2 2 (by decide) tw_298 (Or.inl rfl) g38 dX2_hangNearest_119 ?_
  refine pt_iload_n C 2 rfl rfl dX2_hangNearest_122 ?_
  refine pt_iconst C (v := 1) (by decide) dX2_hangNearest_123 ?_
  refine ob hf (fun h39 g40 hf => ?_)
  refine pt_zast C (by decide) g40 dX2_hangNearest_124 ?_
  refine pt_aload_n C 0 rfl rfl dX2_hangNearest_125 ?_
  refine ob hf (fun v41 g42 hf => ?_)
  refine pt_getR C kX2 1 (by decide) tw_296 (Or.inl rfl) g42 dX2_hangNearest_126 ?_
  refine pt_iload_n C 2 rfl rfl dX2_hangNearest_129 ?_
  refine pt_iload C 3 rfl dX2_hangNearest_130 ?_
  refine ob hf (fun h43 g44 hf => ?_)
  refine pt_iast C g44 dX2_hangNearest_132 ?_
  refine pt_iload_n C 1 rfl rfl dX2_hangNearest_133 ?_
  exact pt_iret C (K _ _ (Option.some.inj hf).symm) (by decide) (by decide) dX2_hangNearest_134
theorem con_X2_hangNearest (l : Launch) (a0 : Nat) (a1 : Nat) (h : AH) (q : Int32 × AH) (hf : f_X2_hangNearest a0 a1 h = some q) : Con l yX2_hangNearest cX2_hangNearest 8 (some .int) rmX2_hangNearest [.ref a0, .ref a1] h (some (.int q.1)) q.2 := Con.of (by decide +kernel) (Nat.le_of_ble_eq_true rfl) (fun X C I K => w_X2_hangNearest_0 C a0 a1 h q hf (fun v h2 e => by cases e; exact K))
abbrev rmX2_growTree : Room := { frames := 4, cells := 0, slots := 0, locals := 99 }
theorem yn_X2_growTree : YN yX2_growTree 1 := by refine ⟨?_, ?_, ?_⟩ <;> decide +kernel
set_option maxRecDepth 100000 in
set_option maxHeartbeats 4000000 in
theorem w_X2_growTree_L2_J22 {X : MX} (C : CX X cX2_growTree 4 RX2 (some .int) rmX2_growTree) (x0 : Nat) (x1 : Nat) (y2 : Int32) (z0 : Int32) (z1 : Int32) (z2 : Nat) (h : AH) (res : (Int32 × AH) ⊕ ((AH))) (hf : f_X2_growTree_L2_J22 x0 x1 y2 z0 z1 z2 h = some res) (K0 : ∀ (u2 : Int32) (hu : AH), res = .inl (u2, hu) → PT X 4 0 0 2 [(0, .ref x0), (1, .ref x1), (2, .int u2)] [] hu) (K1 : ∀ (hu : AH), res = .inr (hu) → PT X 4 0 0 36 [(0, .ref x0), (1, .ref x1)] [] hu) : PT X 4 0 0 22 [(0, .ref x0), (1, .ref x1), (2, .int y2)] [.int z0, .int z1, .ref z2] h := by
  unfold f_X2_growTree_L2_J22 at hf
  refine ob hf (fun _ g7 hf => ?_)
  refine ob hf (fun h5 g6 hf => ?_)
  refine pt_zast C (hzb_spec g7) g6 dX2_growTree_22 ?_
  refine pt_aload_n C 0 rfl rfl dX2_growTree_23 ?_
  refine ob hf (fun v8 g9 hf => ?_)
  refine pt_getR C kX2 1 (by decide) tw_296 (Or.inl rfl) g9 dX2_growTree_24 ?_
  refine pt_iload_n C 2 rfl rfl dX2_growTree_27 ?_
  refine pt_iconst C (v := (-1)) (by decide) dX2_growTree_28 ?_
  refine ob hf (fun h10 g11 hf => ?_)
  refine pt_iast C g11 dX2_growTree_29 ?_
  refine pt_iinc C 2 [(2, .int (y2 + 1)), (0, .ref x0), (1, .ref x1)] rfl (iinc_eq y2 (by decide)) (by decide) rfl dX2_growTree_30 ?_
  refine pt_goto C (tgt := 2) (by decide) dX2_growTree_33 ?_
  refine pt_sub C [(0, .ref x0), (1, .ref x1), (2, .int (y2 + 1))] [1, 2, 0] rfl ?_
  exact K0 _ _ (Option.some.inj hf).symm
set_option maxRecDepth 100000 in
set_option maxHeartbeats 4000000 in
theorem w_X2_growTree_L2 {X : MX} (C : CX X cX2_growTree 4 RX2 (some .int) rmX2_growTree) (x0 : Nat) (x1 : Nat) (s : Int32 × AH) (res : (Int32 × AH) ⊕ ((AH))) (hf : f_X2_growTree_L2 x0 x1 s = some res) (K0 : ∀ (u2 : Int32) (hu : AH), res = .inl (u2, hu) → PT X 4 0 0 2 [(0, .ref x0), (1, .ref x1), (2, .int u2)] [] hu) (K1 : ∀ (hu : AH), res = .inr (hu) → PT X 4 0 0 36 [(0, .ref x0), (1, .ref x1)] [] hu) : PT X 4 0 0 2 [(0, .ref x0), (1, .ref x1), (2, .int s.1)] [] s.2 := by
  unfold f_X2_growTree_L2 at hf
  refine pt_iload_n C 2 rfl rfl dX2_growTree_2 ?_
  refine pt_bipush C (v := 6) (by decide) dX2_growTree_3 ?_
  refine pt_icmp_ge C (tgt := 36) (by decide) dX2_growTree_5 (fun c1 => ?_) (fun c1 => ?_)
  · rw [if_pos c1] at hf
    refine pt_sub C [(0, .ref x0), (1, .ref x1)] [0, 1] rfl ?_
    exact K1 _ (Option.some.inj hf).symm
  · rw [if_neg c1] at hf
    refine pt_aload_n C 0 rfl rfl dX2_growTree_8 ?_
    refine ob hf (fun v2 g3 hf => ?_)
    refine pt_getR C kX2 2 (by decide) tw_298 (Or.inl rfl) g3 dX2_growTree_9 ?_
    refine pt_iload_n C 2 rfl rfl dX2_growTree_12 ?_
    refine pt_iload_n C 2 rfl rfl dX2_growTree_13 ?_
    refine pt_if_ne C (tgt := 21) (by decide) dX2_growTree_14 (fun c4 => ?_) (fun c4 => ?_)
    · rw [if_neg c4] at hf
      refine pt_iconst C (v := 0) (by decide) dX2_growTree_21 ?_
      exact w_X2_growTree_L2_J22 C x0 x1 s.1 0 s.1 v2 s.2 _ hf K0 K1
    · rw [if_pos c4] at hf
      refine pt_iconst C (v := 1) (by decide) dX2_growTree_17 ?_
      refine pt_goto C (tgt := 22) (by decide) dX2_growTree_18 ?_
      exact w_X2_growTree_L2_J22 C x0 x1 s.1 1 s.1 v2 s.2 _ hf K0 K1
theorem l_X2_growTree_L2 {X : MX} (C : CX X cX2_growTree 4 RX2 (some .int) rmX2_growTree) (x0 : Nat) (x1 : Nat) : ∀ (n : Nat) (s : Int32 × AH) (r : (AH)), iter (f_X2_growTree_L2 x0 x1) n s = some r → (fun r : (AH) => PT X 4 0 0 36 [(0, .ref x0), (1, .ref x1)] [] r) r → PT X 4 0 0 2 [(0, .ref x0), (1, .ref x1), (2, .int s.1)] [] s.2 :=
  iter_W (fun s : Int32 × AH => PT X 4 0 0 2 [(0, .ref x0), (1, .ref x1), (2, .int s.1)] [] s.2) (fun r : (AH) => PT X 4 0 0 36 [(0, .ref x0), (1, .ref x1)] [] r) _ (fun s s2 hf P => w_X2_growTree_L2 C x0 x1 s _ hf (fun u2 hu e => by cases e; exact P) (fun hu e => by cases e)) (fun s r hf P => w_X2_growTree_L2 C x0 x1 s _ hf (fun u2 hu e => by cases e) (fun hu e => by cases e; exact P))
set_option maxRecDepth 100000 in
set_option maxHeartbeats 4000000 in
theorem w_X2_growTree_L40 {X : MX} (C : CX X cX2_growTree 4 RX2 (some .int) rmX2_growTree) (x0 : Nat) (x1 : Nat) (s : Int32 × Int32 × AH) (res : (Int32 × Int32 × AH) ⊕ ((Int32 × AH))) (hf : f_X2_growTree_L40 x0 x1 s = some res) (K0 : ∀ (u2 : Int32) (u3 : Int32) (hu : AH), res = .inl (u2, u3, hu) → PT X 4 0 0 40 [(0, .ref x0), (1, .ref x1), (2, .int u2), (3, .int u3)] [] hu) (K1 : ∀ (u2 : Int32) (hu : AH), res = .inr ((u2, hu)) → PT X 4 0 0 62 [(2, .int u2)] [] hu) : PT X 4 0 0 40 [(0, .ref x0), (1, .ref x1), (2, .int s.1), (3, .int s.2.1)] [] s.2.2 := by
  unfold f_X2_growTree_L40 at hf
  refine pt_iload_n C 3 rfl rfl dX2_growTree_40 ?_
  refine pt_aload_n C 1 rfl rfl dX2_growTree_41 ?_
  refine ob hf (fun _ g16 hf => ?_)
  refine ob hf (fun q14 g15 hf => ?_)
  refine pt_callV C (As := []) (rest := [.int s.2.1]) (v := (some (.int q14.1))) (fun l => con_Jx4a65c_size_8abf5 l x1 s.2.2 _ g15) tw_363 tw_850 tw_361 tw_362 kJx4a65c g16 tw_5 yn_Jx4a65c_size_8abf5 (by decide) (Nat.le_of_ble_eq_true rfl) dX2_growTree_42 rfl ?_
  show PT X 4 0 0 45 [(0, .ref x0), (1, .ref x1), (2, .int s.1), (3, .int s.2.1)] [.int q14.1, .int s.2.1] q14.2
  refine pt_icmp_ge C (tgt := 62) (by decide) dX2_growTree_45 (fun c17 => ?_) (fun c17 => ?_)
  · rw [if_pos c17] at hf
    refine pt_sub C [(2, .int s.1)] [2] rfl ?_
    exact K1 _ _ (Option.some.inj hf).symm
  · rw [if_neg c17] at hf
    refine pt_iload_n C 2 rfl rfl dX2_growTree_48 ?_
    refine pt_aload_n C 0 rfl rfl dX2_growTree_49 ?_
    refine pt_aload_n C 1 rfl rfl dX2_growTree_50 ?_
    refine ob hf (fun _ g20 hf => ?_)
    refine ob hf (fun q18 g19 hf => ?_)
    refine pt_callV C (As := [.ref x1]) (rest := [.int s.1]) (v := (some (.int q18.1))) (fun l => con_X2_hangNearest l x0 x1 q14.2 _ g19) tw_854 tw_851 tw_853 tp_21 kX2 g20 tw_12 yn_X2_hangNearest (by decide) (Nat.le_of_ble_eq_true rfl) dX2_growTree_51 rfl ?_
    show PT X 4 0 0 54 [(0, .ref x0), (1, .ref x1), (2, .int s.1), (3, .int s.2.1)] [.int q18.1, .int s.1] q18.2
    refine pt_iadd C dX2_growTree_54 ?_
    refine pt_istore_n C [(2, .int (s.1 + q18.1)), (0, .ref x0), (1, .ref x1), (3, .int s.2.1)] rfl (by decide) rfl dX2_growTree_55 ?_
    refine pt_iinc C 3 [(3, .int (s.2.1 + 1)), (2, .int (s.1 + q18.1)), (0, .ref x0), (1, .ref x1)] rfl (iinc_eq s.2.1 (by decide)) (by decide) rfl dX2_growTree_56 ?_
    refine pt_goto C (tgt := 40) (by decide) dX2_growTree_59 ?_
    refine pt_sub C [(0, .ref x0), (1, .ref x1), (2, .int (s.1 + q18.1)), (3, .int (s.2.1 + 1))] [2, 3, 1, 0] rfl ?_
    exact K0 _ _ _ (Option.some.inj hf).symm
theorem l_X2_growTree_L40 {X : MX} (C : CX X cX2_growTree 4 RX2 (some .int) rmX2_growTree) (x0 : Nat) (x1 : Nat) : ∀ (n : Nat) (s : Int32 × Int32 × AH) (r : (Int32 × AH)), iter (f_X2_growTree_L40 x0 x1) n s = some r → (fun r : (Int32 × AH) => PT X 4 0 0 62 [(2, .int r.1)] [] r.2) r → PT X 4 0 0 40 [(0, .ref x0), (1, .ref x1), (2, .int s.1), (3, .int s.2.1)] [] s.2.2 :=
  iter_W (fun s : Int32 × Int32 × AH => PT X 4 0 0 40 [(0, .ref x0), (1, .ref x1), (2, .int s.1), (3, .int s.2.1)] [] s.2.2) (fun r : (Int32 × AH) => PT X 4 0 0 62 [(2, .int r.1)] [] r.2) _ (fun s s2 hf P => w_X2_growTree_L40 C x0 x1 s _ hf (fun u2 u3 hu e => by cases e; exact P) (fun u2 hu e => by cases e)) (fun s r hf P => w_X2_growTree_L40 C x0 x1 s _ hf (fun u2 u3 hu e => by cases e) (fun u2 hu e => by cases e; exact P))
set_option maxRecDepth 100000 in
set_option maxHeartbeats 4000000 in
theorem w_X2_growTree_0 {X : MX} (C : CX X cX2_growTree 4 RX2 (some .int) rmX2_growTree) (a0 : Nat) (a1 : Nat) (h : AH) (res : Int32 × AH) (hf : f_X2_growTree a0 a1 h = some res) (K : ∀ (v : Int32) (h2 : AH), res = (v, h2) → PR X rmX2_growTree (some (.int v)) h2) : PT X 4 0 0 0 [(0, .ref a0), (1, .ref a1)] [] h := by
  unfold f_X2_growTree at hf
  refine pt_iconst C (v := 0) (by decide) dX2_growTree_0 ?_
  refine pt_istore_n C [(2, .int 0), (0, .ref a0), (1, .ref a1)] rfl (by decide) rfl dX2_growTree_1 ?_
  refine pt_sub C [(0, .ref a0), (1, .ref a1), (2, .int 0)] [1, 2, 0] rfl ?_
  refine ob hf (fun e12 g13 hf => ?_)
  refine l_X2_growTree_L2 C a0 a1 _ _ _ g13 ?_
  refine pt_iconst C (v := 0) (by decide) dX2_growTree_36 ?_
  refine pt_istore_n C [(2, .int 0), (0, .ref a0), (1, .ref a1)] rfl (by decide) rfl dX2_growTree_37 ?_
  refine pt_iconst C (v := 1) (by decide) dX2_growTree_38 ?_
  refine pt_istore_n C [(3, .int 1), (2, .int 0), (0, .ref a0), (1, .ref a1)] rfl (by decide) rfl dX2_growTree_39 ?_
  refine pt_sub C [(0, .ref a0), (1, .ref a1), (2, .int 0), (3, .int 1)] [2, 3, 1, 0] rfl ?_
  refine ob hf (fun e21 g22 hf => ?_)
  refine l_X2_growTree_L40 C a0 a1 _ _ _ g22 ?_
  refine pt_iload_n C 0 rfl rfl dX2_growTree_62 ?_
  exact pt_iret C (K _ _ (Option.some.inj hf).symm) (by decide) (by decide) dX2_growTree_63
theorem con_X2_growTree (l : Launch) (a0 : Nat) (a1 : Nat) (h : AH) (q : Int32 × AH) (hf : f_X2_growTree a0 a1 h = some q) : Con l yX2_growTree cX2_growTree 4 (some .int) rmX2_growTree [.ref a0, .ref a1] h (some (.int q.1)) q.2 := Con.of (by decide +kernel) (Nat.le_of_ble_eq_true rfl) (fun X C I K => w_X2_growTree_0 C a0 a1 h q hf (fun v h2 e => by cases e; exact K))
abbrev rmX11_hangs : Room := { frames := 5, cells := 0, slots := 0, locals := 122 }
theorem yn_X11_hangs : YN yX11_hangs 1 := by refine ⟨?_, ?_, ?_⟩ <;> decide +kernel
set_option maxRecDepth 100000 in
set_option maxHeartbeats 4000000 in
theorem w_X11_hangs_0 {X : MX} (C : CX X cX11_hangs 2 RX11 (some .int) rmX11_hangs) (a0 : Nat) (a1 : Int32) (h : AH) (res : Int32 × AH) (hf : f_X11_hangs a0 a1 h = some res) (K : ∀ (v : Int32) (h2 : AH), res = (v, h2) → PR X rmX11_hangs (some (.int v)) h2) : PT X 2 0 0 0 [(0, .ref a0), (1, .int a1)] [] h := by
  unfold f_X11_hangs at hf
  refine pt_iload_n C 1 rfl rfl dX11_hangs_0 ?_
  refine pt_iconst C (v := 0) (by decide) dX11_hangs_1 ?_
  refine pt_aload_n C 0 rfl rfl dX11_hangs_2 ?_
  refine ob hf (fun v1 g2 hf => ?_)
  refine pt_getR C kX11 1 (by decide) tw_308 (Or.inl rfl) g2 dX11_hangs_3 ?_
  refine ob hf (fun _ g5 hf => ?_)
  refine ob hf (fun q3 g4 hf => ?_)
  refine pt_callV C (As := []) (rest := [.int 0, .int a1]) (v := (some (.int q3.1))) (fun l => con_Jx4a65c_size_8abf5 l v1 h _ g4) tw_363 tw_360 tw_361 tw_362 kJx4a65c g5 tw_5 yn_Jx4a65c_size_8abf5 (by decide) (Nat.le_of_ble_eq_true rfl) dX11_hangs_6 rfl ?_
  show PT X 2 0 0 9 [(0, .ref a0), (1, .int a1)] [.int q3.1, .int 0, .int a1] q3.2
  refine pt_iconst C (v := 1) (by decide) dX11_hangs_9 ?_
  refine pt_isub C dX11_hangs_10 ?_
  refine ob hf (fun q6 g7 hf => ?_)
  refine pt_callS C (As := [.int a1, .int 0, .int (q3.1 - 1)]) (rest := []) (v := (some (.int q6.1))) (fun l => con_X11_within l a1 0 (q3.1 - 1) q3.2 _ g7) tw_461 tw_459 tw_460 tw_1 yn_X11_within (by decide) (Nat.le_of_ble_eq_true rfl) dX11_hangs_11 rfl ?_
  show PT X 2 0 0 14 [(0, .ref a0), (1, .int a1)] [.int q6.1] q6.2
  refine pt_if_ne C (tgt := 20) (by decide) dX11_hangs_14 (fun c8 => ?_) (fun c8 => ?_)
  · rw [if_neg c8] at hf
    refine pt_aload_n C 0 rfl rfl dX11_hangs_20 ?_
    refine ob hf (fun v9 g10 hf => ?_)
    refine pt_getR C kX11 11 (by decide) tw_318 (Or.inl rfl) g10 dX11_hangs_21 ?_
    refine pt_aload_n C 0 rfl rfl dX11_hangs_24 ?_
    refine ob hf (fun v11 g12 hf => ?_)
    refine pt_getR C kX11 1 (by decide) tw_308 (Or.inl rfl) g12 dX11_hangs_25 ?_
    refine ob hf (fun _ g15 hf => ?_)
    refine ob hf (fun q13 g14 hf => ?_)
    refine pt_callV C (As := [.ref v11]) (rest := []) (v := (some (.int q13.1))) (fun l => con_X2_growTree l v9 v11 q6.2 _ g14) tw_849 tw_846 tw_847 tw_848 kX2 g15 tw_12 yn_X2_growTree (by decide) (Nat.le_of_ble_eq_true rfl) dX11_hangs_28 rfl ?_
    show PT X 2 0 0 31 [(0, .ref a0), (1, .int a1)] [.int q13.1] q13.2
    refine pt_pop C rfl dX11_hangs_31 ?_
    refine pt_aload_n C 0 rfl rfl dX11_hangs_32 ?_
    refine ob hf (fun v16 g17 hf => ?_)
    refine pt_getR C kX11 11 (by decide) tw_318 (Or.inl rfl) g17 dX11_hangs_33 ?_
    refine ob hf (fun v18 g19 hf => ?_)
    refine pt_getR C kX2 1 (by decide) tw_297 (Or.inl rfl) g19 dX11_hangs_36 ?_
    refine pt_iload_n C 1 rfl rfl dX11_hangs_39 ?_
    refine ob hf (fun v20 g21 hf => ?_)
    refine pt_iald C g21 dX11_hangs_40 ?_
    exact pt_iret C (K _ _ (Option.some.inj hf).symm) (by decide) (by decide) dX11_hangs_41
  · rw [if_pos c8] at hf
    refine pt_bipush C (v := (-2)) (by decide) dX11_hangs_17 ?_
    exact pt_iret C (K _ _ (Option.some.inj hf).symm) (by decide) (by decide) dX11_hangs_19
theorem con_X11_hangs (l : Launch) (a0 : Nat) (a1 : Int32) (h : AH) (q : Int32 × AH) (hf : f_X11_hangs a0 a1 h = some q) : Con l yX11_hangs cX11_hangs 2 (some .int) rmX11_hangs [.ref a0, .int a1] h (some (.int q.1)) q.2 := Con.of (by decide +kernel) (Nat.le_of_ble_eq_true rfl) (fun X C I K => w_X11_hangs_0 C a0 a1 h q hf (fun v h2 e => by cases e; exact K))
abbrev rmX11_isWeight : Room := { frames := 1, cells := 0, slots := 0, locals := 22 }
theorem yn_X11_isWeight : YN yX11_isWeight 2 := by refine ⟨?_, ?_, ?_⟩ <;> decide +kernel
set_option maxRecDepth 100000 in
set_option maxHeartbeats 4000000 in
theorem w_X11_isWeight_0 {X : MX} (C : CX X cX11_isWeight 2 RX11 (some .boolean) rmX11_isWeight) (a0 : Int32) (a1 : Int32) (h : AH) (res : Int32 × AH) (hf : f_X11_isWeight a0 a1 h = some res) (K : ∀ (v : Int32) (h2 : AH), res = (v, h2) → PR X rmX11_isWeight (some (.int v)) h2) : PT X 2 0 0 0 [(0, .int a0), (1, .int a1)] [] h := by
  unfold f_X11_isWeight at hf
  refine pt_iload_n C 0 rfl rfl dX11_isWeight_0 ?_
  refine pt_iconst C (v := 0) (by decide) dX11_isWeight_1 ?_
  refine pt_sipush C (v := 1000) (by decide) dX11_isWeight_2 ?_
  refine ob hf (fun q1 g2 hf => ?_)
  refine pt_callS C (As := [.int a0, .int 0, .int 1000]) (rest := []) (v := (some (.int q1.1))) (fun l => con_X11_within l a0 0 1000 h _ g2) tw_461 tw_459 tw_460 tw_1 yn_X11_within (by decide) (Nat.le_of_ble_eq_true rfl) dX11_isWeight_5 rfl ?_
  show PT X 2 0 0 8 [(0, .int a0), (1, .int a1)] [.int q1.1] q1.2
  refine pt_if_eq C (tgt := 25) (by decide) dX11_isWeight_8 (fun c3 => ?_) (fun c3 => ?_)
  · rw [if_pos c3] at hf
    refine pt_iconst C (v := 0) (by decide) dX11_isWeight_25 ?_
    exact pt_zret C (by decide) (K _ _ (Option.some.inj hf).symm) (by decide) (by decide) dX11_isWeight_26
  · rw [if_neg c3] at hf
    refine pt_iload_n C 1 rfl rfl dX11_isWeight_11 ?_
    refine pt_iconst C (v := 0) (by decide) dX11_isWeight_12 ?_
    refine pt_bipush C (v := 50) (by decide) dX11_isWeight_13 ?_
    refine ob hf (fun q4 g5 hf => ?_)
    refine pt_callS C (As := [.int a1, .int 0, .int 50]) (rest := []) (v := (some (.int q4.1))) (fun l => con_X11_within l a1 0 50 q1.2 _ g5) tw_461 tw_459 tw_460 tw_1 yn_X11_within (by decide) (Nat.le_of_ble_eq_true rfl) dX11_isWeight_15 rfl ?_
    show PT X 2 0 0 18 [(0, .int a0), (1, .int a1)] [.int q4.1] q4.2
    refine pt_if_eq C (tgt := 25) (by decide) dX11_isWeight_18 (fun c6 => ?_) (fun c6 => ?_)
    · rw [if_pos c6] at hf
      refine pt_iconst C (v := 0) (by decide) dX11_isWeight_25 ?_
      exact pt_zret C (by decide) (K _ _ (Option.some.inj hf).symm) (by decide) (by decide) dX11_isWeight_26
    · rw [if_neg c6] at hf
      refine pt_iconst C (v := 1) (by decide) dX11_isWeight_21 ?_
      refine pt_goto C (tgt := 26) (by decide) dX11_isWeight_22 ?_
      exact pt_zret C (by decide) (K _ _ (Option.some.inj hf).symm) (by decide) (by decide) dX11_isWeight_26
theorem con_X11_isWeight (l : Launch) (a0 : Int32) (a1 : Int32) (h : AH) (q : Int32 × AH) (hf : f_X11_isWeight a0 a1 h = some q) : Con l yX11_isWeight cX11_isWeight 2 (some .boolean) rmX11_isWeight [.int a0, .int a1] h (some (.int q.1)) q.2 := Con.of (by decide +kernel) (Nat.le_of_ble_eq_true rfl) (fun X C I K => w_X11_isWeight_0 C a0 a1 h q hf (fun v h2 e => by cases e; exact K))
abbrev rmX11_isTask : Room := { frames := 2, cells := 0, slots := 0, locals := 43 }
theorem yn_X11_isTask : YN yX11_isTask 3 := by refine ⟨?_, ?_, ?_⟩ <;> decide +kernel
set_option maxRecDepth 100000 in
set_option maxHeartbeats 4000000 in
theorem w_X11_isTask_0 {X : MX} (C : CX X cX11_isTask 3 RX11 (some .boolean) rmX11_isTask) (a0 : Int32) (a1 : Int32) (a2 : Int32) (h : AH) (res : Int32 × AH) (hf : f_X11_isTask a0 a1 a2 h = some res) (K : ∀ (v : Int32) (h2 : AH), res = (v, h2) → PR X rmX11_isTask (some (.int v)) h2) : PT X 3 0 0 0 [(0, .int a0), (1, .int a1), (2, .int a2)] [] h := by
  unfold f_X11_isTask at hf
  refine pt_iload_n C 0 rfl rfl dX11_isTask_0 ?_
  refine pt_iconst C (v := 1) (by decide) dX11_isTask_1 ?_
  refine pt_sipush C (v := 3000) (by decide) dX11_isTask_2 ?_
  refine ob hf (fun q1 g2 hf => ?_)
  refine pt_callS C (As := [.int a0, .int 1, .int 3000]) (rest := []) (v := (some (.int q1.1))) (fun l => con_X11_within l a0 1 3000 h _ g2) tw_461 tw_459 tw_460 tw_1 yn_X11_within (by decide) (Nat.le_of_ble_eq_true rfl) dX11_isTask_5 rfl ?_
  show PT X 3 0 0 8 [(0, .int a0), (1, .int a1), (2, .int a2)] [.int q1.1] q1.2
  refine pt_if_eq C (tgt := 23) (by decide) dX11_isTask_8 (fun c3 => ?_) (fun c3 => ?_)
  · rw [if_pos c3] at hf
    refine pt_iconst C (v := 0) (by decide) dX11_isTask_23 ?_
    exact pt_zret C (by decide) (K _ _ (Option.some.inj hf).symm) (by decide) (by decide) dX11_isTask_24
  · rw [if_neg c3] at hf
    refine pt_iload_n C 1 rfl rfl dX11_isTask_11 ?_
    refine pt_iload_n C 2 rfl rfl dX11_isTask_12 ?_
    refine ob hf (fun q4 g5 hf => ?_)
    refine pt_callS C (As := [.int a1, .int a2]) (rest := []) (v := (some (.int q4.1))) (fun l => con_X11_isWeight l a1 a2 q1.2 _ g5) tw_539 tw_537 tw_538 tw_1 yn_X11_isWeight (by decide) (Nat.le_of_ble_eq_true rfl) dX11_isTask_13 rfl ?_
    show PT X 3 0 0 16 [(0, .int a0), (1, .int a1), (2, .int a2)] [.int q4.1] q4.2
    refine pt_if_eq C (tgt := 23) (by decide) dX11_isTask_16 (fun c6 => ?_) (fun c6 => ?_)
    · rw [if_pos c6] at hf
      refine pt_iconst C (v := 0) (by decide) dX11_isTask_23 ?_
      exact pt_zret C (by decide) (K _ _ (Option.some.inj hf).symm) (by decide) (by decide) dX11_isTask_24
    · rw [if_neg c6] at hf
      refine pt_iconst C (v := 1) (by decide) dX11_isTask_19 ?_
      refine pt_goto C (tgt := 24) (by decide) dX11_isTask_20 ?_
      exact pt_zret C (by decide) (K _ _ (Option.some.inj hf).symm) (by decide) (by decide) dX11_isTask_24
theorem con_X11_isTask (l : Launch) (a0 : Int32) (a1 : Int32) (a2 : Int32) (h : AH) (q : Int32 × AH) (hf : f_X11_isTask a0 a1 a2 h = some q) : Con l yX11_isTask cX11_isTask 3 (some .boolean) rmX11_isTask [.int a0, .int a1, .int a2] h (some (.int q.1)) q.2 := Con.of (by decide +kernel) (Nat.le_of_ble_eq_true rfl) (fun X C I K => w_X11_isTask_0 C a0 a1 a2 h q hf (fun v h2 e => by cases e; exact K))
abbrev rmX8_init : Room := { frames := 1, cells := 0, slots := 0, locals := 20 }
theorem yn_X8_init : YN yX8_init 3 := by refine ⟨?_, ?_, ?_⟩ <;> decide +kernel
set_option maxRecDepth 100000 in
set_option maxHeartbeats 4000000 in
theorem w_X8_init_0 {X : MX} (C : CX X cX8_init 4 RX8 none rmX8_init) (I : IN X) (a0 : Nat) (a1 : Int32) (a2 : Int32) (a3 : Int32) (h : AH) (res : AH) (hf : f_X8_init a0 a1 a2 a3 h = some res) (K : PR X rmX8_init none res) : PT X 4 0 0 0 [(0, .ref a0), (1, .int a1), (2, .int a2), (3, .int a3)] [] h := by
  unfold f_X8_init at hf
  refine pt_aload_n C 0 rfl rfl dX8_init_0 ?_
  refine pt_objInit C tw_550 tw_30 tw_31 (by decide) (Nat.le_of_ble_eq_true rfl) dX8_init_1 ?_
  refine pt_aload_n C 0 rfl rfl dX8_init_4 ?_
  refine pt_iload_n C 1 rfl rfl dX8_init_5 ?_
  refine ob hf (fun h1 g2 hf => ?_)
  refine pt_putF C I kX8 0 (by decide) tw_551 (Or.inl rfl) rfl rfl rfl rfl g2 dX8_init_6 ?_
  refine pt_aload_n C 0 rfl rfl dX8_init_9 ?_
  refine pt_iload_n C 2 rfl rfl dX8_init_10 ?_
  refine ob hf (fun h3 g4 hf => ?_)
  refine pt_putF C I kX8 1 (by decide) tw_553 (Or.inl rfl) rfl rfl rfl rfl g4 dX8_init_11 ?_
  refine pt_aload_n C 0 rfl rfl dX8_init_14 ?_
  refine pt_iload_n C 3 rfl rfl dX8_init_15 ?_
  refine ob hf (fun h5 g6 hf => ?_)
  refine pt_putF C I kX8 2 (by decide) tw_554 (Or.inl rfl) rfl rfl rfl rfl g6 dX8_init_16 ?_
  obtain rfl := Option.some.inj hf
  exact pt_vret C K (by decide) (by decide) dX8_init_19
theorem con_X8_init (l : Launch) (a0 : Nat) (a1 : Int32) (a2 : Int32) (a3 : Int32) (h : AH) (q : AH) (hf : f_X8_init a0 a1 a2 a3 h = some q) : Con l yX8_init cX8_init 4 none rmX8_init [.ref a0, .int a1, .int a2, .int a3] h none q := Con.of (by decide +kernel) (Nat.le_of_ble_eq_true rfl) (fun X C I K => w_X8_init_0 C (I rfl) a0 a1 a2 a3 h q hf K)
abbrev rmX11_haul : Room := { frames := 4, cells := 1, slots := 3, locals := 97 }
theorem yn_X11_haul : YN yX11_haul 4 := by refine ⟨?_, ?_, ?_⟩ <;> decide +kernel
set_option maxRecDepth 100000 in
set_option maxHeartbeats 4000000 in
theorem w_X11_haul_0 {X : MX} (C : CX X cX11_haul 7 RX11 (some .int) rmX11_haul) (a0 : Nat) (a1 : Int32) (a2 : Int32) (a3 : Int32) (a4 : Int32) (h : AH) (res : Int32 × AH) (hf : f_X11_haul a0 a1 a2 a3 a4 h = some res) (K : ∀ (v : Int32) (h2 : AH), res = (v, h2) → PR X rmX11_haul (some (.int v)) h2) : PT X 7 0 0 0 [(0, .ref a0), (1, .int a1), (2, .int a2), (3, .int a3), (4, .int a4)] [] h := by
  unfold f_X11_haul at hf
  refine pt_aload_n C 0 rfl rfl dX11_haul_0 ?_
  refine pt_iload_n C 1 rfl rfl dX11_haul_1 ?_
  refine ob hf (fun _ g3 hf => ?_)
  refine ob hf (fun q1 g2 hf => ?_)
  refine pt_callV C (As := [.int a1]) (rest := []) (v := (some (va_rf q1.1))) (fun l => con_X11_songOf l a0 a1 h _ g2) tw_458 tw_455 tw_457 tp_3 kX11 g3 tw_1 yn_X11_songOf (by decide) (Nat.le_of_ble_eq_true rfl) dX11_haul_2 rfl ?_
  show PT X 7 0 0 5 [(0, .ref a0), (1, .int a1), (2, .int a2), (3, .int a3), (4, .int a4)] [va_rf q1.1] q1.2
  refine pt_astoreQ C [(5, va_rf q1.1), (0, .ref a0), (1, .int a1), (2, .int a2), (3, .int a3), (4, .int a4)] (by decide) rfl dX11_haul_5 ?_
  refine pt_aloadQ C 0 rfl dX11_haul_7 ?_
  generalize q1.1 = o4 at hf ⊢
  cases o4 with
  | none =>
    dsimp only [Option.elim] at hf
    refine pt_ifnull0 C (tgt := 22) (by decide) dX11_haul_9 ?_
    refine pt_bipush C (v := (-2)) (by decide) dX11_haul_22 ?_
    exact pt_iret C (K _ _ (Option.some.inj hf).symm) (by decide) (by decide) dX11_haul_24
  | some a5 =>
    dsimp only [Option.elim] at hf
    refine pt_ifnull1 C dX11_haul_9 ?_
    refine pt_iload_n C 3 rfl rfl dX11_haul_12 ?_
    refine pt_iload_n C 4 rfl rfl dX11_haul_13 ?_
    refine pt_iload C 5 rfl dX11_haul_14 ?_
    refine ob hf (fun q6 g7 hf => ?_)
    refine pt_callS C (As := [.int a2, .int a3, .int a4]) (rest := []) (v := (some (.int q6.1))) (fun l => con_X11_isTask l a2 a3 a4 q1.2 _ g7) tw_536 tw_534 tw_535 tw_1 yn_X11_isTask (by decide) (Nat.le_of_ble_eq_true rfl) dX11_haul_16 rfl ?_
    show PT X 7 0 0 19 [(5, .ref a5), (0, .ref a0), (1, .int a1), (2, .int a2), (3, .int a3), (4, .int a4)] [.int q6.1] q6.2
    refine pt_if_ne C (tgt := 25) (by decide) dX11_haul_19 (fun c8 => ?_) (fun c8 => ?_)
    · rw [if_neg c8] at hf
      refine pt_aload_n C 1 rfl rfl dX11_haul_25 ?_
      refine ob hf (fun v9 g10 hf => ?_)
      refine pt_getR C kX11 3 (by decide) tw_310 (Or.inl rfl) g10 dX11_haul_26 ?_
      refine pt_aload_n C 1 rfl rfl dX11_haul_29 ?_
      refine ob hf (fun v11 g12 hf => ?_)
      refine pt_getR C kX11 2 (by decide) tw_309 (Or.inl rfl) g12 dX11_haul_30 ?_
      refine ob hf (fun _ g15 hf => ?_)
      refine ob hf (fun q13 g14 hf => ?_)
      refine pt_callV C (As := [.ref v11]) (rest := []) (v := none) (fun l => con_X1_beginAsTold l v9 v11 q6.2 _ g14) tw_543 tw_540 tw_541 tw_542 kX1 g15 tw_7 yn_X1_beginAsTold (by decide) (Nat.le_of_ble_eq_true rfl) dX11_haul_33 rfl ?_
      show PT X 7 0 0 36 [(5, .ref a5), (0, .ref a0), (1, .int a1), (2, .int a2), (3, .int a3), (4, .int a4)] [] q13
      refine pt_aload_n C 1 rfl rfl dX11_haul_36 ?_
      refine ob hf (fun v16 g17 hf => ?_)
      refine pt_getR C kX11 3 (by decide) tw_310 (Or.inl rfl) g17 dX11_haul_37 ?_
      refine pt_aload_n C 1 rfl rfl dX11_haul_40 ?_
      refine ob hf (fun v18 g19 hf => ?_)
      refine pt_getR C kX11 2 (by decide) tw_309 (Or.inl rfl) g19 dX11_haul_41 ?_
      refine pt_aload C 0 rfl dX11_haul_44 ?_
      refine pt_new C kX8 tw_545 tw_546 tw_21 [.int 0, .int 0, .int 0] (fun j hj => match j, hj with | 0, _ => rfl | 1, _ => rfl | 2, _ => rfl) (by decide) (by decide) dX11_haul_46 ?_
      refine pt_dup C rfl dX11_haul_49 ?_
      refine pt_iload_n C 3 rfl rfl dX11_haul_50 ?_
      refine pt_iload_n C 4 rfl rfl dX11_haul_51 ?_
      refine pt_iload C 5 rfl dX11_haul_52 ?_
      refine ob hf (fun q20 g21 hf => ?_)
      refine pt_callI C (As := [.int a2, .int a3, .int a4]) (rest := [.ref q13.1, .ref a5, .ref v18, .ref v16]) (v := none) (fun l => con_X8_init l q13.1 a2 a3 a4 (hnew q13 (.inr (9, [.int 0, .int 0, .int 0]))) _ g21) tw_549 tw_547 tw_548 rfl tw_21 yn_X8_init (by decide) (Nat.le_of_ble_eq_true rfl) dX11_haul_54 rfl ?_
      show PT X 7 1 3 57 [(5, .ref a5), (0, .ref a0), (1, .int a1), (2, .int a2), (3, .int a3), (4, .int a4)] [.ref q13.1, .ref a5, .ref v18, .ref v16] q20
      refine pt_sipush C (v := 300) (by decide) dX11_haul_57 ?_
      refine ob hf (fun _ g24 hf => ?_)
      refine ob hf (fun q22 g23 hf => ?_)
      refine pt_callV C (As := [.ref v18, .ref a5, .ref q13.1, .int 300]) (rest := []) (v := (some (.int q22.1))) (fun l => con_X1_go l v16 v18 a5 q13.1 300 q20 _ g23) tw_565 tw_562 tw_563 tw_564 kX1 g24 tw_7 yn_X1_go (by decide) (Nat.le_of_ble_eq_true rfl) dX11_haul_60 rfl ?_
      show PT X 7 1 3 63 [(5, .ref a5), (0, .ref a0), (1, .int a1), (2, .int a2), (3, .int a3), (4, .int a4)] [.int q22.1] q22.2
      refine pt_istore C [(6, .int q22.1), (5, .ref a5), (0, .ref a0), (1, .int a1), (2, .int a2), (3, .int a3), (4, .int a4)] (by decide) rfl dX11_haul_63 ?_
      refine pt_aload_n C 2 rfl rfl dX11_haul_65 ?_
      refine ob hf (fun v25 g26 hf => ?_)
      refine pt_getR C kX11 3 (by decide) tw_310 (Or.inl rfl) g26 dX11_haul_66 ?_
      refine ob hf (fun v27 g28 hf => ?_)
      refine pt_getR C kX1 0 (by decide) tw_140 (Or.inl rfl) g28 dX11_haul_69 ?_
      refine pt_aload_n C 2 rfl rfl dX11_haul_72 ?_
      refine ob hf (fun v29 g30 hf => ?_)
      refine pt_getR C kX11 2 (by decide) tw_309 (Or.inl rfl) g30 dX11_haul_73 ?_
      refine ob hf (fun v31 g32 hf => ?_)
      refine pt_getR C kX0 5 (by decide) tw_101 (Or.inl rfl) g32 dX11_haul_76 ?_
      refine ob hf (fun q33 g34 hf => ?_)
      refine pt_callS C (As := [.ref v27, .ref v31]) (rest := []) (v := none) (fun l => con_X11_copy l v27 v31 q22.2 _ g34) tw_389 tw_598 tw_388 tw_1 yn_X11_copy (by decide) (Nat.le_of_ble_eq_true rfl) dX11_haul_79 rfl ?_
      show PT X 7 1 3 82 [(6, .int q22.1), (5, .ref a5), (0, .ref a0), (1, .int a1), (2, .int a2), (3, .int a3), (4, .int a4)] [] q33
      refine pt_aload_n C 2 rfl rfl dX11_haul_82 ?_
      refine ob hf (fun v35 g36 hf => ?_)
      refine pt_getR C kX11 6 (by decide) tw_313 (Or.inl rfl) g36 dX11_haul_83 ?_
      refine pt_iconst C (v := 0) (by decide) dX11_haul_86 ?_
      refine ob hf (fun h37 g38 hf => ?_)
      refine pt_put C kX9 5 (by decide) tw_191 (Or.inl rfl) rfl (by decide) rfl g38 dX11_haul_87 ?_
      refine pt_iload C 0 rfl dX11_haul_90 ?_
      refine pt_if_eq C (tgt := 105) (by decide) dX11_haul_92 (fun c39 => ?_) (fun c39 => ?_)
      · rw [if_pos c39] at hf
        refine pt_bipush C (v := (-10)) (by decide) dX11_haul_105 ?_
        refine pt_aload_n C 2 rfl rfl dX11_haul_107 ?_
        refine ob hf (fun v40 g41 hf => ?_)
        refine pt_getR C kX11 3 (by decide) tw_310 (Or.inl rfl) g41 dX11_haul_108 ?_
        refine ob hf (fun v42 g43 hf => ?_)
        refine pt_getI C kX1 7 (by decide) tw_154 (Or.inl rfl) g43 dX11_haul_111 ?_
        refine pt_isub C dX11_haul_114 ?_
        exact pt_iret C (K _ _ (Option.some.inj hf).symm) (by decide) (by decide) dX11_haul_115
      · rw [if_neg c39] at hf
        refine pt_aload_n C 2 rfl rfl dX11_haul_95 ?_
        refine ob hf (fun v44 g45 hf => ?_)
        refine pt_getR C kX11 3 (by decide) tw_310 (Or.inl rfl) g45 dX11_haul_96 ?_
        refine ob hf (fun v46 g47 hf => ?_)
        refine pt_getI C kX1 7 (by decide) tw_154 (Or.inl rfl) g47 dX11_haul_99 ?_
        refine pt_goto C (tgt := 115) (by decide) dX11_haul_102 ?_
        exact pt_iret C (K _ _ (Option.some.inj hf).symm) (by decide) (by decide) dX11_haul_115
    · rw [if_pos c8] at hf
      refine pt_bipush C (v := (-2)) (by decide) dX11_haul_22 ?_
      exact pt_iret C (K _ _ (Option.some.inj hf).symm) (by decide) (by decide) dX11_haul_24
theorem con_X11_haul (l : Launch) (a0 : Nat) (a1 : Int32) (a2 : Int32) (a3 : Int32) (a4 : Int32) (h : AH) (q : Int32 × AH) (hf : f_X11_haul a0 a1 a2 a3 a4 h = some q) : Con l yX11_haul cX11_haul 7 (some .int) rmX11_haul [.ref a0, .int a1, .int a2, .int a3, .int a4] h (some (.int q.1)) q.2 := Con.of (by decide +kernel) (Nat.le_of_ble_eq_true rfl) (fun X C I K => w_X11_haul_0 C a0 a1 a2 a3 a4 h q hf (fun v h2 e => by cases e; exact K))
