/-! HeaveSongsModel.in(JJJ)Z -/
def g_X12_in (a0 : Int64) (a2 : Int64) (a4 : Int64) (M : MS) : Option (Int32 × MS) :=
  if (lg_cmp a0 a2) < 0 then (some (0, M)) else (if 0 < (lg_cmp a0 a4) then (some (0, M)) else (some (1, M)))
/-! HeaveSongsModel.noSong(I)Z -/
def g_X12_noSong (a1 : Int32) (M : MS) : Option (Int32 × MS) :=
  (g_X12_in a1.toInt64 0 (((M.1 0) - 1).toInt64) M).bind fun p2 =>
  if p2.1 = 0 then (some (1, p2.2)) else (some (0, p2.2))
/-! HeaveSongsModel.bit(Z)I -/
def g_X12_bit (a0 : Int32) (M : MS) : Option (Int32 × MS) :=
  if a0 = 0 then (some (0, M)) else (some (1, M))
/-! HeaveSongsModel.apartBy(ZII)I -/
def g_X12_apartBy_L55_J258 (x1 : Int32) (x2 : Int32) (x3 : Int32) (x4 : Int32) (x5 : Int32) (x6 : Int32) (y7 : Int32) (y8 : Int32) (M : MS) : Option ((Int32 × MS) ⊕ ((MS))) :=
  (mst M 43 ((25 * x6) + y7) y8).bind fun M10 =>
  some (.inl (y7 + 1, M10))
def g_X12_apartBy_L55_J256 (x1 : Int32) (x2 : Int32) (x3 : Int32) (x4 : Int32) (x5 : Int32) (x6 : Int32) (y7 : Int32) (z0 : Int32) (M : MS) : Option ((Int32 × MS) ⊕ ((MS))) :=
  g_X12_apartBy_L55_J258 x1 x2 x3 x4 x5 x6 y7 z0 M
def g_X12_apartBy_L55_J240 (x1 : Int32) (x2 : Int32) (x3 : Int32) (x4 : Int32) (x5 : Int32) (x6 : Int32) (y7 : Int32) (y13 : Int32) (z0 : Int32) (M : MS) : Option ((Int32 × MS) ⊕ ((MS))) :=
  if z0 ≤ y13 then (g_X12_apartBy_L55_J256 x1 x2 x3 x4 x5 x6 y7 z0 M) else (g_X12_apartBy_L55_J256 x1 x2 x3 x4 x5 x6 y7 y13 M)
def g_X12_apartBy_L55_J182 (x1 : Int32) (x2 : Int32) (x3 : Int32) (x4 : Int32) (x5 : Int32) (x6 : Int32) (y7 : Int32) (z0 : Int32) (z1 : Int32) (M : MS) : Option ((Int32 × MS) ⊕ ((MS))) :=
  (g_X12_bit z0 M).bind fun p22 =>
  (mld p22.2 43 ((25 * (x6 - 1)) + y7)).bind fun v24 =>
  (mld p22.2 43 (((25 * x6) + y7) - 1)).bind fun v26 =>
  if (v24 + 1) ≤ (z1 + p22.1) then (g_X12_apartBy_L55_J240 x1 x2 x3 x4 x5 x6 y7 (v26 + 1) (v24 + 1) p22.2) else (g_X12_apartBy_L55_J240 x1 x2 x3 x4 x5 x6 y7 (v26 + 1) (z1 + p22.1) p22.2)
def g_X12_apartBy_L55_J151 (x1 : Int32) (x2 : Int32) (x3 : Int32) (x4 : Int32) (x5 : Int32) (x6 : Int32) (y7 : Int32) (y9 : Int32) (z0 : Int32) (M : MS) : Option ((Int32 × MS) ⊕ ((MS))) :=
  (mld M 43 (((25 * (x6 - 1)) + y7) - 1)).bind fun v18 =>
  if y9 = z0 then (g_X12_apartBy_L55_J182 x1 x2 x3 x4 x5 x6 y7 0 v18 M) else (g_X12_apartBy_L55_J182 x1 x2 x3 x4 x5 x6 y7 1 v18 M)
def g_X12_apartBy_L55_J114 (x1 : Int32) (x2 : Int32) (x3 : Int32) (x4 : Int32) (x5 : Int32) (x6 : Int32) (y7 : Int32) (z0 : Int32) (M : MS) : Option ((Int32 × MS) ⊕ ((MS))) :=
  if x1 = 0 then ((mld M 4 (((12 * x3) + y7) - 1)).bind fun v16 =>
  g_X12_apartBy_L55_J151 x1 x2 x3 x4 x5 x6 y7 z0 v16 M) else ((mld M 3 (((24 * x3) + y7) - 1)).bind fun v30 =>
  g_X12_apartBy_L55_J151 x1 x2 x3 x4 x5 x6 y7 z0 v30 M)
def g_X12_apartBy_L55 (x1 : Int32) (x2 : Int32) (x3 : Int32) (x4 : Int32) (x5 : Int32) (x6 : Int32) (s : Int32 × MS) : Option ((Int32 × MS) ⊕ ((MS))) :=
  if x5 < s.1 then (some (.inr (s.2))) else (if x6 ≤ 0 then (g_X12_apartBy_L55_J258 x1 x2 x3 x4 x5 x6 s.1 (x6 + s.1) s.2) else (if s.1 ≤ 0 then (g_X12_apartBy_L55_J258 x1 x2 x3 x4 x5 x6 s.1 (x6 + s.1) s.2) else (if x1 = 0 then ((mld s.2 4 (((12 * x2) + x6) - 1)).bind fun v13 =>
  g_X12_apartBy_L55_J114 x1 x2 x3 x4 x5 x6 s.1 v13 s.2) else ((mld s.2 3 (((24 * x2) + x6) - 1)).bind fun v32 =>
  g_X12_apartBy_L55_J114 x1 x2 x3 x4 x5 x6 s.1 v32 s.2))))
def g_X12_apartBy_L45 (x1 : Int32) (x2 : Int32) (x3 : Int32) (x4 : Int32) (x5 : Int32) (s : Int32 × MS) : Option ((Int32 × MS) ⊕ ((MS))) :=
  if x4 < s.1 then (some (.inr (s.2))) else ((iter (g_X12_apartBy_L55 x1 x2 x3 x4 x5 s.1) 100000 (0, s.2)).bind fun e36 =>
  some (.inl (s.1 + 1, e36)))
def g_X12_apartBy_J40 (a1 : Int32) (a2 : Int32) (a3 : Int32) (y4 : Int32) (z0 : Int32) (M : MS) : Option (Int32 × MS) :=
  (iter (g_X12_apartBy_L45 a1 a2 a3 y4 z0) 100000 (0, M)).bind fun e40 =>
  (mld e40 43 ((25 * y4) + z0)).bind fun v42 =>
  some (v42, e40)
def g_X12_apartBy_J19 (a1 : Int32) (a2 : Int32) (a3 : Int32) (z0 : Int32) (M : MS) : Option (Int32 × MS) :=
  if a1 = 0 then ((mld M 2 a3).bind fun v5 =>
  g_X12_apartBy_J40 a1 a2 a3 z0 v5 M) else ((mld M 1 a3).bind fun v44 =>
  g_X12_apartBy_J40 a1 a2 a3 z0 v44 M)
def g_X12_apartBy (a1 : Int32) (a2 : Int32) (a3 : Int32) (M : MS) : Option (Int32 × MS) :=
  if a1 = 0 then ((mld M 2 a2).bind fun v2 =>
  g_X12_apartBy_J19 a1 a2 a3 v2 M) else ((mld M 1 a2).bind fun v46 =>
  g_X12_apartBy_J19 a1 a2 a3 v46 M)
/-! HeaveSongsModel.apartOf(II)I -/
def g_X12_apartOf (a1 : Int32) (a2 : Int32) (M : MS) : Option (Int32 × MS) :=
  (g_X12_apartBy 1 a1 a2 M).bind fun p2 =>
  (g_X12_apartBy 0 a1 a2 p2.2).bind fun p5 =>
  some (p2.1 + p5.1, p5.2)
/-! HeaveSongsModel.apart(II)I -/
def g_X12_apart (a1 : Int32) (a2 : Int32) (M : MS) : Option (Int32 × MS) :=
  (g_X12_noSong a1 M).bind fun p2 =>
  if p2.1 = 0 then ((g_X12_noSong a2 p2.2).bind fun p6 =>
  if p6.1 = 0 then ((g_X12_apartOf a1 a2 p6.2).bind fun p10 =>
  some (p10.1, p10.2)) else (some ((-2), p6.2))) else (some ((-2), p2.2))
/-! HeaveSongsModel.beat(I)I -/
def g_X12_beat (a1 : Int32) (M : MS) : Option (Int32 × MS) :=
  (g_X12_in a1.toInt64 0 3 M).bind fun p2 =>
  if p2.1 = 0 then (some ((-2), p2.2)) else (if (p2.2.1 5) = 24 then (some ((-4), p2.2)) else ((mst p2.2 6 (p2.2.1 5) a1).bind fun M6 =>
  (some (msI M6 5 ((M6.1 5) + 1))).bind fun M7 =>
  some ((M7.1 5), M7)))
/-! HeaveSongsModel.beatOf(II)I -/
def g_X12_beatOf (a1 : Int32) (a2 : Int32) (M : MS) : Option (Int32 × MS) :=
  (mld M 1 a1).bind fun v1 =>
  (mld M 2 a1).bind fun v3 =>
  (hdv (v1 + v3)).bind fun _ =>
  (mld M 1 a1).bind fun v6 =>
  if v6 ≤ (a2 - a2 / (v1 + v3) * (v1 + v3)) then ((mld M 1 a1).bind fun v9 =>
  (mld M 4 (((12 * a1) + (a2 - a2 / (v1 + v3) * (v1 + v3))) - v9)).bind fun v11 =>
  some (v11, M)) else ((mld M 3 ((24 * a1) + (a2 - a2 / (v1 + v3) * (v1 + v3)))).bind fun v13 =>
  some (v13, M))
/-! HeaveSongsModel.beatAt(II)I -/
def g_X12_beatAt (a1 : Int32) (a2 : Int32) (M : MS) : Option (Int32 × MS) :=
  (g_X12_noSong a1 M).bind fun p2 =>
  if p2.1 = 0 then ((g_X12_in a2.toInt64 0 1000 p2.2).bind fun p6 =>
  if p6.1 = 0 then (some ((-2), p6.2)) else ((g_X12_beatOf a1 a2 p6.2).bind fun p10 =>
  some (p10.1, p10.2))) else (some ((-2), p2.2))
/-! HeaveSongsModel.ones(I)I -/
def g_X12_ones_L4 (x0 : Int32) (s : Int32 × Int32 × MS) : Option ((Int32 × Int32 × MS) ⊕ ((Int32 × MS))) :=
  if 12 ≤ s.2.1 then (some (.inr ((s.1, s.2.2)))) else (some (.inl (s.1 + ((x0 >>> (s.2.1 &&& 31)) &&& 1), s.2.1 + 1, s.2.2)))
def g_X12_ones (a0 : Int32) (M : MS) : Option (Int32 × MS) :=
  (iter (g_X12_ones_L4 a0) 100000 (0, 0, M)).bind fun e4 =>
  some (e4.1, e4.2)
/-! HeaveSongsModel.carry(II)V -/
def g_X12_carry_L2 (x1 : Int32) (x2 : Int32) (s : Int32 × MS) : Option ((Int32 × MS) ⊕ ((MS))) :=
  if (s.2.1 7) ≤ s.1 then (some (.inr (s.2))) else ((mld s.2 13 ((10 * x1) + s.1)).bind fun v2 =>
  (mst s.2 13 ((10 * x2) + s.1) v2).bind fun M4 =>
  some (.inl (s.1 + 1, M4)))
def g_X12_carry (a1 : Int32) (a2 : Int32) (M : MS) : Option (MS) :=
  (iter (g_X12_carry_L2 a1 a2) 100000 (0, M)).bind fun e7 =>
  some e7
/-! HeaveSongsModel.step(IIIIII)V -/
def g_X12_step_L11_J94 (x1 : Int32) (x2 : Int32) (x3 : Int32) (x4 : Int32) (x5 : Int32) (x6 : Int32) (y7 : Int32) (y8 : Int32) (y9 : Int32) (z0 : Int32) (z1 : Int32) (M : MS) : Option ((Int32 × Int32 × MS) ⊕ ((Int32 × MS))) :=
  (some (msI M 21 (z1 + z0))).bind fun M6 =>
  (g_X12_bit y9 M6).bind fun p9 =>
  some (.inl (y7 ||| (p9.1 <<< (y8 &&& 31)), y8 + 1, p9.2))
def g_X12_step_L11_J66 (x1 : Int32) (x2 : Int32) (x3 : Int32) (x4 : Int32) (x5 : Int32) (x6 : Int32) (y7 : Int32) (y8 : Int32) (z0 : Int32) (M : MS) : Option ((Int32 × Int32 × MS) ⊕ ((Int32 × MS))) :=
  if z0 = 0 then (g_X12_step_L11_J94 x1 x2 x3 x4 x5 x6 y7 y8 z0 0 (M.1 21) M) else ((mld M 13 ((10 * x1) + y8)).bind fun v11 =>
  g_X12_step_L11_J94 x1 x2 x3 x4 x5 x6 y7 y8 z0 v11 (M.1 21) M)
def g_X12_step_L11_J65 (x1 : Int32) (x2 : Int32) (x3 : Int32) (x4 : Int32) (x5 : Int32) (x6 : Int32) (y7 : Int32) (y8 : Int32) (M : MS) : Option ((Int32 × Int32 × MS) ⊕ ((Int32 × MS))) :=
  g_X12_step_L11_J66 x1 x2 x3 x4 x5 x6 y7 y8 0 M
def g_X12_step_L11 (x1 : Int32) (x2 : Int32) (x3 : Int32) (x4 : Int32) (x5 : Int32) (x6 : Int32) (s : Int32 × Int32 × MS) : Option ((Int32 × Int32 × MS) ⊕ ((Int32 × MS))) :=
  if (s.2.2.1 7) ≤ s.2.1 then (some (.inr ((s.1, s.2.2)))) else (if ((x3 >>> (s.2.1 &&& 31)) &&& 1) = 1 then ((mld s.2.2 19 s.2.1).bind fun v13 =>
  if x6 < v13 then (g_X12_step_L11_J65 x1 x2 x3 x4 x5 x6 s.1 s.2.1 s.2.2) else ((mld s.2.2 19 s.2.1).bind fun v16 =>
  (g_X12_beatOf x2 (x6 - v16) s.2.2).bind fun p19 =>
  if p19.1 = 2 then (g_X12_step_L11_J66 x1 x2 x3 x4 x5 x6 s.1 s.2.1 1 p19.2) else (g_X12_step_L11_J65 x1 x2 x3 x4 x5 x6 s.1 s.2.1 p19.2))) else (g_X12_step_L11_J65 x1 x2 x3 x4 x5 x6 s.1 s.2.1 s.2.2))
def g_X12_step_L184_J296 (x1 : Int32) (x3 : Int32) (x7 : Int32) (x8 : Int32) (y9 : Int32) (y10 : Int32) (M : MS) : Option ((Int32 × MS) ⊕ ((MS))) :=
  (mld M 8 y9).bind fun v41 =>
  if y10 ≤ v41 then ((mst M 13 ((10 * x1) + y9) y10).bind fun M44 =>
  some (.inl (y9 + 1, M44))) else ((mld M 8 y9).bind fun v45 =>
  (mst M 13 ((10 * x1) + y9) v45).bind fun M47 =>
  some (.inl (y9 + 1, M47)))
def g_X12_step_L184_J263 (x1 : Int32) (x3 : Int32) (x7 : Int32) (x8 : Int32) (y9 : Int32) (y10 : Int32) (M : MS) : Option ((Int32 × MS) ⊕ ((MS))) :=
  (mld M 10 y9).bind fun v39 =>
  g_X12_step_L184_J296 x1 x3 x7 x8 y9 (y10 + v39) M
def g_X12_step_L184_J244 (x1 : Int32) (x3 : Int32) (x7 : Int32) (x8 : Int32) (y9 : Int32) (z0 : Int32) (M : MS) : Option ((Int32 × MS) ⊕ ((MS))) :=
  g_X12_step_L184_J296 x1 x3 x7 x8 y9 z0 M
def g_X12_step_L184 (x1 : Int32) (x3 : Int32) (x7 : Int32) (x8 : Int32) (s : Int32 × MS) : Option ((Int32 × MS) ⊕ ((MS))) :=
  if (s.2.1 7) ≤ s.1 then (some (.inr (s.2))) else ((mld s.2 13 ((10 * x1) + s.1)).bind fun v35 =>
  if ((x7 >>> (s.1 &&& 31)) &&& 1) = 1 then ((mld s.2 9 s.1).bind fun v52 =>
  if v35 ≤ v52 then (g_X12_step_L184_J244 x1 x3 x7 x8 s.1 0 s.2) else ((mld s.2 9 s.1).bind fun v55 =>
  g_X12_step_L184_J244 x1 x3 x7 x8 s.1 (v35 - v55) s.2)) else (if ((x3 >>> (s.1 &&& 31)) &&& 1) = 0 then (g_X12_step_L184_J263 x1 x3 x7 x8 s.1 v35 s.2) else (if x8 = 0 then (g_X12_step_L184_J263 x1 x3 x7 x8 s.1 v35 s.2) else (if x8 = 3 then ((mld s.2 11 s.1).bind fun v50 =>
  g_X12_step_L184_J296 x1 x3 x7 x8 s.1 (v35 + v50) s.2) else (g_X12_step_L184_J296 x1 x3 x7 x8 s.1 v35 s.2)))))
def g_X12_step_J172 (a1 : Int32) (a2 : Int32) (a3 : Int32) (a4 : Int32) (a5 : Int32) (a6 : Int32) (y7 : Int32) (M : MS) : Option (MS) :=
  (g_X12_beatOf a2 a6 M).bind fun p32 =>
  (iter (g_X12_step_L184 a1 a3 y7 p32.1) 100000 (0, p32.2)).bind fun e59 =>
  some e59
def g_X12_step_J169 (a1 : Int32) (a2 : Int32) (a3 : Int32) (a4 : Int32) (a5 : Int32) (a6 : Int32) (y7 : Int32) (z0 : Int32) (M : MS) : Option (MS) :=
  (some (msI M 20 z0)).bind fun M29 =>
  g_X12_step_J172 a1 a2 a3 a4 a5 a6 y7 M29
def g_X12_step (a1 : Int32) (a2 : Int32) (a3 : Int32) (a4 : Int32) (a5 : Int32) (a6 : Int32) (M : MS) : Option (MS) :=
  (some (msI M 21 0)).bind fun M1 =>
  (iter (g_X12_step_L11 a1 a2 a3 a4 a5 a6) 100000 (0, 0, M1)).bind fun e24 =>
  if (e24.2.1 21) ≤ a4 then (if (e24.2.1 20) ≤ a5 then (g_X12_step_J169 a1 a2 a3 a4 a5 a6 e24.1 0 e24.2) else (g_X12_step_J169 a1 a2 a3 a4 a5 a6 e24.1 ((e24.2.1 20) - a5) e24.2)) else ((some (msI e24.2 20 ((e24.2.1 20) + (((e24.2.1 21) - a4) / 10)))).bind fun M61 =>
  g_X12_step_J172 a1 a2 a3 a4 a5 a6 e24.1 M61)
/-! HeaveSongsModel.isAbove(II)Z -/
def g_X12_isAbove_L5_J46 (x1 : Int32) (x2 : Int32) (y4 : Int32) (M : MS) : Option ((Int32 × Int32 × MS) ⊕ ((Int32 × MS))) :=
  some (.inl (1, y4 + 1, M))
def g_X12_isAbove_L5 (x1 : Int32) (x2 : Int32) (s : Int32 × Int32 × MS) : Option ((Int32 × Int32 × MS) ⊕ ((Int32 × MS))) :=
  if (s.2.2.1 7) ≤ s.2.1 then (some (.inr ((s.1, s.2.2)))) else (if s.1 = 0 then (some (.inl (0, s.2.1 + 1, s.2.2))) else (if ((x2 >>> (s.2.1 &&& 31)) &&& 1) = 0 then (g_X12_isAbove_L5_J46 x1 x2 s.2.1 s.2.2) else ((mld s.2.2 13 ((10 * x1) + s.2.1)).bind fun v4 =>
  if v4 < (s.2.2.1 15) then (some (.inl (0, s.2.1 + 1, s.2.2))) else (g_X12_isAbove_L5_J46 x1 x2 s.2.1 s.2.2))))
def g_X12_isAbove (a1 : Int32) (a2 : Int32) (M : MS) : Option (Int32 × MS) :=
  (iter (g_X12_isAbove_L5 a1 a2) 100000 (1, 0, M)).bind fun e9 =>
  (hzb e9.1).bind fun _ =>
  some (e9.1, e9.2)
/-! HeaveSongsModel.work(IIIIIIZ)I -/
def g_X12_work_L8 (x1 : Int32) (x2 : Int32) (x3 : Int32) (x4 : Int32) (x5 : Int32) (x6 : Int32) (x7 : Int32) (s : Int32 × MS) : Option ((Int32 × MS) ⊕ ((MS))) :=
  if (s.2.1 7) ≤ s.1 then (some (.inr (s.2))) else ((mld s.2 12 s.1).bind fun v4 =>
  (mst s.2 19 s.1 v4).bind fun M6 =>
  some (.inl (s.1 + 1, M6)))
def g_X12_work_L40_J96 (x1 : Int32) (x2 : Int32) (x3 : Int32) (x4 : Int32) (x5 : Int32) (x6 : Int32) (x7 : Int32) (y8 : Int32) (M : MS) : Option ((Int32 × MS) ⊕ ((MS) ⊕ (Int32 × MS) ⊕ (Int32 × MS))) :=
  (g_X12_isAbove x1 x3 M).bind fun p16 =>
  if p16.1 = 0 then (some (.inr (.inr (.inr ((y8, p16.2)))))) else (if (p16.2.1 20) < x4 then (some (.inl (y8 + 1, p16.2))) else (some (.inr (.inr (.inl ((y8, p16.2)))))))
def g_X12_work_L40 (x1 : Int32) (x2 : Int32) (x3 : Int32) (x4 : Int32) (x5 : Int32) (x6 : Int32) (x7 : Int32) (s : Int32 × MS) : Option ((Int32 × MS) ⊕ ((MS) ⊕ (Int32 × MS) ⊕ (Int32 × MS))) :=
  if 300 ≤ s.1 then (some (.inr (.inl (s.2)))) else ((g_X12_step x1 x2 x3 x5 x6 s.1 s.2).bind fun M12 =>
  if x7 = 0 then (g_X12_work_L40_J96 x1 x2 x3 x4 x5 x6 x7 s.1 M12) else ((mst M12 17 s.1 (M12.1 20)).bind fun M20 =>
  (mst M20 18 s.1 (M20.1 21)).bind fun M21 =>
  (some (msI M21 16 (s.1 + 1))).bind fun M22 =>
  g_X12_work_L40_J96 x1 x2 x3 x4 x5 x6 x7 s.1 M22))
def g_X12_work (a1 : Int32) (a2 : Int32) (a3 : Int32) (a4 : Int32) (a5 : Int32) (a6 : Int32) (a7 : Int32) (M : MS) : Option (Int32 × MS) :=
  (some (msI M 20 0)).bind fun M1 =>
  (iter (g_X12_work_L8 a1 a2 a3 a4 a5 a6 a7) 100000 (0, M1)).bind fun e9 =>
  (iter (g_X12_work_L40 a1 a2 a3 a4 a5 a6 a7) 100000 (0, e9)).bind fun e26 =>
  Sum.elim (fun e29 => some ((-300), e29)) (fun e30 => Sum.elim (fun e34 => some (e34.1 + 1, e34.2)) (fun e35 => some ((0 - e35.1) - 1, e35.2)) e30) e26
/-! HeaveSongsModel.leastNow(I)I -/
def g_X12_leastNow_L6 (x1 : Int32) (s : Int32 × Int32 × MS) : Option ((Int32 × Int32 × MS) ⊕ ((Int32 × MS))) :=
  if (s.2.2.1 7) ≤ s.2.1 then (some (.inr ((s.1, s.2.2)))) else ((mld s.2.2 13 ((10 * x1) + s.2.1)).bind fun v2 =>
  if s.1 ≤ v2 then (some (.inl (s.1, s.2.1 + 1, s.2.2))) else (some (.inl (v2, s.2.1 + 1, s.2.2))))
def g_X12_leastNow (a1 : Int32) (M : MS) : Option (Int32 × MS) :=
  (iter (g_X12_leastNow_L6 a1) 100000 (1000, 0, M)).bind fun e7 =>
  some (e7.1, e7.2)
/-! HeaveSongsModel.best(IIII)I -/
def g_X12_best_L66_J159 (x1 : Int32) (x2 : Int32) (x3 : Int32) (x4 : Int32) (y8 : Int32) (y9 : Int32) (y10 : Int32) (M : MS) : Option ((Int32 × Int32 × Int32 × Int32 × MS) ⊕ ((Int32 × Int32 × Int32 × MS))) :=
  some (.inl (y8, y9, y10, y8 + 1, M))
def g_X12_best_L66 (x1 : Int32) (x2 : Int32) (x3 : Int32) (x4 : Int32) (s : Int32 × Int32 × Int32 × Int32 × MS) : Option ((Int32 × Int32 × Int32 × Int32 × MS) ⊕ ((Int32 × Int32 × Int32 × MS))) :=
  if (1 <<< ((s.2.2.2.2.1 7) &&& 31)) ≤ s.2.2.2.1 then (some (.inr ((s.1, s.2.1, s.2.2.1, s.2.2.2.2)))) else ((g_X12_ones s.2.2.2.1 s.2.2.2.2).bind fun p19 =>
  if p19.1 = x3 then ((g_X12_carry 0 1 p19.2).bind fun M22 =>
  (mld M22 23 x2).bind fun v24 =>
  (mld M22 24 x2).bind fun v26 =>
  (mld M22 25 x2).bind fun v28 =>
  (g_X12_work 1 x1 s.2.2.2.1 v24 v26 v28 0 M22).bind fun p31 =>
  (g_X12_leastNow 1 p31.2).bind fun p34 =>
  if p31.1 ≤ 0 then (some (.inl (s.1, s.2.1, s.2.2.1, s.2.2.2.1 + 1, p34.2))) else (if s.1 < 0 then (g_X12_best_L66_J159 x1 x2 x3 x4 s.2.2.2.1 p31.1 p34.1 p34.2) else (if p31.1 < s.2.1 then (g_X12_best_L66_J159 x1 x2 x3 x4 s.2.2.2.1 p31.1 p34.1 p34.2) else (if p31.1 = s.2.1 then (if p34.1 ≤ s.2.2.1 then (some (.inl (s.1, s.2.1, s.2.2.1, s.2.2.2.1 + 1, p34.2))) else (g_X12_best_L66_J159 x1 x2 x3 x4 s.2.2.2.1 p31.1 p34.1 p34.2)) else (some (.inl (s.1, s.2.1, s.2.2.1, s.2.2.2.1 + 1, p34.2))))))) else (some (.inl (s.1, s.2.1, s.2.2.1, s.2.2.2.1 + 1, p19.2))))
def g_X12_best (a1 : Int32) (a2 : Int32) (a3 : Int32) (a4 : Int32) (M : MS) : Option (Int32 × MS) :=
  (g_X12_noSong a1 M).bind fun p2 =>
  if p2.1 = 0 then ((g_X12_in a2.toInt64 0 (((p2.2.1 22) - 1).toInt64) p2.2).bind fun p6 =>
  if p6.1 = 0 then (some ((-2), p6.2)) else ((g_X12_in a3.toInt64 1 (((p6.2.1 7)).toInt64) p6.2).bind fun p10 =>
  if p10.1 = 0 then (some ((-2), p10.2)) else ((g_X12_in a4.toInt64 0 2 p10.2).bind fun p14 =>
  if p14.1 = 0 then (some ((-2), p14.2)) else ((iter (g_X12_best_L66 a1 a2 a3 a4) 100000 ((-1), 0, 0, 1, p14.2)).bind fun e43 =>
  if 0 ≤ e43.1 then (if a4 = 0 then (some (e43.1, e43.2.2.2)) else (if a4 = 1 then (some (e43.2.1, e43.2.2.2)) else (some (e43.2.2.1, e43.2.2.2)))) else (some ((-1), e43.2.2.2)))))) else (some ((-2), p2.2))
/-! HeaveSongsModel.between(I)I -/
def g_X12_between (a1 : Int32) (M : MS) : Option (Int32 × MS) :=
  (g_X12_in a1.toInt64 0 50 M).bind fun p2 =>
  if p2.1 = 0 then (some ((-2), p2.2)) else ((some (msI p2.2 26 a1)).bind fun M5 =>
  some ((p2.2.1 26), M5))
/-! HeaveSongsModel.count(I)I -/
def g_X12_count (a1 : Int32) (M : MS) : Option (Int32 × MS) :=
  if a1 = 0 then (some ((M.1 0), M)) else (if a1 = 1 then (some ((M.1 7), M)) else (if a1 = 2 then (some ((M.1 14), M)) else (if a1 = 3 then (some ((M.1 15), M)) else (if a1 = 4 then (some ((M.1 22), M)) else (if a1 = 5 then (some ((M.1 30), M)) else (if a1 = 6 then (some ((M.1 35), M)) else (if a1 = 7 then (some ((M.1 5), M)) else (if a1 = 8 then (some ((M.1 16), M)) else (some ((-2), M))))))))))
/-! HeaveSongsModel.crew(I)I -/
def g_X12_crew (a1 : Int32) (M : MS) : Option (Int32 × MS) :=
  (g_X12_in a1.toInt64 0 (((1 <<< ((M.1 7) &&& 31)) - 1).toInt64) M).bind fun p2 =>
  if p2.1 = 0 then (some ((-2), p2.2)) else ((some (msI p2.2 14 a1)).bind fun M5 =>
  some ((p2.2.1 14), M5))
/-! HeaveSongsModel.note(J)V -/
def g_X12_note (a1 : Int64) (M : MS) : Option (MS) :=
  (some (msJ M ((31 * M.2.1) + a1))).bind fun M1 =>
  some M1
/-! HeaveSongsModel.digest()J -/
def g_X12_digest_L9 (s : Int32 × MS) : Option ((Int32 × MS) ⊕ ((MS))) :=
  if 9 ≤ s.1 then (some (.inr (s.2))) else ((g_X12_count s.1 s.2).bind fun p5 =>
  (g_X12_note p5.1.toInt64 p5.2).bind fun M7 =>
  some (.inl (s.1 + 1, M7)))
def g_X12_digest_L33 (s : Int32 × MS) : Option ((Int32 × MS) ⊕ ((MS))) :=
  if (s.2.1 5) ≤ s.1 then (some (.inr (s.2))) else ((mld s.2 6 s.1).bind fun v14 =>
  (g_X12_note v14.toInt64 s.2).bind fun M16 =>
  some (.inl (s.1 + 1, M16)))
def g_X12_digest_L92 (x1 : Int32) (s : Int32 × MS) : Option ((Int32 × MS) ⊕ ((MS))) :=
  (mld s.2 1 x1).bind fun v31 =>
  if v31 ≤ s.1 then (some (.inr (s.2))) else ((mld s.2 3 ((24 * x1) + s.1)).bind fun v34 =>
  (g_X12_note v34.toInt64 s.2).bind fun M36 =>
  some (.inl (s.1 + 1, M36)))
def g_X12_digest_L126 (x1 : Int32) (s : Int32 × MS) : Option ((Int32 × MS) ⊕ ((MS))) :=
  (mld s.2 2 x1).bind fun v42 =>
  if v42 ≤ s.1 then (some (.inr (s.2))) else ((mld s.2 4 ((12 * x1) + s.1)).bind fun v45 =>
  (g_X12_note v45.toInt64 s.2).bind fun M47 =>
  some (.inl (s.1 + 1, M47)))
def g_X12_digest_L60 (s : Int32 × MS) : Option ((Int32 × MS) ⊕ ((MS))) :=
  if (s.2.1 0) ≤ s.1 then (some (.inr (s.2))) else ((mld s.2 1 s.1).bind fun v23 =>
  (g_X12_note v23.toInt64 s.2).bind fun M25 =>
  (mld M25 2 s.1).bind fun v27 =>
  (g_X12_note v27.toInt64 M25).bind fun M29 =>
  (iter (g_X12_digest_L92 s.1) 100000 (0, M29)).bind fun e40 =>
  (iter (g_X12_digest_L126 s.1) 100000 (0, e40)).bind fun e51 =>
  some (.inl (s.1 + 1, e51)))
def g_X12_digest_L166 (s : Int32 × MS) : Option ((Int32 × MS) ⊕ ((MS))) :=
  if (s.2.1 7) ≤ s.1 then (some (.inr (s.2))) else ((mld s.2 8 s.1).bind fun v58 =>
  (g_X12_note v58.toInt64 s.2).bind fun M60 =>
  (mld M60 9 s.1).bind fun v62 =>
  (g_X12_note v62.toInt64 M60).bind fun M64 =>
  (mld M64 10 s.1).bind fun v66 =>
  (g_X12_note v66.toInt64 M64).bind fun M68 =>
  (mld M68 11 s.1).bind fun v70 =>
  (g_X12_note v70.toInt64 M68).bind fun M72 =>
  (mld M72 12 s.1).bind fun v74 =>
  (g_X12_note v74.toInt64 M72).bind fun M76 =>
  (mld M76 13 s.1).bind fun v78 =>
  (g_X12_note v78.toInt64 M76).bind fun M80 =>
  some (.inl (s.1 + 1, M80)))
def g_X12_digest_L248 (s : Int32 × MS) : Option ((Int32 × MS) ⊕ ((MS))) :=
  if (s.2.1 16) ≤ s.1 then (some (.inr (s.2))) else ((mld s.2 17 s.1).bind fun v87 =>
  (g_X12_note v87.toInt64 s.2).bind fun M89 =>
  some (.inl (s.1 + 1, M89)))
def g_X12_digest_L275 (s : Int32 × MS) : Option ((Int32 × MS) ⊕ ((MS))) :=
  if (s.2.1 16) ≤ s.1 then (some (.inr (s.2))) else ((mld s.2 18 s.1).bind fun v96 =>
  (g_X12_note v96.toInt64 s.2).bind fun M98 =>
  some (.inl (s.1 + 1, M98)))
def g_X12_digest_L302 (s : Int32 × MS) : Option ((Int32 × MS) ⊕ ((MS))) :=
  if (s.2.1 22) ≤ s.1 then (some (.inr (s.2))) else ((mld s.2 23 s.1).bind fun v105 =>
  (g_X12_note v105.toInt64 s.2).bind fun M107 =>
  (mld M107 24 s.1).bind fun v109 =>
  (g_X12_note v109.toInt64 M107).bind fun M111 =>
  (mld M111 25 s.1).bind fun v113 =>
  (g_X12_note v113.toInt64 M111).bind fun M115 =>
  some (.inl (s.1 + 1, M115)))
def g_X12_digest_L351 (s : Int32 × MS) : Option ((Int32 × MS) ⊕ ((MS))) :=
  if (s.2.1 30) ≤ s.1 then (some (.inr (s.2))) else ((mld s.2 31 s.1).bind fun v122 =>
  (g_X12_note v122.toInt64 s.2).bind fun M124 =>
  (mld M124 32 s.1).bind fun v126 =>
  (g_X12_note v126.toInt64 M124).bind fun M128 =>
  some (.inl (s.1 + 1, M128)))
def g_X12_digest_L389 (s : Int32 × MS) : Option ((Int32 × MS) ⊕ ((MS))) :=
  if (s.2.1 35) ≤ s.1 then (some (.inr (s.2))) else ((mld s.2 36 s.1).bind fun v135 =>
  (g_X12_note v135.toInt64 s.2).bind fun M137 =>
  (mld M137 37 s.1).bind fun v139 =>
  (g_X12_note v139.toInt64 M137).bind fun M141 =>
  some (.inl (s.1 + 1, M141)))
def g_X12_digest (M : MS) : Option (Int64 × MS) :=
  (some (msJ M 283)).bind fun M1 =>
  (iter (g_X12_digest_L9) 100000 (0, M1)).bind fun e11 =>
  (iter (g_X12_digest_L33) 100000 (0, e11)).bind fun e20 =>
  (iter (g_X12_digest_L60) 100000 (0, e20)).bind fun e55 =>
  (iter (g_X12_digest_L166) 100000 (0, e55)).bind fun e84 =>
  (iter (g_X12_digest_L248) 100000 (0, e84)).bind fun e93 =>
  (iter (g_X12_digest_L275) 100000 (0, e93)).bind fun e102 =>
  (iter (g_X12_digest_L302) 100000 (0, e102)).bind fun e119 =>
  (iter (g_X12_digest_L351) 100000 (0, e119)).bind fun e132 =>
  (iter (g_X12_digest_L389) 100000 (0, e132)).bind fun e145 =>
  some (e145.2.1, e145)
/-! HeaveSongsModel.isSung(I)Z -/
def g_X12_isSung (a0 : Int32) (M : MS) : Option (Int32 × MS) :=
  if a0 = 1 then (some (1, M)) else (if a0 = 2 then (some (1, M)) else (some (0, M)))
/-! HeaveSongsModel.sungFrom(II)I -/
def g_X12_sungFrom_L2 (x1 : Int32) (s : Int32 × MS) : Option ((Int32 × MS) ⊕ ((Int32 × MS))) :=
  (mld s.2 1 x1).bind fun v1 =>
  if v1 ≤ s.1 then (some (.inr ((s.1, s.2)))) else ((mld s.2 3 ((24 * x1) + s.1)).bind fun v4 =>
  (g_X12_isSung v4 s.2).bind fun p7 =>
  if p7.1 = 0 then (some (.inl (s.1 + 1, p7.2))) else (some (.inr ((s.1, p7.2)))))
def g_X12_sungFrom (a1 : Int32) (a2 : Int32) (M : MS) : Option (Int32 × MS) :=
  (iter (g_X12_sungFrom_L2 a1) 100000 (a2, M)).bind fun e12 =>
  some (e12.1, e12.2)
/-! HeaveSongsModel.wrongOf(III)I -/
def g_X12_wrongOf_L25_J116 (x1 : Int32) (x2 : Int32) (x3 : Int32) (y5 : Int32) (z0 : Int32) (z1 : Int32) (M : MS) : Option ((Int32 × Int32 × MS) ⊕ ((Int32 × MS) ⊕ (MS))) :=
  (g_X12_bit z0 M).bind fun p23 =>
  some (.inl (z1 + p23.1, y5 + 1, p23.2))
def g_X12_wrongOf_L25_J108 (x1 : Int32) (x2 : Int32) (x3 : Int32) (y5 : Int32) (z0 : Int32) (z1 : Int32) (z2 : Int32) (M : MS) : Option ((Int32 × Int32 × MS) ⊕ ((Int32 × MS) ⊕ (MS))) :=
  if z1 = z0 then (g_X12_wrongOf_L25_J116 x1 x2 x3 y5 0 z2 M) else (g_X12_wrongOf_L25_J116 x1 x2 x3 y5 1 z2 M)
def g_X12_wrongOf_L25_J97 (x1 : Int32) (x2 : Int32) (x3 : Int32) (y5 : Int32) (y6 : Int32) (z0 : Int32) (z1 : Int32) (M : MS) : Option ((Int32 × Int32 × MS) ⊕ ((Int32 × MS) ⊕ (MS))) :=
  if y6 = 2 then (g_X12_wrongOf_L25_J108 x1 x2 x3 y5 1 z0 z1 M) else (g_X12_wrongOf_L25_J108 x1 x2 x3 y5 0 z0 z1 M)
def g_X12_wrongOf_L25 (x1 : Int32) (x2 : Int32) (x3 : Int32) (s : Int32 × Int32 × MS) : Option ((Int32 × Int32 × MS) ⊕ ((Int32 × MS) ⊕ (MS))) :=
  (mld s.2.2 31 x3).bind fun v6 =>
  if v6 ≤ s.2.1 then (some (.inr (.inl ((s.1, s.2.2))))) else ((mld s.2.2 3 (((24 * x1) + x2) + s.2.1)).bind fun v9 =>
  (g_X12_isSung v9 s.2.2).bind fun p12 =>
  if p12.1 = 0 then (some (.inr (.inr (p12.2)))) else ((mld p12.2 32 x3).bind fun v15 =>
  (mld p12.2 31 x3).bind fun v17 =>
  if ((v15 >>> (((v17 - 1) - s.2.1) &&& 31)) &&& 1) = 1 then (g_X12_wrongOf_L25_J97 x1 x2 x3 s.2.1 v9 1 s.1 p12.2) else (g_X12_wrongOf_L25_J97 x1 x2 x3 s.2.1 v9 0 s.1 p12.2)))
def g_X12_wrongOf (a1 : Int32) (a2 : Int32) (a3 : Int32) (M : MS) : Option (Int32 × MS) :=
  (mld M 31 a3).bind fun v1 =>
  (mld M 1 a1).bind fun v3 =>
  if (a2 + v1) ≤ v3 then ((iter (g_X12_wrongOf_L25 a1 a2 a3) 100000 (0, 0, M)).bind fun e27 =>
  Sum.elim (fun e30 => some (e30.1, e30.2)) (fun e31 => some ((-1), e31)) e27) else (some ((-1), M))
/-! HeaveSongsModel.findLines(I)V -/
def g_X12_findLines_L82_J144 (x1 : Int32) (x3 : Int32) (y5 : Int64) (y7 : Int32) (y8 : Int32) (y9 : Int32) (M : MS) : Option ((Int64 × Int32 × Int32 × MS) ⊕ ((Int64 × Int32 × MS))) :=
  if y9 < 0 then (some (.inl (y5, y7, y8 + 1, M))) else ((mld M 31 y8).bind fun v16 =>
  (mld M 34 (x3 + v16)).bind fun v18 =>
  if y7 ≤ (y9 + v18) then (some (.inl (y5, y7, y8 + 1, M))) else ((mld M 31 y8).bind fun v21 =>
  (mld M 34 (x3 + v21)).bind fun v23 =>
  some (.inl (y5, y9 + v23, y8 + 1, M))))
def g_X12_findLines_L82_J142 (x1 : Int32) (x3 : Int32) (y7 : Int32) (y8 : Int32) (y9 : Int32) (z0 : Int64) (M : MS) : Option ((Int64 × Int32 × Int32 × MS) ⊕ ((Int64 × Int32 × MS))) :=
  g_X12_findLines_L82_J144 x1 x3 z0 y7 y8 y9 M
def g_X12_findLines_L82 (x1 : Int32) (x3 : Int32) (s : Int64 × Int32 × Int32 × MS) : Option ((Int64 × Int32 × Int32 × MS) ⊕ ((Int64 × Int32 × MS))) :=
  if (s.2.2.2.1 30) ≤ s.2.2.1 then (some (.inr ((s.1, s.2.1, s.2.2.2)))) else ((g_X12_wrongOf x1 x3 s.2.2.1 s.2.2.2).bind fun p12 =>
  if p12.1 = 0 then ((mld p12.2 31 s.2.2.1).bind fun v25 =>
  (mldJ p12.2 (x3 + v25)).bind fun v27 =>
  if (lg_cmp (s.1 + v27) 1000000000000000) ≤ 0 then (g_X12_findLines_L82_J142 x1 x3 s.2.1 s.2.2.1 p12.1 (s.1 + v27) p12.2) else (g_X12_findLines_L82_J142 x1 x3 s.2.1 s.2.2.1 p12.1 1000000000000000 p12.2)) else (g_X12_findLines_L82_J144 x1 x3 s.1 s.2.1 s.2.2.1 p12.1 p12.2))
def g_X12_findLines_L25 (x1 : Int32) (s : Int32 × MS) : Option ((Int32 × MS) ⊕ ((MS))) :=
  if s.1 < 0 then (some (.inr (s.2))) else ((g_X12_sungFrom x1 s.1 s.2).bind fun p7 =>
  if p7.1 ≤ s.1 then ((iter (g_X12_findLines_L82 x1 s.1) 100000 (0, 1000000000, 0, p7.2)).bind fun e32 =>
  (mstJ e32.2.2 s.1 e32.1).bind fun M36 =>
  (mst M36 34 s.1 e32.2.1).bind fun M37 =>
  some (.inl (s.1 + (-1), M37))) else ((mldJ p7.2 p7.1).bind fun v38 =>
  (mstJ p7.2 s.1 v38).bind fun M40 =>
  (mld M40 34 p7.1).bind fun v41 =>
  (mst M40 34 s.1 v41).bind fun M43 =>
  some (.inl (s.1 + (-1), M43))))
def g_X12_findLines (a1 : Int32) (M : MS) : Option (MS) :=
  (mld M 1 a1).bind fun v1 =>
  (mstJ M v1 1).bind fun M3 =>
  (mst M3 34 v1 0).bind fun M4 =>
  (iter (g_X12_findLines_L25 a1) 100000 (v1 - 1, M4)).bind fun e46 =>
  some e46
/-! HeaveSongsModel.restAll(II)V -/
def g_X12_restAll_L2 (x1 : Int32) (x2 : Int32) (s : Int32 × MS) : Option ((Int32 × MS) ⊕ ((MS))) :=
  if (s.2.1 7) ≤ s.1 then (some (.inr (s.2))) else ((mld s.2 13 ((10 * x1) + s.1)).bind fun v2 =>
  (mld s.2 10 s.1).bind fun v4 =>
  (mld s.2 8 s.1).bind fun v6 =>
  if (v2 + (x2 * v4)) ≤ v6 then ((mst s.2 13 ((10 * x1) + s.1) (v2 + (x2 * v4))).bind fun M9 =>
  some (.inl (s.1 + 1, M9))) else ((mld s.2 8 s.1).bind fun v10 =>
  (mst s.2 13 ((10 * x1) + s.1) v10).bind fun M12 =>
  some (.inl (s.1 + 1, M12))))
def g_X12_restAll (a1 : Int32) (a2 : Int32) (M : MS) : Option (MS) :=
  (iter (g_X12_restAll_L2 a1 a2) 100000 (0, M)).bind fun e15 =>
  some e15
/-! HeaveSongsModel.go(II)Z -/
def g_X12_go_J80 (a1 : Int32) (a2 : Int32) (y3 : Int32) (z0 : Int32) (z1 : Int32) (z2 : Int32) (M : MS) : Option (Int32 × MS) :=
  (mst M 29 z2 ((z1 + z0) + y3)).bind fun M16 =>
  if y3 ≤ 0 then (some (0, M16)) else (some (1, M16))
def g_X12_go_J23 (a1 : Int32) (a2 : Int32) (M : MS) : Option (Int32 × MS) :=
  (mld M 23 a1).bind fun v4 =>
  (mld M 24 a1).bind fun v6 =>
  (mld M 25 a1).bind fun v8 =>
  (g_X12_work (a1 + 1) a2 (M.1 14) v4 v6 v8 0 M).bind fun p11 =>
  (mld p11.2 29 a1).bind fun v13 =>
  if a1 ≤ 0 then (g_X12_go_J80 a1 a2 p11.1 0 v13 (a1 + 1) p11.2) else (g_X12_go_J80 a1 a2 p11.1 (p11.2.1 26) v13 (a1 + 1) p11.2)
def g_X12_go (a1 : Int32) (a2 : Int32) (M : MS) : Option (Int32 × MS) :=
  (g_X12_carry a1 (a1 + 1) M).bind fun M1 =>
  if a1 ≤ 0 then (g_X12_go_J23 a1 a2 M1) else ((g_X12_restAll (a1 + 1) (M1.1 26) M1).bind fun M18 =>
  g_X12_go_J23 a1 a2 M18)
/-! HeaveSongsModel.findPlan()I -/
def g_X12_findPlan_L134 (x1 : Int32) (x2 : Int32) (s : Int32 × MS) : Option ((Int32 × MS) ⊕ ((MS))) :=
  if (s.2.1 22) ≤ s.1 then (some (.inr (s.2))) else ((mld s.2 27 s.1).bind fun v18 =>
  (mst s.2 28 s.1 v18).bind fun M20 =>
  some (.inl (s.1 + 1, M20)))
def g_X12_findPlan_L18_J160 (y1 : Int32) (y2 : Int32) (M : MS) : Option ((Int32 × Int32 × MS) ⊕ ((Int32 × MS))) :=
  (mld M 27 y2).bind fun v25 =>
  (mst M 27 y2 (v25 + 1)).bind fun M27 =>
  some (.inl (y1, y2, M27))
def g_X12_findPlan_L18_J122 (y2 : Int32) (M : MS) : Option ((Int32 × Int32 × MS) ⊕ ((Int32 × MS))) :=
  (mld M 29 (M.1 22)).bind fun v15 =>
  (iter (g_X12_findPlan_L134 v15 y2) 100000 (0, M)).bind fun e23 =>
  g_X12_findPlan_L18_J160 v15 y2 e23
def g_X12_findPlan_L18 (s : Int32 × Int32 × MS) : Option ((Int32 × Int32 × MS) ⊕ ((Int32 × MS))) :=
  if s.2.1 < 0 then (some (.inr ((s.1, s.2.2)))) else ((mld s.2.2 27 s.2.1).bind fun v4 =>
  if v4 = (s.2.2.1 0) then (if (s.2.1 + (-1)) < 0 then (some (.inl (s.1, s.2.1 + (-1), s.2.2))) else ((mld s.2.2 27 (s.2.1 + (-1))).bind fun v36 =>
  (mst s.2.2 27 (s.2.1 + (-1)) (v36 + 1)).bind fun M38 =>
  some (.inl (s.1, s.2.1 + (-1), M38)))) else ((mld s.2.2 27 s.2.1).bind fun v7 =>
  (g_X12_go s.2.1 v7 s.2.2).bind fun p10 =>
  if p10.1 = 0 then ((mld p10.2 27 s.2.1).bind fun v32 =>
  (mst p10.2 27 s.2.1 (v32 + 1)).bind fun M34 =>
  some (.inl (s.1, s.2.1, M34))) else (if (p10.2.1 22) ≤ (s.2.1 + 1) then (if s.1 < 0 then (g_X12_findPlan_L18_J122 s.2.1 p10.2) else ((mld p10.2 29 (p10.2.1 22)).bind fun v28 =>
  if s.1 ≤ v28 then (g_X12_findPlan_L18_J160 s.1 s.2.1 p10.2) else (g_X12_findPlan_L18_J122 s.2.1 p10.2))) else ((mst p10.2 27 (s.2.1 + 1) 0).bind fun M31 =>
  some (.inl (s.1, s.2.1 + 1, M31))))))
def g_X12_findPlan (M : MS) : Option (Int32 × MS) :=
  (mst M 29 0 0).bind fun M1 =>
  (mst M1 27 0 0).bind fun M2 =>
  (iter (g_X12_findPlan_L18) 100000 ((-1), 0, M2)).bind fun e41 =>
  some (e41.1, e41.2)
/-! HeaveSongsModel.findTree()V -/
def g_X12_findTree_L48_J89 (x1 : Int32) (x2 : Int32) (x6 : Int32) (y3 : Int32) (y4 : Int32) (y5 : Int32) (y7 : Int32) (z0 : Int32) (M : MS) : Option ((Int32 × Int32 × Int32 × Int32 × MS) ⊕ ((Int32 × Int32 × Int32 × MS))) :=
  if y4 ≤ z0 then (some (.inl (y3, y4, y5, y7 + 1, M))) else (some (.inl (x6, z0, y7, y7 + 1, M)))
def g_X12_findTree_L48 (x1 : Int32) (x2 : Int32) (x6 : Int32) (s : Int32 × Int32 × Int32 × Int32 × MS) : Option ((Int32 × Int32 × Int32 × Int32 × MS) ⊕ ((Int32 × Int32 × Int32 × MS))) :=
  if (s.2.2.2.2.1 0) ≤ s.2.2.2.1 then (some (.inr ((s.1, s.2.1, s.2.2.1, s.2.2.2.2)))) else (if ((x1 >>> (x6 &&& 31)) &&& 1) = 0 then (if ((x1 >>> (s.2.2.2.1 &&& 31)) &&& 1) = 1 then ((g_X12_apartOf x6 s.2.2.2.1 s.2.2.2.2).bind fun p11 =>
  g_X12_findTree_L48_J89 x1 x2 x6 s.1 s.2.1 s.2.2.1 s.2.2.2.1 p11.1 p11.2) else (g_X12_findTree_L48_J89 x1 x2 x6 s.1 s.2.1 s.2.2.1 s.2.2.2.1 1000000000 s.2.2.2.2)) else (some (.inr ((s.1, s.2.1, s.2.2.1, s.2.2.2.2)))))
def g_X12_findTree_L36 (x1 : Int32) (x2 : Int32) (s : Int32 × Int32 × Int32 × Int32 × MS) : Option ((Int32 × Int32 × Int32 × Int32 × MS) ⊕ ((Int32 × Int32 × Int32 × MS))) :=
  if (s.2.2.2.2.1 0) ≤ s.2.2.2.1 then (some (.inr ((s.1, s.2.1, s.2.2.1, s.2.2.2.2)))) else ((iter (g_X12_findTree_L48 x1 x2 s.2.2.2.1) 100000 (s.1, s.2.1, s.2.2.1, 0, s.2.2.2.2)).bind fun e15 =>
  some (.inl (e15.1, e15.2.1, e15.2.2.1, s.2.2.2.1 + 1, e15.2.2.2)))
def g_X12_findTree_L16 (s : Int32 × Int32 × MS) : Option ((Int32 × Int32 × MS) ⊕ ((MS))) :=
  if (s.2.2.1 0) ≤ s.2.1 then (some (.inr (s.2.2))) else ((iter (g_X12_findTree_L36 s.1 s.2.1) 100000 ((-1), 1000000000, (-1), 0, s.2.2)).bind fun e22 =>
  (mst e22.2.2.2 44 e22.1 e22.2.2.1).bind fun M27 =>
  (some (msI M27 45 ((M27.1 45) + e22.2.1))).bind fun M28 =>
  some (.inl (s.1 ||| (1 <<< (e22.1 &&& 31)), s.2.1 + 1, M28)))
def g_X12_findTree (M : MS) : Option (MS) :=
  (some (msI M 45 0)).bind fun M1 =>
  (mst M1 44 0 (-1)).bind fun M3 =>
  (iter (g_X12_findTree_L16) 100000 (1, 1, M3)).bind fun e32 =>
  some e32
/-! HeaveSongsModel.floor(I)I -/
def g_X12_floor (a1 : Int32) (M : MS) : Option (Int32 × MS) :=
  (g_X12_in a1.toInt64 0 100 M).bind fun p2 =>
  if p2.1 = 0 then (some ((-2), p2.2)) else ((some (msI p2.2 15 a1)).bind fun M5 =>
  some ((p2.2.1 15), M5))
/-! HeaveSongsModel.force(I)I -/
def g_X12_force (a1 : Int32) (M : MS) : Option (Int32 × MS) :=
  if 0 ≤ a1 then (if (M.1 16) ≤ a1 then (some ((-1), M)) else ((mld M 18 a1).bind fun v3 =>
  some (v3, M))) else (some ((-2), M))
/-! HeaveSongsModel.hand(IIII)I -/
def g_X12_hand (a1 : Int32) (a2 : Int32) (a3 : Int32) (a4 : Int32) (M : MS) : Option (Int32 × MS) :=
  (g_X12_in a1.toInt64 1 100 M).bind fun p2 =>
  if p2.1 = 0 then (some ((-2), p2.2)) else ((g_X12_in a2.toInt64 0 30 p2.2).bind fun p6 =>
  if p6.1 = 0 then (some ((-2), p6.2)) else ((g_X12_in a3.toInt64 0 30 p6.2).bind fun p10 =>
  if p10.1 = 0 then (some ((-2), p10.2)) else ((g_X12_in a4.toInt64 0 30 p10.2).bind fun p14 =>
  if p14.1 = 0 then (some ((-2), p14.2)) else (if (p14.2.1 7) = 10 then (some ((-4), p14.2)) else ((mst p14.2 8 (p14.2.1 7) a1).bind fun M18 =>
  (mst M18 9 (M18.1 7) a2).bind fun M19 =>
  (mst M19 10 (M19.1 7) a3).bind fun M20 =>
  (mst M20 11 (M20.1 7) a4).bind fun M21 =>
  (mst M21 12 (M21.1 7) 0).bind fun M22 =>
  (mst M22 13 (M22.1 7) a1).bind fun M23 =>
  (some (msI M23 14 ((M23.1 14) ||| (1 <<< ((M23.1 7) &&& 31))))).bind fun M24 =>
  (some (msI M24 7 ((M24.1 7) + 1))).bind fun M26 =>
  some ((M26.1 7) - 1, M26))))))
/-! HeaveSongsModel.hangs(I)I -/
def g_X12_hangs (a1 : Int32) (M : MS) : Option (Int32 × MS) :=
  (g_X12_noSong a1 M).bind fun p2 =>
  if p2.1 = 0 then ((g_X12_findTree p2.2).bind fun M5 =>
  (mld M5 44 a1).bind fun v7 =>
  some (v7, M5)) else (some ((-2), p2.2))
/-! HeaveSongsModel.isTask(III)Z -/
def g_X12_isTask (a0 : Int32) (a1 : Int32) (a2 : Int32) (M : MS) : Option (Int32 × MS) :=
  (g_X12_in a0.toInt64 1 3000 M).bind fun p2 =>
  if p2.1 = 0 then (some (0, p2.2)) else ((g_X12_in a1.toInt64 0 1000 p2.2).bind fun p6 =>
  if p6.1 = 0 then (some (0, p6.2)) else ((g_X12_in a2.toInt64 0 50 p6.2).bind fun p10 =>
  if p10.1 = 0 then (some (0, p10.2)) else (some (1, p10.2))))
/-! HeaveSongsModel.haul(IIII)I -/
def g_X12_haul (a1 : Int32) (a2 : Int32) (a3 : Int32) (a4 : Int32) (M : MS) : Option (Int32 × MS) :=
  (g_X12_noSong a1 M).bind fun p2 =>
  if p2.1 = 0 then ((g_X12_isTask a2 a3 a4 p2.2).bind fun p6 =>
  if p6.1 = 0 then (some ((-2), p6.2)) else ((g_X12_work 0 a1 (p6.2.1 14) a2 a3 a4 1 p6.2).bind fun p10 =>
  if 0 ≤ p10.1 then (some (p10.1, p10.2)) else (some ((-10) + p10.1, p10.2)))) else (some ((-2), p2.2))
/-! HeaveSongsModel.isOf(I)Z -/
def g_X12_isOf (a1 : Int32) (M : MS) : Option (Int32 × MS) :=
  if (((M.1 14) >>> (a1 &&& 31)) &&& 1) = 1 then (some (1, M)) else (some (0, M))
/-! HeaveSongsModel.noHand(I)Z -/
def g_X12_noHand (a1 : Int32) (M : MS) : Option (Int32 × MS) :=
  (g_X12_in a1.toInt64 0 (((M.1 7) - 1).toInt64) M).bind fun p2 =>
  if p2.1 = 0 then (some (1, p2.2)) else (some (0, p2.2))
/-! HeaveSongsModel.late(II)I -/
def g_X12_late (a1 : Int32) (a2 : Int32) (M : MS) : Option (Int32 × MS) :=
  (g_X12_noHand a1 M).bind fun p2 =>
  if p2.1 = 0 then ((g_X12_in a2.toInt64 0 3 p2.2).bind fun p6 =>
  if p6.1 = 0 then (some ((-2), p6.2)) else ((mld p6.2 12 a1).bind fun v9 =>
  (mst p6.2 12 a1 a2).bind fun M11 =>
  some (v9, M11))) else (some ((-2), p2.2))
/-! HeaveSongsModel.lineAt(IJI)I -/
def g_X12_lineAt_L71_J137 (x1 : Int32) (x4 : Int32) (x7 : Int32) (x8 : Int32) (y9 : Int32) (y10 : Int32) (z0 : Int64) (z1 : Int64) (M : MS) : Option ((Int64 × Int32 × Int32 × MS) ⊕ ((Int64 × Int32 × MS))) :=
  if y10 = 0 then (some (.inl (z1 - z0, y9 + 1, y10, M))) else (some (.inl (z1 - z0, y9 + 0, y10, M)))
def g_X12_lineAt_L71_J122 (x1 : Int32) (x4 : Int32) (x7 : Int32) (x8 : Int32) (y5 : Int64) (y9 : Int32) (y11 : Int64) (z0 : Int32) (M : MS) : Option ((Int64 × Int32 × Int32 × MS) ⊕ ((Int64 × Int32 × MS))) :=
  if z0 = 0 then (g_X12_lineAt_L71_J137 x1 x4 x7 x8 y9 z0 y11 y5 M) else (g_X12_lineAt_L71_J137 x1 x4 x7 x8 y9 z0 0 y5 M)
def g_X12_lineAt_L71_J107 (x1 : Int32) (x4 : Int32) (x7 : Int32) (x8 : Int32) (y5 : Int64) (y9 : Int32) (z0 : Int64) (M : MS) : Option ((Int64 × Int32 × Int32 × MS) ⊕ ((Int64 × Int32 × MS))) :=
  if 0 ≤ (lg_cmp y5 z0) then (g_X12_lineAt_L71_J122 x1 x4 x7 x8 y5 y9 z0 0 M) else (g_X12_lineAt_L71_J122 x1 x4 x7 x8 y5 y9 z0 1 M)
def g_X12_lineAt_L71 (x1 : Int32) (x4 : Int32) (x7 : Int32) (x8 : Int32) (s : Int64 × Int32 × Int32 × MS) : Option ((Int64 × Int32 × Int32 × MS) ⊕ ((Int64 × Int32 × MS))) :=
  if s.2.2.1 = 0 then ((g_X12_wrongOf x1 x7 s.2.1 s.2.2.2).bind fun p20 =>
  if p20.1 = 0 then ((mld p20.2 31 s.2.1).bind fun v26 =>
  (mldJ p20.2 (x7 + v26)).bind fun v28 =>
  g_X12_lineAt_L71_J107 x1 x4 x7 x8 s.1 s.2.1 v28 p20.2) else (g_X12_lineAt_L71_J107 x1 x4 x7 x8 s.1 s.2.1 0 p20.2)) else (some (.inr ((s.1, s.2.1, s.2.2.2))))
def g_X12_lineAt_L54 (x1 : Int32) (x4 : Int32) (s : Int64 × Int32 × Int32 × MS) : Option ((Int64 × Int32 × Int32 × MS) ⊕ ((MS) ⊕ (Int32 × MS))) :=
  (mld s.2.2.2 1 x1).bind fun v15 =>
  if v15 ≤ s.2.1 then (some (.inr (.inl (s.2.2.2)))) else ((iter (g_X12_lineAt_L71 x1 x4 s.2.1 s.2.2.1) 100000 (s.1, 0, 0, s.2.2.2)).bind fun e32 =>
  if s.2.2.1 = x4 then (some (.inr (.inr ((e32.2.1, e32.2.2))))) else ((mld e32.2.2 31 e32.2.1).bind fun v37 =>
  (g_X12_sungFrom x1 (s.2.1 + v37) e32.2.2).bind fun p40 =>
  some (.inl (e32.1, p40.1, s.2.2.1 + 1, p40.2))))
def g_X12_lineAt (a1 : Int32) (a2 : Int64) (a4 : Int32) (M : MS) : Option (Int32 × MS) :=
  (g_X12_noSong a1 M).bind fun p2 =>
  if p2.1 = 0 then (if (lg_cmp a2 0) < 0 then (some ((-2), p2.2)) else (if 0 ≤ a4 then ((g_X12_findLines a1 p2.2).bind fun M7 =>
  (mldJ M7 0).bind fun v9 =>
  if (lg_cmp a2 v9) < 0 then ((g_X12_sungFrom a1 0 M7).bind fun p13 =>
  (iter (g_X12_lineAt_L54 a1 a4) 100000 (a2, p13.1, 0, p13.2)).bind fun e44 =>
  Sum.elim (fun e47 => some ((-1), e47)) (fun e48 => some (e48.1, e48.2)) e44) else (some ((-1), M7))) else (some ((-2), p2.2)))) else (some ((-2), p2.2))
/-! HeaveSongsModel.lines(I)J -/
def g_X12_lines (a1 : Int32) (M : MS) : Option (Int64 × MS) :=
  (g_X12_noSong a1 M).bind fun p2 =>
  if p2.1 = 0 then ((g_X12_findLines a1 p2.2).bind fun M5 =>
  (mldJ M5 0).bind fun v7 =>
  some (v7, M5)) else (some ((-2), p2.2))
/-! HeaveSongsModel.mark(II)I -/
def g_X12_mark (a1 : Int32) (a2 : Int32) (M : MS) : Option (Int32 × MS) :=
  (g_X12_in a1.toInt64 0 299 M).bind fun p2 =>
  if p2.1 = 0 then (some ((-2), p2.2)) else ((g_X12_in a2.toInt64 0 5000 p2.2).bind fun p6 =>
  if p6.1 = 0 then (some ((-2), p6.2)) else (if (p6.2.1 35) = 60 then (some ((-4), p6.2)) else ((mst p6.2 36 (p6.2.1 35) a1).bind fun M10 =>
  (mst M10 37 (M10.1 35) a2).bind fun M11 =>
  (some (msI M11 35 ((M11.1 35) + 1))).bind fun M12 =>
  some ((M12.1 35), M12))))
/-! HeaveSongsModel.near(I)I -/
def g_X12_near (a1 : Int32) (M : MS) : Option (Int32 × MS) :=
  (g_X12_noSong a1 M).bind fun p2 =>
  if p2.1 = 0 then ((g_X12_findLines a1 p2.2).bind fun M5 =>
  (mld M5 34 0).bind fun v7 =>
  if v7 < 1000000000 then ((mld M5 34 0).bind fun v10 =>
  some (v10, M5)) else (some ((-1), M5))) else (some ((-2), p2.2))
/-! HeaveSongsModel.nearAt(II)I -/
def g_X12_nearAt_L56 (x1 : Int32) (x2 : Int32) (x3 : Int32) (x4 : Int32) (s : Int32 × MS) : Option ((Int32 × MS) ⊕ ((Int32 × MS))) :=
  (g_X12_wrongOf x1 x3 s.1 s.2).bind fun p18 =>
  if p18.1 < 0 then (some (.inl (s.1 + 1, p18.2))) else ((g_X12_wrongOf x1 x3 s.1 p18.2).bind fun p22 =>
  (mld p22.2 31 s.1).bind fun v24 =>
  (mld p22.2 34 (x3 + v24)).bind fun v26 =>
  (mld p22.2 34 x3).bind fun v28 =>
  if (p22.1 + v26) = v28 then (some (.inr ((s.1, p22.2)))) else (some (.inl (s.1 + 1, p22.2))))
def g_X12_nearAt_L43 (x1 : Int32) (x2 : Int32) (s : Int32 × Int32 × MS) : Option ((Int32 × Int32 × MS) ⊕ ((MS) ⊕ (Int32 × MS))) :=
  (mld s.2.2 1 x1).bind fun v14 =>
  if v14 ≤ s.1 then (some (.inr (.inl (s.2.2)))) else ((iter (g_X12_nearAt_L56 x1 x2 s.1 s.2.1) 100000 (0, s.2.2)).bind fun e33 =>
  if s.2.1 = x2 then (some (.inr (.inr ((e33.1, e33.2))))) else ((mld e33.2 31 e33.1).bind fun v37 =>
  (g_X12_sungFrom x1 (s.1 + v37) e33.2).bind fun p40 =>
  some (.inl (p40.1, s.2.1 + 1, p40.2))))
def g_X12_nearAt (a1 : Int32) (a2 : Int32) (M : MS) : Option (Int32 × MS) :=
  (g_X12_noSong a1 M).bind fun p2 =>
  if p2.1 = 0 then (if 0 ≤ a2 then ((g_X12_findLines a1 p2.2).bind fun M6 =>
  (mld M6 34 0).bind fun v8 =>
  if v8 < 1000000000 then ((g_X12_sungFrom a1 0 M6).bind fun p12 =>
  (iter (g_X12_nearAt_L43 a1 a2) 100000 (p12.1, 0, p12.2)).bind fun e44 =>
  Sum.elim (fun e47 => some ((-1), e47)) (fun e48 => some (e48.1, e48.2)) e44) else (some ((-1), M6))) else (some ((-2), p2.2))) else (some ((-2), p2.2))
/-! HeaveSongsModel.now(I)I -/
def g_X12_now (a1 : Int32) (M : MS) : Option (Int32 × MS) :=
  (g_X12_noHand a1 M).bind fun p2 =>
  if p2.1 = 0 then ((mld p2.2 13 a1).bind fun v5 =>
  some (v5, p2.2)) else (some ((-2), p2.2))
/-! HeaveSongsModel.pause(I)I -/
def g_X12_pause_L25_J54 (y3 : Int32) (z0 : Int32) (z1 : Int32) (M : MS) : Option ((Int32 × Int32 × MS) ⊕ ((Int32 × MS))) :=
  (g_X12_bit z0 M).bind fun p14 =>
  some (.inl (z1 + p14.1, y3 + 1, p14.2))
def g_X12_pause_L25 (s : Int32 × Int32 × MS) : Option ((Int32 × Int32 × MS) ⊕ ((Int32 × MS))) :=
  if (s.2.2.1 7) ≤ s.2.1 then (some (.inr ((s.1, s.2.2)))) else ((mld s.2.2 13 s.2.1).bind fun v8 =>
  (mld s.2.2 8 s.2.1).bind fun v10 =>
  if v8 = v10 then (g_X12_pause_L25_J54 s.2.1 1 s.1 s.2.2) else (g_X12_pause_L25_J54 s.2.1 0 s.1 s.2.2))
def g_X12_pause (a1 : Int32) (M : MS) : Option (Int32 × MS) :=
  (g_X12_in a1.toInt64 0 100 M).bind fun p2 =>
  if p2.1 = 0 then (some ((-2), p2.2)) else ((g_X12_restAll 0 a1 p2.2).bind fun M5 =>
  (iter (g_X12_pause_L25) 100000 (0, 0, M5)).bind fun e18 =>
  some (e18.1, e18.2))
/-! HeaveSongsModel.plan()I -/
def g_X12_plan (M : MS) : Option (Int32 × MS) :=
  if (M.1 22) = 0 then (some ((-3), M)) else (if (M.1 0) = 0 then (some ((-3), M)) else ((g_X12_findPlan M).bind fun p4 =>
  some (p4.1, p4.2)))
/-! HeaveSongsModel.planAt(I)I -/
def g_X12_planAt (a1 : Int32) (M : MS) : Option (Int32 × MS) :=
  (g_X12_in a1.toInt64 0 (((M.1 22) - 1).toInt64) M).bind fun p2 =>
  if p2.1 = 0 then (some ((-2), p2.2)) else (if (p2.2.1 0) = 0 then (some ((-3), p2.2)) else ((g_X12_findPlan p2.2).bind fun p7 =>
  if p7.1 < 0 then (some ((-1), p7.2)) else ((mld p7.2 28 a1).bind fun v10 =>
  some (v10, p7.2))))
/-! HeaveSongsModel.refrain(I)I -/
def g_X12_refrain_L25 (x1 : Int32) (s : Int32 × MS) : Option ((Int32 × MS) ⊕ ((MS))) :=
  if (s.2.1 5) ≤ s.1 then (some (.inr (s.2))) else ((mld s.2 6 s.1).bind fun v7 =>
  (mst s.2 4 ((12 * x1) + s.1) v7).bind fun M9 =>
  some (.inl (s.1 + 1, M9)))
def g_X12_refrain (a1 : Int32) (M : MS) : Option (Int32 × MS) :=
  (g_X12_noSong a1 M).bind fun p2 =>
  if p2.1 = 0 then (if (p2.2.1 5) ≤ 12 then ((iter (g_X12_refrain_L25 a1) 100000 (0, p2.2)).bind fun e12 =>
  (mst e12 2 a1 (e12.1 5)).bind fun M14 =>
  (some (msI M14 5 0)).bind fun M15 =>
  (mld M15 2 a1).bind fun v17 =>
  some (v17, M15)) else (some ((-3), p2.2))) else (some ((-2), p2.2))
/-! HeaveSongsModel.rest()I -/
def g_X12_rest (M : MS) : Option (Int32 × MS) :=
  (some (msI M 5 0)).bind fun M1 =>
  some ((M.1 5), M1)
/-! HeaveSongsModel.song()I -/
def g_X12_song_L24 (s : Int32 × MS) : Option ((Int32 × MS) ⊕ ((MS))) :=
  if (s.2.1 5) ≤ s.1 then (some (.inr (s.2))) else ((mld s.2 6 s.1).bind fun v4 =>
  (mst s.2 3 ((24 * (s.2.1 0)) + s.1) v4).bind fun M6 =>
  some (.inl (s.1 + 1, M6)))
def g_X12_song (M : MS) : Option (Int32 × MS) :=
  if (M.1 5) = 0 then (some ((-3), M)) else (if (M.1 0) = 6 then (some ((-4), M)) else ((iter (g_X12_song_L24) 100000 (0, M)).bind fun e9 =>
  (mst e9 1 (e9.1 0) (e9.1 5)).bind fun M11 =>
  (mst M11 2 (M11.1 0) 0).bind fun M12 =>
  (some (msI M12 5 0)).bind fun M13 =>
  (some (msI M13 0 ((M13.1 0) + 1))).bind fun M15 =>
  some ((M15.1 0) - 1, M15)))
/-! HeaveSongsModel.sumOf(IIIIIII)I -/
def g_X12_sumOf_L3 (x1 : Int32) (x2 : Int32) (x3 : Int32) (x4 : Int32) (x5 : Int32) (x6 : Int32) (x7 : Int32) (s : Int32 × MS) : Option ((Int32 × MS) ⊕ ((MS))) :=
  if (s.2.1 7) ≤ s.1 then (some (.inr (s.2))) else ((mld s.2 8 s.1).bind fun v2 =>
  (mst s.2 13 (10 + s.1) v2).bind fun M4 =>
  if s.1 = x4 then ((mst M4 19 s.1 x5).bind fun M9 =>
  some (.inl (s.1 + 1, M9))) else (if s.1 = x6 then ((mst M4 19 s.1 x7).bind fun M8 =>
  some (.inl (s.1 + 1, M8))) else ((mst M4 19 s.1 0).bind fun M7 =>
  some (.inl (s.1 + 1, M7)))))
def g_X12_sumOf_L75 (x1 : Int32) (x2 : Int32) (x3 : Int32) (s : Int32 × MS) : Option ((Int32 × MS) ⊕ ((MS))) :=
  if 300 ≤ s.1 then (some (.inr (s.2))) else ((g_X12_step 1 x1 (s.2.1 14) x2 x3 s.1 s.2).bind fun M17 =>
  (mst M17 38 s.1 (M17.1 20)).bind fun M19 =>
  some (.inl (s.1 + 1, M19)))
def g_X12_sumOf_L120 (s : Int32 × Int32 × MS) : Option ((Int32 × Int32 × MS) ⊕ ((Int32 × MS))) :=
  if (s.2.2.1 35) ≤ s.2.1 then (some (.inr ((s.1, s.2.2)))) else ((mld s.2.2 36 s.2.1).bind fun v25 =>
  (mld s.2.2 38 v25).bind fun v27 =>
  (mld s.2.2 37 s.2.1).bind fun v29 =>
  if 0 ≤ (v27 - v29) then (some (.inl (s.1 + (v27 - v29), s.2.1 + 1, s.2.2))) else (some (.inl (s.1 + (0 - (v27 - v29)), s.2.1 + 1, s.2.2))))
def g_X12_sumOf (a1 : Int32) (a2 : Int32) (a3 : Int32) (a4 : Int32) (a5 : Int32) (a6 : Int32) (a7 : Int32) (M : MS) : Option (Int32 × MS) :=
  (iter (g_X12_sumOf_L3 a1 a2 a3 a4 a5 a6 a7) 100000 (0, M)).bind fun e12 =>
  (some (msI e12 20 0)).bind fun M14 =>
  (iter (g_X12_sumOf_L75 a1 a2 a3) 100000 (0, M14)).bind fun e22 =>
  (iter (g_X12_sumOf_L120) 100000 (0, 0, e22)).bind fun e34 =>
  some (e34.1, e34.2)
/-! HeaveSongsModel.task(III)I -/
def g_X12_task (a1 : Int32) (a2 : Int32) (a3 : Int32) (M : MS) : Option (Int32 × MS) :=
  (g_X12_isTask a1 a2 a3 M).bind fun p2 =>
  if p2.1 = 0 then (some ((-2), p2.2)) else (if (p2.2.1 22) = 4 then (some ((-4), p2.2)) else ((mst p2.2 23 (p2.2.1 22) a1).bind fun M6 =>
  (mst M6 24 (M6.1 22) a2).bind fun M7 =>
  (mst M7 25 (M7.1 22) a3).bind fun M8 =>
  (some (msI M8 22 ((M8.1 22) + 1))).bind fun M9 =>
  some ((M9.1 22) - 1, M9)))
/-! HeaveSongsModel.tree()I -/
def g_X12_tree (M : MS) : Option (Int32 × MS) :=
  (g_X12_findTree M).bind fun M1 =>
  some ((M1.1 45), M1)
/-! HeaveSongsModel.tryTwo(IIIIII)I -/
def g_X12_tryTwo_L7_J51 (x1 : Int32) (x2 : Int32) (x3 : Int32) (x4 : Int32) (x5 : Int32) (y8 : Int32) (y9 : Int32) (M : MS) : Option ((Int32 × Int32 × MS) ⊕ ((Int32 × MS))) :=
  (some (msI M 39 x4)).bind fun M6 =>
  (some (msI M6 40 x5)).bind fun M8 =>
  (some (msI M8 41 (1 + (y8 / 3)))).bind fun M10 =>
  (some (msI M10 42 (1 + (y8 - y8 / 3 * 3)))).bind fun M12 =>
  some (.inl (y9, y8 + 1, M12))
def g_X12_tryTwo_L7 (x1 : Int32) (x2 : Int32) (x3 : Int32) (x4 : Int32) (x5 : Int32) (s : Int32 × Int32 × MS) : Option ((Int32 × Int32 × MS) ⊕ ((Int32 × MS))) :=
  if 9 ≤ s.2.1 then (some (.inr ((s.1, s.2.2)))) else ((g_X12_sumOf x1 x2 x3 x4 (1 + (s.2.1 / 3)) x5 (1 + (s.2.1 - s.2.1 / 3 * 3)) s.2.2).bind fun p3 =>
  if s.1 < 0 then (g_X12_tryTwo_L7_J51 x1 x2 x3 x4 x5 s.2.1 p3.1 p3.2) else (if s.1 ≤ p3.1 then (some (.inl (s.1, s.2.1 + 1, p3.2))) else (g_X12_tryTwo_L7_J51 x1 x2 x3 x4 x5 s.2.1 p3.1 p3.2)))
def g_X12_tryTwo (a1 : Int32) (a2 : Int32) (a3 : Int32) (a4 : Int32) (a5 : Int32) (a6 : Int32) (M : MS) : Option (Int32 × MS) :=
  (iter (g_X12_tryTwo_L7 a1 a2 a3 a4 a5) 100000 (a6, 0, M)).bind fun e17 =>
  some (e17.1, e17.2)
/-! HeaveSongsModel.two(IIII)I -/
def g_X12_two_L54 (x1 : Int32) (x2 : Int32) (x3 : Int32) (x4 : Int32) (x6 : Int32) (s : Int32 × Int32 × MS) : Option ((Int32 × Int32 × MS) ⊕ ((Int32 × MS))) :=
  if (s.2.2.1 7) ≤ s.2.1 then (some (.inr ((s.1, s.2.2)))) else ((g_X12_isOf x6 s.2.2).bind fun p16 =>
  if p16.1 = 0 then (some (.inl (s.1, s.2.1 + 1, p16.2))) else ((g_X12_isOf s.2.1 p16.2).bind fun p20 =>
  if p20.1 = 0 then (some (.inl (s.1, s.2.1 + 1, p20.2))) else ((g_X12_tryTwo x1 x2 x3 x6 s.2.1 s.1 p20.2).bind fun p24 =>
  some (.inl (p24.1, s.2.1 + 1, p24.2)))))
def g_X12_two_L39 (x1 : Int32) (x2 : Int32) (x3 : Int32) (x4 : Int32) (s : Int32 × Int32 × MS) : Option ((Int32 × Int32 × MS) ⊕ ((Int32 × MS))) :=
  if (s.2.2.1 7) ≤ s.2.1 then (some (.inr ((s.1, s.2.2)))) else ((iter (g_X12_two_L54 x1 x2 x3 x4 s.2.1) 100000 (s.1, s.2.1 + 1, s.2.2)).bind fun e28 =>
  some (.inl (e28.1, s.2.1 + 1, e28.2)))
def g_X12_two (a1 : Int32) (a2 : Int32) (a3 : Int32) (a4 : Int32) (M : MS) : Option (Int32 × MS) :=
  (g_X12_noSong a1 M).bind fun p2 =>
  if p2.1 = 0 then ((g_X12_isTask 1 a2 a3 p2.2).bind fun p6 =>
  if p6.1 = 0 then (some ((-2), p6.2)) else ((g_X12_in a4.toInt64 0 4 p6.2).bind fun p10 =>
  if p10.1 = 0 then (some ((-2), p10.2)) else ((iter (g_X12_two_L39 a1 a2 a3 a4) 100000 ((-1), 0, p10.2)).bind fun e33 =>
  if 0 ≤ e33.1 then (if a4 = 0 then (some ((e33.2.1 39), e33.2)) else (if a4 = 1 then (some ((e33.2.1 40), e33.2)) else (if a4 = 2 then (some ((e33.2.1 41), e33.2)) else (if a4 = 3 then (some ((e33.2.1 42), e33.2)) else (some (e33.1, e33.2)))))) else (some ((-1), e33.2))))) else (some ((-2), p2.2))
/-! HeaveSongsModel.who(IIII)I -/
def g_X12_who_L71 (x1 : Int32) (x2 : Int32) (x3 : Int32) (x4 : Int32) (x6 : Int32) (s : Int32 × Int32 × MS) : Option ((Int32 × Int32 × MS) ⊕ ((Int32 × MS))) :=
  if 4 ≤ s.2.1 then (some (.inr ((s.1, s.2.2)))) else ((g_X12_isOf x6 s.2.2).bind fun p23 =>
  if p23.1 = 0 then (some (.inr ((s.1, p23.2)))) else ((g_X12_sumOf x1 x2 x3 x6 s.2.1 (-1) 0 p23.2).bind fun p27 =>
  if s.1 ≤ p27.1 then (some (.inl (s.1, s.2.1 + 1, p27.2))) else ((some (msI p27.2 39 x6)).bind fun M30 =>
  (some (msI M30 41 s.2.1)).bind fun M32 =>
  some (.inl (p27.1, s.2.1 + 1, M32)))))
def g_X12_who_L59 (x1 : Int32) (x2 : Int32) (x3 : Int32) (x4 : Int32) (s : Int32 × Int32 × MS) : Option ((Int32 × Int32 × MS) ⊕ ((Int32 × MS))) :=
  if (s.2.2.1 7) ≤ s.2.1 then (some (.inr ((s.1, s.2.2)))) else ((iter (g_X12_who_L71 x1 x2 x3 x4 s.2.1) 100000 (s.1, 1, s.2.2)).bind fun e36 =>
  some (.inl (e36.1, s.2.1 + 1, e36.2)))
def g_X12_who (a1 : Int32) (a2 : Int32) (a3 : Int32) (a4 : Int32) (M : MS) : Option (Int32 × MS) :=
  (g_X12_noSong a1 M).bind fun p2 =>
  if p2.1 = 0 then ((g_X12_isTask 1 a2 a3 p2.2).bind fun p6 =>
  if p6.1 = 0 then (some ((-2), p6.2)) else ((g_X12_in a4.toInt64 0 2 p6.2).bind fun p10 =>
  if p10.1 = 0 then (some ((-2), p10.2)) else ((g_X12_sumOf a1 a2 a3 (-1) 0 (-1) 0 p10.2).bind fun p14 =>
  (some (msI p14.2 39 (-1))).bind fun M16 =>
  (some (msI M16 41 0)).bind fun M18 =>
  (iter (g_X12_who_L59 a1 a2 a3 a4) 100000 (p14.1, 0, M18)).bind fun e41 =>
  if a4 = 0 then (some ((e41.2.1 39), e41.2)) else (if a4 = 1 then (some ((e41.2.1 41), e41.2)) else (some (e41.1, e41.2)))))) else (some ((-2), p2.2))
/-! HeaveSongsModel.wipe()I -/
def g_X12_wipe (M : MS) : Option (Int32 × MS) :=
  (some (msI M 35 0)).bind fun M1 =>
  some ((M.1 35), M1)
/-! HeaveSongsModel.won(I)I -/
def g_X12_won (a1 : Int32) (M : MS) : Option (Int32 × MS) :=
  if 0 ≤ a1 then (if (M.1 16) ≤ a1 then (some ((-1), M)) else ((mld M 17 a1).bind fun v3 =>
  some (v3, M))) else (some ((-2), M))
/-! HeaveSongsModel.word(II)I -/
def g_X12_word (a1 : Int32) (a2 : Int32) (M : MS) : Option (Int32 × MS) :=
  (g_X12_in a1.toInt64 1 5 M).bind fun p2 =>
  if p2.1 = 0 then (some ((-2), p2.2)) else ((g_X12_in a2.toInt64 0 (((1 <<< (a1 &&& 31)) - 1).toInt64) p2.2).bind fun p6 =>
  if p6.1 = 0 then (some ((-2), p6.2)) else (if (p6.2.1 30) = 12 then (some ((-4), p6.2)) else ((mst p6.2 31 (p6.2.1 30) a1).bind fun M10 =>
  (mst M10 32 (M10.1 30) a2).bind fun M11 =>
  (some (msI M11 30 ((M11.1 30) + 1))).bind fun M12 =>
  some ((M12.1 30) - 1, M12))))
