/-! the law: its script's reads, its loop's body -/
def hsx (L : Nat) (i : Int32) : Option Unit := if hin i L = true then some () else none
theorem hsx_spec {L : Nat} {i : Int32} {u : Unit} (g : hsx L i = some u) : vp_in i L := by
  unfold hsx at g
  split at g
  · next e => exact hin_spec e
  · cases g
def f_L_law_L18 (x m L : Nat) (xs : Nat → Int32) (s : Int32 × AH) : Option ((Int32 × AH) ⊕ AH) :=
  if ((Int32.ofNat L) - 5) < s.1 then (some (.inr (s.2))) else ((hsx L s.1).bind fun _ =>
  if ((xs s.1.toNatClampNeg) &&& 63) = 0 then ((hsx L (s.1 + 1)).bind fun _ =>
  (hcl s.2 x 12).bind fun _ =>
  (f_X11_beat x (xs (s.1 + 1).toNatClampNeg) s.2).bind fun q5 =>
  (hsx L (s.1 + 1)).bind fun _ =>
  (hcl q5.2 m 13).bind fun _ =>
  (f_X12_beat m (xs (s.1 + 1).toNatClampNeg) q5.2).bind fun q9 =>
  if q5.1 = q9.1 then (some (.inl (s.1 + 5, q9.2))) else (none)) else (if ((xs s.1.toNatClampNeg) &&& 63) = 1 then ((hcl s.2 x 12).bind fun _ =>
  (f_X11_rest x s.2).bind fun q14 =>
  (hcl q14.2 m 13).bind fun _ =>
  (f_X12_rest m q14.2).bind fun q17 =>
  if q14.1 = q17.1 then (some (.inl (s.1 + 5, q17.2))) else (none)) else (if ((xs s.1.toNatClampNeg) &&& 63) = 2 then ((hcl s.2 x 12).bind fun _ =>
  (f_X11_song x s.2).bind fun q22 =>
  (hcl q22.2 m 13).bind fun _ =>
  (f_X12_song m q22.2).bind fun q25 =>
  if q22.1 = q25.1 then (some (.inl (s.1 + 5, q25.2))) else (none)) else (if ((xs s.1.toNatClampNeg) &&& 63) = 3 then ((hsx L (s.1 + 1)).bind fun _ =>
  (hcl s.2 x 12).bind fun _ =>
  (f_X11_refrain x (xs (s.1 + 1).toNatClampNeg) s.2).bind fun q31 =>
  (hsx L (s.1 + 1)).bind fun _ =>
  (hcl q31.2 m 13).bind fun _ =>
  (f_X12_refrain m (xs (s.1 + 1).toNatClampNeg) q31.2).bind fun q35 =>
  if q31.1 = q35.1 then (some (.inl (s.1 + 5, q35.2))) else (none)) else (if ((xs s.1.toNatClampNeg) &&& 63) = 4 then ((hsx L (s.1 + 1)).bind fun _ =>
  (hsx L (s.1 + 2)).bind fun _ =>
  (hcl s.2 x 12).bind fun _ =>
  (f_X11_beatAt x (xs (s.1 + 1).toNatClampNeg) (xs (s.1 + 2).toNatClampNeg) s.2).bind fun q42 =>
  (hsx L (s.1 + 1)).bind fun _ =>
  (hsx L (s.1 + 2)).bind fun _ =>
  (hcl q42.2 m 13).bind fun _ =>
  (f_X12_beatAt m (xs (s.1 + 1).toNatClampNeg) (xs (s.1 + 2).toNatClampNeg) q42.2).bind fun q47 =>
  if q42.1 = q47.1 then (some (.inl (s.1 + 5, q47.2))) else (none)) else (if ((xs s.1.toNatClampNeg) &&& 63) = 5 then ((hsx L (s.1 + 1)).bind fun _ =>
  (hsx L (s.1 + 2)).bind fun _ =>
  (hsx L (s.1 + 3)).bind fun _ =>
  (hsx L (s.1 + 4)).bind fun _ =>
  (hcl s.2 x 12).bind fun _ =>
  (f_X11_hand x (xs (s.1 + 1).toNatClampNeg) (xs (s.1 + 2).toNatClampNeg) (xs (s.1 + 3).toNatClampNeg) (xs (s.1 + 4).toNatClampNeg) s.2).bind fun q56 =>
  (hsx L (s.1 + 1)).bind fun _ =>
  (hsx L (s.1 + 2)).bind fun _ =>
  (hsx L (s.1 + 3)).bind fun _ =>
  (hsx L (s.1 + 4)).bind fun _ =>
  (hcl q56.2 m 13).bind fun _ =>
  (f_X12_hand m (xs (s.1 + 1).toNatClampNeg) (xs (s.1 + 2).toNatClampNeg) (xs (s.1 + 3).toNatClampNeg) (xs (s.1 + 4).toNatClampNeg) q56.2).bind fun q63 =>
  if q56.1 = q63.1 then (some (.inl (s.1 + 5, q63.2))) else (none)) else (if ((xs s.1.toNatClampNeg) &&& 63) = 6 then ((hsx L (s.1 + 1)).bind fun _ =>
  (hsx L (s.1 + 2)).bind fun _ =>
  (hcl s.2 x 12).bind fun _ =>
  (f_X11_late x (xs (s.1 + 1).toNatClampNeg) (xs (s.1 + 2).toNatClampNeg) s.2).bind fun q70 =>
  (hsx L (s.1 + 1)).bind fun _ =>
  (hsx L (s.1 + 2)).bind fun _ =>
  (hcl q70.2 m 13).bind fun _ =>
  (f_X12_late m (xs (s.1 + 1).toNatClampNeg) (xs (s.1 + 2).toNatClampNeg) q70.2).bind fun q75 =>
  if q70.1 = q75.1 then (some (.inl (s.1 + 5, q75.2))) else (none)) else (if ((xs s.1.toNatClampNeg) &&& 63) = 7 then ((hsx L (s.1 + 1)).bind fun _ =>
  (hcl s.2 x 12).bind fun _ =>
  (f_X11_crew x (xs (s.1 + 1).toNatClampNeg) s.2).bind fun q81 =>
  (hsx L (s.1 + 1)).bind fun _ =>
  (hcl q81.2 m 13).bind fun _ =>
  (f_X12_crew m (xs (s.1 + 1).toNatClampNeg) q81.2).bind fun q85 =>
  if q81.1 = q85.1 then (some (.inl (s.1 + 5, q85.2))) else (none)) else (if ((xs s.1.toNatClampNeg) &&& 63) = 8 then ((hsx L (s.1 + 1)).bind fun _ =>
  (hcl s.2 x 12).bind fun _ =>
  (f_X11_floor x (xs (s.1 + 1).toNatClampNeg) s.2).bind fun q91 =>
  (hsx L (s.1 + 1)).bind fun _ =>
  (hcl q91.2 m 13).bind fun _ =>
  (f_X12_floor m (xs (s.1 + 1).toNatClampNeg) q91.2).bind fun q95 =>
  if q91.1 = q95.1 then (some (.inl (s.1 + 5, q95.2))) else (none)) else (if ((xs s.1.toNatClampNeg) &&& 63) = 9 then ((hsx L (s.1 + 1)).bind fun _ =>
  (hcl s.2 x 12).bind fun _ =>
  (f_X11_now x (xs (s.1 + 1).toNatClampNeg) s.2).bind fun q101 =>
  (hsx L (s.1 + 1)).bind fun _ =>
  (hcl q101.2 m 13).bind fun _ =>
  (f_X12_now m (xs (s.1 + 1).toNatClampNeg) q101.2).bind fun q105 =>
  if q101.1 = q105.1 then (some (.inl (s.1 + 5, q105.2))) else (none)) else (if ((xs s.1.toNatClampNeg) &&& 63) = 10 then ((hsx L (s.1 + 1)).bind fun _ =>
  (hcl s.2 x 12).bind fun _ =>
  (f_X11_pause x (xs (s.1 + 1).toNatClampNeg) s.2).bind fun q111 =>
  (hsx L (s.1 + 1)).bind fun _ =>
  (hcl q111.2 m 13).bind fun _ =>
  (f_X12_pause m (xs (s.1 + 1).toNatClampNeg) q111.2).bind fun q115 =>
  if q111.1 = q115.1 then (some (.inl (s.1 + 5, q115.2))) else (none)) else (if ((xs s.1.toNatClampNeg) &&& 63) = 11 then ((hsx L (s.1 + 1)).bind fun _ =>
  (hsx L (s.1 + 2)).bind fun _ =>
  (hsx L (s.1 + 3)).bind fun _ =>
  (hsx L (s.1 + 4)).bind fun _ =>
  (hcl s.2 x 12).bind fun _ =>
  (f_X11_haul x (xs (s.1 + 1).toNatClampNeg) (xs (s.1 + 2).toNatClampNeg) (xs (s.1 + 3).toNatClampNeg) (xs (s.1 + 4).toNatClampNeg) s.2).bind fun q124 =>
  (hsx L (s.1 + 1)).bind fun _ =>
  (hsx L (s.1 + 2)).bind fun _ =>
  (hsx L (s.1 + 3)).bind fun _ =>
  (hsx L (s.1 + 4)).bind fun _ =>
  (hcl q124.2 m 13).bind fun _ =>
  (f_X12_haul m (xs (s.1 + 1).toNatClampNeg) (xs (s.1 + 2).toNatClampNeg) (xs (s.1 + 3).toNatClampNeg) (xs (s.1 + 4).toNatClampNeg) q124.2).bind fun q131 =>
  if q124.1 = q131.1 then (some (.inl (s.1 + 5, q131.2))) else (none)) else (if ((xs s.1.toNatClampNeg) &&& 63) = 12 then ((hsx L (s.1 + 1)).bind fun _ =>
  (hcl s.2 x 12).bind fun _ =>
  (f_X11_won x (xs (s.1 + 1).toNatClampNeg) s.2).bind fun q137 =>
  (hsx L (s.1 + 1)).bind fun _ =>
  (hcl q137.2 m 13).bind fun _ =>
  (f_X12_won m (xs (s.1 + 1).toNatClampNeg) q137.2).bind fun q141 =>
  if q137.1 = q141.1 then (some (.inl (s.1 + 5, q141.2))) else (none)) else (if ((xs s.1.toNatClampNeg) &&& 63) = 13 then ((hsx L (s.1 + 1)).bind fun _ =>
  (hcl s.2 x 12).bind fun _ =>
  (f_X11_force x (xs (s.1 + 1).toNatClampNeg) s.2).bind fun q147 =>
  (hsx L (s.1 + 1)).bind fun _ =>
  (hcl q147.2 m 13).bind fun _ =>
  (f_X12_force m (xs (s.1 + 1).toNatClampNeg) q147.2).bind fun q151 =>
  if q147.1 = q151.1 then (some (.inl (s.1 + 5, q151.2))) else (none)) else (if ((xs s.1.toNatClampNeg) &&& 63) = 14 then ((hsx L (s.1 + 1)).bind fun _ =>
  (hsx L (s.1 + 2)).bind fun _ =>
  (hsx L (s.1 + 3)).bind fun _ =>
  (hcl s.2 x 12).bind fun _ =>
  (f_X11_task x (xs (s.1 + 1).toNatClampNeg) (xs (s.1 + 2).toNatClampNeg) (xs (s.1 + 3).toNatClampNeg) s.2).bind fun q159 =>
  (hsx L (s.1 + 1)).bind fun _ =>
  (hsx L (s.1 + 2)).bind fun _ =>
  (hsx L (s.1 + 3)).bind fun _ =>
  (hcl q159.2 m 13).bind fun _ =>
  (f_X12_task m (xs (s.1 + 1).toNatClampNeg) (xs (s.1 + 2).toNatClampNeg) (xs (s.1 + 3).toNatClampNeg) q159.2).bind fun q165 =>
  if q159.1 = q165.1 then (some (.inl (s.1 + 5, q165.2))) else (none)) else (if ((xs s.1.toNatClampNeg) &&& 63) = 15 then ((hsx L (s.1 + 1)).bind fun _ =>
  (hcl s.2 x 12).bind fun _ =>
  (f_X11_between x (xs (s.1 + 1).toNatClampNeg) s.2).bind fun q171 =>
  (hsx L (s.1 + 1)).bind fun _ =>
  (hcl q171.2 m 13).bind fun _ =>
  (f_X12_between m (xs (s.1 + 1).toNatClampNeg) q171.2).bind fun q175 =>
  if q171.1 = q175.1 then (some (.inl (s.1 + 5, q175.2))) else (none)) else (if ((xs s.1.toNatClampNeg) &&& 63) = 16 then ((hcl s.2 x 12).bind fun _ =>
  (f_X11_plan x s.2).bind fun q180 =>
  (hcl q180.2 m 13).bind fun _ =>
  (f_X12_plan m q180.2).bind fun q183 =>
  if q180.1 = q183.1 then (some (.inl (s.1 + 5, q183.2))) else (none)) else (if ((xs s.1.toNatClampNeg) &&& 63) = 17 then ((hsx L (s.1 + 1)).bind fun _ =>
  (hcl s.2 x 12).bind fun _ =>
  (f_X11_planAt x (xs (s.1 + 1).toNatClampNeg) s.2).bind fun q189 =>
  (hsx L (s.1 + 1)).bind fun _ =>
  (hcl q189.2 m 13).bind fun _ =>
  (f_X12_planAt m (xs (s.1 + 1).toNatClampNeg) q189.2).bind fun q193 =>
  if q189.1 = q193.1 then (some (.inl (s.1 + 5, q193.2))) else (none)) else (if ((xs s.1.toNatClampNeg) &&& 63) = 18 then ((hsx L (s.1 + 1)).bind fun _ =>
  (hsx L (s.1 + 2)).bind fun _ =>
  (hsx L (s.1 + 3)).bind fun _ =>
  (hsx L (s.1 + 4)).bind fun _ =>
  (hcl s.2 x 12).bind fun _ =>
  (f_X11_best x (xs (s.1 + 1).toNatClampNeg) (xs (s.1 + 2).toNatClampNeg) (xs (s.1 + 3).toNatClampNeg) (xs (s.1 + 4).toNatClampNeg) s.2).bind fun q202 =>
  (hsx L (s.1 + 1)).bind fun _ =>
  (hsx L (s.1 + 2)).bind fun _ =>
  (hsx L (s.1 + 3)).bind fun _ =>
  (hsx L (s.1 + 4)).bind fun _ =>
  (hcl q202.2 m 13).bind fun _ =>
  (f_X12_best m (xs (s.1 + 1).toNatClampNeg) (xs (s.1 + 2).toNatClampNeg) (xs (s.1 + 3).toNatClampNeg) (xs (s.1 + 4).toNatClampNeg) q202.2).bind fun q209 =>
  if q202.1 = q209.1 then (some (.inl (s.1 + 5, q209.2))) else (none)) else (if ((xs s.1.toNatClampNeg) &&& 63) = 19 then ((hsx L (s.1 + 1)).bind fun _ =>
  (hsx L (s.1 + 2)).bind fun _ =>
  (hcl s.2 x 12).bind fun _ =>
  (f_X11_word x (xs (s.1 + 1).toNatClampNeg) (xs (s.1 + 2).toNatClampNeg) s.2).bind fun q216 =>
  (hsx L (s.1 + 1)).bind fun _ =>
  (hsx L (s.1 + 2)).bind fun _ =>
  (hcl q216.2 m 13).bind fun _ =>
  (f_X12_word m (xs (s.1 + 1).toNatClampNeg) (xs (s.1 + 2).toNatClampNeg) q216.2).bind fun q221 =>
  if q216.1 = q221.1 then (some (.inl (s.1 + 5, q221.2))) else (none)) else (if ((xs s.1.toNatClampNeg) &&& 63) = 20 then ((hsx L (s.1 + 1)).bind fun _ =>
  (hcl s.2 x 12).bind fun _ =>
  (f_X11_lines x (xs (s.1 + 1).toNatClampNeg) s.2).bind fun q227 =>
  (hsx L (s.1 + 1)).bind fun _ =>
  (hcl q227.2 m 13).bind fun _ =>
  (f_X12_lines m (xs (s.1 + 1).toNatClampNeg) q227.2).bind fun q231 =>
  if (lg_cmp q227.1 q231.1) = 0 then (some (.inl (s.1 + 5, q231.2))) else (none)) else (if ((xs s.1.toNatClampNeg) &&& 63) = 21 then ((hsx L (s.1 + 1)).bind fun _ =>
  (hsx L (s.1 + 2)).bind fun _ =>
  (hsx L (s.1 + 3)).bind fun _ =>
  (hsx L (s.1 + 4)).bind fun _ =>
  (hcl s.2 x 12).bind fun _ =>
  (f_X11_lineAt x (xs (s.1 + 1).toNatClampNeg) (((((xs (s.1 + 2).toNatClampNeg)).toInt64) <<< ((32 : Int32).toInt64 &&& 63)) ||| ((((xs (s.1 + 3).toNatClampNeg)).toInt64) &&& 4294967295)) (xs (s.1 + 4).toNatClampNeg) s.2).bind fun q240 =>
  (hsx L (s.1 + 1)).bind fun _ =>
  (hsx L (s.1 + 2)).bind fun _ =>
  (hsx L (s.1 + 3)).bind fun _ =>
  (hsx L (s.1 + 4)).bind fun _ =>
  (hcl q240.2 m 13).bind fun _ =>
  (f_X12_lineAt m (xs (s.1 + 1).toNatClampNeg) (((((xs (s.1 + 2).toNatClampNeg)).toInt64) <<< ((32 : Int32).toInt64 &&& 63)) ||| ((((xs (s.1 + 3).toNatClampNeg)).toInt64) &&& 4294967295)) (xs (s.1 + 4).toNatClampNeg) q240.2).bind fun q247 =>
  if q240.1 = q247.1 then (some (.inl (s.1 + 5, q247.2))) else (none)) else (if ((xs s.1.toNatClampNeg) &&& 63) = 22 then ((hsx L (s.1 + 1)).bind fun _ =>
  (hcl s.2 x 12).bind fun _ =>
  (f_X11_near x (xs (s.1 + 1).toNatClampNeg) s.2).bind fun q253 =>
  (hsx L (s.1 + 1)).bind fun _ =>
  (hcl q253.2 m 13).bind fun _ =>
  (f_X12_near m (xs (s.1 + 1).toNatClampNeg) q253.2).bind fun q257 =>
  if q253.1 = q257.1 then (some (.inl (s.1 + 5, q257.2))) else (none)) else (if ((xs s.1.toNatClampNeg) &&& 63) = 23 then ((hsx L (s.1 + 1)).bind fun _ =>
  (hsx L (s.1 + 2)).bind fun _ =>
  (hcl s.2 x 12).bind fun _ =>
  (f_X11_nearAt x (xs (s.1 + 1).toNatClampNeg) (xs (s.1 + 2).toNatClampNeg) s.2).bind fun q264 =>
  (hsx L (s.1 + 1)).bind fun _ =>
  (hsx L (s.1 + 2)).bind fun _ =>
  (hcl q264.2 m 13).bind fun _ =>
  (f_X12_nearAt m (xs (s.1 + 1).toNatClampNeg) (xs (s.1 + 2).toNatClampNeg) q264.2).bind fun q269 =>
  if q264.1 = q269.1 then (some (.inl (s.1 + 5, q269.2))) else (none)) else (if ((xs s.1.toNatClampNeg) &&& 63) = 24 then ((hsx L (s.1 + 1)).bind fun _ =>
  (hsx L (s.1 + 2)).bind fun _ =>
  (hcl s.2 x 12).bind fun _ =>
  (f_X11_mark x (xs (s.1 + 1).toNatClampNeg) (xs (s.1 + 2).toNatClampNeg) s.2).bind fun q276 =>
  (hsx L (s.1 + 1)).bind fun _ =>
  (hsx L (s.1 + 2)).bind fun _ =>
  (hcl q276.2 m 13).bind fun _ =>
  (f_X12_mark m (xs (s.1 + 1).toNatClampNeg) (xs (s.1 + 2).toNatClampNeg) q276.2).bind fun q281 =>
  if q276.1 = q281.1 then (some (.inl (s.1 + 5, q281.2))) else (none)) else (if ((xs s.1.toNatClampNeg) &&& 63) = 25 then ((hcl s.2 x 12).bind fun _ =>
  (f_X11_wipe x s.2).bind fun q286 =>
  (hcl q286.2 m 13).bind fun _ =>
  (f_X12_wipe m q286.2).bind fun q289 =>
  if q286.1 = q289.1 then (some (.inl (s.1 + 5, q289.2))) else (none)) else (if ((xs s.1.toNatClampNeg) &&& 63) = 26 then ((hsx L (s.1 + 1)).bind fun _ =>
  (hsx L (s.1 + 2)).bind fun _ =>
  (hsx L (s.1 + 3)).bind fun _ =>
  (hsx L (s.1 + 4)).bind fun _ =>
  (hcl s.2 x 12).bind fun _ =>
  (f_X11_who x (xs (s.1 + 1).toNatClampNeg) (xs (s.1 + 2).toNatClampNeg) (xs (s.1 + 3).toNatClampNeg) (xs (s.1 + 4).toNatClampNeg) s.2).bind fun q298 =>
  (hsx L (s.1 + 1)).bind fun _ =>
  (hsx L (s.1 + 2)).bind fun _ =>
  (hsx L (s.1 + 3)).bind fun _ =>
  (hsx L (s.1 + 4)).bind fun _ =>
  (hcl q298.2 m 13).bind fun _ =>
  (f_X12_who m (xs (s.1 + 1).toNatClampNeg) (xs (s.1 + 2).toNatClampNeg) (xs (s.1 + 3).toNatClampNeg) (xs (s.1 + 4).toNatClampNeg) q298.2).bind fun q305 =>
  if q298.1 = q305.1 then (some (.inl (s.1 + 5, q305.2))) else (none)) else (if ((xs s.1.toNatClampNeg) &&& 63) = 27 then ((hsx L (s.1 + 1)).bind fun _ =>
  (hsx L (s.1 + 2)).bind fun _ =>
  (hsx L (s.1 + 3)).bind fun _ =>
  (hsx L (s.1 + 4)).bind fun _ =>
  (hcl s.2 x 12).bind fun _ =>
  (f_X11_two x (xs (s.1 + 1).toNatClampNeg) (xs (s.1 + 2).toNatClampNeg) (xs (s.1 + 3).toNatClampNeg) (xs (s.1 + 4).toNatClampNeg) s.2).bind fun q314 =>
  (hsx L (s.1 + 1)).bind fun _ =>
  (hsx L (s.1 + 2)).bind fun _ =>
  (hsx L (s.1 + 3)).bind fun _ =>
  (hsx L (s.1 + 4)).bind fun _ =>
  (hcl q314.2 m 13).bind fun _ =>
  (f_X12_two m (xs (s.1 + 1).toNatClampNeg) (xs (s.1 + 2).toNatClampNeg) (xs (s.1 + 3).toNatClampNeg) (xs (s.1 + 4).toNatClampNeg) q314.2).bind fun q321 =>
  if q314.1 = q321.1 then (some (.inl (s.1 + 5, q321.2))) else (none)) else (if ((xs s.1.toNatClampNeg) &&& 63) = 28 then ((hsx L (s.1 + 1)).bind fun _ =>
  (hsx L (s.1 + 2)).bind fun _ =>
  (hcl s.2 x 12).bind fun _ =>
  (f_X11_apart x (xs (s.1 + 1).toNatClampNeg) (xs (s.1 + 2).toNatClampNeg) s.2).bind fun q328 =>
  (hsx L (s.1 + 1)).bind fun _ =>
  (hsx L (s.1 + 2)).bind fun _ =>
  (hcl q328.2 m 13).bind fun _ =>
  (f_X12_apart m (xs (s.1 + 1).toNatClampNeg) (xs (s.1 + 2).toNatClampNeg) q328.2).bind fun q333 =>
  if q328.1 = q333.1 then (some (.inl (s.1 + 5, q333.2))) else (none)) else (if ((xs s.1.toNatClampNeg) &&& 63) = 29 then ((hsx L (s.1 + 1)).bind fun _ =>
  (hcl s.2 x 12).bind fun _ =>
  (f_X11_hangs x (xs (s.1 + 1).toNatClampNeg) s.2).bind fun q339 =>
  (hsx L (s.1 + 1)).bind fun _ =>
  (hcl q339.2 m 13).bind fun _ =>
  (f_X12_hangs m (xs (s.1 + 1).toNatClampNeg) q339.2).bind fun q343 =>
  if q339.1 = q343.1 then (some (.inl (s.1 + 5, q343.2))) else (none)) else (if ((xs s.1.toNatClampNeg) &&& 63) = 30 then ((hcl s.2 x 12).bind fun _ =>
  (f_X11_tree x s.2).bind fun q348 =>
  (hcl q348.2 m 13).bind fun _ =>
  (f_X12_tree m q348.2).bind fun q351 =>
  if q348.1 = q351.1 then (some (.inl (s.1 + 5, q351.2))) else (none)) else (if ((xs s.1.toNatClampNeg) &&& 63) = 31 then ((hsx L (s.1 + 1)).bind fun _ =>
  (hcl s.2 x 12).bind fun _ =>
  (f_X11_count x (xs (s.1 + 1).toNatClampNeg) s.2).bind fun q357 =>
  (hsx L (s.1 + 1)).bind fun _ =>
  (hcl q357.2 m 13).bind fun _ =>
  (f_X12_count m (xs (s.1 + 1).toNatClampNeg) q357.2).bind fun q361 =>
  if q357.1 = q361.1 then (some (.inl (s.1 + 5, q361.2))) else (none)) else (if ((xs s.1.toNatClampNeg) &&& 63) = 32 then ((hcl s.2 x 12).bind fun _ =>
  (f_X11_digest x s.2).bind fun q366 =>
  (hcl q366.2 m 13).bind fun _ =>
  (f_X12_digest m q366.2).bind fun q369 =>
  if (lg_cmp q366.1 q369.1) = 0 then (some (.inl (s.1 + 5, q369.2))) else (none)) else (some (.inl (s.1 + 5, s.2))))))))))))))))))))))))))))))))))))
def f_L_law (L : Nat) (xs : Nat → Int32) (h : AH) : Option AH :=
  (f_X11_init h.1 (hnew h (.inr (12, [.null, .null, .null, .null, .null, .int 0, .null, .null, .null, .null, .null, .null])))).bind fun q1 =>
  (f_X12_init q1.1 (hnew q1 (.inr (13, [.int 0, .null, .null, .null, .null, .int 0, .null, .int 0, .null, .null, .null, .null, .null, .null, .int 0, .int 0, .int 0, .null, .null, .null, .int 0, .int 0, .int 0, .null, .null, .null, .int 0, .null, .null, .null, .int 0, .null, .null, .null, .null, .int 0, .null, .null, .null, .int 0, .int 0, .int 0, .int 0, .null, .null, .int 0, .long 0])))).bind fun q3 =>
  iter (f_L_law_L18 h.1 q1.1 L xs) 600 (0, q3)
