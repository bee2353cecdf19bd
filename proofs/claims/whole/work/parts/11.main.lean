-- LighthouseLiedTo.count
theorem dX4_count_0 : decode cX4_count 0 = .ok (.iload_n 1, 1) := by decide +kernel
theorem dX4_count_1 : decode cX4_count 1 = .ok (.tableswitch 111 0 7 #[47, 55, 66, 74, 82, 93, 98, 106], 47) := by decide +kernel
theorem dX4_count_48 : decode cX4_count 48 = .ok (.aload_n 0, 1) := by decide +kernel
theorem dX4_count_49 : decode cX4_count 49 = .ok (.getfield 39, 3) := by decide +kernel
theorem dX4_count_52 : decode cX4_count 52 = .ok (.getfield 69, 3) := by decide +kernel
theorem dX4_count_55 : decode cX4_count 55 = .ok (.ireturn, 1) := by decide +kernel
theorem dX4_count_56 : decode cX4_count 56 = .ok (.aload_n 0, 1) := by decide +kernel
theorem dX4_count_57 : decode cX4_count 57 = .ok (.getfield 39, 3) := by decide +kernel
theorem dX4_count_60 : decode cX4_count 60 = .ok (.invokevirtual 72, 3) := by decide +kernel
theorem dX4_count_63 : decode cX4_count 63 = .ok (.invokestatic 75, 3) := by decide +kernel
theorem dX4_count_66 : decode cX4_count 66 = .ok (.ireturn, 1) := by decide +kernel
theorem dX4_count_67 : decode cX4_count 67 = .ok (.aload_n 0, 1) := by decide +kernel
theorem dX4_count_68 : decode cX4_count 68 = .ok (.getfield 39, 3) := by decide +kernel
theorem dX4_count_71 : decode cX4_count 71 = .ok (.getfield 81, 3) := by decide +kernel
theorem dX4_count_74 : decode cX4_count 74 = .ok (.ireturn, 1) := by decide +kernel
theorem dX4_count_75 : decode cX4_count 75 = .ok (.aload_n 0, 1) := by decide +kernel
theorem dX4_count_76 : decode cX4_count 76 = .ok (.getfield 39, 3) := by decide +kernel
theorem dX4_count_79 : decode cX4_count 79 = .ok (.getfield 84, 3) := by decide +kernel
theorem dX4_count_82 : decode cX4_count 82 = .ok (.ireturn, 1) := by decide +kernel
theorem dX4_count_83 : decode cX4_count 83 = .ok (.aload_n 0, 1) := by decide +kernel
theorem dX4_count_84 : decode cX4_count 84 = .ok (.getfield 39, 3) := by decide +kernel
theorem dX4_count_87 : decode cX4_count 87 = .ok (.getfield 87, 3) := by decide +kernel
theorem dX4_count_90 : decode cX4_count 90 = .ok (.invokestatic 91, 3) := by decide +kernel
theorem dX4_count_93 : decode cX4_count 93 = .ok (.ireturn, 1) := by decide +kernel
theorem dX4_count_94 : decode cX4_count 94 = .ok (.aload_n 0, 1) := by decide +kernel
theorem dX4_count_95 : decode cX4_count 95 = .ok (.getfield 65, 3) := by decide +kernel
theorem dX4_count_98 : decode cX4_count 98 = .ok (.ireturn, 1) := by decide +kernel
theorem dX4_count_99 : decode cX4_count 99 = .ok (.aload_n 0, 1) := by decide +kernel
theorem dX4_count_100 : decode cX4_count 100 = .ok (.getfield 39, 3) := by decide +kernel
theorem dX4_count_103 : decode cX4_count 103 = .ok (.getfield 96, 3) := by decide +kernel
theorem dX4_count_106 : decode cX4_count 106 = .ok (.ireturn, 1) := by decide +kernel
theorem dX4_count_107 : decode cX4_count 107 = .ok (.aload_n 0, 1) := by decide +kernel
theorem dX4_count_108 : decode cX4_count 108 = .ok (.getfield 99, 3) := by decide +kernel
theorem dX4_count_111 : decode cX4_count 111 = .ok (.ireturn, 1) := by decide +kernel
theorem dX4_count_112 : decode cX4_count 112 = .ok (.bipush (-2), 2) := by decide +kernel
theorem dX4_count_114 : decode cX4_count 114 = .ok (.ireturn, 1) := by decide +kernel
def f_X4_count (x1 : Int32) (σ : GX) : Option (Int32 × GX) :=
  if x1 = (0 : Int32) then (some ((xS σ 0 1), σ)) else (if x1 = (1 : Int32) then (bnd (f_X2_afloat 0 σ) fun q1 => bnd (f_J6_bitCount_0f7a4 q1.1 q1.2) fun q2 => some (q2.1, q2.2)) else (if x1 = (2 : Int32) then (some ((xS σ 0 3), σ)) else (if x1 = (3 : Int32) then (some ((xS σ 0 2), σ)) else (if x1 = (4 : Int32) then (bnd (f_J13_bitCount_95d88 (xR σ 0) σ) fun q3 => some (q3.1, q3.2)) else (if x1 = (5 : Int32) then (some ((xI σ 0), σ)) else (if x1 = (6 : Int32) then (some ((xS σ 0 4), σ)) else (if x1 = (7 : Int32) then (some ((xI σ 1), σ)) else (some ((-2 : Int32), σ)))))))))
theorem vf_X4_count {g : Gt} {ad : Nat → Nat} (z : Zt) (x1 : Int32) (σ : GX) : V g (LX ad) 2 RX4 cX4_count 2 (some .int) (wX g ad) iI z (f_X4_count x1 σ) σ 0 [(0, .ref (aMain ad)), (1, .int x1)] [] := by
  unfold f_X4_count
  refine v_iload_n (pc := 0) (i := 1) dX4_count_0 rfl rfl ?_
  refine v_case (c := x1 = (0 : Int32)) (fun hx => ?_) (fun hc1_0 => ?_)
  · refine v_tin (pc := 1) (tgt := 48) (off := 47) hx dX4_count_1 (by decide) (by decide) rfl rfl ?_
    refine v_aload_n (pc := 48) (i := 0) dX4_count_48 rfl rfl ?_
    refine gX4_now (pc := 49) q_326 dX4_count_49 ?_
    refine gX2_ships (pc := 52) (y := 0) (by decide) q_163 dX4_count_52 ?_
    exact v_iret (pc := 55) dX4_count_55
  refine v_case (c := x1 = (1 : Int32)) (fun hx => ?_) (fun hc1_1 => ?_)
  · refine v_tin (pc := 1) (tgt := 56) (off := 55) hx dX4_count_1 (by decide) (by decide) rfl rfl ?_
    refine v_aload_n (pc := 56) (i := 0) dX4_count_56 rfl rfl ?_
    refine gX4_now (pc := 57) q_326 dX4_count_57 ?_
    refine v_callVi (pc := 60) (rcX2 (by decide)) (As := []) (rest := []) (ct_X2_afloat (by decide)) mi_X2_afloat q_361 (by decide) rfl rfl (Nat.le_of_ble_eq_true rfl) dX4_count_60 (fun q1 => ?_)
    refine v_callSi (pc := 63) (av := [.int q1.1]) (rest := []) (ct_J6_bitCount_0f7a4 q1.1) mi_J6_bitCount_0f7a4 q_365 (by decide) rfl rfl (Nat.le_of_ble_eq_true rfl) dX4_count_63 (fun q2 => ?_)
    exact v_iret (pc := 66) dX4_count_66
  refine v_case (c := x1 = (2 : Int32)) (fun hx => ?_) (fun hc1_2 => ?_)
  · refine v_tin (pc := 1) (tgt := 67) (off := 66) hx dX4_count_1 (by decide) (by decide) rfl rfl ?_
    refine v_aload_n (pc := 67) (i := 0) dX4_count_67 rfl rfl ?_
    refine gX4_now (pc := 68) q_326 dX4_count_68 ?_
    refine gX2_night (pc := 71) (y := 0) (by decide) q_168 dX4_count_71 ?_
    exact v_iret (pc := 74) dX4_count_74
  refine v_case (c := x1 = (3 : Int32)) (fun hx => ?_) (fun hc1_3 => ?_)
  · refine v_tin (pc := 1) (tgt := 75) (off := 74) hx dX4_count_1 (by decide) (by decide) rfl rfl ?_
    refine v_aload_n (pc := 75) (i := 0) dX4_count_75 rfl rfl ?_
    refine gX4_now (pc := 76) q_326 dX4_count_76 ?_
    refine gX2_doubt (pc := 79) (y := 0) (by decide) q_165 dX4_count_79 ?_
    exact v_iret (pc := 82) dX4_count_82
  refine v_case (c := x1 = (4 : Int32)) (fun hx => ?_) (fun hc1_4 => ?_)
  · refine v_tin (pc := 1) (tgt := 83) (off := 82) hx dX4_count_1 (by decide) (by decide) rfl rfl ?_
    refine v_aload_n (pc := 83) (i := 0) dX4_count_83 rfl rfl ?_
    refine gX4_now (pc := 84) q_326 dX4_count_84 ?_
    refine gX2_rocks (pc := 87) (y := 0) (by decide) q_160 dX4_count_87 ?_
    refine v_callSi (pc := 90) (av := [.long (xR σ 0)]) (rest := []) (ct_J13_bitCount_95d88 (xR σ 0)) mi_J13_bitCount_95d88 q_371 (by decide) rfl rfl (Nat.le_of_ble_eq_true rfl) dX4_count_90 (fun q3 => ?_)
    exact v_iret (pc := 93) dX4_count_93
  refine v_case (c := x1 = (5 : Int32)) (fun hx => ?_) (fun hc1_5 => ?_)
  · refine v_tin (pc := 1) (tgt := 94) (off := 93) hx dX4_count_1 (by decide) (by decide) rfl rfl ?_
    refine v_aload_n (pc := 94) (i := 0) dX4_count_94 rfl rfl ?_
    refine gX4_textCount (pc := 95) q_332 dX4_count_95 ?_
    exact v_iret (pc := 98) dX4_count_98
  refine v_case (c := x1 = (6 : Int32)) (fun hx => ?_) (fun hc1_6 => ?_)
  · refine v_tin (pc := 1) (tgt := 99) (off := 98) hx dX4_count_1 (by decide) (by decide) rfl rfl ?_
    refine v_aload_n (pc := 99) (i := 0) dX4_count_99 rfl rfl ?_
    refine gX4_now (pc := 100) q_326 dX4_count_100 ?_
    refine gX2_law (pc := 103) (y := 0) (by decide) q_171 dX4_count_103 ?_
    exact v_iret (pc := 106) dX4_count_106
  refine v_case (c := x1 = (7 : Int32)) (fun hx => ?_) (fun hc1_7 => ?_)
  · refine v_tin (pc := 1) (tgt := 107) (off := 106) hx dX4_count_1 (by decide) (by decide) rfl rfl ?_
    refine v_aload_n (pc := 107) (i := 0) dX4_count_107 rfl rfl ?_
    refine gX4_tapeSize (pc := 108) q_333 dX4_count_108 ?_
    exact v_iret (pc := 111) dX4_count_111
  refine v_tout (pc := 1) (tgt := 112) dX4_count_1 (by have e0 := tsw_ne (a := 0) hc1_0 rfl; have e1 := tsw_ne (a := 1) hc1_1 rfl; have e2 := tsw_ne (a := 2) hc1_2 rfl; have e3 := tsw_ne (a := 3) hc1_3 rfl; have e4 := tsw_ne (a := 4) hc1_4 rfl; have e5 := tsw_ne (a := 5) hc1_5 rfl; have e6 := tsw_ne (a := 6) hc1_6 rfl; have e7 := tsw_ne (a := 7) hc1_7 rfl; omega) rfl ?_
  refine v_bipush (pc := 112) dX4_count_112 bp_m2 ?_
  exact v_iret (pc := 114) dX4_count_114
theorem ct_X4_count {g : Gt} {ad : Nat → Nat} (x1 : Int32) : CT g (LX ad) yX4_count cX4_count 2 (some .int) 2 [.ref (aMain ad), .int x1] iI (wX g ad) (f_X4_count x1) :=
  ct_of_V (own := RX4) (lv0 := [(0, .ref (aMain ad)), (1, .int x1)]) (by decide +kernel) rfl (Nat.le_of_ble_eq_true rfl) rfl (fun z σ => vf_X4_count z x1 σ)
-- LighthouseLiedTo.within
theorem dX4_within_0 : decode cX4_within 0 = .ok (.iload_n 0, 1) := by decide +kernel
theorem dX4_within_1 : decode cX4_within 1 = .ok (.iload_n 1, 1) := by decide +kernel
theorem dX4_within_2 : decode cX4_within 2 = .ok (.if_icmp .lt 12, 3) := by decide +kernel
theorem dX4_within_5 : decode cX4_within 5 = .ok (.iload_n 0, 1) := by decide +kernel
theorem dX4_within_6 : decode cX4_within 6 = .ok (.iload_n 2, 1) := by decide +kernel
theorem dX4_within_7 : decode cX4_within 7 = .ok (.if_icmp .gt 7, 3) := by decide +kernel
theorem dX4_within_10 : decode cX4_within 10 = .ok (.iconst 1, 1) := by decide +kernel
theorem dX4_within_11 : decode cX4_within 11 = .ok (.goto 4, 3) := by decide +kernel
theorem dX4_within_14 : decode cX4_within 14 = .ok (.iconst 0, 1) := by decide +kernel
theorem dX4_within_15 : decode cX4_within 15 = .ok (.ireturn, 1) := by decide +kernel
def f_X4_within (x0 : Int32) (x1 : Int32) (x2 : Int32) (σ : GX) : Option (Int32 × GX) :=
  if x0 < x1 then (some ((0 : Int32), σ)) else (if x2 < x0 then (some ((0 : Int32), σ)) else (some ((1 : Int32), σ)))
theorem vf_X4_within {g : Gt} {ad : Nat → Nat} (z : Zt) (x0 : Int32) (x1 : Int32) (x2 : Int32) (σ : GX) : V g (LX ad) 1 RX4 cX4_within 3 (some .boolean) (wX g ad) iI z (f_X4_within x0 x1 x2 σ) σ 0 [(0, .int x0), (1, .int x1), (2, .int x2)] [] := by
  unfold f_X4_within
  refine v_iload_n (pc := 0) (i := 0) dX4_within_0 rfl rfl ?_
  refine v_iload_n (pc := 1) (i := 1) dX4_within_1 rfl rfl ?_
  refine v_icmp_lt (pc := 2) (tgt := 14) dX4_within_2 rfl ?_ ?_
  · refine v_iconst (pc := 14) dX4_within_14 ic_0 ?_
    exact v_nret (pc := 15) rfl dX4_within_15
  · refine v_iload_n (pc := 5) (i := 0) dX4_within_5 rfl rfl ?_
    refine v_iload_n (pc := 6) (i := 2) dX4_within_6 rfl rfl ?_
    refine v_icmp_gt (pc := 7) (tgt := 14) dX4_within_7 rfl ?_ ?_
    · refine v_iconst (pc := 14) dX4_within_14 ic_0 ?_
      exact v_nret (pc := 15) rfl dX4_within_15
    · refine v_iconst (pc := 10) dX4_within_10 ic_1 ?_
      refine v_goto (pc := 11) (tgt := 15) dX4_within_11 rfl ?_
      exact v_nret (pc := 15) rfl dX4_within_15
theorem ct_X4_within {g : Gt} {ad : Nat → Nat} (x0 : Int32) (x1 : Int32) (x2 : Int32) : CT g (LX ad) yX4_within cX4_within 3 (some .boolean) 1 [.int x0, .int x1, .int x2] iI (wX g ad) (f_X4_within x0 x1 x2) :=
  ct_of_V (own := RX4) (lv0 := [(0, .int x0), (1, .int x1), (2, .int x2)]) (by decide +kernel) rfl (Nat.le_of_ble_eq_true rfl) rfl (fun z σ => vf_X4_within z x0 x1 x2 σ)
-- LighthouseLiedTo.isCell
theorem dX4_isCell_0 : decode cX4_isCell 0 = .ok (.iload_n 0, 1) := by decide +kernel
theorem dX4_isCell_1 : decode cX4_isCell 1 = .ok (.iconst 0, 1) := by decide +kernel
theorem dX4_isCell_2 : decode cX4_isCell 2 = .ok (.bipush 35, 2) := by decide +kernel
theorem dX4_isCell_4 : decode cX4_isCell 4 = .ok (.invokestatic 106, 3) := by decide +kernel
theorem dX4_isCell_7 : decode cX4_isCell 7 = .ok (.ireturn, 1) := by decide +kernel
def f_X4_isCell (x0 : Int32) (σ : GX) : Option (Int32 × GX) :=
  bnd (f_X4_within x0 (0 : Int32) (35 : Int32) σ) fun q1 => if q1.1 = 0 ∨ q1.1 = 1 then some (q1.1, q1.2) else none
theorem vf_X4_isCell {g : Gt} {ad : Nat → Nat} (z : Zt) (x0 : Int32) (σ : GX) : V g (LX ad) 2 RX4 cX4_isCell 1 (some .boolean) (wX g ad) iI z (f_X4_isCell x0 σ) σ 0 [(0, .int x0)] [] := by
  unfold f_X4_isCell
  refine v_iload_n (pc := 0) (i := 0) dX4_isCell_0 rfl rfl ?_
  refine v_iconst (pc := 1) dX4_isCell_1 ic_0 ?_
  refine v_bipush (pc := 2) dX4_isCell_2 bp_35 ?_
  refine v_callSi (pc := 4) (av := [.int x0, .int (0 : Int32), .int (35 : Int32)]) (rest := []) (ct_X4_within x0 (0 : Int32) (35 : Int32)) mi_X4_within q_384 (by decide) rfl rfl (Nat.le_of_ble_eq_true rfl) dX4_isCell_4 (fun q1 => ?_)
  exact v_zret (pc := 7) dX4_isCell_7
theorem ct_X4_isCell {g : Gt} {ad : Nat → Nat} (x0 : Int32) : CT g (LX ad) yX4_isCell cX4_isCell 1 (some .boolean) 2 [.int x0] iI (wX g ad) (f_X4_isCell x0) :=
  ct_of_V (own := RX4) (lv0 := [(0, .int x0)]) (by decide +kernel) rfl (Nat.le_of_ble_eq_true rfl) rfl (fun z σ => vf_X4_isCell z x0 σ)
-- LighthouseLiedTo.rock
theorem dX4_rock_0 : decode cX4_rock 0 = .ok (.iload_n 1, 1) := by decide +kernel
theorem dX4_rock_1 : decode cX4_rock 1 = .ok (.invokestatic 102, 3) := by decide +kernel
theorem dX4_rock_4 : decode cX4_rock 4 = .ok (.ifCond .ne 6, 3) := by decide +kernel
theorem dX4_rock_7 : decode cX4_rock 7 = .ok (.bipush (-5), 2) := by decide +kernel
theorem dX4_rock_9 : decode cX4_rock 9 = .ok (.ireturn, 1) := by decide +kernel
theorem dX4_rock_10 : decode cX4_rock 10 = .ok (.iload_n 2, 1) := by decide +kernel
theorem dX4_rock_11 : decode cX4_rock 11 = .ok (.iconst 0, 1) := by decide +kernel
theorem dX4_rock_12 : decode cX4_rock 12 = .ok (.iconst 1, 1) := by decide +kernel
theorem dX4_rock_13 : decode cX4_rock 13 = .ok (.invokestatic 106, 3) := by decide +kernel
theorem dX4_rock_16 : decode cX4_rock 16 = .ok (.ifCond .ne 6, 3) := by decide +kernel
theorem dX4_rock_19 : decode cX4_rock 19 = .ok (.bipush (-7), 2) := by decide +kernel
theorem dX4_rock_21 : decode cX4_rock 21 = .ok (.ireturn, 1) := by decide +kernel
theorem dX4_rock_22 : decode cX4_rock 22 = .ok (.aload_n 0, 1) := by decide +kernel
theorem dX4_rock_23 : decode cX4_rock 23 = .ok (.getfield 39, 3) := by decide +kernel
theorem dX4_rock_26 : decode cX4_rock 26 = .ok (.iload_n 1, 1) := by decide +kernel
theorem dX4_rock_27 : decode cX4_rock 27 = .ok (.invokevirtual 110, 3) := by decide +kernel
theorem dX4_rock_30 : decode cX4_rock 30 = .ok (.ifCond .eq 7, 3) := by decide +kernel
theorem dX4_rock_33 : decode cX4_rock 33 = .ok (.iconst 1, 1) := by decide +kernel
theorem dX4_rock_34 : decode cX4_rock 34 = .ok (.goto 4, 3) := by decide +kernel
theorem dX4_rock_37 : decode cX4_rock 37 = .ok (.iconst 0, 1) := by decide +kernel
theorem dX4_rock_38 : decode cX4_rock 38 = .ok (.istore_n 3, 1) := by decide +kernel
theorem dX4_rock_39 : decode cX4_rock 39 = .ok (.aload_n 0, 1) := by decide +kernel
theorem dX4_rock_40 : decode cX4_rock 40 = .ok (.getfield 39, 3) := by decide +kernel
theorem dX4_rock_43 : decode cX4_rock 43 = .ok (.aload_n 0, 1) := by decide +kernel
theorem dX4_rock_44 : decode cX4_rock 44 = .ok (.getfield 39, 3) := by decide +kernel
theorem dX4_rock_47 : decode cX4_rock 47 = .ok (.getfield 87, 3) := by decide +kernel
theorem dX4_rock_50 : decode cX4_rock 50 = .ok (.lconst 1, 1) := by decide +kernel
theorem dX4_rock_51 : decode cX4_rock 51 = .ok (.iload_n 1, 1) := by decide +kernel
theorem dX4_rock_52 : decode cX4_rock 52 = .ok (.lshl, 1) := by decide +kernel
theorem dX4_rock_53 : decode cX4_rock 53 = .ok (.ldc2_w 113, 3) := by decide +kernel
theorem dX4_rock_56 : decode cX4_rock 56 = .ok (.lxor, 1) := by decide +kernel
theorem dX4_rock_57 : decode cX4_rock 57 = .ok (.land, 1) := by decide +kernel
theorem dX4_rock_58 : decode cX4_rock 58 = .ok (.iload_n 2, 1) := by decide +kernel
theorem dX4_rock_59 : decode cX4_rock 59 = .ok (.i2l, 1) := by decide +kernel
theorem dX4_rock_60 : decode cX4_rock 60 = .ok (.iload_n 1, 1) := by decide +kernel
theorem dX4_rock_61 : decode cX4_rock 61 = .ok (.lshl, 1) := by decide +kernel
theorem dX4_rock_62 : decode cX4_rock 62 = .ok (.lor, 1) := by decide +kernel
theorem dX4_rock_63 : decode cX4_rock 63 = .ok (.putfield 87, 3) := by decide +kernel
theorem dX4_rock_66 : decode cX4_rock 66 = .ok (.iload_n 3, 1) := by decide +kernel
theorem dX4_rock_67 : decode cX4_rock 67 = .ok (.ireturn, 1) := by decide +kernel
def b_X4_rock_38 (x1 : Int32) (x2 : Int32) (xs0 : Int32) (σ : GX) : Option (Int32 × GX) :=
  bnd (some (sR σ 0 (((xR σ 0) &&& ((slL (1 : Int64) x1) ^^^ (-1 : Int64))) ||| (slL x2.toInt64 x1)))) fun σ4 => some (xs0, σ4)
theorem vb_X4_rock_38 {g : Gt} {ad : Nat → Nat} (z : Zt) (x1 : Int32) (x2 : Int32) (xs0 : Int32) (σ : GX) : V g (LX ad) 3 RX4 cX4_rock 4 (some .int) (wX g ad) iI z (b_X4_rock_38 x1 x2 xs0 σ) σ 38 [(0, .ref (aMain ad)), (1, .int x1), (2, .int x2)] [.int xs0] := by
  unfold b_X4_rock_38
  refine v_istore_n (pc := 38) (lv' := [(3, .int xs0), (0, .ref (aMain ad)), (1, .int x1), (2, .int x2)]) (i := 3) dX4_rock_38 rfl (by decide) rfl ?_
  refine v_aload_n (pc := 39) (i := 0) dX4_rock_39 rfl rfl ?_
  refine gX4_now (pc := 40) q_326 dX4_rock_40 ?_
  refine v_aload_n (pc := 43) (i := 0) dX4_rock_43 rfl rfl ?_
  refine gX4_now (pc := 44) q_326 dX4_rock_44 ?_
  refine gX2_rocks (pc := 47) (y := 0) (by decide) q_160 dX4_rock_47 ?_
  refine v_lconst (pc := 50) dX4_rock_50 lc_1 ?_
  refine v_iload_n (pc := 51) (i := 1) dX4_rock_51 rfl rfl ?_
  refine v_lshl (pc := 52) dX4_rock_52 ?_
  refine v_ldc2 (pc := 53) dX4_rock_53 q_391 ?_
  refine v_lxor (pc := 56) dX4_rock_56 ?_
  refine v_land (pc := 57) dX4_rock_57 ?_
  refine v_iload_n (pc := 58) (i := 2) dX4_rock_58 rfl rfl ?_
  refine v_i2l (pc := 59) dX4_rock_59 ?_
  refine v_iload_n (pc := 60) (i := 1) dX4_rock_60 rfl rfl ?_
  refine v_lshl (pc := 61) dX4_rock_61 ?_
  refine v_lor (pc := 62) dX4_rock_62 ?_
  refine pX2_rocks (pc := 63) (y := 0) (by decide) q_160 dX4_rock_63 ?_
  refine v_nms (fun σ4 => ?_)
  refine v_iload_n (pc := 66) (i := 3) dX4_rock_66 rfl rfl ?_
  exact v_iret (pc := 67) dX4_rock_67
def f_X4_rock (x1 : Int32) (x2 : Int32) (σ : GX) : Option (Int32 × GX) :=
  bnd (f_X4_isCell x1 σ) fun q1 => if q1.1 ≠ 0 then (bnd (f_X4_within x2 (0 : Int32) (1 : Int32) q1.2) fun q2 => if q2.1 ≠ 0 then (bnd (f_X2_hasRock 0 x1 q2.2) fun q3 => if q3.1 = 0 then (b_X4_rock_38 x1 x2 (0 : Int32) q3.2) else (b_X4_rock_38 x1 x2 (1 : Int32) q3.2)) else (some ((-7 : Int32), q2.2))) else (some ((-5 : Int32), q1.2))
theorem vf_X4_rock {g : Gt} {ad : Nat → Nat} (z : Zt) (x1 : Int32) (x2 : Int32) (σ : GX) : V g (LX ad) 3 RX4 cX4_rock 4 (some .int) (wX g ad) iI z (f_X4_rock x1 x2 σ) σ 0 [(0, .ref (aMain ad)), (1, .int x1), (2, .int x2)] [] := by
  unfold f_X4_rock
  refine v_iload_n (pc := 0) (i := 1) dX4_rock_0 rfl rfl ?_
  refine v_callSi (pc := 1) (av := [.int x1]) (rest := []) (ct_X4_isCell x1) mi_X4_isCell q_381 (by decide) rfl rfl (Nat.le_of_ble_eq_true rfl) dX4_rock_1 (fun q1 => ?_)
  refine v_if_ne (pc := 4) (tgt := 10) dX4_rock_4 rfl ?_ ?_
  · refine v_iload_n (pc := 10) (i := 2) dX4_rock_10 rfl rfl ?_
    refine v_iconst (pc := 11) dX4_rock_11 ic_0 ?_
    refine v_iconst (pc := 12) dX4_rock_12 ic_1 ?_
    refine v_callSi (pc := 13) (av := [.int x2, .int (0 : Int32), .int (1 : Int32)]) (rest := []) (ct_X4_within x2 (0 : Int32) (1 : Int32)) mi_X4_within q_384 (by decide) rfl rfl (Nat.le_of_ble_eq_true rfl) dX4_rock_13 (fun q2 => ?_)
    refine v_if_ne (pc := 16) (tgt := 22) dX4_rock_16 rfl ?_ ?_
    · refine v_aload_n (pc := 22) (i := 0) dX4_rock_22 rfl rfl ?_
      refine gX4_now (pc := 23) q_326 dX4_rock_23 ?_
      refine v_iload_n (pc := 26) (i := 1) dX4_rock_26 rfl rfl ?_
      refine v_callVi (pc := 27) (rcX2 (by decide)) (As := [.int x1]) (rest := []) (ct_X2_hasRock (by decide) x1) mi_X2_hasRock q_387 (by decide) rfl rfl (Nat.le_of_ble_eq_true rfl) dX4_rock_27 (fun q3 => ?_)
      refine v_if_eq (pc := 30) (tgt := 37) dX4_rock_30 rfl ?_ ?_
      · refine v_iconst (pc := 37) dX4_rock_37 ic_0 ?_
        exact v_sub [0, 1, 2] rfl (vb_X4_rock_38 z x1 x2 (0 : Int32) q3.2)
      · refine v_iconst (pc := 33) dX4_rock_33 ic_1 ?_
        refine v_goto (pc := 34) (tgt := 38) dX4_rock_34 rfl ?_
        exact v_sub [0, 1, 2] rfl (vb_X4_rock_38 z x1 x2 (1 : Int32) q3.2)
    · refine v_bipush (pc := 19) dX4_rock_19 bp_m7 ?_
      exact v_iret (pc := 21) dX4_rock_21
  · refine v_bipush (pc := 7) dX4_rock_7 bp_m5 ?_
    exact v_iret (pc := 9) dX4_rock_9
theorem ct_X4_rock {g : Gt} {ad : Nat → Nat} (x1 : Int32) (x2 : Int32) : CT g (LX ad) yX4_rock cX4_rock 4 (some .int) 3 [.ref (aMain ad), .int x1, .int x2] iI (wX g ad) (f_X4_rock x1 x2) :=
  ct_of_V (own := RX4) (lv0 := [(0, .ref (aMain ad)), (1, .int x1), (2, .int x2)]) (by decide +kernel) rfl (Nat.le_of_ble_eq_true rfl) rfl (fun z σ => vf_X4_rock z x1 x2 σ)
-- LighthouseLiedTo.tell
theorem dX4_tell_0 : decode cX4_tell 0 = .ok (.iload_n 1, 1) := by decide +kernel
theorem dX4_tell_1 : decode cX4_tell 1 = .ok (.invokestatic 102, 3) := by decide +kernel
theorem dX4_tell_4 : decode cX4_tell 4 = .ok (.ifCond .ne 6, 3) := by decide +kernel
theorem dX4_tell_7 : decode cX4_tell 7 = .ok (.bipush (-5), 2) := by decide +kernel
theorem dX4_tell_9 : decode cX4_tell 9 = .ok (.ireturn, 1) := by decide +kernel
theorem dX4_tell_10 : decode cX4_tell 10 = .ok (.iload_n 2, 1) := by decide +kernel
theorem dX4_tell_11 : decode cX4_tell 11 = .ok (.bipush (-99), 2) := by decide +kernel
theorem dX4_tell_13 : decode cX4_tell 13 = .ok (.bipush 99, 2) := by decide +kernel
theorem dX4_tell_15 : decode cX4_tell 15 = .ok (.invokestatic 106, 3) := by decide +kernel
theorem dX4_tell_18 : decode cX4_tell 18 = .ok (.ifCond .ne 6, 3) := by decide +kernel
theorem dX4_tell_21 : decode cX4_tell 21 = .ok (.bipush (-7), 2) := by decide +kernel
theorem dX4_tell_23 : decode cX4_tell 23 = .ok (.ireturn, 1) := by decide +kernel
theorem dX4_tell_24 : decode cX4_tell 24 = .ok (.aload_n 0, 1) := by decide +kernel
theorem dX4_tell_25 : decode cX4_tell 25 = .ok (.getfield 39, 3) := by decide +kernel
theorem dX4_tell_28 : decode cX4_tell 28 = .ok (.iload_n 1, 1) := by decide +kernel
theorem dX4_tell_29 : decode cX4_tell 29 = .ok (.iload_n 2, 1) := by decide +kernel
theorem dX4_tell_30 : decode cX4_tell 30 = .ok (.invokevirtual 115, 3) := by decide +kernel
theorem dX4_tell_33 : decode cX4_tell 33 = .ok (.aload_n 0, 1) := by decide +kernel
theorem dX4_tell_34 : decode cX4_tell 34 = .ok (.getfield 39, 3) := by decide +kernel
theorem dX4_tell_37 : decode cX4_tell 37 = .ok (.getfield 119, 3) := by decide +kernel
theorem dX4_tell_40 : decode cX4_tell 40 = .ok (.iload_n 1, 1) := by decide +kernel
theorem dX4_tell_41 : decode cX4_tell 41 = .ok (.iaload, 1) := by decide +kernel
theorem dX4_tell_42 : decode cX4_tell 42 = .ok (.ireturn, 1) := by decide +kernel
def f_X4_tell (x1 : Int32) (x2 : Int32) (σ : GX) : Option (Int32 × GX) :=
  bnd (f_X4_isCell x1 σ) fun q1 => if q1.1 ≠ 0 then (bnd (f_X4_within x2 (-99 : Int32) (99 : Int32) q1.2) fun q2 => if q2.1 ≠ 0 then (bnd (f_X2_hear 0 x1 x2 q2.2) fun q3 => grd x1 36 (some ((xB q3.2 0 0 x1.toNatClampNeg), q3.2))) else (some ((-7 : Int32), q2.2))) else (some ((-5 : Int32), q1.2))
theorem vf_X4_tell {g : Gt} {ad : Nat → Nat} (z : Zt) (x1 : Int32) (x2 : Int32) (σ : GX) : V g (LX ad) 3 RX4 cX4_tell 3 (some .int) (wX g ad) iI z (f_X4_tell x1 x2 σ) σ 0 [(0, .ref (aMain ad)), (1, .int x1), (2, .int x2)] [] := by
  unfold f_X4_tell
  refine v_iload_n (pc := 0) (i := 1) dX4_tell_0 rfl rfl ?_
  refine v_callSi (pc := 1) (av := [.int x1]) (rest := []) (ct_X4_isCell x1) mi_X4_isCell q_381 (by decide) rfl rfl (Nat.le_of_ble_eq_true rfl) dX4_tell_1 (fun q1 => ?_)
  refine v_if_ne (pc := 4) (tgt := 10) dX4_tell_4 rfl ?_ ?_
  · refine v_iload_n (pc := 10) (i := 2) dX4_tell_10 rfl rfl ?_
    refine v_bipush (pc := 11) dX4_tell_11 bp_m99 ?_
    refine v_bipush (pc := 13) dX4_tell_13 bp_99 ?_
    refine v_callSi (pc := 15) (av := [.int x2, .int (-99 : Int32), .int (99 : Int32)]) (rest := []) (ct_X4_within x2 (-99 : Int32) (99 : Int32)) mi_X4_within q_384 (by decide) rfl rfl (Nat.le_of_ble_eq_true rfl) dX4_tell_15 (fun q2 => ?_)
    refine v_if_ne (pc := 18) (tgt := 24) dX4_tell_18 rfl ?_ ?_
    · refine v_aload_n (pc := 24) (i := 0) dX4_tell_24 rfl rfl ?_
      refine gX4_now (pc := 25) q_326 dX4_tell_25 ?_
      refine v_iload_n (pc := 28) (i := 1) dX4_tell_28 rfl rfl ?_
      refine v_iload_n (pc := 29) (i := 2) dX4_tell_29 rfl rfl ?_
      refine v_callVv (pc := 30) (rcX2 (by decide)) (As := [.int x1, .int x2]) (rest := []) (ct_X2_hear (by decide) x1 x2) mi_X2_hear q_396 (by decide) rfl rfl (Nat.le_of_ble_eq_true rfl) dX4_tell_30 (fun q3 => ?_)
      refine v_aload_n (pc := 33) (i := 0) dX4_tell_33 rfl rfl ?_
      refine gX4_now (pc := 34) q_326 dX4_tell_34 ?_
      refine gX2_belief (pc := 37) (y := 0) (by decide) q_149 dX4_tell_37 ?_
      refine v_iload_n (pc := 40) (i := 1) dX4_tell_40 rfl rfl ?_
      refine lX_sea0 (pc := 41) (y := 0) (by decide) dX4_tell_41 ?_
      exact v_iret (pc := 42) dX4_tell_42
    · refine v_bipush (pc := 21) dX4_tell_21 bp_m7 ?_
      exact v_iret (pc := 23) dX4_tell_23
  · refine v_bipush (pc := 7) dX4_tell_7 bp_m5 ?_
    exact v_iret (pc := 9) dX4_tell_9
theorem ct_X4_tell {g : Gt} {ad : Nat → Nat} (x1 : Int32) (x2 : Int32) : CT g (LX ad) yX4_tell cX4_tell 3 (some .int) 3 [.ref (aMain ad), .int x1, .int x2] iI (wX g ad) (f_X4_tell x1 x2) :=
  ct_of_V (own := RX4) (lv0 := [(0, .ref (aMain ad)), (1, .int x1), (2, .int x2)]) (by decide +kernel) rfl (Nat.le_of_ble_eq_true rfl) rfl (fun z σ => vf_X4_tell z x1 x2 σ)
-- LighthouseLiedTo.believes
theorem dX4_believes_0 : decode cX4_believes 0 = .ok (.iload_n 1, 1) := by decide +kernel
theorem dX4_believes_1 : decode cX4_believes 1 = .ok (.invokestatic 102, 3) := by decide +kernel
theorem dX4_believes_4 : decode cX4_believes 4 = .ok (.ifCond .eq 15, 3) := by decide +kernel
theorem dX4_believes_7 : decode cX4_believes 7 = .ok (.aload_n 0, 1) := by decide +kernel
theorem dX4_believes_8 : decode cX4_believes 8 = .ok (.getfield 39, 3) := by decide +kernel
theorem dX4_believes_11 : decode cX4_believes 11 = .ok (.getfield 119, 3) := by decide +kernel
theorem dX4_believes_14 : decode cX4_believes 14 = .ok (.iload_n 1, 1) := by decide +kernel
theorem dX4_believes_15 : decode cX4_believes 15 = .ok (.iaload, 1) := by decide +kernel
theorem dX4_believes_16 : decode cX4_believes 16 = .ok (.goto 5, 3) := by decide +kernel
theorem dX4_believes_19 : decode cX4_believes 19 = .ok (.bipush (-5), 2) := by decide +kernel
theorem dX4_believes_21 : decode cX4_believes 21 = .ok (.ireturn, 1) := by decide +kernel
def f_X4_believes (x1 : Int32) (σ : GX) : Option (Int32 × GX) :=
  bnd (f_X4_isCell x1 σ) fun q1 => if q1.1 = 0 then (some ((-5 : Int32), q1.2)) else (grd x1 36 (some ((xB q1.2 0 0 x1.toNatClampNeg), q1.2)))
theorem vf_X4_believes {g : Gt} {ad : Nat → Nat} (z : Zt) (x1 : Int32) (σ : GX) : V g (LX ad) 3 RX4 cX4_believes 2 (some .int) (wX g ad) iI z (f_X4_believes x1 σ) σ 0 [(0, .ref (aMain ad)), (1, .int x1)] [] := by
  unfold f_X4_believes
  refine v_iload_n (pc := 0) (i := 1) dX4_believes_0 rfl rfl ?_
  refine v_callSi (pc := 1) (av := [.int x1]) (rest := []) (ct_X4_isCell x1) mi_X4_isCell q_381 (by decide) rfl rfl (Nat.le_of_ble_eq_true rfl) dX4_believes_1 (fun q1 => ?_)
  refine v_if_eq (pc := 4) (tgt := 19) dX4_believes_4 rfl ?_ ?_
  · refine v_bipush (pc := 19) dX4_believes_19 bp_m5 ?_
    exact v_iret (pc := 21) dX4_believes_21
  · refine v_aload_n (pc := 7) (i := 0) dX4_believes_7 rfl rfl ?_
    refine gX4_now (pc := 8) q_326 dX4_believes_8 ?_
    refine gX2_belief (pc := 11) (y := 0) (by decide) q_149 dX4_believes_11 ?_
    refine v_iload_n (pc := 14) (i := 1) dX4_believes_14 rfl rfl ?_
    refine lX_sea0 (pc := 15) (y := 0) (by decide) dX4_believes_15 ?_
    refine v_goto (pc := 16) (tgt := 21) dX4_believes_16 rfl ?_
    exact v_iret (pc := 21) dX4_believes_21
theorem ct_X4_believes {g : Gt} {ad : Nat → Nat} (x1 : Int32) : CT g (LX ad) yX4_believes cX4_believes 2 (some .int) 3 [.ref (aMain ad), .int x1] iI (wX g ad) (f_X4_believes x1) :=
  ct_of_V (own := RX4) (lv0 := [(0, .ref (aMain ad)), (1, .int x1)]) (by decide +kernel) rfl (Nat.le_of_ble_eq_true rfl) rfl (fun z σ => vf_X4_believes z x1 σ)
-- LighthouseLiedTo.doubts
theorem dX4_doubts_0 : decode cX4_doubts 0 = .ok (.iload_n 1, 1) := by decide +kernel
theorem dX4_doubts_1 : decode cX4_doubts 1 = .ok (.iconst 0, 1) := by decide +kernel
theorem dX4_doubts_2 : decode cX4_doubts 2 = .ok (.bipush 99, 2) := by decide +kernel
theorem dX4_doubts_4 : decode cX4_doubts 4 = .ok (.invokestatic 106, 3) := by decide +kernel
theorem dX4_doubts_7 : decode cX4_doubts 7 = .ok (.ifCond .ne 6, 3) := by decide +kernel
theorem dX4_doubts_10 : decode cX4_doubts 10 = .ok (.bipush (-2), 2) := by decide +kernel
theorem dX4_doubts_12 : decode cX4_doubts 12 = .ok (.ireturn, 1) := by decide +kernel
theorem dX4_doubts_13 : decode cX4_doubts 13 = .ok (.aload_n 0, 1) := by decide +kernel
theorem dX4_doubts_14 : decode cX4_doubts 14 = .ok (.getfield 39, 3) := by decide +kernel
theorem dX4_doubts_17 : decode cX4_doubts 17 = .ok (.getfield 84, 3) := by decide +kernel
theorem dX4_doubts_20 : decode cX4_doubts 20 = .ok (.istore_n 2, 1) := by decide +kernel
theorem dX4_doubts_21 : decode cX4_doubts 21 = .ok (.aload_n 0, 1) := by decide +kernel
theorem dX4_doubts_22 : decode cX4_doubts 22 = .ok (.getfield 39, 3) := by decide +kernel
theorem dX4_doubts_25 : decode cX4_doubts 25 = .ok (.iload_n 1, 1) := by decide +kernel
theorem dX4_doubts_26 : decode cX4_doubts 26 = .ok (.putfield 84, 3) := by decide +kernel
theorem dX4_doubts_29 : decode cX4_doubts 29 = .ok (.iload_n 2, 1) := by decide +kernel
theorem dX4_doubts_30 : decode cX4_doubts 30 = .ok (.ireturn, 1) := by decide +kernel
def f_X4_doubts (x1 : Int32) (σ : GX) : Option (Int32 × GX) :=
  bnd (f_X4_within x1 (0 : Int32) (99 : Int32) σ) fun q1 => if q1.1 ≠ 0 then (bnd (some (xS q1.2 0 2)) fun w2 => bnd (some (sS q1.2 0 2 x1)) fun σ3 => some (w2, σ3)) else (some ((-2 : Int32), q1.2))
theorem vf_X4_doubts {g : Gt} {ad : Nat → Nat} (z : Zt) (x1 : Int32) (σ : GX) : V g (LX ad) 2 RX4 cX4_doubts 3 (some .int) (wX g ad) iI z (f_X4_doubts x1 σ) σ 0 [(0, .ref (aMain ad)), (1, .int x1)] [] := by
  unfold f_X4_doubts
  refine v_iload_n (pc := 0) (i := 1) dX4_doubts_0 rfl rfl ?_
  refine v_iconst (pc := 1) dX4_doubts_1 ic_0 ?_
  refine v_bipush (pc := 2) dX4_doubts_2 bp_99 ?_
  refine v_callSi (pc := 4) (av := [.int x1, .int (0 : Int32), .int (99 : Int32)]) (rest := []) (ct_X4_within x1 (0 : Int32) (99 : Int32)) mi_X4_within q_384 (by decide) rfl rfl (Nat.le_of_ble_eq_true rfl) dX4_doubts_4 (fun q1 => ?_)
  refine v_if_ne (pc := 7) (tgt := 13) dX4_doubts_7 rfl ?_ ?_
  · refine v_aload_n (pc := 13) (i := 0) dX4_doubts_13 rfl rfl ?_
    refine gX4_now (pc := 14) q_326 dX4_doubts_14 ?_
    refine gX2_doubt (pc := 17) (y := 0) (by decide) q_165 dX4_doubts_17 ?_
    refine v_nmi (fun w2 => ?_)
    refine v_istore_n (pc := 20) (lv' := [(2, .int w2), (0, .ref (aMain ad)), (1, .int x1)]) (i := 2) dX4_doubts_20 rfl (by decide) rfl ?_
    refine v_aload_n (pc := 21) (i := 0) dX4_doubts_21 rfl rfl ?_
    refine gX4_now (pc := 22) q_326 dX4_doubts_22 ?_
    refine v_iload_n (pc := 25) (i := 1) dX4_doubts_25 rfl rfl ?_
    refine pX2_doubt (pc := 26) (y := 0) (by decide) q_165 dX4_doubts_26 ?_
    refine v_nms (fun σ3 => ?_)
    refine v_iload_n (pc := 29) (i := 2) dX4_doubts_29 rfl rfl ?_
    exact v_iret (pc := 30) dX4_doubts_30
  · refine v_bipush (pc := 10) dX4_doubts_10 bp_m2 ?_
    exact v_iret (pc := 12) dX4_doubts_12
theorem ct_X4_doubts {g : Gt} {ad : Nat → Nat} (x1 : Int32) : CT g (LX ad) yX4_doubts cX4_doubts 3 (some .int) 2 [.ref (aMain ad), .int x1] iI (wX g ad) (f_X4_doubts x1) :=
  ct_of_V (own := RX4) (lv0 := [(0, .ref (aMain ad)), (1, .int x1)]) (by decide +kernel) rfl (Nat.le_of_ble_eq_true rfl) rfl (fun z σ => vf_X4_doubts z x1 σ)
-- LighthouseLiedTo.isByte
theorem dX4_isByte_0 : decode cX4_isByte 0 = .ok (.iload_n 0, 1) := by decide +kernel
theorem dX4_isByte_1 : decode cX4_isByte 1 = .ok (.iconst 0, 1) := by decide +kernel
theorem dX4_isByte_2 : decode cX4_isByte 2 = .ok (.sipush 255, 3) := by decide +kernel
theorem dX4_isByte_5 : decode cX4_isByte 5 = .ok (.invokestatic 106, 3) := by decide +kernel
theorem dX4_isByte_8 : decode cX4_isByte 8 = .ok (.ireturn, 1) := by decide +kernel
def f_X4_isByte (x0 : Int32) (σ : GX) : Option (Int32 × GX) :=
  bnd (f_X4_within x0 (0 : Int32) (255 : Int32) σ) fun q1 => if q1.1 = 0 ∨ q1.1 = 1 then some (q1.1, q1.2) else none
theorem vf_X4_isByte {g : Gt} {ad : Nat → Nat} (z : Zt) (x0 : Int32) (σ : GX) : V g (LX ad) 2 RX4 cX4_isByte 1 (some .boolean) (wX g ad) iI z (f_X4_isByte x0 σ) σ 0 [(0, .int x0)] [] := by
  unfold f_X4_isByte
  refine v_iload_n (pc := 0) (i := 0) dX4_isByte_0 rfl rfl ?_
  refine v_iconst (pc := 1) dX4_isByte_1 ic_0 ?_
  refine v_sipush (pc := 2) dX4_isByte_2 sp_255 ?_
  refine v_callSi (pc := 5) (av := [.int x0, .int (0 : Int32), .int (255 : Int32)]) (rest := []) (ct_X4_within x0 (0 : Int32) (255 : Int32)) mi_X4_within q_384 (by decide) rfl rfl (Nat.le_of_ble_eq_true rfl) dX4_isByte_5 (fun q1 => ?_)
  exact v_zret (pc := 8) dX4_isByte_8
theorem ct_X4_isByte {g : Gt} {ad : Nat → Nat} (x0 : Int32) : CT g (LX ad) yX4_isByte cX4_isByte 1 (some .boolean) 2 [.int x0] iI (wX g ad) (f_X4_isByte x0) :=
  ct_of_V (own := RX4) (lv0 := [(0, .int x0)]) (by decide +kernel) rfl (Nat.le_of_ble_eq_true rfl) rfl (fun z σ => vf_X4_isByte z x0 σ)
-- LighthouseLiedTo.feed
theorem dX4_feed_0 : decode cX4_feed 0 = .ok (.iload_n 1, 1) := by decide +kernel
theorem dX4_feed_1 : decode cX4_feed 1 = .ok (.iconst 1, 1) := by decide +kernel
theorem dX4_feed_2 : decode cX4_feed 2 = .ok (.iconst 5, 1) := by decide +kernel
theorem dX4_feed_3 : decode cX4_feed 3 = .ok (.invokestatic 106, 3) := by decide +kernel
theorem dX4_feed_6 : decode cX4_feed 6 = .ok (.ifCond .eq 41, 3) := by decide +kernel
theorem dX4_feed_9 : decode cX4_feed 9 = .ok (.iload_n 2, 1) := by decide +kernel
theorem dX4_feed_10 : decode cX4_feed 10 = .ok (.invokestatic 122, 3) := by decide +kernel
theorem dX4_feed_13 : decode cX4_feed 13 = .ok (.ifCond .eq 34, 3) := by decide +kernel
theorem dX4_feed_16 : decode cX4_feed 16 = .ok (.iload_n 3, 1) := by decide +kernel
theorem dX4_feed_17 : decode cX4_feed 17 = .ok (.invokestatic 122, 3) := by decide +kernel
theorem dX4_feed_20 : decode cX4_feed 20 = .ok (.ifCond .eq 27, 3) := by decide +kernel
theorem dX4_feed_23 : decode cX4_feed 23 = .ok (.iload 4, 2) := by decide +kernel
theorem dX4_feed_25 : decode cX4_feed 25 = .ok (.invokestatic 122, 3) := by decide +kernel
theorem dX4_feed_28 : decode cX4_feed 28 = .ok (.ifCond .eq 19, 3) := by decide +kernel
theorem dX4_feed_31 : decode cX4_feed 31 = .ok (.iload 5, 2) := by decide +kernel
theorem dX4_feed_33 : decode cX4_feed 33 = .ok (.invokestatic 122, 3) := by decide +kernel
theorem dX4_feed_36 : decode cX4_feed 36 = .ok (.ifCond .eq 11, 3) := by decide +kernel
theorem dX4_feed_39 : decode cX4_feed 39 = .ok (.iload 6, 2) := by decide +kernel
theorem dX4_feed_41 : decode cX4_feed 41 = .ok (.invokestatic 122, 3) := by decide +kernel
theorem dX4_feed_44 : decode cX4_feed 44 = .ok (.ifCond .ne 6, 3) := by decide +kernel
theorem dX4_feed_47 : decode cX4_feed 47 = .ok (.bipush (-2), 2) := by decide +kernel
theorem dX4_feed_49 : decode cX4_feed 49 = .ok (.ireturn, 1) := by decide +kernel
theorem dX4_feed_50 : decode cX4_feed 50 = .ok (.aload_n 0, 1) := by decide +kernel
theorem dX4_feed_51 : decode cX4_feed 51 = .ok (.getfield 99, 3) := by decide +kernel
theorem dX4_feed_54 : decode cX4_feed 54 = .ok (.iload_n 1, 1) := by decide +kernel
theorem dX4_feed_55 : decode cX4_feed 55 = .ok (.iadd, 1) := by decide +kernel
theorem dX4_feed_56 : decode cX4_feed 56 = .ok (.sipush 160, 3) := by decide +kernel
theorem dX4_feed_59 : decode cX4_feed 59 = .ok (.if_icmp .le 6, 3) := by decide +kernel
theorem dX4_feed_62 : decode cX4_feed 62 = .ok (.bipush (-4), 2) := by decide +kernel
theorem dX4_feed_64 : decode cX4_feed 64 = .ok (.ireturn, 1) := by decide +kernel
theorem dX4_feed_65 : decode cX4_feed 65 = .ok (.iconst 0, 1) := by decide +kernel
theorem dX4_feed_66 : decode cX4_feed 66 = .ok (.istore 7, 2) := by decide +kernel
theorem dX4_feed_68 : decode cX4_feed 68 = .ok (.iload 7, 2) := by decide +kernel
theorem dX4_feed_70 : decode cX4_feed 70 = .ok (.iload_n 1, 1) := by decide +kernel
theorem dX4_feed_71 : decode cX4_feed 71 = .ok (.if_icmp .ge 81, 3) := by decide +kernel
theorem dX4_feed_74 : decode cX4_feed 74 = .ok (.aload_n 0, 1) := by decide +kernel
theorem dX4_feed_75 : decode cX4_feed 75 = .ok (.getfield 99, 3) := by decide +kernel
theorem dX4_feed_78 : decode cX4_feed 78 = .ok (.sipush 160, 3) := by decide +kernel
theorem dX4_feed_81 : decode cX4_feed 81 = .ok (.if_icmp .ge 71, 3) := by decide +kernel
theorem dX4_feed_84 : decode cX4_feed 84 = .ok (.aload_n 0, 1) := by decide +kernel
theorem dX4_feed_85 : decode cX4_feed 85 = .ok (.getfield 21, 3) := by decide +kernel
theorem dX4_feed_88 : decode cX4_feed 88 = .ok (.aload_n 0, 1) := by decide +kernel
theorem dX4_feed_89 : decode cX4_feed 89 = .ok (.getfield 99, 3) := by decide +kernel
theorem dX4_feed_92 : decode cX4_feed 92 = .ok (.iload 7, 2) := by decide +kernel
theorem dX4_feed_94 : decode cX4_feed 94 = .ok (.ifCond .ne 7, 3) := by decide +kernel
theorem dX4_feed_97 : decode cX4_feed 97 = .ok (.iload_n 2, 1) := by decide +kernel
theorem dX4_feed_98 : decode cX4_feed 98 = .ok (.goto 37, 3) := by decide +kernel
theorem dX4_feed_101 : decode cX4_feed 101 = .ok (.iload 7, 2) := by decide +kernel
theorem dX4_feed_103 : decode cX4_feed 103 = .ok (.iconst 1, 1) := by decide +kernel
theorem dX4_feed_104 : decode cX4_feed 104 = .ok (.if_icmp .ne 7, 3) := by decide +kernel
theorem dX4_feed_107 : decode cX4_feed 107 = .ok (.iload_n 3, 1) := by decide +kernel
theorem dX4_feed_108 : decode cX4_feed 108 = .ok (.goto 27, 3) := by decide +kernel
theorem dX4_feed_111 : decode cX4_feed 111 = .ok (.iload 7, 2) := by decide +kernel
theorem dX4_feed_113 : decode cX4_feed 113 = .ok (.iconst 2, 1) := by decide +kernel
theorem dX4_feed_114 : decode cX4_feed 114 = .ok (.if_icmp .ne 8, 3) := by decide +kernel
theorem dX4_feed_117 : decode cX4_feed 117 = .ok (.iload 4, 2) := by decide +kernel
theorem dX4_feed_119 : decode cX4_feed 119 = .ok (.goto 16, 3) := by decide +kernel
theorem dX4_feed_122 : decode cX4_feed 122 = .ok (.iload 7, 2) := by decide +kernel
theorem dX4_feed_124 : decode cX4_feed 124 = .ok (.iconst 3, 1) := by decide +kernel
theorem dX4_feed_125 : decode cX4_feed 125 = .ok (.if_icmp .ne 8, 3) := by decide +kernel
theorem dX4_feed_128 : decode cX4_feed 128 = .ok (.iload 5, 2) := by decide +kernel
theorem dX4_feed_130 : decode cX4_feed 130 = .ok (.goto 5, 3) := by decide +kernel
theorem dX4_feed_133 : decode cX4_feed 133 = .ok (.iload 6, 2) := by decide +kernel
theorem dX4_feed_135 : decode cX4_feed 135 = .ok (.iastore, 1) := by decide +kernel
theorem dX4_feed_136 : decode cX4_feed 136 = .ok (.aload_n 0, 1) := by decide +kernel
theorem dX4_feed_137 : decode cX4_feed 137 = .ok (.dup, 1) := by decide +kernel
theorem dX4_feed_138 : decode cX4_feed 138 = .ok (.getfield 99, 3) := by decide +kernel
theorem dX4_feed_141 : decode cX4_feed 141 = .ok (.iconst 1, 1) := by decide +kernel
theorem dX4_feed_142 : decode cX4_feed 142 = .ok (.iadd, 1) := by decide +kernel
theorem dX4_feed_143 : decode cX4_feed 143 = .ok (.putfield 99, 3) := by decide +kernel
theorem dX4_feed_146 : decode cX4_feed 146 = .ok (.iinc 7 1, 3) := by decide +kernel
theorem dX4_feed_149 : decode cX4_feed 149 = .ok (.goto (-81), 3) := by decide +kernel
theorem dX4_feed_152 : decode cX4_feed 152 = .ok (.aload_n 0, 1) := by decide +kernel
theorem dX4_feed_153 : decode cX4_feed 153 = .ok (.getfield 99, 3) := by decide +kernel
theorem dX4_feed_156 : decode cX4_feed 156 = .ok (.ireturn, 1) := by decide +kernel
def b_X4_feed_135 (kc68 : Int32 → Int32 → Int32 → Int32 → Int32 → Int32 → Int32 → GX → Option (Int32 × GX)) (x1 : Int32) (x2 : Int32) (x3 : Int32) (x4 : Int32) (x5 : Int32) (x6 : Int32) (x7 : Int32) (xs0 : Int32) (xs1 : Int32) (σ : GX) : Option (Int32 × GX) :=
  grd xs1 160 (bnd (some (sP σ xs1.toNatClampNeg xs0)) fun σ7 => bnd (some (sI σ7 1 ((xI σ7 1) + (1 : Int32)))) fun σ8 => kc68 x1 x2 x3 x4 x5 x6 (x7 + (1 : Int32)) σ8)
theorem vb_X4_feed_135 {g : Gt} {ad : Nat → Nat} (z : Zt) (kc68 : Int32 → Int32 → Int32 → Int32 → Int32 → Int32 → Int32 → GX → Option (Int32 × GX)) (hkc68 : ∀ (x1 : Int32) (x2 : Int32) (x3 : Int32) (x4 : Int32) (x5 : Int32) (x6 : Int32) (x7 : Int32) (σ : GX), V g (LX ad) 3 RX4 cX4_feed 8 (some .int) (wX g ad) iI z (kc68 x1 x2 x3 x4 x5 x6 x7 σ) σ 68 [(0, .ref (aMain ad)), (1, .int x1), (2, .int x2), (3, .int x3), (4, .int x4), (5, .int x5), (6, .int x6), (7, .int x7)] []) (x1 : Int32) (x2 : Int32) (x3 : Int32) (x4 : Int32) (x5 : Int32) (x6 : Int32) (x7 : Int32) (xs0 : Int32) (xs1 : Int32) (σ : GX) : V g (LX ad) 3 RX4 cX4_feed 8 (some .int) (wX g ad) iI z (b_X4_feed_135 kc68 x1 x2 x3 x4 x5 x6 x7 xs0 xs1 σ) σ 135 [(0, .ref (aMain ad)), (1, .int x1), (2, .int x2), (3, .int x3), (4, .int x4), (5, .int x5), (6, .int x6), (7, .int x7)] [.int xs0, .int xs1, .ref (aTape ad)] := by
  unfold b_X4_feed_135
  refine sX_tape (pc := 135) dX4_feed_135 ?_
  refine v_nms (fun σ7 => ?_)
  refine v_aload_n (pc := 136) (i := 0) dX4_feed_136 rfl rfl ?_
  refine v_dup (pc := 137) dX4_feed_137 rfl ?_
  refine gX4_tapeSize (pc := 138) q_333 dX4_feed_138 ?_
  refine v_iconst (pc := 141) dX4_feed_141 ic_1 ?_
  refine v_iadd (pc := 142) dX4_feed_142 ?_
  refine pX4_tapeSize (pc := 143) q_333 dX4_feed_143 ?_
  refine v_nms (fun σ8 => ?_)
  refine v_iinc (pc := 146) (lv' := [(7, .int (x7 + (1 : Int32))), (0, .ref (aMain ad)), (1, .int x1), (2, .int x2), (3, .int x3), (4, .int x4), (5, .int x5), (6, .int x6)]) (i := 7) dX4_feed_146 rfl ic_1 (by decide) rfl ?_
  refine v_goto (pc := 149) (tgt := 68) dX4_feed_149 rfl ?_
  exact v_sub [1, 2, 3, 4, 5, 6, 7, 0] rfl (hkc68 x1 x2 x3 x4 x5 x6 (x7 + (1 : Int32)) σ8)
def b_X4_feed_68 (kc68 : Int32 → Int32 → Int32 → Int32 → Int32 → Int32 → Int32 → GX → Option (Int32 × GX)) (x1 : Int32) (x2 : Int32) (x3 : Int32) (x4 : Int32) (x5 : Int32) (x6 : Int32) (x7 : Int32) (σ : GX) : Option (Int32 × GX) :=
  if x1 ≤ x7 then (some ((xI σ 1), σ)) else (if (160 : Int32) ≤ (xI σ 1) then (some ((xI σ 1), σ)) else (if x7 ≠ 0 then (if x7 ≠ (1 : Int32) then (if x7 ≠ (2 : Int32) then (if x7 ≠ (3 : Int32) then (b_X4_feed_135 kc68 x1 x2 x3 x4 x5 x6 x7 x6 (xI σ 1) σ) else (b_X4_feed_135 kc68 x1 x2 x3 x4 x5 x6 x7 x5 (xI σ 1) σ)) else (b_X4_feed_135 kc68 x1 x2 x3 x4 x5 x6 x7 x4 (xI σ 1) σ)) else (b_X4_feed_135 kc68 x1 x2 x3 x4 x5 x6 x7 x3 (xI σ 1) σ)) else (b_X4_feed_135 kc68 x1 x2 x3 x4 x5 x6 x7 x2 (xI σ 1) σ)))
theorem vb_X4_feed_68 {g : Gt} {ad : Nat → Nat} (z : Zt) (kc68 : Int32 → Int32 → Int32 → Int32 → Int32 → Int32 → Int32 → GX → Option (Int32 × GX)) (hkc68 : ∀ (x1 : Int32) (x2 : Int32) (x3 : Int32) (x4 : Int32) (x5 : Int32) (x6 : Int32) (x7 : Int32) (σ : GX), V g (LX ad) 3 RX4 cX4_feed 8 (some .int) (wX g ad) iI z (kc68 x1 x2 x3 x4 x5 x6 x7 σ) σ 68 [(0, .ref (aMain ad)), (1, .int x1), (2, .int x2), (3, .int x3), (4, .int x4), (5, .int x5), (6, .int x6), (7, .int x7)] []) (x1 : Int32) (x2 : Int32) (x3 : Int32) (x4 : Int32) (x5 : Int32) (x6 : Int32) (x7 : Int32) (σ : GX) : V g (LX ad) 3 RX4 cX4_feed 8 (some .int) (wX g ad) iI z (b_X4_feed_68 kc68 x1 x2 x3 x4 x5 x6 x7 σ) σ 68 [(0, .ref (aMain ad)), (1, .int x1), (2, .int x2), (3, .int x3), (4, .int x4), (5, .int x5), (6, .int x6), (7, .int x7)] [] := by
  unfold b_X4_feed_68
  refine v_iload (pc := 68) (i := 7) dX4_feed_68 rfl ?_
  refine v_iload_n (pc := 70) (i := 1) dX4_feed_70 rfl rfl ?_
  refine v_icmp_ge (pc := 71) (tgt := 152) dX4_feed_71 rfl ?_ ?_
  · refine v_aload_n (pc := 152) (i := 0) dX4_feed_152 rfl rfl ?_
    refine gX4_tapeSize (pc := 153) q_333 dX4_feed_153 ?_
    exact v_iret (pc := 156) dX4_feed_156
  · refine v_aload_n (pc := 74) (i := 0) dX4_feed_74 rfl rfl ?_
    refine gX4_tapeSize (pc := 75) q_333 dX4_feed_75 ?_
    refine v_sipush (pc := 78) dX4_feed_78 sp_160 ?_
    refine v_icmp_ge (pc := 81) (tgt := 152) dX4_feed_81 rfl ?_ ?_
    · refine v_aload_n (pc := 152) (i := 0) dX4_feed_152 rfl rfl ?_
      refine gX4_tapeSize (pc := 153) q_333 dX4_feed_153 ?_
      exact v_iret (pc := 156) dX4_feed_156
    · refine v_aload_n (pc := 84) (i := 0) dX4_feed_84 rfl rfl ?_
      refine gX4_tape (pc := 85) q_330 dX4_feed_85 ?_
      refine v_aload_n (pc := 88) (i := 0) dX4_feed_88 rfl rfl ?_
      refine gX4_tapeSize (pc := 89) q_333 dX4_feed_89 ?_
      refine v_iload (pc := 92) (i := 7) dX4_feed_92 rfl ?_
      refine v_if_ne (pc := 94) (tgt := 101) dX4_feed_94 rfl ?_ ?_
      · refine v_iload (pc := 101) (i := 7) dX4_feed_101 rfl ?_
        refine v_iconst (pc := 103) dX4_feed_103 ic_1 ?_
        refine v_icmp_ne (pc := 104) (tgt := 111) dX4_feed_104 rfl ?_ ?_
        · refine v_iload (pc := 111) (i := 7) dX4_feed_111 rfl ?_
          refine v_iconst (pc := 113) dX4_feed_113 ic_2 ?_
          refine v_icmp_ne (pc := 114) (tgt := 122) dX4_feed_114 rfl ?_ ?_
          · refine v_iload (pc := 122) (i := 7) dX4_feed_122 rfl ?_
            refine v_iconst (pc := 124) dX4_feed_124 ic_3 ?_
            refine v_icmp_ne (pc := 125) (tgt := 133) dX4_feed_125 rfl ?_ ?_
            · refine v_iload (pc := 133) (i := 6) dX4_feed_133 rfl ?_
              exact v_sub [0, 1, 2, 3, 4, 5, 6, 7] rfl (vb_X4_feed_135 z kc68 hkc68 x1 x2 x3 x4 x5 x6 x7 x6 (xI σ 1) σ)
            · refine v_iload (pc := 128) (i := 5) dX4_feed_128 rfl ?_
              refine v_goto (pc := 130) (tgt := 135) dX4_feed_130 rfl ?_
              exact v_sub [0, 1, 2, 3, 4, 5, 6, 7] rfl (vb_X4_feed_135 z kc68 hkc68 x1 x2 x3 x4 x5 x6 x7 x5 (xI σ 1) σ)
          · refine v_iload (pc := 117) (i := 4) dX4_feed_117 rfl ?_
            refine v_goto (pc := 119) (tgt := 135) dX4_feed_119 rfl ?_
            exact v_sub [0, 1, 2, 3, 4, 5, 6, 7] rfl (vb_X4_feed_135 z kc68 hkc68 x1 x2 x3 x4 x5 x6 x7 x4 (xI σ 1) σ)
        · refine v_iload_n (pc := 107) (i := 3) dX4_feed_107 rfl rfl ?_
          refine v_goto (pc := 108) (tgt := 135) dX4_feed_108 rfl ?_
          exact v_sub [0, 1, 2, 3, 4, 5, 6, 7] rfl (vb_X4_feed_135 z kc68 hkc68 x1 x2 x3 x4 x5 x6 x7 x3 (xI σ 1) σ)
      · refine v_iload_n (pc := 97) (i := 2) dX4_feed_97 rfl rfl ?_
        refine v_goto (pc := 98) (tgt := 135) dX4_feed_98 rfl ?_
        exact v_sub [0, 1, 2, 3, 4, 5, 6, 7] rfl (vb_X4_feed_135 z kc68 hkc68 x1 x2 x3 x4 x5 x6 x7 x2 (xI σ 1) σ)
def k_X4_feed_68 : Nat → Int32 → Int32 → Int32 → Int32 → Int32 → Int32 → Int32 → GX → Option (Int32 × GX)
  | 0 => fun _ _ _ _ _ _ _ _ => none
  | n + 1 => b_X4_feed_68 (k_X4_feed_68 n)
theorem vk_X4_feed_68 {g : Gt} {ad : Nat → Nat} (z : Zt) : ∀ (n : Nat) (x1 : Int32) (x2 : Int32) (x3 : Int32) (x4 : Int32) (x5 : Int32) (x6 : Int32) (x7 : Int32) (σ : GX), V g (LX ad) 3 RX4 cX4_feed 8 (some .int) (wX g ad) iI z (k_X4_feed_68 n x1 x2 x3 x4 x5 x6 x7 σ) σ 68 [(0, .ref (aMain ad)), (1, .int x1), (2, .int x2), (3, .int x3), (4, .int x4), (5, .int x5), (6, .int x6), (7, .int x7)] [] := by
  intro n
  induction n with
  | zero => intros; exact v_eq rfl v_none
  | succ n ih =>
    intro x1 x2 x3 x4 x5 x6 x7 σ
    exact v_eq rfl (vb_X4_feed_68 z _ ih x1 x2 x3 x4 x5 x6 x7 σ)
def f_X4_feed (x1 : Int32) (x2 : Int32) (x3 : Int32) (x4 : Int32) (x5 : Int32) (x6 : Int32) (σ : GX) : Option (Int32 × GX) :=
  bnd (f_X4_within x1 (1 : Int32) (5 : Int32) σ) fun q1 => if q1.1 = 0 then (some ((-2 : Int32), q1.2)) else (bnd (f_X4_isByte x2 q1.2) fun q2 => if q2.1 = 0 then (some ((-2 : Int32), q2.2)) else (bnd (f_X4_isByte x3 q2.2) fun q3 => if q3.1 = 0 then (some ((-2 : Int32), q3.2)) else (bnd (f_X4_isByte x4 q3.2) fun q4 => if q4.1 = 0 then (some ((-2 : Int32), q4.2)) else (bnd (f_X4_isByte x5 q4.2) fun q5 => if q5.1 = 0 then (some ((-2 : Int32), q5.2)) else (bnd (f_X4_isByte x6 q5.2) fun q6 => if q6.1 ≠ 0 then (if ((xI q6.2 1) + x1) ≤ (160 : Int32) then (k_X4_feed_68 FU x1 x2 x3 x4 x5 x6 (0 : Int32) q6.2) else (some ((-4 : Int32), q6.2))) else (some ((-2 : Int32), q6.2)))))))
theorem vf_X4_feed {g : Gt} {ad : Nat → Nat} (z : Zt) (x1 : Int32) (x2 : Int32) (x3 : Int32) (x4 : Int32) (x5 : Int32) (x6 : Int32) (σ : GX) : V g (LX ad) 3 RX4 cX4_feed 8 (some .int) (wX g ad) iI z (f_X4_feed x1 x2 x3 x4 x5 x6 σ) σ 0 [(0, .ref (aMain ad)), (1, .int x1), (2, .int x2), (3, .int x3), (4, .int x4), (5, .int x5), (6, .int x6)] [] := by
  unfold f_X4_feed
  refine v_iload_n (pc := 0) (i := 1) dX4_feed_0 rfl rfl ?_
  refine v_iconst (pc := 1) dX4_feed_1 ic_1 ?_
  refine v_iconst (pc := 2) dX4_feed_2 ic_5 ?_
  refine v_callSi (pc := 3) (av := [.int x1, .int (1 : Int32), .int (5 : Int32)]) (rest := []) (ct_X4_within x1 (1 : Int32) (5 : Int32)) mi_X4_within q_384 (by decide) rfl rfl (Nat.le_of_ble_eq_true rfl) dX4_feed_3 (fun q1 => ?_)
  refine v_if_eq (pc := 6) (tgt := 47) dX4_feed_6 rfl ?_ ?_
  · refine v_bipush (pc := 47) dX4_feed_47 bp_m2 ?_
    exact v_iret (pc := 49) dX4_feed_49
  · refine v_iload_n (pc := 9) (i := 2) dX4_feed_9 rfl rfl ?_
    refine v_callSi (pc := 10) (av := [.int x2]) (rest := []) (ct_X4_isByte x2) mi_X4_isByte q_418 (by decide) rfl rfl (Nat.le_of_ble_eq_true rfl) dX4_feed_10 (fun q2 => ?_)
    refine v_if_eq (pc := 13) (tgt := 47) dX4_feed_13 rfl ?_ ?_
    · refine v_bipush (pc := 47) dX4_feed_47 bp_m2 ?_
      exact v_iret (pc := 49) dX4_feed_49
    · refine v_iload_n (pc := 16) (i := 3) dX4_feed_16 rfl rfl ?_
      refine v_callSi (pc := 17) (av := [.int x3]) (rest := []) (ct_X4_isByte x3) mi_X4_isByte q_418 (by decide) rfl rfl (Nat.le_of_ble_eq_true rfl) dX4_feed_17 (fun q3 => ?_)
      refine v_if_eq (pc := 20) (tgt := 47) dX4_feed_20 rfl ?_ ?_
      · refine v_bipush (pc := 47) dX4_feed_47 bp_m2 ?_
        exact v_iret (pc := 49) dX4_feed_49
      · refine v_iload (pc := 23) (i := 4) dX4_feed_23 rfl ?_
        refine v_callSi (pc := 25) (av := [.int x4]) (rest := []) (ct_X4_isByte x4) mi_X4_isByte q_418 (by decide) rfl rfl (Nat.le_of_ble_eq_true rfl) dX4_feed_25 (fun q4 => ?_)
        refine v_if_eq (pc := 28) (tgt := 47) dX4_feed_28 rfl ?_ ?_
        · refine v_bipush (pc := 47) dX4_feed_47 bp_m2 ?_
          exact v_iret (pc := 49) dX4_feed_49
        · refine v_iload (pc := 31) (i := 5) dX4_feed_31 rfl ?_
          refine v_callSi (pc := 33) (av := [.int x5]) (rest := []) (ct_X4_isByte x5) mi_X4_isByte q_418 (by decide) rfl rfl (Nat.le_of_ble_eq_true rfl) dX4_feed_33 (fun q5 => ?_)
          refine v_if_eq (pc := 36) (tgt := 47) dX4_feed_36 rfl ?_ ?_
          · refine v_bipush (pc := 47) dX4_feed_47 bp_m2 ?_
            exact v_iret (pc := 49) dX4_feed_49
          · refine v_iload (pc := 39) (i := 6) dX4_feed_39 rfl ?_
            refine v_callSi (pc := 41) (av := [.int x6]) (rest := []) (ct_X4_isByte x6) mi_X4_isByte q_418 (by decide) rfl rfl (Nat.le_of_ble_eq_true rfl) dX4_feed_41 (fun q6 => ?_)
            refine v_if_ne (pc := 44) (tgt := 50) dX4_feed_44 rfl ?_ ?_
            · refine v_aload_n (pc := 50) (i := 0) dX4_feed_50 rfl rfl ?_
              refine gX4_tapeSize (pc := 51) q_333 dX4_feed_51 ?_
              refine v_iload_n (pc := 54) (i := 1) dX4_feed_54 rfl rfl ?_
              refine v_iadd (pc := 55) dX4_feed_55 ?_
              refine v_sipush (pc := 56) dX4_feed_56 sp_160 ?_
              refine v_icmp_le (pc := 59) (tgt := 65) dX4_feed_59 rfl ?_ ?_
              · refine v_iconst (pc := 65) dX4_feed_65 ic_0 ?_
                refine v_istore (pc := 66) (lv' := [(7, .int (0 : Int32)), (0, .ref (aMain ad)), (1, .int x1), (2, .int x2), (3, .int x3), (4, .int x4), (5, .int x5), (6, .int x6)]) (i := 7) dX4_feed_66 (by decide) rfl ?_
                exact v_sub [1, 2, 3, 4, 5, 6, 7, 0] rfl (vk_X4_feed_68 z FU x1 x2 x3 x4 x5 x6 (0 : Int32) q6.2)
              · refine v_bipush (pc := 62) dX4_feed_62 bp_m4 ?_
                exact v_iret (pc := 64) dX4_feed_64
            · refine v_bipush (pc := 47) dX4_feed_47 bp_m2 ?_
              exact v_iret (pc := 49) dX4_feed_49
theorem ct_X4_feed {g : Gt} {ad : Nat → Nat} (x1 : Int32) (x2 : Int32) (x3 : Int32) (x4 : Int32) (x5 : Int32) (x6 : Int32) : CT g (LX ad) yX4_feed cX4_feed 8 (some .int) 3 [.ref (aMain ad), .int x1, .int x2, .int x3, .int x4, .int x5, .int x6] iI (wX g ad) (f_X4_feed x1 x2 x3 x4 x5 x6) :=
  ct_of_V (own := RX4) (lv0 := [(0, .ref (aMain ad)), (1, .int x1), (2, .int x2), (3, .int x3), (4, .int x4), (5, .int x5), (6, .int x6)]) (by decide +kernel) rfl (Nat.le_of_ble_eq_true rfl) rfl (fun z σ => vf_X4_feed z x1 x2 x3 x4 x5 x6 σ)
-- LighthouseLiedTo.text
theorem dX4_text_0 : decode cX4_text 0 = .ok (.aload_n 0, 1) := by decide +kernel
theorem dX4_text_1 : decode cX4_text 1 = .ok (.getfield 65, 3) := by decide +kernel
theorem dX4_text_4 : decode cX4_text 4 = .ok (.bipush 6, 2) := by decide +kernel
theorem dX4_text_6 : decode cX4_text 6 = .ok (.if_icmp .lt 6, 3) := by decide +kernel
theorem dX4_text_9 : decode cX4_text 9 = .ok (.bipush (-4), 2) := by decide +kernel
theorem dX4_text_11 : decode cX4_text 11 = .ok (.ireturn, 1) := by decide +kernel
theorem dX4_text_12 : decode cX4_text 12 = .ok (.aload_n 0, 1) := by decide +kernel
theorem dX4_text_13 : decode cX4_text 13 = .ok (.getfield 28, 3) := by decide +kernel
theorem dX4_text_16 : decode cX4_text 16 = .ok (.aload_n 0, 1) := by decide +kernel
theorem dX4_text_17 : decode cX4_text 17 = .ok (.getfield 21, 3) := by decide +kernel
theorem dX4_text_20 : decode cX4_text 20 = .ok (.aload_n 0, 1) := by decide +kernel
theorem dX4_text_21 : decode cX4_text 21 = .ok (.getfield 99, 3) := by decide +kernel
theorem dX4_text_24 : decode cX4_text 24 = .ok (.aload_n 0, 1) := by decide +kernel
theorem dX4_text_25 : decode cX4_text 25 = .ok (.getfield 11, 3) := by decide +kernel
theorem dX4_text_28 : decode cX4_text 28 = .ok (.aload_n 0, 1) := by decide +kernel
theorem dX4_text_29 : decode cX4_text 29 = .ok (.getfield 65, 3) := by decide +kernel
theorem dX4_text_32 : decode cX4_text 32 = .ok (.aaload, 1) := by decide +kernel
theorem dX4_text_33 : decode cX4_text 33 = .ok (.invokevirtual 61, 3) := by decide +kernel
theorem dX4_text_36 : decode cX4_text 36 = .ok (.istore_n 1, 1) := by decide +kernel
theorem dX4_text_37 : decode cX4_text 37 = .ok (.aload_n 0, 1) := by decide +kernel
theorem dX4_text_38 : decode cX4_text 38 = .ok (.iconst 0, 1) := by decide +kernel
theorem dX4_text_39 : decode cX4_text 39 = .ok (.putfield 99, 3) := by decide +kernel
theorem dX4_text_42 : decode cX4_text 42 = .ok (.iload_n 1, 1) := by decide +kernel
theorem dX4_text_43 : decode cX4_text 43 = .ok (.ifCond .lt 8, 3) := by decide +kernel
theorem dX4_text_46 : decode cX4_text 46 = .ok (.bipush (-100), 2) := by decide +kernel
theorem dX4_text_48 : decode cX4_text 48 = .ok (.iload_n 1, 1) := by decide +kernel
theorem dX4_text_49 : decode cX4_text 49 = .ok (.isub, 1) := by decide +kernel
theorem dX4_text_50 : decode cX4_text 50 = .ok (.ireturn, 1) := by decide +kernel
theorem dX4_text_51 : decode cX4_text 51 = .ok (.aload_n 0, 1) := by decide +kernel
theorem dX4_text_52 : decode cX4_text 52 = .ok (.dup, 1) := by decide +kernel
theorem dX4_text_53 : decode cX4_text 53 = .ok (.getfield 65, 3) := by decide +kernel
theorem dX4_text_56 : decode cX4_text 56 = .ok (.iconst 1, 1) := by decide +kernel
theorem dX4_text_57 : decode cX4_text 57 = .ok (.iadd, 1) := by decide +kernel
theorem dX4_text_58 : decode cX4_text 58 = .ok (.putfield 65, 3) := by decide +kernel
theorem dX4_text_61 : decode cX4_text 61 = .ok (.aload_n 0, 1) := by decide +kernel
theorem dX4_text_62 : decode cX4_text 62 = .ok (.getfield 65, 3) := by decide +kernel
theorem dX4_text_65 : decode cX4_text 65 = .ok (.iconst 1, 1) := by decide +kernel
theorem dX4_text_66 : decode cX4_text 66 = .ok (.isub, 1) := by decide +kernel
theorem dX4_text_67 : decode cX4_text 67 = .ok (.ireturn, 1) := by decide +kernel
def f_X4_text (σ : GX) : Option (Int32 × GX) :=
  if (xI σ 0) < (6 : Int32) then (grd (xI σ 0) 6 (bnd (f_X1_read ((xI σ 0).toNatClampNeg) (xI σ 1) σ) fun q2 => bnd (some (sI q2.2 1 (0 : Int32))) fun σ3 => if q2.1 < 0 then (bnd (some (sI σ3 0 ((xI σ3 0) + (1 : Int32)))) fun σ4 => some (((xI σ4 0) - (1 : Int32)), σ4)) else (some (((-100 : Int32) - q2.1), σ3)))) else (some ((-4 : Int32), σ))
theorem vf_X4_text {g : Gt} {ad : Nat → Nat} (z : Zt) (σ : GX) : V g (LX ad) 72 RX4 cX4_text 2 (some .int) (wX g ad) iI z (f_X4_text σ) σ 0 [(0, .ref (aMain ad))] [] := by
  unfold f_X4_text
  refine v_aload_n (pc := 0) (i := 0) dX4_text_0 rfl rfl ?_
  refine gX4_textCount (pc := 1) q_332 dX4_text_1 ?_
  refine v_bipush (pc := 4) dX4_text_4 bp_6 ?_
  refine v_icmp_lt (pc := 6) (tgt := 12) dX4_text_6 rfl ?_ ?_
  · refine v_aload_n (pc := 12) (i := 0) dX4_text_12 rfl rfl ?_
    refine gX4_reader (pc := 13) q_331 dX4_text_13 ?_
    refine v_aload_n (pc := 16) (i := 0) dX4_text_16 rfl rfl ?_
    refine gX4_tape (pc := 17) q_330 dX4_text_17 ?_
    refine v_aload_n (pc := 20) (i := 0) dX4_text_20 rfl rfl ?_
    refine gX4_tapeSize (pc := 21) q_333 dX4_text_21 ?_
    refine v_aload_n (pc := 24) (i := 0) dX4_text_24 rfl rfl ?_
    refine gX4_texts (pc := 25) q_325 dX4_text_25 ?_
    refine v_aload_n (pc := 28) (i := 0) dX4_text_28 rfl rfl ?_
    refine gX4_textCount (pc := 29) q_332 dX4_text_29 ?_
    refine aX_texts (pc := 32) dX4_text_32 (fun ha1 => ?_)
    refine v_callVi (pc := 33) rcX1 (As := [.ref (aTape ad), .int (xI σ 1), .ref (aLaw ad ((xI σ 0).toNatClampNeg))]) (rest := []) (ct_X1_read ha1 (xI σ 1)) mi_X1_read q_247 (by decide) rfl rfl (Nat.le_of_ble_eq_true rfl) dX4_text_33 (fun q2 => ?_)
    refine v_istore_n (pc := 36) (lv' := [(1, .int q2.1), (0, .ref (aMain ad))]) (i := 1) dX4_text_36 rfl (by decide) rfl ?_
    refine v_aload_n (pc := 37) (i := 0) dX4_text_37 rfl rfl ?_
    refine v_iconst (pc := 38) dX4_text_38 ic_0 ?_
    refine pX4_tapeSize (pc := 39) q_333 dX4_text_39 ?_
    refine v_nms (fun σ3 => ?_)
    refine v_iload_n (pc := 42) (i := 1) dX4_text_42 rfl rfl ?_
    refine v_if_lt (pc := 43) (tgt := 51) dX4_text_43 rfl ?_ ?_
    · refine v_aload_n (pc := 51) (i := 0) dX4_text_51 rfl rfl ?_
      refine v_dup (pc := 52) dX4_text_52 rfl ?_
      refine gX4_textCount (pc := 53) q_332 dX4_text_53 ?_
      refine v_iconst (pc := 56) dX4_text_56 ic_1 ?_
      refine v_iadd (pc := 57) dX4_text_57 ?_
      refine pX4_textCount (pc := 58) q_332 dX4_text_58 ?_
      refine v_nms (fun σ4 => ?_)
      refine v_aload_n (pc := 61) (i := 0) dX4_text_61 rfl rfl ?_
      refine gX4_textCount (pc := 62) q_332 dX4_text_62 ?_
      refine v_iconst (pc := 65) dX4_text_65 ic_1 ?_
      refine v_isub (pc := 66) dX4_text_66 ?_
      exact v_iret (pc := 67) dX4_text_67
    · refine v_bipush (pc := 46) dX4_text_46 bp_m100 ?_
      refine v_iload_n (pc := 48) (i := 1) dX4_text_48 rfl rfl ?_
      refine v_isub (pc := 49) dX4_text_49 ?_
      exact v_iret (pc := 50) dX4_text_50
  · refine v_bipush (pc := 9) dX4_text_9 bp_m4 ?_
    exact v_iret (pc := 11) dX4_text_11
theorem ct_X4_text {g : Gt} {ad : Nat → Nat} : CT g (LX ad) yX4_text cX4_text 2 (some .int) 72 [.ref (aMain ad)] iI (wX g ad) (f_X4_text) :=
  ct_of_V (own := RX4) (lv0 := [(0, .ref (aMain ad))]) (by decide +kernel) rfl (Nat.le_of_ble_eq_true rfl) rfl (fun z σ => vf_X4_text z σ)
-- LighthouseLiedTo.force
theorem dX4_force_0 : decode cX4_force 0 = .ok (.iload_n 1, 1) := by decide +kernel
theorem dX4_force_1 : decode cX4_force 1 = .ok (.iconst 0, 1) := by decide +kernel
theorem dX4_force_2 : decode cX4_force 2 = .ok (.aload_n 0, 1) := by decide +kernel
theorem dX4_force_3 : decode cX4_force 3 = .ok (.getfield 65, 3) := by decide +kernel
theorem dX4_force_6 : decode cX4_force 6 = .ok (.iconst 1, 1) := by decide +kernel
theorem dX4_force_7 : decode cX4_force 7 = .ok (.isub, 1) := by decide +kernel
theorem dX4_force_8 : decode cX4_force 8 = .ok (.invokestatic 106, 3) := by decide +kernel
theorem dX4_force_11 : decode cX4_force 11 = .ok (.ifCond .ne 6, 3) := by decide +kernel
theorem dX4_force_14 : decode cX4_force 14 = .ok (.bipush (-2), 2) := by decide +kernel
theorem dX4_force_16 : decode cX4_force 16 = .ok (.ireturn, 1) := by decide +kernel
theorem dX4_force_17 : decode cX4_force 17 = .ok (.aload_n 0, 1) := by decide +kernel
theorem dX4_force_18 : decode cX4_force 18 = .ok (.getfield 39, 3) := by decide +kernel
theorem dX4_force_21 : decode cX4_force 21 = .ok (.getfield 96, 3) := by decide +kernel
theorem dX4_force_24 : decode cX4_force 24 = .ok (.istore_n 2, 1) := by decide +kernel
theorem dX4_force_25 : decode cX4_force 25 = .ok (.aload_n 0, 1) := by decide +kernel
theorem dX4_force_26 : decode cX4_force 26 = .ok (.getfield 39, 3) := by decide +kernel
theorem dX4_force_29 : decode cX4_force 29 = .ok (.iload_n 1, 1) := by decide +kernel
theorem dX4_force_30 : decode cX4_force 30 = .ok (.putfield 96, 3) := by decide +kernel
theorem dX4_force_33 : decode cX4_force 33 = .ok (.iload_n 2, 1) := by decide +kernel
theorem dX4_force_34 : decode cX4_force 34 = .ok (.ireturn, 1) := by decide +kernel
def f_X4_force (x1 : Int32) (σ : GX) : Option (Int32 × GX) :=
  bnd (f_X4_within x1 (0 : Int32) ((xI σ 0) - (1 : Int32)) σ) fun q1 => if q1.1 ≠ 0 then (bnd (some (xS q1.2 0 4)) fun w2 => bnd (some (sS q1.2 0 4 x1)) fun σ3 => some (w2, σ3)) else (some ((-2 : Int32), q1.2))
theorem vf_X4_force {g : Gt} {ad : Nat → Nat} (z : Zt) (x1 : Int32) (σ : GX) : V g (LX ad) 2 RX4 cX4_force 3 (some .int) (wX g ad) iI z (f_X4_force x1 σ) σ 0 [(0, .ref (aMain ad)), (1, .int x1)] [] := by
  unfold f_X4_force
  refine v_iload_n (pc := 0) (i := 1) dX4_force_0 rfl rfl ?_
  refine v_iconst (pc := 1) dX4_force_1 ic_0 ?_
  refine v_aload_n (pc := 2) (i := 0) dX4_force_2 rfl rfl ?_
  refine gX4_textCount (pc := 3) q_332 dX4_force_3 ?_
  refine v_iconst (pc := 6) dX4_force_6 ic_1 ?_
  refine v_isub (pc := 7) dX4_force_7 ?_
  refine v_callSi (pc := 8) (av := [.int x1, .int (0 : Int32), .int ((xI σ 0) - (1 : Int32))]) (rest := []) (ct_X4_within x1 (0 : Int32) ((xI σ 0) - (1 : Int32))) mi_X4_within q_384 (by decide) rfl rfl (Nat.le_of_ble_eq_true rfl) dX4_force_8 (fun q1 => ?_)
  refine v_if_ne (pc := 11) (tgt := 17) dX4_force_11 rfl ?_ ?_
  · refine v_aload_n (pc := 17) (i := 0) dX4_force_17 rfl rfl ?_
    refine gX4_now (pc := 18) q_326 dX4_force_18 ?_
    refine gX2_law (pc := 21) (y := 0) (by decide) q_171 dX4_force_21 ?_
    refine v_nmi (fun w2 => ?_)
    refine v_istore_n (pc := 24) (lv' := [(2, .int w2), (0, .ref (aMain ad)), (1, .int x1)]) (i := 2) dX4_force_24 rfl (by decide) rfl ?_
    refine v_aload_n (pc := 25) (i := 0) dX4_force_25 rfl rfl ?_
    refine gX4_now (pc := 26) q_326 dX4_force_26 ?_
    refine v_iload_n (pc := 29) (i := 1) dX4_force_29 rfl rfl ?_
    refine pX2_law (pc := 30) (y := 0) (by decide) q_171 dX4_force_30 ?_
    refine v_nms (fun σ3 => ?_)
    refine v_iload_n (pc := 33) (i := 2) dX4_force_33 rfl rfl ?_
    exact v_iret (pc := 34) dX4_force_34
  · refine v_bipush (pc := 14) dX4_force_14 bp_m2 ?_
    exact v_iret (pc := 16) dX4_force_16
theorem ct_X4_force {g : Gt} {ad : Nat → Nat} (x1 : Int32) : CT g (LX ad) yX4_force cX4_force 3 (some .int) 2 [.ref (aMain ad), .int x1] iI (wX g ad) (f_X4_force x1) :=
  ct_of_V (own := RX4) (lv0 := [(0, .ref (aMain ad)), (1, .int x1)]) (by decide +kernel) rfl (Nat.le_of_ble_eq_true rfl) rfl (fun z σ => vf_X4_force z x1 σ)
-- LighthouseLiedTo.isShip
theorem dX4_isShip_0 : decode cX4_isShip 0 = .ok (.iload_n 1, 1) := by decide +kernel
theorem dX4_isShip_1 : decode cX4_isShip 1 = .ok (.iconst 0, 1) := by decide +kernel
theorem dX4_isShip_2 : decode cX4_isShip 2 = .ok (.aload_n 0, 1) := by decide +kernel
theorem dX4_isShip_3 : decode cX4_isShip 3 = .ok (.getfield 39, 3) := by decide +kernel
theorem dX4_isShip_6 : decode cX4_isShip 6 = .ok (.getfield 69, 3) := by decide +kernel
theorem dX4_isShip_9 : decode cX4_isShip 9 = .ok (.iconst 1, 1) := by decide +kernel
theorem dX4_isShip_10 : decode cX4_isShip 10 = .ok (.isub, 1) := by decide +kernel
theorem dX4_isShip_11 : decode cX4_isShip 11 = .ok (.invokestatic 106, 3) := by decide +kernel
theorem dX4_isShip_14 : decode cX4_isShip 14 = .ok (.ireturn, 1) := by decide +kernel
def f_X4_isShip (x1 : Int32) (σ : GX) : Option (Int32 × GX) :=
  bnd (f_X4_within x1 (0 : Int32) ((xS σ 0 1) - (1 : Int32)) σ) fun q1 => if q1.1 = 0 ∨ q1.1 = 1 then some (q1.1, q1.2) else none
theorem vf_X4_isShip {g : Gt} {ad : Nat → Nat} (z : Zt) (x1 : Int32) (σ : GX) : V g (LX ad) 2 RX4 cX4_isShip 2 (some .boolean) (wX g ad) iI z (f_X4_isShip x1 σ) σ 0 [(0, .ref (aMain ad)), (1, .int x1)] [] := by
  unfold f_X4_isShip
  refine v_iload_n (pc := 0) (i := 1) dX4_isShip_0 rfl rfl ?_
  refine v_iconst (pc := 1) dX4_isShip_1 ic_0 ?_
  refine v_aload_n (pc := 2) (i := 0) dX4_isShip_2 rfl rfl ?_
  refine gX4_now (pc := 3) q_326 dX4_isShip_3 ?_
  refine gX2_ships (pc := 6) (y := 0) (by decide) q_163 dX4_isShip_6 ?_
  refine v_iconst (pc := 9) dX4_isShip_9 ic_1 ?_
  refine v_isub (pc := 10) dX4_isShip_10 ?_
  refine v_callSi (pc := 11) (av := [.int x1, .int (0 : Int32), .int ((xS σ 0 1) - (1 : Int32))]) (rest := []) (ct_X4_within x1 (0 : Int32) ((xS σ 0 1) - (1 : Int32))) mi_X4_within q_384 (by decide) rfl rfl (Nat.le_of_ble_eq_true rfl) dX4_isShip_11 (fun q1 => ?_)
  exact v_zret (pc := 14) dX4_isShip_14
theorem ct_X4_isShip {g : Gt} {ad : Nat → Nat} (x1 : Int32) : CT g (LX ad) yX4_isShip cX4_isShip 2 (some .boolean) 2 [.ref (aMain ad), .int x1] iI (wX g ad) (f_X4_isShip x1) :=
  ct_of_V (own := RX4) (lv0 := [(0, .ref (aMain ad)), (1, .int x1)]) (by decide +kernel) rfl (Nat.le_of_ble_eq_true rfl) rfl (fun z σ => vf_X4_isShip z x1 σ)
-- LighthouseLiedTo.asks
theorem dX4_asks_0 : decode cX4_asks 0 = .ok (.iload_n 1, 1) := by decide +kernel
theorem dX4_asks_1 : decode cX4_asks 1 = .ok (.iconst 0, 1) := by decide +kernel
theorem dX4_asks_2 : decode cX4_asks 2 = .ok (.iconst 2, 1) := by decide +kernel
theorem dX4_asks_3 : decode cX4_asks 3 = .ok (.invokestatic 106, 3) := by decide +kernel
theorem dX4_asks_6 : decode cX4_asks 6 = .ok (.ifCond .eq 23, 3) := by decide +kernel
theorem dX4_asks_9 : decode cX4_asks 9 = .ok (.iload_n 2, 1) := by decide +kernel
theorem dX4_asks_10 : decode cX4_asks 10 = .ok (.invokestatic 102, 3) := by decide +kernel
theorem dX4_asks_13 : decode cX4_asks 13 = .ok (.ifCond .eq 16, 3) := by decide +kernel
theorem dX4_asks_16 : decode cX4_asks 16 = .ok (.iload_n 3, 1) := by decide +kernel
theorem dX4_asks_17 : decode cX4_asks 17 = .ok (.iconst (-1), 1) := by decide +kernel
theorem dX4_asks_18 : decode cX4_asks 18 = .ok (.if_icmp .eq 15, 3) := by decide +kernel
theorem dX4_asks_21 : decode cX4_asks 21 = .ok (.aload_n 0, 1) := by decide +kernel
theorem dX4_asks_22 : decode cX4_asks 22 = .ok (.iload_n 3, 1) := by decide +kernel
theorem dX4_asks_23 : decode cX4_asks 23 = .ok (.invokevirtual 125, 3) := by decide +kernel
theorem dX4_asks_26 : decode cX4_asks 26 = .ok (.ifCond .ne 7, 3) := by decide +kernel
theorem dX4_asks_29 : decode cX4_asks 29 = .ok (.sipush (-1000), 3) := by decide +kernel
theorem dX4_asks_32 : decode cX4_asks 32 = .ok (.ireturn, 1) := by decide +kernel
theorem dX4_asks_33 : decode cX4_asks 33 = .ok (.aload_n 0, 1) := by decide +kernel
theorem dX4_asks_34 : decode cX4_asks 34 = .ok (.getfield 39, 3) := by decide +kernel
theorem dX4_asks_37 : decode cX4_asks 37 = .ok (.iload_n 1, 1) := by decide +kernel
theorem dX4_asks_38 : decode cX4_asks 38 = .ok (.iload_n 2, 1) := by decide +kernel
theorem dX4_asks_39 : decode cX4_asks 39 = .ok (.iload_n 3, 1) := by decide +kernel
theorem dX4_asks_40 : decode cX4_asks 40 = .ok (.iconst (-1), 1) := by decide +kernel
theorem dX4_asks_41 : decode cX4_asks 41 = .ok (.if_icmp .ne 7, 3) := by decide +kernel
theorem dX4_asks_44 : decode cX4_asks 44 = .ok (.iconst 0, 1) := by decide +kernel
theorem dX4_asks_45 : decode cX4_asks 45 = .ok (.goto 12, 3) := by decide +kernel
theorem dX4_asks_48 : decode cX4_asks 48 = .ok (.aload_n 0, 1) := by decide +kernel
theorem dX4_asks_49 : decode cX4_asks 49 = .ok (.getfield 39, 3) := by decide +kernel
theorem dX4_asks_52 : decode cX4_asks 52 = .ok (.getfield 128, 3) := by decide +kernel
theorem dX4_asks_55 : decode cX4_asks 55 = .ok (.iload_n 3, 1) := by decide +kernel
theorem dX4_asks_56 : decode cX4_asks 56 = .ok (.iaload, 1) := by decide +kernel
theorem dX4_asks_57 : decode cX4_asks 57 = .ok (.invokevirtual 131, 3) := by decide +kernel
theorem dX4_asks_60 : decode cX4_asks 60 = .ok (.ireturn, 1) := by decide +kernel
def b_X4_asks_33 (x1 : Int32) (x2 : Int32) (x3 : Int32) (σ : GX) : Option (Int32 × GX) :=
  if x3 ≠ (-1 : Int32) then (grd x3 6 (bnd (f_X2_says 0 x1 x2 (xB σ 0 4 x3.toNatClampNeg) σ) fun q3 => some (q3.1, q3.2))) else (bnd (f_X2_says 0 x1 x2 (0 : Int32) σ) fun q4 => some (q4.1, q4.2))
theorem vb_X4_asks_33 {g : Gt} {ad : Nat → Nat} (z : Zt) (x1 : Int32) (x2 : Int32) (x3 : Int32) (σ : GX) : V g (LX ad) 4 RX4 cX4_asks 4 (some .int) (wX g ad) iI z (b_X4_asks_33 x1 x2 x3 σ) σ 33 [(0, .ref (aMain ad)), (1, .int x1), (2, .int x2), (3, .int x3)] [] := by
  unfold b_X4_asks_33
  refine v_aload_n (pc := 33) (i := 0) dX4_asks_33 rfl rfl ?_
  refine gX4_now (pc := 34) q_326 dX4_asks_34 ?_
  refine v_iload_n (pc := 37) (i := 1) dX4_asks_37 rfl rfl ?_
  refine v_iload_n (pc := 38) (i := 2) dX4_asks_38 rfl rfl ?_
  refine v_iload_n (pc := 39) (i := 3) dX4_asks_39 rfl rfl ?_
  refine v_iconst (pc := 40) dX4_asks_40 ic_m1 ?_
  refine v_icmp_ne (pc := 41) (tgt := 48) dX4_asks_41 rfl ?_ ?_
  · refine v_aload_n (pc := 48) (i := 0) dX4_asks_48 rfl rfl ?_
    refine gX4_now (pc := 49) q_326 dX4_asks_49 ?_
    refine gX2_draught (pc := 52) (y := 0) (by decide) q_158 dX4_asks_52 ?_
    refine v_iload_n (pc := 55) (i := 3) dX4_asks_55 rfl rfl ?_
    refine lX_sea4 (pc := 56) (y := 0) (by decide) dX4_asks_56 ?_
    refine v_callVi (pc := 57) (rcX2 (by decide)) (As := [.int x1, .int x2, .int (xB σ 0 4 x3.toNatClampNeg)]) (rest := []) (ct_X2_says (by decide) x1 x2 (xB σ 0 4 x3.toNatClampNeg)) mi_X2_says q_437 (by decide) rfl rfl (Nat.le_of_ble_eq_true rfl) dX4_asks_57 (fun q3 => ?_)
    exact v_iret (pc := 60) dX4_asks_60
  · refine v_iconst (pc := 44) dX4_asks_44 ic_0 ?_
    refine v_goto (pc := 45) (tgt := 57) dX4_asks_45 rfl ?_
    refine v_callVi (pc := 57) (rcX2 (by decide)) (As := [.int x1, .int x2, .int (0 : Int32)]) (rest := []) (ct_X2_says (by decide) x1 x2 (0 : Int32)) mi_X2_says q_437 (by decide) rfl rfl (Nat.le_of_ble_eq_true rfl) dX4_asks_57 (fun q4 => ?_)
    exact v_iret (pc := 60) dX4_asks_60
def f_X4_asks (x1 : Int32) (x2 : Int32) (x3 : Int32) (σ : GX) : Option (Int32 × GX) :=
  bnd (f_X4_within x1 (0 : Int32) (2 : Int32) σ) fun q1 => if q1.1 = 0 then (some ((-1000 : Int32), q1.2)) else (bnd (f_X4_isCell x2 q1.2) fun q2 => if q2.1 = 0 then (some ((-1000 : Int32), q2.2)) else (if x3 = (-1 : Int32) then (b_X4_asks_33 x1 x2 x3 q2.2) else (bnd (f_X4_isShip x3 q2.2) fun q5 => if q5.1 ≠ 0 then (b_X4_asks_33 x1 x2 x3 q5.2) else (some ((-1000 : Int32), q5.2)))))
theorem vf_X4_asks {g : Gt} {ad : Nat → Nat} (z : Zt) (x1 : Int32) (x2 : Int32) (x3 : Int32) (σ : GX) : V g (LX ad) 4 RX4 cX4_asks 4 (some .int) (wX g ad) iI z (f_X4_asks x1 x2 x3 σ) σ 0 [(0, .ref (aMain ad)), (1, .int x1), (2, .int x2), (3, .int x3)] [] := by
  unfold f_X4_asks
  refine v_iload_n (pc := 0) (i := 1) dX4_asks_0 rfl rfl ?_
  refine v_iconst (pc := 1) dX4_asks_1 ic_0 ?_
  refine v_iconst (pc := 2) dX4_asks_2 ic_2 ?_
  refine v_callSi (pc := 3) (av := [.int x1, .int (0 : Int32), .int (2 : Int32)]) (rest := []) (ct_X4_within x1 (0 : Int32) (2 : Int32)) mi_X4_within q_384 (by decide) rfl rfl (Nat.le_of_ble_eq_true rfl) dX4_asks_3 (fun q1 => ?_)
  refine v_if_eq (pc := 6) (tgt := 29) dX4_asks_6 rfl ?_ ?_
  · refine v_sipush (pc := 29) dX4_asks_29 sp_m1000 ?_
    exact v_iret (pc := 32) dX4_asks_32
  · refine v_iload_n (pc := 9) (i := 2) dX4_asks_9 rfl rfl ?_
    refine v_callSi (pc := 10) (av := [.int x2]) (rest := []) (ct_X4_isCell x2) mi_X4_isCell q_381 (by decide) rfl rfl (Nat.le_of_ble_eq_true rfl) dX4_asks_10 (fun q2 => ?_)
    refine v_if_eq (pc := 13) (tgt := 29) dX4_asks_13 rfl ?_ ?_
    · refine v_sipush (pc := 29) dX4_asks_29 sp_m1000 ?_
      exact v_iret (pc := 32) dX4_asks_32
    · refine v_iload_n (pc := 16) (i := 3) dX4_asks_16 rfl rfl ?_
      refine v_iconst (pc := 17) dX4_asks_17 ic_m1 ?_
      refine v_icmp_eq (pc := 18) (tgt := 33) dX4_asks_18 rfl ?_ ?_
      · exact v_sub [0, 1, 2, 3] rfl (vb_X4_asks_33 z x1 x2 x3 q2.2)
      · refine v_aload_n (pc := 21) (i := 0) dX4_asks_21 rfl rfl ?_
        refine v_iload_n (pc := 22) (i := 3) dX4_asks_22 rfl rfl ?_
        refine v_callVi (pc := 23) rcX4 (As := [.int x3]) (rest := []) (ct_X4_isShip x3) mi_X4_isShip q_433 (by decide) rfl rfl (Nat.le_of_ble_eq_true rfl) dX4_asks_23 (fun q5 => ?_)
        refine v_if_ne (pc := 26) (tgt := 33) dX4_asks_26 rfl ?_ ?_
        · exact v_sub [0, 1, 2, 3] rfl (vb_X4_asks_33 z x1 x2 x3 q5.2)
        · refine v_sipush (pc := 29) dX4_asks_29 sp_m1000 ?_
          exact v_iret (pc := 32) dX4_asks_32
theorem ct_X4_asks {g : Gt} {ad : Nat → Nat} (x1 : Int32) (x2 : Int32) (x3 : Int32) : CT g (LX ad) yX4_asks cX4_asks 4 (some .int) 4 [.ref (aMain ad), .int x1, .int x2, .int x3] iI (wX g ad) (f_X4_asks x1 x2 x3) :=
  ct_of_V (own := RX4) (lv0 := [(0, .ref (aMain ad)), (1, .int x1), (2, .int x2), (3, .int x3)]) (by decide +kernel) rfl (Nat.le_of_ble_eq_true rfl) rfl (fun z σ => vf_X4_asks z x1 x2 x3 σ)
-- LighthouseLiedTo.ship
theorem dX4_ship_0 : decode cX4_ship 0 = .ok (.iload_n 1, 1) := by decide +kernel
theorem dX4_ship_1 : decode cX4_ship 1 = .ok (.iconst 0, 1) := by decide +kernel
theorem dX4_ship_2 : decode cX4_ship 2 = .ok (.bipush 59, 2) := by decide +kernel
theorem dX4_ship_4 : decode cX4_ship 4 = .ok (.invokestatic 106, 3) := by decide +kernel
theorem dX4_ship_7 : decode cX4_ship 7 = .ok (.ifCond .eq 14, 3) := by decide +kernel
theorem dX4_ship_10 : decode cX4_ship 10 = .ok (.iload_n 2, 1) := by decide +kernel
theorem dX4_ship_11 : decode cX4_ship 11 = .ok (.iconst 0, 1) := by decide +kernel
theorem dX4_ship_12 : decode cX4_ship 12 = .ok (.sipush 3599, 3) := by decide +kernel
theorem dX4_ship_15 : decode cX4_ship 15 = .ok (.invokestatic 106, 3) := by decide +kernel
theorem dX4_ship_18 : decode cX4_ship 18 = .ok (.ifCond .ne 6, 3) := by decide +kernel
theorem dX4_ship_21 : decode cX4_ship 21 = .ok (.bipush (-2), 2) := by decide +kernel
theorem dX4_ship_23 : decode cX4_ship 23 = .ok (.ireturn, 1) := by decide +kernel
theorem dX4_ship_24 : decode cX4_ship 24 = .ok (.aload_n 0, 1) := by decide +kernel
theorem dX4_ship_25 : decode cX4_ship 25 = .ok (.getfield 39, 3) := by decide +kernel
theorem dX4_ship_28 : decode cX4_ship 28 = .ok (.getfield 69, 3) := by decide +kernel
theorem dX4_ship_31 : decode cX4_ship 31 = .ok (.bipush 6, 2) := by decide +kernel
theorem dX4_ship_33 : decode cX4_ship 33 = .ok (.if_icmp .lt 6, 3) := by decide +kernel
theorem dX4_ship_36 : decode cX4_ship 36 = .ok (.bipush (-4), 2) := by decide +kernel
theorem dX4_ship_38 : decode cX4_ship 38 = .ok (.ireturn, 1) := by decide +kernel
theorem dX4_ship_39 : decode cX4_ship 39 = .ok (.aload_n 0, 1) := by decide +kernel
theorem dX4_ship_40 : decode cX4_ship 40 = .ok (.getfield 39, 3) := by decide +kernel
theorem dX4_ship_43 : decode cX4_ship 43 = .ok (.iload_n 1, 1) := by decide +kernel
theorem dX4_ship_44 : decode cX4_ship 44 = .ok (.iload_n 2, 1) := by decide +kernel
theorem dX4_ship_45 : decode cX4_ship 45 = .ok (.invokevirtual 135, 3) := by decide +kernel
theorem dX4_ship_48 : decode cX4_ship 48 = .ok (.ireturn, 1) := by decide +kernel
def f_X4_ship (x1 : Int32) (x2 : Int32) (σ : GX) : Option (Int32 × GX) :=
  bnd (f_X4_within x1 (0 : Int32) (59 : Int32) σ) fun q1 => if q1.1 = 0 then (some ((-2 : Int32), q1.2)) else (bnd (f_X4_within x2 (0 : Int32) (3599 : Int32) q1.2) fun q2 => if q2.1 ≠ 0 then (if (xS q2.2 0 1) < (6 : Int32) then (bnd (f_X2_launch 0 x1 x2 q2.2) fun q3 => some (q3.1, q3.2)) else (some ((-4 : Int32), q2.2))) else (some ((-2 : Int32), q2.2)))
theorem vf_X4_ship {g : Gt} {ad : Nat → Nat} (z : Zt) (x1 : Int32) (x2 : Int32) (σ : GX) : V g (LX ad) 2 RX4 cX4_ship 3 (some .int) (wX g ad) iI z (f_X4_ship x1 x2 σ) σ 0 [(0, .ref (aMain ad)), (1, .int x1), (2, .int x2)] [] := by
  unfold f_X4_ship
  refine v_iload_n (pc := 0) (i := 1) dX4_ship_0 rfl rfl ?_
  refine v_iconst (pc := 1) dX4_ship_1 ic_0 ?_
  refine v_bipush (pc := 2) dX4_ship_2 bp_59 ?_
  refine v_callSi (pc := 4) (av := [.int x1, .int (0 : Int32), .int (59 : Int32)]) (rest := []) (ct_X4_within x1 (0 : Int32) (59 : Int32)) mi_X4_within q_384 (by decide) rfl rfl (Nat.le_of_ble_eq_true rfl) dX4_ship_4 (fun q1 => ?_)
  refine v_if_eq (pc := 7) (tgt := 21) dX4_ship_7 rfl ?_ ?_
  · refine v_bipush (pc := 21) dX4_ship_21 bp_m2 ?_
    exact v_iret (pc := 23) dX4_ship_23
  · refine v_iload_n (pc := 10) (i := 2) dX4_ship_10 rfl rfl ?_
    refine v_iconst (pc := 11) dX4_ship_11 ic_0 ?_
    refine v_sipush (pc := 12) dX4_ship_12 sp_3599 ?_
    refine v_callSi (pc := 15) (av := [.int x2, .int (0 : Int32), .int (3599 : Int32)]) (rest := []) (ct_X4_within x2 (0 : Int32) (3599 : Int32)) mi_X4_within q_384 (by decide) rfl rfl (Nat.le_of_ble_eq_true rfl) dX4_ship_15 (fun q2 => ?_)
    refine v_if_ne (pc := 18) (tgt := 24) dX4_ship_18 rfl ?_ ?_
    · refine v_aload_n (pc := 24) (i := 0) dX4_ship_24 rfl rfl ?_
      refine gX4_now (pc := 25) q_326 dX4_ship_25 ?_
      refine gX2_ships (pc := 28) (y := 0) (by decide) q_163 dX4_ship_28 ?_
      refine v_bipush (pc := 31) dX4_ship_31 bp_6 ?_
      refine v_icmp_lt (pc := 33) (tgt := 39) dX4_ship_33 rfl ?_ ?_
      · refine v_aload_n (pc := 39) (i := 0) dX4_ship_39 rfl rfl ?_
        refine gX4_now (pc := 40) q_326 dX4_ship_40 ?_
        refine v_iload_n (pc := 43) (i := 1) dX4_ship_43 rfl rfl ?_
        refine v_iload_n (pc := 44) (i := 2) dX4_ship_44 rfl rfl ?_
        refine v_callVi (pc := 45) (rcX2 (by decide)) (As := [.int x1, .int x2]) (rest := []) (ct_X2_launch (by decide) x1 x2) mi_X2_launch q_455 (by decide) rfl rfl (Nat.le_of_ble_eq_true rfl) dX4_ship_45 (fun q3 => ?_)
        exact v_iret (pc := 48) dX4_ship_48
      · refine v_bipush (pc := 36) dX4_ship_36 bp_m4 ?_
        exact v_iret (pc := 38) dX4_ship_38
    · refine v_bipush (pc := 21) dX4_ship_21 bp_m2 ?_
      exact v_iret (pc := 23) dX4_ship_23
theorem ct_X4_ship {g : Gt} {ad : Nat → Nat} (x1 : Int32) (x2 : Int32) : CT g (LX ad) yX4_ship cX4_ship 3 (some .int) 2 [.ref (aMain ad), .int x1, .int x2] iI (wX g ad) (f_X4_ship x1 x2) :=
  ct_of_V (own := RX4) (lv0 := [(0, .ref (aMain ad)), (1, .int x1), (2, .int x2)]) (by decide +kernel) rfl (Nat.le_of_ble_eq_true rfl) rfl (fun z σ => vf_X4_ship z x1 x2 σ)
-- LighthouseLiedTo.put
theorem dX4_put_0 : decode cX4_put 0 = .ok (.aload_n 0, 1) := by decide +kernel
theorem dX4_put_1 : decode cX4_put 1 = .ok (.iload_n 1, 1) := by decide +kernel
theorem dX4_put_2 : decode cX4_put 2 = .ok (.invokevirtual 125, 3) := by decide +kernel
theorem dX4_put_5 : decode cX4_put 5 = .ok (.ifCond .ne 6, 3) := by decide +kernel
theorem dX4_put_8 : decode cX4_put 8 = .ok (.bipush (-5), 2) := by decide +kernel
theorem dX4_put_10 : decode cX4_put 10 = .ok (.ireturn, 1) := by decide +kernel
theorem dX4_put_11 : decode cX4_put 11 = .ok (.iload_n 2, 1) := by decide +kernel
theorem dX4_put_12 : decode cX4_put 12 = .ok (.iconst 0, 1) := by decide +kernel
theorem dX4_put_13 : decode cX4_put 13 = .ok (.iconst 1, 1) := by decide +kernel
theorem dX4_put_14 : decode cX4_put 14 = .ok (.invokestatic 106, 3) := by decide +kernel
theorem dX4_put_17 : decode cX4_put 17 = .ok (.ifCond .eq 22, 3) := by decide +kernel
theorem dX4_put_20 : decode cX4_put 20 = .ok (.iload_n 3, 1) := by decide +kernel
theorem dX4_put_21 : decode cX4_put 21 = .ok (.iconst 0, 1) := by decide +kernel
theorem dX4_put_22 : decode cX4_put 22 = .ok (.iload_n 2, 1) := by decide +kernel
theorem dX4_put_23 : decode cX4_put 23 = .ok (.ifCond .ne 8, 3) := by decide +kernel
theorem dX4_put_26 : decode cX4_put 26 = .ok (.bipush 35, 2) := by decide +kernel
theorem dX4_put_28 : decode cX4_put 28 = .ok (.goto 5, 3) := by decide +kernel
theorem dX4_put_31 : decode cX4_put 31 = .ok (.bipush 99, 2) := by decide +kernel
theorem dX4_put_33 : decode cX4_put 33 = .ok (.invokestatic 106, 3) := by decide +kernel
theorem dX4_put_36 : decode cX4_put 36 = .ok (.ifCond .ne 6, 3) := by decide +kernel
theorem dX4_put_39 : decode cX4_put 39 = .ok (.bipush (-7), 2) := by decide +kernel
theorem dX4_put_41 : decode cX4_put 41 = .ok (.ireturn, 1) := by decide +kernel
theorem dX4_put_42 : decode cX4_put 42 = .ok (.iload_n 2, 1) := by decide +kernel
theorem dX4_put_43 : decode cX4_put 43 = .ok (.ifCond .ne 13, 3) := by decide +kernel
theorem dX4_put_46 : decode cX4_put 46 = .ok (.aload_n 0, 1) := by decide +kernel
theorem dX4_put_47 : decode cX4_put 47 = .ok (.getfield 39, 3) := by decide +kernel
theorem dX4_put_50 : decode cX4_put 50 = .ok (.getfield 139, 3) := by decide +kernel
theorem dX4_put_53 : decode cX4_put 53 = .ok (.goto 10, 3) := by decide +kernel
theorem dX4_put_56 : decode cX4_put 56 = .ok (.aload_n 0, 1) := by decide +kernel
theorem dX4_put_57 : decode cX4_put 57 = .ok (.getfield 39, 3) := by decide +kernel
theorem dX4_put_60 : decode cX4_put 60 = .ok (.getfield 128, 3) := by decide +kernel
theorem dX4_put_63 : decode cX4_put 63 = .ok (.astore 4, 2) := by decide +kernel
theorem dX4_put_65 : decode cX4_put 65 = .ok (.aload 4, 2) := by decide +kernel
theorem dX4_put_67 : decode cX4_put 67 = .ok (.iload_n 1, 1) := by decide +kernel
theorem dX4_put_68 : decode cX4_put 68 = .ok (.iaload, 1) := by decide +kernel
theorem dX4_put_69 : decode cX4_put 69 = .ok (.istore 5, 2) := by decide +kernel
theorem dX4_put_71 : decode cX4_put 71 = .ok (.aload 4, 2) := by decide +kernel
theorem dX4_put_73 : decode cX4_put 73 = .ok (.iload_n 1, 1) := by decide +kernel
theorem dX4_put_74 : decode cX4_put 74 = .ok (.iload_n 3, 1) := by decide +kernel
theorem dX4_put_75 : decode cX4_put 75 = .ok (.iastore, 1) := by decide +kernel
theorem dX4_put_76 : decode cX4_put 76 = .ok (.iload 5, 2) := by decide +kernel
theorem dX4_put_78 : decode cX4_put 78 = .ok (.ireturn, 1) := by decide +kernel
def b_X4_put_63 (x1 : Int32) (x3 : Int32) (σ : GX) : Option (Int32 × GX) :=
  grd x1 6 (bnd (some (xB σ 0 4 x1.toNatClampNeg)) fun w4 => grd x1 6 (bnd (some (sB σ 0 4 x1.toNatClampNeg x3)) fun σ5 => some (w4, σ5)))
theorem vb_X4_put_63 {g : Gt} {ad : Nat → Nat} (z : Zt) (x1 : Int32) (x3 : Int32) (σ : GX) : V g (LX ad) 3 RX4 cX4_put 6 (some .int) (wX g ad) iI z (b_X4_put_63 x1 x3 σ) σ 63 [(1, .int x1), (3, .int x3)] [.ref (aSeaA ad 0 4)] := by
  unfold b_X4_put_63
  refine v_astore (pc := 63) (lv' := [(4, .ref (aSeaA ad 0 4)), (1, .int x1), (3, .int x3)]) (i := 4) dX4_put_63 (by decide) rfl ?_
  refine v_aload (pc := 65) (i := 4) dX4_put_65 rfl ?_
  refine v_iload_n (pc := 67) (i := 1) dX4_put_67 rfl rfl ?_
  refine lX_sea4 (pc := 68) (y := 0) (by decide) dX4_put_68 ?_
  refine v_nmi (fun w4 => ?_)
  refine v_istore (pc := 69) (lv' := [(5, .int w4), (4, .ref (aSeaA ad 0 4)), (1, .int x1), (3, .int x3)]) (i := 5) dX4_put_69 (by decide) rfl ?_
  refine v_aload (pc := 71) (i := 4) dX4_put_71 rfl ?_
  refine v_iload_n (pc := 73) (i := 1) dX4_put_73 rfl rfl ?_
  refine v_iload_n (pc := 74) (i := 3) dX4_put_74 rfl rfl ?_
  refine sX_sea4 (pc := 75) (y := 0) (by decide) dX4_put_75 ?_
  refine v_nms (fun σ5 => ?_)
  refine v_iload (pc := 76) (i := 5) dX4_put_76 rfl ?_
  exact v_iret (pc := 78) dX4_put_78
def b_X4_put_63b (x1 : Int32) (x3 : Int32) (σ : GX) : Option (Int32 × GX) :=
  grd x1 6 (bnd (some (xB σ 0 3 x1.toNatClampNeg)) fun w6 => grd x1 6 (bnd (some (sB σ 0 3 x1.toNatClampNeg x3)) fun σ7 => some (w6, σ7)))
theorem vb_X4_put_63b {g : Gt} {ad : Nat → Nat} (z : Zt) (x1 : Int32) (x3 : Int32) (σ : GX) : V g (LX ad) 3 RX4 cX4_put 6 (some .int) (wX g ad) iI z (b_X4_put_63b x1 x3 σ) σ 63 [(1, .int x1), (3, .int x3)] [.ref (aSeaA ad 0 3)] := by
  unfold b_X4_put_63b
  refine v_astore (pc := 63) (lv' := [(4, .ref (aSeaA ad 0 3)), (1, .int x1), (3, .int x3)]) (i := 4) dX4_put_63 (by decide) rfl ?_
  refine v_aload (pc := 65) (i := 4) dX4_put_65 rfl ?_
  refine v_iload_n (pc := 67) (i := 1) dX4_put_67 rfl rfl ?_
  refine lX_sea3 (pc := 68) (y := 0) (by decide) dX4_put_68 ?_
  refine v_nmi (fun w6 => ?_)
  refine v_istore (pc := 69) (lv' := [(5, .int w6), (4, .ref (aSeaA ad 0 3)), (1, .int x1), (3, .int x3)]) (i := 5) dX4_put_69 (by decide) rfl ?_
  refine v_aload (pc := 71) (i := 4) dX4_put_71 rfl ?_
  refine v_iload_n (pc := 73) (i := 1) dX4_put_73 rfl rfl ?_
  refine v_iload_n (pc := 74) (i := 3) dX4_put_74 rfl rfl ?_
  refine sX_sea3 (pc := 75) (y := 0) (by decide) dX4_put_75 ?_
  refine v_nms (fun σ7 => ?_)
  refine v_iload (pc := 76) (i := 5) dX4_put_76 rfl ?_
  exact v_iret (pc := 78) dX4_put_78
def b_X4_put_33 (x1 : Int32) (x2 : Int32) (x3 : Int32) (xs0 : Int32) (xs1 : Int32) (xs2 : Int32) (σ : GX) : Option (Int32 × GX) :=
  bnd (f_X4_within xs2 xs1 xs0 σ) fun q3 => if q3.1 ≠ 0 then (if x2 ≠ 0 then (b_X4_put_63 x1 x3 q3.2) else (b_X4_put_63b x1 x3 q3.2)) else (some ((-7 : Int32), q3.2))
theorem vb_X4_put_33 {g : Gt} {ad : Nat → Nat} (z : Zt) (x1 : Int32) (x2 : Int32) (x3 : Int32) (xs0 : Int32) (xs1 : Int32) (xs2 : Int32) (σ : GX) : V g (LX ad) 3 RX4 cX4_put 6 (some .int) (wX g ad) iI z (b_X4_put_33 x1 x2 x3 xs0 xs1 xs2 σ) σ 33 [(0, .ref (aMain ad)), (1, .int x1), (2, .int x2), (3, .int x3)] [.int xs0, .int xs1, .int xs2] := by
  unfold b_X4_put_33
  refine v_callSi (pc := 33) (av := [.int xs2, .int xs1, .int xs0]) (rest := []) (ct_X4_within xs2 xs1 xs0) mi_X4_within q_384 (by decide) rfl rfl (Nat.le_of_ble_eq_true rfl) dX4_put_33 (fun q3 => ?_)
  refine v_if_ne (pc := 36) (tgt := 42) dX4_put_36 rfl ?_ ?_
  · refine v_iload_n (pc := 42) (i := 2) dX4_put_42 rfl rfl ?_
    refine v_if_ne (pc := 43) (tgt := 56) dX4_put_43 rfl ?_ ?_
    · refine v_aload_n (pc := 56) (i := 0) dX4_put_56 rfl rfl ?_
      refine gX4_now (pc := 57) q_326 dX4_put_57 ?_
      refine gX2_draught (pc := 60) (y := 0) (by decide) q_158 dX4_put_60 ?_
      exact v_sub [1, 3] rfl (vb_X4_put_63 z x1 x3 q3.2)
    · refine v_aload_n (pc := 46) (i := 0) dX4_put_46 rfl rfl ?_
      refine gX4_now (pc := 47) q_326 dX4_put_47 ?_
      refine gX2_cell (pc := 50) (y := 0) (by decide) q_156 dX4_put_50 ?_
      refine v_goto (pc := 53) (tgt := 63) dX4_put_53 rfl ?_
      exact v_sub [1, 3] rfl (vb_X4_put_63b z x1 x3 q3.2)
  · refine v_bipush (pc := 39) dX4_put_39 bp_m7 ?_
    exact v_iret (pc := 41) dX4_put_41
def f_X4_put (x1 : Int32) (x2 : Int32) (x3 : Int32) (σ : GX) : Option (Int32 × GX) :=
  bnd (f_X4_isShip x1 σ) fun q1 => if q1.1 ≠ 0 then (bnd (f_X4_within x2 (0 : Int32) (1 : Int32) q1.2) fun q2 => if q2.1 = 0 then (some ((-7 : Int32), q2.2)) else (if x2 ≠ 0 then (b_X4_put_33 x1 x2 x3 (99 : Int32) (0 : Int32) x3 q2.2) else (b_X4_put_33 x1 x2 x3 (35 : Int32) (0 : Int32) x3 q2.2))) else (some ((-5 : Int32), q1.2))
theorem vf_X4_put {g : Gt} {ad : Nat → Nat} (z : Zt) (x1 : Int32) (x2 : Int32) (x3 : Int32) (σ : GX) : V g (LX ad) 3 RX4 cX4_put 6 (some .int) (wX g ad) iI z (f_X4_put x1 x2 x3 σ) σ 0 [(0, .ref (aMain ad)), (1, .int x1), (2, .int x2), (3, .int x3)] [] := by
  unfold f_X4_put
  refine v_aload_n (pc := 0) (i := 0) dX4_put_0 rfl rfl ?_
  refine v_iload_n (pc := 1) (i := 1) dX4_put_1 rfl rfl ?_
  refine v_callVi (pc := 2) rcX4 (As := [.int x1]) (rest := []) (ct_X4_isShip x1) mi_X4_isShip q_433 (by decide) rfl rfl (Nat.le_of_ble_eq_true rfl) dX4_put_2 (fun q1 => ?_)
  refine v_if_ne (pc := 5) (tgt := 11) dX4_put_5 rfl ?_ ?_
  · refine v_iload_n (pc := 11) (i := 2) dX4_put_11 rfl rfl ?_
    refine v_iconst (pc := 12) dX4_put_12 ic_0 ?_
    refine v_iconst (pc := 13) dX4_put_13 ic_1 ?_
    refine v_callSi (pc := 14) (av := [.int x2, .int (0 : Int32), .int (1 : Int32)]) (rest := []) (ct_X4_within x2 (0 : Int32) (1 : Int32)) mi_X4_within q_384 (by decide) rfl rfl (Nat.le_of_ble_eq_true rfl) dX4_put_14 (fun q2 => ?_)
    refine v_if_eq (pc := 17) (tgt := 39) dX4_put_17 rfl ?_ ?_
    · refine v_bipush (pc := 39) dX4_put_39 bp_m7 ?_
      exact v_iret (pc := 41) dX4_put_41
    · refine v_iload_n (pc := 20) (i := 3) dX4_put_20 rfl rfl ?_
      refine v_iconst (pc := 21) dX4_put_21 ic_0 ?_
      refine v_iload_n (pc := 22) (i := 2) dX4_put_22 rfl rfl ?_
      refine v_if_ne (pc := 23) (tgt := 31) dX4_put_23 rfl ?_ ?_
      · refine v_bipush (pc := 31) dX4_put_31 bp_99 ?_
        exact v_sub [0, 1, 2, 3] rfl (vb_X4_put_33 z x1 x2 x3 (99 : Int32) (0 : Int32) x3 q2.2)
      · refine v_bipush (pc := 26) dX4_put_26 bp_35 ?_
        refine v_goto (pc := 28) (tgt := 33) dX4_put_28 rfl ?_
        exact v_sub [0, 1, 2, 3] rfl (vb_X4_put_33 z x1 x2 x3 (35 : Int32) (0 : Int32) x3 q2.2)
  · refine v_bipush (pc := 8) dX4_put_8 bp_m5 ?_
    exact v_iret (pc := 10) dX4_put_10
theorem ct_X4_put {g : Gt} {ad : Nat → Nat} (x1 : Int32) (x2 : Int32) (x3 : Int32) : CT g (LX ad) yX4_put cX4_put 6 (some .int) 3 [.ref (aMain ad), .int x1, .int x2, .int x3] iI (wX g ad) (f_X4_put x1 x2 x3) :=
  ct_of_V (own := RX4) (lv0 := [(0, .ref (aMain ad)), (1, .int x1), (2, .int x2), (3, .int x3)]) (by decide +kernel) rfl (Nat.le_of_ble_eq_true rfl) rfl (fun z σ => vf_X4_put z x1 x2 x3 σ)
-- LighthouseLiedTo.told
theorem dX4_told_0 : decode cX4_told 0 = .ok (.aload_n 0, 1) := by decide +kernel
theorem dX4_told_1 : decode cX4_told 1 = .ok (.iload_n 1, 1) := by decide +kernel
theorem dX4_told_2 : decode cX4_told 2 = .ok (.invokevirtual 125, 3) := by decide +kernel
theorem dX4_told_5 : decode cX4_told 5 = .ok (.ifCond .ne 6, 3) := by decide +kernel
theorem dX4_told_8 : decode cX4_told 8 = .ok (.bipush (-5), 2) := by decide +kernel
theorem dX4_told_10 : decode cX4_told 10 = .ok (.ireturn, 1) := by decide +kernel
theorem dX4_told_11 : decode cX4_told 11 = .ok (.iload_n 2, 1) := by decide +kernel
theorem dX4_told_12 : decode cX4_told 12 = .ok (.tableswitch 127 0 6 #[44, 54, 64, 74, 84, 101, 110], 44) := by decide +kernel
theorem dX4_told_56 : decode cX4_told 56 = .ok (.aload_n 0, 1) := by decide +kernel
theorem dX4_told_57 : decode cX4_told 57 = .ok (.getfield 39, 3) := by decide +kernel
theorem dX4_told_60 : decode cX4_told 60 = .ok (.getfield 139, 3) := by decide +kernel
theorem dX4_told_63 : decode cX4_told 63 = .ok (.iload_n 1, 1) := by decide +kernel
theorem dX4_told_64 : decode cX4_told 64 = .ok (.iaload, 1) := by decide +kernel
theorem dX4_told_65 : decode cX4_told 65 = .ok (.ireturn, 1) := by decide +kernel
theorem dX4_told_66 : decode cX4_told 66 = .ok (.aload_n 0, 1) := by decide +kernel
theorem dX4_told_67 : decode cX4_told 67 = .ok (.getfield 39, 3) := by decide +kernel
theorem dX4_told_70 : decode cX4_told 70 = .ok (.getfield 128, 3) := by decide +kernel
theorem dX4_told_73 : decode cX4_told 73 = .ok (.iload_n 1, 1) := by decide +kernel
theorem dX4_told_74 : decode cX4_told 74 = .ok (.iaload, 1) := by decide +kernel
theorem dX4_told_75 : decode cX4_told 75 = .ok (.ireturn, 1) := by decide +kernel
theorem dX4_told_76 : decode cX4_told 76 = .ok (.aload_n 0, 1) := by decide +kernel
theorem dX4_told_77 : decode cX4_told 77 = .ok (.getfield 39, 3) := by decide +kernel
theorem dX4_told_80 : decode cX4_told 80 = .ok (.getfield 142, 3) := by decide +kernel
theorem dX4_told_83 : decode cX4_told 83 = .ok (.iload_n 1, 1) := by decide +kernel
theorem dX4_told_84 : decode cX4_told 84 = .ok (.iaload, 1) := by decide +kernel
theorem dX4_told_85 : decode cX4_told 85 = .ok (.ireturn, 1) := by decide +kernel
theorem dX4_told_86 : decode cX4_told 86 = .ok (.aload_n 0, 1) := by decide +kernel
theorem dX4_told_87 : decode cX4_told 87 = .ok (.getfield 39, 3) := by decide +kernel
theorem dX4_told_90 : decode cX4_told 90 = .ok (.getfield 145, 3) := by decide +kernel
theorem dX4_told_93 : decode cX4_told 93 = .ok (.iload_n 1, 1) := by decide +kernel
theorem dX4_told_94 : decode cX4_told 94 = .ok (.iaload, 1) := by decide +kernel
theorem dX4_told_95 : decode cX4_told 95 = .ok (.ireturn, 1) := by decide +kernel
theorem dX4_told_96 : decode cX4_told 96 = .ok (.aload_n 0, 1) := by decide +kernel
theorem dX4_told_97 : decode cX4_told 97 = .ok (.getfield 39, 3) := by decide +kernel
theorem dX4_told_100 : decode cX4_told 100 = .ok (.iload_n 1, 1) := by decide +kernel
theorem dX4_told_101 : decode cX4_told 101 = .ok (.invokevirtual 148, 3) := by decide +kernel
theorem dX4_told_104 : decode cX4_told 104 = .ok (.ifCond .eq 7, 3) := by decide +kernel
theorem dX4_told_107 : decode cX4_told 107 = .ok (.iconst 1, 1) := by decide +kernel
theorem dX4_told_108 : decode cX4_told 108 = .ok (.goto 4, 3) := by decide +kernel
theorem dX4_told_111 : decode cX4_told 111 = .ok (.iconst 0, 1) := by decide +kernel
theorem dX4_told_112 : decode cX4_told 112 = .ok (.ireturn, 1) := by decide +kernel
theorem dX4_told_113 : decode cX4_told 113 = .ok (.aload_n 0, 1) := by decide +kernel
theorem dX4_told_114 : decode cX4_told 114 = .ok (.getfield 39, 3) := by decide +kernel
theorem dX4_told_117 : decode cX4_told 117 = .ok (.iload_n 1, 1) := by decide +kernel
theorem dX4_told_118 : decode cX4_told 118 = .ok (.invokevirtual 151, 3) := by decide +kernel
theorem dX4_told_121 : decode cX4_told 121 = .ok (.ireturn, 1) := by decide +kernel
theorem dX4_told_122 : decode cX4_told 122 = .ok (.aload_n 0, 1) := by decide +kernel
theorem dX4_told_123 : decode cX4_told 123 = .ok (.getfield 39, 3) := by decide +kernel
theorem dX4_told_126 : decode cX4_told 126 = .ok (.iload_n 1, 1) := by decide +kernel
theorem dX4_told_127 : decode cX4_told 127 = .ok (.invokevirtual 154, 3) := by decide +kernel
theorem dX4_told_130 : decode cX4_told 130 = .ok (.ifCond .eq 7, 3) := by decide +kernel
theorem dX4_told_133 : decode cX4_told 133 = .ok (.iconst 1, 1) := by decide +kernel
theorem dX4_told_134 : decode cX4_told 134 = .ok (.goto 4, 3) := by decide +kernel
theorem dX4_told_137 : decode cX4_told 137 = .ok (.iconst 0, 1) := by decide +kernel
theorem dX4_told_138 : decode cX4_told 138 = .ok (.ireturn, 1) := by decide +kernel
theorem dX4_told_139 : decode cX4_told 139 = .ok (.bipush (-7), 2) := by decide +kernel
theorem dX4_told_141 : decode cX4_told 141 = .ok (.ireturn, 1) := by decide +kernel
def f_X4_told (x1 : Int32) (x2 : Int32) (σ : GX) : Option (Int32 × GX) :=
  bnd (f_X4_isShip x1 σ) fun q1 => if q1.1 ≠ 0 then (if x2 = (0 : Int32) then (grd x1 6 (some ((xB q1.2 0 3 x1.toNatClampNeg), q1.2))) else (if x2 = (1 : Int32) then (grd x1 6 (some ((xB q1.2 0 4 x1.toNatClampNeg), q1.2))) else (if x2 = (2 : Int32) then (grd x1 6 (some ((xB q1.2 0 1 x1.toNatClampNeg), q1.2))) else (if x2 = (3 : Int32) then (grd x1 6 (some ((xB q1.2 0 2 x1.toNatClampNeg), q1.2))) else (if x2 = (4 : Int32) then (bnd (f_X2_isLost 0 x1 q1.2) fun q2 => if q2.1 = 0 then (some ((0 : Int32), q2.2)) else (some ((1 : Int32), q2.2))) else (if x2 = (5 : Int32) then (bnd (f_X2_goal 0 x1 q1.2) fun q3 => some (q3.1, q3.2)) else (if x2 = (6 : Int32) then (bnd (f_X2_sinking 0 x1 q1.2) fun q4 => if q4.1 = 0 then (some ((0 : Int32), q4.2)) else (some ((1 : Int32), q4.2))) else (some ((-7 : Int32), q1.2))))))))) else (some ((-5 : Int32), q1.2))
theorem vf_X4_told {g : Gt} {ad : Nat → Nat} (z : Zt) (x1 : Int32) (x2 : Int32) (σ : GX) : V g (LX ad) 6 RX4 cX4_told 3 (some .int) (wX g ad) iI z (f_X4_told x1 x2 σ) σ 0 [(0, .ref (aMain ad)), (1, .int x1), (2, .int x2)] [] := by
  unfold f_X4_told
  refine v_aload_n (pc := 0) (i := 0) dX4_told_0 rfl rfl ?_
  refine v_iload_n (pc := 1) (i := 1) dX4_told_1 rfl rfl ?_
  refine v_callVi (pc := 2) rcX4 (As := [.int x1]) (rest := []) (ct_X4_isShip x1) mi_X4_isShip q_433 (by decide) rfl rfl (Nat.le_of_ble_eq_true rfl) dX4_told_2 (fun q1 => ?_)
  refine v_if_ne (pc := 5) (tgt := 11) dX4_told_5 rfl ?_ ?_
  · refine v_iload_n (pc := 11) (i := 2) dX4_told_11 rfl rfl ?_
    refine v_case (c := x2 = (0 : Int32)) (fun hx => ?_) (fun hc12_0 => ?_)
    · refine v_tin (pc := 12) (tgt := 56) (off := 44) hx dX4_told_12 (by decide) (by decide) rfl rfl ?_
      refine v_aload_n (pc := 56) (i := 0) dX4_told_56 rfl rfl ?_
      refine gX4_now (pc := 57) q_326 dX4_told_57 ?_
      refine gX2_cell (pc := 60) (y := 0) (by decide) q_156 dX4_told_60 ?_
      refine v_iload_n (pc := 63) (i := 1) dX4_told_63 rfl rfl ?_
      refine lX_sea3 (pc := 64) (y := 0) (by decide) dX4_told_64 ?_
      exact v_iret (pc := 65) dX4_told_65
    refine v_case (c := x2 = (1 : Int32)) (fun hx => ?_) (fun hc12_1 => ?_)
    · refine v_tin (pc := 12) (tgt := 66) (off := 54) hx dX4_told_12 (by decide) (by decide) rfl rfl ?_
      refine v_aload_n (pc := 66) (i := 0) dX4_told_66 rfl rfl ?_
      refine gX4_now (pc := 67) q_326 dX4_told_67 ?_
      refine gX2_draught (pc := 70) (y := 0) (by decide) q_158 dX4_told_70 ?_
      refine v_iload_n (pc := 73) (i := 1) dX4_told_73 rfl rfl ?_
      refine lX_sea4 (pc := 74) (y := 0) (by decide) dX4_told_74 ?_
      exact v_iret (pc := 75) dX4_told_75
    refine v_case (c := x2 = (2 : Int32)) (fun hx => ?_) (fun hc12_2 => ?_)
    · refine v_tin (pc := 12) (tgt := 76) (off := 64) hx dX4_told_12 (by decide) (by decide) rfl rfl ?_
      refine v_aload_n (pc := 76) (i := 0) dX4_told_76 rfl rfl ?_
      refine gX4_now (pc := 77) q_326 dX4_told_77 ?_
      refine gX2_kind (pc := 80) (y := 0) (by decide) q_152 dX4_told_80 ?_
      refine v_iload_n (pc := 83) (i := 1) dX4_told_83 rfl rfl ?_
      refine lX_sea1 (pc := 84) (y := 0) (by decide) dX4_told_84 ?_
      exact v_iret (pc := 85) dX4_told_85
    refine v_case (c := x2 = (3 : Int32)) (fun hx => ?_) (fun hc12_3 => ?_)
    · refine v_tin (pc := 12) (tgt := 86) (off := 74) hx dX4_told_12 (by decide) (by decide) rfl rfl ?_
      refine v_aload_n (pc := 86) (i := 0) dX4_told_86 rfl rfl ?_
      refine gX4_now (pc := 87) q_326 dX4_told_87 ?_
      refine gX2_more (pc := 90) (y := 0) (by decide) q_154 dX4_told_90 ?_
      refine v_iload_n (pc := 93) (i := 1) dX4_told_93 rfl rfl ?_
      refine lX_sea2 (pc := 94) (y := 0) (by decide) dX4_told_94 ?_
      exact v_iret (pc := 95) dX4_told_95
    refine v_case (c := x2 = (4 : Int32)) (fun hx => ?_) (fun hc12_4 => ?_)
    · refine v_tin (pc := 12) (tgt := 96) (off := 84) hx dX4_told_12 (by decide) (by decide) rfl rfl ?_
      refine v_aload_n (pc := 96) (i := 0) dX4_told_96 rfl rfl ?_
      refine gX4_now (pc := 97) q_326 dX4_told_97 ?_
      refine v_iload_n (pc := 100) (i := 1) dX4_told_100 rfl rfl ?_
      refine v_callVi (pc := 101) (rcX2 (by decide)) (As := [.int x1]) (rest := []) (ct_X2_isLost (by decide) x1) mi_X2_isLost q_467 (by decide) rfl rfl (Nat.le_of_ble_eq_true rfl) dX4_told_101 (fun q2 => ?_)
      refine v_if_eq (pc := 104) (tgt := 111) dX4_told_104 rfl ?_ ?_
      · refine v_iconst (pc := 111) dX4_told_111 ic_0 ?_
        exact v_iret (pc := 112) dX4_told_112
      · refine v_iconst (pc := 107) dX4_told_107 ic_1 ?_
        refine v_goto (pc := 108) (tgt := 112) dX4_told_108 rfl ?_
        exact v_iret (pc := 112) dX4_told_112
    refine v_case (c := x2 = (5 : Int32)) (fun hx => ?_) (fun hc12_5 => ?_)
    · refine v_tin (pc := 12) (tgt := 113) (off := 101) hx dX4_told_12 (by decide) (by decide) rfl rfl ?_
      refine v_aload_n (pc := 113) (i := 0) dX4_told_113 rfl rfl ?_
      refine gX4_now (pc := 114) q_326 dX4_told_114 ?_
      refine v_iload_n (pc := 117) (i := 1) dX4_told_117 rfl rfl ?_
      refine v_callVi (pc := 118) (rcX2 (by decide)) (As := [.int x1]) (rest := []) (ct_X2_goal (by decide) x1) mi_X2_goal q_471 (by decide) rfl rfl (Nat.le_of_ble_eq_true rfl) dX4_told_118 (fun q3 => ?_)
      exact v_iret (pc := 121) dX4_told_121
    refine v_case (c := x2 = (6 : Int32)) (fun hx => ?_) (fun hc12_6 => ?_)
    · refine v_tin (pc := 12) (tgt := 122) (off := 110) hx dX4_told_12 (by decide) (by decide) rfl rfl ?_
      refine v_aload_n (pc := 122) (i := 0) dX4_told_122 rfl rfl ?_
      refine gX4_now (pc := 123) q_326 dX4_told_123 ?_
      refine v_iload_n (pc := 126) (i := 1) dX4_told_126 rfl rfl ?_
      refine v_callVi (pc := 127) (rcX2 (by decide)) (As := [.int x1]) (rest := []) (ct_X2_sinking (by decide) x1) mi_X2_sinking q_483 (by decide) rfl rfl (Nat.le_of_ble_eq_true rfl) dX4_told_127 (fun q4 => ?_)
      refine v_if_eq (pc := 130) (tgt := 137) dX4_told_130 rfl ?_ ?_
      · refine v_iconst (pc := 137) dX4_told_137 ic_0 ?_
        exact v_iret (pc := 138) dX4_told_138
      · refine v_iconst (pc := 133) dX4_told_133 ic_1 ?_
        refine v_goto (pc := 134) (tgt := 138) dX4_told_134 rfl ?_
        exact v_iret (pc := 138) dX4_told_138
    refine v_tout (pc := 12) (tgt := 139) dX4_told_12 (by have e0 := tsw_ne (a := 0) hc12_0 rfl; have e1 := tsw_ne (a := 1) hc12_1 rfl; have e2 := tsw_ne (a := 2) hc12_2 rfl; have e3 := tsw_ne (a := 3) hc12_3 rfl; have e4 := tsw_ne (a := 4) hc12_4 rfl; have e5 := tsw_ne (a := 5) hc12_5 rfl; have e6 := tsw_ne (a := 6) hc12_6 rfl; omega) rfl ?_
    refine v_bipush (pc := 139) dX4_told_139 bp_m7 ?_
    exact v_iret (pc := 141) dX4_told_141
  · refine v_bipush (pc := 8) dX4_told_8 bp_m5 ?_
    exact v_iret (pc := 10) dX4_told_10
theorem ct_X4_told {g : Gt} {ad : Nat → Nat} (x1 : Int32) (x2 : Int32) : CT g (LX ad) yX4_told cX4_told 3 (some .int) 6 [.ref (aMain ad), .int x1, .int x2] iI (wX g ad) (f_X4_told x1 x2) :=
  ct_of_V (own := RX4) (lv0 := [(0, .ref (aMain ad)), (1, .int x1), (2, .int x2)]) (by decide +kernel) rfl (Nat.le_of_ble_eq_true rfl) rfl (fun z σ => vf_X4_told z x1 x2 σ)
-- LighthouseLiedTo.likes
theorem dX4_likes_0 : decode cX4_likes 0 = .ok (.aload_n 0, 1) := by decide +kernel
theorem dX4_likes_1 : decode cX4_likes 1 = .ok (.iload_n 1, 1) := by decide +kernel
theorem dX4_likes_2 : decode cX4_likes 2 = .ok (.invokevirtual 125, 3) := by decide +kernel
theorem dX4_likes_5 : decode cX4_likes 5 = .ok (.ifCond .eq 22, 3) := by decide +kernel
theorem dX4_likes_8 : decode cX4_likes 8 = .ok (.iload_n 2, 1) := by decide +kernel
theorem dX4_likes_9 : decode cX4_likes 9 = .ok (.invokestatic 102, 3) := by decide +kernel
theorem dX4_likes_12 : decode cX4_likes 12 = .ok (.ifCond .eq 15, 3) := by decide +kernel
theorem dX4_likes_15 : decode cX4_likes 15 = .ok (.aload_n 0, 1) := by decide +kernel
theorem dX4_likes_16 : decode cX4_likes 16 = .ok (.getfield 39, 3) := by decide +kernel
theorem dX4_likes_19 : decode cX4_likes 19 = .ok (.iload_n 1, 1) := by decide +kernel
theorem dX4_likes_20 : decode cX4_likes 20 = .ok (.iload_n 2, 1) := by decide +kernel
theorem dX4_likes_21 : decode cX4_likes 21 = .ok (.invokevirtual 157, 3) := by decide +kernel
theorem dX4_likes_24 : decode cX4_likes 24 = .ok (.goto 5, 3) := by decide +kernel
theorem dX4_likes_27 : decode cX4_likes 27 = .ok (.ldc 160, 2) := by decide +kernel
theorem dX4_likes_29 : decode cX4_likes 29 = .ok (.ireturn, 1) := by decide +kernel
def f_X4_likes (x1 : Int32) (x2 : Int32) (σ : GX) : Option (Int32 × GX) :=
  bnd (f_X4_isShip x1 σ) fun q1 => if q1.1 = 0 then (some ((-100000 : Int32), q1.2)) else (bnd (f_X4_isCell x2 q1.2) fun q2 => if q2.1 = 0 then (some ((-100000 : Int32), q2.2)) else (bnd (f_X2_liking 0 x1 x2 q2.2) fun q3 => some (q3.1, q3.2)))
theorem vf_X4_likes {g : Gt} {ad : Nat → Nat} (z : Zt) (x1 : Int32) (x2 : Int32) (σ : GX) : V g (LX ad) 5 RX4 cX4_likes 3 (some .int) (wX g ad) iI z (f_X4_likes x1 x2 σ) σ 0 [(0, .ref (aMain ad)), (1, .int x1), (2, .int x2)] [] := by
  unfold f_X4_likes
  refine v_aload_n (pc := 0) (i := 0) dX4_likes_0 rfl rfl ?_
  refine v_iload_n (pc := 1) (i := 1) dX4_likes_1 rfl rfl ?_
  refine v_callVi (pc := 2) rcX4 (As := [.int x1]) (rest := []) (ct_X4_isShip x1) mi_X4_isShip q_433 (by decide) rfl rfl (Nat.le_of_ble_eq_true rfl) dX4_likes_2 (fun q1 => ?_)
  refine v_if_eq (pc := 5) (tgt := 27) dX4_likes_5 rfl ?_ ?_
  · refine v_ldc (pc := 27) dX4_likes_27 q_492 ?_
    exact v_iret (pc := 29) dX4_likes_29
  · refine v_iload_n (pc := 8) (i := 2) dX4_likes_8 rfl rfl ?_
    refine v_callSi (pc := 9) (av := [.int x2]) (rest := []) (ct_X4_isCell x2) mi_X4_isCell q_381 (by decide) rfl rfl (Nat.le_of_ble_eq_true rfl) dX4_likes_9 (fun q2 => ?_)
    refine v_if_eq (pc := 12) (tgt := 27) dX4_likes_12 rfl ?_ ?_
    · refine v_ldc (pc := 27) dX4_likes_27 q_492 ?_
      exact v_iret (pc := 29) dX4_likes_29
    · refine v_aload_n (pc := 15) (i := 0) dX4_likes_15 rfl rfl ?_
      refine gX4_now (pc := 16) q_326 dX4_likes_16 ?_
      refine v_iload_n (pc := 19) (i := 1) dX4_likes_19 rfl rfl ?_
      refine v_iload_n (pc := 20) (i := 2) dX4_likes_20 rfl rfl ?_
      refine v_callVi (pc := 21) (rcX2 (by decide)) (As := [.int x1, .int x2]) (rest := []) (ct_X2_liking (by decide) x1 x2) mi_X2_liking q_491 (by decide) rfl rfl (Nat.le_of_ble_eq_true rfl) dX4_likes_21 (fun q3 => ?_)
      refine v_goto (pc := 24) (tgt := 29) dX4_likes_24 rfl ?_
      exact v_iret (pc := 29) dX4_likes_29
theorem ct_X4_likes {g : Gt} {ad : Nat → Nat} (x1 : Int32) (x2 : Int32) : CT g (LX ad) yX4_likes cX4_likes 3 (some .int) 5 [.ref (aMain ad), .int x1, .int x2] iI (wX g ad) (f_X4_likes x1 x2) :=
  ct_of_V (own := RX4) (lv0 := [(0, .ref (aMain ad)), (1, .int x1), (2, .int x2)]) (by decide +kernel) rfl (Nat.le_of_ble_eq_true rfl) rfl (fun z σ => vf_X4_likes z x1 x2 σ)
-- LighthouseLiedTo.night
theorem dX4_night_0 : decode cX4_night 0 = .ok (.aload_n 0, 1) := by decide +kernel
theorem dX4_night_1 : decode cX4_night 1 = .ok (.getfield 39, 3) := by decide +kernel
theorem dX4_night_4 : decode cX4_night 4 = .ok (.getfield 81, 3) := by decide +kernel
theorem dX4_night_7 : decode cX4_night 7 = .ok (.sipush 999, 3) := by decide +kernel
theorem dX4_night_10 : decode cX4_night 10 = .ok (.if_icmp .lt 6, 3) := by decide +kernel
theorem dX4_night_13 : decode cX4_night 13 = .ok (.bipush (-3), 2) := by decide +kernel
theorem dX4_night_15 : decode cX4_night 15 = .ok (.ireturn, 1) := by decide +kernel
theorem dX4_night_16 : decode cX4_night 16 = .ok (.aload_n 0, 1) := by decide +kernel
theorem dX4_night_17 : decode cX4_night 17 = .ok (.getfield 39, 3) := by decide +kernel
theorem dX4_night_20 : decode cX4_night 20 = .ok (.getfield 161, 3) := by decide +kernel
theorem dX4_night_23 : decode cX4_night 23 = .ok (.istore_n 1, 1) := by decide +kernel
theorem dX4_night_24 : decode cX4_night 24 = .ok (.aload_n 0, 1) := by decide +kernel
theorem dX4_night_25 : decode cX4_night 25 = .ok (.getfield 39, 3) := by decide +kernel
theorem dX4_night_28 : decode cX4_night 28 = .ok (.invokevirtual 164, 3) := by decide +kernel
theorem dX4_night_31 : decode cX4_night 31 = .ok (.aload_n 0, 1) := by decide +kernel
theorem dX4_night_32 : decode cX4_night 32 = .ok (.getfield 39, 3) := by decide +kernel
theorem dX4_night_35 : decode cX4_night 35 = .ok (.getfield 161, 3) := by decide +kernel
theorem dX4_night_38 : decode cX4_night 38 = .ok (.iload_n 1, 1) := by decide +kernel
theorem dX4_night_39 : decode cX4_night 39 = .ok (.iconst (-1), 1) := by decide +kernel
theorem dX4_night_40 : decode cX4_night 40 = .ok (.ixor, 1) := by decide +kernel
theorem dX4_night_41 : decode cX4_night 41 = .ok (.iand, 1) := by decide +kernel
theorem dX4_night_42 : decode cX4_night 42 = .ok (.ireturn, 1) := by decide +kernel
def f_X4_night (σ : GX) : Option (Int32 × GX) :=
  if (xS σ 0 3) < (999 : Int32) then (bnd (some (xS σ 0 0)) fun w1 => bnd (f_X2_passNight 0 σ) fun q2 => some (((xS q2.2 0 0) &&& (w1 ^^^ (-1 : Int32))), q2.2)) else (some ((-3 : Int32), σ))
theorem vf_X4_night {g : Gt} {ad : Nat → Nat} (z : Zt) (σ : GX) : V g (LX ad) 7 RX4 cX4_night 2 (some .int) (wX g ad) iI z (f_X4_night σ) σ 0 [(0, .ref (aMain ad))] [] := by
  unfold f_X4_night
  refine v_aload_n (pc := 0) (i := 0) dX4_night_0 rfl rfl ?_
  refine gX4_now (pc := 1) q_326 dX4_night_1 ?_
  refine gX2_night (pc := 4) (y := 0) (by decide) q_168 dX4_night_4 ?_
  refine v_sipush (pc := 7) dX4_night_7 sp_999 ?_
  refine v_icmp_lt (pc := 10) (tgt := 16) dX4_night_10 rfl ?_ ?_
  · refine v_aload_n (pc := 16) (i := 0) dX4_night_16 rfl rfl ?_
    refine gX4_now (pc := 17) q_326 dX4_night_17 ?_
    refine gX2_lost (pc := 20) (y := 0) (by decide) q_162 dX4_night_20 ?_
    refine v_nmi (fun w1 => ?_)
    refine v_istore_n (pc := 23) (lv' := [(1, .int w1), (0, .ref (aMain ad))]) (i := 1) dX4_night_23 rfl (by decide) rfl ?_
    refine v_aload_n (pc := 24) (i := 0) dX4_night_24 rfl rfl ?_
    refine gX4_now (pc := 25) q_326 dX4_night_25 ?_
    refine v_callVv (pc := 28) (rcX2 (by decide)) (As := []) (rest := []) (ct_X2_passNight (by decide)) mi_X2_passNight q_497 (by decide) rfl rfl (Nat.le_of_ble_eq_true rfl) dX4_night_28 (fun q2 => ?_)
    refine v_aload_n (pc := 31) (i := 0) dX4_night_31 rfl rfl ?_
    refine gX4_now (pc := 32) q_326 dX4_night_32 ?_
    refine gX2_lost (pc := 35) (y := 0) (by decide) q_162 dX4_night_35 ?_
    refine v_iload_n (pc := 38) (i := 1) dX4_night_38 rfl rfl ?_
    refine v_iconst (pc := 39) dX4_night_39 ic_m1 ?_
    refine v_ixor (pc := 40) dX4_night_40 ?_
    refine v_iand (pc := 41) dX4_night_41 ?_
    exact v_iret (pc := 42) dX4_night_42
  · refine v_bipush (pc := 13) dX4_night_13 bp_m3 ?_
    exact v_iret (pc := 15) dX4_night_15
theorem ct_X4_night {g : Gt} {ad : Nat → Nat} : CT g (LX ad) yX4_night cX4_night 2 (some .int) 7 [.ref (aMain ad)] iI (wX g ad) (f_X4_night) :=
  ct_of_V (own := RX4) (lv0 := [(0, .ref (aMain ad))]) (by decide +kernel) rfl (Nat.le_of_ble_eq_true rfl) rfl (fun z σ => vf_X4_night z σ)
-- LighthouseLiedTo.think
theorem dX4_think_0 : decode cX4_think 0 = .ok (.aload_n 0, 1) := by decide +kernel
theorem dX4_think_1 : decode cX4_think 1 = .ok (.getfield 43, 3) := by decide +kernel
theorem dX4_think_4 : decode cX4_think 4 = .ok (.aload_n 0, 1) := by decide +kernel
theorem dX4_think_5 : decode cX4_think 5 = .ok (.getfield 39, 3) := by decide +kernel
theorem dX4_think_8 : decode cX4_think 8 = .ok (.invokevirtual 214, 3) := by decide +kernel
theorem dX4_think_11 : decode cX4_think 11 = .ok (.return_, 1) := by decide +kernel
def f_X4_think (σ : GX) : Option (Unit × GX) :=
  bnd (f_X2_become 1 0 σ) fun q1 => some ((), q1.2)
theorem vf_X4_think {g : Gt} {ad : Nat → Nat} (z : Zt) (σ : GX) : V g (LX ad) 2 RX4 cX4_think 1 none (wX g ad) iU z (f_X4_think σ) σ 0 [(0, .ref (aMain ad))] [] := by
  unfold f_X4_think
  refine v_aload_n (pc := 0) (i := 0) dX4_think_0 rfl rfl ?_
  refine gX4_thought (pc := 1) q_327 dX4_think_1 ?_
  refine v_aload_n (pc := 4) (i := 0) dX4_think_4 rfl rfl ?_
  refine gX4_now (pc := 5) q_326 dX4_think_5 ?_
  refine v_callVv (pc := 8) (rcX2 (by decide)) (As := [.ref (aSea ad 0)]) (rest := []) (ct_X2_become (by decide) (by decide)) mi_X2_become q_521 (by decide) rfl rfl (Nat.le_of_ble_eq_true rfl) dX4_think_8 (fun q1 => ?_)
  exact v_ret (pc := 11) dX4_think_11
theorem ct_X4_think {g : Gt} {ad : Nat → Nat} : CT g (LX ad) yX4_think cX4_think 1 none 2 [.ref (aMain ad)] iU (wX g ad) (f_X4_think) :=
  ct_of_V (own := RX4) (lv0 := [(0, .ref (aMain ad))]) (by decide +kernel) rfl (Nat.le_of_ble_eq_true rfl) rfl (fun z σ => vf_X4_think z σ)
-- LighthouseLiedTo.run
theorem dX4_run_0 : decode cX4_run 0 = .ok (.iload_n 2, 1) := by decide +kernel
theorem dX4_run_1 : decode cX4_run 1 = .ok (.bipush 10, 2) := by decide +kernel
theorem dX4_run_3 : decode cX4_run 3 = .ok (.if_icmp .lt 18, 3) := by decide +kernel
theorem dX4_run_6 : decode cX4_run 6 = .ok (.aload_n 0, 1) := by decide +kernel
theorem dX4_run_7 : decode cX4_run 7 = .ok (.iload_n 2, 1) := by decide +kernel
theorem dX4_run_8 : decode cX4_run 8 = .ok (.bipush 10, 2) := by decide +kernel
theorem dX4_run_10 : decode cX4_run 10 = .ok (.isub, 1) := by decide +kernel
theorem dX4_run_11 : decode cX4_run 11 = .ok (.invokevirtual 125, 3) := by decide +kernel
theorem dX4_run_14 : decode cX4_run 14 = .ok (.ifCond .eq 7, 3) := by decide +kernel
theorem dX4_run_17 : decode cX4_run 17 = .ok (.iconst 1, 1) := by decide +kernel
theorem dX4_run_18 : decode cX4_run 18 = .ok (.goto 4, 3) := by decide +kernel
theorem dX4_run_21 : decode cX4_run 21 = .ok (.iconst 0, 1) := by decide +kernel
theorem dX4_run_22 : decode cX4_run 22 = .ok (.istore_n 3, 1) := by decide +kernel
theorem dX4_run_23 : decode cX4_run 23 = .ok (.iload_n 1, 1) := by decide +kernel
theorem dX4_run_24 : decode cX4_run 24 = .ok (.iconst 0, 1) := by decide +kernel
theorem dX4_run_25 : decode cX4_run 25 = .ok (.bipush 40, 2) := by decide +kernel
theorem dX4_run_27 : decode cX4_run 27 = .ok (.invokestatic 106, 3) := by decide +kernel
theorem dX4_run_30 : decode cX4_run 30 = .ok (.ifCond .eq 27, 3) := by decide +kernel
theorem dX4_run_33 : decode cX4_run 33 = .ok (.iload_n 2, 1) := by decide +kernel
theorem dX4_run_34 : decode cX4_run 34 = .ok (.iconst 0, 1) := by decide +kernel
theorem dX4_run_35 : decode cX4_run 35 = .ok (.iconst 2, 1) := by decide +kernel
theorem dX4_run_36 : decode cX4_run 36 = .ok (.invokestatic 106, 3) := by decide +kernel
theorem dX4_run_39 : decode cX4_run 39 = .ok (.ifCond .ne 21, 3) := by decide +kernel
theorem dX4_run_42 : decode cX4_run 42 = .ok (.iload_n 3, 1) := by decide +kernel
theorem dX4_run_43 : decode cX4_run 43 = .ok (.ifCond .ne 17, 3) := by decide +kernel
theorem dX4_run_46 : decode cX4_run 46 = .ok (.iload_n 2, 1) := by decide +kernel
theorem dX4_run_47 : decode cX4_run 47 = .ok (.bipush 20, 2) := by decide +kernel
theorem dX4_run_49 : decode cX4_run 49 = .ok (.bipush 55, 2) := by decide +kernel
theorem dX4_run_51 : decode cX4_run 51 = .ok (.invokestatic 106, 3) := by decide +kernel
theorem dX4_run_54 : decode cX4_run 54 = .ok (.ifCond .ne 6, 3) := by decide +kernel
theorem dX4_run_57 : decode cX4_run 57 = .ok (.bipush (-2), 2) := by decide +kernel
theorem dX4_run_59 : decode cX4_run 59 = .ok (.ireturn, 1) := by decide +kernel
theorem dX4_run_60 : decode cX4_run 60 = .ok (.aload_n 0, 1) := by decide +kernel
theorem dX4_run_61 : decode cX4_run 61 = .ok (.invokevirtual 167, 3) := by decide +kernel
theorem dX4_run_64 : decode cX4_run 64 = .ok (.aload_n 0, 1) := by decide +kernel
theorem dX4_run_65 : decode cX4_run 65 = .ok (.getfield 43, 3) := by decide +kernel
theorem dX4_run_68 : decode cX4_run 68 = .ok (.iload_n 1, 1) := by decide +kernel
theorem dX4_run_69 : decode cX4_run 69 = .ok (.invokevirtual 170, 3) := by decide +kernel
theorem dX4_run_72 : decode cX4_run 72 = .ok (.pop, 1) := by decide +kernel
theorem dX4_run_73 : decode cX4_run 73 = .ok (.iload_n 3, 1) := by decide +kernel
theorem dX4_run_74 : decode cX4_run 74 = .ok (.ifCond .eq 16, 3) := by decide +kernel
theorem dX4_run_77 : decode cX4_run 77 = .ok (.aload_n 0, 1) := by decide +kernel
theorem dX4_run_78 : decode cX4_run 78 = .ok (.getfield 43, 3) := by decide +kernel
theorem dX4_run_81 : decode cX4_run 81 = .ok (.getfield 139, 3) := by decide +kernel
theorem dX4_run_84 : decode cX4_run 84 = .ok (.iload_n 2, 1) := by decide +kernel
theorem dX4_run_85 : decode cX4_run 85 = .ok (.bipush 10, 2) := by decide +kernel
theorem dX4_run_87 : decode cX4_run 87 = .ok (.isub, 1) := by decide +kernel
theorem dX4_run_88 : decode cX4_run 88 = .ok (.iaload, 1) := by decide +kernel
theorem dX4_run_89 : decode cX4_run 89 = .ok (.ireturn, 1) := by decide +kernel
theorem dX4_run_90 : decode cX4_run 90 = .ok (.iload_n 2, 1) := by decide +kernel
theorem dX4_run_91 : decode cX4_run 91 = .ok (.tableswitch 49 0 2 #[25, 33, 41], 25) := by decide +kernel
theorem dX4_run_116 : decode cX4_run 116 = .ok (.aload_n 0, 1) := by decide +kernel
theorem dX4_run_117 : decode cX4_run 117 = .ok (.getfield 43, 3) := by decide +kernel
theorem dX4_run_120 : decode cX4_run 120 = .ok (.invokevirtual 72, 3) := by decide +kernel
theorem dX4_run_123 : decode cX4_run 123 = .ok (.ireturn, 1) := by decide +kernel
theorem dX4_run_124 : decode cX4_run 124 = .ok (.aload_n 0, 1) := by decide +kernel
theorem dX4_run_125 : decode cX4_run 125 = .ok (.getfield 43, 3) := by decide +kernel
theorem dX4_run_128 : decode cX4_run 128 = .ok (.invokevirtual 173, 3) := by decide +kernel
theorem dX4_run_131 : decode cX4_run 131 = .ok (.ireturn, 1) := by decide +kernel
theorem dX4_run_132 : decode cX4_run 132 = .ok (.aload_n 0, 1) := by decide +kernel
theorem dX4_run_133 : decode cX4_run 133 = .ok (.getfield 43, 3) := by decide +kernel
theorem dX4_run_136 : decode cX4_run 136 = .ok (.getfield 84, 3) := by decide +kernel
theorem dX4_run_139 : decode cX4_run 139 = .ok (.ireturn, 1) := by decide +kernel
theorem dX4_run_140 : decode cX4_run 140 = .ok (.aload_n 0, 1) := by decide +kernel
theorem dX4_run_141 : decode cX4_run 141 = .ok (.getfield 43, 3) := by decide +kernel
theorem dX4_run_144 : decode cX4_run 144 = .ok (.getfield 119, 3) := by decide +kernel
theorem dX4_run_147 : decode cX4_run 147 = .ok (.iload_n 2, 1) := by decide +kernel
theorem dX4_run_148 : decode cX4_run 148 = .ok (.bipush 20, 2) := by decide +kernel
theorem dX4_run_150 : decode cX4_run 150 = .ok (.isub, 1) := by decide +kernel
theorem dX4_run_151 : decode cX4_run 151 = .ok (.iaload, 1) := by decide +kernel
theorem dX4_run_152 : decode cX4_run 152 = .ok (.ireturn, 1) := by decide +kernel
def b_X4_run_60 (x1 : Int32) (x2 : Int32) (x3 : Int32) (σ : GX) : Option (Int32 × GX) :=
  bnd (f_X4_think σ) fun q3 => bnd (f_X2_lossesIn 1 x1 q3.2) fun q4 => if x3 = 0 then (if x2 = (0 : Int32) then (bnd (f_X2_afloat 1 q4.2) fun q5 => some (q5.1, q5.2)) else (if x2 = (1 : Int32) then (bnd (f_X2_allBelief 1 q4.2) fun q6 => some (q6.1, q6.2)) else (if x2 = (2 : Int32) then (some ((xS q4.2 1 2), q4.2)) else (grd (x2 - (20 : Int32)) 36 (some ((xB q4.2 1 0 (x2 - (20 : Int32)).toNatClampNeg), q4.2)))))) else (grd (x2 - (10 : Int32)) 6 (some ((xB q4.2 1 3 (x2 - (10 : Int32)).toNatClampNeg), q4.2)))
theorem vb_X4_run_60 {g : Gt} {ad : Nat → Nat} (z : Zt) (x1 : Int32) (x2 : Int32) (x3 : Int32) (σ : GX) : V g (LX ad) 8 RX4 cX4_run 4 (some .int) (wX g ad) iI z (b_X4_run_60 x1 x2 x3 σ) σ 60 [(0, .ref (aMain ad)), (1, .int x1), (2, .int x2), (3, .int x3)] [] := by
  unfold b_X4_run_60
  refine v_aload_n (pc := 60) (i := 0) dX4_run_60 rfl rfl ?_
  refine v_callVv (pc := 61) rcX4 (As := []) (rest := []) (ct_X4_think) mi_X4_think q_517 (by decide) rfl rfl (Nat.le_of_ble_eq_true rfl) dX4_run_61 (fun q3 => ?_)
  refine v_aload_n (pc := 64) (i := 0) dX4_run_64 rfl rfl ?_
  refine gX4_thought (pc := 65) q_327 dX4_run_65 ?_
  refine v_iload_n (pc := 68) (i := 1) dX4_run_68 rfl rfl ?_
  refine v_callVi (pc := 69) (rcX2 (by decide)) (As := [.int x1]) (rest := []) (ct_X2_lossesIn (by decide) x1) mi_X2_lossesIn q_528 (by decide) rfl rfl (Nat.le_of_ble_eq_true rfl) dX4_run_69 (fun q4 => ?_)
  refine v_pop (pc := 72) dX4_run_72 rfl ?_
  refine v_iload_n (pc := 73) (i := 3) dX4_run_73 rfl rfl ?_
  refine v_if_eq (pc := 74) (tgt := 90) dX4_run_74 rfl ?_ ?_
  · refine v_iload_n (pc := 90) (i := 2) dX4_run_90 rfl rfl ?_
    refine v_case (c := x2 = (0 : Int32)) (fun hx => ?_) (fun hc91_0 => ?_)
    · refine v_tin (pc := 91) (tgt := 116) (off := 25) hx dX4_run_91 (by decide) (by decide) rfl rfl ?_
      refine v_aload_n (pc := 116) (i := 0) dX4_run_116 rfl rfl ?_
      refine gX4_thought (pc := 117) q_327 dX4_run_117 ?_
      refine v_callVi (pc := 120) (rcX2 (by decide)) (As := []) (rest := []) (ct_X2_afloat (by decide)) mi_X2_afloat q_361 (by decide) rfl rfl (Nat.le_of_ble_eq_true rfl) dX4_run_120 (fun q5 => ?_)
      exact v_iret (pc := 123) dX4_run_123
    refine v_case (c := x2 = (1 : Int32)) (fun hx => ?_) (fun hc91_1 => ?_)
    · refine v_tin (pc := 91) (tgt := 124) (off := 33) hx dX4_run_91 (by decide) (by decide) rfl rfl ?_
      refine v_aload_n (pc := 124) (i := 0) dX4_run_124 rfl rfl ?_
      refine gX4_thought (pc := 125) q_327 dX4_run_125 ?_
      refine v_callVi (pc := 128) (rcX2 (by decide)) (As := []) (rest := []) (ct_X2_allBelief (by decide)) mi_X2_allBelief q_534 (by decide) rfl rfl (Nat.le_of_ble_eq_true rfl) dX4_run_128 (fun q6 => ?_)
      exact v_iret (pc := 131) dX4_run_131
    refine v_case (c := x2 = (2 : Int32)) (fun hx => ?_) (fun hc91_2 => ?_)
    · refine v_tin (pc := 91) (tgt := 132) (off := 41) hx dX4_run_91 (by decide) (by decide) rfl rfl ?_
      refine v_aload_n (pc := 132) (i := 0) dX4_run_132 rfl rfl ?_
      refine gX4_thought (pc := 133) q_327 dX4_run_133 ?_
      refine gX2_doubt (pc := 136) (y := 1) (by decide) q_165 dX4_run_136 ?_
      exact v_iret (pc := 139) dX4_run_139
    refine v_tout (pc := 91) (tgt := 140) dX4_run_91 (by have e0 := tsw_ne (a := 0) hc91_0 rfl; have e1 := tsw_ne (a := 1) hc91_1 rfl; have e2 := tsw_ne (a := 2) hc91_2 rfl; omega) rfl ?_
    refine v_aload_n (pc := 140) (i := 0) dX4_run_140 rfl rfl ?_
    refine gX4_thought (pc := 141) q_327 dX4_run_141 ?_
    refine gX2_belief (pc := 144) (y := 1) (by decide) q_149 dX4_run_144 ?_
    refine v_iload_n (pc := 147) (i := 2) dX4_run_147 rfl rfl ?_
    refine v_bipush (pc := 148) dX4_run_148 bp_20 ?_
    refine v_isub (pc := 150) dX4_run_150 ?_
    refine lX_sea0 (pc := 151) (y := 1) (by decide) dX4_run_151 ?_
    exact v_iret (pc := 152) dX4_run_152
  · refine v_aload_n (pc := 77) (i := 0) dX4_run_77 rfl rfl ?_
    refine gX4_thought (pc := 78) q_327 dX4_run_78 ?_
    refine gX2_cell (pc := 81) (y := 1) (by decide) q_156 dX4_run_81 ?_
    refine v_iload_n (pc := 84) (i := 2) dX4_run_84 rfl rfl ?_
    refine v_bipush (pc := 85) dX4_run_85 bp_10 ?_
    refine v_isub (pc := 87) dX4_run_87 ?_
    refine lX_sea3 (pc := 88) (y := 1) (by decide) dX4_run_88 ?_
    exact v_iret (pc := 89) dX4_run_89
def b_X4_run_22 (x1 : Int32) (x2 : Int32) (xs0 : Int32) (σ : GX) : Option (Int32 × GX) :=
  bnd (f_X4_within x1 (0 : Int32) (40 : Int32) σ) fun q1 => if q1.1 = 0 then (some ((-2 : Int32), q1.2)) else (bnd (f_X4_within x2 (0 : Int32) (2 : Int32) q1.2) fun q2 => if q2.1 ≠ 0 then (b_X4_run_60 x1 x2 xs0 q2.2) else (if xs0 ≠ 0 then (b_X4_run_60 x1 x2 xs0 q2.2) else (bnd (f_X4_within x2 (20 : Int32) (55 : Int32) q2.2) fun q7 => if q7.1 ≠ 0 then (b_X4_run_60 x1 x2 xs0 q7.2) else (some ((-2 : Int32), q7.2)))))
theorem vb_X4_run_22 {g : Gt} {ad : Nat → Nat} (z : Zt) (x1 : Int32) (x2 : Int32) (xs0 : Int32) (σ : GX) : V g (LX ad) 8 RX4 cX4_run 4 (some .int) (wX g ad) iI z (b_X4_run_22 x1 x2 xs0 σ) σ 22 [(0, .ref (aMain ad)), (1, .int x1), (2, .int x2)] [.int xs0] := by
  unfold b_X4_run_22
  refine v_istore_n (pc := 22) (lv' := [(3, .int xs0), (0, .ref (aMain ad)), (1, .int x1), (2, .int x2)]) (i := 3) dX4_run_22 rfl (by decide) rfl ?_
  refine v_iload_n (pc := 23) (i := 1) dX4_run_23 rfl rfl ?_
  refine v_iconst (pc := 24) dX4_run_24 ic_0 ?_
  refine v_bipush (pc := 25) dX4_run_25 bp_40 ?_
  refine v_callSi (pc := 27) (av := [.int x1, .int (0 : Int32), .int (40 : Int32)]) (rest := []) (ct_X4_within x1 (0 : Int32) (40 : Int32)) mi_X4_within q_384 (by decide) rfl rfl (Nat.le_of_ble_eq_true rfl) dX4_run_27 (fun q1 => ?_)
  refine v_if_eq (pc := 30) (tgt := 57) dX4_run_30 rfl ?_ ?_
  · refine v_bipush (pc := 57) dX4_run_57 bp_m2 ?_
    exact v_iret (pc := 59) dX4_run_59
  · refine v_iload_n (pc := 33) (i := 2) dX4_run_33 rfl rfl ?_
    refine v_iconst (pc := 34) dX4_run_34 ic_0 ?_
    refine v_iconst (pc := 35) dX4_run_35 ic_2 ?_
    refine v_callSi (pc := 36) (av := [.int x2, .int (0 : Int32), .int (2 : Int32)]) (rest := []) (ct_X4_within x2 (0 : Int32) (2 : Int32)) mi_X4_within q_384 (by decide) rfl rfl (Nat.le_of_ble_eq_true rfl) dX4_run_36 (fun q2 => ?_)
    refine v_if_ne (pc := 39) (tgt := 60) dX4_run_39 rfl ?_ ?_
    · exact v_sub [1, 2, 3, 0] rfl (vb_X4_run_60 z x1 x2 xs0 q2.2)
    · refine v_iload_n (pc := 42) (i := 3) dX4_run_42 rfl rfl ?_
      refine v_if_ne (pc := 43) (tgt := 60) dX4_run_43 rfl ?_ ?_
      · exact v_sub [1, 2, 3, 0] rfl (vb_X4_run_60 z x1 x2 xs0 q2.2)
      · refine v_iload_n (pc := 46) (i := 2) dX4_run_46 rfl rfl ?_
        refine v_bipush (pc := 47) dX4_run_47 bp_20 ?_
        refine v_bipush (pc := 49) dX4_run_49 bp_55 ?_
        refine v_callSi (pc := 51) (av := [.int x2, .int (20 : Int32), .int (55 : Int32)]) (rest := []) (ct_X4_within x2 (20 : Int32) (55 : Int32)) mi_X4_within q_384 (by decide) rfl rfl (Nat.le_of_ble_eq_true rfl) dX4_run_51 (fun q7 => ?_)
        refine v_if_ne (pc := 54) (tgt := 60) dX4_run_54 rfl ?_ ?_
        · exact v_sub [1, 2, 3, 0] rfl (vb_X4_run_60 z x1 x2 xs0 q7.2)
        · refine v_bipush (pc := 57) dX4_run_57 bp_m2 ?_
          exact v_iret (pc := 59) dX4_run_59
def f_X4_run (x1 : Int32) (x2 : Int32) (σ : GX) : Option (Int32 × GX) :=
  if x2 < (10 : Int32) then (b_X4_run_22 x1 x2 (0 : Int32) σ) else (bnd (f_X4_isShip (x2 - (10 : Int32)) σ) fun q8 => if q8.1 = 0 then (b_X4_run_22 x1 x2 (0 : Int32) q8.2) else (b_X4_run_22 x1 x2 (1 : Int32) q8.2))
theorem vf_X4_run {g : Gt} {ad : Nat → Nat} (z : Zt) (x1 : Int32) (x2 : Int32) (σ : GX) : V g (LX ad) 8 RX4 cX4_run 4 (some .int) (wX g ad) iI z (f_X4_run x1 x2 σ) σ 0 [(0, .ref (aMain ad)), (1, .int x1), (2, .int x2)] [] := by
  unfold f_X4_run
  refine v_iload_n (pc := 0) (i := 2) dX4_run_0 rfl rfl ?_
  refine v_bipush (pc := 1) dX4_run_1 bp_10 ?_
  refine v_icmp_lt (pc := 3) (tgt := 21) dX4_run_3 rfl ?_ ?_
  · refine v_iconst (pc := 21) dX4_run_21 ic_0 ?_
    exact v_sub [0, 1, 2] rfl (vb_X4_run_22 z x1 x2 (0 : Int32) σ)
  · refine v_aload_n (pc := 6) (i := 0) dX4_run_6 rfl rfl ?_
    refine v_iload_n (pc := 7) (i := 2) dX4_run_7 rfl rfl ?_
    refine v_bipush (pc := 8) dX4_run_8 bp_10 ?_
    refine v_isub (pc := 10) dX4_run_10 ?_
    refine v_callVi (pc := 11) rcX4 (As := [.int (x2 - (10 : Int32))]) (rest := []) (ct_X4_isShip (x2 - (10 : Int32))) mi_X4_isShip q_433 (by decide) rfl rfl (Nat.le_of_ble_eq_true rfl) dX4_run_11 (fun q8 => ?_)
    refine v_if_eq (pc := 14) (tgt := 21) dX4_run_14 rfl ?_ ?_
    · refine v_iconst (pc := 21) dX4_run_21 ic_0 ?_
      exact v_sub [0, 1, 2] rfl (vb_X4_run_22 z x1 x2 (0 : Int32) q8.2)
    · refine v_iconst (pc := 17) dX4_run_17 ic_1 ?_
      refine v_goto (pc := 18) (tgt := 22) dX4_run_18 rfl ?_
      exact v_sub [0, 1, 2] rfl (vb_X4_run_22 z x1 x2 (1 : Int32) q8.2)
theorem ct_X4_run {g : Gt} {ad : Nat → Nat} (x1 : Int32) (x2 : Int32) : CT g (LX ad) yX4_run cX4_run 4 (some .int) 8 [.ref (aMain ad), .int x1, .int x2] iI (wX g ad) (f_X4_run x1 x2) :=
  ct_of_V (own := RX4) (lv0 := [(0, .ref (aMain ad)), (1, .int x1), (2, .int x2)]) (by decide +kernel) rfl (Nat.le_of_ble_eq_true rfl) rfl (fun z σ => vf_X4_run z x1 x2 σ)
-- LighthouseLiedTo.lostBy
theorem dX4_lostBy_0 : decode cX4_lostBy 0 = .ok (.aload_n 0, 1) := by decide +kernel
theorem dX4_lostBy_1 : decode cX4_lostBy 1 = .ok (.iload_n 1, 1) := by decide +kernel
theorem dX4_lostBy_2 : decode cX4_lostBy 2 = .ok (.invokevirtual 125, 3) := by decide +kernel
theorem dX4_lostBy_5 : decode cX4_lostBy 5 = .ok (.ifCond .ne 6, 3) := by decide +kernel
theorem dX4_lostBy_8 : decode cX4_lostBy 8 = .ok (.bipush (-5), 2) := by decide +kernel
theorem dX4_lostBy_10 : decode cX4_lostBy 10 = .ok (.ireturn, 1) := by decide +kernel
theorem dX4_lostBy_11 : decode cX4_lostBy 11 = .ok (.iload_n 2, 1) := by decide +kernel
theorem dX4_lostBy_12 : decode cX4_lostBy 12 = .ok (.iconst 0, 1) := by decide +kernel
theorem dX4_lostBy_13 : decode cX4_lostBy 13 = .ok (.iconst 1, 1) := by decide +kernel
theorem dX4_lostBy_14 : decode cX4_lostBy 14 = .ok (.invokestatic 106, 3) := by decide +kernel
theorem dX4_lostBy_17 : decode cX4_lostBy 17 = .ok (.ifCond .ne 6, 3) := by decide +kernel
theorem dX4_lostBy_20 : decode cX4_lostBy 20 = .ok (.bipush (-7), 2) := by decide +kernel
theorem dX4_lostBy_22 : decode cX4_lostBy 22 = .ok (.ireturn, 1) := by decide +kernel
theorem dX4_lostBy_23 : decode cX4_lostBy 23 = .ok (.aload_n 0, 1) := by decide +kernel
theorem dX4_lostBy_24 : decode cX4_lostBy 24 = .ok (.getfield 39, 3) := by decide +kernel
theorem dX4_lostBy_27 : decode cX4_lostBy 27 = .ok (.iload_n 1, 1) := by decide +kernel
theorem dX4_lostBy_28 : decode cX4_lostBy 28 = .ok (.invokevirtual 148, 3) := by decide +kernel
theorem dX4_lostBy_31 : decode cX4_lostBy 31 = .ok (.ifCond .eq 6, 3) := by decide +kernel
theorem dX4_lostBy_34 : decode cX4_lostBy 34 = .ok (.bipush (-3), 2) := by decide +kernel
theorem dX4_lostBy_36 : decode cX4_lostBy 36 = .ok (.ireturn, 1) := by decide +kernel
theorem dX4_lostBy_37 : decode cX4_lostBy 37 = .ok (.aload_n 0, 1) := by decide +kernel
theorem dX4_lostBy_38 : decode cX4_lostBy 38 = .ok (.invokevirtual 167, 3) := by decide +kernel
theorem dX4_lostBy_41 : decode cX4_lostBy 41 = .ok (.iconst 1, 1) := by decide +kernel
theorem dX4_lostBy_42 : decode cX4_lostBy 42 = .ok (.istore_n 3, 1) := by decide +kernel
theorem dX4_lostBy_43 : decode cX4_lostBy 43 = .ok (.iload_n 3, 1) := by decide +kernel
theorem dX4_lostBy_44 : decode cX4_lostBy 44 = .ok (.bipush 40, 2) := by decide +kernel
theorem dX4_lostBy_46 : decode cX4_lostBy 46 = .ok (.if_icmp .gt 45, 3) := by decide +kernel
theorem dX4_lostBy_49 : decode cX4_lostBy 49 = .ok (.aload_n 0, 1) := by decide +kernel
theorem dX4_lostBy_50 : decode cX4_lostBy 50 = .ok (.getfield 43, 3) := by decide +kernel
theorem dX4_lostBy_53 : decode cX4_lostBy 53 = .ok (.invokevirtual 164, 3) := by decide +kernel
theorem dX4_lostBy_56 : decode cX4_lostBy 56 = .ok (.aload_n 0, 1) := by decide +kernel
theorem dX4_lostBy_57 : decode cX4_lostBy 57 = .ok (.getfield 43, 3) := by decide +kernel
theorem dX4_lostBy_60 : decode cX4_lostBy 60 = .ok (.iload_n 1, 1) := by decide +kernel
theorem dX4_lostBy_61 : decode cX4_lostBy 61 = .ok (.invokevirtual 148, 3) := by decide +kernel
theorem dX4_lostBy_64 : decode cX4_lostBy 64 = .ok (.ifCond .eq 21, 3) := by decide +kernel
theorem dX4_lostBy_67 : decode cX4_lostBy 67 = .ok (.iload_n 2, 1) := by decide +kernel
theorem dX4_lostBy_68 : decode cX4_lostBy 68 = .ok (.ifCond .ne 7, 3) := by decide +kernel
theorem dX4_lostBy_71 : decode cX4_lostBy 71 = .ok (.iload_n 3, 1) := by decide +kernel
theorem dX4_lostBy_72 : decode cX4_lostBy 72 = .ok (.goto 12, 3) := by decide +kernel
theorem dX4_lostBy_75 : decode cX4_lostBy 75 = .ok (.aload_n 0, 1) := by decide +kernel
theorem dX4_lostBy_76 : decode cX4_lostBy 76 = .ok (.getfield 43, 3) := by decide +kernel
theorem dX4_lostBy_79 : decode cX4_lostBy 79 = .ok (.getfield 139, 3) := by decide +kernel
theorem dX4_lostBy_82 : decode cX4_lostBy 82 = .ok (.iload_n 1, 1) := by decide +kernel
theorem dX4_lostBy_83 : decode cX4_lostBy 83 = .ok (.iaload, 1) := by decide +kernel
theorem dX4_lostBy_84 : decode cX4_lostBy 84 = .ok (.ireturn, 1) := by decide +kernel
theorem dX4_lostBy_85 : decode cX4_lostBy 85 = .ok (.iinc 3 1, 3) := by decide +kernel
theorem dX4_lostBy_88 : decode cX4_lostBy 88 = .ok (.goto (-45), 3) := by decide +kernel
theorem dX4_lostBy_91 : decode cX4_lostBy 91 = .ok (.iconst (-1), 1) := by decide +kernel
theorem dX4_lostBy_92 : decode cX4_lostBy 92 = .ok (.ireturn, 1) := by decide +kernel
def b_X4_lostBy_43 (kc43 : Int32 → Int32 → Int32 → GX → Option (Int32 × GX)) (x1 : Int32) (x2 : Int32) (x3 : Int32) (σ : GX) : Option (Int32 × GX) :=
  if (40 : Int32) < x3 then (some ((-1 : Int32), σ)) else (bnd (f_X2_passNight 1 σ) fun q5 => bnd (f_X2_isLost 1 x1 q5.2) fun q6 => if q6.1 = 0 then (kc43 x1 x2 (x3 + (1 : Int32)) q6.2) else (if x2 ≠ 0 then (grd x1 6 (some ((xB q6.2 1 3 x1.toNatClampNeg), q6.2))) else (some (x3, q6.2))))
theorem vb_X4_lostBy_43 {g : Gt} {ad : Nat → Nat} (z : Zt) (kc43 : Int32 → Int32 → Int32 → GX → Option (Int32 × GX)) (hkc43 : ∀ (x1 : Int32) (x2 : Int32) (x3 : Int32) (σ : GX), V g (LX ad) 7 RX4 cX4_lostBy 4 (some .int) (wX g ad) iI z (kc43 x1 x2 x3 σ) σ 43 [(0, .ref (aMain ad)), (1, .int x1), (2, .int x2), (3, .int x3)] []) (x1 : Int32) (x2 : Int32) (x3 : Int32) (σ : GX) : V g (LX ad) 7 RX4 cX4_lostBy 4 (some .int) (wX g ad) iI z (b_X4_lostBy_43 kc43 x1 x2 x3 σ) σ 43 [(0, .ref (aMain ad)), (1, .int x1), (2, .int x2), (3, .int x3)] [] := by
  unfold b_X4_lostBy_43
  refine v_iload_n (pc := 43) (i := 3) dX4_lostBy_43 rfl rfl ?_
  refine v_bipush (pc := 44) dX4_lostBy_44 bp_40 ?_
  refine v_icmp_gt (pc := 46) (tgt := 91) dX4_lostBy_46 rfl ?_ ?_
  · refine v_iconst (pc := 91) dX4_lostBy_91 ic_m1 ?_
    exact v_iret (pc := 92) dX4_lostBy_92
  · refine v_aload_n (pc := 49) (i := 0) dX4_lostBy_49 rfl rfl ?_
    refine gX4_thought (pc := 50) q_327 dX4_lostBy_50 ?_
    refine v_callVv (pc := 53) (rcX2 (by decide)) (As := []) (rest := []) (ct_X2_passNight (by decide)) mi_X2_passNight q_497 (by decide) rfl rfl (Nat.le_of_ble_eq_true rfl) dX4_lostBy_53 (fun q5 => ?_)
    refine v_aload_n (pc := 56) (i := 0) dX4_lostBy_56 rfl rfl ?_
    refine gX4_thought (pc := 57) q_327 dX4_lostBy_57 ?_
    refine v_iload_n (pc := 60) (i := 1) dX4_lostBy_60 rfl rfl ?_
    refine v_callVi (pc := 61) (rcX2 (by decide)) (As := [.int x1]) (rest := []) (ct_X2_isLost (by decide) x1) mi_X2_isLost q_467 (by decide) rfl rfl (Nat.le_of_ble_eq_true rfl) dX4_lostBy_61 (fun q6 => ?_)
    refine v_if_eq (pc := 64) (tgt := 85) dX4_lostBy_64 rfl ?_ ?_
    · refine v_iinc (pc := 85) (lv' := [(3, .int (x3 + (1 : Int32))), (0, .ref (aMain ad)), (1, .int x1), (2, .int x2)]) (i := 3) dX4_lostBy_85 rfl ic_1 (by decide) rfl ?_
      refine v_goto (pc := 88) (tgt := 43) dX4_lostBy_88 rfl ?_
      exact v_sub [1, 2, 3, 0] rfl (hkc43 x1 x2 (x3 + (1 : Int32)) q6.2)
    · refine v_iload_n (pc := 67) (i := 2) dX4_lostBy_67 rfl rfl ?_
      refine v_if_ne (pc := 68) (tgt := 75) dX4_lostBy_68 rfl ?_ ?_
      · refine v_aload_n (pc := 75) (i := 0) dX4_lostBy_75 rfl rfl ?_
        refine gX4_thought (pc := 76) q_327 dX4_lostBy_76 ?_
        refine gX2_cell (pc := 79) (y := 1) (by decide) q_156 dX4_lostBy_79 ?_
        refine v_iload_n (pc := 82) (i := 1) dX4_lostBy_82 rfl rfl ?_
        refine lX_sea3 (pc := 83) (y := 1) (by decide) dX4_lostBy_83 ?_
        exact v_iret (pc := 84) dX4_lostBy_84
      · refine v_iload_n (pc := 71) (i := 3) dX4_lostBy_71 rfl rfl ?_
        refine v_goto (pc := 72) (tgt := 84) dX4_lostBy_72 rfl ?_
        exact v_iret (pc := 84) dX4_lostBy_84
def k_X4_lostBy_43 : Nat → Int32 → Int32 → Int32 → GX → Option (Int32 × GX)
  | 0 => fun _ _ _ _ => none
  | n + 1 => b_X4_lostBy_43 (k_X4_lostBy_43 n)
theorem vk_X4_lostBy_43 {g : Gt} {ad : Nat → Nat} (z : Zt) : ∀ (n : Nat) (x1 : Int32) (x2 : Int32) (x3 : Int32) (σ : GX), V g (LX ad) 7 RX4 cX4_lostBy 4 (some .int) (wX g ad) iI z (k_X4_lostBy_43 n x1 x2 x3 σ) σ 43 [(0, .ref (aMain ad)), (1, .int x1), (2, .int x2), (3, .int x3)] [] := by
  intro n
  induction n with
  | zero => intros; exact v_eq rfl v_none
  | succ n ih =>
    intro x1 x2 x3 σ
    exact v_eq rfl (vb_X4_lostBy_43 z _ ih x1 x2 x3 σ)
def f_X4_lostBy (x1 : Int32) (x2 : Int32) (σ : GX) : Option (Int32 × GX) :=
  bnd (f_X4_isShip x1 σ) fun q1 => if q1.1 ≠ 0 then (bnd (f_X4_within x2 (0 : Int32) (1 : Int32) q1.2) fun q2 => if q2.1 ≠ 0 then (bnd (f_X2_isLost 0 x1 q2.2) fun q3 => if q3.1 = 0 then (bnd (f_X4_think q3.2) fun q4 => k_X4_lostBy_43 FU x1 x2 (1 : Int32) q4.2) else (some ((-3 : Int32), q3.2))) else (some ((-7 : Int32), q2.2))) else (some ((-5 : Int32), q1.2))
theorem vf_X4_lostBy {g : Gt} {ad : Nat → Nat} (z : Zt) (x1 : Int32) (x2 : Int32) (σ : GX) : V g (LX ad) 7 RX4 cX4_lostBy 4 (some .int) (wX g ad) iI z (f_X4_lostBy x1 x2 σ) σ 0 [(0, .ref (aMain ad)), (1, .int x1), (2, .int x2)] [] := by
  unfold f_X4_lostBy
  refine v_aload_n (pc := 0) (i := 0) dX4_lostBy_0 rfl rfl ?_
  refine v_iload_n (pc := 1) (i := 1) dX4_lostBy_1 rfl rfl ?_
  refine v_callVi (pc := 2) rcX4 (As := [.int x1]) (rest := []) (ct_X4_isShip x1) mi_X4_isShip q_433 (by decide) rfl rfl (Nat.le_of_ble_eq_true rfl) dX4_lostBy_2 (fun q1 => ?_)
  refine v_if_ne (pc := 5) (tgt := 11) dX4_lostBy_5 rfl ?_ ?_
  · refine v_iload_n (pc := 11) (i := 2) dX4_lostBy_11 rfl rfl ?_
    refine v_iconst (pc := 12) dX4_lostBy_12 ic_0 ?_
    refine v_iconst (pc := 13) dX4_lostBy_13 ic_1 ?_
    refine v_callSi (pc := 14) (av := [.int x2, .int (0 : Int32), .int (1 : Int32)]) (rest := []) (ct_X4_within x2 (0 : Int32) (1 : Int32)) mi_X4_within q_384 (by decide) rfl rfl (Nat.le_of_ble_eq_true rfl) dX4_lostBy_14 (fun q2 => ?_)
    refine v_if_ne (pc := 17) (tgt := 23) dX4_lostBy_17 rfl ?_ ?_
    · refine v_aload_n (pc := 23) (i := 0) dX4_lostBy_23 rfl rfl ?_
      refine gX4_now (pc := 24) q_326 dX4_lostBy_24 ?_
      refine v_iload_n (pc := 27) (i := 1) dX4_lostBy_27 rfl rfl ?_
      refine v_callVi (pc := 28) (rcX2 (by decide)) (As := [.int x1]) (rest := []) (ct_X2_isLost (by decide) x1) mi_X2_isLost q_467 (by decide) rfl rfl (Nat.le_of_ble_eq_true rfl) dX4_lostBy_28 (fun q3 => ?_)
      refine v_if_eq (pc := 31) (tgt := 37) dX4_lostBy_31 rfl ?_ ?_
      · refine v_aload_n (pc := 37) (i := 0) dX4_lostBy_37 rfl rfl ?_
        refine v_callVv (pc := 38) rcX4 (As := []) (rest := []) (ct_X4_think) mi_X4_think q_517 (by decide) rfl rfl (Nat.le_of_ble_eq_true rfl) dX4_lostBy_38 (fun q4 => ?_)
        refine v_iconst (pc := 41) dX4_lostBy_41 ic_1 ?_
        refine v_istore_n (pc := 42) (lv' := [(3, .int (1 : Int32)), (0, .ref (aMain ad)), (1, .int x1), (2, .int x2)]) (i := 3) dX4_lostBy_42 rfl (by decide) rfl ?_
        exact v_sub [1, 2, 3, 0] rfl (vk_X4_lostBy_43 z FU x1 x2 (1 : Int32) q4.2)
      · refine v_bipush (pc := 34) dX4_lostBy_34 bp_m3 ?_
        exact v_iret (pc := 36) dX4_lostBy_36
    · refine v_bipush (pc := 20) dX4_lostBy_20 bp_m7 ?_
      exact v_iret (pc := 22) dX4_lostBy_22
  · refine v_bipush (pc := 8) dX4_lostBy_8 bp_m5 ?_
    exact v_iret (pc := 10) dX4_lostBy_10
theorem ct_X4_lostBy {g : Gt} {ad : Nat → Nat} (x1 : Int32) (x2 : Int32) : CT g (LX ad) yX4_lostBy cX4_lostBy 4 (some .int) 7 [.ref (aMain ad), .int x1, .int x2] iI (wX g ad) (f_X4_lostBy x1 x2) :=
  ct_of_V (own := RX4) (lv0 := [(0, .ref (aMain ad)), (1, .int x1), (2, .int x2)]) (by decide +kernel) rfl (Nat.le_of_ble_eq_true rfl) rfl (fun z σ => vf_X4_lostBy z x1 x2 σ)
-- LighthouseLiedTo.track
theorem dX4_track_0 : decode cX4_track 0 = .ok (.aload_n 0, 1) := by decide +kernel
theorem dX4_track_1 : decode cX4_track 1 = .ok (.iload_n 1, 1) := by decide +kernel
theorem dX4_track_2 : decode cX4_track 2 = .ok (.invokevirtual 125, 3) := by decide +kernel
theorem dX4_track_5 : decode cX4_track 5 = .ok (.ifCond .eq 13, 3) := by decide +kernel
theorem dX4_track_8 : decode cX4_track 8 = .ok (.iload_n 2, 1) := by decide +kernel
theorem dX4_track_9 : decode cX4_track 9 = .ok (.iconst 0, 1) := by decide +kernel
theorem dX4_track_10 : decode cX4_track 10 = .ok (.bipush 40, 2) := by decide +kernel
theorem dX4_track_12 : decode cX4_track 12 = .ok (.invokestatic 106, 3) := by decide +kernel
theorem dX4_track_15 : decode cX4_track 15 = .ok (.ifCond .ne 7, 3) := by decide +kernel
theorem dX4_track_18 : decode cX4_track 18 = .ok (.ldc2_w 176, 3) := by decide +kernel
theorem dX4_track_21 : decode cX4_track 21 = .ok (.lreturn, 1) := by decide +kernel
theorem dX4_track_22 : decode cX4_track 22 = .ok (.aload_n 0, 1) := by decide +kernel
theorem dX4_track_23 : decode cX4_track 23 = .ok (.invokevirtual 167, 3) := by decide +kernel
theorem dX4_track_26 : decode cX4_track 26 = .ok (.lconst 1, 1) := by decide +kernel
theorem dX4_track_27 : decode cX4_track 27 = .ok (.aload_n 0, 1) := by decide +kernel
theorem dX4_track_28 : decode cX4_track 28 = .ok (.getfield 43, 3) := by decide +kernel
theorem dX4_track_31 : decode cX4_track 31 = .ok (.getfield 139, 3) := by decide +kernel
theorem dX4_track_34 : decode cX4_track 34 = .ok (.iload_n 1, 1) := by decide +kernel
theorem dX4_track_35 : decode cX4_track 35 = .ok (.iaload, 1) := by decide +kernel
theorem dX4_track_36 : decode cX4_track 36 = .ok (.lshl, 1) := by decide +kernel
theorem dX4_track_37 : decode cX4_track 37 = .ok (.lstore_n 3, 1) := by decide +kernel
theorem dX4_track_38 : decode cX4_track 38 = .ok (.iconst 0, 1) := by decide +kernel
theorem dX4_track_39 : decode cX4_track 39 = .ok (.istore 5, 2) := by decide +kernel
theorem dX4_track_41 : decode cX4_track 41 = .ok (.iload 5, 2) := by decide +kernel
theorem dX4_track_43 : decode cX4_track 43 = .ok (.iload_n 2, 1) := by decide +kernel
theorem dX4_track_44 : decode cX4_track 44 = .ok (.if_icmp .ge 30, 3) := by decide +kernel
theorem dX4_track_47 : decode cX4_track 47 = .ok (.aload_n 0, 1) := by decide +kernel
theorem dX4_track_48 : decode cX4_track 48 = .ok (.getfield 43, 3) := by decide +kernel
theorem dX4_track_51 : decode cX4_track 51 = .ok (.invokevirtual 164, 3) := by decide +kernel
theorem dX4_track_54 : decode cX4_track 54 = .ok (.lload_n 3, 1) := by decide +kernel
theorem dX4_track_55 : decode cX4_track 55 = .ok (.lconst 1, 1) := by decide +kernel
theorem dX4_track_56 : decode cX4_track 56 = .ok (.aload_n 0, 1) := by decide +kernel
theorem dX4_track_57 : decode cX4_track 57 = .ok (.getfield 43, 3) := by decide +kernel
theorem dX4_track_60 : decode cX4_track 60 = .ok (.getfield 139, 3) := by decide +kernel
theorem dX4_track_63 : decode cX4_track 63 = .ok (.iload_n 1, 1) := by decide +kernel
theorem dX4_track_64 : decode cX4_track 64 = .ok (.iaload, 1) := by decide +kernel
theorem dX4_track_65 : decode cX4_track 65 = .ok (.lshl, 1) := by decide +kernel
theorem dX4_track_66 : decode cX4_track 66 = .ok (.lor, 1) := by decide +kernel
theorem dX4_track_67 : decode cX4_track 67 = .ok (.lstore_n 3, 1) := by decide +kernel
theorem dX4_track_68 : decode cX4_track 68 = .ok (.iinc 5 1, 3) := by decide +kernel
theorem dX4_track_71 : decode cX4_track 71 = .ok (.goto (-30), 3) := by decide +kernel
theorem dX4_track_74 : decode cX4_track 74 = .ok (.lload_n 3, 1) := by decide +kernel
theorem dX4_track_75 : decode cX4_track 75 = .ok (.lreturn, 1) := by decide +kernel
def b_X4_track_41 (kc41 : Int32 → Int32 → Int64 → Int32 → GX → Option (Int64 × GX)) (x1 : Int32) (x2 : Int32) (x3 : Int64) (x5 : Int32) (σ : GX) : Option (Int64 × GX) :=
  if x2 ≤ x5 then (some (x3, σ)) else (bnd (f_X2_passNight 1 σ) fun q5 => grd x1 6 (bnd (some (x3 ||| (slL (1 : Int64) (xB q5.2 1 3 x1.toNatClampNeg)))) fun w6 => kc41 x1 x2 w6 (x5 + (1 : Int32)) q5.2))
theorem vb_X4_track_41 {g : Gt} {ad : Nat → Nat} (z : Zt) (kc41 : Int32 → Int32 → Int64 → Int32 → GX → Option (Int64 × GX)) (hkc41 : ∀ (x1 : Int32) (x2 : Int32) (x3 : Int64) (x5 : Int32) (σ : GX), V g (LX ad) 7 RX4 cX4_track 6 (some .long) (wX g ad) iL z (kc41 x1 x2 x3 x5 σ) σ 41 [(0, .ref (aMain ad)), (1, .int x1), (2, .int x2), (3, .long x3), (5, .int x5)] []) (x1 : Int32) (x2 : Int32) (x3 : Int64) (x5 : Int32) (σ : GX) : V g (LX ad) 7 RX4 cX4_track 6 (some .long) (wX g ad) iL z (b_X4_track_41 kc41 x1 x2 x3 x5 σ) σ 41 [(0, .ref (aMain ad)), (1, .int x1), (2, .int x2), (3, .long x3), (5, .int x5)] [] := by
  unfold b_X4_track_41
  refine v_iload (pc := 41) (i := 5) dX4_track_41 rfl ?_
  refine v_iload_n (pc := 43) (i := 2) dX4_track_43 rfl rfl ?_
  refine v_icmp_ge (pc := 44) (tgt := 74) dX4_track_44 rfl ?_ ?_
  · refine v_lload_n (pc := 74) (i := 3) dX4_track_74 rfl rfl ?_
    exact v_lret (pc := 75) dX4_track_75
  · refine v_aload_n (pc := 47) (i := 0) dX4_track_47 rfl rfl ?_
    refine gX4_thought (pc := 48) q_327 dX4_track_48 ?_
    refine v_callVv (pc := 51) (rcX2 (by decide)) (As := []) (rest := []) (ct_X2_passNight (by decide)) mi_X2_passNight q_497 (by decide) rfl rfl (Nat.le_of_ble_eq_true rfl) dX4_track_51 (fun q5 => ?_)
    refine v_lload_n (pc := 54) (i := 3) dX4_track_54 rfl rfl ?_
    refine v_lconst (pc := 55) dX4_track_55 lc_1 ?_
    refine v_aload_n (pc := 56) (i := 0) dX4_track_56 rfl rfl ?_
    refine gX4_thought (pc := 57) q_327 dX4_track_57 ?_
    refine gX2_cell (pc := 60) (y := 1) (by decide) q_156 dX4_track_60 ?_
    refine v_iload_n (pc := 63) (i := 1) dX4_track_63 rfl rfl ?_
    refine lX_sea3 (pc := 64) (y := 1) (by decide) dX4_track_64 ?_
    refine v_lshl (pc := 65) dX4_track_65 ?_
    refine v_lor (pc := 66) dX4_track_66 ?_
    refine v_nml (fun w6 => ?_)
    refine v_lstore_n (pc := 67) (lv' := [(3, .long w6), (0, .ref (aMain ad)), (1, .int x1), (2, .int x2), (5, .int x5)]) (i := 3) dX4_track_67 rfl (by decide) rfl ?_
    refine v_iinc (pc := 68) (lv' := [(5, .int (x5 + (1 : Int32))), (3, .long w6), (0, .ref (aMain ad)), (1, .int x1), (2, .int x2)]) (i := 5) dX4_track_68 rfl ic_1 (by decide) rfl ?_
    refine v_goto (pc := 71) (tgt := 41) dX4_track_71 rfl ?_
    exact v_sub [2, 3, 4, 1, 0] rfl (hkc41 x1 x2 w6 (x5 + (1 : Int32)) q5.2)
def k_X4_track_41 : Nat → Int32 → Int32 → Int64 → Int32 → GX → Option (Int64 × GX)
  | 0 => fun _ _ _ _ _ => none
  | n + 1 => b_X4_track_41 (k_X4_track_41 n)
theorem vk_X4_track_41 {g : Gt} {ad : Nat → Nat} (z : Zt) : ∀ (n : Nat) (x1 : Int32) (x2 : Int32) (x3 : Int64) (x5 : Int32) (σ : GX), V g (LX ad) 7 RX4 cX4_track 6 (some .long) (wX g ad) iL z (k_X4_track_41 n x1 x2 x3 x5 σ) σ 41 [(0, .ref (aMain ad)), (1, .int x1), (2, .int x2), (3, .long x3), (5, .int x5)] [] := by
  intro n
  induction n with
  | zero => intros; exact v_eq rfl v_none
  | succ n ih =>
    intro x1 x2 x3 x5 σ
    exact v_eq rfl (vb_X4_track_41 z _ ih x1 x2 x3 x5 σ)
def f_X4_track (x1 : Int32) (x2 : Int32) (σ : GX) : Option (Int64 × GX) :=
  bnd (f_X4_isShip x1 σ) fun q1 => if q1.1 = 0 then (some ((-4611686018427387904 : Int64), q1.2)) else (bnd (f_X4_within x2 (0 : Int32) (40 : Int32) q1.2) fun q2 => if q2.1 ≠ 0 then (bnd (f_X4_think q2.2) fun q3 => grd x1 6 (bnd (some (slL (1 : Int64) (xB q3.2 1 3 x1.toNatClampNeg))) fun w4 => k_X4_track_41 FU x1 x2 w4 (0 : Int32) q3.2)) else (some ((-4611686018427387904 : Int64), q2.2)))
theorem vf_X4_track {g : Gt} {ad : Nat → Nat} (z : Zt) (x1 : Int32) (x2 : Int32) (σ : GX) : V g (LX ad) 7 RX4 cX4_track 6 (some .long) (wX g ad) iL z (f_X4_track x1 x2 σ) σ 0 [(0, .ref (aMain ad)), (1, .int x1), (2, .int x2)] [] := by
  unfold f_X4_track
  refine v_aload_n (pc := 0) (i := 0) dX4_track_0 rfl rfl ?_
  refine v_iload_n (pc := 1) (i := 1) dX4_track_1 rfl rfl ?_
  refine v_callVi (pc := 2) rcX4 (As := [.int x1]) (rest := []) (ct_X4_isShip x1) mi_X4_isShip q_433 (by decide) rfl rfl (Nat.le_of_ble_eq_true rfl) dX4_track_2 (fun q1 => ?_)
  refine v_if_eq (pc := 5) (tgt := 18) dX4_track_5 rfl ?_ ?_
  · refine v_ldc2 (pc := 18) dX4_track_18 q_546 ?_
    exact v_lret (pc := 21) dX4_track_21
  · refine v_iload_n (pc := 8) (i := 2) dX4_track_8 rfl rfl ?_
    refine v_iconst (pc := 9) dX4_track_9 ic_0 ?_
    refine v_bipush (pc := 10) dX4_track_10 bp_40 ?_
    refine v_callSi (pc := 12) (av := [.int x2, .int (0 : Int32), .int (40 : Int32)]) (rest := []) (ct_X4_within x2 (0 : Int32) (40 : Int32)) mi_X4_within q_384 (by decide) rfl rfl (Nat.le_of_ble_eq_true rfl) dX4_track_12 (fun q2 => ?_)
    refine v_if_ne (pc := 15) (tgt := 22) dX4_track_15 rfl ?_ ?_
    · refine v_aload_n (pc := 22) (i := 0) dX4_track_22 rfl rfl ?_
      refine v_callVv (pc := 23) rcX4 (As := []) (rest := []) (ct_X4_think) mi_X4_think q_517 (by decide) rfl rfl (Nat.le_of_ble_eq_true rfl) dX4_track_23 (fun q3 => ?_)
      refine v_lconst (pc := 26) dX4_track_26 lc_1 ?_
      refine v_aload_n (pc := 27) (i := 0) dX4_track_27 rfl rfl ?_
      refine gX4_thought (pc := 28) q_327 dX4_track_28 ?_
      refine gX2_cell (pc := 31) (y := 1) (by decide) q_156 dX4_track_31 ?_
      refine v_iload_n (pc := 34) (i := 1) dX4_track_34 rfl rfl ?_
      refine lX_sea3 (pc := 35) (y := 1) (by decide) dX4_track_35 ?_
      refine v_lshl (pc := 36) dX4_track_36 ?_
      refine v_nml (fun w4 => ?_)
      refine v_lstore_n (pc := 37) (lv' := [(3, .long w4), (0, .ref (aMain ad)), (1, .int x1), (2, .int x2)]) (i := 3) dX4_track_37 rfl (by decide) rfl ?_
      refine v_iconst (pc := 38) dX4_track_38 ic_0 ?_
      refine v_istore (pc := 39) (lv' := [(5, .int (0 : Int32)), (3, .long w4), (0, .ref (aMain ad)), (1, .int x1), (2, .int x2)]) (i := 5) dX4_track_39 (by decide) rfl ?_
      exact v_sub [2, 3, 4, 1, 0] rfl (vk_X4_track_41 z FU x1 x2 w4 (0 : Int32) q3.2)
    · refine v_ldc2 (pc := 18) dX4_track_18 q_546 ?_
      exact v_lret (pc := 21) dX4_track_21
theorem ct_X4_track {g : Gt} {ad : Nat → Nat} (x1 : Int32) (x2 : Int32) : CT g (LX ad) yX4_track cX4_track 6 (some .long) 7 [.ref (aMain ad), .int x1, .int x2] iL (wX g ad) (f_X4_track x1 x2) :=
  ct_of_V (own := RX4) (lv0 := [(0, .ref (aMain ad)), (1, .int x1), (2, .int x2)]) (by decide +kernel) rfl (Nat.le_of_ble_eq_true rfl) rfl (fun z σ => vf_X4_track z x1 x2 σ)
-- LighthouseLiedTo.sea
theorem dX4_sea_0 : decode cX4_sea 0 = .ok (.iload_n 1, 1) := by decide +kernel
theorem dX4_sea_1 : decode cX4_sea 1 = .ok (.tableswitch 87 0 3 #[31, 39, 47, 67], 31) := by decide +kernel
theorem dX4_sea_32 : decode cX4_sea 32 = .ok (.aload_n 0, 1) := by decide +kernel
theorem dX4_sea_33 : decode cX4_sea 33 = .ok (.getfield 39, 3) := by decide +kernel
theorem dX4_sea_36 : decode cX4_sea 36 = .ok (.getfield 87, 3) := by decide +kernel
theorem dX4_sea_39 : decode cX4_sea 39 = .ok (.lreturn, 1) := by decide +kernel
theorem dX4_sea_40 : decode cX4_sea 40 = .ok (.aload_n 0, 1) := by decide +kernel
theorem dX4_sea_41 : decode cX4_sea 41 = .ok (.getfield 39, 3) := by decide +kernel
theorem dX4_sea_44 : decode cX4_sea 44 = .ok (.invokevirtual 178, 3) := by decide +kernel
theorem dX4_sea_47 : decode cX4_sea 47 = .ok (.lreturn, 1) := by decide +kernel
theorem dX4_sea_48 : decode cX4_sea 48 = .ok (.aload_n 0, 1) := by decide +kernel
theorem dX4_sea_49 : decode cX4_sea 49 = .ok (.getfield 39, 3) := by decide +kernel
theorem dX4_sea_52 : decode cX4_sea 52 = .ok (.invokevirtual 182, 3) := by decide +kernel
theorem dX4_sea_55 : decode cX4_sea 55 = .ok (.aload_n 0, 1) := by decide +kernel
theorem dX4_sea_56 : decode cX4_sea 56 = .ok (.getfield 39, 3) := by decide +kernel
theorem dX4_sea_59 : decode cX4_sea 59 = .ok (.getfield 87, 3) := by decide +kernel
theorem dX4_sea_62 : decode cX4_sea 62 = .ok (.ldc2_w 113, 3) := by decide +kernel
theorem dX4_sea_65 : decode cX4_sea 65 = .ok (.lxor, 1) := by decide +kernel
theorem dX4_sea_66 : decode cX4_sea 66 = .ok (.land, 1) := by decide +kernel
theorem dX4_sea_67 : decode cX4_sea 67 = .ok (.lreturn, 1) := by decide +kernel
theorem dX4_sea_68 : decode cX4_sea 68 = .ok (.aload_n 0, 1) := by decide +kernel
theorem dX4_sea_69 : decode cX4_sea 69 = .ok (.getfield 39, 3) := by decide +kernel
theorem dX4_sea_72 : decode cX4_sea 72 = .ok (.getfield 87, 3) := by decide +kernel
theorem dX4_sea_75 : decode cX4_sea 75 = .ok (.aload_n 0, 1) := by decide +kernel
theorem dX4_sea_76 : decode cX4_sea 76 = .ok (.getfield 39, 3) := by decide +kernel
theorem dX4_sea_79 : decode cX4_sea 79 = .ok (.invokevirtual 182, 3) := by decide +kernel
theorem dX4_sea_82 : decode cX4_sea 82 = .ok (.ldc2_w 113, 3) := by decide +kernel
theorem dX4_sea_85 : decode cX4_sea 85 = .ok (.lxor, 1) := by decide +kernel
theorem dX4_sea_86 : decode cX4_sea 86 = .ok (.land, 1) := by decide +kernel
theorem dX4_sea_87 : decode cX4_sea 87 = .ok (.lreturn, 1) := by decide +kernel
theorem dX4_sea_88 : decode cX4_sea 88 = .ok (.ldc2_w 176, 3) := by decide +kernel
theorem dX4_sea_91 : decode cX4_sea 91 = .ok (.lreturn, 1) := by decide +kernel
def f_X4_sea (x1 : Int32) (σ : GX) : Option (Int64 × GX) :=
  if x1 = (0 : Int32) then (some ((xR σ 0), σ)) else (if x1 = (1 : Int32) then (bnd (f_X2_brightest 0 σ) fun q1 => some (q1.1, q1.2)) else (if x1 = (2 : Int32) then (bnd (f_X2_surelyRocks 0 σ) fun q2 => some ((q2.1 &&& ((xR q2.2 0) ^^^ (-1 : Int64))), q2.2)) else (if x1 = (3 : Int32) then (bnd (f_X2_surelyRocks 0 σ) fun q3 => some (((xR σ 0) &&& (q3.1 ^^^ (-1 : Int64))), q3.2)) else (some ((-4611686018427387904 : Int64), σ)))))
theorem vf_X4_sea {g : Gt} {ad : Nat → Nat} (z : Zt) (x1 : Int32) (σ : GX) : V g (LX ad) 5 RX4 cX4_sea 2 (some .long) (wX g ad) iL z (f_X4_sea x1 σ) σ 0 [(0, .ref (aMain ad)), (1, .int x1)] [] := by
  unfold f_X4_sea
  refine v_iload_n (pc := 0) (i := 1) dX4_sea_0 rfl rfl ?_
  refine v_case (c := x1 = (0 : Int32)) (fun hx => ?_) (fun hc1_0 => ?_)
  · refine v_tin (pc := 1) (tgt := 32) (off := 31) hx dX4_sea_1 (by decide) (by decide) rfl rfl ?_
    refine v_aload_n (pc := 32) (i := 0) dX4_sea_32 rfl rfl ?_
    refine gX4_now (pc := 33) q_326 dX4_sea_33 ?_
    refine gX2_rocks (pc := 36) (y := 0) (by decide) q_160 dX4_sea_36 ?_
    exact v_lret (pc := 39) dX4_sea_39
  refine v_case (c := x1 = (1 : Int32)) (fun hx => ?_) (fun hc1_1 => ?_)
  · refine v_tin (pc := 1) (tgt := 40) (off := 39) hx dX4_sea_1 (by decide) (by decide) rfl rfl ?_
    refine v_aload_n (pc := 40) (i := 0) dX4_sea_40 rfl rfl ?_
    refine gX4_now (pc := 41) q_326 dX4_sea_41 ?_
    refine v_callVl (pc := 44) (rcX2 (by decide)) (As := []) (rest := []) (ct_X2_brightest (by decide)) mi_X2_brightest q_551 (by decide) rfl rfl (Nat.le_of_ble_eq_true rfl) dX4_sea_44 (fun q1 => ?_)
    exact v_lret (pc := 47) dX4_sea_47
  refine v_case (c := x1 = (2 : Int32)) (fun hx => ?_) (fun hc1_2 => ?_)
  · refine v_tin (pc := 1) (tgt := 48) (off := 47) hx dX4_sea_1 (by decide) (by decide) rfl rfl ?_
    refine v_aload_n (pc := 48) (i := 0) dX4_sea_48 rfl rfl ?_
    refine gX4_now (pc := 49) q_326 dX4_sea_49 ?_
    refine v_callVl (pc := 52) (rcX2 (by decide)) (As := []) (rest := []) (ct_X2_surelyRocks (by decide)) mi_X2_surelyRocks q_555 (by decide) rfl rfl (Nat.le_of_ble_eq_true rfl) dX4_sea_52 (fun q2 => ?_)
    refine v_aload_n (pc := 55) (i := 0) dX4_sea_55 rfl rfl ?_
    refine gX4_now (pc := 56) q_326 dX4_sea_56 ?_
    refine gX2_rocks (pc := 59) (y := 0) (by decide) q_160 dX4_sea_59 ?_
    refine v_ldc2 (pc := 62) dX4_sea_62 q_391 ?_
    refine v_lxor (pc := 65) dX4_sea_65 ?_
    refine v_land (pc := 66) dX4_sea_66 ?_
    exact v_lret (pc := 67) dX4_sea_67
  refine v_case (c := x1 = (3 : Int32)) (fun hx => ?_) (fun hc1_3 => ?_)
  · refine v_tin (pc := 1) (tgt := 68) (off := 67) hx dX4_sea_1 (by decide) (by decide) rfl rfl ?_
    refine v_aload_n (pc := 68) (i := 0) dX4_sea_68 rfl rfl ?_
    refine gX4_now (pc := 69) q_326 dX4_sea_69 ?_
    refine gX2_rocks (pc := 72) (y := 0) (by decide) q_160 dX4_sea_72 ?_
    refine v_aload_n (pc := 75) (i := 0) dX4_sea_75 rfl rfl ?_
    refine gX4_now (pc := 76) q_326 dX4_sea_76 ?_
    refine v_callVl (pc := 79) (rcX2 (by decide)) (As := []) (rest := [.long (xR σ 0)]) (ct_X2_surelyRocks (by decide)) mi_X2_surelyRocks q_555 (by decide) rfl rfl (Nat.le_of_ble_eq_true rfl) dX4_sea_79 (fun q3 => ?_)
    refine v_ldc2 (pc := 82) dX4_sea_82 q_391 ?_
    refine v_lxor (pc := 85) dX4_sea_85 ?_
    refine v_land (pc := 86) dX4_sea_86 ?_
    exact v_lret (pc := 87) dX4_sea_87
  refine v_tout (pc := 1) (tgt := 88) dX4_sea_1 (by have e0 := tsw_ne (a := 0) hc1_0 rfl; have e1 := tsw_ne (a := 1) hc1_1 rfl; have e2 := tsw_ne (a := 2) hc1_2 rfl; have e3 := tsw_ne (a := 3) hc1_3 rfl; omega) rfl ?_
  refine v_ldc2 (pc := 88) dX4_sea_88 q_546 ?_
  exact v_lret (pc := 91) dX4_sea_91
theorem ct_X4_sea {g : Gt} {ad : Nat → Nat} (x1 : Int32) : CT g (LX ad) yX4_sea cX4_sea 2 (some .long) 5 [.ref (aMain ad), .int x1] iL (wX g ad) (f_X4_sea x1) :=
  ct_of_V (own := RX4) (lv0 := [(0, .ref (aMain ad)), (1, .int x1)]) (by decide +kernel) rfl (Nat.le_of_ble_eq_true rfl) rfl (fun z σ => vf_X4_sea z x1 σ)
-- LighthouseLiedTo.lie
theorem dX4_lie_0 : decode cX4_lie 0 = .ok (.iload_n 1, 1) := by decide +kernel
theorem dX4_lie_1 : decode cX4_lie 1 = .ok (.bipush (-99), 2) := by decide +kernel
theorem dX4_lie_3 : decode cX4_lie 3 = .ok (.bipush 99, 2) := by decide +kernel
theorem dX4_lie_5 : decode cX4_lie 5 = .ok (.invokestatic 106, 3) := by decide +kernel
theorem dX4_lie_8 : decode cX4_lie 8 = .ok (.ifCond .eq 22, 3) := by decide +kernel
theorem dX4_lie_11 : decode cX4_lie 11 = .ok (.iload_n 2, 1) := by decide +kernel
theorem dX4_lie_12 : decode cX4_lie 12 = .ok (.iconst 0, 1) := by decide +kernel
theorem dX4_lie_13 : decode cX4_lie 13 = .ok (.bipush 20, 2) := by decide +kernel
theorem dX4_lie_15 : decode cX4_lie 15 = .ok (.invokestatic 106, 3) := by decide +kernel
theorem dX4_lie_18 : decode cX4_lie 18 = .ok (.ifCond .eq 12, 3) := by decide +kernel
theorem dX4_lie_21 : decode cX4_lie 21 = .ok (.iload_n 3, 1) := by decide +kernel
theorem dX4_lie_22 : decode cX4_lie 22 = .ok (.iconst 0, 1) := by decide +kernel
theorem dX4_lie_23 : decode cX4_lie 23 = .ok (.iconst 1, 1) := by decide +kernel
theorem dX4_lie_24 : decode cX4_lie 24 = .ok (.invokestatic 106, 3) := by decide +kernel
theorem dX4_lie_27 : decode cX4_lie 27 = .ok (.ifCond .ne 6, 3) := by decide +kernel
theorem dX4_lie_30 : decode cX4_lie 30 = .ok (.bipush (-2), 2) := by decide +kernel
theorem dX4_lie_32 : decode cX4_lie 32 = .ok (.ireturn, 1) := by decide +kernel
theorem dX4_lie_33 : decode cX4_lie 33 = .ok (.aload_n 0, 1) := by decide +kernel
theorem dX4_lie_34 : decode cX4_lie 34 = .ok (.invokevirtual 167, 3) := by decide +kernel
theorem dX4_lie_37 : decode cX4_lie 37 = .ok (.aload_n 0, 1) := by decide +kernel
theorem dX4_lie_38 : decode cX4_lie 38 = .ok (.getfield 43, 3) := by decide +kernel
theorem dX4_lie_41 : decode cX4_lie 41 = .ok (.iload_n 2, 1) := by decide +kernel
theorem dX4_lie_42 : decode cX4_lie 42 = .ok (.invokevirtual 170, 3) := by decide +kernel
theorem dX4_lie_45 : decode cX4_lie 45 = .ok (.istore 4, 2) := by decide +kernel
theorem dX4_lie_47 : decode cX4_lie 47 = .ok (.iconst (-1), 1) := by decide +kernel
theorem dX4_lie_48 : decode cX4_lie 48 = .ok (.istore 5, 2) := by decide +kernel
theorem dX4_lie_50 : decode cX4_lie 50 = .ok (.iconst 0, 1) := by decide +kernel
theorem dX4_lie_51 : decode cX4_lie 51 = .ok (.istore 6, 2) := by decide +kernel
theorem dX4_lie_53 : decode cX4_lie 53 = .ok (.iload 6, 2) := by decide +kernel
theorem dX4_lie_55 : decode cX4_lie 55 = .ok (.bipush 36, 2) := by decide +kernel
theorem dX4_lie_57 : decode cX4_lie 57 = .ok (.if_icmp .ge 53, 3) := by decide +kernel
theorem dX4_lie_60 : decode cX4_lie 60 = .ok (.iload 4, 2) := by decide +kernel
theorem dX4_lie_62 : decode cX4_lie 62 = .ok (.ifCond .le 48, 3) := by decide +kernel
theorem dX4_lie_65 : decode cX4_lie 65 = .ok (.aload_n 0, 1) := by decide +kernel
theorem dX4_lie_66 : decode cX4_lie 66 = .ok (.invokevirtual 167, 3) := by decide +kernel
theorem dX4_lie_69 : decode cX4_lie 69 = .ok (.aload_n 0, 1) := by decide +kernel
theorem dX4_lie_70 : decode cX4_lie 70 = .ok (.getfield 43, 3) := by decide +kernel
theorem dX4_lie_73 : decode cX4_lie 73 = .ok (.iload 6, 2) := by decide +kernel
theorem dX4_lie_75 : decode cX4_lie 75 = .ok (.iload_n 1, 1) := by decide +kernel
theorem dX4_lie_76 : decode cX4_lie 76 = .ok (.invokevirtual 115, 3) := by decide +kernel
theorem dX4_lie_79 : decode cX4_lie 79 = .ok (.aload_n 0, 1) := by decide +kernel
theorem dX4_lie_80 : decode cX4_lie 80 = .ok (.getfield 43, 3) := by decide +kernel
theorem dX4_lie_83 : decode cX4_lie 83 = .ok (.iload_n 2, 1) := by decide +kernel
theorem dX4_lie_84 : decode cX4_lie 84 = .ok (.invokevirtual 170, 3) := by decide +kernel
theorem dX4_lie_87 : decode cX4_lie 87 = .ok (.istore 7, 2) := by decide +kernel
theorem dX4_lie_89 : decode cX4_lie 89 = .ok (.iload 7, 2) := by decide +kernel
theorem dX4_lie_91 : decode cX4_lie 91 = .ok (.iload 4, 2) := by decide +kernel
theorem dX4_lie_93 : decode cX4_lie 93 = .ok (.if_icmp .ge 11, 3) := by decide +kernel
theorem dX4_lie_96 : decode cX4_lie 96 = .ok (.iload 7, 2) := by decide +kernel
theorem dX4_lie_98 : decode cX4_lie 98 = .ok (.istore 4, 2) := by decide +kernel
theorem dX4_lie_100 : decode cX4_lie 100 = .ok (.iload 6, 2) := by decide +kernel
theorem dX4_lie_102 : decode cX4_lie 102 = .ok (.istore 5, 2) := by decide +kernel
theorem dX4_lie_104 : decode cX4_lie 104 = .ok (.iinc 6 1, 3) := by decide +kernel
theorem dX4_lie_107 : decode cX4_lie 107 = .ok (.goto (-54), 3) := by decide +kernel
theorem dX4_lie_110 : decode cX4_lie 110 = .ok (.iload_n 3, 1) := by decide +kernel
theorem dX4_lie_111 : decode cX4_lie 111 = .ok (.ifCond .ne 8, 3) := by decide +kernel
theorem dX4_lie_114 : decode cX4_lie 114 = .ok (.iload 5, 2) := by decide +kernel
theorem dX4_lie_116 : decode cX4_lie 116 = .ok (.goto 5, 3) := by decide +kernel
theorem dX4_lie_119 : decode cX4_lie 119 = .ok (.iload 4, 2) := by decide +kernel
theorem dX4_lie_121 : decode cX4_lie 121 = .ok (.ireturn, 1) := by decide +kernel
def b_X4_lie_110 (x3 : Int32) (x4 : Int32) (x5 : Int32) (σ : GX) : Option (Int32 × GX) :=
  if x3 ≠ 0 then (some (x4, σ)) else (some (x5, σ))
theorem vb_X4_lie_110 {g : Gt} {ad : Nat → Nat} (z : Zt) (x3 : Int32) (x4 : Int32) (x5 : Int32) (σ : GX) : V g (LX ad) 8 RX4 cX4_lie 8 (some .int) (wX g ad) iI z (b_X4_lie_110 x3 x4 x5 σ) σ 110 [(3, .int x3), (4, .int x4), (5, .int x5)] [] := by
  unfold b_X4_lie_110
  refine v_iload_n (pc := 110) (i := 3) dX4_lie_110 rfl rfl ?_
  refine v_if_ne (pc := 111) (tgt := 119) dX4_lie_111 rfl ?_ ?_
  · refine v_iload (pc := 119) (i := 4) dX4_lie_119 rfl ?_
    exact v_iret (pc := 121) dX4_lie_121
  · refine v_iload (pc := 114) (i := 5) dX4_lie_114 rfl ?_
    refine v_goto (pc := 116) (tgt := 121) dX4_lie_116 rfl ?_
    exact v_iret (pc := 121) dX4_lie_121
def b_X4_lie_53 (kc53 : Int32 → Int32 → Int32 → Int32 → Int32 → Int32 → GX → Option (Int32 × GX)) (x1 : Int32) (x2 : Int32) (x3 : Int32) (x4 : Int32) (x5 : Int32) (x6 : Int32) (σ : GX) : Option (Int32 × GX) :=
  if (36 : Int32) ≤ x6 then (b_X4_lie_110 x3 x4 x5 σ) else (if x4 ≤ 0 then (b_X4_lie_110 x3 x4 x5 σ) else (bnd (f_X4_think σ) fun q6 => bnd (f_X2_hear 1 x6 x1 q6.2) fun q7 => bnd (f_X2_lossesIn 1 x2 q7.2) fun q8 => if x4 ≤ q8.1 then (kc53 x1 x2 x3 x4 x5 (x6 + (1 : Int32)) q8.2) else (kc53 x1 x2 x3 q8.1 x6 (x6 + (1 : Int32)) q8.2)))
theorem vb_X4_lie_53 {g : Gt} {ad : Nat → Nat} (z : Zt) (kc53 : Int32 → Int32 → Int32 → Int32 → Int32 → Int32 → GX → Option (Int32 × GX)) (hkc53 : ∀ (x1 : Int32) (x2 : Int32) (x3 : Int32) (x4 : Int32) (x5 : Int32) (x6 : Int32) (σ : GX), V g (LX ad) 8 RX4 cX4_lie 8 (some .int) (wX g ad) iI z (kc53 x1 x2 x3 x4 x5 x6 σ) σ 53 [(0, .ref (aMain ad)), (1, .int x1), (2, .int x2), (3, .int x3), (4, .int x4), (5, .int x5), (6, .int x6)] []) (x1 : Int32) (x2 : Int32) (x3 : Int32) (x4 : Int32) (x5 : Int32) (x6 : Int32) (σ : GX) : V g (LX ad) 8 RX4 cX4_lie 8 (some .int) (wX g ad) iI z (b_X4_lie_53 kc53 x1 x2 x3 x4 x5 x6 σ) σ 53 [(0, .ref (aMain ad)), (1, .int x1), (2, .int x2), (3, .int x3), (4, .int x4), (5, .int x5), (6, .int x6)] [] := by
  unfold b_X4_lie_53
  refine v_iload (pc := 53) (i := 6) dX4_lie_53 rfl ?_
  refine v_bipush (pc := 55) dX4_lie_55 bp_36 ?_
  refine v_icmp_ge (pc := 57) (tgt := 110) dX4_lie_57 rfl ?_ ?_
  · exact v_sub [3, 4, 5] rfl (vb_X4_lie_110 z x3 x4 x5 σ)
  · refine v_iload (pc := 60) (i := 4) dX4_lie_60 rfl ?_
    refine v_if_le (pc := 62) (tgt := 110) dX4_lie_62 rfl ?_ ?_
    · exact v_sub [3, 4, 5] rfl (vb_X4_lie_110 z x3 x4 x5 σ)
    · refine v_aload_n (pc := 65) (i := 0) dX4_lie_65 rfl rfl ?_
      refine v_callVv (pc := 66) rcX4 (As := []) (rest := []) (ct_X4_think) mi_X4_think q_517 (by decide) rfl rfl (Nat.le_of_ble_eq_true rfl) dX4_lie_66 (fun q6 => ?_)
      refine v_aload_n (pc := 69) (i := 0) dX4_lie_69 rfl rfl ?_
      refine gX4_thought (pc := 70) q_327 dX4_lie_70 ?_
      refine v_iload (pc := 73) (i := 6) dX4_lie_73 rfl ?_
      refine v_iload_n (pc := 75) (i := 1) dX4_lie_75 rfl rfl ?_
      refine v_callVv (pc := 76) (rcX2 (by decide)) (As := [.int x6, .int x1]) (rest := []) (ct_X2_hear (by decide) x6 x1) mi_X2_hear q_396 (by decide) rfl rfl (Nat.le_of_ble_eq_true rfl) dX4_lie_76 (fun q7 => ?_)
      refine v_aload_n (pc := 79) (i := 0) dX4_lie_79 rfl rfl ?_
      refine gX4_thought (pc := 80) q_327 dX4_lie_80 ?_
      refine v_iload_n (pc := 83) (i := 2) dX4_lie_83 rfl rfl ?_
      refine v_callVi (pc := 84) (rcX2 (by decide)) (As := [.int x2]) (rest := []) (ct_X2_lossesIn (by decide) x2) mi_X2_lossesIn q_528 (by decide) rfl rfl (Nat.le_of_ble_eq_true rfl) dX4_lie_84 (fun q8 => ?_)
      refine v_istore (pc := 87) (lv' := [(7, .int q8.1), (0, .ref (aMain ad)), (1, .int x1), (2, .int x2), (3, .int x3), (4, .int x4), (5, .int x5), (6, .int x6)]) (i := 7) dX4_lie_87 (by decide) rfl ?_
      refine v_iload (pc := 89) (i := 7) dX4_lie_89 rfl ?_
      refine v_iload (pc := 91) (i := 4) dX4_lie_91 rfl ?_
      refine v_icmp_ge (pc := 93) (tgt := 104) dX4_lie_93 rfl ?_ ?_
      · refine v_iinc (pc := 104) (lv' := [(6, .int (x6 + (1 : Int32))), (7, .int q8.1), (0, .ref (aMain ad)), (1, .int x1), (2, .int x2), (3, .int x3), (4, .int x4), (5, .int x5)]) (i := 6) dX4_lie_104 rfl ic_1 (by decide) rfl ?_
        refine v_goto (pc := 107) (tgt := 53) dX4_lie_107 rfl ?_
        exact v_sub [2, 3, 4, 5, 6, 7, 0] rfl (hkc53 x1 x2 x3 x4 x5 (x6 + (1 : Int32)) q8.2)
      · refine v_iload (pc := 96) (i := 7) dX4_lie_96 rfl ?_
        refine v_istore (pc := 98) (lv' := [(4, .int q8.1), (7, .int q8.1), (0, .ref (aMain ad)), (1, .int x1), (2, .int x2), (3, .int x3), (5, .int x5), (6, .int x6)]) (i := 4) dX4_lie_98 (by decide) rfl ?_
        refine v_iload (pc := 100) (i := 6) dX4_lie_100 rfl ?_
        refine v_istore (pc := 102) (lv' := [(5, .int x6), (4, .int q8.1), (7, .int q8.1), (0, .ref (aMain ad)), (1, .int x1), (2, .int x2), (3, .int x3), (6, .int x6)]) (i := 5) dX4_lie_102 (by decide) rfl ?_
        refine v_iinc (pc := 104) (lv' := [(6, .int (x6 + (1 : Int32))), (5, .int x6), (4, .int q8.1), (7, .int q8.1), (0, .ref (aMain ad)), (1, .int x1), (2, .int x2), (3, .int x3)]) (i := 6) dX4_lie_104 rfl ic_1 (by decide) rfl ?_
        refine v_goto (pc := 107) (tgt := 53) dX4_lie_107 rfl ?_
        exact v_sub [4, 5, 6, 7, 2, 1, 0] rfl (hkc53 x1 x2 x3 q8.1 x6 (x6 + (1 : Int32)) q8.2)
def k_X4_lie_53 : Nat → Int32 → Int32 → Int32 → Int32 → Int32 → Int32 → GX → Option (Int32 × GX)
  | 0 => fun _ _ _ _ _ _ _ => none
  | n + 1 => b_X4_lie_53 (k_X4_lie_53 n)
theorem vk_X4_lie_53 {g : Gt} {ad : Nat → Nat} (z : Zt) : ∀ (n : Nat) (x1 : Int32) (x2 : Int32) (x3 : Int32) (x4 : Int32) (x5 : Int32) (x6 : Int32) (σ : GX), V g (LX ad) 8 RX4 cX4_lie 8 (some .int) (wX g ad) iI z (k_X4_lie_53 n x1 x2 x3 x4 x5 x6 σ) σ 53 [(0, .ref (aMain ad)), (1, .int x1), (2, .int x2), (3, .int x3), (4, .int x4), (5, .int x5), (6, .int x6)] [] := by
  intro n
  induction n with
  | zero => intros; exact v_eq rfl v_none
  | succ n ih =>
    intro x1 x2 x3 x4 x5 x6 σ
    exact v_eq rfl (vb_X4_lie_53 z _ ih x1 x2 x3 x4 x5 x6 σ)
def f_X4_lie (x1 : Int32) (x2 : Int32) (x3 : Int32) (σ : GX) : Option (Int32 × GX) :=
  bnd (f_X4_within x1 (-99 : Int32) (99 : Int32) σ) fun q1 => if q1.1 = 0 then (some ((-2 : Int32), q1.2)) else (bnd (f_X4_within x2 (0 : Int32) (20 : Int32) q1.2) fun q2 => if q2.1 = 0 then (some ((-2 : Int32), q2.2)) else (bnd (f_X4_within x3 (0 : Int32) (1 : Int32) q2.2) fun q3 => if q3.1 ≠ 0 then (bnd (f_X4_think q3.2) fun q4 => bnd (f_X2_lossesIn 1 x2 q4.2) fun q5 => k_X4_lie_53 FU x1 x2 x3 q5.1 (-1 : Int32) (0 : Int32) q5.2) else (some ((-2 : Int32), q3.2))))
theorem vf_X4_lie {g : Gt} {ad : Nat → Nat} (z : Zt) (x1 : Int32) (x2 : Int32) (x3 : Int32) (σ : GX) : V g (LX ad) 8 RX4 cX4_lie 8 (some .int) (wX g ad) iI z (f_X4_lie x1 x2 x3 σ) σ 0 [(0, .ref (aMain ad)), (1, .int x1), (2, .int x2), (3, .int x3)] [] := by
  unfold f_X4_lie
  refine v_iload_n (pc := 0) (i := 1) dX4_lie_0 rfl rfl ?_
  refine v_bipush (pc := 1) dX4_lie_1 bp_m99 ?_
  refine v_bipush (pc := 3) dX4_lie_3 bp_99 ?_
  refine v_callSi (pc := 5) (av := [.int x1, .int (-99 : Int32), .int (99 : Int32)]) (rest := []) (ct_X4_within x1 (-99 : Int32) (99 : Int32)) mi_X4_within q_384 (by decide) rfl rfl (Nat.le_of_ble_eq_true rfl) dX4_lie_5 (fun q1 => ?_)
  refine v_if_eq (pc := 8) (tgt := 30) dX4_lie_8 rfl ?_ ?_
  · refine v_bipush (pc := 30) dX4_lie_30 bp_m2 ?_
    exact v_iret (pc := 32) dX4_lie_32
  · refine v_iload_n (pc := 11) (i := 2) dX4_lie_11 rfl rfl ?_
    refine v_iconst (pc := 12) dX4_lie_12 ic_0 ?_
    refine v_bipush (pc := 13) dX4_lie_13 bp_20 ?_
    refine v_callSi (pc := 15) (av := [.int x2, .int (0 : Int32), .int (20 : Int32)]) (rest := []) (ct_X4_within x2 (0 : Int32) (20 : Int32)) mi_X4_within q_384 (by decide) rfl rfl (Nat.le_of_ble_eq_true rfl) dX4_lie_15 (fun q2 => ?_)
    refine v_if_eq (pc := 18) (tgt := 30) dX4_lie_18 rfl ?_ ?_
    · refine v_bipush (pc := 30) dX4_lie_30 bp_m2 ?_
      exact v_iret (pc := 32) dX4_lie_32
    · refine v_iload_n (pc := 21) (i := 3) dX4_lie_21 rfl rfl ?_
      refine v_iconst (pc := 22) dX4_lie_22 ic_0 ?_
      refine v_iconst (pc := 23) dX4_lie_23 ic_1 ?_
      refine v_callSi (pc := 24) (av := [.int x3, .int (0 : Int32), .int (1 : Int32)]) (rest := []) (ct_X4_within x3 (0 : Int32) (1 : Int32)) mi_X4_within q_384 (by decide) rfl rfl (Nat.le_of_ble_eq_true rfl) dX4_lie_24 (fun q3 => ?_)
      refine v_if_ne (pc := 27) (tgt := 33) dX4_lie_27 rfl ?_ ?_
      · refine v_aload_n (pc := 33) (i := 0) dX4_lie_33 rfl rfl ?_
        refine v_callVv (pc := 34) rcX4 (As := []) (rest := []) (ct_X4_think) mi_X4_think q_517 (by decide) rfl rfl (Nat.le_of_ble_eq_true rfl) dX4_lie_34 (fun q4 => ?_)
        refine v_aload_n (pc := 37) (i := 0) dX4_lie_37 rfl rfl ?_
        refine gX4_thought (pc := 38) q_327 dX4_lie_38 ?_
        refine v_iload_n (pc := 41) (i := 2) dX4_lie_41 rfl rfl ?_
        refine v_callVi (pc := 42) (rcX2 (by decide)) (As := [.int x2]) (rest := []) (ct_X2_lossesIn (by decide) x2) mi_X2_lossesIn q_528 (by decide) rfl rfl (Nat.le_of_ble_eq_true rfl) dX4_lie_42 (fun q5 => ?_)
        refine v_istore (pc := 45) (lv' := [(4, .int q5.1), (0, .ref (aMain ad)), (1, .int x1), (2, .int x2), (3, .int x3)]) (i := 4) dX4_lie_45 (by decide) rfl ?_
        refine v_iconst (pc := 47) dX4_lie_47 ic_m1 ?_
        refine v_istore (pc := 48) (lv' := [(5, .int (-1 : Int32)), (4, .int q5.1), (0, .ref (aMain ad)), (1, .int x1), (2, .int x2), (3, .int x3)]) (i := 5) dX4_lie_48 (by decide) rfl ?_
        refine v_iconst (pc := 50) dX4_lie_50 ic_0 ?_
        refine v_istore (pc := 51) (lv' := [(6, .int (0 : Int32)), (5, .int (-1 : Int32)), (4, .int q5.1), (0, .ref (aMain ad)), (1, .int x1), (2, .int x2), (3, .int x3)]) (i := 6) dX4_lie_51 (by decide) rfl ?_
        exact v_sub [3, 4, 5, 6, 2, 1, 0] rfl (vk_X4_lie_53 z FU x1 x2 x3 q5.1 (-1 : Int32) (0 : Int32) q5.2)
      · refine v_bipush (pc := 30) dX4_lie_30 bp_m2 ?_
        exact v_iret (pc := 32) dX4_lie_32
theorem ct_X4_lie {g : Gt} {ad : Nat → Nat} (x1 : Int32) (x2 : Int32) (x3 : Int32) : CT g (LX ad) yX4_lie cX4_lie 8 (some .int) 8 [.ref (aMain ad), .int x1, .int x2, .int x3] iI (wX g ad) (f_X4_lie x1 x2 x3) :=
  ct_of_V (own := RX4) (lv0 := [(0, .ref (aMain ad)), (1, .int x1), (2, .int x2), (3, .int x3)]) (by decide +kernel) rfl (Nat.le_of_ble_eq_true rfl) rfl (fun z σ => vf_X4_lie z x1 x2 x3 σ)
-- LighthouseLiedTo.blow
theorem dX4_blow_0 : decode cX4_blow 0 = .ok (.iload_n 1, 1) := by decide +kernel
theorem dX4_blow_1 : decode cX4_blow 1 = .ok (.iconst 0, 1) := by decide +kernel
theorem dX4_blow_2 : decode cX4_blow 2 = .ok (.bipush 20, 2) := by decide +kernel
theorem dX4_blow_4 : decode cX4_blow 4 = .ok (.invokestatic 106, 3) := by decide +kernel
theorem dX4_blow_7 : decode cX4_blow 7 = .ok (.ifCond .eq 12, 3) := by decide +kernel
theorem dX4_blow_10 : decode cX4_blow 10 = .ok (.iload_n 2, 1) := by decide +kernel
theorem dX4_blow_11 : decode cX4_blow 11 = .ok (.iconst 0, 1) := by decide +kernel
theorem dX4_blow_12 : decode cX4_blow 12 = .ok (.iconst 1, 1) := by decide +kernel
theorem dX4_blow_13 : decode cX4_blow 13 = .ok (.invokestatic 106, 3) := by decide +kernel
theorem dX4_blow_16 : decode cX4_blow 16 = .ok (.ifCond .ne 6, 3) := by decide +kernel
theorem dX4_blow_19 : decode cX4_blow 19 = .ok (.bipush (-2), 2) := by decide +kernel
theorem dX4_blow_21 : decode cX4_blow 21 = .ok (.ireturn, 1) := by decide +kernel
theorem dX4_blow_22 : decode cX4_blow 22 = .ok (.aload_n 0, 1) := by decide +kernel
theorem dX4_blow_23 : decode cX4_blow 23 = .ok (.invokevirtual 167, 3) := by decide +kernel
theorem dX4_blow_26 : decode cX4_blow 26 = .ok (.aload_n 0, 1) := by decide +kernel
theorem dX4_blow_27 : decode cX4_blow 27 = .ok (.getfield 43, 3) := by decide +kernel
theorem dX4_blow_30 : decode cX4_blow 30 = .ok (.iload_n 1, 1) := by decide +kernel
theorem dX4_blow_31 : decode cX4_blow 31 = .ok (.invokevirtual 170, 3) := by decide +kernel
theorem dX4_blow_34 : decode cX4_blow 34 = .ok (.istore_n 3, 1) := by decide +kernel
theorem dX4_blow_35 : decode cX4_blow 35 = .ok (.iconst (-1), 1) := by decide +kernel
theorem dX4_blow_36 : decode cX4_blow 36 = .ok (.istore 4, 2) := by decide +kernel
theorem dX4_blow_38 : decode cX4_blow 38 = .ok (.iconst 0, 1) := by decide +kernel
theorem dX4_blow_39 : decode cX4_blow 39 = .ok (.istore 5, 2) := by decide +kernel
theorem dX4_blow_41 : decode cX4_blow 41 = .ok (.iload 5, 2) := by decide +kernel
theorem dX4_blow_43 : decode cX4_blow 43 = .ok (.bipush 36, 2) := by decide +kernel
theorem dX4_blow_45 : decode cX4_blow 45 = .ok (.if_icmp .ge 72, 3) := by decide +kernel
theorem dX4_blow_48 : decode cX4_blow 48 = .ok (.iload_n 3, 1) := by decide +kernel
theorem dX4_blow_49 : decode cX4_blow 49 = .ok (.ifCond .le 68, 3) := by decide +kernel
theorem dX4_blow_52 : decode cX4_blow 52 = .ok (.aload_n 0, 1) := by decide +kernel
theorem dX4_blow_53 : decode cX4_blow 53 = .ok (.getfield 39, 3) := by decide +kernel
theorem dX4_blow_56 : decode cX4_blow 56 = .ok (.iload 5, 2) := by decide +kernel
theorem dX4_blow_58 : decode cX4_blow 58 = .ok (.invokevirtual 110, 3) := by decide +kernel
theorem dX4_blow_61 : decode cX4_blow 61 = .ok (.ifCond .eq 50, 3) := by decide +kernel
theorem dX4_blow_64 : decode cX4_blow 64 = .ok (.aload_n 0, 1) := by decide +kernel
theorem dX4_blow_65 : decode cX4_blow 65 = .ok (.invokevirtual 167, 3) := by decide +kernel
theorem dX4_blow_68 : decode cX4_blow 68 = .ok (.aload_n 0, 1) := by decide +kernel
theorem dX4_blow_69 : decode cX4_blow 69 = .ok (.getfield 43, 3) := by decide +kernel
theorem dX4_blow_72 : decode cX4_blow 72 = .ok (.dup, 1) := by decide +kernel
theorem dX4_blow_73 : decode cX4_blow 73 = .ok (.getfield 87, 3) := by decide +kernel
theorem dX4_blow_76 : decode cX4_blow 76 = .ok (.lconst 1, 1) := by decide +kernel
theorem dX4_blow_77 : decode cX4_blow 77 = .ok (.iload 5, 2) := by decide +kernel
theorem dX4_blow_79 : decode cX4_blow 79 = .ok (.lshl, 1) := by decide +kernel
theorem dX4_blow_80 : decode cX4_blow 80 = .ok (.ldc2_w 113, 3) := by decide +kernel
theorem dX4_blow_83 : decode cX4_blow 83 = .ok (.lxor, 1) := by decide +kernel
theorem dX4_blow_84 : decode cX4_blow 84 = .ok (.land, 1) := by decide +kernel
theorem dX4_blow_85 : decode cX4_blow 85 = .ok (.putfield 87, 3) := by decide +kernel
theorem dX4_blow_88 : decode cX4_blow 88 = .ok (.aload_n 0, 1) := by decide +kernel
theorem dX4_blow_89 : decode cX4_blow 89 = .ok (.getfield 43, 3) := by decide +kernel
theorem dX4_blow_92 : decode cX4_blow 92 = .ok (.iload_n 1, 1) := by decide +kernel
theorem dX4_blow_93 : decode cX4_blow 93 = .ok (.invokevirtual 170, 3) := by decide +kernel
theorem dX4_blow_96 : decode cX4_blow 96 = .ok (.istore 6, 2) := by decide +kernel
theorem dX4_blow_98 : decode cX4_blow 98 = .ok (.iload 6, 2) := by decide +kernel
theorem dX4_blow_100 : decode cX4_blow 100 = .ok (.iload_n 3, 1) := by decide +kernel
theorem dX4_blow_101 : decode cX4_blow 101 = .ok (.if_icmp .ge 10, 3) := by decide +kernel
theorem dX4_blow_104 : decode cX4_blow 104 = .ok (.iload 6, 2) := by decide +kernel
theorem dX4_blow_106 : decode cX4_blow 106 = .ok (.istore_n 3, 1) := by decide +kernel
theorem dX4_blow_107 : decode cX4_blow 107 = .ok (.iload 5, 2) := by decide +kernel
theorem dX4_blow_109 : decode cX4_blow 109 = .ok (.istore 4, 2) := by decide +kernel
theorem dX4_blow_111 : decode cX4_blow 111 = .ok (.iinc 5 1, 3) := by decide +kernel
theorem dX4_blow_114 : decode cX4_blow 114 = .ok (.goto (-73), 3) := by decide +kernel
theorem dX4_blow_117 : decode cX4_blow 117 = .ok (.iload_n 2, 1) := by decide +kernel
theorem dX4_blow_118 : decode cX4_blow 118 = .ok (.ifCond .ne 8, 3) := by decide +kernel
theorem dX4_blow_121 : decode cX4_blow 121 = .ok (.iload 4, 2) := by decide +kernel
theorem dX4_blow_123 : decode cX4_blow 123 = .ok (.goto 4, 3) := by decide +kernel
theorem dX4_blow_126 : decode cX4_blow 126 = .ok (.iload_n 3, 1) := by decide +kernel
theorem dX4_blow_127 : decode cX4_blow 127 = .ok (.ireturn, 1) := by decide +kernel
def b_X4_blow_117 (x2 : Int32) (x3 : Int32) (x4 : Int32) (σ : GX) : Option (Int32 × GX) :=
  if x2 ≠ 0 then (some (x3, σ)) else (some (x4, σ))
theorem vb_X4_blow_117 {g : Gt} {ad : Nat → Nat} (z : Zt) (x2 : Int32) (x3 : Int32) (x4 : Int32) (σ : GX) : V g (LX ad) 8 RX4 cX4_blow 7 (some .int) (wX g ad) iI z (b_X4_blow_117 x2 x3 x4 σ) σ 117 [(2, .int x2), (3, .int x3), (4, .int x4)] [] := by
  unfold b_X4_blow_117
  refine v_iload_n (pc := 117) (i := 2) dX4_blow_117 rfl rfl ?_
  refine v_if_ne (pc := 118) (tgt := 126) dX4_blow_118 rfl ?_ ?_
  · refine v_iload_n (pc := 126) (i := 3) dX4_blow_126 rfl rfl ?_
    exact v_iret (pc := 127) dX4_blow_127
  · refine v_iload (pc := 121) (i := 4) dX4_blow_121 rfl ?_
    refine v_goto (pc := 123) (tgt := 127) dX4_blow_123 rfl ?_
    exact v_iret (pc := 127) dX4_blow_127
def b_X4_blow_41 (kc41 : Int32 → Int32 → Int32 → Int32 → Int32 → GX → Option (Int32 × GX)) (x1 : Int32) (x2 : Int32) (x3 : Int32) (x4 : Int32) (x5 : Int32) (σ : GX) : Option (Int32 × GX) :=
  if (36 : Int32) ≤ x5 then (b_X4_blow_117 x2 x3 x4 σ) else (if x3 ≤ 0 then (b_X4_blow_117 x2 x3 x4 σ) else (bnd (f_X2_hasRock 0 x5 σ) fun q5 => if q5.1 = 0 then (kc41 x1 x2 x3 x4 (x5 + (1 : Int32)) q5.2) else (bnd (f_X4_think q5.2) fun q6 => bnd (some (sR q6.2 1 ((xR q6.2 1) &&& ((slL (1 : Int64) x5) ^^^ (-1 : Int64))))) fun σ7 => bnd (f_X2_lossesIn 1 x1 σ7) fun q8 => if x3 ≤ q8.1 then (kc41 x1 x2 x3 x4 (x5 + (1 : Int32)) q8.2) else (kc41 x1 x2 q8.1 x5 (x5 + (1 : Int32)) q8.2))))
theorem vb_X4_blow_41 {g : Gt} {ad : Nat → Nat} (z : Zt) (kc41 : Int32 → Int32 → Int32 → Int32 → Int32 → GX → Option (Int32 × GX)) (hkc41 : ∀ (x1 : Int32) (x2 : Int32) (x3 : Int32) (x4 : Int32) (x5 : Int32) (σ : GX), V g (LX ad) 8 RX4 cX4_blow 7 (some .int) (wX g ad) iI z (kc41 x1 x2 x3 x4 x5 σ) σ 41 [(0, .ref (aMain ad)), (1, .int x1), (2, .int x2), (3, .int x3), (4, .int x4), (5, .int x5)] []) (x1 : Int32) (x2 : Int32) (x3 : Int32) (x4 : Int32) (x5 : Int32) (σ : GX) : V g (LX ad) 8 RX4 cX4_blow 7 (some .int) (wX g ad) iI z (b_X4_blow_41 kc41 x1 x2 x3 x4 x5 σ) σ 41 [(0, .ref (aMain ad)), (1, .int x1), (2, .int x2), (3, .int x3), (4, .int x4), (5, .int x5)] [] := by
  unfold b_X4_blow_41
  refine v_iload (pc := 41) (i := 5) dX4_blow_41 rfl ?_
  refine v_bipush (pc := 43) dX4_blow_43 bp_36 ?_
  refine v_icmp_ge (pc := 45) (tgt := 117) dX4_blow_45 rfl ?_ ?_
  · exact v_sub [2, 3, 4] rfl (vb_X4_blow_117 z x2 x3 x4 σ)
  · refine v_iload_n (pc := 48) (i := 3) dX4_blow_48 rfl rfl ?_
    refine v_if_le (pc := 49) (tgt := 117) dX4_blow_49 rfl ?_ ?_
    · exact v_sub [2, 3, 4] rfl (vb_X4_blow_117 z x2 x3 x4 σ)
    · refine v_aload_n (pc := 52) (i := 0) dX4_blow_52 rfl rfl ?_
      refine gX4_now (pc := 53) q_326 dX4_blow_53 ?_
      refine v_iload (pc := 56) (i := 5) dX4_blow_56 rfl ?_
      refine v_callVi (pc := 58) (rcX2 (by decide)) (As := [.int x5]) (rest := []) (ct_X2_hasRock (by decide) x5) mi_X2_hasRock q_387 (by decide) rfl rfl (Nat.le_of_ble_eq_true rfl) dX4_blow_58 (fun q5 => ?_)
      refine v_if_eq (pc := 61) (tgt := 111) dX4_blow_61 rfl ?_ ?_
      · refine v_iinc (pc := 111) (lv' := [(5, .int (x5 + (1 : Int32))), (0, .ref (aMain ad)), (1, .int x1), (2, .int x2), (3, .int x3), (4, .int x4)]) (i := 5) dX4_blow_111 rfl ic_1 (by decide) rfl ?_
        refine v_goto (pc := 114) (tgt := 41) dX4_blow_114 rfl ?_
        exact v_sub [1, 2, 3, 4, 5, 0] rfl (hkc41 x1 x2 x3 x4 (x5 + (1 : Int32)) q5.2)
      · refine v_aload_n (pc := 64) (i := 0) dX4_blow_64 rfl rfl ?_
        refine v_callVv (pc := 65) rcX4 (As := []) (rest := []) (ct_X4_think) mi_X4_think q_517 (by decide) rfl rfl (Nat.le_of_ble_eq_true rfl) dX4_blow_65 (fun q6 => ?_)
        refine v_aload_n (pc := 68) (i := 0) dX4_blow_68 rfl rfl ?_
        refine gX4_thought (pc := 69) q_327 dX4_blow_69 ?_
        refine v_dup (pc := 72) dX4_blow_72 rfl ?_
        refine gX2_rocks (pc := 73) (y := 1) (by decide) q_160 dX4_blow_73 ?_
        refine v_lconst (pc := 76) dX4_blow_76 lc_1 ?_
        refine v_iload (pc := 77) (i := 5) dX4_blow_77 rfl ?_
        refine v_lshl (pc := 79) dX4_blow_79 ?_
        refine v_ldc2 (pc := 80) dX4_blow_80 q_391 ?_
        refine v_lxor (pc := 83) dX4_blow_83 ?_
        refine v_land (pc := 84) dX4_blow_84 ?_
        refine pX2_rocks (pc := 85) (y := 1) (by decide) q_160 dX4_blow_85 ?_
        refine v_nms (fun σ7 => ?_)
        refine v_aload_n (pc := 88) (i := 0) dX4_blow_88 rfl rfl ?_
        refine gX4_thought (pc := 89) q_327 dX4_blow_89 ?_
        refine v_iload_n (pc := 92) (i := 1) dX4_blow_92 rfl rfl ?_
        refine v_callVi (pc := 93) (rcX2 (by decide)) (As := [.int x1]) (rest := []) (ct_X2_lossesIn (by decide) x1) mi_X2_lossesIn q_528 (by decide) rfl rfl (Nat.le_of_ble_eq_true rfl) dX4_blow_93 (fun q8 => ?_)
        refine v_istore (pc := 96) (lv' := [(6, .int q8.1), (0, .ref (aMain ad)), (1, .int x1), (2, .int x2), (3, .int x3), (4, .int x4), (5, .int x5)]) (i := 6) dX4_blow_96 (by decide) rfl ?_
        refine v_iload (pc := 98) (i := 6) dX4_blow_98 rfl ?_
        refine v_iload_n (pc := 100) (i := 3) dX4_blow_100 rfl rfl ?_
        refine v_icmp_ge (pc := 101) (tgt := 111) dX4_blow_101 rfl ?_ ?_
        · refine v_iinc (pc := 111) (lv' := [(5, .int (x5 + (1 : Int32))), (6, .int q8.1), (0, .ref (aMain ad)), (1, .int x1), (2, .int x2), (3, .int x3), (4, .int x4)]) (i := 5) dX4_blow_111 rfl ic_1 (by decide) rfl ?_
          refine v_goto (pc := 114) (tgt := 41) dX4_blow_114 rfl ?_
          exact v_sub [2, 3, 4, 5, 6, 0] rfl (hkc41 x1 x2 x3 x4 (x5 + (1 : Int32)) q8.2)
        · refine v_iload (pc := 104) (i := 6) dX4_blow_104 rfl ?_
          refine v_istore_n (pc := 106) (lv' := [(3, .int q8.1), (6, .int q8.1), (0, .ref (aMain ad)), (1, .int x1), (2, .int x2), (4, .int x4), (5, .int x5)]) (i := 3) dX4_blow_106 rfl (by decide) rfl ?_
          refine v_iload (pc := 107) (i := 5) dX4_blow_107 rfl ?_
          refine v_istore (pc := 109) (lv' := [(4, .int x5), (3, .int q8.1), (6, .int q8.1), (0, .ref (aMain ad)), (1, .int x1), (2, .int x2), (5, .int x5)]) (i := 4) dX4_blow_109 (by decide) rfl ?_
          refine v_iinc (pc := 111) (lv' := [(5, .int (x5 + (1 : Int32))), (4, .int x5), (3, .int q8.1), (6, .int q8.1), (0, .ref (aMain ad)), (1, .int x1), (2, .int x2)]) (i := 5) dX4_blow_111 rfl ic_1 (by decide) rfl ?_
          refine v_goto (pc := 114) (tgt := 41) dX4_blow_114 rfl ?_
          exact v_sub [4, 5, 6, 2, 1, 0] rfl (hkc41 x1 x2 q8.1 x5 (x5 + (1 : Int32)) q8.2)
def k_X4_blow_41 : Nat → Int32 → Int32 → Int32 → Int32 → Int32 → GX → Option (Int32 × GX)
  | 0 => fun _ _ _ _ _ _ => none
  | n + 1 => b_X4_blow_41 (k_X4_blow_41 n)
theorem vk_X4_blow_41 {g : Gt} {ad : Nat → Nat} (z : Zt) : ∀ (n : Nat) (x1 : Int32) (x2 : Int32) (x3 : Int32) (x4 : Int32) (x5 : Int32) (σ : GX), V g (LX ad) 8 RX4 cX4_blow 7 (some .int) (wX g ad) iI z (k_X4_blow_41 n x1 x2 x3 x4 x5 σ) σ 41 [(0, .ref (aMain ad)), (1, .int x1), (2, .int x2), (3, .int x3), (4, .int x4), (5, .int x5)] [] := by
  intro n
  induction n with
  | zero => intros; exact v_eq rfl v_none
  | succ n ih =>
    intro x1 x2 x3 x4 x5 σ
    exact v_eq rfl (vb_X4_blow_41 z _ ih x1 x2 x3 x4 x5 σ)
def f_X4_blow (x1 : Int32) (x2 : Int32) (σ : GX) : Option (Int32 × GX) :=
  bnd (f_X4_within x1 (0 : Int32) (20 : Int32) σ) fun q1 => if q1.1 = 0 then (some ((-2 : Int32), q1.2)) else (bnd (f_X4_within x2 (0 : Int32) (1 : Int32) q1.2) fun q2 => if q2.1 ≠ 0 then (bnd (f_X4_think q2.2) fun q3 => bnd (f_X2_lossesIn 1 x1 q3.2) fun q4 => k_X4_blow_41 FU x1 x2 q4.1 (-1 : Int32) (0 : Int32) q4.2) else (some ((-2 : Int32), q2.2)))
theorem vf_X4_blow {g : Gt} {ad : Nat → Nat} (z : Zt) (x1 : Int32) (x2 : Int32) (σ : GX) : V g (LX ad) 8 RX4 cX4_blow 7 (some .int) (wX g ad) iI z (f_X4_blow x1 x2 σ) σ 0 [(0, .ref (aMain ad)), (1, .int x1), (2, .int x2)] [] := by
  unfold f_X4_blow
  refine v_iload_n (pc := 0) (i := 1) dX4_blow_0 rfl rfl ?_
  refine v_iconst (pc := 1) dX4_blow_1 ic_0 ?_
  refine v_bipush (pc := 2) dX4_blow_2 bp_20 ?_
  refine v_callSi (pc := 4) (av := [.int x1, .int (0 : Int32), .int (20 : Int32)]) (rest := []) (ct_X4_within x1 (0 : Int32) (20 : Int32)) mi_X4_within q_384 (by decide) rfl rfl (Nat.le_of_ble_eq_true rfl) dX4_blow_4 (fun q1 => ?_)
  refine v_if_eq (pc := 7) (tgt := 19) dX4_blow_7 rfl ?_ ?_
  · refine v_bipush (pc := 19) dX4_blow_19 bp_m2 ?_
    exact v_iret (pc := 21) dX4_blow_21
  · refine v_iload_n (pc := 10) (i := 2) dX4_blow_10 rfl rfl ?_
    refine v_iconst (pc := 11) dX4_blow_11 ic_0 ?_
    refine v_iconst (pc := 12) dX4_blow_12 ic_1 ?_
    refine v_callSi (pc := 13) (av := [.int x2, .int (0 : Int32), .int (1 : Int32)]) (rest := []) (ct_X4_within x2 (0 : Int32) (1 : Int32)) mi_X4_within q_384 (by decide) rfl rfl (Nat.le_of_ble_eq_true rfl) dX4_blow_13 (fun q2 => ?_)
    refine v_if_ne (pc := 16) (tgt := 22) dX4_blow_16 rfl ?_ ?_
    · refine v_aload_n (pc := 22) (i := 0) dX4_blow_22 rfl rfl ?_
      refine v_callVv (pc := 23) rcX4 (As := []) (rest := []) (ct_X4_think) mi_X4_think q_517 (by decide) rfl rfl (Nat.le_of_ble_eq_true rfl) dX4_blow_23 (fun q3 => ?_)
      refine v_aload_n (pc := 26) (i := 0) dX4_blow_26 rfl rfl ?_
      refine gX4_thought (pc := 27) q_327 dX4_blow_27 ?_
      refine v_iload_n (pc := 30) (i := 1) dX4_blow_30 rfl rfl ?_
      refine v_callVi (pc := 31) (rcX2 (by decide)) (As := [.int x1]) (rest := []) (ct_X2_lossesIn (by decide) x1) mi_X2_lossesIn q_528 (by decide) rfl rfl (Nat.le_of_ble_eq_true rfl) dX4_blow_31 (fun q4 => ?_)
      refine v_istore_n (pc := 34) (lv' := [(3, .int q4.1), (0, .ref (aMain ad)), (1, .int x1), (2, .int x2)]) (i := 3) dX4_blow_34 rfl (by decide) rfl ?_
      refine v_iconst (pc := 35) dX4_blow_35 ic_m1 ?_
      refine v_istore (pc := 36) (lv' := [(4, .int (-1 : Int32)), (3, .int q4.1), (0, .ref (aMain ad)), (1, .int x1), (2, .int x2)]) (i := 4) dX4_blow_36 (by decide) rfl ?_
      refine v_iconst (pc := 38) dX4_blow_38 ic_0 ?_
      refine v_istore (pc := 39) (lv' := [(5, .int (0 : Int32)), (4, .int (-1 : Int32)), (3, .int q4.1), (0, .ref (aMain ad)), (1, .int x1), (2, .int x2)]) (i := 5) dX4_blow_39 (by decide) rfl ?_
      exact v_sub [3, 4, 5, 2, 1, 0] rfl (vk_X4_blow_41 z FU x1 x2 q4.1 (-1 : Int32) (0 : Int32) q4.2)
    · refine v_bipush (pc := 19) dX4_blow_19 bp_m2 ?_
      exact v_iret (pc := 21) dX4_blow_21
theorem ct_X4_blow {g : Gt} {ad : Nat → Nat} (x1 : Int32) (x2 : Int32) : CT g (LX ad) yX4_blow cX4_blow 7 (some .int) 8 [.ref (aMain ad), .int x1, .int x2] iI (wX g ad) (f_X4_blow x1 x2) :=
  ct_of_V (own := RX4) (lv0 := [(0, .ref (aMain ad)), (1, .int x1), (2, .int x2)]) (by decide +kernel) rfl (Nat.le_of_ble_eq_true rfl) rfl (fun z σ => vf_X4_blow z x1 x2 σ)
-- LighthouseLiedTo.safe
theorem dX4_safe_0 : decode cX4_safe 0 = .ok (.aload_n 0, 1) := by decide +kernel
theorem dX4_safe_1 : decode cX4_safe 1 = .ok (.iload_n 1, 1) := by decide +kernel
theorem dX4_safe_2 : decode cX4_safe 2 = .ok (.invokevirtual 125, 3) := by decide +kernel
theorem dX4_safe_5 : decode cX4_safe 5 = .ok (.ifCond .eq 24, 3) := by decide +kernel
theorem dX4_safe_8 : decode cX4_safe 8 = .ok (.iload_n 2, 1) := by decide +kernel
theorem dX4_safe_9 : decode cX4_safe 9 = .ok (.iconst 0, 1) := by decide +kernel
theorem dX4_safe_10 : decode cX4_safe 10 = .ok (.bipush 20, 2) := by decide +kernel
theorem dX4_safe_12 : decode cX4_safe 12 = .ok (.invokestatic 106, 3) := by decide +kernel
theorem dX4_safe_15 : decode cX4_safe 15 = .ok (.ifCond .eq 14, 3) := by decide +kernel
theorem dX4_safe_18 : decode cX4_safe 18 = .ok (.aload_n 0, 1) := by decide +kernel
theorem dX4_safe_19 : decode cX4_safe 19 = .ok (.getfield 39, 3) := by decide +kernel
theorem dX4_safe_22 : decode cX4_safe 22 = .ok (.iload_n 1, 1) := by decide +kernel
theorem dX4_safe_23 : decode cX4_safe 23 = .ok (.invokevirtual 148, 3) := by decide +kernel
theorem dX4_safe_26 : decode cX4_safe 26 = .ok (.ifCond .eq 7, 3) := by decide +kernel
theorem dX4_safe_29 : decode cX4_safe 29 = .ok (.ldc2_w 176, 3) := by decide +kernel
theorem dX4_safe_32 : decode cX4_safe 32 = .ok (.lreturn, 1) := by decide +kernel
theorem dX4_safe_33 : decode cX4_safe 33 = .ok (.lconst 0, 1) := by decide +kernel
theorem dX4_safe_34 : decode cX4_safe 34 = .ok (.lstore_n 3, 1) := by decide +kernel
theorem dX4_safe_35 : decode cX4_safe 35 = .ok (.iconst 0, 1) := by decide +kernel
theorem dX4_safe_36 : decode cX4_safe 36 = .ok (.istore 5, 2) := by decide +kernel
theorem dX4_safe_38 : decode cX4_safe 38 = .ok (.iload 5, 2) := by decide +kernel
theorem dX4_safe_40 : decode cX4_safe 40 = .ok (.bipush 36, 2) := by decide +kernel
theorem dX4_safe_42 : decode cX4_safe 42 = .ok (.if_icmp .ge 51, 3) := by decide +kernel
theorem dX4_safe_45 : decode cX4_safe 45 = .ok (.aload_n 0, 1) := by decide +kernel
theorem dX4_safe_46 : decode cX4_safe 46 = .ok (.invokevirtual 167, 3) := by decide +kernel
theorem dX4_safe_49 : decode cX4_safe 49 = .ok (.aload_n 0, 1) := by decide +kernel
theorem dX4_safe_50 : decode cX4_safe 50 = .ok (.getfield 43, 3) := by decide +kernel
theorem dX4_safe_53 : decode cX4_safe 53 = .ok (.getfield 139, 3) := by decide +kernel
theorem dX4_safe_56 : decode cX4_safe 56 = .ok (.iload_n 1, 1) := by decide +kernel
theorem dX4_safe_57 : decode cX4_safe 57 = .ok (.iload 5, 2) := by decide +kernel
theorem dX4_safe_59 : decode cX4_safe 59 = .ok (.iastore, 1) := by decide +kernel
theorem dX4_safe_60 : decode cX4_safe 60 = .ok (.aload_n 0, 1) := by decide +kernel
theorem dX4_safe_61 : decode cX4_safe 61 = .ok (.getfield 43, 3) := by decide +kernel
theorem dX4_safe_64 : decode cX4_safe 64 = .ok (.iload_n 2, 1) := by decide +kernel
theorem dX4_safe_65 : decode cX4_safe 65 = .ok (.invokevirtual 170, 3) := by decide +kernel
theorem dX4_safe_68 : decode cX4_safe 68 = .ok (.pop, 1) := by decide +kernel
theorem dX4_safe_69 : decode cX4_safe 69 = .ok (.aload_n 0, 1) := by decide +kernel
theorem dX4_safe_70 : decode cX4_safe 70 = .ok (.getfield 43, 3) := by decide +kernel
theorem dX4_safe_73 : decode cX4_safe 73 = .ok (.iload_n 1, 1) := by decide +kernel
theorem dX4_safe_74 : decode cX4_safe 74 = .ok (.invokevirtual 148, 3) := by decide +kernel
theorem dX4_safe_77 : decode cX4_safe 77 = .ok (.ifCond .ne 10, 3) := by decide +kernel
theorem dX4_safe_80 : decode cX4_safe 80 = .ok (.lload_n 3, 1) := by decide +kernel
theorem dX4_safe_81 : decode cX4_safe 81 = .ok (.lconst 1, 1) := by decide +kernel
theorem dX4_safe_82 : decode cX4_safe 82 = .ok (.iload 5, 2) := by decide +kernel
theorem dX4_safe_84 : decode cX4_safe 84 = .ok (.lshl, 1) := by decide +kernel
theorem dX4_safe_85 : decode cX4_safe 85 = .ok (.lor, 1) := by decide +kernel
theorem dX4_safe_86 : decode cX4_safe 86 = .ok (.lstore_n 3, 1) := by decide +kernel
theorem dX4_safe_87 : decode cX4_safe 87 = .ok (.iinc 5 1, 3) := by decide +kernel
theorem dX4_safe_90 : decode cX4_safe 90 = .ok (.goto (-52), 3) := by decide +kernel
theorem dX4_safe_93 : decode cX4_safe 93 = .ok (.lload_n 3, 1) := by decide +kernel
theorem dX4_safe_94 : decode cX4_safe 94 = .ok (.lreturn, 1) := by decide +kernel
def b_X4_safe_38 (kc38 : Int32 → Int32 → Int64 → Int32 → GX → Option (Int64 × GX)) (x1 : Int32) (x2 : Int32) (x3 : Int64) (x5 : Int32) (σ : GX) : Option (Int64 × GX) :=
  if (36 : Int32) ≤ x5 then (some (x3, σ)) else (bnd (f_X4_think σ) fun q4 => grd x1 6 (bnd (some (sB q4.2 1 3 x1.toNatClampNeg x5)) fun σ5 => bnd (f_X2_lossesIn 1 x2 σ5) fun q6 => bnd (f_X2_isLost 1 x1 q6.2) fun q7 => if q7.1 ≠ 0 then (kc38 x1 x2 x3 (x5 + (1 : Int32)) q7.2) else (bnd (some (x3 ||| (slL (1 : Int64) x5))) fun w8 => kc38 x1 x2 w8 (x5 + (1 : Int32)) q7.2)))
theorem vb_X4_safe_38 {g : Gt} {ad : Nat → Nat} (z : Zt) (kc38 : Int32 → Int32 → Int64 → Int32 → GX → Option (Int64 × GX)) (hkc38 : ∀ (x1 : Int32) (x2 : Int32) (x3 : Int64) (x5 : Int32) (σ : GX), V g (LX ad) 8 RX4 cX4_safe 6 (some .long) (wX g ad) iL z (kc38 x1 x2 x3 x5 σ) σ 38 [(0, .ref (aMain ad)), (1, .int x1), (2, .int x2), (3, .long x3), (5, .int x5)] []) (x1 : Int32) (x2 : Int32) (x3 : Int64) (x5 : Int32) (σ : GX) : V g (LX ad) 8 RX4 cX4_safe 6 (some .long) (wX g ad) iL z (b_X4_safe_38 kc38 x1 x2 x3 x5 σ) σ 38 [(0, .ref (aMain ad)), (1, .int x1), (2, .int x2), (3, .long x3), (5, .int x5)] [] := by
  unfold b_X4_safe_38
  refine v_iload (pc := 38) (i := 5) dX4_safe_38 rfl ?_
  refine v_bipush (pc := 40) dX4_safe_40 bp_36 ?_
  refine v_icmp_ge (pc := 42) (tgt := 93) dX4_safe_42 rfl ?_ ?_
  · refine v_lload_n (pc := 93) (i := 3) dX4_safe_93 rfl rfl ?_
    exact v_lret (pc := 94) dX4_safe_94
  · refine v_aload_n (pc := 45) (i := 0) dX4_safe_45 rfl rfl ?_
    refine v_callVv (pc := 46) rcX4 (As := []) (rest := []) (ct_X4_think) mi_X4_think q_517 (by decide) rfl rfl (Nat.le_of_ble_eq_true rfl) dX4_safe_46 (fun q4 => ?_)
    refine v_aload_n (pc := 49) (i := 0) dX4_safe_49 rfl rfl ?_
    refine gX4_thought (pc := 50) q_327 dX4_safe_50 ?_
    refine gX2_cell (pc := 53) (y := 1) (by decide) q_156 dX4_safe_53 ?_
    refine v_iload_n (pc := 56) (i := 1) dX4_safe_56 rfl rfl ?_
    refine v_iload (pc := 57) (i := 5) dX4_safe_57 rfl ?_
    refine sX_sea3 (pc := 59) (y := 1) (by decide) dX4_safe_59 ?_
    refine v_nms (fun σ5 => ?_)
    refine v_aload_n (pc := 60) (i := 0) dX4_safe_60 rfl rfl ?_
    refine gX4_thought (pc := 61) q_327 dX4_safe_61 ?_
    refine v_iload_n (pc := 64) (i := 2) dX4_safe_64 rfl rfl ?_
    refine v_callVi (pc := 65) (rcX2 (by decide)) (As := [.int x2]) (rest := []) (ct_X2_lossesIn (by decide) x2) mi_X2_lossesIn q_528 (by decide) rfl rfl (Nat.le_of_ble_eq_true rfl) dX4_safe_65 (fun q6 => ?_)
    refine v_pop (pc := 68) dX4_safe_68 rfl ?_
    refine v_aload_n (pc := 69) (i := 0) dX4_safe_69 rfl rfl ?_
    refine gX4_thought (pc := 70) q_327 dX4_safe_70 ?_
    refine v_iload_n (pc := 73) (i := 1) dX4_safe_73 rfl rfl ?_
    refine v_callVi (pc := 74) (rcX2 (by decide)) (As := [.int x1]) (rest := []) (ct_X2_isLost (by decide) x1) mi_X2_isLost q_467 (by decide) rfl rfl (Nat.le_of_ble_eq_true rfl) dX4_safe_74 (fun q7 => ?_)
    refine v_if_ne (pc := 77) (tgt := 87) dX4_safe_77 rfl ?_ ?_
    · refine v_iinc (pc := 87) (lv' := [(5, .int (x5 + (1 : Int32))), (0, .ref (aMain ad)), (1, .int x1), (2, .int x2), (3, .long x3)]) (i := 5) dX4_safe_87 rfl ic_1 (by decide) rfl ?_
      refine v_goto (pc := 90) (tgt := 38) dX4_safe_90 rfl ?_
      exact v_sub [1, 2, 3, 4, 0] rfl (hkc38 x1 x2 x3 (x5 + (1 : Int32)) q7.2)
    · refine v_lload_n (pc := 80) (i := 3) dX4_safe_80 rfl rfl ?_
      refine v_lconst (pc := 81) dX4_safe_81 lc_1 ?_
      refine v_iload (pc := 82) (i := 5) dX4_safe_82 rfl ?_
      refine v_lshl (pc := 84) dX4_safe_84 ?_
      refine v_lor (pc := 85) dX4_safe_85 ?_
      refine v_nml (fun w8 => ?_)
      refine v_lstore_n (pc := 86) (lv' := [(3, .long w8), (0, .ref (aMain ad)), (1, .int x1), (2, .int x2), (5, .int x5)]) (i := 3) dX4_safe_86 rfl (by decide) rfl ?_
      refine v_iinc (pc := 87) (lv' := [(5, .int (x5 + (1 : Int32))), (3, .long w8), (0, .ref (aMain ad)), (1, .int x1), (2, .int x2)]) (i := 5) dX4_safe_87 rfl ic_1 (by decide) rfl ?_
      refine v_goto (pc := 90) (tgt := 38) dX4_safe_90 rfl ?_
      exact v_sub [2, 3, 4, 1, 0] rfl (hkc38 x1 x2 w8 (x5 + (1 : Int32)) q7.2)
def k_X4_safe_38 : Nat → Int32 → Int32 → Int64 → Int32 → GX → Option (Int64 × GX)
  | 0 => fun _ _ _ _ _ => none
  | n + 1 => b_X4_safe_38 (k_X4_safe_38 n)
theorem vk_X4_safe_38 {g : Gt} {ad : Nat → Nat} (z : Zt) : ∀ (n : Nat) (x1 : Int32) (x2 : Int32) (x3 : Int64) (x5 : Int32) (σ : GX), V g (LX ad) 8 RX4 cX4_safe 6 (some .long) (wX g ad) iL z (k_X4_safe_38 n x1 x2 x3 x5 σ) σ 38 [(0, .ref (aMain ad)), (1, .int x1), (2, .int x2), (3, .long x3), (5, .int x5)] [] := by
  intro n
  induction n with
  | zero => intros; exact v_eq rfl v_none
  | succ n ih =>
    intro x1 x2 x3 x5 σ
    exact v_eq rfl (vb_X4_safe_38 z _ ih x1 x2 x3 x5 σ)
def f_X4_safe (x1 : Int32) (x2 : Int32) (σ : GX) : Option (Int64 × GX) :=
  bnd (f_X4_isShip x1 σ) fun q1 => if q1.1 = 0 then (some ((-4611686018427387904 : Int64), q1.2)) else (bnd (f_X4_within x2 (0 : Int32) (20 : Int32) q1.2) fun q2 => if q2.1 = 0 then (some ((-4611686018427387904 : Int64), q2.2)) else (bnd (f_X2_isLost 0 x1 q2.2) fun q3 => if q3.1 = 0 then (k_X4_safe_38 FU x1 x2 (0 : Int64) (0 : Int32) q3.2) else (some ((-4611686018427387904 : Int64), q3.2))))
theorem vf_X4_safe {g : Gt} {ad : Nat → Nat} (z : Zt) (x1 : Int32) (x2 : Int32) (σ : GX) : V g (LX ad) 8 RX4 cX4_safe 6 (some .long) (wX g ad) iL z (f_X4_safe x1 x2 σ) σ 0 [(0, .ref (aMain ad)), (1, .int x1), (2, .int x2)] [] := by
  unfold f_X4_safe
  refine v_aload_n (pc := 0) (i := 0) dX4_safe_0 rfl rfl ?_
  refine v_iload_n (pc := 1) (i := 1) dX4_safe_1 rfl rfl ?_
  refine v_callVi (pc := 2) rcX4 (As := [.int x1]) (rest := []) (ct_X4_isShip x1) mi_X4_isShip q_433 (by decide) rfl rfl (Nat.le_of_ble_eq_true rfl) dX4_safe_2 (fun q1 => ?_)
  refine v_if_eq (pc := 5) (tgt := 29) dX4_safe_5 rfl ?_ ?_
  · refine v_ldc2 (pc := 29) dX4_safe_29 q_546 ?_
    exact v_lret (pc := 32) dX4_safe_32
  · refine v_iload_n (pc := 8) (i := 2) dX4_safe_8 rfl rfl ?_
    refine v_iconst (pc := 9) dX4_safe_9 ic_0 ?_
    refine v_bipush (pc := 10) dX4_safe_10 bp_20 ?_
    refine v_callSi (pc := 12) (av := [.int x2, .int (0 : Int32), .int (20 : Int32)]) (rest := []) (ct_X4_within x2 (0 : Int32) (20 : Int32)) mi_X4_within q_384 (by decide) rfl rfl (Nat.le_of_ble_eq_true rfl) dX4_safe_12 (fun q2 => ?_)
    refine v_if_eq (pc := 15) (tgt := 29) dX4_safe_15 rfl ?_ ?_
    · refine v_ldc2 (pc := 29) dX4_safe_29 q_546 ?_
      exact v_lret (pc := 32) dX4_safe_32
    · refine v_aload_n (pc := 18) (i := 0) dX4_safe_18 rfl rfl ?_
      refine gX4_now (pc := 19) q_326 dX4_safe_19 ?_
      refine v_iload_n (pc := 22) (i := 1) dX4_safe_22 rfl rfl ?_
      refine v_callVi (pc := 23) (rcX2 (by decide)) (As := [.int x1]) (rest := []) (ct_X2_isLost (by decide) x1) mi_X2_isLost q_467 (by decide) rfl rfl (Nat.le_of_ble_eq_true rfl) dX4_safe_23 (fun q3 => ?_)
      refine v_if_eq (pc := 26) (tgt := 33) dX4_safe_26 rfl ?_ ?_
      · refine v_lconst (pc := 33) dX4_safe_33 lc_0 ?_
        refine v_lstore_n (pc := 34) (lv' := [(3, .long (0 : Int64)), (0, .ref (aMain ad)), (1, .int x1), (2, .int x2)]) (i := 3) dX4_safe_34 rfl (by decide) rfl ?_
        refine v_iconst (pc := 35) dX4_safe_35 ic_0 ?_
        refine v_istore (pc := 36) (lv' := [(5, .int (0 : Int32)), (3, .long (0 : Int64)), (0, .ref (aMain ad)), (1, .int x1), (2, .int x2)]) (i := 5) dX4_safe_36 (by decide) rfl ?_
        exact v_sub [2, 3, 4, 1, 0] rfl (vk_X4_safe_38 z FU x1 x2 (0 : Int64) (0 : Int32) q3.2)
      · refine v_ldc2 (pc := 29) dX4_safe_29 q_546 ?_
        exact v_lret (pc := 32) dX4_safe_32
theorem ct_X4_safe {g : Gt} {ad : Nat → Nat} (x1 : Int32) (x2 : Int32) : CT g (LX ad) yX4_safe cX4_safe 6 (some .long) 8 [.ref (aMain ad), .int x1, .int x2] iL (wX g ad) (f_X4_safe x1 x2) :=
  ct_of_V (own := RX4) (lv0 := [(0, .ref (aMain ad)), (1, .int x1), (2, .int x2)]) (by decide +kernel) rfl (Nat.le_of_ble_eq_true rfl) rfl (fun z σ => vf_X4_safe z x1 x2 σ)
-- LighthouseLiedTo.trust
theorem dX4_trust_0 : decode cX4_trust 0 = .ok (.iload_n 1, 1) := by decide +kernel
theorem dX4_trust_1 : decode cX4_trust 1 = .ok (.invokestatic 102, 3) := by decide +kernel
theorem dX4_trust_4 : decode cX4_trust 4 = .ok (.ifCond .ne 6, 3) := by decide +kernel
theorem dX4_trust_7 : decode cX4_trust 7 = .ok (.bipush (-5), 2) := by decide +kernel
theorem dX4_trust_9 : decode cX4_trust 9 = .ok (.ireturn, 1) := by decide +kernel
theorem dX4_trust_10 : decode cX4_trust 10 = .ok (.iload_n 2, 1) := by decide +kernel
theorem dX4_trust_11 : decode cX4_trust 11 = .ok (.bipush (-99), 2) := by decide +kernel
theorem dX4_trust_13 : decode cX4_trust 13 = .ok (.bipush 99, 2) := by decide +kernel
theorem dX4_trust_15 : decode cX4_trust 15 = .ok (.invokestatic 106, 3) := by decide +kernel
theorem dX4_trust_18 : decode cX4_trust 18 = .ok (.ifCond .eq 13, 3) := by decide +kernel
theorem dX4_trust_21 : decode cX4_trust 21 = .ok (.iload_n 3, 1) := by decide +kernel
theorem dX4_trust_22 : decode cX4_trust 22 = .ok (.iconst 0, 1) := by decide +kernel
theorem dX4_trust_23 : decode cX4_trust 23 = .ok (.bipush 10, 2) := by decide +kernel
theorem dX4_trust_25 : decode cX4_trust 25 = .ok (.invokestatic 106, 3) := by decide +kernel
theorem dX4_trust_28 : decode cX4_trust 28 = .ok (.ifCond .ne 6, 3) := by decide +kernel
theorem dX4_trust_31 : decode cX4_trust 31 = .ok (.bipush (-7), 2) := by decide +kernel
theorem dX4_trust_33 : decode cX4_trust 33 = .ok (.ireturn, 1) := by decide +kernel
theorem dX4_trust_34 : decode cX4_trust 34 = .ok (.iconst 0, 1) := by decide +kernel
theorem dX4_trust_35 : decode cX4_trust 35 = .ok (.istore 4, 2) := by decide +kernel
theorem dX4_trust_37 : decode cX4_trust 37 = .ok (.iload 4, 2) := by decide +kernel
theorem dX4_trust_39 : decode cX4_trust 39 = .ok (.bipush 90, 2) := by decide +kernel
theorem dX4_trust_41 : decode cX4_trust 41 = .ok (.if_icmp .gt 45, 3) := by decide +kernel
theorem dX4_trust_44 : decode cX4_trust 44 = .ok (.aload_n 0, 1) := by decide +kernel
theorem dX4_trust_45 : decode cX4_trust 45 = .ok (.invokevirtual 167, 3) := by decide +kernel
theorem dX4_trust_48 : decode cX4_trust 48 = .ok (.aload_n 0, 1) := by decide +kernel
theorem dX4_trust_49 : decode cX4_trust 49 = .ok (.getfield 43, 3) := by decide +kernel
theorem dX4_trust_52 : decode cX4_trust 52 = .ok (.iload 4, 2) := by decide +kernel
theorem dX4_trust_54 : decode cX4_trust 54 = .ok (.putfield 84, 3) := by decide +kernel
theorem dX4_trust_57 : decode cX4_trust 57 = .ok (.aload_n 0, 1) := by decide +kernel
theorem dX4_trust_58 : decode cX4_trust 58 = .ok (.getfield 43, 3) := by decide +kernel
theorem dX4_trust_61 : decode cX4_trust 61 = .ok (.iload_n 1, 1) := by decide +kernel
theorem dX4_trust_62 : decode cX4_trust 62 = .ok (.iload_n 2, 1) := by decide +kernel
theorem dX4_trust_63 : decode cX4_trust 63 = .ok (.invokevirtual 115, 3) := by decide +kernel
theorem dX4_trust_66 : decode cX4_trust 66 = .ok (.aload_n 0, 1) := by decide +kernel
theorem dX4_trust_67 : decode cX4_trust 67 = .ok (.getfield 43, 3) := by decide +kernel
theorem dX4_trust_70 : decode cX4_trust 70 = .ok (.iload_n 3, 1) := by decide +kernel
theorem dX4_trust_71 : decode cX4_trust 71 = .ok (.invokevirtual 170, 3) := by decide +kernel
theorem dX4_trust_74 : decode cX4_trust 74 = .ok (.ifCond .ne 6, 3) := by decide +kernel
theorem dX4_trust_77 : decode cX4_trust 77 = .ok (.iload 4, 2) := by decide +kernel
theorem dX4_trust_79 : decode cX4_trust 79 = .ok (.ireturn, 1) := by decide +kernel
theorem dX4_trust_80 : decode cX4_trust 80 = .ok (.iinc 4 10, 3) := by decide +kernel
theorem dX4_trust_83 : decode cX4_trust 83 = .ok (.goto (-46), 3) := by decide +kernel
theorem dX4_trust_86 : decode cX4_trust 86 = .ok (.iconst (-1), 1) := by decide +kernel
theorem dX4_trust_87 : decode cX4_trust 87 = .ok (.ireturn, 1) := by decide +kernel
def b_X4_trust_37 (kc37 : Int32 → Int32 → Int32 → Int32 → GX → Option (Int32 × GX)) (x1 : Int32) (x2 : Int32) (x3 : Int32) (x4 : Int32) (σ : GX) : Option (Int32 × GX) :=
  if (90 : Int32) < x4 then (some ((-1 : Int32), σ)) else (bnd (f_X4_think σ) fun q4 => bnd (some (sS q4.2 1 2 x4)) fun σ5 => bnd (f_X2_hear 1 x1 x2 σ5) fun q6 => bnd (f_X2_lossesIn 1 x3 q6.2) fun q7 => if q7.1 ≠ 0 then (kc37 x1 x2 x3 (x4 + (10 : Int32)) q7.2) else (some (x4, q7.2)))
theorem vb_X4_trust_37 {g : Gt} {ad : Nat → Nat} (z : Zt) (kc37 : Int32 → Int32 → Int32 → Int32 → GX → Option (Int32 × GX)) (hkc37 : ∀ (x1 : Int32) (x2 : Int32) (x3 : Int32) (x4 : Int32) (σ : GX), V g (LX ad) 8 RX4 cX4_trust 5 (some .int) (wX g ad) iI z (kc37 x1 x2 x3 x4 σ) σ 37 [(0, .ref (aMain ad)), (1, .int x1), (2, .int x2), (3, .int x3), (4, .int x4)] []) (x1 : Int32) (x2 : Int32) (x3 : Int32) (x4 : Int32) (σ : GX) : V g (LX ad) 8 RX4 cX4_trust 5 (some .int) (wX g ad) iI z (b_X4_trust_37 kc37 x1 x2 x3 x4 σ) σ 37 [(0, .ref (aMain ad)), (1, .int x1), (2, .int x2), (3, .int x3), (4, .int x4)] [] := by
  unfold b_X4_trust_37
  refine v_iload (pc := 37) (i := 4) dX4_trust_37 rfl ?_
  refine v_bipush (pc := 39) dX4_trust_39 bp_90 ?_
  refine v_icmp_gt (pc := 41) (tgt := 86) dX4_trust_41 rfl ?_ ?_
  · refine v_iconst (pc := 86) dX4_trust_86 ic_m1 ?_
    exact v_iret (pc := 87) dX4_trust_87
  · refine v_aload_n (pc := 44) (i := 0) dX4_trust_44 rfl rfl ?_
    refine v_callVv (pc := 45) rcX4 (As := []) (rest := []) (ct_X4_think) mi_X4_think q_517 (by decide) rfl rfl (Nat.le_of_ble_eq_true rfl) dX4_trust_45 (fun q4 => ?_)
    refine v_aload_n (pc := 48) (i := 0) dX4_trust_48 rfl rfl ?_
    refine gX4_thought (pc := 49) q_327 dX4_trust_49 ?_
    refine v_iload (pc := 52) (i := 4) dX4_trust_52 rfl ?_
    refine pX2_doubt (pc := 54) (y := 1) (by decide) q_165 dX4_trust_54 ?_
    refine v_nms (fun σ5 => ?_)
    refine v_aload_n (pc := 57) (i := 0) dX4_trust_57 rfl rfl ?_
    refine gX4_thought (pc := 58) q_327 dX4_trust_58 ?_
    refine v_iload_n (pc := 61) (i := 1) dX4_trust_61 rfl rfl ?_
    refine v_iload_n (pc := 62) (i := 2) dX4_trust_62 rfl rfl ?_
    refine v_callVv (pc := 63) (rcX2 (by decide)) (As := [.int x1, .int x2]) (rest := []) (ct_X2_hear (by decide) x1 x2) mi_X2_hear q_396 (by decide) rfl rfl (Nat.le_of_ble_eq_true rfl) dX4_trust_63 (fun q6 => ?_)
    refine v_aload_n (pc := 66) (i := 0) dX4_trust_66 rfl rfl ?_
    refine gX4_thought (pc := 67) q_327 dX4_trust_67 ?_
    refine v_iload_n (pc := 70) (i := 3) dX4_trust_70 rfl rfl ?_
    refine v_callVi (pc := 71) (rcX2 (by decide)) (As := [.int x3]) (rest := []) (ct_X2_lossesIn (by decide) x3) mi_X2_lossesIn q_528 (by decide) rfl rfl (Nat.le_of_ble_eq_true rfl) dX4_trust_71 (fun q7 => ?_)
    refine v_if_ne (pc := 74) (tgt := 80) dX4_trust_74 rfl ?_ ?_
    · refine v_iinc (pc := 80) (lv' := [(4, .int (x4 + (10 : Int32))), (0, .ref (aMain ad)), (1, .int x1), (2, .int x2), (3, .int x3)]) (i := 4) dX4_trust_80 rfl ic_10 (by decide) rfl ?_
      refine v_goto (pc := 83) (tgt := 37) dX4_trust_83 rfl ?_
      exact v_sub [1, 2, 3, 4, 0] rfl (hkc37 x1 x2 x3 (x4 + (10 : Int32)) q7.2)
    · refine v_iload (pc := 77) (i := 4) dX4_trust_77 rfl ?_
      exact v_iret (pc := 79) dX4_trust_79
def k_X4_trust_37 : Nat → Int32 → Int32 → Int32 → Int32 → GX → Option (Int32 × GX)
  | 0 => fun _ _ _ _ _ => none
  | n + 1 => b_X4_trust_37 (k_X4_trust_37 n)
theorem vk_X4_trust_37 {g : Gt} {ad : Nat → Nat} (z : Zt) : ∀ (n : Nat) (x1 : Int32) (x2 : Int32) (x3 : Int32) (x4 : Int32) (σ : GX), V g (LX ad) 8 RX4 cX4_trust 5 (some .int) (wX g ad) iI z (k_X4_trust_37 n x1 x2 x3 x4 σ) σ 37 [(0, .ref (aMain ad)), (1, .int x1), (2, .int x2), (3, .int x3), (4, .int x4)] [] := by
  intro n
  induction n with
  | zero => intros; exact v_eq rfl v_none
  | succ n ih =>
    intro x1 x2 x3 x4 σ
    exact v_eq rfl (vb_X4_trust_37 z _ ih x1 x2 x3 x4 σ)
def f_X4_trust (x1 : Int32) (x2 : Int32) (x3 : Int32) (σ : GX) : Option (Int32 × GX) :=
  bnd (f_X4_isCell x1 σ) fun q1 => if q1.1 ≠ 0 then (bnd (f_X4_within x2 (-99 : Int32) (99 : Int32) q1.2) fun q2 => if q2.1 = 0 then (some ((-7 : Int32), q2.2)) else (bnd (f_X4_within x3 (0 : Int32) (10 : Int32) q2.2) fun q3 => if q3.1 ≠ 0 then (k_X4_trust_37 FU x1 x2 x3 (0 : Int32) q3.2) else (some ((-7 : Int32), q3.2)))) else (some ((-5 : Int32), q1.2))
theorem vf_X4_trust {g : Gt} {ad : Nat → Nat} (z : Zt) (x1 : Int32) (x2 : Int32) (x3 : Int32) (σ : GX) : V g (LX ad) 8 RX4 cX4_trust 5 (some .int) (wX g ad) iI z (f_X4_trust x1 x2 x3 σ) σ 0 [(0, .ref (aMain ad)), (1, .int x1), (2, .int x2), (3, .int x3)] [] := by
  unfold f_X4_trust
  refine v_iload_n (pc := 0) (i := 1) dX4_trust_0 rfl rfl ?_
  refine v_callSi (pc := 1) (av := [.int x1]) (rest := []) (ct_X4_isCell x1) mi_X4_isCell q_381 (by decide) rfl rfl (Nat.le_of_ble_eq_true rfl) dX4_trust_1 (fun q1 => ?_)
  refine v_if_ne (pc := 4) (tgt := 10) dX4_trust_4 rfl ?_ ?_
  · refine v_iload_n (pc := 10) (i := 2) dX4_trust_10 rfl rfl ?_
    refine v_bipush (pc := 11) dX4_trust_11 bp_m99 ?_
    refine v_bipush (pc := 13) dX4_trust_13 bp_99 ?_
    refine v_callSi (pc := 15) (av := [.int x2, .int (-99 : Int32), .int (99 : Int32)]) (rest := []) (ct_X4_within x2 (-99 : Int32) (99 : Int32)) mi_X4_within q_384 (by decide) rfl rfl (Nat.le_of_ble_eq_true rfl) dX4_trust_15 (fun q2 => ?_)
    refine v_if_eq (pc := 18) (tgt := 31) dX4_trust_18 rfl ?_ ?_
    · refine v_bipush (pc := 31) dX4_trust_31 bp_m7 ?_
      exact v_iret (pc := 33) dX4_trust_33
    · refine v_iload_n (pc := 21) (i := 3) dX4_trust_21 rfl rfl ?_
      refine v_iconst (pc := 22) dX4_trust_22 ic_0 ?_
      refine v_bipush (pc := 23) dX4_trust_23 bp_10 ?_
      refine v_callSi (pc := 25) (av := [.int x3, .int (0 : Int32), .int (10 : Int32)]) (rest := []) (ct_X4_within x3 (0 : Int32) (10 : Int32)) mi_X4_within q_384 (by decide) rfl rfl (Nat.le_of_ble_eq_true rfl) dX4_trust_25 (fun q3 => ?_)
      refine v_if_ne (pc := 28) (tgt := 34) dX4_trust_28 rfl ?_ ?_
      · refine v_iconst (pc := 34) dX4_trust_34 ic_0 ?_
        refine v_istore (pc := 35) (lv' := [(4, .int (0 : Int32)), (0, .ref (aMain ad)), (1, .int x1), (2, .int x2), (3, .int x3)]) (i := 4) dX4_trust_35 (by decide) rfl ?_
        exact v_sub [1, 2, 3, 4, 0] rfl (vk_X4_trust_37 z FU x1 x2 x3 (0 : Int32) q3.2)
      · refine v_bipush (pc := 31) dX4_trust_31 bp_m7 ?_
        exact v_iret (pc := 33) dX4_trust_33
  · refine v_bipush (pc := 7) dX4_trust_7 bp_m5 ?_
    exact v_iret (pc := 9) dX4_trust_9
theorem ct_X4_trust {g : Gt} {ad : Nat → Nat} (x1 : Int32) (x2 : Int32) (x3 : Int32) : CT g (LX ad) yX4_trust cX4_trust 5 (some .int) 8 [.ref (aMain ad), .int x1, .int x2, .int x3] iI (wX g ad) (f_X4_trust x1 x2 x3) :=
  ct_of_V (own := RX4) (lv0 := [(0, .ref (aMain ad)), (1, .int x1), (2, .int x2), (3, .int x3)]) (by decide +kernel) rfl (Nat.le_of_ble_eq_true rfl) rfl (fun z σ => vf_X4_trust z x1 x2 x3 σ)
-- LighthouseLiedTo.commonDivisor
theorem dX4_commonDivisor_0 : decode cX4_commonDivisor 0 = .ok (.iload_n 0, 1) := by decide +kernel
theorem dX4_commonDivisor_1 : decode cX4_commonDivisor 1 = .ok (.istore_n 2, 1) := by decide +kernel
theorem dX4_commonDivisor_2 : decode cX4_commonDivisor 2 = .ok (.iload_n 1, 1) := by decide +kernel
theorem dX4_commonDivisor_3 : decode cX4_commonDivisor 3 = .ok (.istore_n 3, 1) := by decide +kernel
theorem dX4_commonDivisor_4 : decode cX4_commonDivisor 4 = .ok (.iconst 0, 1) := by decide +kernel
theorem dX4_commonDivisor_5 : decode cX4_commonDivisor 5 = .ok (.istore 4, 2) := by decide +kernel
theorem dX4_commonDivisor_7 : decode cX4_commonDivisor 7 = .ok (.iload 4, 2) := by decide +kernel
theorem dX4_commonDivisor_9 : decode cX4_commonDivisor 9 = .ok (.bipush 100, 2) := by decide +kernel
theorem dX4_commonDivisor_11 : decode cX4_commonDivisor 11 = .ok (.if_icmp .ge 23, 3) := by decide +kernel
theorem dX4_commonDivisor_14 : decode cX4_commonDivisor 14 = .ok (.iload_n 3, 1) := by decide +kernel
theorem dX4_commonDivisor_15 : decode cX4_commonDivisor 15 = .ok (.ifCond .eq 19, 3) := by decide +kernel
theorem dX4_commonDivisor_18 : decode cX4_commonDivisor 18 = .ok (.iload_n 2, 1) := by decide +kernel
theorem dX4_commonDivisor_19 : decode cX4_commonDivisor 19 = .ok (.iload_n 3, 1) := by decide +kernel
theorem dX4_commonDivisor_20 : decode cX4_commonDivisor 20 = .ok (.irem, 1) := by decide +kernel
theorem dX4_commonDivisor_21 : decode cX4_commonDivisor 21 = .ok (.istore 5, 2) := by decide +kernel
theorem dX4_commonDivisor_23 : decode cX4_commonDivisor 23 = .ok (.iload_n 3, 1) := by decide +kernel
theorem dX4_commonDivisor_24 : decode cX4_commonDivisor 24 = .ok (.istore_n 2, 1) := by decide +kernel
theorem dX4_commonDivisor_25 : decode cX4_commonDivisor 25 = .ok (.iload 5, 2) := by decide +kernel
theorem dX4_commonDivisor_27 : decode cX4_commonDivisor 27 = .ok (.istore_n 3, 1) := by decide +kernel
theorem dX4_commonDivisor_28 : decode cX4_commonDivisor 28 = .ok (.iinc 4 1, 3) := by decide +kernel
theorem dX4_commonDivisor_31 : decode cX4_commonDivisor 31 = .ok (.goto (-24), 3) := by decide +kernel
theorem dX4_commonDivisor_34 : decode cX4_commonDivisor 34 = .ok (.iload_n 2, 1) := by decide +kernel
theorem dX4_commonDivisor_35 : decode cX4_commonDivisor 35 = .ok (.ireturn, 1) := by decide +kernel
def b_X4_commonDivisor_7 (kc7 : Int32 → Int32 → Int32 → GX → Option (Int32 × GX)) (x2 : Int32) (x3 : Int32) (x4 : Int32) (σ : GX) : Option (Int32 × GX) :=
  if (100 : Int32) ≤ x4 then (some (x2, σ)) else (if x3 = 0 then (some (x2, σ)) else (if ¬ x3 = 0 then (bnd (some (rI x2 x3)) fun w1 => kc7 x3 w1 (x4 + (1 : Int32)) σ) else none))
theorem vb_X4_commonDivisor_7 {g : Gt} {ad : Nat → Nat} (z : Zt) (kc7 : Int32 → Int32 → Int32 → GX → Option (Int32 × GX)) (hkc7 : ∀ (x2 : Int32) (x3 : Int32) (x4 : Int32) (σ : GX), V g (LX ad) 1 RX4 cX4_commonDivisor 6 (some .int) (wX g ad) iI z (kc7 x2 x3 x4 σ) σ 7 [(2, .int x2), (3, .int x3), (4, .int x4)] []) (x2 : Int32) (x3 : Int32) (x4 : Int32) (σ : GX) : V g (LX ad) 1 RX4 cX4_commonDivisor 6 (some .int) (wX g ad) iI z (b_X4_commonDivisor_7 kc7 x2 x3 x4 σ) σ 7 [(2, .int x2), (3, .int x3), (4, .int x4)] [] := by
  unfold b_X4_commonDivisor_7
  refine v_iload (pc := 7) (i := 4) dX4_commonDivisor_7 rfl ?_
  refine v_bipush (pc := 9) dX4_commonDivisor_9 bp_100 ?_
  refine v_icmp_ge (pc := 11) (tgt := 34) dX4_commonDivisor_11 rfl ?_ ?_
  · refine v_iload_n (pc := 34) (i := 2) dX4_commonDivisor_34 rfl rfl ?_
    exact v_iret (pc := 35) dX4_commonDivisor_35
  · refine v_iload_n (pc := 14) (i := 3) dX4_commonDivisor_14 rfl rfl ?_
    refine v_if_eq (pc := 15) (tgt := 34) dX4_commonDivisor_15 rfl ?_ ?_
    · refine v_iload_n (pc := 34) (i := 2) dX4_commonDivisor_34 rfl rfl ?_
      exact v_iret (pc := 35) dX4_commonDivisor_35
    · refine v_iload_n (pc := 18) (i := 2) dX4_commonDivisor_18 rfl rfl ?_
      refine v_iload_n (pc := 19) (i := 3) dX4_commonDivisor_19 rfl rfl ?_
      refine v_iremG (pc := 20) dX4_commonDivisor_20 ?_
      refine v_nmi (fun w1 => ?_)
      refine v_istore (pc := 21) (lv' := [(5, .int w1), (2, .int x2), (3, .int x3), (4, .int x4)]) (i := 5) dX4_commonDivisor_21 (by decide) rfl ?_
      refine v_iload_n (pc := 23) (i := 3) dX4_commonDivisor_23 rfl rfl ?_
      refine v_istore_n (pc := 24) (lv' := [(2, .int x3), (5, .int w1), (3, .int x3), (4, .int x4)]) (i := 2) dX4_commonDivisor_24 rfl (by decide) rfl ?_
      refine v_iload (pc := 25) (i := 5) dX4_commonDivisor_25 rfl ?_
      refine v_istore_n (pc := 27) (lv' := [(3, .int w1), (2, .int x3), (5, .int w1), (4, .int x4)]) (i := 3) dX4_commonDivisor_27 rfl (by decide) rfl ?_
      refine v_iinc (pc := 28) (lv' := [(4, .int (x4 + (1 : Int32))), (3, .int w1), (2, .int x3), (5, .int w1)]) (i := 4) dX4_commonDivisor_28 rfl ic_1 (by decide) rfl ?_
      refine v_goto (pc := 31) (tgt := 7) dX4_commonDivisor_31 rfl ?_
      exact v_sub [2, 1, 0] rfl (hkc7 x3 w1 (x4 + (1 : Int32)) σ)
def k_X4_commonDivisor_7 : Nat → Int32 → Int32 → Int32 → GX → Option (Int32 × GX)
  | 0 => fun _ _ _ _ => none
  | n + 1 => b_X4_commonDivisor_7 (k_X4_commonDivisor_7 n)
theorem vk_X4_commonDivisor_7 {g : Gt} {ad : Nat → Nat} (z : Zt) : ∀ (n : Nat) (x2 : Int32) (x3 : Int32) (x4 : Int32) (σ : GX), V g (LX ad) 1 RX4 cX4_commonDivisor 6 (some .int) (wX g ad) iI z (k_X4_commonDivisor_7 n x2 x3 x4 σ) σ 7 [(2, .int x2), (3, .int x3), (4, .int x4)] [] := by
  intro n
  induction n with
  | zero => intros; exact v_eq rfl v_none
  | succ n ih =>
    intro x2 x3 x4 σ
    exact v_eq rfl (vb_X4_commonDivisor_7 z _ ih x2 x3 x4 σ)
def f_X4_commonDivisor (x0 : Int32) (x1 : Int32) (σ : GX) : Option (Int32 × GX) :=
  k_X4_commonDivisor_7 FU x0 x1 (0 : Int32) σ
theorem vf_X4_commonDivisor {g : Gt} {ad : Nat → Nat} (z : Zt) (x0 : Int32) (x1 : Int32) (σ : GX) : V g (LX ad) 1 RX4 cX4_commonDivisor 6 (some .int) (wX g ad) iI z (f_X4_commonDivisor x0 x1 σ) σ 0 [(0, .int x0), (1, .int x1)] [] := by
  unfold f_X4_commonDivisor
  refine v_iload_n (pc := 0) (i := 0) dX4_commonDivisor_0 rfl rfl ?_
  refine v_istore_n (pc := 1) (lv' := [(2, .int x0), (0, .int x0), (1, .int x1)]) (i := 2) dX4_commonDivisor_1 rfl (by decide) rfl ?_
  refine v_iload_n (pc := 2) (i := 1) dX4_commonDivisor_2 rfl rfl ?_
  refine v_istore_n (pc := 3) (lv' := [(3, .int x1), (2, .int x0), (0, .int x0), (1, .int x1)]) (i := 3) dX4_commonDivisor_3 rfl (by decide) rfl ?_
  refine v_iconst (pc := 4) dX4_commonDivisor_4 ic_0 ?_
  refine v_istore (pc := 5) (lv' := [(4, .int (0 : Int32)), (3, .int x1), (2, .int x0), (0, .int x0), (1, .int x1)]) (i := 4) dX4_commonDivisor_5 (by decide) rfl ?_
  exact v_sub [2, 1, 0] rfl (vk_X4_commonDivisor_7 z FU x0 x1 (0 : Int32) σ)
theorem ct_X4_commonDivisor {g : Gt} {ad : Nat → Nat} (x0 : Int32) (x1 : Int32) : CT g (LX ad) yX4_commonDivisor cX4_commonDivisor 6 (some .int) 1 [.int x0, .int x1] iI (wX g ad) (f_X4_commonDivisor x0 x1) :=
  ct_of_V (own := RX4) (lv0 := [(0, .int x0), (1, .int x1)]) (by decide +kernel) rfl (Nat.le_of_ble_eq_true rfl) rfl (fun z σ => vf_X4_commonDivisor z x0 x1 σ)
-- LighthouseLiedTo.inLowestTerms
theorem dX4_inLowestTerms_0 : decode cX4_inLowestTerms 0 = .ok (.iload_n 1, 1) := by decide +kernel
theorem dX4_inLowestTerms_1 : decode cX4_inLowestTerms 1 = .ok (.ifCond .le 12, 3) := by decide +kernel
theorem dX4_inLowestTerms_4 : decode cX4_inLowestTerms 4 = .ok (.iload_n 2, 1) := by decide +kernel
theorem dX4_inLowestTerms_5 : decode cX4_inLowestTerms 5 = .ok (.iconst 0, 1) := by decide +kernel
theorem dX4_inLowestTerms_6 : decode cX4_inLowestTerms 6 = .ok (.iconst 1, 1) := by decide +kernel
theorem dX4_inLowestTerms_7 : decode cX4_inLowestTerms 7 = .ok (.invokestatic 106, 3) := by decide +kernel
theorem dX4_inLowestTerms_10 : decode cX4_inLowestTerms 10 = .ok (.ifCond .ne 7, 3) := by decide +kernel
theorem dX4_inLowestTerms_13 : decode cX4_inLowestTerms 13 = .ok (.ldc2_w 176, 3) := by decide +kernel
theorem dX4_inLowestTerms_16 : decode cX4_inLowestTerms 16 = .ok (.lreturn, 1) := by decide +kernel
theorem dX4_inLowestTerms_17 : decode cX4_inLowestTerms 17 = .ok (.iload_n 0, 1) := by decide +kernel
theorem dX4_inLowestTerms_18 : decode cX4_inLowestTerms 18 = .ok (.iload_n 1, 1) := by decide +kernel
theorem dX4_inLowestTerms_19 : decode cX4_inLowestTerms 19 = .ok (.invokestatic 255, 3) := by decide +kernel
theorem dX4_inLowestTerms_22 : decode cX4_inLowestTerms 22 = .ok (.istore_n 3, 1) := by decide +kernel
theorem dX4_inLowestTerms_23 : decode cX4_inLowestTerms 23 = .ok (.iload_n 3, 1) := by decide +kernel
theorem dX4_inLowestTerms_24 : decode cX4_inLowestTerms 24 = .ok (.ifCond .gt 7, 3) := by decide +kernel
theorem dX4_inLowestTerms_27 : decode cX4_inLowestTerms 27 = .ok (.ldc2_w 176, 3) := by decide +kernel
theorem dX4_inLowestTerms_30 : decode cX4_inLowestTerms 30 = .ok (.lreturn, 1) := by decide +kernel
theorem dX4_inLowestTerms_31 : decode cX4_inLowestTerms 31 = .ok (.iload_n 2, 1) := by decide +kernel
theorem dX4_inLowestTerms_32 : decode cX4_inLowestTerms 32 = .ok (.ifCond .ne 10, 3) := by decide +kernel
theorem dX4_inLowestTerms_35 : decode cX4_inLowestTerms 35 = .ok (.iload_n 0, 1) := by decide +kernel
theorem dX4_inLowestTerms_36 : decode cX4_inLowestTerms 36 = .ok (.iload_n 3, 1) := by decide +kernel
theorem dX4_inLowestTerms_37 : decode cX4_inLowestTerms 37 = .ok (.idiv, 1) := by decide +kernel
theorem dX4_inLowestTerms_38 : decode cX4_inLowestTerms 38 = .ok (.i2l, 1) := by decide +kernel
theorem dX4_inLowestTerms_39 : decode cX4_inLowestTerms 39 = .ok (.goto 7, 3) := by decide +kernel
theorem dX4_inLowestTerms_42 : decode cX4_inLowestTerms 42 = .ok (.iload_n 1, 1) := by decide +kernel
theorem dX4_inLowestTerms_43 : decode cX4_inLowestTerms 43 = .ok (.iload_n 3, 1) := by decide +kernel
theorem dX4_inLowestTerms_44 : decode cX4_inLowestTerms 44 = .ok (.idiv, 1) := by decide +kernel
theorem dX4_inLowestTerms_45 : decode cX4_inLowestTerms 45 = .ok (.i2l, 1) := by decide +kernel
theorem dX4_inLowestTerms_46 : decode cX4_inLowestTerms 46 = .ok (.lreturn, 1) := by decide +kernel
def f_X4_inLowestTerms (x0 : Int32) (x1 : Int32) (x2 : Int32) (σ : GX) : Option (Int64 × GX) :=
  if x1 ≤ 0 then (some ((-4611686018427387904 : Int64), σ)) else (bnd (f_X4_within x2 (0 : Int32) (1 : Int32) σ) fun q1 => if q1.1 ≠ 0 then (bnd (f_X4_commonDivisor x0 x1 q1.2) fun q2 => if 0 < q2.1 then (if x2 ≠ 0 then (if ¬ q2.1 = 0 then (some ((x1 / q2.1).toInt64, q2.2)) else none) else (if ¬ q2.1 = 0 then (some ((x0 / q2.1).toInt64, q2.2)) else none)) else (some ((-4611686018427387904 : Int64), q2.2))) else (some ((-4611686018427387904 : Int64), q1.2)))
theorem vf_X4_inLowestTerms {g : Gt} {ad : Nat → Nat} (z : Zt) (x0 : Int32) (x1 : Int32) (x2 : Int32) (σ : GX) : V g (LX ad) 2 RX4 cX4_inLowestTerms 4 (some .long) (wX g ad) iL z (f_X4_inLowestTerms x0 x1 x2 σ) σ 0 [(0, .int x0), (1, .int x1), (2, .int x2)] [] := by
  unfold f_X4_inLowestTerms
  refine v_iload_n (pc := 0) (i := 1) dX4_inLowestTerms_0 rfl rfl ?_
  refine v_if_le (pc := 1) (tgt := 13) dX4_inLowestTerms_1 rfl ?_ ?_
  · refine v_ldc2 (pc := 13) dX4_inLowestTerms_13 q_546 ?_
    exact v_lret (pc := 16) dX4_inLowestTerms_16
  · refine v_iload_n (pc := 4) (i := 2) dX4_inLowestTerms_4 rfl rfl ?_
    refine v_iconst (pc := 5) dX4_inLowestTerms_5 ic_0 ?_
    refine v_iconst (pc := 6) dX4_inLowestTerms_6 ic_1 ?_
    refine v_callSi (pc := 7) (av := [.int x2, .int (0 : Int32), .int (1 : Int32)]) (rest := []) (ct_X4_within x2 (0 : Int32) (1 : Int32)) mi_X4_within q_384 (by decide) rfl rfl (Nat.le_of_ble_eq_true rfl) dX4_inLowestTerms_7 (fun q1 => ?_)
    refine v_if_ne (pc := 10) (tgt := 17) dX4_inLowestTerms_10 rfl ?_ ?_
    · refine v_iload_n (pc := 17) (i := 0) dX4_inLowestTerms_17 rfl rfl ?_
      refine v_iload_n (pc := 18) (i := 1) dX4_inLowestTerms_18 rfl rfl ?_
      refine v_callSi (pc := 19) (av := [.int x0, .int x1]) (rest := []) (ct_X4_commonDivisor x0 x1) mi_X4_commonDivisor q_586 (by decide) rfl rfl (Nat.le_of_ble_eq_true rfl) dX4_inLowestTerms_19 (fun q2 => ?_)
      refine v_istore_n (pc := 22) (lv' := [(3, .int q2.1), (0, .int x0), (1, .int x1), (2, .int x2)]) (i := 3) dX4_inLowestTerms_22 rfl (by decide) rfl ?_
      refine v_iload_n (pc := 23) (i := 3) dX4_inLowestTerms_23 rfl rfl ?_
      refine v_if_gt (pc := 24) (tgt := 31) dX4_inLowestTerms_24 rfl ?_ ?_
      · refine v_iload_n (pc := 31) (i := 2) dX4_inLowestTerms_31 rfl rfl ?_
        refine v_if_ne (pc := 32) (tgt := 42) dX4_inLowestTerms_32 rfl ?_ ?_
        · refine v_iload_n (pc := 42) (i := 1) dX4_inLowestTerms_42 rfl rfl ?_
          refine v_iload_n (pc := 43) (i := 3) dX4_inLowestTerms_43 rfl rfl ?_
          refine v_idivG (pc := 44) dX4_inLowestTerms_44 ?_
          refine v_i2l (pc := 45) dX4_inLowestTerms_45 ?_
          exact v_lret (pc := 46) dX4_inLowestTerms_46
        · refine v_iload_n (pc := 35) (i := 0) dX4_inLowestTerms_35 rfl rfl ?_
          refine v_iload_n (pc := 36) (i := 3) dX4_inLowestTerms_36 rfl rfl ?_
          refine v_idivG (pc := 37) dX4_inLowestTerms_37 ?_
          refine v_i2l (pc := 38) dX4_inLowestTerms_38 ?_
          refine v_goto (pc := 39) (tgt := 46) dX4_inLowestTerms_39 rfl ?_
          exact v_lret (pc := 46) dX4_inLowestTerms_46
      · refine v_ldc2 (pc := 27) dX4_inLowestTerms_27 q_546 ?_
        exact v_lret (pc := 30) dX4_inLowestTerms_30
    · refine v_ldc2 (pc := 13) dX4_inLowestTerms_13 q_546 ?_
      exact v_lret (pc := 16) dX4_inLowestTerms_16
theorem ct_X4_inLowestTerms {g : Gt} {ad : Nat → Nat} (x0 : Int32) (x1 : Int32) (x2 : Int32) : CT g (LX ad) yX4_inLowestTerms cX4_inLowestTerms 4 (some .long) 2 [.int x0, .int x1, .int x2] iL (wX g ad) (f_X4_inLowestTerms x0 x1 x2) :=
  ct_of_V (own := RX4) (lv0 := [(0, .int x0), (1, .int x1), (2, .int x2)]) (by decide +kernel) rfl (Nat.le_of_ble_eq_true rfl) rfl (fun z σ => vf_X4_inLowestTerms z x0 x1 x2 σ)
-- LighthouseLiedTo.truth
theorem dX4_truth_0 : decode cX4_truth 0 = .ok (.aload_n 0, 1) := by decide +kernel
theorem dX4_truth_1 : decode cX4_truth 1 = .ok (.getfield 39, 3) := by decide +kernel
theorem dX4_truth_4 : decode cX4_truth 4 = .ok (.invokevirtual 185, 3) := by decide +kernel
theorem dX4_truth_7 : decode cX4_truth 7 = .ok (.aload_n 0, 1) := by decide +kernel
theorem dX4_truth_8 : decode cX4_truth 8 = .ok (.getfield 39, 3) := by decide +kernel
theorem dX4_truth_11 : decode cX4_truth 11 = .ok (.invokevirtual 173, 3) := by decide +kernel
theorem dX4_truth_14 : decode cX4_truth 14 = .ok (.iload_n 1, 1) := by decide +kernel
theorem dX4_truth_15 : decode cX4_truth 15 = .ok (.invokestatic 188, 3) := by decide +kernel
theorem dX4_truth_18 : decode cX4_truth 18 = .ok (.lreturn, 1) := by decide +kernel
def f_X4_truth (x1 : Int32) (σ : GX) : Option (Int64 × GX) :=
  bnd (f_X2_trueBelief 0 σ) fun q1 => bnd (f_X2_allBelief 0 q1.2) fun q2 => bnd (f_X4_inLowestTerms q1.1 q2.1 x1 q2.2) fun q3 => some (q3.1, q3.2)
theorem vf_X4_truth {g : Gt} {ad : Nat → Nat} (z : Zt) (x1 : Int32) (σ : GX) : V g (LX ad) 3 RX4 cX4_truth 2 (some .long) (wX g ad) iL z (f_X4_truth x1 σ) σ 0 [(0, .ref (aMain ad)), (1, .int x1)] [] := by
  unfold f_X4_truth
  refine v_aload_n (pc := 0) (i := 0) dX4_truth_0 rfl rfl ?_
  refine gX4_now (pc := 1) q_326 dX4_truth_1 ?_
  refine v_callVi (pc := 4) (rcX2 (by decide)) (As := []) (rest := []) (ct_X2_trueBelief (by decide)) mi_X2_trueBelief q_579 (by decide) rfl rfl (Nat.le_of_ble_eq_true rfl) dX4_truth_4 (fun q1 => ?_)
  refine v_aload_n (pc := 7) (i := 0) dX4_truth_7 rfl rfl ?_
  refine gX4_now (pc := 8) q_326 dX4_truth_8 ?_
  refine v_callVi (pc := 11) (rcX2 (by decide)) (As := []) (rest := [.int q1.1]) (ct_X2_allBelief (by decide)) mi_X2_allBelief q_534 (by decide) rfl rfl (Nat.le_of_ble_eq_true rfl) dX4_truth_11 (fun q2 => ?_)
  refine v_iload_n (pc := 14) (i := 1) dX4_truth_14 rfl rfl ?_
  refine v_callSl (pc := 15) (av := [.int q1.1, .int q2.1, .int x1]) (rest := []) (ct_X4_inLowestTerms q1.1 q2.1 x1) mi_X4_inLowestTerms q_583 (by decide) rfl rfl (Nat.le_of_ble_eq_true rfl) dX4_truth_15 (fun q3 => ?_)
  exact v_lret (pc := 18) dX4_truth_18
theorem ct_X4_truth {g : Gt} {ad : Nat → Nat} (x1 : Int32) : CT g (LX ad) yX4_truth cX4_truth 2 (some .long) 3 [.ref (aMain ad), .int x1] iL (wX g ad) (f_X4_truth x1) :=
  ct_of_V (own := RX4) (lv0 := [(0, .ref (aMain ad)), (1, .int x1)]) (by decide +kernel) rfl (Nat.le_of_ble_eq_true rfl) rfl (fun z σ => vf_X4_truth z x1 σ)
-- LighthouseLiedTo.isSheet
theorem dX4_isSheet_0 : decode cX4_isSheet 0 = .ok (.iload_n 0, 1) := by decide +kernel
theorem dX4_isSheet_1 : decode cX4_isSheet 1 = .ok (.iconst 0, 1) := by decide +kernel
theorem dX4_isSheet_2 : decode cX4_isSheet 2 = .ok (.iconst 3, 1) := by decide +kernel
theorem dX4_isSheet_3 : decode cX4_isSheet 3 = .ok (.invokestatic 106, 3) := by decide +kernel
theorem dX4_isSheet_6 : decode cX4_isSheet 6 = .ok (.ireturn, 1) := by decide +kernel
def f_X4_isSheet (x0 : Int32) (σ : GX) : Option (Int32 × GX) :=
  bnd (f_X4_within x0 (0 : Int32) (3 : Int32) σ) fun q1 => if q1.1 = 0 ∨ q1.1 = 1 then some (q1.1, q1.2) else none
theorem vf_X4_isSheet {g : Gt} {ad : Nat → Nat} (z : Zt) (x0 : Int32) (σ : GX) : V g (LX ad) 2 RX4 cX4_isSheet 1 (some .boolean) (wX g ad) iI z (f_X4_isSheet x0 σ) σ 0 [(0, .int x0)] [] := by
  unfold f_X4_isSheet
  refine v_iload_n (pc := 0) (i := 0) dX4_isSheet_0 rfl rfl ?_
  refine v_iconst (pc := 1) dX4_isSheet_1 ic_0 ?_
  refine v_iconst (pc := 2) dX4_isSheet_2 ic_3 ?_
  refine v_callSi (pc := 3) (av := [.int x0, .int (0 : Int32), .int (3 : Int32)]) (rest := []) (ct_X4_within x0 (0 : Int32) (3 : Int32)) mi_X4_within q_384 (by decide) rfl rfl (Nat.le_of_ble_eq_true rfl) dX4_isSheet_3 (fun q1 => ?_)
  exact v_zret (pc := 6) dX4_isSheet_6
theorem ct_X4_isSheet {g : Gt} {ad : Nat → Nat} (x0 : Int32) : CT g (LX ad) yX4_isSheet cX4_isSheet 1 (some .boolean) 2 [.int x0] iI (wX g ad) (f_X4_isSheet x0) :=
  ct_of_V (own := RX4) (lv0 := [(0, .int x0)]) (by decide +kernel) rfl (Nat.le_of_ble_eq_true rfl) rfl (fun z σ => vf_X4_isSheet z x0 σ)
-- LighthouseLiedTo.refusalOfTold
theorem dX4_refusalOfTold_0 : decode cX4_refusalOfTold 0 = .ok (.iload_n 1, 1) := by decide +kernel
theorem dX4_refusalOfTold_1 : decode cX4_refusalOfTold 1 = .ok (.invokestatic 201, 3) := by decide +kernel
theorem dX4_refusalOfTold_4 : decode cX4_refusalOfTold 4 = .ok (.ifCond .ne 6, 3) := by decide +kernel
theorem dX4_refusalOfTold_7 : decode cX4_refusalOfTold 7 = .ok (.bipush (-2), 2) := by decide +kernel
theorem dX4_refusalOfTold_9 : decode cX4_refusalOfTold 9 = .ok (.ireturn, 1) := by decide +kernel
theorem dX4_refusalOfTold_10 : decode cX4_refusalOfTold 10 = .ok (.aload_n 0, 1) := by decide +kernel
theorem dX4_refusalOfTold_11 : decode cX4_refusalOfTold 11 = .ok (.getfield 17, 3) := by decide +kernel
theorem dX4_refusalOfTold_14 : decode cX4_refusalOfTold 14 = .ok (.iload_n 1, 1) := by decide +kernel
theorem dX4_refusalOfTold_15 : decode cX4_refusalOfTold 15 = .ok (.aaload, 1) := by decide +kernel
theorem dX4_refusalOfTold_16 : decode cX4_refusalOfTold 16 = .ok (.getfield 221, 3) := by decide +kernel
theorem dX4_refusalOfTold_19 : decode cX4_refusalOfTold 19 = .ok (.iconst (-1), 1) := by decide +kernel
theorem dX4_refusalOfTold_20 : decode cX4_refusalOfTold 20 = .ok (.if_icmp .ne 6, 3) := by decide +kernel
theorem dX4_refusalOfTold_23 : decode cX4_refusalOfTold 23 = .ok (.bipush (-11), 2) := by decide +kernel
theorem dX4_refusalOfTold_25 : decode cX4_refusalOfTold 25 = .ok (.ireturn, 1) := by decide +kernel
theorem dX4_refusalOfTold_26 : decode cX4_refusalOfTold 26 = .ok (.aload_n 0, 1) := by decide +kernel
theorem dX4_refusalOfTold_27 : decode cX4_refusalOfTold 27 = .ok (.getfield 17, 3) := by decide +kernel
theorem dX4_refusalOfTold_30 : decode cX4_refusalOfTold 30 = .ok (.iload_n 1, 1) := by decide +kernel
theorem dX4_refusalOfTold_31 : decode cX4_refusalOfTold 31 = .ok (.aaload, 1) := by decide +kernel
theorem dX4_refusalOfTold_32 : decode cX4_refusalOfTold 32 = .ok (.getfield 246, 3) := by decide +kernel
theorem dX4_refusalOfTold_35 : decode cX4_refusalOfTold 35 = .ok (.bipush 20, 2) := by decide +kernel
theorem dX4_refusalOfTold_37 : decode cX4_refusalOfTold 37 = .ok (.if_icmp .le 8, 3) := by decide +kernel
theorem dX4_refusalOfTold_40 : decode cX4_refusalOfTold 40 = .ok (.bipush (-2), 2) := by decide +kernel
theorem dX4_refusalOfTold_42 : decode cX4_refusalOfTold 42 = .ok (.goto 4, 3) := by decide +kernel
theorem dX4_refusalOfTold_45 : decode cX4_refusalOfTold 45 = .ok (.iconst 0, 1) := by decide +kernel
theorem dX4_refusalOfTold_46 : decode cX4_refusalOfTold 46 = .ok (.ireturn, 1) := by decide +kernel
def f_X4_refusalOfTold (x1 : Int32) (σ : GX) : Option (Int32 × GX) :=
  bnd (f_X4_isSheet x1 σ) fun q1 => if q1.1 ≠ 0 then (grd x1 4 (if (xH q1.2 (x1.toNatClampNeg) 0) ≠ (-1 : Int32) then (grd x1 4 (if (xH q1.2 (x1.toNatClampNeg) 1) ≤ (20 : Int32) then (some ((0 : Int32), q1.2)) else (some ((-2 : Int32), q1.2)))) else (some ((-11 : Int32), q1.2)))) else (some ((-2 : Int32), q1.2))
theorem vf_X4_refusalOfTold {g : Gt} {ad : Nat → Nat} (z : Zt) (x1 : Int32) (σ : GX) : V g (LX ad) 3 RX4 cX4_refusalOfTold 2 (some .int) (wX g ad) iI z (f_X4_refusalOfTold x1 σ) σ 0 [(0, .ref (aMain ad)), (1, .int x1)] [] := by
  unfold f_X4_refusalOfTold
  refine v_iload_n (pc := 0) (i := 1) dX4_refusalOfTold_0 rfl rfl ?_
  refine v_callSi (pc := 1) (av := [.int x1]) (rest := []) (ct_X4_isSheet x1) mi_X4_isSheet q_601 (by decide) rfl rfl (Nat.le_of_ble_eq_true rfl) dX4_refusalOfTold_1 (fun q1 => ?_)
  refine v_if_ne (pc := 4) (tgt := 10) dX4_refusalOfTold_4 rfl ?_ ?_
  · refine v_aload_n (pc := 10) (i := 0) dX4_refusalOfTold_10 rfl rfl ?_
    refine gX4_sheets (pc := 11) q_329 dX4_refusalOfTold_11 ?_
    refine v_iload_n (pc := 14) (i := 1) dX4_refusalOfTold_14 rfl rfl ?_
    refine aX_sheets (pc := 15) dX4_refusalOfTold_15 (fun ha2 => ?_)
    refine gX3_sort (pc := 16) (q := (x1.toNatClampNeg)) ha2 q_131 dX4_refusalOfTold_16 ?_
    refine v_iconst (pc := 19) dX4_refusalOfTold_19 ic_m1 ?_
    refine v_icmp_ne (pc := 20) (tgt := 26) dX4_refusalOfTold_20 rfl ?_ ?_
    · refine v_aload_n (pc := 26) (i := 0) dX4_refusalOfTold_26 rfl rfl ?_
      refine gX4_sheets (pc := 27) q_329 dX4_refusalOfTold_27 ?_
      refine v_iload_n (pc := 30) (i := 1) dX4_refusalOfTold_30 rfl rfl ?_
      refine aX_sheets (pc := 31) dX4_refusalOfTold_31 (fun ha3 => ?_)
      refine gX3_size (pc := 32) (q := (x1.toNatClampNeg)) ha3 q_133 dX4_refusalOfTold_32 ?_
      refine v_bipush (pc := 35) dX4_refusalOfTold_35 bp_20 ?_
      refine v_icmp_le (pc := 37) (tgt := 45) dX4_refusalOfTold_37 rfl ?_ ?_
      · refine v_iconst (pc := 45) dX4_refusalOfTold_45 ic_0 ?_
        exact v_iret (pc := 46) dX4_refusalOfTold_46
      · refine v_bipush (pc := 40) dX4_refusalOfTold_40 bp_m2 ?_
        refine v_goto (pc := 42) (tgt := 46) dX4_refusalOfTold_42 rfl ?_
        exact v_iret (pc := 46) dX4_refusalOfTold_46
    · refine v_bipush (pc := 23) dX4_refusalOfTold_23 bp_m11 ?_
      exact v_iret (pc := 25) dX4_refusalOfTold_25
  · refine v_bipush (pc := 7) dX4_refusalOfTold_7 bp_m2 ?_
    exact v_iret (pc := 9) dX4_refusalOfTold_9
theorem ct_X4_refusalOfTold {g : Gt} {ad : Nat → Nat} (x1 : Int32) : CT g (LX ad) yX4_refusalOfTold cX4_refusalOfTold 2 (some .int) 3 [.ref (aMain ad), .int x1] iI (wX g ad) (f_X4_refusalOfTold x1) :=
  ct_of_V (own := RX4) (lv0 := [(0, .ref (aMain ad)), (1, .int x1)]) (by decide +kernel) rfl (Nat.le_of_ble_eq_true rfl) rfl (fun z σ => vf_X4_refusalOfTold z x1 σ)
-- LighthouseLiedTo.refusalToJudge
theorem dX4_refusalToJudge_0 : decode cX4_refusalToJudge 0 = .ok (.aload_n 0, 1) := by decide +kernel
theorem dX4_refusalToJudge_1 : decode cX4_refusalToJudge 1 = .ok (.iload_n 1, 1) := by decide +kernel
theorem dX4_refusalToJudge_2 : decode cX4_refusalToJudge 2 = .ok (.invokevirtual 198, 3) := by decide +kernel
theorem dX4_refusalToJudge_5 : decode cX4_refusalToJudge 5 = .ok (.istore_n 3, 1) := by decide +kernel
theorem dX4_refusalToJudge_6 : decode cX4_refusalToJudge 6 = .ok (.iload_n 3, 1) := by decide +kernel
theorem dX4_refusalToJudge_7 : decode cX4_refusalToJudge 7 = .ok (.ifCond .eq 5, 3) := by decide +kernel
theorem dX4_refusalToJudge_10 : decode cX4_refusalToJudge 10 = .ok (.iload_n 3, 1) := by decide +kernel
theorem dX4_refusalToJudge_11 : decode cX4_refusalToJudge 11 = .ok (.ireturn, 1) := by decide +kernel
theorem dX4_refusalToJudge_12 : decode cX4_refusalToJudge 12 = .ok (.aload_n 0, 1) := by decide +kernel
theorem dX4_refusalToJudge_13 : decode cX4_refusalToJudge 13 = .ok (.iload_n 2, 1) := by decide +kernel
theorem dX4_refusalToJudge_14 : decode cX4_refusalToJudge 14 = .ok (.invokevirtual 125, 3) := by decide +kernel
theorem dX4_refusalToJudge_17 : decode cX4_refusalToJudge 17 = .ok (.ifCond .eq 7, 3) := by decide +kernel
theorem dX4_refusalToJudge_20 : decode cX4_refusalToJudge 20 = .ok (.iconst 0, 1) := by decide +kernel
theorem dX4_refusalToJudge_21 : decode cX4_refusalToJudge 21 = .ok (.goto 5, 3) := by decide +kernel
theorem dX4_refusalToJudge_24 : decode cX4_refusalToJudge 24 = .ok (.bipush (-5), 2) := by decide +kernel
theorem dX4_refusalToJudge_26 : decode cX4_refusalToJudge 26 = .ok (.ireturn, 1) := by decide +kernel
def f_X4_refusalToJudge (x1 : Int32) (x2 : Int32) (σ : GX) : Option (Int32 × GX) :=
  bnd (f_X4_refusalOfTold x1 σ) fun q1 => if q1.1 = 0 then (bnd (f_X4_isShip x2 q1.2) fun q2 => if q2.1 = 0 then (some ((-5 : Int32), q2.2)) else (some ((0 : Int32), q2.2))) else (some (q1.1, q1.2))
theorem vf_X4_refusalToJudge {g : Gt} {ad : Nat → Nat} (z : Zt) (x1 : Int32) (x2 : Int32) (σ : GX) : V g (LX ad) 4 RX4 cX4_refusalToJudge 4 (some .int) (wX g ad) iI z (f_X4_refusalToJudge x1 x2 σ) σ 0 [(0, .ref (aMain ad)), (1, .int x1), (2, .int x2)] [] := by
  unfold f_X4_refusalToJudge
  refine v_aload_n (pc := 0) (i := 0) dX4_refusalToJudge_0 rfl rfl ?_
  refine v_iload_n (pc := 1) (i := 1) dX4_refusalToJudge_1 rfl rfl ?_
  refine v_callVi (pc := 2) rcX4 (As := [.int x1]) (rest := []) (ct_X4_refusalOfTold x1) mi_X4_refusalOfTold q_597 (by decide) rfl rfl (Nat.le_of_ble_eq_true rfl) dX4_refusalToJudge_2 (fun q1 => ?_)
  refine v_istore_n (pc := 5) (lv' := [(3, .int q1.1), (0, .ref (aMain ad)), (1, .int x1), (2, .int x2)]) (i := 3) dX4_refusalToJudge_5 rfl (by decide) rfl ?_
  refine v_iload_n (pc := 6) (i := 3) dX4_refusalToJudge_6 rfl rfl ?_
  refine v_if_eq (pc := 7) (tgt := 12) dX4_refusalToJudge_7 rfl ?_ ?_
  · refine v_aload_n (pc := 12) (i := 0) dX4_refusalToJudge_12 rfl rfl ?_
    refine v_iload_n (pc := 13) (i := 2) dX4_refusalToJudge_13 rfl rfl ?_
    refine v_callVi (pc := 14) rcX4 (As := [.int x2]) (rest := []) (ct_X4_isShip x2) mi_X4_isShip q_433 (by decide) rfl rfl (Nat.le_of_ble_eq_true rfl) dX4_refusalToJudge_14 (fun q2 => ?_)
    refine v_if_eq (pc := 17) (tgt := 24) dX4_refusalToJudge_17 rfl ?_ ?_
    · refine v_bipush (pc := 24) dX4_refusalToJudge_24 bp_m5 ?_
      exact v_iret (pc := 26) dX4_refusalToJudge_26
    · refine v_iconst (pc := 20) dX4_refusalToJudge_20 ic_0 ?_
      refine v_goto (pc := 21) (tgt := 26) dX4_refusalToJudge_21 rfl ?_
      exact v_iret (pc := 26) dX4_refusalToJudge_26
  · refine v_iload_n (pc := 10) (i := 3) dX4_refusalToJudge_10 rfl rfl ?_
    exact v_iret (pc := 11) dX4_refusalToJudge_11
theorem ct_X4_refusalToJudge {g : Gt} {ad : Nat → Nat} (x1 : Int32) (x2 : Int32) : CT g (LX ad) yX4_refusalToJudge cX4_refusalToJudge 4 (some .int) 4 [.ref (aMain ad), .int x1, .int x2] iI (wX g ad) (f_X4_refusalToJudge x1 x2) :=
  ct_of_V (own := RX4) (lv0 := [(0, .ref (aMain ad)), (1, .int x1), (2, .int x2)]) (by decide +kernel) rfl (Nat.le_of_ble_eq_true rfl) rfl (fun z σ => vf_X4_refusalToJudge z x1 x2 σ)
-- LighthouseLiedTo.firstOtherwise
theorem dX4_firstOtherwise_0 : decode cX4_firstOtherwise 0 = .ok (.aload_n 0, 1) := by decide +kernel
theorem dX4_firstOtherwise_1 : decode cX4_firstOtherwise 1 = .ok (.getfield 17, 3) := by decide +kernel
theorem dX4_firstOtherwise_4 : decode cX4_firstOtherwise 4 = .ok (.iload_n 1, 1) := by decide +kernel
theorem dX4_firstOtherwise_5 : decode cX4_firstOtherwise 5 = .ok (.aaload, 1) := by decide +kernel
theorem dX4_firstOtherwise_6 : decode cX4_firstOtherwise 6 = .ok (.astore_n 3, 1) := by decide +kernel
theorem dX4_firstOtherwise_7 : decode cX4_firstOtherwise 7 = .ok (.iconst 0, 1) := by decide +kernel
theorem dX4_firstOtherwise_8 : decode cX4_firstOtherwise 8 = .ok (.istore 4, 2) := by decide +kernel
theorem dX4_firstOtherwise_10 : decode cX4_firstOtherwise 10 = .ok (.iload 4, 2) := by decide +kernel
theorem dX4_firstOtherwise_12 : decode cX4_firstOtherwise 12 = .ok (.aload_n 3, 1) := by decide +kernel
theorem dX4_firstOtherwise_13 : decode cX4_firstOtherwise 13 = .ok (.getfield 246, 3) := by decide +kernel
theorem dX4_firstOtherwise_16 : decode cX4_firstOtherwise 16 = .ok (.if_icmp .ge 48, 3) := by decide +kernel
theorem dX4_firstOtherwise_19 : decode cX4_firstOtherwise 19 = .ok (.iload 4, 2) := by decide +kernel
theorem dX4_firstOtherwise_21 : decode cX4_firstOtherwise 21 = .ok (.aload_n 3, 1) := by decide +kernel
theorem dX4_firstOtherwise_22 : decode cX4_firstOtherwise 22 = .ok (.getfield 231, 3) := by decide +kernel
theorem dX4_firstOtherwise_25 : decode cX4_firstOtherwise 25 = .ok (.arraylength, 1) := by decide +kernel
theorem dX4_firstOtherwise_26 : decode cX4_firstOtherwise 26 = .ok (.if_icmp .ge 38, 3) := by decide +kernel
theorem dX4_firstOtherwise_29 : decode cX4_firstOtherwise 29 = .ok (.aload_n 0, 1) := by decide +kernel
theorem dX4_firstOtherwise_30 : decode cX4_firstOtherwise 30 = .ok (.getfield 43, 3) := by decide +kernel
theorem dX4_firstOtherwise_33 : decode cX4_firstOtherwise 33 = .ok (.invokevirtual 164, 3) := by decide +kernel
theorem dX4_firstOtherwise_36 : decode cX4_firstOtherwise 36 = .ok (.aload_n 0, 1) := by decide +kernel
theorem dX4_firstOtherwise_37 : decode cX4_firstOtherwise 37 = .ok (.getfield 43, 3) := by decide +kernel
theorem dX4_firstOtherwise_40 : decode cX4_firstOtherwise 40 = .ok (.getfield 139, 3) := by decide +kernel
theorem dX4_firstOtherwise_43 : decode cX4_firstOtherwise 43 = .ok (.iload_n 2, 1) := by decide +kernel
theorem dX4_firstOtherwise_44 : decode cX4_firstOtherwise 44 = .ok (.iaload, 1) := by decide +kernel
theorem dX4_firstOtherwise_45 : decode cX4_firstOtherwise 45 = .ok (.aload_n 3, 1) := by decide +kernel
theorem dX4_firstOtherwise_46 : decode cX4_firstOtherwise 46 = .ok (.getfield 231, 3) := by decide +kernel
theorem dX4_firstOtherwise_49 : decode cX4_firstOtherwise 49 = .ok (.iload 4, 2) := by decide +kernel
theorem dX4_firstOtherwise_51 : decode cX4_firstOtherwise 51 = .ok (.iaload, 1) := by decide +kernel
theorem dX4_firstOtherwise_52 : decode cX4_firstOtherwise 52 = .ok (.if_icmp .eq 6, 3) := by decide +kernel
theorem dX4_firstOtherwise_55 : decode cX4_firstOtherwise 55 = .ok (.iload 4, 2) := by decide +kernel
theorem dX4_firstOtherwise_57 : decode cX4_firstOtherwise 57 = .ok (.ireturn, 1) := by decide +kernel
theorem dX4_firstOtherwise_58 : decode cX4_firstOtherwise 58 = .ok (.iinc 4 1, 3) := by decide +kernel
theorem dX4_firstOtherwise_61 : decode cX4_firstOtherwise 61 = .ok (.goto (-51), 3) := by decide +kernel
theorem dX4_firstOtherwise_64 : decode cX4_firstOtherwise 64 = .ok (.iconst (-1), 1) := by decide +kernel
theorem dX4_firstOtherwise_65 : decode cX4_firstOtherwise 65 = .ok (.ireturn, 1) := by decide +kernel
def b_X4_firstOtherwise_10 (kc10 : Int32 → Nat → Int32 → GX → Option (Int32 × GX)) (x2 : Int32) (n3 : Nat) (x4 : Int32) (σ : GX) : Option (Int32 × GX) :=
  if (xH σ n3 1) ≤ x4 then (some ((-1 : Int32), σ)) else (if (40 : Int32) ≤ x4 then (some ((-1 : Int32), σ)) else (bnd (f_X2_passNight 1 σ) fun q2 => grd x2 6 (grd x4 40 (if (xB q2.2 1 3 x2.toNatClampNeg) = (xN q2.2 n3 x4.toNatClampNeg) then (kc10 x2 (n3) (x4 + (1 : Int32)) q2.2) else (some (x4, q2.2))))))
theorem vb_X4_firstOtherwise_10 {g : Gt} {ad : Nat → Nat} (z : Zt) (kc10 : Int32 → Nat → Int32 → GX → Option (Int32 × GX)) (hkc10 : ∀ (x2 : Int32) (n3 : Nat) (x4 : Int32) (hn3 : n3 < 4) (σ : GX), V g (LX ad) 7 RX4 cX4_firstOtherwise 5 (some .int) (wX g ad) iI z (kc10 x2 n3 x4 σ) σ 10 [(0, .ref (aMain ad)), (2, .int x2), (3, .ref (aSheet ad n3)), (4, .int x4)] []) (x2 : Int32) (n3 : Nat) (x4 : Int32) (hn3 : n3 < 4) (σ : GX) : V g (LX ad) 7 RX4 cX4_firstOtherwise 5 (some .int) (wX g ad) iI z (b_X4_firstOtherwise_10 kc10 x2 n3 x4 σ) σ 10 [(0, .ref (aMain ad)), (2, .int x2), (3, .ref (aSheet ad n3)), (4, .int x4)] [] := by
  unfold b_X4_firstOtherwise_10
  refine v_iload (pc := 10) (i := 4) dX4_firstOtherwise_10 rfl ?_
  refine v_aload_n (pc := 12) (i := 3) dX4_firstOtherwise_12 rfl rfl ?_
  refine gX3_size (pc := 13) (q := n3) hn3 q_133 dX4_firstOtherwise_13 ?_
  refine v_icmp_ge (pc := 16) (tgt := 64) dX4_firstOtherwise_16 rfl ?_ ?_
  · refine v_iconst (pc := 64) dX4_firstOtherwise_64 ic_m1 ?_
    exact v_iret (pc := 65) dX4_firstOtherwise_65
  · refine v_iload (pc := 19) (i := 4) dX4_firstOtherwise_19 rfl ?_
    refine v_aload_n (pc := 21) (i := 3) dX4_firstOtherwise_21 rfl rfl ?_
    refine gX3_numbers (pc := 22) (q := n3) hn3 q_129 dX4_firstOtherwise_22 ?_
    refine nX_nums (pc := 25) (q := n3) hn3 (v := (40 : Int32)) rfl dX4_firstOtherwise_25 ?_
    refine v_icmp_ge (pc := 26) (tgt := 64) dX4_firstOtherwise_26 rfl ?_ ?_
    · refine v_iconst (pc := 64) dX4_firstOtherwise_64 ic_m1 ?_
      exact v_iret (pc := 65) dX4_firstOtherwise_65
    · refine v_aload_n (pc := 29) (i := 0) dX4_firstOtherwise_29 rfl rfl ?_
      refine gX4_thought (pc := 30) q_327 dX4_firstOtherwise_30 ?_
      refine v_callVv (pc := 33) (rcX2 (by decide)) (As := []) (rest := []) (ct_X2_passNight (by decide)) mi_X2_passNight q_497 (by decide) rfl rfl (Nat.le_of_ble_eq_true rfl) dX4_firstOtherwise_33 (fun q2 => ?_)
      refine v_aload_n (pc := 36) (i := 0) dX4_firstOtherwise_36 rfl rfl ?_
      refine gX4_thought (pc := 37) q_327 dX4_firstOtherwise_37 ?_
      refine gX2_cell (pc := 40) (y := 1) (by decide) q_156 dX4_firstOtherwise_40 ?_
      refine v_iload_n (pc := 43) (i := 2) dX4_firstOtherwise_43 rfl rfl ?_
      refine lX_sea3 (pc := 44) (y := 1) (by decide) dX4_firstOtherwise_44 ?_
      refine v_aload_n (pc := 45) (i := 3) dX4_firstOtherwise_45 rfl rfl ?_
      refine gX3_numbers (pc := 46) (q := n3) hn3 q_129 dX4_firstOtherwise_46 ?_
      refine v_iload (pc := 49) (i := 4) dX4_firstOtherwise_49 rfl ?_
      refine lX_nums (pc := 51) (q := n3) hn3 dX4_firstOtherwise_51 ?_
      refine v_icmp_eq (pc := 52) (tgt := 58) dX4_firstOtherwise_52 rfl ?_ ?_
      · refine v_iinc (pc := 58) (lv' := [(4, .int (x4 + (1 : Int32))), (0, .ref (aMain ad)), (2, .int x2), (3, .ref (aSheet ad n3))]) (i := 4) dX4_firstOtherwise_58 rfl ic_1 (by decide) rfl ?_
        refine v_goto (pc := 61) (tgt := 10) dX4_firstOtherwise_61 rfl ?_
        exact v_sub [1, 2, 3, 0] rfl (hkc10 x2 (n3) (x4 + (1 : Int32)) hn3 q2.2)
      · refine v_iload (pc := 55) (i := 4) dX4_firstOtherwise_55 rfl ?_
        exact v_iret (pc := 57) dX4_firstOtherwise_57
def k_X4_firstOtherwise_10 : Nat → Int32 → Nat → Int32 → GX → Option (Int32 × GX)
  | 0 => fun _ _ _ _ => none
  | n + 1 => b_X4_firstOtherwise_10 (k_X4_firstOtherwise_10 n)
theorem vk_X4_firstOtherwise_10 {g : Gt} {ad : Nat → Nat} (z : Zt) : ∀ (n : Nat) (x2 : Int32) (n3 : Nat) (x4 : Int32) (hn3 : n3 < 4) (σ : GX), V g (LX ad) 7 RX4 cX4_firstOtherwise 5 (some .int) (wX g ad) iI z (k_X4_firstOtherwise_10 n x2 n3 x4 σ) σ 10 [(0, .ref (aMain ad)), (2, .int x2), (3, .ref (aSheet ad n3)), (4, .int x4)] [] := by
  intro n
  induction n with
  | zero => intros; exact v_eq rfl v_none
  | succ n ih =>
    intro x2 n3 x4 hn3 σ
    exact v_eq rfl (vb_X4_firstOtherwise_10 z _ ih x2 n3 x4 hn3 σ)
def f_X4_firstOtherwise (x1 : Int32) (x2 : Int32) (σ : GX) : Option (Int32 × GX) :=
  grd x1 4 (k_X4_firstOtherwise_10 FU x2 ((x1.toNatClampNeg)) (0 : Int32) σ)
theorem vf_X4_firstOtherwise {g : Gt} {ad : Nat → Nat} (z : Zt) (x1 : Int32) (x2 : Int32) (σ : GX) : V g (LX ad) 7 RX4 cX4_firstOtherwise 5 (some .int) (wX g ad) iI z (f_X4_firstOtherwise x1 x2 σ) σ 0 [(0, .ref (aMain ad)), (1, .int x1), (2, .int x2)] [] := by
  unfold f_X4_firstOtherwise
  refine v_aload_n (pc := 0) (i := 0) dX4_firstOtherwise_0 rfl rfl ?_
  refine gX4_sheets (pc := 1) q_329 dX4_firstOtherwise_1 ?_
  refine v_iload_n (pc := 4) (i := 1) dX4_firstOtherwise_4 rfl rfl ?_
  refine aX_sheets (pc := 5) dX4_firstOtherwise_5 (fun ha1 => ?_)
  refine v_astore_n (pc := 6) (lv' := [(3, .ref (aSheet ad (x1.toNatClampNeg))), (0, .ref (aMain ad)), (1, .int x1), (2, .int x2)]) (i := 3) dX4_firstOtherwise_6 rfl (by decide) rfl ?_
  refine v_iconst (pc := 7) dX4_firstOtherwise_7 ic_0 ?_
  refine v_istore (pc := 8) (lv' := [(4, .int (0 : Int32)), (3, .ref (aSheet ad (x1.toNatClampNeg))), (0, .ref (aMain ad)), (1, .int x1), (2, .int x2)]) (i := 4) dX4_firstOtherwise_8 (by decide) rfl ?_
  exact v_sub [2, 4, 1, 0] rfl (vk_X4_firstOtherwise_10 z FU x2 ((x1.toNatClampNeg)) (0 : Int32) ha1 σ)
theorem ct_X4_firstOtherwise {g : Gt} {ad : Nat → Nat} (x1 : Int32) (x2 : Int32) : CT g (LX ad) yX4_firstOtherwise cX4_firstOtherwise 5 (some .int) 7 [.ref (aMain ad), .int x1, .int x2] iI (wX g ad) (f_X4_firstOtherwise x1 x2) :=
  ct_of_V (own := RX4) (lv0 := [(0, .ref (aMain ad)), (1, .int x1), (2, .int x2)]) (by decide +kernel) rfl (Nat.le_of_ble_eq_true rfl) rfl (fun z σ => vf_X4_firstOtherwise z x1 x2 σ)
-- LighthouseLiedTo.judge
theorem dX4_judge_0 : decode cX4_judge 0 = .ok (.aload_n 0, 1) := by decide +kernel
theorem dX4_judge_1 : decode cX4_judge 1 = .ok (.iload_n 1, 1) := by decide +kernel
theorem dX4_judge_2 : decode cX4_judge 2 = .ok (.iload_n 2, 1) := by decide +kernel
theorem dX4_judge_3 : decode cX4_judge 3 = .ok (.invokevirtual 192, 3) := by decide +kernel
theorem dX4_judge_6 : decode cX4_judge 6 = .ok (.istore_n 3, 1) := by decide +kernel
theorem dX4_judge_7 : decode cX4_judge 7 = .ok (.iload_n 3, 1) := by decide +kernel
theorem dX4_judge_8 : decode cX4_judge 8 = .ok (.ifCond .eq 5, 3) := by decide +kernel
theorem dX4_judge_11 : decode cX4_judge 11 = .ok (.iload_n 3, 1) := by decide +kernel
theorem dX4_judge_12 : decode cX4_judge 12 = .ok (.ireturn, 1) := by decide +kernel
theorem dX4_judge_13 : decode cX4_judge 13 = .ok (.aload_n 0, 1) := by decide +kernel
theorem dX4_judge_14 : decode cX4_judge 14 = .ok (.invokevirtual 167, 3) := by decide +kernel
theorem dX4_judge_17 : decode cX4_judge 17 = .ok (.aload_n 0, 1) := by decide +kernel
theorem dX4_judge_18 : decode cX4_judge 18 = .ok (.iload_n 1, 1) := by decide +kernel
theorem dX4_judge_19 : decode cX4_judge 19 = .ok (.iload_n 2, 1) := by decide +kernel
theorem dX4_judge_20 : decode cX4_judge 20 = .ok (.invokevirtual 195, 3) := by decide +kernel
theorem dX4_judge_23 : decode cX4_judge 23 = .ok (.ireturn, 1) := by decide +kernel
def f_X4_judge (x1 : Int32) (x2 : Int32) (σ : GX) : Option (Int32 × GX) :=
  bnd (f_X4_refusalToJudge x1 x2 σ) fun q1 => if q1.1 = 0 then (bnd (f_X4_think q1.2) fun q2 => bnd (f_X4_firstOtherwise x1 x2 q2.2) fun q3 => some (q3.1, q3.2)) else (some (q1.1, q1.2))
theorem vf_X4_judge {g : Gt} {ad : Nat → Nat} (z : Zt) (x1 : Int32) (x2 : Int32) (σ : GX) : V g (LX ad) 8 RX4 cX4_judge 4 (some .int) (wX g ad) iI z (f_X4_judge x1 x2 σ) σ 0 [(0, .ref (aMain ad)), (1, .int x1), (2, .int x2)] [] := by
  unfold f_X4_judge
  refine v_aload_n (pc := 0) (i := 0) dX4_judge_0 rfl rfl ?_
  refine v_iload_n (pc := 1) (i := 1) dX4_judge_1 rfl rfl ?_
  refine v_iload_n (pc := 2) (i := 2) dX4_judge_2 rfl rfl ?_
  refine v_callVi (pc := 3) rcX4 (As := [.int x1, .int x2]) (rest := []) (ct_X4_refusalToJudge x1 x2) mi_X4_refusalToJudge q_593 (by decide) rfl rfl (Nat.le_of_ble_eq_true rfl) dX4_judge_3 (fun q1 => ?_)
  refine v_istore_n (pc := 6) (lv' := [(3, .int q1.1), (0, .ref (aMain ad)), (1, .int x1), (2, .int x2)]) (i := 3) dX4_judge_6 rfl (by decide) rfl ?_
  refine v_iload_n (pc := 7) (i := 3) dX4_judge_7 rfl rfl ?_
  refine v_if_eq (pc := 8) (tgt := 13) dX4_judge_8 rfl ?_ ?_
  · refine v_aload_n (pc := 13) (i := 0) dX4_judge_13 rfl rfl ?_
    refine v_callVv (pc := 14) rcX4 (As := []) (rest := []) (ct_X4_think) mi_X4_think q_517 (by decide) rfl rfl (Nat.le_of_ble_eq_true rfl) dX4_judge_14 (fun q2 => ?_)
    refine v_aload_n (pc := 17) (i := 0) dX4_judge_17 rfl rfl ?_
    refine v_iload_n (pc := 18) (i := 1) dX4_judge_18 rfl rfl ?_
    refine v_iload_n (pc := 19) (i := 2) dX4_judge_19 rfl rfl ?_
    refine v_callVi (pc := 20) rcX4 (As := [.int x1, .int x2]) (rest := []) (ct_X4_firstOtherwise x1 x2) mi_X4_firstOtherwise q_604 (by decide) rfl rfl (Nat.le_of_ble_eq_true rfl) dX4_judge_20 (fun q3 => ?_)
    exact v_iret (pc := 23) dX4_judge_23
  · refine v_iload_n (pc := 11) (i := 3) dX4_judge_11 rfl rfl ?_
    exact v_iret (pc := 12) dX4_judge_12
theorem ct_X4_judge {g : Gt} {ad : Nat → Nat} (x1 : Int32) (x2 : Int32) : CT g (LX ad) yX4_judge cX4_judge 4 (some .int) 8 [.ref (aMain ad), .int x1, .int x2] iI (wX g ad) (f_X4_judge x1 x2) :=
  ct_of_V (own := RX4) (lv0 := [(0, .ref (aMain ad)), (1, .int x1), (2, .int x2)]) (by decide +kernel) rfl (Nat.le_of_ble_eq_true rfl) rfl (fun z σ => vf_X4_judge z x1 x2 σ)
-- LighthouseLiedTo.kinds
theorem dX4_kinds_0 : decode cX4_kinds 0 = .ok (.aload_n 0, 1) := by decide +kernel
theorem dX4_kinds_1 : decode cX4_kinds 1 = .ok (.iload_n 1, 1) := by decide +kernel
theorem dX4_kinds_2 : decode cX4_kinds 2 = .ok (.iload_n 2, 1) := by decide +kernel
theorem dX4_kinds_3 : decode cX4_kinds 3 = .ok (.invokevirtual 192, 3) := by decide +kernel
theorem dX4_kinds_6 : decode cX4_kinds 6 = .ok (.istore 4, 2) := by decide +kernel
theorem dX4_kinds_8 : decode cX4_kinds 8 = .ok (.iload 4, 2) := by decide +kernel
theorem dX4_kinds_10 : decode cX4_kinds 10 = .ok (.ifCond .eq 6, 3) := by decide +kernel
theorem dX4_kinds_13 : decode cX4_kinds 13 = .ok (.iload 4, 2) := by decide +kernel
theorem dX4_kinds_15 : decode cX4_kinds 15 = .ok (.ireturn, 1) := by decide +kernel
theorem dX4_kinds_16 : decode cX4_kinds 16 = .ok (.iload_n 3, 1) := by decide +kernel
theorem dX4_kinds_17 : decode cX4_kinds 17 = .ok (.iconst 0, 1) := by decide +kernel
theorem dX4_kinds_18 : decode cX4_kinds 18 = .ok (.iconst 1, 1) := by decide +kernel
theorem dX4_kinds_19 : decode cX4_kinds 19 = .ok (.invokestatic 106, 3) := by decide +kernel
theorem dX4_kinds_22 : decode cX4_kinds 22 = .ok (.ifCond .ne 6, 3) := by decide +kernel
theorem dX4_kinds_25 : decode cX4_kinds 25 = .ok (.bipush (-7), 2) := by decide +kernel
theorem dX4_kinds_27 : decode cX4_kinds 27 = .ok (.ireturn, 1) := by decide +kernel
theorem dX4_kinds_28 : decode cX4_kinds 28 = .ok (.iload_n 3, 1) := by decide +kernel
theorem dX4_kinds_29 : decode cX4_kinds 29 = .ok (.ifCond .ne 13, 3) := by decide +kernel
theorem dX4_kinds_32 : decode cX4_kinds 32 = .ok (.aload_n 0, 1) := by decide +kernel
theorem dX4_kinds_33 : decode cX4_kinds 33 = .ok (.getfield 43, 3) := by decide +kernel
theorem dX4_kinds_36 : decode cX4_kinds 36 = .ok (.getfield 142, 3) := by decide +kernel
theorem dX4_kinds_39 : decode cX4_kinds 39 = .ok (.goto 10, 3) := by decide +kernel
theorem dX4_kinds_42 : decode cX4_kinds 42 = .ok (.aload_n 0, 1) := by decide +kernel
theorem dX4_kinds_43 : decode cX4_kinds 43 = .ok (.getfield 43, 3) := by decide +kernel
theorem dX4_kinds_46 : decode cX4_kinds 46 = .ok (.getfield 145, 3) := by decide +kernel
theorem dX4_kinds_49 : decode cX4_kinds 49 = .ok (.astore 5, 2) := by decide +kernel
theorem dX4_kinds_51 : decode cX4_kinds 51 = .ok (.iload_n 3, 1) := by decide +kernel
theorem dX4_kinds_52 : decode cX4_kinds 52 = .ok (.ifCond .ne 8, 3) := by decide +kernel
theorem dX4_kinds_55 : decode cX4_kinds 55 = .ok (.bipush 6, 2) := by decide +kernel
theorem dX4_kinds_57 : decode cX4_kinds 57 = .ok (.goto 5, 3) := by decide +kernel
theorem dX4_kinds_60 : decode cX4_kinds 60 = .ok (.bipush 10, 2) := by decide +kernel
theorem dX4_kinds_62 : decode cX4_kinds 62 = .ok (.istore 6, 2) := by decide +kernel
theorem dX4_kinds_64 : decode cX4_kinds 64 = .ok (.iconst 0, 1) := by decide +kernel
theorem dX4_kinds_65 : decode cX4_kinds 65 = .ok (.istore 7, 2) := by decide +kernel
theorem dX4_kinds_67 : decode cX4_kinds 67 = .ok (.iconst 0, 1) := by decide +kernel
theorem dX4_kinds_68 : decode cX4_kinds 68 = .ok (.istore 8, 2) := by decide +kernel
theorem dX4_kinds_70 : decode cX4_kinds 70 = .ok (.iload 8, 2) := by decide +kernel
theorem dX4_kinds_72 : decode cX4_kinds 72 = .ok (.iload 6, 2) := by decide +kernel
theorem dX4_kinds_74 : decode cX4_kinds 74 = .ok (.if_icmp .ge 38, 3) := by decide +kernel
theorem dX4_kinds_77 : decode cX4_kinds 77 = .ok (.aload_n 0, 1) := by decide +kernel
theorem dX4_kinds_78 : decode cX4_kinds 78 = .ok (.invokevirtual 167, 3) := by decide +kernel
theorem dX4_kinds_81 : decode cX4_kinds 81 = .ok (.aload 5, 2) := by decide +kernel
theorem dX4_kinds_83 : decode cX4_kinds 83 = .ok (.iload_n 2, 1) := by decide +kernel
theorem dX4_kinds_84 : decode cX4_kinds 84 = .ok (.iload 8, 2) := by decide +kernel
theorem dX4_kinds_86 : decode cX4_kinds 86 = .ok (.iastore, 1) := by decide +kernel
theorem dX4_kinds_87 : decode cX4_kinds 87 = .ok (.aload_n 0, 1) := by decide +kernel
theorem dX4_kinds_88 : decode cX4_kinds 88 = .ok (.iload_n 1, 1) := by decide +kernel
theorem dX4_kinds_89 : decode cX4_kinds 89 = .ok (.iload_n 2, 1) := by decide +kernel
theorem dX4_kinds_90 : decode cX4_kinds 90 = .ok (.invokevirtual 195, 3) := by decide +kernel
theorem dX4_kinds_93 : decode cX4_kinds 93 = .ok (.iconst (-1), 1) := by decide +kernel
theorem dX4_kinds_94 : decode cX4_kinds 94 = .ok (.if_icmp .ne 12, 3) := by decide +kernel
theorem dX4_kinds_97 : decode cX4_kinds 97 = .ok (.iload 7, 2) := by decide +kernel
theorem dX4_kinds_99 : decode cX4_kinds 99 = .ok (.iconst 1, 1) := by decide +kernel
theorem dX4_kinds_100 : decode cX4_kinds 100 = .ok (.iload 8, 2) := by decide +kernel
theorem dX4_kinds_102 : decode cX4_kinds 102 = .ok (.ishl, 1) := by decide +kernel
theorem dX4_kinds_103 : decode cX4_kinds 103 = .ok (.ior, 1) := by decide +kernel
theorem dX4_kinds_104 : decode cX4_kinds 104 = .ok (.istore 7, 2) := by decide +kernel
theorem dX4_kinds_106 : decode cX4_kinds 106 = .ok (.iinc 8 1, 3) := by decide +kernel
theorem dX4_kinds_109 : decode cX4_kinds 109 = .ok (.goto (-39), 3) := by decide +kernel
theorem dX4_kinds_112 : decode cX4_kinds 112 = .ok (.iload 7, 2) := by decide +kernel
theorem dX4_kinds_114 : decode cX4_kinds 114 = .ok (.ireturn, 1) := by decide +kernel
def b_X4_kinds_70 (kc70 : Int32 → Int32 → Int32 → Int32 → Int32 → GX → Option (Int32 × GX)) (x1 : Int32) (x2 : Int32) (x6 : Int32) (x7 : Int32) (x8 : Int32) (σ : GX) : Option (Int32 × GX) :=
  if x6 ≤ x8 then (some (x7, σ)) else (bnd (f_X4_think σ) fun q3 => grd x2 6 (bnd (some (sB q3.2 1 2 x2.toNatClampNeg x8)) fun σ4 => bnd (f_X4_firstOtherwise x1 x2 σ4) fun q5 => if q5.1 ≠ (-1 : Int32) then (kc70 x1 x2 x6 x7 (x8 + (1 : Int32)) q5.2) else (bnd (some (x7 ||| (slI (1 : Int32) x8))) fun w6 => kc70 x1 x2 x6 w6 (x8 + (1 : Int32)) q5.2)))
theorem vb_X4_kinds_70 {g : Gt} {ad : Nat → Nat} (z : Zt) (kc70 : Int32 → Int32 → Int32 → Int32 → Int32 → GX → Option (Int32 × GX)) (hkc70 : ∀ (x1 : Int32) (x2 : Int32) (x6 : Int32) (x7 : Int32) (x8 : Int32) (σ : GX), V g (LX ad) 8 RX4 cX4_kinds 9 (some .int) (wX g ad) iI z (kc70 x1 x2 x6 x7 x8 σ) σ 70 [(0, .ref (aMain ad)), (1, .int x1), (2, .int x2), (5, .ref (aSeaA ad 1 2)), (6, .int x6), (7, .int x7), (8, .int x8)] []) (x1 : Int32) (x2 : Int32) (x6 : Int32) (x7 : Int32) (x8 : Int32) (σ : GX) : V g (LX ad) 8 RX4 cX4_kinds 9 (some .int) (wX g ad) iI z (b_X4_kinds_70 kc70 x1 x2 x6 x7 x8 σ) σ 70 [(0, .ref (aMain ad)), (1, .int x1), (2, .int x2), (5, .ref (aSeaA ad 1 2)), (6, .int x6), (7, .int x7), (8, .int x8)] [] := by
  unfold b_X4_kinds_70
  refine v_iload (pc := 70) (i := 8) dX4_kinds_70 rfl ?_
  refine v_iload (pc := 72) (i := 6) dX4_kinds_72 rfl ?_
  refine v_icmp_ge (pc := 74) (tgt := 112) dX4_kinds_74 rfl ?_ ?_
  · refine v_iload (pc := 112) (i := 7) dX4_kinds_112 rfl ?_
    exact v_iret (pc := 114) dX4_kinds_114
  · refine v_aload_n (pc := 77) (i := 0) dX4_kinds_77 rfl rfl ?_
    refine v_callVv (pc := 78) rcX4 (As := []) (rest := []) (ct_X4_think) mi_X4_think q_517 (by decide) rfl rfl (Nat.le_of_ble_eq_true rfl) dX4_kinds_78 (fun q3 => ?_)
    refine v_aload (pc := 81) (i := 5) dX4_kinds_81 rfl ?_
    refine v_iload_n (pc := 83) (i := 2) dX4_kinds_83 rfl rfl ?_
    refine v_iload (pc := 84) (i := 8) dX4_kinds_84 rfl ?_
    refine sX_sea2 (pc := 86) (y := 1) (by decide) dX4_kinds_86 ?_
    refine v_nms (fun σ4 => ?_)
    refine v_aload_n (pc := 87) (i := 0) dX4_kinds_87 rfl rfl ?_
    refine v_iload_n (pc := 88) (i := 1) dX4_kinds_88 rfl rfl ?_
    refine v_iload_n (pc := 89) (i := 2) dX4_kinds_89 rfl rfl ?_
    refine v_callVi (pc := 90) rcX4 (As := [.int x1, .int x2]) (rest := []) (ct_X4_firstOtherwise x1 x2) mi_X4_firstOtherwise q_604 (by decide) rfl rfl (Nat.le_of_ble_eq_true rfl) dX4_kinds_90 (fun q5 => ?_)
    refine v_iconst (pc := 93) dX4_kinds_93 ic_m1 ?_
    refine v_icmp_ne (pc := 94) (tgt := 106) dX4_kinds_94 rfl ?_ ?_
    · refine v_iinc (pc := 106) (lv' := [(8, .int (x8 + (1 : Int32))), (0, .ref (aMain ad)), (1, .int x1), (2, .int x2), (5, .ref (aSeaA ad 1 2)), (6, .int x6), (7, .int x7)]) (i := 8) dX4_kinds_106 rfl ic_1 (by decide) rfl ?_
      refine v_goto (pc := 109) (tgt := 70) dX4_kinds_109 rfl ?_
      exact v_sub [1, 2, 3, 4, 5, 6, 0] rfl (hkc70 x1 x2 x6 x7 (x8 + (1 : Int32)) q5.2)
    · refine v_iload (pc := 97) (i := 7) dX4_kinds_97 rfl ?_
      refine v_iconst (pc := 99) dX4_kinds_99 ic_1 ?_
      refine v_iload (pc := 100) (i := 8) dX4_kinds_100 rfl ?_
      refine v_ishl (pc := 102) dX4_kinds_102 ?_
      refine v_ior (pc := 103) dX4_kinds_103 ?_
      refine v_nmi (fun w6 => ?_)
      refine v_istore (pc := 104) (lv' := [(7, .int w6), (0, .ref (aMain ad)), (1, .int x1), (2, .int x2), (5, .ref (aSeaA ad 1 2)), (6, .int x6), (8, .int x8)]) (i := 7) dX4_kinds_104 (by decide) rfl ?_
      refine v_iinc (pc := 106) (lv' := [(8, .int (x8 + (1 : Int32))), (7, .int w6), (0, .ref (aMain ad)), (1, .int x1), (2, .int x2), (5, .ref (aSeaA ad 1 2)), (6, .int x6)]) (i := 8) dX4_kinds_106 rfl ic_1 (by decide) rfl ?_
      refine v_goto (pc := 109) (tgt := 70) dX4_kinds_109 rfl ?_
      exact v_sub [2, 3, 4, 5, 6, 1, 0] rfl (hkc70 x1 x2 x6 w6 (x8 + (1 : Int32)) q5.2)
def k_X4_kinds_70 : Nat → Int32 → Int32 → Int32 → Int32 → Int32 → GX → Option (Int32 × GX)
  | 0 => fun _ _ _ _ _ _ => none
  | n + 1 => b_X4_kinds_70 (k_X4_kinds_70 n)
theorem vk_X4_kinds_70 {g : Gt} {ad : Nat → Nat} (z : Zt) : ∀ (n : Nat) (x1 : Int32) (x2 : Int32) (x6 : Int32) (x7 : Int32) (x8 : Int32) (σ : GX), V g (LX ad) 8 RX4 cX4_kinds 9 (some .int) (wX g ad) iI z (k_X4_kinds_70 n x1 x2 x6 x7 x8 σ) σ 70 [(0, .ref (aMain ad)), (1, .int x1), (2, .int x2), (5, .ref (aSeaA ad 1 2)), (6, .int x6), (7, .int x7), (8, .int x8)] [] := by
  intro n
  induction n with
  | zero => intros; exact v_eq rfl v_none
  | succ n ih =>
    intro x1 x2 x6 x7 x8 σ
    exact v_eq rfl (vb_X4_kinds_70 z _ ih x1 x2 x6 x7 x8 σ)
def b_X4_kinds_49 (x1 : Int32) (x2 : Int32) (x3 : Int32) (σ : GX) : Option (Int32 × GX) :=
  if x3 ≠ 0 then (k_X4_kinds_70 FU x1 x2 (10 : Int32) (0 : Int32) (0 : Int32) σ) else (k_X4_kinds_70 FU x1 x2 (6 : Int32) (0 : Int32) (0 : Int32) σ)
theorem vb_X4_kinds_49 {g : Gt} {ad : Nat → Nat} (z : Zt) (x1 : Int32) (x2 : Int32) (x3 : Int32) (σ : GX) : V g (LX ad) 8 RX4 cX4_kinds 9 (some .int) (wX g ad) iI z (b_X4_kinds_49 x1 x2 x3 σ) σ 49 [(0, .ref (aMain ad)), (1, .int x1), (2, .int x2), (3, .int x3)] [.ref (aSeaA ad 1 2)] := by
  unfold b_X4_kinds_49
  refine v_astore (pc := 49) (lv' := [(5, .ref (aSeaA ad 1 2)), (0, .ref (aMain ad)), (1, .int x1), (2, .int x2), (3, .int x3)]) (i := 5) dX4_kinds_49 (by decide) rfl ?_
  refine v_iload_n (pc := 51) (i := 3) dX4_kinds_51 rfl rfl ?_
  refine v_if_ne (pc := 52) (tgt := 60) dX4_kinds_52 rfl ?_ ?_
  · refine v_bipush (pc := 60) dX4_kinds_60 bp_10 ?_
    refine v_istore (pc := 62) (lv' := [(6, .int (10 : Int32)), (5, .ref (aSeaA ad 1 2)), (0, .ref (aMain ad)), (1, .int x1), (2, .int x2), (3, .int x3)]) (i := 6) dX4_kinds_62 (by decide) rfl ?_
    refine v_iconst (pc := 64) dX4_kinds_64 ic_0 ?_
    refine v_istore (pc := 65) (lv' := [(7, .int (0 : Int32)), (6, .int (10 : Int32)), (5, .ref (aSeaA ad 1 2)), (0, .ref (aMain ad)), (1, .int x1), (2, .int x2), (3, .int x3)]) (i := 7) dX4_kinds_65 (by decide) rfl ?_
    refine v_iconst (pc := 67) dX4_kinds_67 ic_0 ?_
    refine v_istore (pc := 68) (lv' := [(8, .int (0 : Int32)), (7, .int (0 : Int32)), (6, .int (10 : Int32)), (5, .ref (aSeaA ad 1 2)), (0, .ref (aMain ad)), (1, .int x1), (2, .int x2), (3, .int x3)]) (i := 8) dX4_kinds_68 (by decide) rfl ?_
    exact v_sub [4, 5, 6, 3, 2, 1, 0] rfl (vk_X4_kinds_70 z FU x1 x2 (10 : Int32) (0 : Int32) (0 : Int32) σ)
  · refine v_bipush (pc := 55) dX4_kinds_55 bp_6 ?_
    refine v_goto (pc := 57) (tgt := 62) dX4_kinds_57 rfl ?_
    refine v_istore (pc := 62) (lv' := [(6, .int (6 : Int32)), (5, .ref (aSeaA ad 1 2)), (0, .ref (aMain ad)), (1, .int x1), (2, .int x2), (3, .int x3)]) (i := 6) dX4_kinds_62 (by decide) rfl ?_
    refine v_iconst (pc := 64) dX4_kinds_64 ic_0 ?_
    refine v_istore (pc := 65) (lv' := [(7, .int (0 : Int32)), (6, .int (6 : Int32)), (5, .ref (aSeaA ad 1 2)), (0, .ref (aMain ad)), (1, .int x1), (2, .int x2), (3, .int x3)]) (i := 7) dX4_kinds_65 (by decide) rfl ?_
    refine v_iconst (pc := 67) dX4_kinds_67 ic_0 ?_
    refine v_istore (pc := 68) (lv' := [(8, .int (0 : Int32)), (7, .int (0 : Int32)), (6, .int (6 : Int32)), (5, .ref (aSeaA ad 1 2)), (0, .ref (aMain ad)), (1, .int x1), (2, .int x2), (3, .int x3)]) (i := 8) dX4_kinds_68 (by decide) rfl ?_
    exact v_sub [4, 5, 6, 3, 2, 1, 0] rfl (vk_X4_kinds_70 z FU x1 x2 (6 : Int32) (0 : Int32) (0 : Int32) σ)
def b_X4_kinds_70b (kc70 : Int32 → Int32 → Int32 → Int32 → Int32 → GX → Option (Int32 × GX)) (x1 : Int32) (x2 : Int32) (x6 : Int32) (x7 : Int32) (x8 : Int32) (σ : GX) : Option (Int32 × GX) :=
  if x6 ≤ x8 then (some (x7, σ)) else (bnd (f_X4_think σ) fun q7 => grd x2 6 (bnd (some (sB q7.2 1 1 x2.toNatClampNeg x8)) fun σ8 => bnd (f_X4_firstOtherwise x1 x2 σ8) fun q9 => if q9.1 ≠ (-1 : Int32) then (kc70 x1 x2 x6 x7 (x8 + (1 : Int32)) q9.2) else (bnd (some (x7 ||| (slI (1 : Int32) x8))) fun w10 => kc70 x1 x2 x6 w10 (x8 + (1 : Int32)) q9.2)))
theorem vb_X4_kinds_70b {g : Gt} {ad : Nat → Nat} (z : Zt) (kc70 : Int32 → Int32 → Int32 → Int32 → Int32 → GX → Option (Int32 × GX)) (hkc70 : ∀ (x1 : Int32) (x2 : Int32) (x6 : Int32) (x7 : Int32) (x8 : Int32) (σ : GX), V g (LX ad) 8 RX4 cX4_kinds 9 (some .int) (wX g ad) iI z (kc70 x1 x2 x6 x7 x8 σ) σ 70 [(0, .ref (aMain ad)), (1, .int x1), (2, .int x2), (5, .ref (aSeaA ad 1 1)), (6, .int x6), (7, .int x7), (8, .int x8)] []) (x1 : Int32) (x2 : Int32) (x6 : Int32) (x7 : Int32) (x8 : Int32) (σ : GX) : V g (LX ad) 8 RX4 cX4_kinds 9 (some .int) (wX g ad) iI z (b_X4_kinds_70b kc70 x1 x2 x6 x7 x8 σ) σ 70 [(0, .ref (aMain ad)), (1, .int x1), (2, .int x2), (5, .ref (aSeaA ad 1 1)), (6, .int x6), (7, .int x7), (8, .int x8)] [] := by
  unfold b_X4_kinds_70b
  refine v_iload (pc := 70) (i := 8) dX4_kinds_70 rfl ?_
  refine v_iload (pc := 72) (i := 6) dX4_kinds_72 rfl ?_
  refine v_icmp_ge (pc := 74) (tgt := 112) dX4_kinds_74 rfl ?_ ?_
  · refine v_iload (pc := 112) (i := 7) dX4_kinds_112 rfl ?_
    exact v_iret (pc := 114) dX4_kinds_114
  · refine v_aload_n (pc := 77) (i := 0) dX4_kinds_77 rfl rfl ?_
    refine v_callVv (pc := 78) rcX4 (As := []) (rest := []) (ct_X4_think) mi_X4_think q_517 (by decide) rfl rfl (Nat.le_of_ble_eq_true rfl) dX4_kinds_78 (fun q7 => ?_)
    refine v_aload (pc := 81) (i := 5) dX4_kinds_81 rfl ?_
    refine v_iload_n (pc := 83) (i := 2) dX4_kinds_83 rfl rfl ?_
    refine v_iload (pc := 84) (i := 8) dX4_kinds_84 rfl ?_
    refine sX_sea1 (pc := 86) (y := 1) (by decide) dX4_kinds_86 ?_
    refine v_nms (fun σ8 => ?_)
    refine v_aload_n (pc := 87) (i := 0) dX4_kinds_87 rfl rfl ?_
    refine v_iload_n (pc := 88) (i := 1) dX4_kinds_88 rfl rfl ?_
    refine v_iload_n (pc := 89) (i := 2) dX4_kinds_89 rfl rfl ?_
    refine v_callVi (pc := 90) rcX4 (As := [.int x1, .int x2]) (rest := []) (ct_X4_firstOtherwise x1 x2) mi_X4_firstOtherwise q_604 (by decide) rfl rfl (Nat.le_of_ble_eq_true rfl) dX4_kinds_90 (fun q9 => ?_)
    refine v_iconst (pc := 93) dX4_kinds_93 ic_m1 ?_
    refine v_icmp_ne (pc := 94) (tgt := 106) dX4_kinds_94 rfl ?_ ?_
    · refine v_iinc (pc := 106) (lv' := [(8, .int (x8 + (1 : Int32))), (0, .ref (aMain ad)), (1, .int x1), (2, .int x2), (5, .ref (aSeaA ad 1 1)), (6, .int x6), (7, .int x7)]) (i := 8) dX4_kinds_106 rfl ic_1 (by decide) rfl ?_
      refine v_goto (pc := 109) (tgt := 70) dX4_kinds_109 rfl ?_
      exact v_sub [1, 2, 3, 4, 5, 6, 0] rfl (hkc70 x1 x2 x6 x7 (x8 + (1 : Int32)) q9.2)
    · refine v_iload (pc := 97) (i := 7) dX4_kinds_97 rfl ?_
      refine v_iconst (pc := 99) dX4_kinds_99 ic_1 ?_
      refine v_iload (pc := 100) (i := 8) dX4_kinds_100 rfl ?_
      refine v_ishl (pc := 102) dX4_kinds_102 ?_
      refine v_ior (pc := 103) dX4_kinds_103 ?_
      refine v_nmi (fun w10 => ?_)
      refine v_istore (pc := 104) (lv' := [(7, .int w10), (0, .ref (aMain ad)), (1, .int x1), (2, .int x2), (5, .ref (aSeaA ad 1 1)), (6, .int x6), (8, .int x8)]) (i := 7) dX4_kinds_104 (by decide) rfl ?_
      refine v_iinc (pc := 106) (lv' := [(8, .int (x8 + (1 : Int32))), (7, .int w10), (0, .ref (aMain ad)), (1, .int x1), (2, .int x2), (5, .ref (aSeaA ad 1 1)), (6, .int x6)]) (i := 8) dX4_kinds_106 rfl ic_1 (by decide) rfl ?_
      refine v_goto (pc := 109) (tgt := 70) dX4_kinds_109 rfl ?_
      exact v_sub [2, 3, 4, 5, 6, 1, 0] rfl (hkc70 x1 x2 x6 w10 (x8 + (1 : Int32)) q9.2)
def k_X4_kinds_70b : Nat → Int32 → Int32 → Int32 → Int32 → Int32 → GX → Option (Int32 × GX)
  | 0 => fun _ _ _ _ _ _ => none
  | n + 1 => b_X4_kinds_70b (k_X4_kinds_70b n)
theorem vk_X4_kinds_70b {g : Gt} {ad : Nat → Nat} (z : Zt) : ∀ (n : Nat) (x1 : Int32) (x2 : Int32) (x6 : Int32) (x7 : Int32) (x8 : Int32) (σ : GX), V g (LX ad) 8 RX4 cX4_kinds 9 (some .int) (wX g ad) iI z (k_X4_kinds_70b n x1 x2 x6 x7 x8 σ) σ 70 [(0, .ref (aMain ad)), (1, .int x1), (2, .int x2), (5, .ref (aSeaA ad 1 1)), (6, .int x6), (7, .int x7), (8, .int x8)] [] := by
  intro n
  induction n with
  | zero => intros; exact v_eq rfl v_none
  | succ n ih =>
    intro x1 x2 x6 x7 x8 σ
    exact v_eq rfl (vb_X4_kinds_70b z _ ih x1 x2 x6 x7 x8 σ)
def b_X4_kinds_49b (x1 : Int32) (x2 : Int32) (x3 : Int32) (σ : GX) : Option (Int32 × GX) :=
  if x3 ≠ 0 then (k_X4_kinds_70b FU x1 x2 (10 : Int32) (0 : Int32) (0 : Int32) σ) else (k_X4_kinds_70b FU x1 x2 (6 : Int32) (0 : Int32) (0 : Int32) σ)
theorem vb_X4_kinds_49b {g : Gt} {ad : Nat → Nat} (z : Zt) (x1 : Int32) (x2 : Int32) (x3 : Int32) (σ : GX) : V g (LX ad) 8 RX4 cX4_kinds 9 (some .int) (wX g ad) iI z (b_X4_kinds_49b x1 x2 x3 σ) σ 49 [(0, .ref (aMain ad)), (1, .int x1), (2, .int x2), (3, .int x3)] [.ref (aSeaA ad 1 1)] := by
  unfold b_X4_kinds_49b
  refine v_astore (pc := 49) (lv' := [(5, .ref (aSeaA ad 1 1)), (0, .ref (aMain ad)), (1, .int x1), (2, .int x2), (3, .int x3)]) (i := 5) dX4_kinds_49 (by decide) rfl ?_
  refine v_iload_n (pc := 51) (i := 3) dX4_kinds_51 rfl rfl ?_
  refine v_if_ne (pc := 52) (tgt := 60) dX4_kinds_52 rfl ?_ ?_
  · refine v_bipush (pc := 60) dX4_kinds_60 bp_10 ?_
    refine v_istore (pc := 62) (lv' := [(6, .int (10 : Int32)), (5, .ref (aSeaA ad 1 1)), (0, .ref (aMain ad)), (1, .int x1), (2, .int x2), (3, .int x3)]) (i := 6) dX4_kinds_62 (by decide) rfl ?_
    refine v_iconst (pc := 64) dX4_kinds_64 ic_0 ?_
    refine v_istore (pc := 65) (lv' := [(7, .int (0 : Int32)), (6, .int (10 : Int32)), (5, .ref (aSeaA ad 1 1)), (0, .ref (aMain ad)), (1, .int x1), (2, .int x2), (3, .int x3)]) (i := 7) dX4_kinds_65 (by decide) rfl ?_
    refine v_iconst (pc := 67) dX4_kinds_67 ic_0 ?_
    refine v_istore (pc := 68) (lv' := [(8, .int (0 : Int32)), (7, .int (0 : Int32)), (6, .int (10 : Int32)), (5, .ref (aSeaA ad 1 1)), (0, .ref (aMain ad)), (1, .int x1), (2, .int x2), (3, .int x3)]) (i := 8) dX4_kinds_68 (by decide) rfl ?_
    exact v_sub [4, 5, 6, 3, 2, 1, 0] rfl (vk_X4_kinds_70b z FU x1 x2 (10 : Int32) (0 : Int32) (0 : Int32) σ)
  · refine v_bipush (pc := 55) dX4_kinds_55 bp_6 ?_
    refine v_goto (pc := 57) (tgt := 62) dX4_kinds_57 rfl ?_
    refine v_istore (pc := 62) (lv' := [(6, .int (6 : Int32)), (5, .ref (aSeaA ad 1 1)), (0, .ref (aMain ad)), (1, .int x1), (2, .int x2), (3, .int x3)]) (i := 6) dX4_kinds_62 (by decide) rfl ?_
    refine v_iconst (pc := 64) dX4_kinds_64 ic_0 ?_
    refine v_istore (pc := 65) (lv' := [(7, .int (0 : Int32)), (6, .int (6 : Int32)), (5, .ref (aSeaA ad 1 1)), (0, .ref (aMain ad)), (1, .int x1), (2, .int x2), (3, .int x3)]) (i := 7) dX4_kinds_65 (by decide) rfl ?_
    refine v_iconst (pc := 67) dX4_kinds_67 ic_0 ?_
    refine v_istore (pc := 68) (lv' := [(8, .int (0 : Int32)), (7, .int (0 : Int32)), (6, .int (6 : Int32)), (5, .ref (aSeaA ad 1 1)), (0, .ref (aMain ad)), (1, .int x1), (2, .int x2), (3, .int x3)]) (i := 8) dX4_kinds_68 (by decide) rfl ?_
    exact v_sub [4, 5, 6, 3, 2, 1, 0] rfl (vk_X4_kinds_70b z FU x1 x2 (6 : Int32) (0 : Int32) (0 : Int32) σ)
def f_X4_kinds (x1 : Int32) (x2 : Int32) (x3 : Int32) (σ : GX) : Option (Int32 × GX) :=
  bnd (f_X4_refusalToJudge x1 x2 σ) fun q1 => if q1.1 = 0 then (bnd (f_X4_within x3 (0 : Int32) (1 : Int32) q1.2) fun q2 => if q2.1 ≠ 0 then (if x3 ≠ 0 then (b_X4_kinds_49 x1 x2 x3 q2.2) else (b_X4_kinds_49b x1 x2 x3 q2.2)) else (some ((-7 : Int32), q2.2))) else (some (q1.1, q1.2))
theorem vf_X4_kinds {g : Gt} {ad : Nat → Nat} (z : Zt) (x1 : Int32) (x2 : Int32) (x3 : Int32) (σ : GX) : V g (LX ad) 8 RX4 cX4_kinds 9 (some .int) (wX g ad) iI z (f_X4_kinds x1 x2 x3 σ) σ 0 [(0, .ref (aMain ad)), (1, .int x1), (2, .int x2), (3, .int x3)] [] := by
  unfold f_X4_kinds
  refine v_aload_n (pc := 0) (i := 0) dX4_kinds_0 rfl rfl ?_
  refine v_iload_n (pc := 1) (i := 1) dX4_kinds_1 rfl rfl ?_
  refine v_iload_n (pc := 2) (i := 2) dX4_kinds_2 rfl rfl ?_
  refine v_callVi (pc := 3) rcX4 (As := [.int x1, .int x2]) (rest := []) (ct_X4_refusalToJudge x1 x2) mi_X4_refusalToJudge q_593 (by decide) rfl rfl (Nat.le_of_ble_eq_true rfl) dX4_kinds_3 (fun q1 => ?_)
  refine v_istore (pc := 6) (lv' := [(4, .int q1.1), (0, .ref (aMain ad)), (1, .int x1), (2, .int x2), (3, .int x3)]) (i := 4) dX4_kinds_6 (by decide) rfl ?_
  refine v_iload (pc := 8) (i := 4) dX4_kinds_8 rfl ?_
  refine v_if_eq (pc := 10) (tgt := 16) dX4_kinds_10 rfl ?_ ?_
  · refine v_iload_n (pc := 16) (i := 3) dX4_kinds_16 rfl rfl ?_
    refine v_iconst (pc := 17) dX4_kinds_17 ic_0 ?_
    refine v_iconst (pc := 18) dX4_kinds_18 ic_1 ?_
    refine v_callSi (pc := 19) (av := [.int x3, .int (0 : Int32), .int (1 : Int32)]) (rest := []) (ct_X4_within x3 (0 : Int32) (1 : Int32)) mi_X4_within q_384 (by decide) rfl rfl (Nat.le_of_ble_eq_true rfl) dX4_kinds_19 (fun q2 => ?_)
    refine v_if_ne (pc := 22) (tgt := 28) dX4_kinds_22 rfl ?_ ?_
    · refine v_iload_n (pc := 28) (i := 3) dX4_kinds_28 rfl rfl ?_
      refine v_if_ne (pc := 29) (tgt := 42) dX4_kinds_29 rfl ?_ ?_
      · refine v_aload_n (pc := 42) (i := 0) dX4_kinds_42 rfl rfl ?_
        refine gX4_thought (pc := 43) q_327 dX4_kinds_43 ?_
        refine gX2_more (pc := 46) (y := 1) (by decide) q_154 dX4_kinds_46 ?_
        exact v_sub [1, 2, 3, 4] rfl (vb_X4_kinds_49 z x1 x2 x3 q2.2)
      · refine v_aload_n (pc := 32) (i := 0) dX4_kinds_32 rfl rfl ?_
        refine gX4_thought (pc := 33) q_327 dX4_kinds_33 ?_
        refine gX2_kind (pc := 36) (y := 1) (by decide) q_152 dX4_kinds_36 ?_
        refine v_goto (pc := 39) (tgt := 49) dX4_kinds_39 rfl ?_
        exact v_sub [1, 2, 3, 4] rfl (vb_X4_kinds_49b z x1 x2 x3 q2.2)
    · refine v_bipush (pc := 25) dX4_kinds_25 bp_m7 ?_
      exact v_iret (pc := 27) dX4_kinds_27
  · refine v_iload (pc := 13) (i := 4) dX4_kinds_13 rfl ?_
    exact v_iret (pc := 15) dX4_kinds_15
theorem ct_X4_kinds {g : Gt} {ad : Nat → Nat} (x1 : Int32) (x2 : Int32) (x3 : Int32) : CT g (LX ad) yX4_kinds cX4_kinds 9 (some .int) 8 [.ref (aMain ad), .int x1, .int x2, .int x3] iI (wX g ad) (f_X4_kinds x1 x2 x3) :=
  ct_of_V (own := RX4) (lv0 := [(0, .ref (aMain ad)), (1, .int x1), (2, .int x2), (3, .int x3)]) (by decide +kernel) rfl (Nat.le_of_ble_eq_true rfl) rfl (fun z σ => vf_X4_kinds z x1 x2 x3 σ)
-- LighthouseLiedTo.places
theorem dX4_places_0 : decode cX4_places 0 = .ok (.aload_n 0, 1) := by decide +kernel
theorem dX4_places_1 : decode cX4_places 1 = .ok (.iload_n 1, 1) := by decide +kernel
theorem dX4_places_2 : decode cX4_places 2 = .ok (.iload_n 2, 1) := by decide +kernel
theorem dX4_places_3 : decode cX4_places 3 = .ok (.invokevirtual 192, 3) := by decide +kernel
theorem dX4_places_6 : decode cX4_places 6 = .ok (.ifCond .eq 7, 3) := by decide +kernel
theorem dX4_places_9 : decode cX4_places 9 = .ok (.ldc2_w 176, 3) := by decide +kernel
theorem dX4_places_12 : decode cX4_places 12 = .ok (.lreturn, 1) := by decide +kernel
theorem dX4_places_13 : decode cX4_places 13 = .ok (.lconst 0, 1) := by decide +kernel
theorem dX4_places_14 : decode cX4_places 14 = .ok (.lstore_n 3, 1) := by decide +kernel
theorem dX4_places_15 : decode cX4_places 15 = .ok (.iconst 0, 1) := by decide +kernel
theorem dX4_places_16 : decode cX4_places 16 = .ok (.istore 5, 2) := by decide +kernel
theorem dX4_places_18 : decode cX4_places 18 = .ok (.iload 5, 2) := by decide +kernel
theorem dX4_places_20 : decode cX4_places 20 = .ok (.bipush 36, 2) := by decide +kernel
theorem dX4_places_22 : decode cX4_places 22 = .ok (.if_icmp .ge 41, 3) := by decide +kernel
theorem dX4_places_25 : decode cX4_places 25 = .ok (.aload_n 0, 1) := by decide +kernel
theorem dX4_places_26 : decode cX4_places 26 = .ok (.invokevirtual 167, 3) := by decide +kernel
theorem dX4_places_29 : decode cX4_places 29 = .ok (.aload_n 0, 1) := by decide +kernel
theorem dX4_places_30 : decode cX4_places 30 = .ok (.getfield 43, 3) := by decide +kernel
theorem dX4_places_33 : decode cX4_places 33 = .ok (.getfield 139, 3) := by decide +kernel
theorem dX4_places_36 : decode cX4_places 36 = .ok (.iload_n 2, 1) := by decide +kernel
theorem dX4_places_37 : decode cX4_places 37 = .ok (.iload 5, 2) := by decide +kernel
theorem dX4_places_39 : decode cX4_places 39 = .ok (.iastore, 1) := by decide +kernel
theorem dX4_places_40 : decode cX4_places 40 = .ok (.aload_n 0, 1) := by decide +kernel
theorem dX4_places_41 : decode cX4_places 41 = .ok (.iload_n 1, 1) := by decide +kernel
theorem dX4_places_42 : decode cX4_places 42 = .ok (.iload_n 2, 1) := by decide +kernel
theorem dX4_places_43 : decode cX4_places 43 = .ok (.invokevirtual 195, 3) := by decide +kernel
theorem dX4_places_46 : decode cX4_places 46 = .ok (.iconst (-1), 1) := by decide +kernel
theorem dX4_places_47 : decode cX4_places 47 = .ok (.if_icmp .ne 10, 3) := by decide +kernel
theorem dX4_places_50 : decode cX4_places 50 = .ok (.lload_n 3, 1) := by decide +kernel
theorem dX4_places_51 : decode cX4_places 51 = .ok (.lconst 1, 1) := by decide +kernel
theorem dX4_places_52 : decode cX4_places 52 = .ok (.iload 5, 2) := by decide +kernel
theorem dX4_places_54 : decode cX4_places 54 = .ok (.lshl, 1) := by decide +kernel
theorem dX4_places_55 : decode cX4_places 55 = .ok (.lor, 1) := by decide +kernel
theorem dX4_places_56 : decode cX4_places 56 = .ok (.lstore_n 3, 1) := by decide +kernel
theorem dX4_places_57 : decode cX4_places 57 = .ok (.iinc 5 1, 3) := by decide +kernel
theorem dX4_places_60 : decode cX4_places 60 = .ok (.goto (-42), 3) := by decide +kernel
theorem dX4_places_63 : decode cX4_places 63 = .ok (.lload_n 3, 1) := by decide +kernel
theorem dX4_places_64 : decode cX4_places 64 = .ok (.lreturn, 1) := by decide +kernel
def b_X4_places_18 (kc18 : Int32 → Int32 → Int64 → Int32 → GX → Option (Int64 × GX)) (x1 : Int32) (x2 : Int32) (x3 : Int64) (x5 : Int32) (σ : GX) : Option (Int64 × GX) :=
  if (36 : Int32) ≤ x5 then (some (x3, σ)) else (bnd (f_X4_think σ) fun q2 => grd x2 6 (bnd (some (sB q2.2 1 3 x2.toNatClampNeg x5)) fun σ3 => bnd (f_X4_firstOtherwise x1 x2 σ3) fun q4 => if q4.1 ≠ (-1 : Int32) then (kc18 x1 x2 x3 (x5 + (1 : Int32)) q4.2) else (bnd (some (x3 ||| (slL (1 : Int64) x5))) fun w5 => kc18 x1 x2 w5 (x5 + (1 : Int32)) q4.2)))
theorem vb_X4_places_18 {g : Gt} {ad : Nat → Nat} (z : Zt) (kc18 : Int32 → Int32 → Int64 → Int32 → GX → Option (Int64 × GX)) (hkc18 : ∀ (x1 : Int32) (x2 : Int32) (x3 : Int64) (x5 : Int32) (σ : GX), V g (LX ad) 8 RX4 cX4_places 6 (some .long) (wX g ad) iL z (kc18 x1 x2 x3 x5 σ) σ 18 [(0, .ref (aMain ad)), (1, .int x1), (2, .int x2), (3, .long x3), (5, .int x5)] []) (x1 : Int32) (x2 : Int32) (x3 : Int64) (x5 : Int32) (σ : GX) : V g (LX ad) 8 RX4 cX4_places 6 (some .long) (wX g ad) iL z (b_X4_places_18 kc18 x1 x2 x3 x5 σ) σ 18 [(0, .ref (aMain ad)), (1, .int x1), (2, .int x2), (3, .long x3), (5, .int x5)] [] := by
  unfold b_X4_places_18
  refine v_iload (pc := 18) (i := 5) dX4_places_18 rfl ?_
  refine v_bipush (pc := 20) dX4_places_20 bp_36 ?_
  refine v_icmp_ge (pc := 22) (tgt := 63) dX4_places_22 rfl ?_ ?_
  · refine v_lload_n (pc := 63) (i := 3) dX4_places_63 rfl rfl ?_
    exact v_lret (pc := 64) dX4_places_64
  · refine v_aload_n (pc := 25) (i := 0) dX4_places_25 rfl rfl ?_
    refine v_callVv (pc := 26) rcX4 (As := []) (rest := []) (ct_X4_think) mi_X4_think q_517 (by decide) rfl rfl (Nat.le_of_ble_eq_true rfl) dX4_places_26 (fun q2 => ?_)
    refine v_aload_n (pc := 29) (i := 0) dX4_places_29 rfl rfl ?_
    refine gX4_thought (pc := 30) q_327 dX4_places_30 ?_
    refine gX2_cell (pc := 33) (y := 1) (by decide) q_156 dX4_places_33 ?_
    refine v_iload_n (pc := 36) (i := 2) dX4_places_36 rfl rfl ?_
    refine v_iload (pc := 37) (i := 5) dX4_places_37 rfl ?_
    refine sX_sea3 (pc := 39) (y := 1) (by decide) dX4_places_39 ?_
    refine v_nms (fun σ3 => ?_)
    refine v_aload_n (pc := 40) (i := 0) dX4_places_40 rfl rfl ?_
    refine v_iload_n (pc := 41) (i := 1) dX4_places_41 rfl rfl ?_
    refine v_iload_n (pc := 42) (i := 2) dX4_places_42 rfl rfl ?_
    refine v_callVi (pc := 43) rcX4 (As := [.int x1, .int x2]) (rest := []) (ct_X4_firstOtherwise x1 x2) mi_X4_firstOtherwise q_604 (by decide) rfl rfl (Nat.le_of_ble_eq_true rfl) dX4_places_43 (fun q4 => ?_)
    refine v_iconst (pc := 46) dX4_places_46 ic_m1 ?_
    refine v_icmp_ne (pc := 47) (tgt := 57) dX4_places_47 rfl ?_ ?_
    · refine v_iinc (pc := 57) (lv' := [(5, .int (x5 + (1 : Int32))), (0, .ref (aMain ad)), (1, .int x1), (2, .int x2), (3, .long x3)]) (i := 5) dX4_places_57 rfl ic_1 (by decide) rfl ?_
      refine v_goto (pc := 60) (tgt := 18) dX4_places_60 rfl ?_
      exact v_sub [1, 2, 3, 4, 0] rfl (hkc18 x1 x2 x3 (x5 + (1 : Int32)) q4.2)
    · refine v_lload_n (pc := 50) (i := 3) dX4_places_50 rfl rfl ?_
      refine v_lconst (pc := 51) dX4_places_51 lc_1 ?_
      refine v_iload (pc := 52) (i := 5) dX4_places_52 rfl ?_
      refine v_lshl (pc := 54) dX4_places_54 ?_
      refine v_lor (pc := 55) dX4_places_55 ?_
      refine v_nml (fun w5 => ?_)
      refine v_lstore_n (pc := 56) (lv' := [(3, .long w5), (0, .ref (aMain ad)), (1, .int x1), (2, .int x2), (5, .int x5)]) (i := 3) dX4_places_56 rfl (by decide) rfl ?_
      refine v_iinc (pc := 57) (lv' := [(5, .int (x5 + (1 : Int32))), (3, .long w5), (0, .ref (aMain ad)), (1, .int x1), (2, .int x2)]) (i := 5) dX4_places_57 rfl ic_1 (by decide) rfl ?_
      refine v_goto (pc := 60) (tgt := 18) dX4_places_60 rfl ?_
      exact v_sub [2, 3, 4, 1, 0] rfl (hkc18 x1 x2 w5 (x5 + (1 : Int32)) q4.2)
def k_X4_places_18 : Nat → Int32 → Int32 → Int64 → Int32 → GX → Option (Int64 × GX)
  | 0 => fun _ _ _ _ _ => none
  | n + 1 => b_X4_places_18 (k_X4_places_18 n)
theorem vk_X4_places_18 {g : Gt} {ad : Nat → Nat} (z : Zt) : ∀ (n : Nat) (x1 : Int32) (x2 : Int32) (x3 : Int64) (x5 : Int32) (σ : GX), V g (LX ad) 8 RX4 cX4_places 6 (some .long) (wX g ad) iL z (k_X4_places_18 n x1 x2 x3 x5 σ) σ 18 [(0, .ref (aMain ad)), (1, .int x1), (2, .int x2), (3, .long x3), (5, .int x5)] [] := by
  intro n
  induction n with
  | zero => intros; exact v_eq rfl v_none
  | succ n ih =>
    intro x1 x2 x3 x5 σ
    exact v_eq rfl (vb_X4_places_18 z _ ih x1 x2 x3 x5 σ)
def f_X4_places (x1 : Int32) (x2 : Int32) (σ : GX) : Option (Int64 × GX) :=
  bnd (f_X4_refusalToJudge x1 x2 σ) fun q1 => if q1.1 = 0 then (k_X4_places_18 FU x1 x2 (0 : Int64) (0 : Int32) q1.2) else (some ((-4611686018427387904 : Int64), q1.2))
theorem vf_X4_places {g : Gt} {ad : Nat → Nat} (z : Zt) (x1 : Int32) (x2 : Int32) (σ : GX) : V g (LX ad) 8 RX4 cX4_places 6 (some .long) (wX g ad) iL z (f_X4_places x1 x2 σ) σ 0 [(0, .ref (aMain ad)), (1, .int x1), (2, .int x2)] [] := by
  unfold f_X4_places
  refine v_aload_n (pc := 0) (i := 0) dX4_places_0 rfl rfl ?_
  refine v_iload_n (pc := 1) (i := 1) dX4_places_1 rfl rfl ?_
  refine v_iload_n (pc := 2) (i := 2) dX4_places_2 rfl rfl ?_
  refine v_callVi (pc := 3) rcX4 (As := [.int x1, .int x2]) (rest := []) (ct_X4_refusalToJudge x1 x2) mi_X4_refusalToJudge q_593 (by decide) rfl rfl (Nat.le_of_ble_eq_true rfl) dX4_places_3 (fun q1 => ?_)
  refine v_if_eq (pc := 6) (tgt := 13) dX4_places_6 rfl ?_ ?_
  · refine v_lconst (pc := 13) dX4_places_13 lc_0 ?_
    refine v_lstore_n (pc := 14) (lv' := [(3, .long (0 : Int64)), (0, .ref (aMain ad)), (1, .int x1), (2, .int x2)]) (i := 3) dX4_places_14 rfl (by decide) rfl ?_
    refine v_iconst (pc := 15) dX4_places_15 ic_0 ?_
    refine v_istore (pc := 16) (lv' := [(5, .int (0 : Int32)), (3, .long (0 : Int64)), (0, .ref (aMain ad)), (1, .int x1), (2, .int x2)]) (i := 5) dX4_places_16 (by decide) rfl ?_
    exact v_sub [2, 3, 4, 1, 0] rfl (vk_X4_places_18 z FU x1 x2 (0 : Int64) (0 : Int32) q1.2)
  · refine v_ldc2 (pc := 9) dX4_places_9 q_546 ?_
    exact v_lret (pc := 12) dX4_places_12
theorem ct_X4_places {g : Gt} {ad : Nat → Nat} (x1 : Int32) (x2 : Int32) : CT g (LX ad) yX4_places cX4_places 6 (some .long) 8 [.ref (aMain ad), .int x1, .int x2] iL (wX g ad) (f_X4_places x1 x2) :=
  ct_of_V (own := RX4) (lv0 := [(0, .ref (aMain ad)), (1, .int x1), (2, .int x2)]) (by decide +kernel) rfl (Nat.le_of_ble_eq_true rfl) rfl (fun z σ => vf_X4_places z x1 x2 σ)
-- LighthouseLiedTo.draughts
theorem dX4_draughts_0 : decode cX4_draughts 0 = .ok (.aload_n 0, 1) := by decide +kernel
theorem dX4_draughts_1 : decode cX4_draughts 1 = .ok (.iload_n 1, 1) := by decide +kernel
theorem dX4_draughts_2 : decode cX4_draughts 2 = .ok (.iload_n 2, 1) := by decide +kernel
theorem dX4_draughts_3 : decode cX4_draughts 3 = .ok (.invokevirtual 192, 3) := by decide +kernel
theorem dX4_draughts_6 : decode cX4_draughts 6 = .ok (.istore 4, 2) := by decide +kernel
theorem dX4_draughts_8 : decode cX4_draughts 8 = .ok (.iload 4, 2) := by decide +kernel
theorem dX4_draughts_10 : decode cX4_draughts 10 = .ok (.ifCond .eq 6, 3) := by decide +kernel
theorem dX4_draughts_13 : decode cX4_draughts 13 = .ok (.iload 4, 2) := by decide +kernel
theorem dX4_draughts_15 : decode cX4_draughts 15 = .ok (.ireturn, 1) := by decide +kernel
theorem dX4_draughts_16 : decode cX4_draughts 16 = .ok (.iload_n 3, 1) := by decide +kernel
theorem dX4_draughts_17 : decode cX4_draughts 17 = .ok (.iconst 0, 1) := by decide +kernel
theorem dX4_draughts_18 : decode cX4_draughts 18 = .ok (.iconst 1, 1) := by decide +kernel
theorem dX4_draughts_19 : decode cX4_draughts 19 = .ok (.invokestatic 106, 3) := by decide +kernel
theorem dX4_draughts_22 : decode cX4_draughts 22 = .ok (.ifCond .ne 6, 3) := by decide +kernel
theorem dX4_draughts_25 : decode cX4_draughts 25 = .ok (.bipush (-7), 2) := by decide +kernel
theorem dX4_draughts_27 : decode cX4_draughts 27 = .ok (.ireturn, 1) := by decide +kernel
theorem dX4_draughts_28 : decode cX4_draughts 28 = .ok (.iconst 0, 1) := by decide +kernel
theorem dX4_draughts_29 : decode cX4_draughts 29 = .ok (.istore 5, 2) := by decide +kernel
theorem dX4_draughts_31 : decode cX4_draughts 31 = .ok (.iconst (-1), 1) := by decide +kernel
theorem dX4_draughts_32 : decode cX4_draughts 32 = .ok (.istore 6, 2) := by decide +kernel
theorem dX4_draughts_34 : decode cX4_draughts 34 = .ok (.iconst 0, 1) := by decide +kernel
theorem dX4_draughts_35 : decode cX4_draughts 35 = .ok (.istore 7, 2) := by decide +kernel
theorem dX4_draughts_37 : decode cX4_draughts 37 = .ok (.iload 7, 2) := by decide +kernel
theorem dX4_draughts_39 : decode cX4_draughts 39 = .ok (.bipush 99, 2) := by decide +kernel
theorem dX4_draughts_41 : decode cX4_draughts 41 = .ok (.if_icmp .gt 52, 3) := by decide +kernel
theorem dX4_draughts_44 : decode cX4_draughts 44 = .ok (.aload_n 0, 1) := by decide +kernel
theorem dX4_draughts_45 : decode cX4_draughts 45 = .ok (.invokevirtual 167, 3) := by decide +kernel
theorem dX4_draughts_48 : decode cX4_draughts 48 = .ok (.aload_n 0, 1) := by decide +kernel
theorem dX4_draughts_49 : decode cX4_draughts 49 = .ok (.getfield 43, 3) := by decide +kernel
theorem dX4_draughts_52 : decode cX4_draughts 52 = .ok (.getfield 128, 3) := by decide +kernel
theorem dX4_draughts_55 : decode cX4_draughts 55 = .ok (.iload_n 2, 1) := by decide +kernel
theorem dX4_draughts_56 : decode cX4_draughts 56 = .ok (.iload 7, 2) := by decide +kernel
theorem dX4_draughts_58 : decode cX4_draughts 58 = .ok (.iastore, 1) := by decide +kernel
theorem dX4_draughts_59 : decode cX4_draughts 59 = .ok (.aload_n 0, 1) := by decide +kernel
theorem dX4_draughts_60 : decode cX4_draughts 60 = .ok (.iload_n 1, 1) := by decide +kernel
theorem dX4_draughts_61 : decode cX4_draughts 61 = .ok (.iload_n 2, 1) := by decide +kernel
theorem dX4_draughts_62 : decode cX4_draughts 62 = .ok (.invokevirtual 195, 3) := by decide +kernel
theorem dX4_draughts_65 : decode cX4_draughts 65 = .ok (.iconst (-1), 1) := by decide +kernel
theorem dX4_draughts_66 : decode cX4_draughts 66 = .ok (.if_icmp .ne 21, 3) := by decide +kernel
theorem dX4_draughts_69 : decode cX4_draughts 69 = .ok (.iinc 5 1, 3) := by decide +kernel
theorem dX4_draughts_72 : decode cX4_draughts 72 = .ok (.iload 6, 2) := by decide +kernel
theorem dX4_draughts_74 : decode cX4_draughts 74 = .ok (.iconst (-1), 1) := by decide +kernel
theorem dX4_draughts_75 : decode cX4_draughts 75 = .ok (.if_icmp .ne 8, 3) := by decide +kernel
theorem dX4_draughts_78 : decode cX4_draughts 78 = .ok (.iload 7, 2) := by decide +kernel
theorem dX4_draughts_80 : decode cX4_draughts 80 = .ok (.goto 5, 3) := by decide +kernel
theorem dX4_draughts_83 : decode cX4_draughts 83 = .ok (.iload 6, 2) := by decide +kernel
theorem dX4_draughts_85 : decode cX4_draughts 85 = .ok (.istore 6, 2) := by decide +kernel
theorem dX4_draughts_87 : decode cX4_draughts 87 = .ok (.iinc 7 1, 3) := by decide +kernel
theorem dX4_draughts_90 : decode cX4_draughts 90 = .ok (.goto (-53), 3) := by decide +kernel
theorem dX4_draughts_93 : decode cX4_draughts 93 = .ok (.iload_n 3, 1) := by decide +kernel
theorem dX4_draughts_94 : decode cX4_draughts 94 = .ok (.ifCond .ne 8, 3) := by decide +kernel
theorem dX4_draughts_97 : decode cX4_draughts 97 = .ok (.iload 5, 2) := by decide +kernel
theorem dX4_draughts_99 : decode cX4_draughts 99 = .ok (.goto 5, 3) := by decide +kernel
theorem dX4_draughts_102 : decode cX4_draughts 102 = .ok (.iload 6, 2) := by decide +kernel
theorem dX4_draughts_104 : decode cX4_draughts 104 = .ok (.ireturn, 1) := by decide +kernel
def b_X4_draughts_37 (kc37 : Int32 → Int32 → Int32 → Int32 → Int32 → Int32 → GX → Option (Int32 × GX)) (x1 : Int32) (x2 : Int32) (x3 : Int32) (x5 : Int32) (x6 : Int32) (x7 : Int32) (σ : GX) : Option (Int32 × GX) :=
  if (99 : Int32) < x7 then (if x3 ≠ 0 then (some (x6, σ)) else (some (x5, σ))) else (bnd (f_X4_think σ) fun q3 => grd x2 6 (bnd (some (sB q3.2 1 4 x2.toNatClampNeg x7)) fun σ4 => bnd (f_X4_firstOtherwise x1 x2 σ4) fun q5 => if q5.1 ≠ (-1 : Int32) then (kc37 x1 x2 x3 x5 x6 (x7 + (1 : Int32)) q5.2) else (if x6 ≠ (-1 : Int32) then (kc37 x1 x2 x3 (x5 + (1 : Int32)) x6 (x7 + (1 : Int32)) q5.2) else (kc37 x1 x2 x3 (x5 + (1 : Int32)) x7 (x7 + (1 : Int32)) q5.2))))
theorem vb_X4_draughts_37 {g : Gt} {ad : Nat → Nat} (z : Zt) (kc37 : Int32 → Int32 → Int32 → Int32 → Int32 → Int32 → GX → Option (Int32 × GX)) (hkc37 : ∀ (x1 : Int32) (x2 : Int32) (x3 : Int32) (x5 : Int32) (x6 : Int32) (x7 : Int32) (σ : GX), V g (LX ad) 8 RX4 cX4_draughts 8 (some .int) (wX g ad) iI z (kc37 x1 x2 x3 x5 x6 x7 σ) σ 37 [(0, .ref (aMain ad)), (1, .int x1), (2, .int x2), (3, .int x3), (5, .int x5), (6, .int x6), (7, .int x7)] []) (x1 : Int32) (x2 : Int32) (x3 : Int32) (x5 : Int32) (x6 : Int32) (x7 : Int32) (σ : GX) : V g (LX ad) 8 RX4 cX4_draughts 8 (some .int) (wX g ad) iI z (b_X4_draughts_37 kc37 x1 x2 x3 x5 x6 x7 σ) σ 37 [(0, .ref (aMain ad)), (1, .int x1), (2, .int x2), (3, .int x3), (5, .int x5), (6, .int x6), (7, .int x7)] [] := by
  unfold b_X4_draughts_37
  refine v_iload (pc := 37) (i := 7) dX4_draughts_37 rfl ?_
  refine v_bipush (pc := 39) dX4_draughts_39 bp_99 ?_
  refine v_icmp_gt (pc := 41) (tgt := 93) dX4_draughts_41 rfl ?_ ?_
  · refine v_iload_n (pc := 93) (i := 3) dX4_draughts_93 rfl rfl ?_
    refine v_if_ne (pc := 94) (tgt := 102) dX4_draughts_94 rfl ?_ ?_
    · refine v_iload (pc := 102) (i := 6) dX4_draughts_102 rfl ?_
      exact v_iret (pc := 104) dX4_draughts_104
    · refine v_iload (pc := 97) (i := 5) dX4_draughts_97 rfl ?_
      refine v_goto (pc := 99) (tgt := 104) dX4_draughts_99 rfl ?_
      exact v_iret (pc := 104) dX4_draughts_104
  · refine v_aload_n (pc := 44) (i := 0) dX4_draughts_44 rfl rfl ?_
    refine v_callVv (pc := 45) rcX4 (As := []) (rest := []) (ct_X4_think) mi_X4_think q_517 (by decide) rfl rfl (Nat.le_of_ble_eq_true rfl) dX4_draughts_45 (fun q3 => ?_)
    refine v_aload_n (pc := 48) (i := 0) dX4_draughts_48 rfl rfl ?_
    refine gX4_thought (pc := 49) q_327 dX4_draughts_49 ?_
    refine gX2_draught (pc := 52) (y := 1) (by decide) q_158 dX4_draughts_52 ?_
    refine v_iload_n (pc := 55) (i := 2) dX4_draughts_55 rfl rfl ?_
    refine v_iload (pc := 56) (i := 7) dX4_draughts_56 rfl ?_
    refine sX_sea4 (pc := 58) (y := 1) (by decide) dX4_draughts_58 ?_
    refine v_nms (fun σ4 => ?_)
    refine v_aload_n (pc := 59) (i := 0) dX4_draughts_59 rfl rfl ?_
    refine v_iload_n (pc := 60) (i := 1) dX4_draughts_60 rfl rfl ?_
    refine v_iload_n (pc := 61) (i := 2) dX4_draughts_61 rfl rfl ?_
    refine v_callVi (pc := 62) rcX4 (As := [.int x1, .int x2]) (rest := []) (ct_X4_firstOtherwise x1 x2) mi_X4_firstOtherwise q_604 (by decide) rfl rfl (Nat.le_of_ble_eq_true rfl) dX4_draughts_62 (fun q5 => ?_)
    refine v_iconst (pc := 65) dX4_draughts_65 ic_m1 ?_
    refine v_icmp_ne (pc := 66) (tgt := 87) dX4_draughts_66 rfl ?_ ?_
    · refine v_iinc (pc := 87) (lv' := [(7, .int (x7 + (1 : Int32))), (0, .ref (aMain ad)), (1, .int x1), (2, .int x2), (3, .int x3), (5, .int x5), (6, .int x6)]) (i := 7) dX4_draughts_87 rfl ic_1 (by decide) rfl ?_
      refine v_goto (pc := 90) (tgt := 37) dX4_draughts_90 rfl ?_
      exact v_sub [1, 2, 3, 4, 5, 6, 0] rfl (hkc37 x1 x2 x3 x5 x6 (x7 + (1 : Int32)) q5.2)
    · refine v_iinc (pc := 69) (lv' := [(5, .int (x5 + (1 : Int32))), (0, .ref (aMain ad)), (1, .int x1), (2, .int x2), (3, .int x3), (6, .int x6), (7, .int x7)]) (i := 5) dX4_draughts_69 rfl ic_1 (by decide) rfl ?_
      refine v_iload (pc := 72) (i := 6) dX4_draughts_72 rfl ?_
      refine v_iconst (pc := 74) dX4_draughts_74 ic_m1 ?_
      refine v_icmp_ne (pc := 75) (tgt := 83) dX4_draughts_75 rfl ?_ ?_
      · refine v_iload (pc := 83) (i := 6) dX4_draughts_83 rfl ?_
        refine v_istore (pc := 85) (lv' := [(6, .int x6), (5, .int (x5 + (1 : Int32))), (0, .ref (aMain ad)), (1, .int x1), (2, .int x2), (3, .int x3), (7, .int x7)]) (i := 6) dX4_draughts_85 (by decide) rfl ?_
        refine v_iinc (pc := 87) (lv' := [(7, .int (x7 + (1 : Int32))), (6, .int x6), (5, .int (x5 + (1 : Int32))), (0, .ref (aMain ad)), (1, .int x1), (2, .int x2), (3, .int x3)]) (i := 7) dX4_draughts_87 rfl ic_1 (by decide) rfl ?_
        refine v_goto (pc := 90) (tgt := 37) dX4_draughts_90 rfl ?_
        exact v_sub [3, 4, 5, 6, 2, 1, 0] rfl (hkc37 x1 x2 x3 (x5 + (1 : Int32)) x6 (x7 + (1 : Int32)) q5.2)
      · refine v_iload (pc := 78) (i := 7) dX4_draughts_78 rfl ?_
        refine v_goto (pc := 80) (tgt := 85) dX4_draughts_80 rfl ?_
        refine v_istore (pc := 85) (lv' := [(6, .int x7), (5, .int (x5 + (1 : Int32))), (0, .ref (aMain ad)), (1, .int x1), (2, .int x2), (3, .int x3), (7, .int x7)]) (i := 6) dX4_draughts_85 (by decide) rfl ?_
        refine v_iinc (pc := 87) (lv' := [(7, .int (x7 + (1 : Int32))), (6, .int x7), (5, .int (x5 + (1 : Int32))), (0, .ref (aMain ad)), (1, .int x1), (2, .int x2), (3, .int x3)]) (i := 7) dX4_draughts_87 rfl ic_1 (by decide) rfl ?_
        refine v_goto (pc := 90) (tgt := 37) dX4_draughts_90 rfl ?_
        exact v_sub [3, 4, 5, 6, 2, 1, 0] rfl (hkc37 x1 x2 x3 (x5 + (1 : Int32)) x7 (x7 + (1 : Int32)) q5.2)
def k_X4_draughts_37 : Nat → Int32 → Int32 → Int32 → Int32 → Int32 → Int32 → GX → Option (Int32 × GX)
  | 0 => fun _ _ _ _ _ _ _ => none
  | n + 1 => b_X4_draughts_37 (k_X4_draughts_37 n)
theorem vk_X4_draughts_37 {g : Gt} {ad : Nat → Nat} (z : Zt) : ∀ (n : Nat) (x1 : Int32) (x2 : Int32) (x3 : Int32) (x5 : Int32) (x6 : Int32) (x7 : Int32) (σ : GX), V g (LX ad) 8 RX4 cX4_draughts 8 (some .int) (wX g ad) iI z (k_X4_draughts_37 n x1 x2 x3 x5 x6 x7 σ) σ 37 [(0, .ref (aMain ad)), (1, .int x1), (2, .int x2), (3, .int x3), (5, .int x5), (6, .int x6), (7, .int x7)] [] := by
  intro n
  induction n with
  | zero => intros; exact v_eq rfl v_none
  | succ n ih =>
    intro x1 x2 x3 x5 x6 x7 σ
    exact v_eq rfl (vb_X4_draughts_37 z _ ih x1 x2 x3 x5 x6 x7 σ)
def f_X4_draughts (x1 : Int32) (x2 : Int32) (x3 : Int32) (σ : GX) : Option (Int32 × GX) :=
  bnd (f_X4_refusalToJudge x1 x2 σ) fun q1 => if q1.1 = 0 then (bnd (f_X4_within x3 (0 : Int32) (1 : Int32) q1.2) fun q2 => if q2.1 ≠ 0 then (k_X4_draughts_37 FU x1 x2 x3 (0 : Int32) (-1 : Int32) (0 : Int32) q2.2) else (some ((-7 : Int32), q2.2))) else (some (q1.1, q1.2))
theorem vf_X4_draughts {g : Gt} {ad : Nat → Nat} (z : Zt) (x1 : Int32) (x2 : Int32) (x3 : Int32) (σ : GX) : V g (LX ad) 8 RX4 cX4_draughts 8 (some .int) (wX g ad) iI z (f_X4_draughts x1 x2 x3 σ) σ 0 [(0, .ref (aMain ad)), (1, .int x1), (2, .int x2), (3, .int x3)] [] := by
  unfold f_X4_draughts
  refine v_aload_n (pc := 0) (i := 0) dX4_draughts_0 rfl rfl ?_
  refine v_iload_n (pc := 1) (i := 1) dX4_draughts_1 rfl rfl ?_
  refine v_iload_n (pc := 2) (i := 2) dX4_draughts_2 rfl rfl ?_
  refine v_callVi (pc := 3) rcX4 (As := [.int x1, .int x2]) (rest := []) (ct_X4_refusalToJudge x1 x2) mi_X4_refusalToJudge q_593 (by decide) rfl rfl (Nat.le_of_ble_eq_true rfl) dX4_draughts_3 (fun q1 => ?_)
  refine v_istore (pc := 6) (lv' := [(4, .int q1.1), (0, .ref (aMain ad)), (1, .int x1), (2, .int x2), (3, .int x3)]) (i := 4) dX4_draughts_6 (by decide) rfl ?_
  refine v_iload (pc := 8) (i := 4) dX4_draughts_8 rfl ?_
  refine v_if_eq (pc := 10) (tgt := 16) dX4_draughts_10 rfl ?_ ?_
  · refine v_iload_n (pc := 16) (i := 3) dX4_draughts_16 rfl rfl ?_
    refine v_iconst (pc := 17) dX4_draughts_17 ic_0 ?_
    refine v_iconst (pc := 18) dX4_draughts_18 ic_1 ?_
    refine v_callSi (pc := 19) (av := [.int x3, .int (0 : Int32), .int (1 : Int32)]) (rest := []) (ct_X4_within x3 (0 : Int32) (1 : Int32)) mi_X4_within q_384 (by decide) rfl rfl (Nat.le_of_ble_eq_true rfl) dX4_draughts_19 (fun q2 => ?_)
    refine v_if_ne (pc := 22) (tgt := 28) dX4_draughts_22 rfl ?_ ?_
    · refine v_iconst (pc := 28) dX4_draughts_28 ic_0 ?_
      refine v_istore (pc := 29) (lv' := [(5, .int (0 : Int32)), (4, .int q1.1), (0, .ref (aMain ad)), (1, .int x1), (2, .int x2), (3, .int x3)]) (i := 5) dX4_draughts_29 (by decide) rfl ?_
      refine v_iconst (pc := 31) dX4_draughts_31 ic_m1 ?_
      refine v_istore (pc := 32) (lv' := [(6, .int (-1 : Int32)), (5, .int (0 : Int32)), (4, .int q1.1), (0, .ref (aMain ad)), (1, .int x1), (2, .int x2), (3, .int x3)]) (i := 6) dX4_draughts_32 (by decide) rfl ?_
      refine v_iconst (pc := 34) dX4_draughts_34 ic_0 ?_
      refine v_istore (pc := 35) (lv' := [(7, .int (0 : Int32)), (6, .int (-1 : Int32)), (5, .int (0 : Int32)), (4, .int q1.1), (0, .ref (aMain ad)), (1, .int x1), (2, .int x2), (3, .int x3)]) (i := 7) dX4_draughts_35 (by decide) rfl ?_
      exact v_sub [4, 5, 6, 7, 2, 1, 0] rfl (vk_X4_draughts_37 z FU x1 x2 x3 (0 : Int32) (-1 : Int32) (0 : Int32) q2.2)
    · refine v_bipush (pc := 25) dX4_draughts_25 bp_m7 ?_
      exact v_iret (pc := 27) dX4_draughts_27
  · refine v_iload (pc := 13) (i := 4) dX4_draughts_13 rfl ?_
    exact v_iret (pc := 15) dX4_draughts_15
theorem ct_X4_draughts {g : Gt} {ad : Nat → Nat} (x1 : Int32) (x2 : Int32) (x3 : Int32) : CT g (LX ad) yX4_draughts cX4_draughts 8 (some .int) 8 [.ref (aMain ad), .int x1, .int x2, .int x3] iI (wX g ad) (f_X4_draughts x1 x2 x3) :=
  ct_of_V (own := RX4) (lv0 := [(0, .ref (aMain ad)), (1, .int x1), (2, .int x2), (3, .int x3)]) (by decide +kernel) rfl (Nat.le_of_ble_eq_true rfl) rfl (fun z σ => vf_X4_draughts z x1 x2 x3 σ)
-- LighthouseLiedTo.whose
theorem dX4_whose_0 : decode cX4_whose 0 = .ok (.aload_n 0, 1) := by decide +kernel
theorem dX4_whose_1 : decode cX4_whose 1 = .ok (.iload_n 1, 1) := by decide +kernel
theorem dX4_whose_2 : decode cX4_whose 2 = .ok (.invokevirtual 198, 3) := by decide +kernel
theorem dX4_whose_5 : decode cX4_whose 5 = .ok (.istore_n 2, 1) := by decide +kernel
theorem dX4_whose_6 : decode cX4_whose 6 = .ok (.iload_n 2, 1) := by decide +kernel
theorem dX4_whose_7 : decode cX4_whose 7 = .ok (.ifCond .eq 5, 3) := by decide +kernel
theorem dX4_whose_10 : decode cX4_whose 10 = .ok (.iload_n 2, 1) := by decide +kernel
theorem dX4_whose_11 : decode cX4_whose 11 = .ok (.ireturn, 1) := by decide +kernel
theorem dX4_whose_12 : decode cX4_whose 12 = .ok (.iconst 0, 1) := by decide +kernel
theorem dX4_whose_13 : decode cX4_whose 13 = .ok (.istore_n 3, 1) := by decide +kernel
theorem dX4_whose_14 : decode cX4_whose 14 = .ok (.iconst 0, 1) := by decide +kernel
theorem dX4_whose_15 : decode cX4_whose 15 = .ok (.istore 4, 2) := by decide +kernel
theorem dX4_whose_17 : decode cX4_whose 17 = .ok (.iload 4, 2) := by decide +kernel
theorem dX4_whose_19 : decode cX4_whose 19 = .ok (.aload_n 0, 1) := by decide +kernel
theorem dX4_whose_20 : decode cX4_whose 20 = .ok (.getfield 39, 3) := by decide +kernel
theorem dX4_whose_23 : decode cX4_whose 23 = .ok (.getfield 69, 3) := by decide +kernel
theorem dX4_whose_26 : decode cX4_whose 26 = .ok (.if_icmp .ge 31, 3) := by decide +kernel
theorem dX4_whose_29 : decode cX4_whose 29 = .ok (.aload_n 0, 1) := by decide +kernel
theorem dX4_whose_30 : decode cX4_whose 30 = .ok (.invokevirtual 167, 3) := by decide +kernel
theorem dX4_whose_33 : decode cX4_whose 33 = .ok (.aload_n 0, 1) := by decide +kernel
theorem dX4_whose_34 : decode cX4_whose 34 = .ok (.iload_n 1, 1) := by decide +kernel
theorem dX4_whose_35 : decode cX4_whose 35 = .ok (.iload 4, 2) := by decide +kernel
theorem dX4_whose_37 : decode cX4_whose 37 = .ok (.invokevirtual 195, 3) := by decide +kernel
theorem dX4_whose_40 : decode cX4_whose 40 = .ok (.iconst (-1), 1) := by decide +kernel
theorem dX4_whose_41 : decode cX4_whose 41 = .ok (.if_icmp .ne 10, 3) := by decide +kernel
theorem dX4_whose_44 : decode cX4_whose 44 = .ok (.iload_n 3, 1) := by decide +kernel
theorem dX4_whose_45 : decode cX4_whose 45 = .ok (.iconst 1, 1) := by decide +kernel
theorem dX4_whose_46 : decode cX4_whose 46 = .ok (.iload 4, 2) := by decide +kernel
theorem dX4_whose_48 : decode cX4_whose 48 = .ok (.ishl, 1) := by decide +kernel
theorem dX4_whose_49 : decode cX4_whose 49 = .ok (.ior, 1) := by decide +kernel
theorem dX4_whose_50 : decode cX4_whose 50 = .ok (.istore_n 3, 1) := by decide +kernel
theorem dX4_whose_51 : decode cX4_whose 51 = .ok (.iinc 4 1, 3) := by decide +kernel
theorem dX4_whose_54 : decode cX4_whose 54 = .ok (.goto (-37), 3) := by decide +kernel
theorem dX4_whose_57 : decode cX4_whose 57 = .ok (.iload_n 3, 1) := by decide +kernel
theorem dX4_whose_58 : decode cX4_whose 58 = .ok (.ireturn, 1) := by decide +kernel
def b_X4_whose_17 (kc17 : Int32 → Int32 → Int32 → GX → Option (Int32 × GX)) (x1 : Int32) (x3 : Int32) (x4 : Int32) (σ : GX) : Option (Int32 × GX) :=
  if (xS σ 0 1) ≤ x4 then (some (x3, σ)) else (bnd (f_X4_think σ) fun q2 => bnd (f_X4_firstOtherwise x1 x4 q2.2) fun q3 => if q3.1 ≠ (-1 : Int32) then (kc17 x1 x3 (x4 + (1 : Int32)) q3.2) else (bnd (some (x3 ||| (slI (1 : Int32) x4))) fun w4 => kc17 x1 w4 (x4 + (1 : Int32)) q3.2))
theorem vb_X4_whose_17 {g : Gt} {ad : Nat → Nat} (z : Zt) (kc17 : Int32 → Int32 → Int32 → GX → Option (Int32 × GX)) (hkc17 : ∀ (x1 : Int32) (x3 : Int32) (x4 : Int32) (σ : GX), V g (LX ad) 8 RX4 cX4_whose 5 (some .int) (wX g ad) iI z (kc17 x1 x3 x4 σ) σ 17 [(0, .ref (aMain ad)), (1, .int x1), (3, .int x3), (4, .int x4)] []) (x1 : Int32) (x3 : Int32) (x4 : Int32) (σ : GX) : V g (LX ad) 8 RX4 cX4_whose 5 (some .int) (wX g ad) iI z (b_X4_whose_17 kc17 x1 x3 x4 σ) σ 17 [(0, .ref (aMain ad)), (1, .int x1), (3, .int x3), (4, .int x4)] [] := by
  unfold b_X4_whose_17
  refine v_iload (pc := 17) (i := 4) dX4_whose_17 rfl ?_
  refine v_aload_n (pc := 19) (i := 0) dX4_whose_19 rfl rfl ?_
  refine gX4_now (pc := 20) q_326 dX4_whose_20 ?_
  refine gX2_ships (pc := 23) (y := 0) (by decide) q_163 dX4_whose_23 ?_
  refine v_icmp_ge (pc := 26) (tgt := 57) dX4_whose_26 rfl ?_ ?_
  · refine v_iload_n (pc := 57) (i := 3) dX4_whose_57 rfl rfl ?_
    exact v_iret (pc := 58) dX4_whose_58
  · refine v_aload_n (pc := 29) (i := 0) dX4_whose_29 rfl rfl ?_
    refine v_callVv (pc := 30) rcX4 (As := []) (rest := []) (ct_X4_think) mi_X4_think q_517 (by decide) rfl rfl (Nat.le_of_ble_eq_true rfl) dX4_whose_30 (fun q2 => ?_)
    refine v_aload_n (pc := 33) (i := 0) dX4_whose_33 rfl rfl ?_
    refine v_iload_n (pc := 34) (i := 1) dX4_whose_34 rfl rfl ?_
    refine v_iload (pc := 35) (i := 4) dX4_whose_35 rfl ?_
    refine v_callVi (pc := 37) rcX4 (As := [.int x1, .int x4]) (rest := []) (ct_X4_firstOtherwise x1 x4) mi_X4_firstOtherwise q_604 (by decide) rfl rfl (Nat.le_of_ble_eq_true rfl) dX4_whose_37 (fun q3 => ?_)
    refine v_iconst (pc := 40) dX4_whose_40 ic_m1 ?_
    refine v_icmp_ne (pc := 41) (tgt := 51) dX4_whose_41 rfl ?_ ?_
    · refine v_iinc (pc := 51) (lv' := [(4, .int (x4 + (1 : Int32))), (0, .ref (aMain ad)), (1, .int x1), (3, .int x3)]) (i := 4) dX4_whose_51 rfl ic_1 (by decide) rfl ?_
      refine v_goto (pc := 54) (tgt := 17) dX4_whose_54 rfl ?_
      exact v_sub [1, 2, 3, 0] rfl (hkc17 x1 x3 (x4 + (1 : Int32)) q3.2)
    · refine v_iload_n (pc := 44) (i := 3) dX4_whose_44 rfl rfl ?_
      refine v_iconst (pc := 45) dX4_whose_45 ic_1 ?_
      refine v_iload (pc := 46) (i := 4) dX4_whose_46 rfl ?_
      refine v_ishl (pc := 48) dX4_whose_48 ?_
      refine v_ior (pc := 49) dX4_whose_49 ?_
      refine v_nmi (fun w4 => ?_)
      refine v_istore_n (pc := 50) (lv' := [(3, .int w4), (0, .ref (aMain ad)), (1, .int x1), (4, .int x4)]) (i := 3) dX4_whose_50 rfl (by decide) rfl ?_
      refine v_iinc (pc := 51) (lv' := [(4, .int (x4 + (1 : Int32))), (3, .int w4), (0, .ref (aMain ad)), (1, .int x1)]) (i := 4) dX4_whose_51 rfl ic_1 (by decide) rfl ?_
      refine v_goto (pc := 54) (tgt := 17) dX4_whose_54 rfl ?_
      exact v_sub [2, 3, 1, 0] rfl (hkc17 x1 w4 (x4 + (1 : Int32)) q3.2)
def k_X4_whose_17 : Nat → Int32 → Int32 → Int32 → GX → Option (Int32 × GX)
  | 0 => fun _ _ _ _ => none
  | n + 1 => b_X4_whose_17 (k_X4_whose_17 n)
theorem vk_X4_whose_17 {g : Gt} {ad : Nat → Nat} (z : Zt) : ∀ (n : Nat) (x1 : Int32) (x3 : Int32) (x4 : Int32) (σ : GX), V g (LX ad) 8 RX4 cX4_whose 5 (some .int) (wX g ad) iI z (k_X4_whose_17 n x1 x3 x4 σ) σ 17 [(0, .ref (aMain ad)), (1, .int x1), (3, .int x3), (4, .int x4)] [] := by
  intro n
  induction n with
  | zero => intros; exact v_eq rfl v_none
  | succ n ih =>
    intro x1 x3 x4 σ
    exact v_eq rfl (vb_X4_whose_17 z _ ih x1 x3 x4 σ)
def f_X4_whose (x1 : Int32) (σ : GX) : Option (Int32 × GX) :=
  bnd (f_X4_refusalOfTold x1 σ) fun q1 => if q1.1 = 0 then (k_X4_whose_17 FU x1 (0 : Int32) (0 : Int32) q1.2) else (some (q1.1, q1.2))
theorem vf_X4_whose {g : Gt} {ad : Nat → Nat} (z : Zt) (x1 : Int32) (σ : GX) : V g (LX ad) 8 RX4 cX4_whose 5 (some .int) (wX g ad) iI z (f_X4_whose x1 σ) σ 0 [(0, .ref (aMain ad)), (1, .int x1)] [] := by
  unfold f_X4_whose
  refine v_aload_n (pc := 0) (i := 0) dX4_whose_0 rfl rfl ?_
  refine v_iload_n (pc := 1) (i := 1) dX4_whose_1 rfl rfl ?_
  refine v_callVi (pc := 2) rcX4 (As := [.int x1]) (rest := []) (ct_X4_refusalOfTold x1) mi_X4_refusalOfTold q_597 (by decide) rfl rfl (Nat.le_of_ble_eq_true rfl) dX4_whose_2 (fun q1 => ?_)
  refine v_istore_n (pc := 5) (lv' := [(2, .int q1.1), (0, .ref (aMain ad)), (1, .int x1)]) (i := 2) dX4_whose_5 rfl (by decide) rfl ?_
  refine v_iload_n (pc := 6) (i := 2) dX4_whose_6 rfl rfl ?_
  refine v_if_eq (pc := 7) (tgt := 12) dX4_whose_7 rfl ?_ ?_
  · refine v_iconst (pc := 12) dX4_whose_12 ic_0 ?_
    refine v_istore_n (pc := 13) (lv' := [(3, .int (0 : Int32)), (2, .int q1.1), (0, .ref (aMain ad)), (1, .int x1)]) (i := 3) dX4_whose_13 rfl (by decide) rfl ?_
    refine v_iconst (pc := 14) dX4_whose_14 ic_0 ?_
    refine v_istore (pc := 15) (lv' := [(4, .int (0 : Int32)), (3, .int (0 : Int32)), (2, .int q1.1), (0, .ref (aMain ad)), (1, .int x1)]) (i := 4) dX4_whose_15 (by decide) rfl ?_
    exact v_sub [3, 4, 1, 0] rfl (vk_X4_whose_17 z FU x1 (0 : Int32) (0 : Int32) q1.2)
  · refine v_iload_n (pc := 10) (i := 2) dX4_whose_10 rfl rfl ?_
    exact v_iret (pc := 11) dX4_whose_11
theorem ct_X4_whose {g : Gt} {ad : Nat → Nat} (x1 : Int32) : CT g (LX ad) yX4_whose cX4_whose 5 (some .int) 8 [.ref (aMain ad), .int x1] iI (wX g ad) (f_X4_whose x1) :=
  ct_of_V (own := RX4) (lv0 := [(0, .ref (aMain ad)), (1, .int x1)]) (by decide +kernel) rfl (Nat.le_of_ble_eq_true rfl) rfl (fun z σ => vf_X4_whose z x1 σ)
-- LighthouseLiedTo.laws
theorem dX4_laws_0 : decode cX4_laws 0 = .ok (.aload_n 0, 1) := by decide +kernel
theorem dX4_laws_1 : decode cX4_laws 1 = .ok (.iload_n 1, 1) := by decide +kernel
theorem dX4_laws_2 : decode cX4_laws 2 = .ok (.iload_n 2, 1) := by decide +kernel
theorem dX4_laws_3 : decode cX4_laws 3 = .ok (.invokevirtual 192, 3) := by decide +kernel
theorem dX4_laws_6 : decode cX4_laws 6 = .ok (.istore_n 3, 1) := by decide +kernel
theorem dX4_laws_7 : decode cX4_laws 7 = .ok (.iload_n 3, 1) := by decide +kernel
theorem dX4_laws_8 : decode cX4_laws 8 = .ok (.ifCond .eq 5, 3) := by decide +kernel
theorem dX4_laws_11 : decode cX4_laws 11 = .ok (.iload_n 3, 1) := by decide +kernel
theorem dX4_laws_12 : decode cX4_laws 12 = .ok (.ireturn, 1) := by decide +kernel
theorem dX4_laws_13 : decode cX4_laws 13 = .ok (.iconst 0, 1) := by decide +kernel
theorem dX4_laws_14 : decode cX4_laws 14 = .ok (.istore 4, 2) := by decide +kernel
theorem dX4_laws_16 : decode cX4_laws 16 = .ok (.iconst 0, 1) := by decide +kernel
theorem dX4_laws_17 : decode cX4_laws 17 = .ok (.istore 5, 2) := by decide +kernel
theorem dX4_laws_19 : decode cX4_laws 19 = .ok (.iload 5, 2) := by decide +kernel
theorem dX4_laws_21 : decode cX4_laws 21 = .ok (.aload_n 0, 1) := by decide +kernel
theorem dX4_laws_22 : decode cX4_laws 22 = .ok (.getfield 65, 3) := by decide +kernel
theorem dX4_laws_25 : decode cX4_laws 25 = .ok (.if_icmp .ge 41, 3) := by decide +kernel
theorem dX4_laws_28 : decode cX4_laws 28 = .ok (.aload_n 0, 1) := by decide +kernel
theorem dX4_laws_29 : decode cX4_laws 29 = .ok (.invokevirtual 167, 3) := by decide +kernel
theorem dX4_laws_32 : decode cX4_laws 32 = .ok (.aload_n 0, 1) := by decide +kernel
theorem dX4_laws_33 : decode cX4_laws 33 = .ok (.getfield 43, 3) := by decide +kernel
theorem dX4_laws_36 : decode cX4_laws 36 = .ok (.iload 5, 2) := by decide +kernel
theorem dX4_laws_38 : decode cX4_laws 38 = .ok (.putfield 96, 3) := by decide +kernel
theorem dX4_laws_41 : decode cX4_laws 41 = .ok (.aload_n 0, 1) := by decide +kernel
theorem dX4_laws_42 : decode cX4_laws 42 = .ok (.iload_n 1, 1) := by decide +kernel
theorem dX4_laws_43 : decode cX4_laws 43 = .ok (.iload_n 2, 1) := by decide +kernel
theorem dX4_laws_44 : decode cX4_laws 44 = .ok (.invokevirtual 195, 3) := by decide +kernel
theorem dX4_laws_47 : decode cX4_laws 47 = .ok (.iconst (-1), 1) := by decide +kernel
theorem dX4_laws_48 : decode cX4_laws 48 = .ok (.if_icmp .ne 12, 3) := by decide +kernel
theorem dX4_laws_51 : decode cX4_laws 51 = .ok (.iload 4, 2) := by decide +kernel
theorem dX4_laws_53 : decode cX4_laws 53 = .ok (.iconst 1, 1) := by decide +kernel
theorem dX4_laws_54 : decode cX4_laws 54 = .ok (.iload 5, 2) := by decide +kernel
theorem dX4_laws_56 : decode cX4_laws 56 = .ok (.ishl, 1) := by decide +kernel
theorem dX4_laws_57 : decode cX4_laws 57 = .ok (.ior, 1) := by decide +kernel
theorem dX4_laws_58 : decode cX4_laws 58 = .ok (.istore 4, 2) := by decide +kernel
theorem dX4_laws_60 : decode cX4_laws 60 = .ok (.iinc 5 1, 3) := by decide +kernel
theorem dX4_laws_63 : decode cX4_laws 63 = .ok (.goto (-44), 3) := by decide +kernel
theorem dX4_laws_66 : decode cX4_laws 66 = .ok (.iload 4, 2) := by decide +kernel
theorem dX4_laws_68 : decode cX4_laws 68 = .ok (.ireturn, 1) := by decide +kernel
def b_X4_laws_19 (kc19 : Int32 → Int32 → Int32 → Int32 → GX → Option (Int32 × GX)) (x1 : Int32) (x2 : Int32) (x4 : Int32) (x5 : Int32) (σ : GX) : Option (Int32 × GX) :=
  if (xI σ 0) ≤ x5 then (some (x4, σ)) else (bnd (f_X4_think σ) fun q2 => bnd (some (sS q2.2 1 4 x5)) fun σ3 => bnd (f_X4_firstOtherwise x1 x2 σ3) fun q4 => if q4.1 ≠ (-1 : Int32) then (kc19 x1 x2 x4 (x5 + (1 : Int32)) q4.2) else (bnd (some (x4 ||| (slI (1 : Int32) x5))) fun w5 => kc19 x1 x2 w5 (x5 + (1 : Int32)) q4.2))
theorem vb_X4_laws_19 {g : Gt} {ad : Nat → Nat} (z : Zt) (kc19 : Int32 → Int32 → Int32 → Int32 → GX → Option (Int32 × GX)) (hkc19 : ∀ (x1 : Int32) (x2 : Int32) (x4 : Int32) (x5 : Int32) (σ : GX), V g (LX ad) 8 RX4 cX4_laws 6 (some .int) (wX g ad) iI z (kc19 x1 x2 x4 x5 σ) σ 19 [(0, .ref (aMain ad)), (1, .int x1), (2, .int x2), (4, .int x4), (5, .int x5)] []) (x1 : Int32) (x2 : Int32) (x4 : Int32) (x5 : Int32) (σ : GX) : V g (LX ad) 8 RX4 cX4_laws 6 (some .int) (wX g ad) iI z (b_X4_laws_19 kc19 x1 x2 x4 x5 σ) σ 19 [(0, .ref (aMain ad)), (1, .int x1), (2, .int x2), (4, .int x4), (5, .int x5)] [] := by
  unfold b_X4_laws_19
  refine v_iload (pc := 19) (i := 5) dX4_laws_19 rfl ?_
  refine v_aload_n (pc := 21) (i := 0) dX4_laws_21 rfl rfl ?_
  refine gX4_textCount (pc := 22) q_332 dX4_laws_22 ?_
  refine v_icmp_ge (pc := 25) (tgt := 66) dX4_laws_25 rfl ?_ ?_
  · refine v_iload (pc := 66) (i := 4) dX4_laws_66 rfl ?_
    exact v_iret (pc := 68) dX4_laws_68
  · refine v_aload_n (pc := 28) (i := 0) dX4_laws_28 rfl rfl ?_
    refine v_callVv (pc := 29) rcX4 (As := []) (rest := []) (ct_X4_think) mi_X4_think q_517 (by decide) rfl rfl (Nat.le_of_ble_eq_true rfl) dX4_laws_29 (fun q2 => ?_)
    refine v_aload_n (pc := 32) (i := 0) dX4_laws_32 rfl rfl ?_
    refine gX4_thought (pc := 33) q_327 dX4_laws_33 ?_
    refine v_iload (pc := 36) (i := 5) dX4_laws_36 rfl ?_
    refine pX2_law (pc := 38) (y := 1) (by decide) q_171 dX4_laws_38 ?_
    refine v_nms (fun σ3 => ?_)
    refine v_aload_n (pc := 41) (i := 0) dX4_laws_41 rfl rfl ?_
    refine v_iload_n (pc := 42) (i := 1) dX4_laws_42 rfl rfl ?_
    refine v_iload_n (pc := 43) (i := 2) dX4_laws_43 rfl rfl ?_
    refine v_callVi (pc := 44) rcX4 (As := [.int x1, .int x2]) (rest := []) (ct_X4_firstOtherwise x1 x2) mi_X4_firstOtherwise q_604 (by decide) rfl rfl (Nat.le_of_ble_eq_true rfl) dX4_laws_44 (fun q4 => ?_)
    refine v_iconst (pc := 47) dX4_laws_47 ic_m1 ?_
    refine v_icmp_ne (pc := 48) (tgt := 60) dX4_laws_48 rfl ?_ ?_
    · refine v_iinc (pc := 60) (lv' := [(5, .int (x5 + (1 : Int32))), (0, .ref (aMain ad)), (1, .int x1), (2, .int x2), (4, .int x4)]) (i := 5) dX4_laws_60 rfl ic_1 (by decide) rfl ?_
      refine v_goto (pc := 63) (tgt := 19) dX4_laws_63 rfl ?_
      exact v_sub [1, 2, 3, 4, 0] rfl (hkc19 x1 x2 x4 (x5 + (1 : Int32)) q4.2)
    · refine v_iload (pc := 51) (i := 4) dX4_laws_51 rfl ?_
      refine v_iconst (pc := 53) dX4_laws_53 ic_1 ?_
      refine v_iload (pc := 54) (i := 5) dX4_laws_54 rfl ?_
      refine v_ishl (pc := 56) dX4_laws_56 ?_
      refine v_ior (pc := 57) dX4_laws_57 ?_
      refine v_nmi (fun w5 => ?_)
      refine v_istore (pc := 58) (lv' := [(4, .int w5), (0, .ref (aMain ad)), (1, .int x1), (2, .int x2), (5, .int x5)]) (i := 4) dX4_laws_58 (by decide) rfl ?_
      refine v_iinc (pc := 60) (lv' := [(5, .int (x5 + (1 : Int32))), (4, .int w5), (0, .ref (aMain ad)), (1, .int x1), (2, .int x2)]) (i := 5) dX4_laws_60 rfl ic_1 (by decide) rfl ?_
      refine v_goto (pc := 63) (tgt := 19) dX4_laws_63 rfl ?_
      exact v_sub [2, 3, 4, 1, 0] rfl (hkc19 x1 x2 w5 (x5 + (1 : Int32)) q4.2)
def k_X4_laws_19 : Nat → Int32 → Int32 → Int32 → Int32 → GX → Option (Int32 × GX)
  | 0 => fun _ _ _ _ _ => none
  | n + 1 => b_X4_laws_19 (k_X4_laws_19 n)
theorem vk_X4_laws_19 {g : Gt} {ad : Nat → Nat} (z : Zt) : ∀ (n : Nat) (x1 : Int32) (x2 : Int32) (x4 : Int32) (x5 : Int32) (σ : GX), V g (LX ad) 8 RX4 cX4_laws 6 (some .int) (wX g ad) iI z (k_X4_laws_19 n x1 x2 x4 x5 σ) σ 19 [(0, .ref (aMain ad)), (1, .int x1), (2, .int x2), (4, .int x4), (5, .int x5)] [] := by
  intro n
  induction n with
  | zero => intros; exact v_eq rfl v_none
  | succ n ih =>
    intro x1 x2 x4 x5 σ
    exact v_eq rfl (vb_X4_laws_19 z _ ih x1 x2 x4 x5 σ)
def f_X4_laws (x1 : Int32) (x2 : Int32) (σ : GX) : Option (Int32 × GX) :=
  bnd (f_X4_refusalToJudge x1 x2 σ) fun q1 => if q1.1 = 0 then (k_X4_laws_19 FU x1 x2 (0 : Int32) (0 : Int32) q1.2) else (some (q1.1, q1.2))
theorem vf_X4_laws {g : Gt} {ad : Nat → Nat} (z : Zt) (x1 : Int32) (x2 : Int32) (σ : GX) : V g (LX ad) 8 RX4 cX4_laws 6 (some .int) (wX g ad) iI z (f_X4_laws x1 x2 σ) σ 0 [(0, .ref (aMain ad)), (1, .int x1), (2, .int x2)] [] := by
  unfold f_X4_laws
  refine v_aload_n (pc := 0) (i := 0) dX4_laws_0 rfl rfl ?_
  refine v_iload_n (pc := 1) (i := 1) dX4_laws_1 rfl rfl ?_
  refine v_iload_n (pc := 2) (i := 2) dX4_laws_2 rfl rfl ?_
  refine v_callVi (pc := 3) rcX4 (As := [.int x1, .int x2]) (rest := []) (ct_X4_refusalToJudge x1 x2) mi_X4_refusalToJudge q_593 (by decide) rfl rfl (Nat.le_of_ble_eq_true rfl) dX4_laws_3 (fun q1 => ?_)
  refine v_istore_n (pc := 6) (lv' := [(3, .int q1.1), (0, .ref (aMain ad)), (1, .int x1), (2, .int x2)]) (i := 3) dX4_laws_6 rfl (by decide) rfl ?_
  refine v_iload_n (pc := 7) (i := 3) dX4_laws_7 rfl rfl ?_
  refine v_if_eq (pc := 8) (tgt := 13) dX4_laws_8 rfl ?_ ?_
  · refine v_iconst (pc := 13) dX4_laws_13 ic_0 ?_
    refine v_istore (pc := 14) (lv' := [(4, .int (0 : Int32)), (3, .int q1.1), (0, .ref (aMain ad)), (1, .int x1), (2, .int x2)]) (i := 4) dX4_laws_14 (by decide) rfl ?_
    refine v_iconst (pc := 16) dX4_laws_16 ic_0 ?_
    refine v_istore (pc := 17) (lv' := [(5, .int (0 : Int32)), (4, .int (0 : Int32)), (3, .int q1.1), (0, .ref (aMain ad)), (1, .int x1), (2, .int x2)]) (i := 5) dX4_laws_17 (by decide) rfl ?_
    exact v_sub [3, 4, 5, 1, 0] rfl (vk_X4_laws_19 z FU x1 x2 (0 : Int32) (0 : Int32) q1.2)
  · refine v_iload_n (pc := 11) (i := 3) dX4_laws_11 rfl rfl ?_
    exact v_iret (pc := 12) dX4_laws_12
theorem ct_X4_laws {g : Gt} {ad : Nat → Nat} (x1 : Int32) (x2 : Int32) : CT g (LX ad) yX4_laws cX4_laws 6 (some .int) 8 [.ref (aMain ad), .int x1, .int x2] iI (wX g ad) (f_X4_laws x1 x2) :=
  ct_of_V (own := RX4) (lv0 := [(0, .ref (aMain ad)), (1, .int x1), (2, .int x2)]) (by decide +kernel) rfl (Nat.le_of_ble_eq_true rfl) rfl (fun z σ => vf_X4_laws z x1 x2 σ)
-- LighthouseLiedTo.film
theorem dX4_film_0 : decode cX4_film 0 = .ok (.iload_n 1, 1) := by decide +kernel
theorem dX4_film_1 : decode cX4_film 1 = .ok (.invokestatic 201, 3) := by decide +kernel
theorem dX4_film_4 : decode cX4_film 4 = .ok (.ifCond .ne 6, 3) := by decide +kernel
theorem dX4_film_7 : decode cX4_film 7 = .ok (.bipush (-2), 2) := by decide +kernel
theorem dX4_film_9 : decode cX4_film 9 = .ok (.ireturn, 1) := by decide +kernel
theorem dX4_film_10 : decode cX4_film 10 = .ok (.aload_n 0, 1) := by decide +kernel
theorem dX4_film_11 : decode cX4_film 11 = .ok (.iload_n 2, 1) := by decide +kernel
theorem dX4_film_12 : decode cX4_film 12 = .ok (.invokevirtual 125, 3) := by decide +kernel
theorem dX4_film_15 : decode cX4_film 15 = .ok (.ifCond .ne 6, 3) := by decide +kernel
theorem dX4_film_18 : decode cX4_film 18 = .ok (.bipush (-5), 2) := by decide +kernel
theorem dX4_film_20 : decode cX4_film 20 = .ok (.ireturn, 1) := by decide +kernel
theorem dX4_film_21 : decode cX4_film 21 = .ok (.iload_n 3, 1) := by decide +kernel
theorem dX4_film_22 : decode cX4_film 22 = .ok (.iconst 0, 1) := by decide +kernel
theorem dX4_film_23 : decode cX4_film 23 = .ok (.bipush 20, 2) := by decide +kernel
theorem dX4_film_25 : decode cX4_film 25 = .ok (.invokestatic 106, 3) := by decide +kernel
theorem dX4_film_28 : decode cX4_film 28 = .ok (.ifCond .ne 6, 3) := by decide +kernel
theorem dX4_film_31 : decode cX4_film 31 = .ok (.bipush (-7), 2) := by decide +kernel
theorem dX4_film_33 : decode cX4_film 33 = .ok (.ireturn, 1) := by decide +kernel
theorem dX4_film_34 : decode cX4_film 34 = .ok (.aload_n 0, 1) := by decide +kernel
theorem dX4_film_35 : decode cX4_film 35 = .ok (.invokevirtual 167, 3) := by decide +kernel
theorem dX4_film_38 : decode cX4_film 38 = .ok (.aload_n 0, 1) := by decide +kernel
theorem dX4_film_39 : decode cX4_film 39 = .ok (.getfield 17, 3) := by decide +kernel
theorem dX4_film_42 : decode cX4_film 42 = .ok (.iload_n 1, 1) := by decide +kernel
theorem dX4_film_43 : decode cX4_film 43 = .ok (.aaload, 1) := by decide +kernel
theorem dX4_film_44 : decode cX4_film 44 = .ok (.iconst 0, 1) := by decide +kernel
theorem dX4_film_45 : decode cX4_film 45 = .ok (.iload_n 3, 1) := by decide +kernel
theorem dX4_film_46 : decode cX4_film 46 = .ok (.invokevirtual 204, 3) := by decide +kernel
theorem dX4_film_49 : decode cX4_film 49 = .ok (.iconst 0, 1) := by decide +kernel
theorem dX4_film_50 : decode cX4_film 50 = .ok (.istore 4, 2) := by decide +kernel
theorem dX4_film_52 : decode cX4_film 52 = .ok (.iload 4, 2) := by decide +kernel
theorem dX4_film_54 : decode cX4_film 54 = .ok (.iload_n 3, 1) := by decide +kernel
theorem dX4_film_55 : decode cX4_film 55 = .ok (.if_icmp .ge 36, 3) := by decide +kernel
theorem dX4_film_58 : decode cX4_film 58 = .ok (.aload_n 0, 1) := by decide +kernel
theorem dX4_film_59 : decode cX4_film 59 = .ok (.getfield 43, 3) := by decide +kernel
theorem dX4_film_62 : decode cX4_film 62 = .ok (.invokevirtual 164, 3) := by decide +kernel
theorem dX4_film_65 : decode cX4_film 65 = .ok (.aload_n 0, 1) := by decide +kernel
theorem dX4_film_66 : decode cX4_film 66 = .ok (.getfield 17, 3) := by decide +kernel
theorem dX4_film_69 : decode cX4_film 69 = .ok (.iload_n 1, 1) := by decide +kernel
theorem dX4_film_70 : decode cX4_film 70 = .ok (.aaload, 1) := by decide +kernel
theorem dX4_film_71 : decode cX4_film 71 = .ok (.iload 4, 2) := by decide +kernel
theorem dX4_film_73 : decode cX4_film 73 = .ok (.aload_n 0, 1) := by decide +kernel
theorem dX4_film_74 : decode cX4_film 74 = .ok (.getfield 43, 3) := by decide +kernel
theorem dX4_film_77 : decode cX4_film 77 = .ok (.getfield 139, 3) := by decide +kernel
theorem dX4_film_80 : decode cX4_film 80 = .ok (.iload_n 2, 1) := by decide +kernel
theorem dX4_film_81 : decode cX4_film 81 = .ok (.iaload, 1) := by decide +kernel
theorem dX4_film_82 : decode cX4_film 82 = .ok (.invokevirtual 207, 3) := by decide +kernel
theorem dX4_film_85 : decode cX4_film 85 = .ok (.iinc 4 1, 3) := by decide +kernel
theorem dX4_film_88 : decode cX4_film 88 = .ok (.goto (-36), 3) := by decide +kernel
theorem dX4_film_91 : decode cX4_film 91 = .ok (.iload_n 3, 1) := by decide +kernel
theorem dX4_film_92 : decode cX4_film 92 = .ok (.ireturn, 1) := by decide +kernel
def b_X4_film_52 (kc52 : Int32 → Int32 → Int32 → Int32 → GX → Option (Int32 × GX)) (x1 : Int32) (x2 : Int32) (x3 : Int32) (x4 : Int32) (σ : GX) : Option (Int32 × GX) :=
  if x3 ≤ x4 then (some (x3, σ)) else (bnd (f_X2_passNight 1 σ) fun q7 => grd x1 4 (grd x2 6 (bnd (f_X3_set (x1.toNatClampNeg) x4 (xB q7.2 1 3 x2.toNatClampNeg) q7.2) fun q9 => kc52 x1 x2 x3 (x4 + (1 : Int32)) q9.2)))
theorem vb_X4_film_52 {g : Gt} {ad : Nat → Nat} (z : Zt) (kc52 : Int32 → Int32 → Int32 → Int32 → GX → Option (Int32 × GX)) (hkc52 : ∀ (x1 : Int32) (x2 : Int32) (x3 : Int32) (x4 : Int32) (σ : GX), V g (LX ad) 7 RX4 cX4_film 5 (some .int) (wX g ad) iI z (kc52 x1 x2 x3 x4 σ) σ 52 [(0, .ref (aMain ad)), (1, .int x1), (2, .int x2), (3, .int x3), (4, .int x4)] []) (x1 : Int32) (x2 : Int32) (x3 : Int32) (x4 : Int32) (σ : GX) : V g (LX ad) 7 RX4 cX4_film 5 (some .int) (wX g ad) iI z (b_X4_film_52 kc52 x1 x2 x3 x4 σ) σ 52 [(0, .ref (aMain ad)), (1, .int x1), (2, .int x2), (3, .int x3), (4, .int x4)] [] := by
  unfold b_X4_film_52
  refine v_iload (pc := 52) (i := 4) dX4_film_52 rfl ?_
  refine v_iload_n (pc := 54) (i := 3) dX4_film_54 rfl rfl ?_
  refine v_icmp_ge (pc := 55) (tgt := 91) dX4_film_55 rfl ?_ ?_
  · refine v_iload_n (pc := 91) (i := 3) dX4_film_91 rfl rfl ?_
    exact v_iret (pc := 92) dX4_film_92
  · refine v_aload_n (pc := 58) (i := 0) dX4_film_58 rfl rfl ?_
    refine gX4_thought (pc := 59) q_327 dX4_film_59 ?_
    refine v_callVv (pc := 62) (rcX2 (by decide)) (As := []) (rest := []) (ct_X2_passNight (by decide)) mi_X2_passNight q_497 (by decide) rfl rfl (Nat.le_of_ble_eq_true rfl) dX4_film_62 (fun q7 => ?_)
    refine v_aload_n (pc := 65) (i := 0) dX4_film_65 rfl rfl ?_
    refine gX4_sheets (pc := 66) q_329 dX4_film_66 ?_
    refine v_iload_n (pc := 69) (i := 1) dX4_film_69 rfl rfl ?_
    refine aX_sheets (pc := 70) dX4_film_70 (fun ha8 => ?_)
    refine v_iload (pc := 71) (i := 4) dX4_film_71 rfl ?_
    refine v_aload_n (pc := 73) (i := 0) dX4_film_73 rfl rfl ?_
    refine gX4_thought (pc := 74) q_327 dX4_film_74 ?_
    refine gX2_cell (pc := 77) (y := 1) (by decide) q_156 dX4_film_77 ?_
    refine v_iload_n (pc := 80) (i := 2) dX4_film_80 rfl rfl ?_
    refine lX_sea3 (pc := 81) (y := 1) (by decide) dX4_film_81 ?_
    refine v_callVv (pc := 82) (rcX3 ha8) (As := [.int x4, .int (xB q7.2 1 3 x2.toNatClampNeg)]) (rest := []) (ct_X3_set ha8 x4 (xB q7.2 1 3 x2.toNatClampNeg)) mi_X3_set q_636 (by decide) rfl rfl (Nat.le_of_ble_eq_true rfl) dX4_film_82 (fun q9 => ?_)
    refine v_iinc (pc := 85) (lv' := [(4, .int (x4 + (1 : Int32))), (0, .ref (aMain ad)), (1, .int x1), (2, .int x2), (3, .int x3)]) (i := 4) dX4_film_85 rfl ic_1 (by decide) rfl ?_
    refine v_goto (pc := 88) (tgt := 52) dX4_film_88 rfl ?_
    exact v_sub [1, 2, 3, 4, 0] rfl (hkc52 x1 x2 x3 (x4 + (1 : Int32)) q9.2)
def k_X4_film_52 : Nat → Int32 → Int32 → Int32 → Int32 → GX → Option (Int32 × GX)
  | 0 => fun _ _ _ _ _ => none
  | n + 1 => b_X4_film_52 (k_X4_film_52 n)
theorem vk_X4_film_52 {g : Gt} {ad : Nat → Nat} (z : Zt) : ∀ (n : Nat) (x1 : Int32) (x2 : Int32) (x3 : Int32) (x4 : Int32) (σ : GX), V g (LX ad) 7 RX4 cX4_film 5 (some .int) (wX g ad) iI z (k_X4_film_52 n x1 x2 x3 x4 σ) σ 52 [(0, .ref (aMain ad)), (1, .int x1), (2, .int x2), (3, .int x3), (4, .int x4)] [] := by
  intro n
  induction n with
  | zero => intros; exact v_eq rfl v_none
  | succ n ih =>
    intro x1 x2 x3 x4 σ
    exact v_eq rfl (vb_X4_film_52 z _ ih x1 x2 x3 x4 σ)
def f_X4_film (x1 : Int32) (x2 : Int32) (x3 : Int32) (σ : GX) : Option (Int32 × GX) :=
  bnd (f_X4_isSheet x1 σ) fun q1 => if q1.1 ≠ 0 then (bnd (f_X4_isShip x2 q1.2) fun q2 => if q2.1 ≠ 0 then (bnd (f_X4_within x3 (0 : Int32) (20 : Int32) q2.2) fun q3 => if q3.1 ≠ 0 then (bnd (f_X4_think q3.2) fun q4 => grd x1 4 (bnd (f_X3_become (x1.toNatClampNeg) (0 : Int32) x3 q4.2) fun q6 => k_X4_film_52 FU x1 x2 x3 (0 : Int32) q6.2)) else (some ((-7 : Int32), q3.2))) else (some ((-5 : Int32), q2.2))) else (some ((-2 : Int32), q1.2))
theorem vf_X4_film {g : Gt} {ad : Nat → Nat} (z : Zt) (x1 : Int32) (x2 : Int32) (x3 : Int32) (σ : GX) : V g (LX ad) 7 RX4 cX4_film 5 (some .int) (wX g ad) iI z (f_X4_film x1 x2 x3 σ) σ 0 [(0, .ref (aMain ad)), (1, .int x1), (2, .int x2), (3, .int x3)] [] := by
  unfold f_X4_film
  refine v_iload_n (pc := 0) (i := 1) dX4_film_0 rfl rfl ?_
  refine v_callSi (pc := 1) (av := [.int x1]) (rest := []) (ct_X4_isSheet x1) mi_X4_isSheet q_601 (by decide) rfl rfl (Nat.le_of_ble_eq_true rfl) dX4_film_1 (fun q1 => ?_)
  refine v_if_ne (pc := 4) (tgt := 10) dX4_film_4 rfl ?_ ?_
  · refine v_aload_n (pc := 10) (i := 0) dX4_film_10 rfl rfl ?_
    refine v_iload_n (pc := 11) (i := 2) dX4_film_11 rfl rfl ?_
    refine v_callVi (pc := 12) rcX4 (As := [.int x2]) (rest := []) (ct_X4_isShip x2) mi_X4_isShip q_433 (by decide) rfl rfl (Nat.le_of_ble_eq_true rfl) dX4_film_12 (fun q2 => ?_)
    refine v_if_ne (pc := 15) (tgt := 21) dX4_film_15 rfl ?_ ?_
    · refine v_iload_n (pc := 21) (i := 3) dX4_film_21 rfl rfl ?_
      refine v_iconst (pc := 22) dX4_film_22 ic_0 ?_
      refine v_bipush (pc := 23) dX4_film_23 bp_20 ?_
      refine v_callSi (pc := 25) (av := [.int x3, .int (0 : Int32), .int (20 : Int32)]) (rest := []) (ct_X4_within x3 (0 : Int32) (20 : Int32)) mi_X4_within q_384 (by decide) rfl rfl (Nat.le_of_ble_eq_true rfl) dX4_film_25 (fun q3 => ?_)
      refine v_if_ne (pc := 28) (tgt := 34) dX4_film_28 rfl ?_ ?_
      · refine v_aload_n (pc := 34) (i := 0) dX4_film_34 rfl rfl ?_
        refine v_callVv (pc := 35) rcX4 (As := []) (rest := []) (ct_X4_think) mi_X4_think q_517 (by decide) rfl rfl (Nat.le_of_ble_eq_true rfl) dX4_film_35 (fun q4 => ?_)
        refine v_aload_n (pc := 38) (i := 0) dX4_film_38 rfl rfl ?_
        refine gX4_sheets (pc := 39) q_329 dX4_film_39 ?_
        refine v_iload_n (pc := 42) (i := 1) dX4_film_42 rfl rfl ?_
        refine aX_sheets (pc := 43) dX4_film_43 (fun ha5 => ?_)
        refine v_iconst (pc := 44) dX4_film_44 ic_0 ?_
        refine v_iload_n (pc := 45) (i := 3) dX4_film_45 rfl rfl ?_
        refine v_callVv (pc := 46) (rcX3 ha5) (As := [.int (0 : Int32), .int x3]) (rest := []) (ct_X3_become ha5 (0 : Int32) x3) mi_X3_become q_632 (by decide) rfl rfl (Nat.le_of_ble_eq_true rfl) dX4_film_46 (fun q6 => ?_)
        refine v_iconst (pc := 49) dX4_film_49 ic_0 ?_
        refine v_istore (pc := 50) (lv' := [(4, .int (0 : Int32)), (0, .ref (aMain ad)), (1, .int x1), (2, .int x2), (3, .int x3)]) (i := 4) dX4_film_50 (by decide) rfl ?_
        exact v_sub [1, 2, 3, 4, 0] rfl (vk_X4_film_52 z FU x1 x2 x3 (0 : Int32) q6.2)
      · refine v_bipush (pc := 31) dX4_film_31 bp_m7 ?_
        exact v_iret (pc := 33) dX4_film_33
    · refine v_bipush (pc := 18) dX4_film_18 bp_m5 ?_
      exact v_iret (pc := 20) dX4_film_20
  · refine v_bipush (pc := 7) dX4_film_7 bp_m2 ?_
    exact v_iret (pc := 9) dX4_film_9
theorem ct_X4_film {g : Gt} {ad : Nat → Nat} (x1 : Int32) (x2 : Int32) (x3 : Int32) : CT g (LX ad) yX4_film cX4_film 5 (some .int) 7 [.ref (aMain ad), .int x1, .int x2, .int x3] iI (wX g ad) (f_X4_film x1 x2 x3) :=
  ct_of_V (own := RX4) (lv0 := [(0, .ref (aMain ad)), (1, .int x1), (2, .int x2), (3, .int x3)]) (by decide +kernel) rfl (Nat.le_of_ble_eq_true rfl) rfl (fun z σ => vf_X4_film z x1 x2 x3 σ)
-- LighthouseLiedTo.lossesByTale
theorem dX4_lossesByTale_0 : decode cX4_lossesByTale 0 = .ok (.aload_n 0, 1) := by decide +kernel
theorem dX4_lossesByTale_1 : decode cX4_lossesByTale 1 = .ok (.invokevirtual 167, 3) := by decide +kernel
theorem dX4_lossesByTale_4 : decode cX4_lossesByTale 4 = .ok (.iload_n 1, 1) := by decide +kernel
theorem dX4_lossesByTale_5 : decode cX4_lossesByTale 5 = .ok (.i2l, 1) := by decide +kernel
theorem dX4_lossesByTale_6 : decode cX4_lossesByTale 6 = .ok (.lconst 1, 1) := by decide +kernel
theorem dX4_lossesByTale_7 : decode cX4_lossesByTale 7 = .ok (.ladd, 1) := by decide +kernel
theorem dX4_lossesByTale_8 : decode cX4_lossesByTale 8 = .ok (.ldc2_w 249, 3) := by decide +kernel
theorem dX4_lossesByTale_11 : decode cX4_lossesByTale 11 = .ok (.lmul, 1) := by decide +kernel
theorem dX4_lossesByTale_12 : decode cX4_lossesByTale 12 = .ok (.ldc2_w 251, 3) := by decide +kernel
theorem dX4_lossesByTale_15 : decode cX4_lossesByTale 15 = .ok (.lrem, 1) := by decide +kernel
theorem dX4_lossesByTale_16 : decode cX4_lossesByTale 16 = .ok (.lstore_n 3, 1) := by decide +kernel
theorem dX4_lossesByTale_17 : decode cX4_lossesByTale 17 = .ok (.iconst 0, 1) := by decide +kernel
theorem dX4_lossesByTale_18 : decode cX4_lossesByTale 18 = .ok (.istore 5, 2) := by decide +kernel
theorem dX4_lossesByTale_20 : decode cX4_lossesByTale 20 = .ok (.iload 5, 2) := by decide +kernel
theorem dX4_lossesByTale_22 : decode cX4_lossesByTale 22 = .ok (.bipush 6, 2) := by decide +kernel
theorem dX4_lossesByTale_24 : decode cX4_lossesByTale 24 = .ok (.if_icmp .ge 40, 3) := by decide +kernel
theorem dX4_lossesByTale_27 : decode cX4_lossesByTale 27 = .ok (.aload_n 0, 1) := by decide +kernel
theorem dX4_lossesByTale_28 : decode cX4_lossesByTale 28 = .ok (.getfield 43, 3) := by decide +kernel
theorem dX4_lossesByTale_31 : decode cX4_lossesByTale 31 = .ok (.lload_n 3, 1) := by decide +kernel
theorem dX4_lossesByTale_32 : decode cX4_lossesByTale 32 = .ok (.ldc2_w 253, 3) := by decide +kernel
theorem dX4_lossesByTale_35 : decode cX4_lossesByTale 35 = .ok (.lrem, 1) := by decide +kernel
theorem dX4_lossesByTale_36 : decode cX4_lossesByTale 36 = .ok (.l2i, 1) := by decide +kernel
theorem dX4_lossesByTale_37 : decode cX4_lossesByTale 37 = .ok (.iload_n 2, 1) := by decide +kernel
theorem dX4_lossesByTale_38 : decode cX4_lossesByTale 38 = .ok (.invokevirtual 115, 3) := by decide +kernel
theorem dX4_lossesByTale_41 : decode cX4_lossesByTale 41 = .ok (.aload_n 0, 1) := by decide +kernel
theorem dX4_lossesByTale_42 : decode cX4_lossesByTale 42 = .ok (.getfield 43, 3) := by decide +kernel
theorem dX4_lossesByTale_45 : decode cX4_lossesByTale 45 = .ok (.invokevirtual 164, 3) := by decide +kernel
theorem dX4_lossesByTale_48 : decode cX4_lossesByTale 48 = .ok (.lload_n 3, 1) := by decide +kernel
theorem dX4_lossesByTale_49 : decode cX4_lossesByTale 49 = .ok (.ldc2_w 249, 3) := by decide +kernel
theorem dX4_lossesByTale_52 : decode cX4_lossesByTale 52 = .ok (.lmul, 1) := by decide +kernel
theorem dX4_lossesByTale_53 : decode cX4_lossesByTale 53 = .ok (.ldc2_w 251, 3) := by decide +kernel
theorem dX4_lossesByTale_56 : decode cX4_lossesByTale 56 = .ok (.lrem, 1) := by decide +kernel
theorem dX4_lossesByTale_57 : decode cX4_lossesByTale 57 = .ok (.lstore_n 3, 1) := by decide +kernel
theorem dX4_lossesByTale_58 : decode cX4_lossesByTale 58 = .ok (.iinc 5 1, 3) := by decide +kernel
theorem dX4_lossesByTale_61 : decode cX4_lossesByTale 61 = .ok (.goto (-41), 3) := by decide +kernel
theorem dX4_lossesByTale_64 : decode cX4_lossesByTale 64 = .ok (.aload_n 0, 1) := by decide +kernel
theorem dX4_lossesByTale_65 : decode cX4_lossesByTale 65 = .ok (.getfield 43, 3) := by decide +kernel
theorem dX4_lossesByTale_68 : decode cX4_lossesByTale 68 = .ok (.getfield 161, 3) := by decide +kernel
theorem dX4_lossesByTale_71 : decode cX4_lossesByTale 71 = .ok (.aload_n 0, 1) := by decide +kernel
theorem dX4_lossesByTale_72 : decode cX4_lossesByTale 72 = .ok (.getfield 39, 3) := by decide +kernel
theorem dX4_lossesByTale_75 : decode cX4_lossesByTale 75 = .ok (.getfield 161, 3) := by decide +kernel
theorem dX4_lossesByTale_78 : decode cX4_lossesByTale 78 = .ok (.iconst (-1), 1) := by decide +kernel
theorem dX4_lossesByTale_79 : decode cX4_lossesByTale 79 = .ok (.ixor, 1) := by decide +kernel
theorem dX4_lossesByTale_80 : decode cX4_lossesByTale 80 = .ok (.iand, 1) := by decide +kernel
theorem dX4_lossesByTale_81 : decode cX4_lossesByTale 81 = .ok (.invokestatic 75, 3) := by decide +kernel
theorem dX4_lossesByTale_84 : decode cX4_lossesByTale 84 = .ok (.ireturn, 1) := by decide +kernel
def b_X4_lossesByTale_20 (kc20 : Int32 → Int64 → Int32 → GX → Option (Int32 × GX)) (x2 : Int32) (x3 : Int64) (x5 : Int32) (σ : GX) : Option (Int32 × GX) :=
  if (6 : Int32) ≤ x5 then (bnd (f_J6_bitCount_0f7a4 ((xS σ 1 0) &&& ((xS σ 0 0) ^^^ (-1 : Int32))) σ) fun q3 => some (q3.1, q3.2)) else (bnd (f_X2_hear 1 (rL x3 (36 : Int64)).toInt32 x2 σ) fun q4 => bnd (f_X2_passNight 1 q4.2) fun q5 => bnd (some (rL (x3 * (48271 : Int64)) (2147483647 : Int64))) fun w6 => kc20 x2 w6 (x5 + (1 : Int32)) q5.2)
theorem vb_X4_lossesByTale_20 {g : Gt} {ad : Nat → Nat} (z : Zt) (kc20 : Int32 → Int64 → Int32 → GX → Option (Int32 × GX)) (hkc20 : ∀ (x2 : Int32) (x3 : Int64) (x5 : Int32) (σ : GX), V g (LX ad) 7 RX4 cX4_lossesByTale 6 (some .int) (wX g ad) iI z (kc20 x2 x3 x5 σ) σ 20 [(0, .ref (aMain ad)), (2, .int x2), (3, .long x3), (5, .int x5)] []) (x2 : Int32) (x3 : Int64) (x5 : Int32) (σ : GX) : V g (LX ad) 7 RX4 cX4_lossesByTale 6 (some .int) (wX g ad) iI z (b_X4_lossesByTale_20 kc20 x2 x3 x5 σ) σ 20 [(0, .ref (aMain ad)), (2, .int x2), (3, .long x3), (5, .int x5)] [] := by
  unfold b_X4_lossesByTale_20
  refine v_iload (pc := 20) (i := 5) dX4_lossesByTale_20 rfl ?_
  refine v_bipush (pc := 22) dX4_lossesByTale_22 bp_6 ?_
  refine v_icmp_ge (pc := 24) (tgt := 64) dX4_lossesByTale_24 rfl ?_ ?_
  · refine v_aload_n (pc := 64) (i := 0) dX4_lossesByTale_64 rfl rfl ?_
    refine gX4_thought (pc := 65) q_327 dX4_lossesByTale_65 ?_
    refine gX2_lost (pc := 68) (y := 1) (by decide) q_162 dX4_lossesByTale_68 ?_
    refine v_aload_n (pc := 71) (i := 0) dX4_lossesByTale_71 rfl rfl ?_
    refine gX4_now (pc := 72) q_326 dX4_lossesByTale_72 ?_
    refine gX2_lost (pc := 75) (y := 0) (by decide) q_162 dX4_lossesByTale_75 ?_
    refine v_iconst (pc := 78) dX4_lossesByTale_78 ic_m1 ?_
    refine v_ixor (pc := 79) dX4_lossesByTale_79 ?_
    refine v_iand (pc := 80) dX4_lossesByTale_80 ?_
    refine v_callSi (pc := 81) (av := [.int ((xS σ 1 0) &&& ((xS σ 0 0) ^^^ (-1 : Int32)))]) (rest := []) (ct_J6_bitCount_0f7a4 ((xS σ 1 0) &&& ((xS σ 0 0) ^^^ (-1 : Int32)))) mi_J6_bitCount_0f7a4 q_365 (by decide) rfl rfl (Nat.le_of_ble_eq_true rfl) dX4_lossesByTale_81 (fun q3 => ?_)
    exact v_iret (pc := 84) dX4_lossesByTale_84
  · refine v_aload_n (pc := 27) (i := 0) dX4_lossesByTale_27 rfl rfl ?_
    refine gX4_thought (pc := 28) q_327 dX4_lossesByTale_28 ?_
    refine v_lload_n (pc := 31) (i := 3) dX4_lossesByTale_31 rfl rfl ?_
    refine v_ldc2 (pc := 32) dX4_lossesByTale_32 q_655 ?_
    refine v_lrem (pc := 35) dX4_lossesByTale_35 (by decide) ?_
    refine v_l2i (pc := 36) dX4_lossesByTale_36 ?_
    refine v_iload_n (pc := 37) (i := 2) dX4_lossesByTale_37 rfl rfl ?_
    refine v_callVv (pc := 38) (rcX2 (by decide)) (As := [.int (rL x3 (36 : Int64)).toInt32, .int x2]) (rest := []) (ct_X2_hear (by decide) (rL x3 (36 : Int64)).toInt32 x2) mi_X2_hear q_396 (by decide) rfl rfl (Nat.le_of_ble_eq_true rfl) dX4_lossesByTale_38 (fun q4 => ?_)
    refine v_aload_n (pc := 41) (i := 0) dX4_lossesByTale_41 rfl rfl ?_
    refine gX4_thought (pc := 42) q_327 dX4_lossesByTale_42 ?_
    refine v_callVv (pc := 45) (rcX2 (by decide)) (As := []) (rest := []) (ct_X2_passNight (by decide)) mi_X2_passNight q_497 (by decide) rfl rfl (Nat.le_of_ble_eq_true rfl) dX4_lossesByTale_45 (fun q5 => ?_)
    refine v_lload_n (pc := 48) (i := 3) dX4_lossesByTale_48 rfl rfl ?_
    refine v_ldc2 (pc := 49) dX4_lossesByTale_49 q_653 ?_
    refine v_lmul (pc := 52) dX4_lossesByTale_52 ?_
    refine v_ldc2 (pc := 53) dX4_lossesByTale_53 q_654 ?_
    refine v_lrem (pc := 56) dX4_lossesByTale_56 (by decide) ?_
    refine v_nml (fun w6 => ?_)
    refine v_lstore_n (pc := 57) (lv' := [(3, .long w6), (0, .ref (aMain ad)), (2, .int x2), (5, .int x5)]) (i := 3) dX4_lossesByTale_57 rfl (by decide) rfl ?_
    refine v_iinc (pc := 58) (lv' := [(5, .int (x5 + (1 : Int32))), (3, .long w6), (0, .ref (aMain ad)), (2, .int x2)]) (i := 5) dX4_lossesByTale_58 rfl ic_1 (by decide) rfl ?_
    refine v_goto (pc := 61) (tgt := 20) dX4_lossesByTale_61 rfl ?_
    exact v_sub [2, 3, 1, 0] rfl (hkc20 x2 w6 (x5 + (1 : Int32)) q5.2)
def k_X4_lossesByTale_20 : Nat → Int32 → Int64 → Int32 → GX → Option (Int32 × GX)
  | 0 => fun _ _ _ _ => none
  | n + 1 => b_X4_lossesByTale_20 (k_X4_lossesByTale_20 n)
theorem vk_X4_lossesByTale_20 {g : Gt} {ad : Nat → Nat} (z : Zt) : ∀ (n : Nat) (x2 : Int32) (x3 : Int64) (x5 : Int32) (σ : GX), V g (LX ad) 7 RX4 cX4_lossesByTale 6 (some .int) (wX g ad) iI z (k_X4_lossesByTale_20 n x2 x3 x5 σ) σ 20 [(0, .ref (aMain ad)), (2, .int x2), (3, .long x3), (5, .int x5)] [] := by
  intro n
  induction n with
  | zero => intros; exact v_eq rfl v_none
  | succ n ih =>
    intro x2 x3 x5 σ
    exact v_eq rfl (vb_X4_lossesByTale_20 z _ ih x2 x3 x5 σ)
def f_X4_lossesByTale (x1 : Int32) (x2 : Int32) (σ : GX) : Option (Int32 × GX) :=
  bnd (f_X4_think σ) fun q1 => bnd (some (rL ((x1.toInt64 + (1 : Int64)) * (48271 : Int64)) (2147483647 : Int64))) fun w2 => k_X4_lossesByTale_20 FU x2 w2 (0 : Int32) q1.2
theorem vf_X4_lossesByTale {g : Gt} {ad : Nat → Nat} (z : Zt) (x1 : Int32) (x2 : Int32) (σ : GX) : V g (LX ad) 7 RX4 cX4_lossesByTale 6 (some .int) (wX g ad) iI z (f_X4_lossesByTale x1 x2 σ) σ 0 [(0, .ref (aMain ad)), (1, .int x1), (2, .int x2)] [] := by
  unfold f_X4_lossesByTale
  refine v_aload_n (pc := 0) (i := 0) dX4_lossesByTale_0 rfl rfl ?_
  refine v_callVv (pc := 1) rcX4 (As := []) (rest := []) (ct_X4_think) mi_X4_think q_517 (by decide) rfl rfl (Nat.le_of_ble_eq_true rfl) dX4_lossesByTale_1 (fun q1 => ?_)
  refine v_iload_n (pc := 4) (i := 1) dX4_lossesByTale_4 rfl rfl ?_
  refine v_i2l (pc := 5) dX4_lossesByTale_5 ?_
  refine v_lconst (pc := 6) dX4_lossesByTale_6 lc_1 ?_
  refine v_ladd (pc := 7) dX4_lossesByTale_7 ?_
  refine v_ldc2 (pc := 8) dX4_lossesByTale_8 q_653 ?_
  refine v_lmul (pc := 11) dX4_lossesByTale_11 ?_
  refine v_ldc2 (pc := 12) dX4_lossesByTale_12 q_654 ?_
  refine v_lrem (pc := 15) dX4_lossesByTale_15 (by decide) ?_
  refine v_nml (fun w2 => ?_)
  refine v_lstore_n (pc := 16) (lv' := [(3, .long w2), (0, .ref (aMain ad)), (1, .int x1), (2, .int x2)]) (i := 3) dX4_lossesByTale_16 rfl (by decide) rfl ?_
  refine v_iconst (pc := 17) dX4_lossesByTale_17 ic_0 ?_
  refine v_istore (pc := 18) (lv' := [(5, .int (0 : Int32)), (3, .long w2), (0, .ref (aMain ad)), (1, .int x1), (2, .int x2)]) (i := 5) dX4_lossesByTale_18 (by decide) rfl ?_
  exact v_sub [2, 4, 1, 0] rfl (vk_X4_lossesByTale_20 z FU x2 w2 (0 : Int32) q1.2)
theorem ct_X4_lossesByTale {g : Gt} {ad : Nat → Nat} (x1 : Int32) (x2 : Int32) : CT g (LX ad) yX4_lossesByTale cX4_lossesByTale 6 (some .int) 7 [.ref (aMain ad), .int x1, .int x2] iI (wX g ad) (f_X4_lossesByTale x1 x2) :=
  ct_of_V (own := RX4) (lv0 := [(0, .ref (aMain ad)), (1, .int x1), (2, .int x2)]) (by decide +kernel) rfl (Nat.le_of_ble_eq_true rfl) rfl (fun z σ => vf_X4_lossesByTale z x1 x2 σ)
-- LighthouseLiedTo.drawn
theorem dX4_drawn_0 : decode cX4_drawn 0 = .ok (.iload_n 1, 1) := by decide +kernel
theorem dX4_drawn_1 : decode cX4_drawn 1 = .ok (.iconst 0, 1) := by decide +kernel
theorem dX4_drawn_2 : decode cX4_drawn 2 = .ok (.ldc 210, 2) := by decide +kernel
theorem dX4_drawn_4 : decode cX4_drawn 4 = .ok (.invokestatic 106, 3) := by decide +kernel
theorem dX4_drawn_7 : decode cX4_drawn 7 = .ok (.ifCond .eq 23, 3) := by decide +kernel
theorem dX4_drawn_10 : decode cX4_drawn 10 = .ok (.iload_n 2, 1) := by decide +kernel
theorem dX4_drawn_11 : decode cX4_drawn 11 = .ok (.bipush (-99), 2) := by decide +kernel
theorem dX4_drawn_13 : decode cX4_drawn 13 = .ok (.bipush 99, 2) := by decide +kernel
theorem dX4_drawn_15 : decode cX4_drawn 15 = .ok (.invokestatic 106, 3) := by decide +kernel
theorem dX4_drawn_18 : decode cX4_drawn 18 = .ok (.ifCond .eq 12, 3) := by decide +kernel
theorem dX4_drawn_21 : decode cX4_drawn 21 = .ok (.iload_n 3, 1) := by decide +kernel
theorem dX4_drawn_22 : decode cX4_drawn 22 = .ok (.iconst 0, 1) := by decide +kernel
theorem dX4_drawn_23 : decode cX4_drawn 23 = .ok (.iconst 1, 1) := by decide +kernel
theorem dX4_drawn_24 : decode cX4_drawn 24 = .ok (.invokestatic 106, 3) := by decide +kernel
theorem dX4_drawn_27 : decode cX4_drawn 27 = .ok (.ifCond .ne 6, 3) := by decide +kernel
theorem dX4_drawn_30 : decode cX4_drawn 30 = .ok (.bipush (-2), 2) := by decide +kernel
theorem dX4_drawn_32 : decode cX4_drawn 32 = .ok (.ireturn, 1) := by decide +kernel
theorem dX4_drawn_33 : decode cX4_drawn 33 = .ok (.aload_n 0, 1) := by decide +kernel
theorem dX4_drawn_34 : decode cX4_drawn 34 = .ok (.iload_n 1, 1) := by decide +kernel
theorem dX4_drawn_35 : decode cX4_drawn 35 = .ok (.iload_n 2, 1) := by decide +kernel
theorem dX4_drawn_36 : decode cX4_drawn 36 = .ok (.invokevirtual 211, 3) := by decide +kernel
theorem dX4_drawn_39 : decode cX4_drawn 39 = .ok (.istore 4, 2) := by decide +kernel
theorem dX4_drawn_41 : decode cX4_drawn 41 = .ok (.iload_n 3, 1) := by decide +kernel
theorem dX4_drawn_42 : decode cX4_drawn 42 = .ok (.ifCond .ne 8, 3) := by decide +kernel
theorem dX4_drawn_45 : decode cX4_drawn 45 = .ok (.iload 4, 2) := by decide +kernel
theorem dX4_drawn_47 : decode cX4_drawn 47 = .ok (.goto 10, 3) := by decide +kernel
theorem dX4_drawn_50 : decode cX4_drawn 50 = .ok (.aload_n 0, 1) := by decide +kernel
theorem dX4_drawn_51 : decode cX4_drawn 51 = .ok (.getfield 43, 3) := by decide +kernel
theorem dX4_drawn_54 : decode cX4_drawn 54 = .ok (.invokevirtual 72, 3) := by decide +kernel
theorem dX4_drawn_57 : decode cX4_drawn 57 = .ok (.ireturn, 1) := by decide +kernel
def f_X4_drawn (x1 : Int32) (x2 : Int32) (x3 : Int32) (σ : GX) : Option (Int32 × GX) :=
  bnd (f_X4_within x1 (0 : Int32) (99999 : Int32) σ) fun q1 => if q1.1 = 0 then (some ((-2 : Int32), q1.2)) else (bnd (f_X4_within x2 (-99 : Int32) (99 : Int32) q1.2) fun q2 => if q2.1 = 0 then (some ((-2 : Int32), q2.2)) else (bnd (f_X4_within x3 (0 : Int32) (1 : Int32) q2.2) fun q3 => if q3.1 ≠ 0 then (bnd (f_X4_lossesByTale x1 x2 q3.2) fun q4 => if x3 ≠ 0 then (bnd (f_X2_afloat 1 q4.2) fun q5 => some (q5.1, q5.2)) else (some (q4.1, q4.2))) else (some ((-2 : Int32), q3.2))))
theorem vf_X4_drawn {g : Gt} {ad : Nat → Nat} (z : Zt) (x1 : Int32) (x2 : Int32) (x3 : Int32) (σ : GX) : V g (LX ad) 8 RX4 cX4_drawn 5 (some .int) (wX g ad) iI z (f_X4_drawn x1 x2 x3 σ) σ 0 [(0, .ref (aMain ad)), (1, .int x1), (2, .int x2), (3, .int x3)] [] := by
  unfold f_X4_drawn
  refine v_iload_n (pc := 0) (i := 1) dX4_drawn_0 rfl rfl ?_
  refine v_iconst (pc := 1) dX4_drawn_1 ic_0 ?_
  refine v_ldc (pc := 2) dX4_drawn_2 q_648 ?_
  refine v_callSi (pc := 4) (av := [.int x1, .int (0 : Int32), .int (99999 : Int32)]) (rest := []) (ct_X4_within x1 (0 : Int32) (99999 : Int32)) mi_X4_within q_384 (by decide) rfl rfl (Nat.le_of_ble_eq_true rfl) dX4_drawn_4 (fun q1 => ?_)
  refine v_if_eq (pc := 7) (tgt := 30) dX4_drawn_7 rfl ?_ ?_
  · refine v_bipush (pc := 30) dX4_drawn_30 bp_m2 ?_
    exact v_iret (pc := 32) dX4_drawn_32
  · refine v_iload_n (pc := 10) (i := 2) dX4_drawn_10 rfl rfl ?_
    refine v_bipush (pc := 11) dX4_drawn_11 bp_m99 ?_
    refine v_bipush (pc := 13) dX4_drawn_13 bp_99 ?_
    refine v_callSi (pc := 15) (av := [.int x2, .int (-99 : Int32), .int (99 : Int32)]) (rest := []) (ct_X4_within x2 (-99 : Int32) (99 : Int32)) mi_X4_within q_384 (by decide) rfl rfl (Nat.le_of_ble_eq_true rfl) dX4_drawn_15 (fun q2 => ?_)
    refine v_if_eq (pc := 18) (tgt := 30) dX4_drawn_18 rfl ?_ ?_
    · refine v_bipush (pc := 30) dX4_drawn_30 bp_m2 ?_
      exact v_iret (pc := 32) dX4_drawn_32
    · refine v_iload_n (pc := 21) (i := 3) dX4_drawn_21 rfl rfl ?_
      refine v_iconst (pc := 22) dX4_drawn_22 ic_0 ?_
      refine v_iconst (pc := 23) dX4_drawn_23 ic_1 ?_
      refine v_callSi (pc := 24) (av := [.int x3, .int (0 : Int32), .int (1 : Int32)]) (rest := []) (ct_X4_within x3 (0 : Int32) (1 : Int32)) mi_X4_within q_384 (by decide) rfl rfl (Nat.le_of_ble_eq_true rfl) dX4_drawn_24 (fun q3 => ?_)
      refine v_if_ne (pc := 27) (tgt := 33) dX4_drawn_27 rfl ?_ ?_
      · refine v_aload_n (pc := 33) (i := 0) dX4_drawn_33 rfl rfl ?_
        refine v_iload_n (pc := 34) (i := 1) dX4_drawn_34 rfl rfl ?_
        refine v_iload_n (pc := 35) (i := 2) dX4_drawn_35 rfl rfl ?_
        refine v_callVi (pc := 36) rcX4 (As := [.int x1, .int x2]) (rest := []) (ct_X4_lossesByTale x1 x2) mi_X4_lossesByTale q_649 (by decide) rfl rfl (Nat.le_of_ble_eq_true rfl) dX4_drawn_36 (fun q4 => ?_)
        refine v_istore (pc := 39) (lv' := [(4, .int q4.1), (0, .ref (aMain ad)), (1, .int x1), (2, .int x2), (3, .int x3)]) (i := 4) dX4_drawn_39 (by decide) rfl ?_
        refine v_iload_n (pc := 41) (i := 3) dX4_drawn_41 rfl rfl ?_
        refine v_if_ne (pc := 42) (tgt := 50) dX4_drawn_42 rfl ?_ ?_
        · refine v_aload_n (pc := 50) (i := 0) dX4_drawn_50 rfl rfl ?_
          refine gX4_thought (pc := 51) q_327 dX4_drawn_51 ?_
          refine v_callVi (pc := 54) (rcX2 (by decide)) (As := []) (rest := []) (ct_X2_afloat (by decide)) mi_X2_afloat q_361 (by decide) rfl rfl (Nat.le_of_ble_eq_true rfl) dX4_drawn_54 (fun q5 => ?_)
          exact v_iret (pc := 57) dX4_drawn_57
        · refine v_iload (pc := 45) (i := 4) dX4_drawn_45 rfl ?_
          refine v_goto (pc := 47) (tgt := 57) dX4_drawn_47 rfl ?_
          exact v_iret (pc := 57) dX4_drawn_57
      · refine v_bipush (pc := 30) dX4_drawn_30 bp_m2 ?_
        exact v_iret (pc := 32) dX4_drawn_32
theorem ct_X4_drawn {g : Gt} {ad : Nat → Nat} (x1 : Int32) (x2 : Int32) (x3 : Int32) : CT g (LX ad) yX4_drawn cX4_drawn 5 (some .int) 8 [.ref (aMain ad), .int x1, .int x2, .int x3] iI (wX g ad) (f_X4_drawn x1 x2 x3) :=
  ct_of_V (own := RX4) (lv0 := [(0, .ref (aMain ad)), (1, .int x1), (2, .int x2), (3, .int x3)]) (by decide +kernel) rfl (Nat.le_of_ble_eq_true rfl) rfl (fun z σ => vf_X4_drawn z x1 x2 x3 σ)
-- LighthouseLiedTo.odds
theorem dX4_odds_0 : decode cX4_odds 0 = .ok (.iload_n 1, 1) := by decide +kernel
theorem dX4_odds_1 : decode cX4_odds 1 = .ok (.iconst 0, 1) := by decide +kernel
theorem dX4_odds_2 : decode cX4_odds 2 = .ok (.ldc 210, 2) := by decide +kernel
theorem dX4_odds_4 : decode cX4_odds 4 = .ok (.invokestatic 106, 3) := by decide +kernel
theorem dX4_odds_7 : decode cX4_odds 7 = .ok (.ifCond .eq 35, 3) := by decide +kernel
theorem dX4_odds_10 : decode cX4_odds 10 = .ok (.iload_n 2, 1) := by decide +kernel
theorem dX4_odds_11 : decode cX4_odds 11 = .ok (.iconst 1, 1) := by decide +kernel
theorem dX4_odds_12 : decode cX4_odds 12 = .ok (.bipush 40, 2) := by decide +kernel
theorem dX4_odds_14 : decode cX4_odds 14 = .ok (.invokestatic 106, 3) := by decide +kernel
theorem dX4_odds_17 : decode cX4_odds 17 = .ok (.ifCond .eq 25, 3) := by decide +kernel
theorem dX4_odds_20 : decode cX4_odds 20 = .ok (.iload_n 3, 1) := by decide +kernel
theorem dX4_odds_21 : decode cX4_odds 21 = .ok (.bipush (-99), 2) := by decide +kernel
theorem dX4_odds_23 : decode cX4_odds 23 = .ok (.bipush 99, 2) := by decide +kernel
theorem dX4_odds_25 : decode cX4_odds 25 = .ok (.invokestatic 106, 3) := by decide +kernel
theorem dX4_odds_28 : decode cX4_odds 28 = .ok (.ifCond .eq 14, 3) := by decide +kernel
theorem dX4_odds_31 : decode cX4_odds 31 = .ok (.iload 4, 2) := by decide +kernel
theorem dX4_odds_33 : decode cX4_odds 33 = .ok (.iconst 0, 1) := by decide +kernel
theorem dX4_odds_34 : decode cX4_odds 34 = .ok (.bipush 6, 2) := by decide +kernel
theorem dX4_odds_36 : decode cX4_odds 36 = .ok (.invokestatic 106, 3) := by decide +kernel
theorem dX4_odds_39 : decode cX4_odds 39 = .ok (.ifCond .ne 7, 3) := by decide +kernel
theorem dX4_odds_42 : decode cX4_odds 42 = .ok (.ldc2_w 176, 3) := by decide +kernel
theorem dX4_odds_45 : decode cX4_odds 45 = .ok (.lreturn, 1) := by decide +kernel
theorem dX4_odds_46 : decode cX4_odds 46 = .ok (.iconst 0, 1) := by decide +kernel
theorem dX4_odds_47 : decode cX4_odds 47 = .ok (.istore 6, 2) := by decide +kernel
theorem dX4_odds_49 : decode cX4_odds 49 = .ok (.iconst 0, 1) := by decide +kernel
theorem dX4_odds_50 : decode cX4_odds 50 = .ok (.istore 7, 2) := by decide +kernel
theorem dX4_odds_52 : decode cX4_odds 52 = .ok (.iload 7, 2) := by decide +kernel
theorem dX4_odds_54 : decode cX4_odds 54 = .ok (.iload_n 2, 1) := by decide +kernel
theorem dX4_odds_55 : decode cX4_odds 55 = .ok (.if_icmp .ge 26, 3) := by decide +kernel
theorem dX4_odds_58 : decode cX4_odds 58 = .ok (.aload_n 0, 1) := by decide +kernel
theorem dX4_odds_59 : decode cX4_odds 59 = .ok (.iload_n 1, 1) := by decide +kernel
theorem dX4_odds_60 : decode cX4_odds 60 = .ok (.iload 7, 2) := by decide +kernel
theorem dX4_odds_62 : decode cX4_odds 62 = .ok (.iadd, 1) := by decide +kernel
theorem dX4_odds_63 : decode cX4_odds 63 = .ok (.iload_n 3, 1) := by decide +kernel
theorem dX4_odds_64 : decode cX4_odds 64 = .ok (.invokevirtual 211, 3) := by decide +kernel
theorem dX4_odds_67 : decode cX4_odds 67 = .ok (.iload 4, 2) := by decide +kernel
theorem dX4_odds_69 : decode cX4_odds 69 = .ok (.if_icmp .gt 6, 3) := by decide +kernel
theorem dX4_odds_72 : decode cX4_odds 72 = .ok (.iinc 6 1, 3) := by decide +kernel
theorem dX4_odds_75 : decode cX4_odds 75 = .ok (.iinc 7 1, 3) := by decide +kernel
theorem dX4_odds_78 : decode cX4_odds 78 = .ok (.goto (-26), 3) := by decide +kernel
theorem dX4_odds_81 : decode cX4_odds 81 = .ok (.iload 6, 2) := by decide +kernel
theorem dX4_odds_83 : decode cX4_odds 83 = .ok (.iload_n 2, 1) := by decide +kernel
theorem dX4_odds_84 : decode cX4_odds 84 = .ok (.iload 5, 2) := by decide +kernel
theorem dX4_odds_86 : decode cX4_odds 86 = .ok (.invokestatic 188, 3) := by decide +kernel
theorem dX4_odds_89 : decode cX4_odds 89 = .ok (.lreturn, 1) := by decide +kernel
def b_X4_odds_52 (kc52 : Int32 → Int32 → Int32 → Int32 → Int32 → Int32 → Int32 → GX → Option (Int64 × GX)) (x1 : Int32) (x2 : Int32) (x3 : Int32) (x4 : Int32) (x5 : Int32) (x6 : Int32) (x7 : Int32) (σ : GX) : Option (Int64 × GX) :=
  if x2 ≤ x7 then (bnd (f_X4_inLowestTerms x6 x2 x5 σ) fun q5 => some (q5.1, q5.2)) else (bnd (f_X4_lossesByTale (x1 + x7) x3 σ) fun q6 => if x4 < q6.1 then (kc52 x1 x2 x3 x4 x5 x6 (x7 + (1 : Int32)) q6.2) else (kc52 x1 x2 x3 x4 x5 (x6 + (1 : Int32)) (x7 + (1 : Int32)) q6.2))
theorem vb_X4_odds_52 {g : Gt} {ad : Nat → Nat} (z : Zt) (kc52 : Int32 → Int32 → Int32 → Int32 → Int32 → Int32 → Int32 → GX → Option (Int64 × GX)) (hkc52 : ∀ (x1 : Int32) (x2 : Int32) (x3 : Int32) (x4 : Int32) (x5 : Int32) (x6 : Int32) (x7 : Int32) (σ : GX), V g (LX ad) 8 RX4 cX4_odds 8 (some .long) (wX g ad) iL z (kc52 x1 x2 x3 x4 x5 x6 x7 σ) σ 52 [(0, .ref (aMain ad)), (1, .int x1), (2, .int x2), (3, .int x3), (4, .int x4), (5, .int x5), (6, .int x6), (7, .int x7)] []) (x1 : Int32) (x2 : Int32) (x3 : Int32) (x4 : Int32) (x5 : Int32) (x6 : Int32) (x7 : Int32) (σ : GX) : V g (LX ad) 8 RX4 cX4_odds 8 (some .long) (wX g ad) iL z (b_X4_odds_52 kc52 x1 x2 x3 x4 x5 x6 x7 σ) σ 52 [(0, .ref (aMain ad)), (1, .int x1), (2, .int x2), (3, .int x3), (4, .int x4), (5, .int x5), (6, .int x6), (7, .int x7)] [] := by
  unfold b_X4_odds_52
  refine v_iload (pc := 52) (i := 7) dX4_odds_52 rfl ?_
  refine v_iload_n (pc := 54) (i := 2) dX4_odds_54 rfl rfl ?_
  refine v_icmp_ge (pc := 55) (tgt := 81) dX4_odds_55 rfl ?_ ?_
  · refine v_iload (pc := 81) (i := 6) dX4_odds_81 rfl ?_
    refine v_iload_n (pc := 83) (i := 2) dX4_odds_83 rfl rfl ?_
    refine v_iload (pc := 84) (i := 5) dX4_odds_84 rfl ?_
    refine v_callSl (pc := 86) (av := [.int x6, .int x2, .int x5]) (rest := []) (ct_X4_inLowestTerms x6 x2 x5) mi_X4_inLowestTerms q_583 (by decide) rfl rfl (Nat.le_of_ble_eq_true rfl) dX4_odds_86 (fun q5 => ?_)
    exact v_lret (pc := 89) dX4_odds_89
  · refine v_aload_n (pc := 58) (i := 0) dX4_odds_58 rfl rfl ?_
    refine v_iload_n (pc := 59) (i := 1) dX4_odds_59 rfl rfl ?_
    refine v_iload (pc := 60) (i := 7) dX4_odds_60 rfl ?_
    refine v_iadd (pc := 62) dX4_odds_62 ?_
    refine v_iload_n (pc := 63) (i := 3) dX4_odds_63 rfl rfl ?_
    refine v_callVi (pc := 64) rcX4 (As := [.int (x1 + x7), .int x3]) (rest := []) (ct_X4_lossesByTale (x1 + x7) x3) mi_X4_lossesByTale q_649 (by decide) rfl rfl (Nat.le_of_ble_eq_true rfl) dX4_odds_64 (fun q6 => ?_)
    refine v_iload (pc := 67) (i := 4) dX4_odds_67 rfl ?_
    refine v_icmp_gt (pc := 69) (tgt := 75) dX4_odds_69 rfl ?_ ?_
    · refine v_iinc (pc := 75) (lv' := [(7, .int (x7 + (1 : Int32))), (0, .ref (aMain ad)), (1, .int x1), (2, .int x2), (3, .int x3), (4, .int x4), (5, .int x5), (6, .int x6)]) (i := 7) dX4_odds_75 rfl ic_1 (by decide) rfl ?_
      refine v_goto (pc := 78) (tgt := 52) dX4_odds_78 rfl ?_
      exact v_sub [1, 2, 3, 4, 5, 6, 7, 0] rfl (hkc52 x1 x2 x3 x4 x5 x6 (x7 + (1 : Int32)) q6.2)
    · refine v_iinc (pc := 72) (lv' := [(6, .int (x6 + (1 : Int32))), (0, .ref (aMain ad)), (1, .int x1), (2, .int x2), (3, .int x3), (4, .int x4), (5, .int x5), (7, .int x7)]) (i := 6) dX4_odds_72 rfl ic_1 (by decide) rfl ?_
      refine v_iinc (pc := 75) (lv' := [(7, .int (x7 + (1 : Int32))), (6, .int (x6 + (1 : Int32))), (0, .ref (aMain ad)), (1, .int x1), (2, .int x2), (3, .int x3), (4, .int x4), (5, .int x5)]) (i := 7) dX4_odds_75 rfl ic_1 (by decide) rfl ?_
      refine v_goto (pc := 78) (tgt := 52) dX4_odds_78 rfl ?_
      exact v_sub [2, 3, 4, 5, 6, 7, 1, 0] rfl (hkc52 x1 x2 x3 x4 x5 (x6 + (1 : Int32)) (x7 + (1 : Int32)) q6.2)
def k_X4_odds_52 : Nat → Int32 → Int32 → Int32 → Int32 → Int32 → Int32 → Int32 → GX → Option (Int64 × GX)
  | 0 => fun _ _ _ _ _ _ _ _ => none
  | n + 1 => b_X4_odds_52 (k_X4_odds_52 n)
theorem vk_X4_odds_52 {g : Gt} {ad : Nat → Nat} (z : Zt) : ∀ (n : Nat) (x1 : Int32) (x2 : Int32) (x3 : Int32) (x4 : Int32) (x5 : Int32) (x6 : Int32) (x7 : Int32) (σ : GX), V g (LX ad) 8 RX4 cX4_odds 8 (some .long) (wX g ad) iL z (k_X4_odds_52 n x1 x2 x3 x4 x5 x6 x7 σ) σ 52 [(0, .ref (aMain ad)), (1, .int x1), (2, .int x2), (3, .int x3), (4, .int x4), (5, .int x5), (6, .int x6), (7, .int x7)] [] := by
  intro n
  induction n with
  | zero => intros; exact v_eq rfl v_none
  | succ n ih =>
    intro x1 x2 x3 x4 x5 x6 x7 σ
    exact v_eq rfl (vb_X4_odds_52 z _ ih x1 x2 x3 x4 x5 x6 x7 σ)
def f_X4_odds (x1 : Int32) (x2 : Int32) (x3 : Int32) (x4 : Int32) (x5 : Int32) (σ : GX) : Option (Int64 × GX) :=
  bnd (f_X4_within x1 (0 : Int32) (99999 : Int32) σ) fun q1 => if q1.1 = 0 then (some ((-4611686018427387904 : Int64), q1.2)) else (bnd (f_X4_within x2 (1 : Int32) (40 : Int32) q1.2) fun q2 => if q2.1 = 0 then (some ((-4611686018427387904 : Int64), q2.2)) else (bnd (f_X4_within x3 (-99 : Int32) (99 : Int32) q2.2) fun q3 => if q3.1 = 0 then (some ((-4611686018427387904 : Int64), q3.2)) else (bnd (f_X4_within x4 (0 : Int32) (6 : Int32) q3.2) fun q4 => if q4.1 ≠ 0 then (k_X4_odds_52 FU x1 x2 x3 x4 x5 (0 : Int32) (0 : Int32) q4.2) else (some ((-4611686018427387904 : Int64), q4.2)))))
theorem vf_X4_odds {g : Gt} {ad : Nat → Nat} (z : Zt) (x1 : Int32) (x2 : Int32) (x3 : Int32) (x4 : Int32) (x5 : Int32) (σ : GX) : V g (LX ad) 8 RX4 cX4_odds 8 (some .long) (wX g ad) iL z (f_X4_odds x1 x2 x3 x4 x5 σ) σ 0 [(0, .ref (aMain ad)), (1, .int x1), (2, .int x2), (3, .int x3), (4, .int x4), (5, .int x5)] [] := by
  unfold f_X4_odds
  refine v_iload_n (pc := 0) (i := 1) dX4_odds_0 rfl rfl ?_
  refine v_iconst (pc := 1) dX4_odds_1 ic_0 ?_
  refine v_ldc (pc := 2) dX4_odds_2 q_648 ?_
  refine v_callSi (pc := 4) (av := [.int x1, .int (0 : Int32), .int (99999 : Int32)]) (rest := []) (ct_X4_within x1 (0 : Int32) (99999 : Int32)) mi_X4_within q_384 (by decide) rfl rfl (Nat.le_of_ble_eq_true rfl) dX4_odds_4 (fun q1 => ?_)
  refine v_if_eq (pc := 7) (tgt := 42) dX4_odds_7 rfl ?_ ?_
  · refine v_ldc2 (pc := 42) dX4_odds_42 q_546 ?_
    exact v_lret (pc := 45) dX4_odds_45
  · refine v_iload_n (pc := 10) (i := 2) dX4_odds_10 rfl rfl ?_
    refine v_iconst (pc := 11) dX4_odds_11 ic_1 ?_
    refine v_bipush (pc := 12) dX4_odds_12 bp_40 ?_
    refine v_callSi (pc := 14) (av := [.int x2, .int (1 : Int32), .int (40 : Int32)]) (rest := []) (ct_X4_within x2 (1 : Int32) (40 : Int32)) mi_X4_within q_384 (by decide) rfl rfl (Nat.le_of_ble_eq_true rfl) dX4_odds_14 (fun q2 => ?_)
    refine v_if_eq (pc := 17) (tgt := 42) dX4_odds_17 rfl ?_ ?_
    · refine v_ldc2 (pc := 42) dX4_odds_42 q_546 ?_
      exact v_lret (pc := 45) dX4_odds_45
    · refine v_iload_n (pc := 20) (i := 3) dX4_odds_20 rfl rfl ?_
      refine v_bipush (pc := 21) dX4_odds_21 bp_m99 ?_
      refine v_bipush (pc := 23) dX4_odds_23 bp_99 ?_
      refine v_callSi (pc := 25) (av := [.int x3, .int (-99 : Int32), .int (99 : Int32)]) (rest := []) (ct_X4_within x3 (-99 : Int32) (99 : Int32)) mi_X4_within q_384 (by decide) rfl rfl (Nat.le_of_ble_eq_true rfl) dX4_odds_25 (fun q3 => ?_)
      refine v_if_eq (pc := 28) (tgt := 42) dX4_odds_28 rfl ?_ ?_
      · refine v_ldc2 (pc := 42) dX4_odds_42 q_546 ?_
        exact v_lret (pc := 45) dX4_odds_45
      · refine v_iload (pc := 31) (i := 4) dX4_odds_31 rfl ?_
        refine v_iconst (pc := 33) dX4_odds_33 ic_0 ?_
        refine v_bipush (pc := 34) dX4_odds_34 bp_6 ?_
        refine v_callSi (pc := 36) (av := [.int x4, .int (0 : Int32), .int (6 : Int32)]) (rest := []) (ct_X4_within x4 (0 : Int32) (6 : Int32)) mi_X4_within q_384 (by decide) rfl rfl (Nat.le_of_ble_eq_true rfl) dX4_odds_36 (fun q4 => ?_)
        refine v_if_ne (pc := 39) (tgt := 46) dX4_odds_39 rfl ?_ ?_
        · refine v_iconst (pc := 46) dX4_odds_46 ic_0 ?_
          refine v_istore (pc := 47) (lv' := [(6, .int (0 : Int32)), (0, .ref (aMain ad)), (1, .int x1), (2, .int x2), (3, .int x3), (4, .int x4), (5, .int x5)]) (i := 6) dX4_odds_47 (by decide) rfl ?_
          refine v_iconst (pc := 49) dX4_odds_49 ic_0 ?_
          refine v_istore (pc := 50) (lv' := [(7, .int (0 : Int32)), (6, .int (0 : Int32)), (0, .ref (aMain ad)), (1, .int x1), (2, .int x2), (3, .int x3), (4, .int x4), (5, .int x5)]) (i := 7) dX4_odds_50 (by decide) rfl ?_
          exact v_sub [2, 3, 4, 5, 6, 7, 1, 0] rfl (vk_X4_odds_52 z FU x1 x2 x3 x4 x5 (0 : Int32) (0 : Int32) q4.2)
        · refine v_ldc2 (pc := 42) dX4_odds_42 q_546 ?_
          exact v_lret (pc := 45) dX4_odds_45
theorem ct_X4_odds {g : Gt} {ad : Nat → Nat} (x1 : Int32) (x2 : Int32) (x3 : Int32) (x4 : Int32) (x5 : Int32) : CT g (LX ad) yX4_odds cX4_odds 8 (some .long) 8 [.ref (aMain ad), .int x1, .int x2, .int x3, .int x4, .int x5] iL (wX g ad) (f_X4_odds x1 x2 x3 x4 x5) :=
  ct_of_V (own := RX4) (lv0 := [(0, .ref (aMain ad)), (1, .int x1), (2, .int x2), (3, .int x3), (4, .int x4), (5, .int x5)]) (by decide +kernel) rfl (Nat.le_of_ble_eq_true rfl) rfl (fun z σ => vf_X4_odds z x1 x2 x3 x4 x5 σ)
-- LighthouseLiedTo.image
theorem dX4_image_0 : decode cX4_image 0 = .ok (.aload_n 0, 1) := by decide +kernel
theorem dX4_image_1 : decode cX4_image 1 = .ok (.getfield 46, 3) := by decide +kernel
theorem dX4_image_4 : decode cX4_image 4 = .ok (.aload_n 0, 1) := by decide +kernel
theorem dX4_image_5 : decode cX4_image 5 = .ok (.getfield 39, 3) := by decide +kernel
theorem dX4_image_8 : decode cX4_image 8 = .ok (.invokevirtual 214, 3) := by decide +kernel
theorem dX4_image_11 : decode cX4_image 11 = .ok (.aload_n 0, 1) := by decide +kernel
theorem dX4_image_12 : decode cX4_image 12 = .ok (.iconst 1, 1) := by decide +kernel
theorem dX4_image_13 : decode cX4_image 13 = .ok (.putfield 217, 3) := by decide +kernel
theorem dX4_image_16 : decode cX4_image 16 = .ok (.aload_n 0, 1) := by decide +kernel
theorem dX4_image_17 : decode cX4_image 17 = .ok (.getfield 39, 3) := by decide +kernel
theorem dX4_image_20 : decode cX4_image 20 = .ok (.getfield 69, 3) := by decide +kernel
theorem dX4_image_23 : decode cX4_image 23 = .ok (.ireturn, 1) := by decide +kernel
def f_X4_image (σ : GX) : Option (Int32 × GX) :=
  bnd (f_X2_become 2 0 σ) fun q1 => bnd (some (sI q1.2 2 (1 : Int32))) fun σ2 => some ((xS σ2 0 1), σ2)
theorem vf_X4_image {g : Gt} {ad : Nat → Nat} (z : Zt) (σ : GX) : V g (LX ad) 2 RX4 cX4_image 1 (some .int) (wX g ad) iI z (f_X4_image σ) σ 0 [(0, .ref (aMain ad))] [] := by
  unfold f_X4_image
  refine v_aload_n (pc := 0) (i := 0) dX4_image_0 rfl rfl ?_
  refine gX4_kept (pc := 1) q_328 dX4_image_1 ?_
  refine v_aload_n (pc := 4) (i := 0) dX4_image_4 rfl rfl ?_
  refine gX4_now (pc := 5) q_326 dX4_image_5 ?_
  refine v_callVv (pc := 8) (rcX2 (by decide)) (As := [.ref (aSea ad 0)]) (rest := []) (ct_X2_become (by decide) (by decide)) mi_X2_become q_521 (by decide) rfl rfl (Nat.le_of_ble_eq_true rfl) dX4_image_8 (fun q1 => ?_)
  refine v_aload_n (pc := 11) (i := 0) dX4_image_11 rfl rfl ?_
  refine v_iconst (pc := 12) dX4_image_12 ic_1 ?_
  refine pX4_hasImage (pc := 13) rfl rfl q_334 dX4_image_13 ?_
  refine v_nms (fun σ2 => ?_)
  refine v_aload_n (pc := 16) (i := 0) dX4_image_16 rfl rfl ?_
  refine gX4_now (pc := 17) q_326 dX4_image_17 ?_
  refine gX2_ships (pc := 20) (y := 0) (by decide) q_163 dX4_image_20 ?_
  exact v_iret (pc := 23) dX4_image_23
theorem ct_X4_image {g : Gt} {ad : Nat → Nat} : CT g (LX ad) yX4_image cX4_image 1 (some .int) 2 [.ref (aMain ad)] iI (wX g ad) (f_X4_image) :=
  ct_of_V (own := RX4) (lv0 := [(0, .ref (aMain ad))]) (by decide +kernel) rfl (Nat.le_of_ble_eq_true rfl) rfl (fun z σ => vf_X4_image z σ)
-- LighthouseLiedTo.back
theorem dX4_back_0 : decode cX4_back 0 = .ok (.aload_n 0, 1) := by decide +kernel
theorem dX4_back_1 : decode cX4_back 1 = .ok (.getfield 217, 3) := by decide +kernel
theorem dX4_back_4 : decode cX4_back 4 = .ok (.ifCond .ne 6, 3) := by decide +kernel
theorem dX4_back_7 : decode cX4_back 7 = .ok (.bipush (-3), 2) := by decide +kernel
theorem dX4_back_9 : decode cX4_back 9 = .ok (.ireturn, 1) := by decide +kernel
theorem dX4_back_10 : decode cX4_back 10 = .ok (.aload_n 0, 1) := by decide +kernel
theorem dX4_back_11 : decode cX4_back 11 = .ok (.getfield 39, 3) := by decide +kernel
theorem dX4_back_14 : decode cX4_back 14 = .ok (.aload_n 0, 1) := by decide +kernel
theorem dX4_back_15 : decode cX4_back 15 = .ok (.getfield 46, 3) := by decide +kernel
theorem dX4_back_18 : decode cX4_back 18 = .ok (.invokevirtual 214, 3) := by decide +kernel
theorem dX4_back_21 : decode cX4_back 21 = .ok (.aload_n 0, 1) := by decide +kernel
theorem dX4_back_22 : decode cX4_back 22 = .ok (.getfield 39, 3) := by decide +kernel
theorem dX4_back_25 : decode cX4_back 25 = .ok (.getfield 69, 3) := by decide +kernel
theorem dX4_back_28 : decode cX4_back 28 = .ok (.ireturn, 1) := by decide +kernel
def f_X4_back (σ : GX) : Option (Int32 × GX) :=
  if (xI σ 2) ≠ 0 then (bnd (f_X2_become 0 2 σ) fun q1 => some ((xS q1.2 0 1), q1.2)) else (some ((-3 : Int32), σ))
theorem vf_X4_back {g : Gt} {ad : Nat → Nat} (z : Zt) (σ : GX) : V g (LX ad) 2 RX4 cX4_back 1 (some .int) (wX g ad) iI z (f_X4_back σ) σ 0 [(0, .ref (aMain ad))] [] := by
  unfold f_X4_back
  refine v_aload_n (pc := 0) (i := 0) dX4_back_0 rfl rfl ?_
  refine gX4_hasImage (pc := 1) q_334 dX4_back_1 ?_
  refine v_if_ne (pc := 4) (tgt := 10) dX4_back_4 rfl ?_ ?_
  · refine v_aload_n (pc := 10) (i := 0) dX4_back_10 rfl rfl ?_
    refine gX4_now (pc := 11) q_326 dX4_back_11 ?_
    refine v_aload_n (pc := 14) (i := 0) dX4_back_14 rfl rfl ?_
    refine gX4_kept (pc := 15) q_328 dX4_back_15 ?_
    refine v_callVv (pc := 18) (rcX2 (by decide)) (As := [.ref (aSea ad 2)]) (rest := []) (ct_X2_become (by decide) (by decide)) mi_X2_become q_521 (by decide) rfl rfl (Nat.le_of_ble_eq_true rfl) dX4_back_18 (fun q1 => ?_)
    refine v_aload_n (pc := 21) (i := 0) dX4_back_21 rfl rfl ?_
    refine gX4_now (pc := 22) q_326 dX4_back_22 ?_
    refine gX2_ships (pc := 25) (y := 0) (by decide) q_163 dX4_back_25 ?_
    exact v_iret (pc := 28) dX4_back_28
  · refine v_bipush (pc := 7) dX4_back_7 bp_m3 ?_
    exact v_iret (pc := 9) dX4_back_9
theorem ct_X4_back {g : Gt} {ad : Nat → Nat} : CT g (LX ad) yX4_back cX4_back 1 (some .int) 2 [.ref (aMain ad)] iI (wX g ad) (f_X4_back) :=
  ct_of_V (own := RX4) (lv0 := [(0, .ref (aMain ad))]) (by decide +kernel) rfl (Nat.le_of_ble_eq_true rfl) rfl (fun z σ => vf_X4_back z σ)
-- LighthouseLiedTo.sheet
theorem dX4_sheet_0 : decode cX4_sheet 0 = .ok (.iload_n 1, 1) := by decide +kernel
theorem dX4_sheet_1 : decode cX4_sheet 1 = .ok (.invokestatic 201, 3) := by decide +kernel
theorem dX4_sheet_4 : decode cX4_sheet 4 = .ok (.ifCond .eq 12, 3) := by decide +kernel
theorem dX4_sheet_7 : decode cX4_sheet 7 = .ok (.iload_n 2, 1) := by decide +kernel
theorem dX4_sheet_8 : decode cX4_sheet 8 = .ok (.iconst (-1), 1) := by decide +kernel
theorem dX4_sheet_9 : decode cX4_sheet 9 = .ok (.iconst 2, 1) := by decide +kernel
theorem dX4_sheet_10 : decode cX4_sheet 10 = .ok (.invokestatic 106, 3) := by decide +kernel
theorem dX4_sheet_13 : decode cX4_sheet 13 = .ok (.ifCond .ne 6, 3) := by decide +kernel
theorem dX4_sheet_16 : decode cX4_sheet 16 = .ok (.bipush (-2), 2) := by decide +kernel
theorem dX4_sheet_18 : decode cX4_sheet 18 = .ok (.ireturn, 1) := by decide +kernel
theorem dX4_sheet_19 : decode cX4_sheet 19 = .ok (.iload_n 2, 1) := by decide +kernel
theorem dX4_sheet_20 : decode cX4_sheet 20 = .ok (.iconst (-1), 1) := by decide +kernel
theorem dX4_sheet_21 : decode cX4_sheet 21 = .ok (.if_icmp .ne 16, 3) := by decide +kernel
theorem dX4_sheet_24 : decode cX4_sheet 24 = .ok (.aload_n 0, 1) := by decide +kernel
theorem dX4_sheet_25 : decode cX4_sheet 25 = .ok (.getfield 17, 3) := by decide +kernel
theorem dX4_sheet_28 : decode cX4_sheet 28 = .ok (.iload_n 1, 1) := by decide +kernel
theorem dX4_sheet_29 : decode cX4_sheet 29 = .ok (.aaload, 1) := by decide +kernel
theorem dX4_sheet_30 : decode cX4_sheet 30 = .ok (.iconst (-1), 1) := by decide +kernel
theorem dX4_sheet_31 : decode cX4_sheet 31 = .ok (.iconst 0, 1) := by decide +kernel
theorem dX4_sheet_32 : decode cX4_sheet 32 = .ok (.invokevirtual 204, 3) := by decide +kernel
theorem dX4_sheet_35 : decode cX4_sheet 35 = .ok (.iconst 1, 1) := by decide +kernel
theorem dX4_sheet_36 : decode cX4_sheet 36 = .ok (.ireturn, 1) := by decide +kernel
theorem dX4_sheet_37 : decode cX4_sheet 37 = .ok (.iload_n 3, 1) := by decide +kernel
theorem dX4_sheet_38 : decode cX4_sheet 38 = .ok (.bipush 40, 2) := by decide +kernel
theorem dX4_sheet_40 : decode cX4_sheet 40 = .ok (.if_icmp .le 6, 3) := by decide +kernel
theorem dX4_sheet_43 : decode cX4_sheet 43 = .ok (.bipush (-2), 2) := by decide +kernel
theorem dX4_sheet_45 : decode cX4_sheet 45 = .ok (.ireturn, 1) := by decide +kernel
theorem dX4_sheet_46 : decode cX4_sheet 46 = .ok (.iload_n 3, 1) := by decide +kernel
theorem dX4_sheet_47 : decode cX4_sheet 47 = .ok (.ifCond .ge 6, 3) := by decide +kernel
theorem dX4_sheet_50 : decode cX4_sheet 50 = .ok (.bipush (-14), 2) := by decide +kernel
theorem dX4_sheet_52 : decode cX4_sheet 52 = .ok (.ireturn, 1) := by decide +kernel
theorem dX4_sheet_53 : decode cX4_sheet 53 = .ok (.aload_n 0, 1) := by decide +kernel
theorem dX4_sheet_54 : decode cX4_sheet 54 = .ok (.getfield 17, 3) := by decide +kernel
theorem dX4_sheet_57 : decode cX4_sheet 57 = .ok (.iload_n 1, 1) := by decide +kernel
theorem dX4_sheet_58 : decode cX4_sheet 58 = .ok (.aaload, 1) := by decide +kernel
theorem dX4_sheet_59 : decode cX4_sheet 59 = .ok (.iload_n 2, 1) := by decide +kernel
theorem dX4_sheet_60 : decode cX4_sheet 60 = .ok (.iload_n 3, 1) := by decide +kernel
theorem dX4_sheet_61 : decode cX4_sheet 61 = .ok (.invokevirtual 204, 3) := by decide +kernel
theorem dX4_sheet_64 : decode cX4_sheet 64 = .ok (.iconst 1, 1) := by decide +kernel
theorem dX4_sheet_65 : decode cX4_sheet 65 = .ok (.ireturn, 1) := by decide +kernel
def f_X4_sheet (x1 : Int32) (x2 : Int32) (x3 : Int32) (σ : GX) : Option (Int32 × GX) :=
  bnd (f_X4_isSheet x1 σ) fun q1 => if q1.1 = 0 then (some ((-2 : Int32), q1.2)) else (bnd (f_X4_within x2 (-1 : Int32) (2 : Int32) q1.2) fun q2 => if q2.1 ≠ 0 then (if x2 ≠ (-1 : Int32) then (if x3 ≤ (40 : Int32) then (if 0 ≤ x3 then (grd x1 4 (bnd (f_X3_become (x1.toNatClampNeg) x2 x3 q2.2) fun q4 => some ((1 : Int32), q4.2))) else (some ((-14 : Int32), q2.2))) else (some ((-2 : Int32), q2.2))) else (grd x1 4 (bnd (f_X3_become (x1.toNatClampNeg) (-1 : Int32) (0 : Int32) q2.2) fun q6 => some ((1 : Int32), q6.2)))) else (some ((-2 : Int32), q2.2)))
theorem vf_X4_sheet {g : Gt} {ad : Nat → Nat} (z : Zt) (x1 : Int32) (x2 : Int32) (x3 : Int32) (σ : GX) : V g (LX ad) 3 RX4 cX4_sheet 4 (some .int) (wX g ad) iI z (f_X4_sheet x1 x2 x3 σ) σ 0 [(0, .ref (aMain ad)), (1, .int x1), (2, .int x2), (3, .int x3)] [] := by
  unfold f_X4_sheet
  refine v_iload_n (pc := 0) (i := 1) dX4_sheet_0 rfl rfl ?_
  refine v_callSi (pc := 1) (av := [.int x1]) (rest := []) (ct_X4_isSheet x1) mi_X4_isSheet q_601 (by decide) rfl rfl (Nat.le_of_ble_eq_true rfl) dX4_sheet_1 (fun q1 => ?_)
  refine v_if_eq (pc := 4) (tgt := 16) dX4_sheet_4 rfl ?_ ?_
  · refine v_bipush (pc := 16) dX4_sheet_16 bp_m2 ?_
    exact v_iret (pc := 18) dX4_sheet_18
  · refine v_iload_n (pc := 7) (i := 2) dX4_sheet_7 rfl rfl ?_
    refine v_iconst (pc := 8) dX4_sheet_8 ic_m1 ?_
    refine v_iconst (pc := 9) dX4_sheet_9 ic_2 ?_
    refine v_callSi (pc := 10) (av := [.int x2, .int (-1 : Int32), .int (2 : Int32)]) (rest := []) (ct_X4_within x2 (-1 : Int32) (2 : Int32)) mi_X4_within q_384 (by decide) rfl rfl (Nat.le_of_ble_eq_true rfl) dX4_sheet_10 (fun q2 => ?_)
    refine v_if_ne (pc := 13) (tgt := 19) dX4_sheet_13 rfl ?_ ?_
    · refine v_iload_n (pc := 19) (i := 2) dX4_sheet_19 rfl rfl ?_
      refine v_iconst (pc := 20) dX4_sheet_20 ic_m1 ?_
      refine v_icmp_ne (pc := 21) (tgt := 37) dX4_sheet_21 rfl ?_ ?_
      · refine v_iload_n (pc := 37) (i := 3) dX4_sheet_37 rfl rfl ?_
        refine v_bipush (pc := 38) dX4_sheet_38 bp_40 ?_
        refine v_icmp_le (pc := 40) (tgt := 46) dX4_sheet_40 rfl ?_ ?_
        · refine v_iload_n (pc := 46) (i := 3) dX4_sheet_46 rfl rfl ?_
          refine v_if_ge (pc := 47) (tgt := 53) dX4_sheet_47 rfl ?_ ?_
          · refine v_aload_n (pc := 53) (i := 0) dX4_sheet_53 rfl rfl ?_
            refine gX4_sheets (pc := 54) q_329 dX4_sheet_54 ?_
            refine v_iload_n (pc := 57) (i := 1) dX4_sheet_57 rfl rfl ?_
            refine aX_sheets (pc := 58) dX4_sheet_58 (fun ha3 => ?_)
            refine v_iload_n (pc := 59) (i := 2) dX4_sheet_59 rfl rfl ?_
            refine v_iload_n (pc := 60) (i := 3) dX4_sheet_60 rfl rfl ?_
            refine v_callVv (pc := 61) (rcX3 ha3) (As := [.int x2, .int x3]) (rest := []) (ct_X3_become ha3 x2 x3) mi_X3_become q_632 (by decide) rfl rfl (Nat.le_of_ble_eq_true rfl) dX4_sheet_61 (fun q4 => ?_)
            refine v_iconst (pc := 64) dX4_sheet_64 ic_1 ?_
            exact v_iret (pc := 65) dX4_sheet_65
          · refine v_bipush (pc := 50) dX4_sheet_50 bp_m14 ?_
            exact v_iret (pc := 52) dX4_sheet_52
        · refine v_bipush (pc := 43) dX4_sheet_43 bp_m2 ?_
          exact v_iret (pc := 45) dX4_sheet_45
      · refine v_aload_n (pc := 24) (i := 0) dX4_sheet_24 rfl rfl ?_
        refine gX4_sheets (pc := 25) q_329 dX4_sheet_25 ?_
        refine v_iload_n (pc := 28) (i := 1) dX4_sheet_28 rfl rfl ?_
        refine aX_sheets (pc := 29) dX4_sheet_29 (fun ha5 => ?_)
        refine v_iconst (pc := 30) dX4_sheet_30 ic_m1 ?_
        refine v_iconst (pc := 31) dX4_sheet_31 ic_0 ?_
        refine v_callVv (pc := 32) (rcX3 ha5) (As := [.int (-1 : Int32), .int (0 : Int32)]) (rest := []) (ct_X3_become ha5 (-1 : Int32) (0 : Int32)) mi_X3_become q_632 (by decide) rfl rfl (Nat.le_of_ble_eq_true rfl) dX4_sheet_32 (fun q6 => ?_)
        refine v_iconst (pc := 35) dX4_sheet_35 ic_1 ?_
        exact v_iret (pc := 36) dX4_sheet_36
    · refine v_bipush (pc := 16) dX4_sheet_16 bp_m2 ?_
      exact v_iret (pc := 18) dX4_sheet_18
theorem ct_X4_sheet {g : Gt} {ad : Nat → Nat} (x1 : Int32) (x2 : Int32) (x3 : Int32) : CT g (LX ad) yX4_sheet cX4_sheet 4 (some .int) 3 [.ref (aMain ad), .int x1, .int x2, .int x3] iI (wX g ad) (f_X4_sheet x1 x2 x3) :=
  ct_of_V (own := RX4) (lv0 := [(0, .ref (aMain ad)), (1, .int x1), (2, .int x2), (3, .int x3)]) (by decide +kernel) rfl (Nat.le_of_ble_eq_true rfl) rfl (fun z σ => vf_X4_sheet z x1 x2 x3 σ)
-- LighthouseLiedTo.cell
theorem dX4_cell_0 : decode cX4_cell 0 = .ok (.iload_n 1, 1) := by decide +kernel
theorem dX4_cell_1 : decode cX4_cell 1 = .ok (.invokestatic 201, 3) := by decide +kernel
theorem dX4_cell_4 : decode cX4_cell 4 = .ok (.ifCond .ne 6, 3) := by decide +kernel
theorem dX4_cell_7 : decode cX4_cell 7 = .ok (.bipush (-2), 2) := by decide +kernel
theorem dX4_cell_9 : decode cX4_cell 9 = .ok (.ireturn, 1) := by decide +kernel
theorem dX4_cell_10 : decode cX4_cell 10 = .ok (.aload_n 0, 1) := by decide +kernel
theorem dX4_cell_11 : decode cX4_cell 11 = .ok (.getfield 17, 3) := by decide +kernel
theorem dX4_cell_14 : decode cX4_cell 14 = .ok (.iload_n 1, 1) := by decide +kernel
theorem dX4_cell_15 : decode cX4_cell 15 = .ok (.aaload, 1) := by decide +kernel
theorem dX4_cell_16 : decode cX4_cell 16 = .ok (.getfield 221, 3) := by decide +kernel
theorem dX4_cell_19 : decode cX4_cell 19 = .ok (.iconst (-1), 1) := by decide +kernel
theorem dX4_cell_20 : decode cX4_cell 20 = .ok (.if_icmp .ne 6, 3) := by decide +kernel
theorem dX4_cell_23 : decode cX4_cell 23 = .ok (.bipush (-11), 2) := by decide +kernel
theorem dX4_cell_25 : decode cX4_cell 25 = .ok (.ireturn, 1) := by decide +kernel
theorem dX4_cell_26 : decode cX4_cell 26 = .ok (.aload_n 0, 1) := by decide +kernel
theorem dX4_cell_27 : decode cX4_cell 27 = .ok (.getfield 17, 3) := by decide +kernel
theorem dX4_cell_30 : decode cX4_cell 30 = .ok (.iload_n 1, 1) := by decide +kernel
theorem dX4_cell_31 : decode cX4_cell 31 = .ok (.aaload, 1) := by decide +kernel
theorem dX4_cell_32 : decode cX4_cell 32 = .ok (.iload_n 2, 1) := by decide +kernel
theorem dX4_cell_33 : decode cX4_cell 33 = .ok (.invokevirtual 224, 3) := by decide +kernel
theorem dX4_cell_36 : decode cX4_cell 36 = .ok (.ifCond .ne 6, 3) := by decide +kernel
theorem dX4_cell_39 : decode cX4_cell 39 = .ok (.bipush (-12), 2) := by decide +kernel
theorem dX4_cell_41 : decode cX4_cell 41 = .ok (.ireturn, 1) := by decide +kernel
theorem dX4_cell_42 : decode cX4_cell 42 = .ok (.aload_n 0, 1) := by decide +kernel
theorem dX4_cell_43 : decode cX4_cell 43 = .ok (.getfield 17, 3) := by decide +kernel
theorem dX4_cell_46 : decode cX4_cell 46 = .ok (.iload_n 1, 1) := by decide +kernel
theorem dX4_cell_47 : decode cX4_cell 47 = .ok (.aaload, 1) := by decide +kernel
theorem dX4_cell_48 : decode cX4_cell 48 = .ok (.iload_n 2, 1) := by decide +kernel
theorem dX4_cell_49 : decode cX4_cell 49 = .ok (.iload_n 3, 1) := by decide +kernel
theorem dX4_cell_50 : decode cX4_cell 50 = .ok (.invokevirtual 207, 3) := by decide +kernel
theorem dX4_cell_53 : decode cX4_cell 53 = .ok (.iconst 1, 1) := by decide +kernel
theorem dX4_cell_54 : decode cX4_cell 54 = .ok (.ireturn, 1) := by decide +kernel
def f_X4_cell (x1 : Int32) (x2 : Int32) (x3 : Int32) (σ : GX) : Option (Int32 × GX) :=
  bnd (f_X4_isSheet x1 σ) fun q1 => if q1.1 ≠ 0 then (grd x1 4 (if (xH q1.2 (x1.toNatClampNeg) 0) ≠ (-1 : Int32) then (grd x1 4 (bnd (f_X3_has (x1.toNatClampNeg) x2 q1.2) fun q4 => if q4.1 ≠ 0 then (grd x1 4 (bnd (f_X3_set (x1.toNatClampNeg) x2 x3 q4.2) fun q6 => some ((1 : Int32), q6.2))) else (some ((-12 : Int32), q4.2)))) else (some ((-11 : Int32), q1.2)))) else (some ((-2 : Int32), q1.2))
theorem vf_X4_cell {g : Gt} {ad : Nat → Nat} (z : Zt) (x1 : Int32) (x2 : Int32) (x3 : Int32) (σ : GX) : V g (LX ad) 3 RX4 cX4_cell 4 (some .int) (wX g ad) iI z (f_X4_cell x1 x2 x3 σ) σ 0 [(0, .ref (aMain ad)), (1, .int x1), (2, .int x2), (3, .int x3)] [] := by
  unfold f_X4_cell
  refine v_iload_n (pc := 0) (i := 1) dX4_cell_0 rfl rfl ?_
  refine v_callSi (pc := 1) (av := [.int x1]) (rest := []) (ct_X4_isSheet x1) mi_X4_isSheet q_601 (by decide) rfl rfl (Nat.le_of_ble_eq_true rfl) dX4_cell_1 (fun q1 => ?_)
  refine v_if_ne (pc := 4) (tgt := 10) dX4_cell_4 rfl ?_ ?_
  · refine v_aload_n (pc := 10) (i := 0) dX4_cell_10 rfl rfl ?_
    refine gX4_sheets (pc := 11) q_329 dX4_cell_11 ?_
    refine v_iload_n (pc := 14) (i := 1) dX4_cell_14 rfl rfl ?_
    refine aX_sheets (pc := 15) dX4_cell_15 (fun ha2 => ?_)
    refine gX3_sort (pc := 16) (q := (x1.toNatClampNeg)) ha2 q_131 dX4_cell_16 ?_
    refine v_iconst (pc := 19) dX4_cell_19 ic_m1 ?_
    refine v_icmp_ne (pc := 20) (tgt := 26) dX4_cell_20 rfl ?_ ?_
    · refine v_aload_n (pc := 26) (i := 0) dX4_cell_26 rfl rfl ?_
      refine gX4_sheets (pc := 27) q_329 dX4_cell_27 ?_
      refine v_iload_n (pc := 30) (i := 1) dX4_cell_30 rfl rfl ?_
      refine aX_sheets (pc := 31) dX4_cell_31 (fun ha3 => ?_)
      refine v_iload_n (pc := 32) (i := 2) dX4_cell_32 rfl rfl ?_
      refine v_callVi (pc := 33) (rcX3 ha3) (As := [.int x2]) (rest := []) (ct_X3_has ha3 x2) mi_X3_has q_676 (by decide) rfl rfl (Nat.le_of_ble_eq_true rfl) dX4_cell_33 (fun q4 => ?_)
      refine v_if_ne (pc := 36) (tgt := 42) dX4_cell_36 rfl ?_ ?_
      · refine v_aload_n (pc := 42) (i := 0) dX4_cell_42 rfl rfl ?_
        refine gX4_sheets (pc := 43) q_329 dX4_cell_43 ?_
        refine v_iload_n (pc := 46) (i := 1) dX4_cell_46 rfl rfl ?_
        refine aX_sheets (pc := 47) dX4_cell_47 (fun ha5 => ?_)
        refine v_iload_n (pc := 48) (i := 2) dX4_cell_48 rfl rfl ?_
        refine v_iload_n (pc := 49) (i := 3) dX4_cell_49 rfl rfl ?_
        refine v_callVv (pc := 50) (rcX3 ha5) (As := [.int x2, .int x3]) (rest := []) (ct_X3_set ha5 x2 x3) mi_X3_set q_636 (by decide) rfl rfl (Nat.le_of_ble_eq_true rfl) dX4_cell_50 (fun q6 => ?_)
        refine v_iconst (pc := 53) dX4_cell_53 ic_1 ?_
        exact v_iret (pc := 54) dX4_cell_54
      · refine v_bipush (pc := 39) dX4_cell_39 bp_m12 ?_
        exact v_iret (pc := 41) dX4_cell_41
    · refine v_bipush (pc := 23) dX4_cell_23 bp_m11 ?_
      exact v_iret (pc := 25) dX4_cell_25
  · refine v_bipush (pc := 7) dX4_cell_7 bp_m2 ?_
    exact v_iret (pc := 9) dX4_cell_9
theorem ct_X4_cell {g : Gt} {ad : Nat → Nat} (x1 : Int32) (x2 : Int32) (x3 : Int32) : CT g (LX ad) yX4_cell cX4_cell 4 (some .int) 3 [.ref (aMain ad), .int x1, .int x2, .int x3] iI (wX g ad) (f_X4_cell x1 x2 x3) :=
  ct_of_V (own := RX4) (lv0 := [(0, .ref (aMain ad)), (1, .int x1), (2, .int x2), (3, .int x3)]) (by decide +kernel) rfl (Nat.le_of_ble_eq_true rfl) rfl (fun z σ => vf_X4_cell z x1 x2 x3 σ)
-- LighthouseLiedTo.copy
theorem dX4_copy_0 : decode cX4_copy 0 = .ok (.iload_n 1, 1) := by decide +kernel
theorem dX4_copy_1 : decode cX4_copy 1 = .ok (.invokestatic 201, 3) := by decide +kernel
theorem dX4_copy_4 : decode cX4_copy 4 = .ok (.ifCond .eq 10, 3) := by decide +kernel
theorem dX4_copy_7 : decode cX4_copy 7 = .ok (.iload_n 3, 1) := by decide +kernel
theorem dX4_copy_8 : decode cX4_copy 8 = .ok (.invokestatic 201, 3) := by decide +kernel
theorem dX4_copy_11 : decode cX4_copy 11 = .ok (.ifCond .ne 6, 3) := by decide +kernel
theorem dX4_copy_14 : decode cX4_copy 14 = .ok (.bipush (-2), 2) := by decide +kernel
theorem dX4_copy_16 : decode cX4_copy 16 = .ok (.ireturn, 1) := by decide +kernel
theorem dX4_copy_17 : decode cX4_copy 17 = .ok (.aload_n 0, 1) := by decide +kernel
theorem dX4_copy_18 : decode cX4_copy 18 = .ok (.getfield 17, 3) := by decide +kernel
theorem dX4_copy_21 : decode cX4_copy 21 = .ok (.iload_n 1, 1) := by decide +kernel
theorem dX4_copy_22 : decode cX4_copy 22 = .ok (.aaload, 1) := by decide +kernel
theorem dX4_copy_23 : decode cX4_copy 23 = .ok (.astore 6, 2) := by decide +kernel
theorem dX4_copy_25 : decode cX4_copy 25 = .ok (.aload_n 0, 1) := by decide +kernel
theorem dX4_copy_26 : decode cX4_copy 26 = .ok (.getfield 17, 3) := by decide +kernel
theorem dX4_copy_29 : decode cX4_copy 29 = .ok (.iload_n 3, 1) := by decide +kernel
theorem dX4_copy_30 : decode cX4_copy 30 = .ok (.aaload, 1) := by decide +kernel
theorem dX4_copy_31 : decode cX4_copy 31 = .ok (.astore 7, 2) := by decide +kernel
theorem dX4_copy_33 : decode cX4_copy 33 = .ok (.aload 6, 2) := by decide +kernel
theorem dX4_copy_35 : decode cX4_copy 35 = .ok (.getfield 221, 3) := by decide +kernel
theorem dX4_copy_38 : decode cX4_copy 38 = .ok (.iconst (-1), 1) := by decide +kernel
theorem dX4_copy_39 : decode cX4_copy 39 = .ok (.if_icmp .eq 12, 3) := by decide +kernel
theorem dX4_copy_42 : decode cX4_copy 42 = .ok (.aload 7, 2) := by decide +kernel
theorem dX4_copy_44 : decode cX4_copy 44 = .ok (.getfield 221, 3) := by decide +kernel
theorem dX4_copy_47 : decode cX4_copy 47 = .ok (.iconst (-1), 1) := by decide +kernel
theorem dX4_copy_48 : decode cX4_copy 48 = .ok (.if_icmp .ne 6, 3) := by decide +kernel
theorem dX4_copy_51 : decode cX4_copy 51 = .ok (.bipush (-11), 2) := by decide +kernel
theorem dX4_copy_53 : decode cX4_copy 53 = .ok (.ireturn, 1) := by decide +kernel
theorem dX4_copy_54 : decode cX4_copy 54 = .ok (.aload 6, 2) := by decide +kernel
theorem dX4_copy_56 : decode cX4_copy 56 = .ok (.getfield 221, 3) := by decide +kernel
theorem dX4_copy_59 : decode cX4_copy 59 = .ok (.aload 7, 2) := by decide +kernel
theorem dX4_copy_61 : decode cX4_copy 61 = .ok (.getfield 221, 3) := by decide +kernel
theorem dX4_copy_64 : decode cX4_copy 64 = .ok (.if_icmp .eq 6, 3) := by decide +kernel
theorem dX4_copy_67 : decode cX4_copy 67 = .ok (.bipush (-13), 2) := by decide +kernel
theorem dX4_copy_69 : decode cX4_copy 69 = .ok (.ireturn, 1) := by decide +kernel
theorem dX4_copy_70 : decode cX4_copy 70 = .ok (.aload 6, 2) := by decide +kernel
theorem dX4_copy_72 : decode cX4_copy 72 = .ok (.iload_n 2, 1) := by decide +kernel
theorem dX4_copy_73 : decode cX4_copy 73 = .ok (.iload 5, 2) := by decide +kernel
theorem dX4_copy_75 : decode cX4_copy 75 = .ok (.invokevirtual 227, 3) := by decide +kernel
theorem dX4_copy_78 : decode cX4_copy 78 = .ok (.ifCond .eq 15, 3) := by decide +kernel
theorem dX4_copy_81 : decode cX4_copy 81 = .ok (.aload 7, 2) := by decide +kernel
theorem dX4_copy_83 : decode cX4_copy 83 = .ok (.iload 4, 2) := by decide +kernel
theorem dX4_copy_85 : decode cX4_copy 85 = .ok (.iload 5, 2) := by decide +kernel
theorem dX4_copy_87 : decode cX4_copy 87 = .ok (.invokevirtual 227, 3) := by decide +kernel
theorem dX4_copy_90 : decode cX4_copy 90 = .ok (.ifCond .ne 6, 3) := by decide +kernel
theorem dX4_copy_93 : decode cX4_copy 93 = .ok (.bipush (-12), 2) := by decide +kernel
theorem dX4_copy_95 : decode cX4_copy 95 = .ok (.ireturn, 1) := by decide +kernel
theorem dX4_copy_96 : decode cX4_copy 96 = .ok (.aload 6, 2) := by decide +kernel
theorem dX4_copy_98 : decode cX4_copy 98 = .ok (.getfield 231, 3) := by decide +kernel
theorem dX4_copy_101 : decode cX4_copy 101 = .ok (.iload_n 2, 1) := by decide +kernel
theorem dX4_copy_102 : decode cX4_copy 102 = .ok (.aload 7, 2) := by decide +kernel
theorem dX4_copy_104 : decode cX4_copy 104 = .ok (.getfield 231, 3) := by decide +kernel
theorem dX4_copy_107 : decode cX4_copy 107 = .ok (.iload 4, 2) := by decide +kernel
theorem dX4_copy_109 : decode cX4_copy 109 = .ok (.iload 5, 2) := by decide +kernel
theorem dX4_copy_111 : decode cX4_copy 111 = .ok (.invokestatic 234, 3) := by decide +kernel
theorem dX4_copy_114 : decode cX4_copy 114 = .ok (.iload 5, 2) := by decide +kernel
theorem dX4_copy_116 : decode cX4_copy 116 = .ok (.ireturn, 1) := by decide +kernel
def f_X4_copy (x1 : Int32) (x2 : Int32) (x3 : Int32) (x4 : Int32) (x5 : Int32) (σ : GX) : Option (Int32 × GX) :=
  bnd (f_X4_isSheet x1 σ) fun q1 => if q1.1 = 0 then (some ((-2 : Int32), q1.2)) else (bnd (f_X4_isSheet x3 q1.2) fun q2 => if q2.1 ≠ 0 then (grd x1 4 (grd x3 4 (if (xH q2.2 (x1.toNatClampNeg) 0) = (-1 : Int32) then (some ((-11 : Int32), q2.2)) else (if (xH q2.2 (x3.toNatClampNeg) 0) ≠ (-1 : Int32) then (if (xH q2.2 (x1.toNatClampNeg) 0) = (xH q2.2 (x3.toNatClampNeg) 0) then (bnd (f_X3_holds (x1.toNatClampNeg) x2 x5 q2.2) fun q5 => if q5.1 = 0 then (some ((-12 : Int32), q5.2)) else (bnd (f_X3_holds (x3.toNatClampNeg) x4 x5 q5.2) fun q6 => if q6.1 ≠ 0 then (cpG x2 x4 x5 40 40 (bnd (some (cN q6.2 (x1.toNatClampNeg) (x3.toNatClampNeg) x2.toNatClampNeg x4.toNatClampNeg x5.toNatClampNeg)) fun σ7 => some (x5, σ7))) else (some ((-12 : Int32), q6.2)))) else (some ((-13 : Int32), q2.2))) else (some ((-11 : Int32), q2.2)))))) else (some ((-2 : Int32), q2.2)))
theorem vf_X4_copy {g : Gt} {ad : Nat → Nat} (z : Zt) (x1 : Int32) (x2 : Int32) (x3 : Int32) (x4 : Int32) (x5 : Int32) (σ : GX) : V g (LX ad) 3 RX4 cX4_copy 8 (some .int) (wX g ad) iI z (f_X4_copy x1 x2 x3 x4 x5 σ) σ 0 [(0, .ref (aMain ad)), (1, .int x1), (2, .int x2), (3, .int x3), (4, .int x4), (5, .int x5)] [] := by
  unfold f_X4_copy
  refine v_iload_n (pc := 0) (i := 1) dX4_copy_0 rfl rfl ?_
  refine v_callSi (pc := 1) (av := [.int x1]) (rest := []) (ct_X4_isSheet x1) mi_X4_isSheet q_601 (by decide) rfl rfl (Nat.le_of_ble_eq_true rfl) dX4_copy_1 (fun q1 => ?_)
  refine v_if_eq (pc := 4) (tgt := 14) dX4_copy_4 rfl ?_ ?_
  · refine v_bipush (pc := 14) dX4_copy_14 bp_m2 ?_
    exact v_iret (pc := 16) dX4_copy_16
  · refine v_iload_n (pc := 7) (i := 3) dX4_copy_7 rfl rfl ?_
    refine v_callSi (pc := 8) (av := [.int x3]) (rest := []) (ct_X4_isSheet x3) mi_X4_isSheet q_601 (by decide) rfl rfl (Nat.le_of_ble_eq_true rfl) dX4_copy_8 (fun q2 => ?_)
    refine v_if_ne (pc := 11) (tgt := 17) dX4_copy_11 rfl ?_ ?_
    · refine v_aload_n (pc := 17) (i := 0) dX4_copy_17 rfl rfl ?_
      refine gX4_sheets (pc := 18) q_329 dX4_copy_18 ?_
      refine v_iload_n (pc := 21) (i := 1) dX4_copy_21 rfl rfl ?_
      refine aX_sheets (pc := 22) dX4_copy_22 (fun ha3 => ?_)
      refine v_astore (pc := 23) (lv' := [(6, .ref (aSheet ad (x1.toNatClampNeg))), (0, .ref (aMain ad)), (1, .int x1), (2, .int x2), (3, .int x3), (4, .int x4), (5, .int x5)]) (i := 6) dX4_copy_23 (by decide) rfl ?_
      refine v_aload_n (pc := 25) (i := 0) dX4_copy_25 rfl rfl ?_
      refine gX4_sheets (pc := 26) q_329 dX4_copy_26 ?_
      refine v_iload_n (pc := 29) (i := 3) dX4_copy_29 rfl rfl ?_
      refine aX_sheets (pc := 30) dX4_copy_30 (fun ha4 => ?_)
      refine v_astore (pc := 31) (lv' := [(7, .ref (aSheet ad (x3.toNatClampNeg))), (6, .ref (aSheet ad (x1.toNatClampNeg))), (0, .ref (aMain ad)), (1, .int x1), (2, .int x2), (3, .int x3), (4, .int x4), (5, .int x5)]) (i := 7) dX4_copy_31 (by decide) rfl ?_
      refine v_aload (pc := 33) (i := 6) dX4_copy_33 rfl ?_
      refine gX3_sort (pc := 35) (q := (x1.toNatClampNeg)) ha3 q_131 dX4_copy_35 ?_
      refine v_iconst (pc := 38) dX4_copy_38 ic_m1 ?_
      refine v_icmp_eq (pc := 39) (tgt := 51) dX4_copy_39 rfl ?_ ?_
      · refine v_bipush (pc := 51) dX4_copy_51 bp_m11 ?_
        exact v_iret (pc := 53) dX4_copy_53
      · refine v_aload (pc := 42) (i := 7) dX4_copy_42 rfl ?_
        refine gX3_sort (pc := 44) (q := (x3.toNatClampNeg)) ha4 q_131 dX4_copy_44 ?_
        refine v_iconst (pc := 47) dX4_copy_47 ic_m1 ?_
        refine v_icmp_ne (pc := 48) (tgt := 54) dX4_copy_48 rfl ?_ ?_
        · refine v_aload (pc := 54) (i := 6) dX4_copy_54 rfl ?_
          refine gX3_sort (pc := 56) (q := (x1.toNatClampNeg)) ha3 q_131 dX4_copy_56 ?_
          refine v_aload (pc := 59) (i := 7) dX4_copy_59 rfl ?_
          refine gX3_sort (pc := 61) (q := (x3.toNatClampNeg)) ha4 q_131 dX4_copy_61 ?_
          refine v_icmp_eq (pc := 64) (tgt := 70) dX4_copy_64 rfl ?_ ?_
          · refine v_aload (pc := 70) (i := 6) dX4_copy_70 rfl ?_
            refine v_iload_n (pc := 72) (i := 2) dX4_copy_72 rfl rfl ?_
            refine v_iload (pc := 73) (i := 5) dX4_copy_73 rfl ?_
            refine v_callVi (pc := 75) (rcX3 ha3) (As := [.int x2, .int x5]) (rest := []) (ct_X3_holds ha3 x2 x5) mi_X3_holds q_681 (by decide) rfl rfl (Nat.le_of_ble_eq_true rfl) dX4_copy_75 (fun q5 => ?_)
            refine v_if_eq (pc := 78) (tgt := 93) dX4_copy_78 rfl ?_ ?_
            · refine v_bipush (pc := 93) dX4_copy_93 bp_m12 ?_
              exact v_iret (pc := 95) dX4_copy_95
            · refine v_aload (pc := 81) (i := 7) dX4_copy_81 rfl ?_
              refine v_iload (pc := 83) (i := 4) dX4_copy_83 rfl ?_
              refine v_iload (pc := 85) (i := 5) dX4_copy_85 rfl ?_
              refine v_callVi (pc := 87) (rcX3 ha4) (As := [.int x4, .int x5]) (rest := []) (ct_X3_holds ha4 x4 x5) mi_X3_holds q_681 (by decide) rfl rfl (Nat.le_of_ble_eq_true rfl) dX4_copy_87 (fun q6 => ?_)
              refine v_if_ne (pc := 90) (tgt := 96) dX4_copy_90 rfl ?_ ?_
              · refine v_aload (pc := 96) (i := 6) dX4_copy_96 rfl ?_
                refine gX3_numbers (pc := 98) (q := (x1.toNatClampNeg)) ha3 q_129 dX4_copy_98 ?_
                refine v_iload_n (pc := 101) (i := 2) dX4_copy_101 rfl rfl ?_
                refine v_aload (pc := 102) (i := 7) dX4_copy_102 rfl ?_
                refine gX3_numbers (pc := 104) (q := (x3.toNatClampNeg)) ha4 q_129 dX4_copy_104 ?_
                refine v_iload (pc := 107) (i := 4) dX4_copy_107 rfl ?_
                refine v_iload (pc := 109) (i := 5) dX4_copy_109 rfl ?_
                refine v_cpy_nums (pc := 111) (q1 := (x1.toNatClampNeg)) ha3 (q := (x3.toNatClampNeg)) ha4 q_685 (by decide) (Nat.le_of_ble_eq_true rfl) dX4_copy_111 ?_
                refine v_nms (fun σ7 => ?_)
                refine v_iload (pc := 114) (i := 5) dX4_copy_114 rfl ?_
                exact v_iret (pc := 116) dX4_copy_116
              · refine v_bipush (pc := 93) dX4_copy_93 bp_m12 ?_
                exact v_iret (pc := 95) dX4_copy_95
          · refine v_bipush (pc := 67) dX4_copy_67 bp_m13 ?_
            exact v_iret (pc := 69) dX4_copy_69
        · refine v_bipush (pc := 51) dX4_copy_51 bp_m11 ?_
          exact v_iret (pc := 53) dX4_copy_53
    · refine v_bipush (pc := 14) dX4_copy_14 bp_m2 ?_
      exact v_iret (pc := 16) dX4_copy_16
theorem ct_X4_copy {g : Gt} {ad : Nat → Nat} (x1 : Int32) (x2 : Int32) (x3 : Int32) (x4 : Int32) (x5 : Int32) : CT g (LX ad) yX4_copy cX4_copy 8 (some .int) 3 [.ref (aMain ad), .int x1, .int x2, .int x3, .int x4, .int x5] iI (wX g ad) (f_X4_copy x1 x2 x3 x4 x5) :=
  ct_of_V (own := RX4) (lv0 := [(0, .ref (aMain ad)), (1, .int x1), (2, .int x2), (3, .int x3), (4, .int x4), (5, .int x5)]) (by decide +kernel) rfl (Nat.le_of_ble_eq_true rfl) rfl (fun z σ => vf_X4_copy z x1 x2 x3 x4 x5 σ)
-- LighthouseLiedTo.shipsBy
theorem dX4_shipsBy_0 : decode cX4_shipsBy 0 = .ok (.iload_n 1, 1) := by decide +kernel
theorem dX4_shipsBy_1 : decode cX4_shipsBy 1 = .ok (.invokestatic 201, 3) := by decide +kernel
theorem dX4_shipsBy_4 : decode cX4_shipsBy 4 = .ok (.ifCond .eq 23, 3) := by decide +kernel
theorem dX4_shipsBy_7 : decode cX4_shipsBy 7 = .ok (.iload_n 2, 1) := by decide +kernel
theorem dX4_shipsBy_8 : decode cX4_shipsBy 8 = .ok (.iconst 0, 1) := by decide +kernel
theorem dX4_shipsBy_9 : decode cX4_shipsBy 9 = .ok (.iconst 2, 1) := by decide +kernel
theorem dX4_shipsBy_10 : decode cX4_shipsBy 10 = .ok (.invokestatic 106, 3) := by decide +kernel
theorem dX4_shipsBy_13 : decode cX4_shipsBy 13 = .ok (.ifCond .eq 14, 3) := by decide +kernel
theorem dX4_shipsBy_16 : decode cX4_shipsBy 16 = .ok (.iload 4, 2) := by decide +kernel
theorem dX4_shipsBy_18 : decode cX4_shipsBy 18 = .ok (.iconst 0, 1) := by decide +kernel
theorem dX4_shipsBy_19 : decode cX4_shipsBy 19 = .ok (.bipush 6, 2) := by decide +kernel
theorem dX4_shipsBy_21 : decode cX4_shipsBy 21 = .ok (.invokestatic 106, 3) := by decide +kernel
theorem dX4_shipsBy_24 : decode cX4_shipsBy 24 = .ok (.ifCond .ne 6, 3) := by decide +kernel
theorem dX4_shipsBy_27 : decode cX4_shipsBy 27 = .ok (.bipush (-2), 2) := by decide +kernel
theorem dX4_shipsBy_29 : decode cX4_shipsBy 29 = .ok (.ireturn, 1) := by decide +kernel
theorem dX4_shipsBy_30 : decode cX4_shipsBy 30 = .ok (.aload_n 0, 1) := by decide +kernel
theorem dX4_shipsBy_31 : decode cX4_shipsBy 31 = .ok (.getfield 17, 3) := by decide +kernel
theorem dX4_shipsBy_34 : decode cX4_shipsBy 34 = .ok (.iload_n 1, 1) := by decide +kernel
theorem dX4_shipsBy_35 : decode cX4_shipsBy 35 = .ok (.aaload, 1) := by decide +kernel
theorem dX4_shipsBy_36 : decode cX4_shipsBy 36 = .ok (.astore 5, 2) := by decide +kernel
theorem dX4_shipsBy_38 : decode cX4_shipsBy 38 = .ok (.aload 5, 2) := by decide +kernel
theorem dX4_shipsBy_40 : decode cX4_shipsBy 40 = .ok (.getfield 221, 3) := by decide +kernel
theorem dX4_shipsBy_43 : decode cX4_shipsBy 43 = .ok (.iconst (-1), 1) := by decide +kernel
theorem dX4_shipsBy_44 : decode cX4_shipsBy 44 = .ok (.if_icmp .ne 6, 3) := by decide +kernel
theorem dX4_shipsBy_47 : decode cX4_shipsBy 47 = .ok (.bipush (-11), 2) := by decide +kernel
theorem dX4_shipsBy_49 : decode cX4_shipsBy 49 = .ok (.ireturn, 1) := by decide +kernel
theorem dX4_shipsBy_50 : decode cX4_shipsBy 50 = .ok (.aload 5, 2) := by decide +kernel
theorem dX4_shipsBy_52 : decode cX4_shipsBy 52 = .ok (.getfield 221, 3) := by decide +kernel
theorem dX4_shipsBy_55 : decode cX4_shipsBy 55 = .ok (.iload_n 2, 1) := by decide +kernel
theorem dX4_shipsBy_56 : decode cX4_shipsBy 56 = .ok (.if_icmp .eq 6, 3) := by decide +kernel
theorem dX4_shipsBy_59 : decode cX4_shipsBy 59 = .ok (.bipush (-13), 2) := by decide +kernel
theorem dX4_shipsBy_61 : decode cX4_shipsBy 61 = .ok (.ireturn, 1) := by decide +kernel
theorem dX4_shipsBy_62 : decode cX4_shipsBy 62 = .ok (.iconst 0, 1) := by decide +kernel
theorem dX4_shipsBy_63 : decode cX4_shipsBy 63 = .ok (.istore 6, 2) := by decide +kernel
theorem dX4_shipsBy_65 : decode cX4_shipsBy 65 = .ok (.iconst 0, 1) := by decide +kernel
theorem dX4_shipsBy_66 : decode cX4_shipsBy 66 = .ok (.istore 7, 2) := by decide +kernel
theorem dX4_shipsBy_68 : decode cX4_shipsBy 68 = .ok (.iload 7, 2) := by decide +kernel
theorem dX4_shipsBy_70 : decode cX4_shipsBy 70 = .ok (.iload 4, 2) := by decide +kernel
theorem dX4_shipsBy_72 : decode cX4_shipsBy 72 = .ok (.if_icmp .ge 59, 3) := by decide +kernel
theorem dX4_shipsBy_75 : decode cX4_shipsBy 75 = .ok (.iload_n 3, 1) := by decide +kernel
theorem dX4_shipsBy_76 : decode cX4_shipsBy 76 = .ok (.iconst 2, 1) := by decide +kernel
theorem dX4_shipsBy_77 : decode cX4_shipsBy 77 = .ok (.iload 7, 2) := by decide +kernel
theorem dX4_shipsBy_79 : decode cX4_shipsBy 79 = .ok (.imul, 1) := by decide +kernel
theorem dX4_shipsBy_80 : decode cX4_shipsBy 80 = .ok (.iadd, 1) := by decide +kernel
theorem dX4_shipsBy_81 : decode cX4_shipsBy 81 = .ok (.istore 8, 2) := by decide +kernel
theorem dX4_shipsBy_83 : decode cX4_shipsBy 83 = .ok (.aload 5, 2) := by decide +kernel
theorem dX4_shipsBy_85 : decode cX4_shipsBy 85 = .ok (.iload 8, 2) := by decide +kernel
theorem dX4_shipsBy_87 : decode cX4_shipsBy 87 = .ok (.iconst 2, 1) := by decide +kernel
theorem dX4_shipsBy_88 : decode cX4_shipsBy 88 = .ok (.invokevirtual 227, 3) := by decide +kernel
theorem dX4_shipsBy_91 : decode cX4_shipsBy 91 = .ok (.ifCond .ne 6, 3) := by decide +kernel
theorem dX4_shipsBy_94 : decode cX4_shipsBy 94 = .ok (.bipush (-12), 2) := by decide +kernel
theorem dX4_shipsBy_96 : decode cX4_shipsBy 96 = .ok (.ireturn, 1) := by decide +kernel
theorem dX4_shipsBy_97 : decode cX4_shipsBy 97 = .ok (.aload_n 0, 1) := by decide +kernel
theorem dX4_shipsBy_98 : decode cX4_shipsBy 98 = .ok (.aload 5, 2) := by decide +kernel
theorem dX4_shipsBy_100 : decode cX4_shipsBy 100 = .ok (.getfield 231, 3) := by decide +kernel
theorem dX4_shipsBy_103 : decode cX4_shipsBy 103 = .ok (.iload 8, 2) := by decide +kernel
theorem dX4_shipsBy_105 : decode cX4_shipsBy 105 = .ok (.iaload, 1) := by decide +kernel
theorem dX4_shipsBy_106 : decode cX4_shipsBy 106 = .ok (.aload 5, 2) := by decide +kernel
theorem dX4_shipsBy_108 : decode cX4_shipsBy 108 = .ok (.getfield 231, 3) := by decide +kernel
theorem dX4_shipsBy_111 : decode cX4_shipsBy 111 = .ok (.iload 8, 2) := by decide +kernel
theorem dX4_shipsBy_113 : decode cX4_shipsBy 113 = .ok (.iconst 1, 1) := by decide +kernel
theorem dX4_shipsBy_114 : decode cX4_shipsBy 114 = .ok (.iadd, 1) := by decide +kernel
theorem dX4_shipsBy_115 : decode cX4_shipsBy 115 = .ok (.iaload, 1) := by decide +kernel
theorem dX4_shipsBy_116 : decode cX4_shipsBy 116 = .ok (.invokevirtual 240, 3) := by decide +kernel
theorem dX4_shipsBy_119 : decode cX4_shipsBy 119 = .ok (.ifCond .lt 6, 3) := by decide +kernel
theorem dX4_shipsBy_122 : decode cX4_shipsBy 122 = .ok (.iinc 6 1, 3) := by decide +kernel
theorem dX4_shipsBy_125 : decode cX4_shipsBy 125 = .ok (.iinc 7 1, 3) := by decide +kernel
theorem dX4_shipsBy_128 : decode cX4_shipsBy 128 = .ok (.goto (-60), 3) := by decide +kernel
theorem dX4_shipsBy_131 : decode cX4_shipsBy 131 = .ok (.iload 6, 2) := by decide +kernel
theorem dX4_shipsBy_133 : decode cX4_shipsBy 133 = .ok (.ireturn, 1) := by decide +kernel
def b_X4_shipsBy_68 (kc68 : Int32 → Int32 → Nat → Int32 → Int32 → GX → Option (Int32 × GX)) (x3 : Int32) (x4 : Int32) (n5 : Nat) (x6 : Int32) (x7 : Int32) (σ : GX) : Option (Int32 × GX) :=
  if x4 ≤ x7 then (some (x6, σ)) else (bnd (some (x3 + ((2 : Int32) * x7))) fun w5 => bnd (f_X3_holds n5 w5 (2 : Int32) σ) fun q6 => if q6.1 ≠ 0 then (grd w5 40 (grd (w5 + (1 : Int32)) 40 (bnd (f_X4_ship (xN q6.2 n5 w5.toNatClampNeg) (xN q6.2 n5 (w5 + (1 : Int32)).toNatClampNeg) q6.2) fun q7 => if q7.1 < 0 then (kc68 x3 x4 (n5) x6 (x7 + (1 : Int32)) q7.2) else (kc68 x3 x4 (n5) (x6 + (1 : Int32)) (x7 + (1 : Int32)) q7.2)))) else (some ((-12 : Int32), q6.2)))
theorem vb_X4_shipsBy_68 {g : Gt} {ad : Nat → Nat} (z : Zt) (kc68 : Int32 → Int32 → Nat → Int32 → Int32 → GX → Option (Int32 × GX)) (hkc68 : ∀ (x3 : Int32) (x4 : Int32) (n5 : Nat) (x6 : Int32) (x7 : Int32) (hn5 : n5 < 4) (σ : GX), V g (LX ad) 3 RX4 cX4_shipsBy 9 (some .int) (wX g ad) iI z (kc68 x3 x4 n5 x6 x7 σ) σ 68 [(0, .ref (aMain ad)), (3, .int x3), (4, .int x4), (5, .ref (aSheet ad n5)), (6, .int x6), (7, .int x7)] []) (x3 : Int32) (x4 : Int32) (n5 : Nat) (x6 : Int32) (x7 : Int32) (hn5 : n5 < 4) (σ : GX) : V g (LX ad) 3 RX4 cX4_shipsBy 9 (some .int) (wX g ad) iI z (b_X4_shipsBy_68 kc68 x3 x4 n5 x6 x7 σ) σ 68 [(0, .ref (aMain ad)), (3, .int x3), (4, .int x4), (5, .ref (aSheet ad n5)), (6, .int x6), (7, .int x7)] [] := by
  unfold b_X4_shipsBy_68
  refine v_iload (pc := 68) (i := 7) dX4_shipsBy_68 rfl ?_
  refine v_iload (pc := 70) (i := 4) dX4_shipsBy_70 rfl ?_
  refine v_icmp_ge (pc := 72) (tgt := 131) dX4_shipsBy_72 rfl ?_ ?_
  · refine v_iload (pc := 131) (i := 6) dX4_shipsBy_131 rfl ?_
    exact v_iret (pc := 133) dX4_shipsBy_133
  · refine v_iload_n (pc := 75) (i := 3) dX4_shipsBy_75 rfl rfl ?_
    refine v_iconst (pc := 76) dX4_shipsBy_76 ic_2 ?_
    refine v_iload (pc := 77) (i := 7) dX4_shipsBy_77 rfl ?_
    refine v_imul (pc := 79) dX4_shipsBy_79 ?_
    refine v_iadd (pc := 80) dX4_shipsBy_80 ?_
    refine v_nmi (fun w5 => ?_)
    refine v_istore (pc := 81) (lv' := [(8, .int w5), (0, .ref (aMain ad)), (3, .int x3), (4, .int x4), (5, .ref (aSheet ad n5)), (6, .int x6), (7, .int x7)]) (i := 8) dX4_shipsBy_81 (by decide) rfl ?_
    refine v_aload (pc := 83) (i := 5) dX4_shipsBy_83 rfl ?_
    refine v_iload (pc := 85) (i := 8) dX4_shipsBy_85 rfl ?_
    refine v_iconst (pc := 87) dX4_shipsBy_87 ic_2 ?_
    refine v_callVi (pc := 88) (rcX3 hn5) (As := [.int w5, .int (2 : Int32)]) (rest := []) (ct_X3_holds hn5 w5 (2 : Int32)) mi_X3_holds q_681 (by decide) rfl rfl (Nat.le_of_ble_eq_true rfl) dX4_shipsBy_88 (fun q6 => ?_)
    refine v_if_ne (pc := 91) (tgt := 97) dX4_shipsBy_91 rfl ?_ ?_
    · refine v_aload_n (pc := 97) (i := 0) dX4_shipsBy_97 rfl rfl ?_
      refine v_aload (pc := 98) (i := 5) dX4_shipsBy_98 rfl ?_
      refine gX3_numbers (pc := 100) (q := n5) hn5 q_129 dX4_shipsBy_100 ?_
      refine v_iload (pc := 103) (i := 8) dX4_shipsBy_103 rfl ?_
      refine lX_nums (pc := 105) (q := n5) hn5 dX4_shipsBy_105 ?_
      refine v_aload (pc := 106) (i := 5) dX4_shipsBy_106 rfl ?_
      refine gX3_numbers (pc := 108) (q := n5) hn5 q_129 dX4_shipsBy_108 ?_
      refine v_iload (pc := 111) (i := 8) dX4_shipsBy_111 rfl ?_
      refine v_iconst (pc := 113) dX4_shipsBy_113 ic_1 ?_
      refine v_iadd (pc := 114) dX4_shipsBy_114 ?_
      refine lX_nums (pc := 115) (q := n5) hn5 dX4_shipsBy_115 ?_
      refine v_callVi (pc := 116) rcX4 (As := [.int (xN q6.2 n5 w5.toNatClampNeg), .int (xN q6.2 n5 (w5 + (1 : Int32)).toNatClampNeg)]) (rest := []) (ct_X4_ship (xN q6.2 n5 w5.toNatClampNeg) (xN q6.2 n5 (w5 + (1 : Int32)).toNatClampNeg)) mi_X4_ship q_690 (by decide) rfl rfl (Nat.le_of_ble_eq_true rfl) dX4_shipsBy_116 (fun q7 => ?_)
      refine v_if_lt (pc := 119) (tgt := 125) dX4_shipsBy_119 rfl ?_ ?_
      · refine v_iinc (pc := 125) (lv' := [(7, .int (x7 + (1 : Int32))), (8, .int w5), (0, .ref (aMain ad)), (3, .int x3), (4, .int x4), (5, .ref (aSheet ad n5)), (6, .int x6)]) (i := 7) dX4_shipsBy_125 rfl ic_1 (by decide) rfl ?_
        refine v_goto (pc := 128) (tgt := 68) dX4_shipsBy_128 rfl ?_
        exact v_sub [2, 3, 4, 5, 6, 0] rfl (hkc68 x3 x4 (n5) x6 (x7 + (1 : Int32)) hn5 q7.2)
      · refine v_iinc (pc := 122) (lv' := [(6, .int (x6 + (1 : Int32))), (8, .int w5), (0, .ref (aMain ad)), (3, .int x3), (4, .int x4), (5, .ref (aSheet ad n5)), (7, .int x7)]) (i := 6) dX4_shipsBy_122 rfl ic_1 (by decide) rfl ?_
        refine v_iinc (pc := 125) (lv' := [(7, .int (x7 + (1 : Int32))), (6, .int (x6 + (1 : Int32))), (8, .int w5), (0, .ref (aMain ad)), (3, .int x3), (4, .int x4), (5, .ref (aSheet ad n5))]) (i := 7) dX4_shipsBy_125 rfl ic_1 (by decide) rfl ?_
        refine v_goto (pc := 128) (tgt := 68) dX4_shipsBy_128 rfl ?_
        exact v_sub [3, 4, 5, 6, 1, 0] rfl (hkc68 x3 x4 (n5) (x6 + (1 : Int32)) (x7 + (1 : Int32)) hn5 q7.2)
    · refine v_bipush (pc := 94) dX4_shipsBy_94 bp_m12 ?_
      exact v_iret (pc := 96) dX4_shipsBy_96
def k_X4_shipsBy_68 : Nat → Int32 → Int32 → Nat → Int32 → Int32 → GX → Option (Int32 × GX)
  | 0 => fun _ _ _ _ _ _ => none
  | n + 1 => b_X4_shipsBy_68 (k_X4_shipsBy_68 n)
theorem vk_X4_shipsBy_68 {g : Gt} {ad : Nat → Nat} (z : Zt) : ∀ (n : Nat) (x3 : Int32) (x4 : Int32) (n5 : Nat) (x6 : Int32) (x7 : Int32) (hn5 : n5 < 4) (σ : GX), V g (LX ad) 3 RX4 cX4_shipsBy 9 (some .int) (wX g ad) iI z (k_X4_shipsBy_68 n x3 x4 n5 x6 x7 σ) σ 68 [(0, .ref (aMain ad)), (3, .int x3), (4, .int x4), (5, .ref (aSheet ad n5)), (6, .int x6), (7, .int x7)] [] := by
  intro n
  induction n with
  | zero => intros; exact v_eq rfl v_none
  | succ n ih =>
    intro x3 x4 n5 x6 x7 hn5 σ
    exact v_eq rfl (vb_X4_shipsBy_68 z _ ih x3 x4 n5 x6 x7 hn5 σ)
def f_X4_shipsBy (x1 : Int32) (x2 : Int32) (x3 : Int32) (x4 : Int32) (σ : GX) : Option (Int32 × GX) :=
  bnd (f_X4_isSheet x1 σ) fun q1 => if q1.1 = 0 then (some ((-2 : Int32), q1.2)) else (bnd (f_X4_within x2 (0 : Int32) (2 : Int32) q1.2) fun q2 => if q2.1 = 0 then (some ((-2 : Int32), q2.2)) else (bnd (f_X4_within x4 (0 : Int32) (6 : Int32) q2.2) fun q3 => if q3.1 ≠ 0 then (grd x1 4 (if (xH q3.2 (x1.toNatClampNeg) 0) ≠ (-1 : Int32) then (if (xH q3.2 (x1.toNatClampNeg) 0) = x2 then (k_X4_shipsBy_68 FU x3 x4 ((x1.toNatClampNeg)) (0 : Int32) (0 : Int32) q3.2) else (some ((-13 : Int32), q3.2))) else (some ((-11 : Int32), q3.2)))) else (some ((-2 : Int32), q3.2))))
theorem vf_X4_shipsBy {g : Gt} {ad : Nat → Nat} (z : Zt) (x1 : Int32) (x2 : Int32) (x3 : Int32) (x4 : Int32) (σ : GX) : V g (LX ad) 3 RX4 cX4_shipsBy 9 (some .int) (wX g ad) iI z (f_X4_shipsBy x1 x2 x3 x4 σ) σ 0 [(0, .ref (aMain ad)), (1, .int x1), (2, .int x2), (3, .int x3), (4, .int x4)] [] := by
  unfold f_X4_shipsBy
  refine v_iload_n (pc := 0) (i := 1) dX4_shipsBy_0 rfl rfl ?_
  refine v_callSi (pc := 1) (av := [.int x1]) (rest := []) (ct_X4_isSheet x1) mi_X4_isSheet q_601 (by decide) rfl rfl (Nat.le_of_ble_eq_true rfl) dX4_shipsBy_1 (fun q1 => ?_)
  refine v_if_eq (pc := 4) (tgt := 27) dX4_shipsBy_4 rfl ?_ ?_
  · refine v_bipush (pc := 27) dX4_shipsBy_27 bp_m2 ?_
    exact v_iret (pc := 29) dX4_shipsBy_29
  · refine v_iload_n (pc := 7) (i := 2) dX4_shipsBy_7 rfl rfl ?_
    refine v_iconst (pc := 8) dX4_shipsBy_8 ic_0 ?_
    refine v_iconst (pc := 9) dX4_shipsBy_9 ic_2 ?_
    refine v_callSi (pc := 10) (av := [.int x2, .int (0 : Int32), .int (2 : Int32)]) (rest := []) (ct_X4_within x2 (0 : Int32) (2 : Int32)) mi_X4_within q_384 (by decide) rfl rfl (Nat.le_of_ble_eq_true rfl) dX4_shipsBy_10 (fun q2 => ?_)
    refine v_if_eq (pc := 13) (tgt := 27) dX4_shipsBy_13 rfl ?_ ?_
    · refine v_bipush (pc := 27) dX4_shipsBy_27 bp_m2 ?_
      exact v_iret (pc := 29) dX4_shipsBy_29
    · refine v_iload (pc := 16) (i := 4) dX4_shipsBy_16 rfl ?_
      refine v_iconst (pc := 18) dX4_shipsBy_18 ic_0 ?_
      refine v_bipush (pc := 19) dX4_shipsBy_19 bp_6 ?_
      refine v_callSi (pc := 21) (av := [.int x4, .int (0 : Int32), .int (6 : Int32)]) (rest := []) (ct_X4_within x4 (0 : Int32) (6 : Int32)) mi_X4_within q_384 (by decide) rfl rfl (Nat.le_of_ble_eq_true rfl) dX4_shipsBy_21 (fun q3 => ?_)
      refine v_if_ne (pc := 24) (tgt := 30) dX4_shipsBy_24 rfl ?_ ?_
      · refine v_aload_n (pc := 30) (i := 0) dX4_shipsBy_30 rfl rfl ?_
        refine gX4_sheets (pc := 31) q_329 dX4_shipsBy_31 ?_
        refine v_iload_n (pc := 34) (i := 1) dX4_shipsBy_34 rfl rfl ?_
        refine aX_sheets (pc := 35) dX4_shipsBy_35 (fun ha4 => ?_)
        refine v_astore (pc := 36) (lv' := [(5, .ref (aSheet ad (x1.toNatClampNeg))), (0, .ref (aMain ad)), (1, .int x1), (2, .int x2), (3, .int x3), (4, .int x4)]) (i := 5) dX4_shipsBy_36 (by decide) rfl ?_
        refine v_aload (pc := 38) (i := 5) dX4_shipsBy_38 rfl ?_
        refine gX3_sort (pc := 40) (q := (x1.toNatClampNeg)) ha4 q_131 dX4_shipsBy_40 ?_
        refine v_iconst (pc := 43) dX4_shipsBy_43 ic_m1 ?_
        refine v_icmp_ne (pc := 44) (tgt := 50) dX4_shipsBy_44 rfl ?_ ?_
        · refine v_aload (pc := 50) (i := 5) dX4_shipsBy_50 rfl ?_
          refine gX3_sort (pc := 52) (q := (x1.toNatClampNeg)) ha4 q_131 dX4_shipsBy_52 ?_
          refine v_iload_n (pc := 55) (i := 2) dX4_shipsBy_55 rfl rfl ?_
          refine v_icmp_eq (pc := 56) (tgt := 62) dX4_shipsBy_56 rfl ?_ ?_
          · refine v_iconst (pc := 62) dX4_shipsBy_62 ic_0 ?_
            refine v_istore (pc := 63) (lv' := [(6, .int (0 : Int32)), (5, .ref (aSheet ad (x1.toNatClampNeg))), (0, .ref (aMain ad)), (1, .int x1), (2, .int x2), (3, .int x3), (4, .int x4)]) (i := 6) dX4_shipsBy_63 (by decide) rfl ?_
            refine v_iconst (pc := 65) dX4_shipsBy_65 ic_0 ?_
            refine v_istore (pc := 66) (lv' := [(7, .int (0 : Int32)), (6, .int (0 : Int32)), (5, .ref (aSheet ad (x1.toNatClampNeg))), (0, .ref (aMain ad)), (1, .int x1), (2, .int x2), (3, .int x3), (4, .int x4)]) (i := 7) dX4_shipsBy_66 (by decide) rfl ?_
            exact v_sub [3, 6, 7, 2, 1, 0] rfl (vk_X4_shipsBy_68 z FU x3 x4 ((x1.toNatClampNeg)) (0 : Int32) (0 : Int32) ha4 q3.2)
          · refine v_bipush (pc := 59) dX4_shipsBy_59 bp_m13 ?_
            exact v_iret (pc := 61) dX4_shipsBy_61
        · refine v_bipush (pc := 47) dX4_shipsBy_47 bp_m11 ?_
          exact v_iret (pc := 49) dX4_shipsBy_49
      · refine v_bipush (pc := 27) dX4_shipsBy_27 bp_m2 ?_
        exact v_iret (pc := 29) dX4_shipsBy_29
theorem ct_X4_shipsBy {g : Gt} {ad : Nat → Nat} (x1 : Int32) (x2 : Int32) (x3 : Int32) (x4 : Int32) : CT g (LX ad) yX4_shipsBy cX4_shipsBy 9 (some .int) 3 [.ref (aMain ad), .int x1, .int x2, .int x3, .int x4] iI (wX g ad) (f_X4_shipsBy x1 x2 x3 x4) :=
  ct_of_V (own := RX4) (lv0 := [(0, .ref (aMain ad)), (1, .int x1), (2, .int x2), (3, .int x3), (4, .int x4)]) (by decide +kernel) rfl (Nat.le_of_ble_eq_true rfl) rfl (fun z σ => vf_X4_shipsBy z x1 x2 x3 x4 σ)
-- LighthouseLiedTo.taken
theorem dX4_taken_0 : decode cX4_taken 0 = .ok (.iload_n 2, 1) := by decide +kernel
theorem dX4_taken_1 : decode cX4_taken 1 = .ok (.iconst 0, 1) := by decide +kernel
theorem dX4_taken_2 : decode cX4_taken 2 = .ok (.bipush 6, 2) := by decide +kernel
theorem dX4_taken_4 : decode cX4_taken 4 = .ok (.invokestatic 106, 3) := by decide +kernel
theorem dX4_taken_7 : decode cX4_taken 7 = .ok (.ifCond .ne 6, 3) := by decide +kernel
theorem dX4_taken_10 : decode cX4_taken 10 = .ok (.bipush (-2), 2) := by decide +kernel
theorem dX4_taken_12 : decode cX4_taken 12 = .ok (.ireturn, 1) := by decide +kernel
theorem dX4_taken_13 : decode cX4_taken 13 = .ok (.iload_n 1, 1) := by decide +kernel
theorem dX4_taken_14 : decode cX4_taken 14 = .ok (.iconst 0, 1) := by decide +kernel
theorem dX4_taken_15 : decode cX4_taken 15 = .ok (.bipush 41, 2) := by decide +kernel
theorem dX4_taken_17 : decode cX4_taken 17 = .ok (.invokestatic 106, 3) := by decide +kernel
theorem dX4_taken_20 : decode cX4_taken 20 = .ok (.ifCond .ne 6, 3) := by decide +kernel
theorem dX4_taken_23 : decode cX4_taken 23 = .ok (.bipush (-12), 2) := by decide +kernel
theorem dX4_taken_25 : decode cX4_taken 25 = .ok (.ireturn, 1) := by decide +kernel
theorem dX4_taken_26 : decode cX4_taken 26 = .ok (.iload_n 1, 1) := by decide +kernel
theorem dX4_taken_27 : decode cX4_taken 27 = .ok (.bipush 6, 2) := by decide +kernel
theorem dX4_taken_29 : decode cX4_taken 29 = .ok (.if_icmp .lt 27, 3) := by decide +kernel
theorem dX4_taken_32 : decode cX4_taken 32 = .ok (.iload_n 2, 1) := by decide +kernel
theorem dX4_taken_33 : decode cX4_taken 33 = .ok (.bipush 6, 2) := by decide +kernel
theorem dX4_taken_35 : decode cX4_taken 35 = .ok (.if_icmp .ne 18, 3) := by decide +kernel
theorem dX4_taken_38 : decode cX4_taken 38 = .ok (.aload_n 0, 1) := by decide +kernel
theorem dX4_taken_39 : decode cX4_taken 39 = .ok (.getfield 39, 3) := by decide +kernel
theorem dX4_taken_42 : decode cX4_taken 42 = .ok (.getfield 119, 3) := by decide +kernel
theorem dX4_taken_45 : decode cX4_taken 45 = .ok (.iload_n 1, 1) := by decide +kernel
theorem dX4_taken_46 : decode cX4_taken 46 = .ok (.bipush 6, 2) := by decide +kernel
theorem dX4_taken_48 : decode cX4_taken 48 = .ok (.isub, 1) := by decide +kernel
theorem dX4_taken_49 : decode cX4_taken 49 = .ok (.iaload, 1) := by decide +kernel
theorem dX4_taken_50 : decode cX4_taken 50 = .ok (.goto 5, 3) := by decide +kernel
theorem dX4_taken_53 : decode cX4_taken 53 = .ok (.bipush (-13), 2) := by decide +kernel
theorem dX4_taken_55 : decode cX4_taken 55 = .ok (.ireturn, 1) := by decide +kernel
theorem dX4_taken_56 : decode cX4_taken 56 = .ok (.aload_n 0, 1) := by decide +kernel
theorem dX4_taken_57 : decode cX4_taken 57 = .ok (.iload_n 1, 1) := by decide +kernel
theorem dX4_taken_58 : decode cX4_taken 58 = .ok (.invokevirtual 125, 3) := by decide +kernel
theorem dX4_taken_61 : decode cX4_taken 61 = .ok (.ifCond .ne 6, 3) := by decide +kernel
theorem dX4_taken_64 : decode cX4_taken 64 = .ok (.bipush (-11), 2) := by decide +kernel
theorem dX4_taken_66 : decode cX4_taken 66 = .ok (.ireturn, 1) := by decide +kernel
theorem dX4_taken_67 : decode cX4_taken 67 = .ok (.aload_n 0, 1) := by decide +kernel
theorem dX4_taken_68 : decode cX4_taken 68 = .ok (.getfield 39, 3) := by decide +kernel
theorem dX4_taken_71 : decode cX4_taken 71 = .ok (.iload_n 1, 1) := by decide +kernel
theorem dX4_taken_72 : decode cX4_taken 72 = .ok (.iload_n 2, 1) := by decide +kernel
theorem dX4_taken_73 : decode cX4_taken 73 = .ok (.invokevirtual 243, 3) := by decide +kernel
theorem dX4_taken_76 : decode cX4_taken 76 = .ok (.ifCond .eq 7, 3) := by decide +kernel
theorem dX4_taken_79 : decode cX4_taken 79 = .ok (.iload_n 1, 1) := by decide +kernel
theorem dX4_taken_80 : decode cX4_taken 80 = .ok (.goto 5, 3) := by decide +kernel
theorem dX4_taken_83 : decode cX4_taken 83 = .ok (.bipush (-13), 2) := by decide +kernel
theorem dX4_taken_85 : decode cX4_taken 85 = .ok (.ireturn, 1) := by decide +kernel
def f_X4_taken (x1 : Int32) (x2 : Int32) (σ : GX) : Option (Int32 × GX) :=
  bnd (f_X4_within x2 (0 : Int32) (6 : Int32) σ) fun q1 => if q1.1 ≠ 0 then (bnd (f_X4_within x1 (0 : Int32) (41 : Int32) q1.2) fun q2 => if q2.1 ≠ 0 then (if x1 < (6 : Int32) then (bnd (f_X4_isShip x1 q2.2) fun q3 => if q3.1 ≠ 0 then (bnd (f_X2_isOne 0 x1 x2 q3.2) fun q4 => if q4.1 = 0 then (some ((-13 : Int32), q4.2)) else (some (x1, q4.2))) else (some ((-11 : Int32), q3.2))) else (if x2 ≠ (6 : Int32) then (some ((-13 : Int32), q2.2)) else (grd (x1 - (6 : Int32)) 36 (some ((xB q2.2 0 0 (x1 - (6 : Int32)).toNatClampNeg), q2.2))))) else (some ((-12 : Int32), q2.2))) else (some ((-2 : Int32), q1.2))
theorem vf_X4_taken {g : Gt} {ad : Nat → Nat} (z : Zt) (x1 : Int32) (x2 : Int32) (σ : GX) : V g (LX ad) 3 RX4 cX4_taken 3 (some .int) (wX g ad) iI z (f_X4_taken x1 x2 σ) σ 0 [(0, .ref (aMain ad)), (1, .int x1), (2, .int x2)] [] := by
  unfold f_X4_taken
  refine v_iload_n (pc := 0) (i := 2) dX4_taken_0 rfl rfl ?_
  refine v_iconst (pc := 1) dX4_taken_1 ic_0 ?_
  refine v_bipush (pc := 2) dX4_taken_2 bp_6 ?_
  refine v_callSi (pc := 4) (av := [.int x2, .int (0 : Int32), .int (6 : Int32)]) (rest := []) (ct_X4_within x2 (0 : Int32) (6 : Int32)) mi_X4_within q_384 (by decide) rfl rfl (Nat.le_of_ble_eq_true rfl) dX4_taken_4 (fun q1 => ?_)
  refine v_if_ne (pc := 7) (tgt := 13) dX4_taken_7 rfl ?_ ?_
  · refine v_iload_n (pc := 13) (i := 1) dX4_taken_13 rfl rfl ?_
    refine v_iconst (pc := 14) dX4_taken_14 ic_0 ?_
    refine v_bipush (pc := 15) dX4_taken_15 bp_41 ?_
    refine v_callSi (pc := 17) (av := [.int x1, .int (0 : Int32), .int (41 : Int32)]) (rest := []) (ct_X4_within x1 (0 : Int32) (41 : Int32)) mi_X4_within q_384 (by decide) rfl rfl (Nat.le_of_ble_eq_true rfl) dX4_taken_17 (fun q2 => ?_)
    refine v_if_ne (pc := 20) (tgt := 26) dX4_taken_20 rfl ?_ ?_
    · refine v_iload_n (pc := 26) (i := 1) dX4_taken_26 rfl rfl ?_
      refine v_bipush (pc := 27) dX4_taken_27 bp_6 ?_
      refine v_icmp_lt (pc := 29) (tgt := 56) dX4_taken_29 rfl ?_ ?_
      · refine v_aload_n (pc := 56) (i := 0) dX4_taken_56 rfl rfl ?_
        refine v_iload_n (pc := 57) (i := 1) dX4_taken_57 rfl rfl ?_
        refine v_callVi (pc := 58) rcX4 (As := [.int x1]) (rest := []) (ct_X4_isShip x1) mi_X4_isShip q_433 (by decide) rfl rfl (Nat.le_of_ble_eq_true rfl) dX4_taken_58 (fun q3 => ?_)
        refine v_if_ne (pc := 61) (tgt := 67) dX4_taken_61 rfl ?_ ?_
        · refine v_aload_n (pc := 67) (i := 0) dX4_taken_67 rfl rfl ?_
          refine gX4_now (pc := 68) q_326 dX4_taken_68 ?_
          refine v_iload_n (pc := 71) (i := 1) dX4_taken_71 rfl rfl ?_
          refine v_iload_n (pc := 72) (i := 2) dX4_taken_72 rfl rfl ?_
          refine v_callVi (pc := 73) (rcX2 (by decide)) (As := [.int x1, .int x2]) (rest := []) (ct_X2_isOne (by decide) x1 x2) mi_X2_isOne q_695 (by decide) rfl rfl (Nat.le_of_ble_eq_true rfl) dX4_taken_73 (fun q4 => ?_)
          refine v_if_eq (pc := 76) (tgt := 83) dX4_taken_76 rfl ?_ ?_
          · refine v_bipush (pc := 83) dX4_taken_83 bp_m13 ?_
            exact v_iret (pc := 85) dX4_taken_85
          · refine v_iload_n (pc := 79) (i := 1) dX4_taken_79 rfl rfl ?_
            refine v_goto (pc := 80) (tgt := 85) dX4_taken_80 rfl ?_
            exact v_iret (pc := 85) dX4_taken_85
        · refine v_bipush (pc := 64) dX4_taken_64 bp_m11 ?_
          exact v_iret (pc := 66) dX4_taken_66
      · refine v_iload_n (pc := 32) (i := 2) dX4_taken_32 rfl rfl ?_
        refine v_bipush (pc := 33) dX4_taken_33 bp_6 ?_
        refine v_icmp_ne (pc := 35) (tgt := 53) dX4_taken_35 rfl ?_ ?_
        · refine v_bipush (pc := 53) dX4_taken_53 bp_m13 ?_
          exact v_iret (pc := 55) dX4_taken_55
        · refine v_aload_n (pc := 38) (i := 0) dX4_taken_38 rfl rfl ?_
          refine gX4_now (pc := 39) q_326 dX4_taken_39 ?_
          refine gX2_belief (pc := 42) (y := 0) (by decide) q_149 dX4_taken_42 ?_
          refine v_iload_n (pc := 45) (i := 1) dX4_taken_45 rfl rfl ?_
          refine v_bipush (pc := 46) dX4_taken_46 bp_6 ?_
          refine v_isub (pc := 48) dX4_taken_48 ?_
          refine lX_sea0 (pc := 49) (y := 0) (by decide) dX4_taken_49 ?_
          refine v_goto (pc := 50) (tgt := 55) dX4_taken_50 rfl ?_
          exact v_iret (pc := 55) dX4_taken_55
    · refine v_bipush (pc := 23) dX4_taken_23 bp_m12 ?_
      exact v_iret (pc := 25) dX4_taken_25
  · refine v_bipush (pc := 10) dX4_taken_10 bp_m2 ?_
    exact v_iret (pc := 12) dX4_taken_12
theorem ct_X4_taken {g : Gt} {ad : Nat → Nat} (x1 : Int32) (x2 : Int32) : CT g (LX ad) yX4_taken cX4_taken 3 (some .int) 3 [.ref (aMain ad), .int x1, .int x2] iI (wX g ad) (f_X4_taken x1 x2) :=
  ct_of_V (own := RX4) (lv0 := [(0, .ref (aMain ad)), (1, .int x1), (2, .int x2)]) (by decide +kernel) rfl (Nat.le_of_ble_eq_true rfl) rfl (fun z σ => vf_X4_taken z x1 x2 σ)
