-- LighthouseLiedTo$Law.clear
theorem dX0_clear_0 : decode cX0_clear 0 = .ok (.aload_n 0, 1) := by decide +kernel
theorem dX0_clear_1 : decode cX0_clear 1 = .ok (.iconst 0, 1) := by decide +kernel
theorem dX0_clear_2 : decode cX0_clear 2 = .ok (.putfield 21, 3) := by decide +kernel
theorem dX0_clear_5 : decode cX0_clear 5 = .ok (.return_, 1) := by decide +kernel
def f_X0_clear (t : Nat) (σ : GX) : Option (Unit × GX) :=
  bnd (some (sT σ t (0 : Int32))) fun σ1 => some ((), σ1)
theorem vf_X0_clear {g : Gt} {ad : Nat → Nat} (z : Zt) (t : Nat) (ht : t < 6) (σ : GX) : V g (LX ad) 1 RX0 cX0_clear 1 none (wX g ad) iU z (f_X0_clear t σ) σ 0 [(0, .ref (aLaw ad t))] [] := by
  unfold f_X0_clear
  refine v_aload_n (pc := 0) (i := 0) dX0_clear_0 rfl rfl ?_
  refine v_iconst (pc := 1) dX0_clear_1 ic_0 ?_
  refine pX0_size (pc := 2) (t := t) ht q_113 dX0_clear_2 ?_
  refine v_nms (fun σ1 => ?_)
  exact v_ret (pc := 5) dX0_clear_5
theorem ct_X0_clear {g : Gt} {ad : Nat → Nat} {t : Nat} (ht : t < 6) : CT g (LX ad) yX0_clear cX0_clear 1 none 1 [.ref (aLaw ad t)] iU (wX g ad) (f_X0_clear t) :=
  ct_of_V (own := RX0) (lv0 := [(0, .ref (aLaw ad t))]) (by decide +kernel) rfl (Nat.le_of_ble_eq_true rfl) rfl (fun z σ => vf_X0_clear z t ht σ)
-- LighthouseLiedTo$Law.add
theorem dX0_add_0 : decode cX0_add 0 = .ok (.aload_n 0, 1) := by decide +kernel
theorem dX0_add_1 : decode cX0_add 1 = .ok (.getfield 21, 3) := by decide +kernel
theorem dX0_add_4 : decode cX0_add 4 = .ok (.aload_n 0, 1) := by decide +kernel
theorem dX0_add_5 : decode cX0_add 5 = .ok (.getfield 9, 3) := by decide +kernel
theorem dX0_add_8 : decode cX0_add 8 = .ok (.arraylength, 1) := by decide +kernel
theorem dX0_add_9 : decode cX0_add 9 = .ok (.if_icmp .ge 23, 3) := by decide +kernel
theorem dX0_add_12 : decode cX0_add 12 = .ok (.aload_n 0, 1) := by decide +kernel
theorem dX0_add_13 : decode cX0_add 13 = .ok (.getfield 9, 3) := by decide +kernel
theorem dX0_add_16 : decode cX0_add 16 = .ok (.aload_n 0, 1) := by decide +kernel
theorem dX0_add_17 : decode cX0_add 17 = .ok (.getfield 21, 3) := by decide +kernel
theorem dX0_add_20 : decode cX0_add 20 = .ok (.iload_n 1, 1) := by decide +kernel
theorem dX0_add_21 : decode cX0_add 21 = .ok (.iastore, 1) := by decide +kernel
theorem dX0_add_22 : decode cX0_add 22 = .ok (.aload_n 0, 1) := by decide +kernel
theorem dX0_add_23 : decode cX0_add 23 = .ok (.dup, 1) := by decide +kernel
theorem dX0_add_24 : decode cX0_add 24 = .ok (.getfield 21, 3) := by decide +kernel
theorem dX0_add_27 : decode cX0_add 27 = .ok (.iconst 1, 1) := by decide +kernel
theorem dX0_add_28 : decode cX0_add 28 = .ok (.iadd, 1) := by decide +kernel
theorem dX0_add_29 : decode cX0_add 29 = .ok (.putfield 21, 3) := by decide +kernel
theorem dX0_add_32 : decode cX0_add 32 = .ok (.return_, 1) := by decide +kernel
def f_X0_add (t : Nat) (x1 : Int32) (σ : GX) : Option (Unit × GX) :=
  if (160 : Int32) ≤ (xT σ t) then (some ((), σ)) else (grd (xT σ t) 160 (bnd (some (sU σ t 0 (xT σ t).toNatClampNeg x1)) fun σ1 => bnd (some (sT σ1 t ((xT σ1 t) + (1 : Int32)))) fun σ2 => some ((), σ2)))
theorem vf_X0_add {g : Gt} {ad : Nat → Nat} (z : Zt) (t : Nat) (ht : t < 6) (x1 : Int32) (σ : GX) : V g (LX ad) 1 RX0 cX0_add 2 none (wX g ad) iU z (f_X0_add t x1 σ) σ 0 [(0, .ref (aLaw ad t)), (1, .int x1)] [] := by
  unfold f_X0_add
  refine v_aload_n (pc := 0) (i := 0) dX0_add_0 rfl rfl ?_
  refine gX0_size (pc := 1) (t := t) ht q_113 dX0_add_1 ?_
  refine v_aload_n (pc := 4) (i := 0) dX0_add_4 rfl rfl ?_
  refine gX0_steps (pc := 5) (t := t) ht q_110 dX0_add_5 ?_
  refine nX_law0 (pc := 8) (t := t) ht (v := (160 : Int32)) rfl dX0_add_8 ?_
  refine v_icmp_ge (pc := 9) (tgt := 32) dX0_add_9 rfl ?_ ?_
  · exact v_ret (pc := 32) dX0_add_32
  · refine v_aload_n (pc := 12) (i := 0) dX0_add_12 rfl rfl ?_
    refine gX0_steps (pc := 13) (t := t) ht q_110 dX0_add_13 ?_
    refine v_aload_n (pc := 16) (i := 0) dX0_add_16 rfl rfl ?_
    refine gX0_size (pc := 17) (t := t) ht q_113 dX0_add_17 ?_
    refine v_iload_n (pc := 20) (i := 1) dX0_add_20 rfl rfl ?_
    refine sX_law0 (pc := 21) (t := t) ht dX0_add_21 ?_
    refine v_nms (fun σ1 => ?_)
    refine v_aload_n (pc := 22) (i := 0) dX0_add_22 rfl rfl ?_
    refine v_dup (pc := 23) dX0_add_23 rfl ?_
    refine gX0_size (pc := 24) (t := t) ht q_113 dX0_add_24 ?_
    refine v_iconst (pc := 27) dX0_add_27 ic_1 ?_
    refine v_iadd (pc := 28) dX0_add_28 ?_
    refine pX0_size (pc := 29) (t := t) ht q_113 dX0_add_29 ?_
    refine v_nms (fun σ2 => ?_)
    exact v_ret (pc := 32) dX0_add_32
theorem ct_X0_add {g : Gt} {ad : Nat → Nat} {t : Nat} (ht : t < 6) (x1 : Int32) : CT g (LX ad) yX0_add cX0_add 2 none 1 [.ref (aLaw ad t), .int x1] iU (wX g ad) (f_X0_add t x1) :=
  ct_of_V (own := RX0) (lv0 := [(0, .ref (aLaw ad t)), (1, .int x1)]) (by decide +kernel) rfl (Nat.le_of_ble_eq_true rfl) rfl (fun z σ => vf_X0_add z t ht x1 σ)
-- LighthouseLiedTo$Law.endPart
theorem dX0_endPart_0 : decode cX0_endPart 0 = .ok (.iload_n 1, 1) := by decide +kernel
theorem dX0_endPart_1 : decode cX0_endPart 1 = .ok (.ifCond .lt 18, 3) := by decide +kernel
theorem dX0_endPart_4 : decode cX0_endPart 4 = .ok (.iload_n 1, 1) := by decide +kernel
theorem dX0_endPart_5 : decode cX0_endPart 5 = .ok (.iconst 3, 1) := by decide +kernel
theorem dX0_endPart_6 : decode cX0_endPart 6 = .ok (.if_icmp .ge 13, 3) := by decide +kernel
theorem dX0_endPart_9 : decode cX0_endPart 9 = .ok (.aload_n 0, 1) := by decide +kernel
theorem dX0_endPart_10 : decode cX0_endPart 10 = .ok (.getfield 18, 3) := by decide +kernel
theorem dX0_endPart_13 : decode cX0_endPart 13 = .ok (.iload_n 1, 1) := by decide +kernel
theorem dX0_endPart_14 : decode cX0_endPart 14 = .ok (.aload_n 0, 1) := by decide +kernel
theorem dX0_endPart_15 : decode cX0_endPart 15 = .ok (.getfield 21, 3) := by decide +kernel
theorem dX0_endPart_18 : decode cX0_endPart 18 = .ok (.iastore, 1) := by decide +kernel
theorem dX0_endPart_19 : decode cX0_endPart 19 = .ok (.return_, 1) := by decide +kernel
def f_X0_endPart (t : Nat) (x1 : Int32) (σ : GX) : Option (Unit × GX) :=
  if x1 < 0 then (some ((), σ)) else (if (3 : Int32) ≤ x1 then (some ((), σ)) else (grd x1 3 (bnd (some (sU σ t 2 x1.toNatClampNeg (xT σ t))) fun σ1 => some ((), σ1))))
theorem vf_X0_endPart {g : Gt} {ad : Nat → Nat} (z : Zt) (t : Nat) (ht : t < 6) (x1 : Int32) (σ : GX) : V g (LX ad) 1 RX0 cX0_endPart 2 none (wX g ad) iU z (f_X0_endPart t x1 σ) σ 0 [(0, .ref (aLaw ad t)), (1, .int x1)] [] := by
  unfold f_X0_endPart
  refine v_iload_n (pc := 0) (i := 1) dX0_endPart_0 rfl rfl ?_
  refine v_if_lt (pc := 1) (tgt := 19) dX0_endPart_1 rfl ?_ ?_
  · exact v_ret (pc := 19) dX0_endPart_19
  · refine v_iload_n (pc := 4) (i := 1) dX0_endPart_4 rfl rfl ?_
    refine v_iconst (pc := 5) dX0_endPart_5 ic_3 ?_
    refine v_icmp_ge (pc := 6) (tgt := 19) dX0_endPart_6 rfl ?_ ?_
    · exact v_ret (pc := 19) dX0_endPart_19
    · refine v_aload_n (pc := 9) (i := 0) dX0_endPart_9 rfl rfl ?_
      refine gX0_ends (pc := 10) (t := t) ht q_112 dX0_endPart_10 ?_
      refine v_iload_n (pc := 13) (i := 1) dX0_endPart_13 rfl rfl ?_
      refine v_aload_n (pc := 14) (i := 0) dX0_endPart_14 rfl rfl ?_
      refine gX0_size (pc := 15) (t := t) ht q_113 dX0_endPart_15 ?_
      refine sX_law2 (pc := 18) (t := t) ht dX0_endPart_18 ?_
      refine v_nms (fun σ1 => ?_)
      exact v_ret (pc := 19) dX0_endPart_19
theorem ct_X0_endPart {g : Gt} {ad : Nat → Nat} {t : Nat} (ht : t < 6) (x1 : Int32) : CT g (LX ad) yX0_endPart cX0_endPart 2 none 1 [.ref (aLaw ad t), .int x1] iU (wX g ad) (f_X0_endPart t x1) :=
  ct_of_V (own := RX0) (lv0 := [(0, .ref (aLaw ad t)), (1, .int x1)]) (by decide +kernel) rfl (Nat.le_of_ble_eq_true rfl) rfl (fun z σ => vf_X0_endPart z t ht x1 σ)
-- LighthouseLiedTo$Law.named
theorem dX0_named_0 : decode cX0_named 0 = .ok (.iload_n 0, 1) := by decide +kernel
theorem dX0_named_1 : decode cX0_named 1 = .ok (.tableswitch 62 (-5) (-1) #[57, 52, 47, 42, 35], 35) := by decide +kernel
theorem dX0_named_36 : decode cX0_named 36 = .ok (.aload_n 1, 1) := by decide +kernel
theorem dX0_named_37 : decode cX0_named 37 = .ok (.getfield 33, 3) := by decide +kernel
theorem dX0_named_40 : decode cX0_named 40 = .ok (.iload_n 2, 1) := by decide +kernel
theorem dX0_named_41 : decode cX0_named 41 = .ok (.iaload, 1) := by decide +kernel
theorem dX0_named_42 : decode cX0_named 42 = .ok (.ireturn, 1) := by decide +kernel
theorem dX0_named_43 : decode cX0_named 43 = .ok (.iload_n 2, 1) := by decide +kernel
theorem dX0_named_44 : decode cX0_named 44 = .ok (.bipush 6, 2) := by decide +kernel
theorem dX0_named_46 : decode cX0_named 46 = .ok (.irem, 1) := by decide +kernel
theorem dX0_named_47 : decode cX0_named 47 = .ok (.ireturn, 1) := by decide +kernel
theorem dX0_named_48 : decode cX0_named 48 = .ok (.iload_n 2, 1) := by decide +kernel
theorem dX0_named_49 : decode cX0_named 49 = .ok (.bipush 6, 2) := by decide +kernel
theorem dX0_named_51 : decode cX0_named 51 = .ok (.idiv, 1) := by decide +kernel
theorem dX0_named_52 : decode cX0_named 52 = .ok (.ireturn, 1) := by decide +kernel
theorem dX0_named_53 : decode cX0_named 53 = .ok (.aload_n 1, 1) := by decide +kernel
theorem dX0_named_54 : decode cX0_named 54 = .ok (.getfield 38, 3) := by decide +kernel
theorem dX0_named_57 : decode cX0_named 57 = .ok (.ireturn, 1) := by decide +kernel
theorem dX0_named_58 : decode cX0_named 58 = .ok (.aload_n 1, 1) := by decide +kernel
theorem dX0_named_59 : decode cX0_named 59 = .ok (.getfield 41, 3) := by decide +kernel
theorem dX0_named_62 : decode cX0_named 62 = .ok (.ireturn, 1) := by decide +kernel
theorem dX0_named_63 : decode cX0_named 63 = .ok (.iload_n 3, 1) := by decide +kernel
theorem dX0_named_64 : decode cX0_named 64 = .ok (.ireturn, 1) := by decide +kernel
def f_X0_named (y : Nat) (x0 : Int32) (x2 : Int32) (x3 : Int32) (σ : GX) : Option (Int32 × GX) :=
  if x0 = (-5 : Int32) then (some ((xS σ y 2), σ)) else (if x0 = (-4 : Int32) then (some ((xS σ y 3), σ)) else (if x0 = (-3 : Int32) then (some ((x2 / (6 : Int32)), σ)) else (if x0 = (-2 : Int32) then (some ((rI x2 (6 : Int32)), σ)) else (if x0 = (-1 : Int32) then (grd x2 36 (some ((xB σ y 0 x2.toNatClampNeg), σ))) else (some (x3, σ))))))
theorem vf_X0_named {g : Gt} {ad : Nat → Nat} (z : Zt) (y : Nat) (hy : y < 3) (x0 : Int32) (x2 : Int32) (x3 : Int32) (σ : GX) : V g (LX ad) 1 RX0 cX0_named 4 (some .int) (wX g ad) iI z (f_X0_named y x0 x2 x3 σ) σ 0 [(0, .int x0), (1, .ref (aSea ad y)), (2, .int x2), (3, .int x3)] [] := by
  unfold f_X0_named
  refine v_iload_n (pc := 0) (i := 0) dX0_named_0 rfl rfl ?_
  refine v_case (c := x0 = (-5 : Int32)) (fun hx => ?_) (fun hc1_0 => ?_)
  · refine v_tin (pc := 1) (tgt := 58) (off := 57) hx dX0_named_1 (by decide) (by decide) rfl rfl ?_
    refine v_aload_n (pc := 58) (i := 1) dX0_named_58 rfl rfl ?_
    refine gX2_doubt (pc := 59) (y := y) hy q_167 dX0_named_59 ?_
    exact v_iret (pc := 62) dX0_named_62
  refine v_case (c := x0 = (-4 : Int32)) (fun hx => ?_) (fun hc1_1 => ?_)
  · refine v_tin (pc := 1) (tgt := 53) (off := 52) hx dX0_named_1 (by decide) (by decide) rfl rfl ?_
    refine v_aload_n (pc := 53) (i := 1) dX0_named_53 rfl rfl ?_
    refine gX2_night (pc := 54) (y := y) hy q_170 dX0_named_54 ?_
    exact v_iret (pc := 57) dX0_named_57
  refine v_case (c := x0 = (-3 : Int32)) (fun hx => ?_) (fun hc1_2 => ?_)
  · refine v_tin (pc := 1) (tgt := 48) (off := 47) hx dX0_named_1 (by decide) (by decide) rfl rfl ?_
    refine v_iload_n (pc := 48) (i := 2) dX0_named_48 rfl rfl ?_
    refine v_bipush (pc := 49) dX0_named_49 bp_6 ?_
    refine v_idiv (pc := 51) dX0_named_51 (by decide) ?_
    exact v_iret (pc := 52) dX0_named_52
  refine v_case (c := x0 = (-2 : Int32)) (fun hx => ?_) (fun hc1_3 => ?_)
  · refine v_tin (pc := 1) (tgt := 43) (off := 42) hx dX0_named_1 (by decide) (by decide) rfl rfl ?_
    refine v_iload_n (pc := 43) (i := 2) dX0_named_43 rfl rfl ?_
    refine v_bipush (pc := 44) dX0_named_44 bp_6 ?_
    refine v_irem (pc := 46) dX0_named_46 (by decide) ?_
    exact v_iret (pc := 47) dX0_named_47
  refine v_case (c := x0 = (-1 : Int32)) (fun hx => ?_) (fun hc1_4 => ?_)
  · refine v_tin (pc := 1) (tgt := 36) (off := 35) hx dX0_named_1 (by decide) (by decide) rfl rfl ?_
    refine v_aload_n (pc := 36) (i := 1) dX0_named_36 rfl rfl ?_
    refine gX2_belief (pc := 37) (y := y) hy q_150 dX0_named_37 ?_
    refine v_iload_n (pc := 40) (i := 2) dX0_named_40 rfl rfl ?_
    refine lX_sea0 (pc := 41) (y := y) hy dX0_named_41 ?_
    exact v_iret (pc := 42) dX0_named_42
  refine v_tout (pc := 1) (tgt := 63) dX0_named_1 (by have e0 := tsw_ne (a := -5) hc1_0 rfl; have e1 := tsw_ne (a := -4) hc1_1 rfl; have e2 := tsw_ne (a := -3) hc1_2 rfl; have e3 := tsw_ne (a := -2) hc1_3 rfl; have e4 := tsw_ne (a := -1) hc1_4 rfl; omega) rfl ?_
  refine v_iload_n (pc := 63) (i := 3) dX0_named_63 rfl rfl ?_
  exact v_iret (pc := 64) dX0_named_64
theorem ct_X0_named {g : Gt} {ad : Nat → Nat} {y : Nat} (hy : y < 3) (x0 : Int32) (x2 : Int32) (x3 : Int32) : CT g (LX ad) yX0_named cX0_named 4 (some .int) 1 [.int x0, .ref (aSea ad y), .int x2, .int x3] iI (wX g ad) (f_X0_named y x0 x2 x3) :=
  ct_of_V (own := RX0) (lv0 := [(0, .int x0), (1, .ref (aSea ad y)), (2, .int x2), (3, .int x3)]) (by decide +kernel) rfl (Nat.le_of_ble_eq_true rfl) rfl (fun z σ => vf_X0_named z y hy x0 x2 x3 σ)
-- LighthouseLiedTo$Law.joined
theorem dX0_joined_0 : decode cX0_joined 0 = .ok (.iload_n 0, 1) := by decide +kernel
theorem dX0_joined_1 : decode cX0_joined 1 = .ok (.tableswitch 97 (-12) (-7) #[93, 89, 78, 67, 53, 39], 39) := by decide +kernel
theorem dX0_joined_40 : decode cX0_joined 40 = .ok (.iload_n 1, 1) := by decide +kernel
theorem dX0_joined_41 : decode cX0_joined 41 = .ok (.ifCond .ne 7, 3) := by decide +kernel
theorem dX0_joined_44 : decode cX0_joined 44 = .ok (.iload_n 2, 1) := by decide +kernel
theorem dX0_joined_45 : decode cX0_joined 45 = .ok (.ifCond .eq 7, 3) := by decide +kernel
theorem dX0_joined_48 : decode cX0_joined 48 = .ok (.iconst 1, 1) := by decide +kernel
theorem dX0_joined_49 : decode cX0_joined 49 = .ok (.goto 4, 3) := by decide +kernel
theorem dX0_joined_52 : decode cX0_joined 52 = .ok (.iconst 0, 1) := by decide +kernel
theorem dX0_joined_53 : decode cX0_joined 53 = .ok (.ireturn, 1) := by decide +kernel
theorem dX0_joined_54 : decode cX0_joined 54 = .ok (.iload_n 1, 1) := by decide +kernel
theorem dX0_joined_55 : decode cX0_joined 55 = .ok (.ifCond .eq 11, 3) := by decide +kernel
theorem dX0_joined_58 : decode cX0_joined 58 = .ok (.iload_n 2, 1) := by decide +kernel
theorem dX0_joined_59 : decode cX0_joined 59 = .ok (.ifCond .eq 7, 3) := by decide +kernel
theorem dX0_joined_62 : decode cX0_joined 62 = .ok (.iconst 1, 1) := by decide +kernel
theorem dX0_joined_63 : decode cX0_joined 63 = .ok (.goto 4, 3) := by decide +kernel
theorem dX0_joined_66 : decode cX0_joined 66 = .ok (.iconst 0, 1) := by decide +kernel
theorem dX0_joined_67 : decode cX0_joined 67 = .ok (.ireturn, 1) := by decide +kernel
theorem dX0_joined_68 : decode cX0_joined 68 = .ok (.iload_n 1, 1) := by decide +kernel
theorem dX0_joined_69 : decode cX0_joined 69 = .ok (.iload_n 2, 1) := by decide +kernel
theorem dX0_joined_70 : decode cX0_joined 70 = .ok (.if_icmp .ge 7, 3) := by decide +kernel
theorem dX0_joined_73 : decode cX0_joined 73 = .ok (.iconst 1, 1) := by decide +kernel
theorem dX0_joined_74 : decode cX0_joined 74 = .ok (.goto 4, 3) := by decide +kernel
theorem dX0_joined_77 : decode cX0_joined 77 = .ok (.iconst 0, 1) := by decide +kernel
theorem dX0_joined_78 : decode cX0_joined 78 = .ok (.ireturn, 1) := by decide +kernel
theorem dX0_joined_79 : decode cX0_joined 79 = .ok (.iload_n 1, 1) := by decide +kernel
theorem dX0_joined_80 : decode cX0_joined 80 = .ok (.iload_n 2, 1) := by decide +kernel
theorem dX0_joined_81 : decode cX0_joined 81 = .ok (.if_icmp .ne 7, 3) := by decide +kernel
theorem dX0_joined_84 : decode cX0_joined 84 = .ok (.iconst 1, 1) := by decide +kernel
theorem dX0_joined_85 : decode cX0_joined 85 = .ok (.goto 4, 3) := by decide +kernel
theorem dX0_joined_88 : decode cX0_joined 88 = .ok (.iconst 0, 1) := by decide +kernel
theorem dX0_joined_89 : decode cX0_joined 89 = .ok (.ireturn, 1) := by decide +kernel
theorem dX0_joined_90 : decode cX0_joined 90 = .ok (.iload_n 1, 1) := by decide +kernel
theorem dX0_joined_91 : decode cX0_joined 91 = .ok (.iload_n 2, 1) := by decide +kernel
theorem dX0_joined_92 : decode cX0_joined 92 = .ok (.iadd, 1) := by decide +kernel
theorem dX0_joined_93 : decode cX0_joined 93 = .ok (.ireturn, 1) := by decide +kernel
theorem dX0_joined_94 : decode cX0_joined 94 = .ok (.iload_n 1, 1) := by decide +kernel
theorem dX0_joined_95 : decode cX0_joined 95 = .ok (.iload_n 2, 1) := by decide +kernel
theorem dX0_joined_96 : decode cX0_joined 96 = .ok (.isub, 1) := by decide +kernel
theorem dX0_joined_97 : decode cX0_joined 97 = .ok (.ireturn, 1) := by decide +kernel
theorem dX0_joined_98 : decode cX0_joined 98 = .ok (.iload_n 1, 1) := by decide +kernel
theorem dX0_joined_99 : decode cX0_joined 99 = .ok (.iload_n 2, 1) := by decide +kernel
theorem dX0_joined_100 : decode cX0_joined 100 = .ok (.imul, 1) := by decide +kernel
theorem dX0_joined_101 : decode cX0_joined 101 = .ok (.ireturn, 1) := by decide +kernel
def f_X0_joined (x0 : Int32) (x1 : Int32) (x2 : Int32) (σ : GX) : Option (Int32 × GX) :=
  if x0 = (-12 : Int32) then (some ((x1 - x2), σ)) else (if x0 = (-11 : Int32) then (some ((x1 + x2), σ)) else (if x0 = (-10 : Int32) then (if x1 ≠ x2 then (some ((0 : Int32), σ)) else (some ((1 : Int32), σ))) else (if x0 = (-9 : Int32) then (if x2 ≤ x1 then (some ((0 : Int32), σ)) else (some ((1 : Int32), σ))) else (if x0 = (-8 : Int32) then (if x1 = 0 then (some ((0 : Int32), σ)) else (if x2 = 0 then (some ((0 : Int32), σ)) else (some ((1 : Int32), σ)))) else (if x0 = (-7 : Int32) then (if x1 ≠ 0 then (some ((1 : Int32), σ)) else (if x2 = 0 then (some ((0 : Int32), σ)) else (some ((1 : Int32), σ)))) else (some ((x1 * x2), σ)))))))
theorem vf_X0_joined {g : Gt} {ad : Nat → Nat} (z : Zt) (x0 : Int32) (x1 : Int32) (x2 : Int32) (σ : GX) : V g (LX ad) 1 RX0 cX0_joined 3 (some .int) (wX g ad) iI z (f_X0_joined x0 x1 x2 σ) σ 0 [(0, .int x0), (1, .int x1), (2, .int x2)] [] := by
  unfold f_X0_joined
  refine v_iload_n (pc := 0) (i := 0) dX0_joined_0 rfl rfl ?_
  refine v_case (c := x0 = (-12 : Int32)) (fun hx => ?_) (fun hc1_0 => ?_)
  · refine v_tin (pc := 1) (tgt := 94) (off := 93) hx dX0_joined_1 (by decide) (by decide) rfl rfl ?_
    refine v_iload_n (pc := 94) (i := 1) dX0_joined_94 rfl rfl ?_
    refine v_iload_n (pc := 95) (i := 2) dX0_joined_95 rfl rfl ?_
    refine v_isub (pc := 96) dX0_joined_96 ?_
    exact v_iret (pc := 97) dX0_joined_97
  refine v_case (c := x0 = (-11 : Int32)) (fun hx => ?_) (fun hc1_1 => ?_)
  · refine v_tin (pc := 1) (tgt := 90) (off := 89) hx dX0_joined_1 (by decide) (by decide) rfl rfl ?_
    refine v_iload_n (pc := 90) (i := 1) dX0_joined_90 rfl rfl ?_
    refine v_iload_n (pc := 91) (i := 2) dX0_joined_91 rfl rfl ?_
    refine v_iadd (pc := 92) dX0_joined_92 ?_
    exact v_iret (pc := 93) dX0_joined_93
  refine v_case (c := x0 = (-10 : Int32)) (fun hx => ?_) (fun hc1_2 => ?_)
  · refine v_tin (pc := 1) (tgt := 79) (off := 78) hx dX0_joined_1 (by decide) (by decide) rfl rfl ?_
    refine v_iload_n (pc := 79) (i := 1) dX0_joined_79 rfl rfl ?_
    refine v_iload_n (pc := 80) (i := 2) dX0_joined_80 rfl rfl ?_
    refine v_icmp_ne (pc := 81) (tgt := 88) dX0_joined_81 rfl ?_ ?_
    · refine v_iconst (pc := 88) dX0_joined_88 ic_0 ?_
      exact v_iret (pc := 89) dX0_joined_89
    · refine v_iconst (pc := 84) dX0_joined_84 ic_1 ?_
      refine v_goto (pc := 85) (tgt := 89) dX0_joined_85 rfl ?_
      exact v_iret (pc := 89) dX0_joined_89
  refine v_case (c := x0 = (-9 : Int32)) (fun hx => ?_) (fun hc1_3 => ?_)
  · refine v_tin (pc := 1) (tgt := 68) (off := 67) hx dX0_joined_1 (by decide) (by decide) rfl rfl ?_
    refine v_iload_n (pc := 68) (i := 1) dX0_joined_68 rfl rfl ?_
    refine v_iload_n (pc := 69) (i := 2) dX0_joined_69 rfl rfl ?_
    refine v_icmp_ge (pc := 70) (tgt := 77) dX0_joined_70 rfl ?_ ?_
    · refine v_iconst (pc := 77) dX0_joined_77 ic_0 ?_
      exact v_iret (pc := 78) dX0_joined_78
    · refine v_iconst (pc := 73) dX0_joined_73 ic_1 ?_
      refine v_goto (pc := 74) (tgt := 78) dX0_joined_74 rfl ?_
      exact v_iret (pc := 78) dX0_joined_78
  refine v_case (c := x0 = (-8 : Int32)) (fun hx => ?_) (fun hc1_4 => ?_)
  · refine v_tin (pc := 1) (tgt := 54) (off := 53) hx dX0_joined_1 (by decide) (by decide) rfl rfl ?_
    refine v_iload_n (pc := 54) (i := 1) dX0_joined_54 rfl rfl ?_
    refine v_if_eq (pc := 55) (tgt := 66) dX0_joined_55 rfl ?_ ?_
    · refine v_iconst (pc := 66) dX0_joined_66 ic_0 ?_
      exact v_iret (pc := 67) dX0_joined_67
    · refine v_iload_n (pc := 58) (i := 2) dX0_joined_58 rfl rfl ?_
      refine v_if_eq (pc := 59) (tgt := 66) dX0_joined_59 rfl ?_ ?_
      · refine v_iconst (pc := 66) dX0_joined_66 ic_0 ?_
        exact v_iret (pc := 67) dX0_joined_67
      · refine v_iconst (pc := 62) dX0_joined_62 ic_1 ?_
        refine v_goto (pc := 63) (tgt := 67) dX0_joined_63 rfl ?_
        exact v_iret (pc := 67) dX0_joined_67
  refine v_case (c := x0 = (-7 : Int32)) (fun hx => ?_) (fun hc1_5 => ?_)
  · refine v_tin (pc := 1) (tgt := 40) (off := 39) hx dX0_joined_1 (by decide) (by decide) rfl rfl ?_
    refine v_iload_n (pc := 40) (i := 1) dX0_joined_40 rfl rfl ?_
    refine v_if_ne (pc := 41) (tgt := 48) dX0_joined_41 rfl ?_ ?_
    · refine v_iconst (pc := 48) dX0_joined_48 ic_1 ?_
      refine v_goto (pc := 49) (tgt := 53) dX0_joined_49 rfl ?_
      exact v_iret (pc := 53) dX0_joined_53
    · refine v_iload_n (pc := 44) (i := 2) dX0_joined_44 rfl rfl ?_
      refine v_if_eq (pc := 45) (tgt := 52) dX0_joined_45 rfl ?_ ?_
      · refine v_iconst (pc := 52) dX0_joined_52 ic_0 ?_
        exact v_iret (pc := 53) dX0_joined_53
      · refine v_iconst (pc := 48) dX0_joined_48 ic_1 ?_
        refine v_goto (pc := 49) (tgt := 53) dX0_joined_49 rfl ?_
        exact v_iret (pc := 53) dX0_joined_53
  refine v_tout (pc := 1) (tgt := 98) dX0_joined_1 (by have e0 := tsw_ne (a := -12) hc1_0 rfl; have e1 := tsw_ne (a := -11) hc1_1 rfl; have e2 := tsw_ne (a := -10) hc1_2 rfl; have e3 := tsw_ne (a := -9) hc1_3 rfl; have e4 := tsw_ne (a := -8) hc1_4 rfl; have e5 := tsw_ne (a := -7) hc1_5 rfl; omega) rfl ?_
  refine v_iload_n (pc := 98) (i := 1) dX0_joined_98 rfl rfl ?_
  refine v_iload_n (pc := 99) (i := 2) dX0_joined_99 rfl rfl ?_
  refine v_imul (pc := 100) dX0_joined_100 ?_
  exact v_iret (pc := 101) dX0_joined_101
theorem ct_X0_joined {g : Gt} {ad : Nat → Nat} (x0 : Int32) (x1 : Int32) (x2 : Int32) : CT g (LX ad) yX0_joined cX0_joined 3 (some .int) 1 [.int x0, .int x1, .int x2] iI (wX g ad) (f_X0_joined x0 x1 x2) :=
  ct_of_V (own := RX0) (lv0 := [(0, .int x0), (1, .int x1), (2, .int x2)]) (by decide +kernel) rfl (Nat.le_of_ble_eq_true rfl) rfl (fun z σ => vf_X0_joined z x0 x1 x2 σ)
-- LighthouseLiedTo$Law.worth
theorem dX0_worth_0 : decode cX0_worth 0 = .ok (.iload_n 1, 1) := by decide +kernel
theorem dX0_worth_1 : decode cX0_worth 1 = .ok (.ifCond .lt 8, 3) := by decide +kernel
theorem dX0_worth_4 : decode cX0_worth 4 = .ok (.iload_n 1, 1) := by decide +kernel
theorem dX0_worth_5 : decode cX0_worth 5 = .ok (.iconst 3, 1) := by decide +kernel
theorem dX0_worth_6 : decode cX0_worth 6 = .ok (.if_icmp .lt 5, 3) := by decide +kernel
theorem dX0_worth_9 : decode cX0_worth 9 = .ok (.iconst 0, 1) := by decide +kernel
theorem dX0_worth_10 : decode cX0_worth 10 = .ok (.ireturn, 1) := by decide +kernel
theorem dX0_worth_11 : decode cX0_worth 11 = .ok (.iconst 0, 1) := by decide +kernel
theorem dX0_worth_12 : decode cX0_worth 12 = .ok (.istore 5, 2) := by decide +kernel
theorem dX0_worth_14 : decode cX0_worth 14 = .ok (.iload_n 1, 1) := by decide +kernel
theorem dX0_worth_15 : decode cX0_worth 15 = .ok (.ifCond .ne 7, 3) := by decide +kernel
theorem dX0_worth_18 : decode cX0_worth 18 = .ok (.iconst 0, 1) := by decide +kernel
theorem dX0_worth_19 : decode cX0_worth 19 = .ok (.goto 11, 3) := by decide +kernel
theorem dX0_worth_22 : decode cX0_worth 22 = .ok (.aload_n 0, 1) := by decide +kernel
theorem dX0_worth_23 : decode cX0_worth 23 = .ok (.getfield 18, 3) := by decide +kernel
theorem dX0_worth_26 : decode cX0_worth 26 = .ok (.iload_n 1, 1) := by decide +kernel
theorem dX0_worth_27 : decode cX0_worth 27 = .ok (.iconst 1, 1) := by decide +kernel
theorem dX0_worth_28 : decode cX0_worth 28 = .ok (.isub, 1) := by decide +kernel
theorem dX0_worth_29 : decode cX0_worth 29 = .ok (.iaload, 1) := by decide +kernel
theorem dX0_worth_30 : decode cX0_worth 30 = .ok (.istore 6, 2) := by decide +kernel
theorem dX0_worth_32 : decode cX0_worth 32 = .ok (.iload 6, 2) := by decide +kernel
theorem dX0_worth_34 : decode cX0_worth 34 = .ok (.aload_n 0, 1) := by decide +kernel
theorem dX0_worth_35 : decode cX0_worth 35 = .ok (.getfield 18, 3) := by decide +kernel
theorem dX0_worth_38 : decode cX0_worth 38 = .ok (.iload_n 1, 1) := by decide +kernel
theorem dX0_worth_39 : decode cX0_worth 39 = .ok (.iaload, 1) := by decide +kernel
theorem dX0_worth_40 : decode cX0_worth 40 = .ok (.if_icmp .ge 181, 3) := by decide +kernel
theorem dX0_worth_43 : decode cX0_worth 43 = .ok (.iload 6, 2) := by decide +kernel
theorem dX0_worth_45 : decode cX0_worth 45 = .ok (.aload_n 0, 1) := by decide +kernel
theorem dX0_worth_46 : decode cX0_worth 46 = .ok (.getfield 9, 3) := by decide +kernel
theorem dX0_worth_49 : decode cX0_worth 49 = .ok (.arraylength, 1) := by decide +kernel
theorem dX0_worth_50 : decode cX0_worth 50 = .ok (.if_icmp .ge 171, 3) := by decide +kernel
theorem dX0_worth_53 : decode cX0_worth 53 = .ok (.aload_n 0, 1) := by decide +kernel
theorem dX0_worth_54 : decode cX0_worth 54 = .ok (.getfield 9, 3) := by decide +kernel
theorem dX0_worth_57 : decode cX0_worth 57 = .ok (.iload 6, 2) := by decide +kernel
theorem dX0_worth_59 : decode cX0_worth 59 = .ok (.iaload, 1) := by decide +kernel
theorem dX0_worth_60 : decode cX0_worth 60 = .ok (.istore 7, 2) := by decide +kernel
theorem dX0_worth_62 : decode cX0_worth 62 = .ok (.iload 7, 2) := by decide +kernel
theorem dX0_worth_64 : decode cX0_worth 64 = .ok (.bipush (-6), 2) := by decide +kernel
theorem dX0_worth_66 : decode cX0_worth 66 = .ok (.if_icmp .lt 47, 3) := by decide +kernel
theorem dX0_worth_69 : decode cX0_worth 69 = .ok (.iload 5, 2) := by decide +kernel
theorem dX0_worth_71 : decode cX0_worth 71 = .ok (.aload_n 0, 1) := by decide +kernel
theorem dX0_worth_72 : decode cX0_worth 72 = .ok (.getfield 15, 3) := by decide +kernel
theorem dX0_worth_75 : decode cX0_worth 75 = .ok (.arraylength, 1) := by decide +kernel
theorem dX0_worth_76 : decode cX0_worth 76 = .ok (.if_icmp .lt 5, 3) := by decide +kernel
theorem dX0_worth_79 : decode cX0_worth 79 = .ok (.iconst 0, 1) := by decide +kernel
theorem dX0_worth_80 : decode cX0_worth 80 = .ok (.ireturn, 1) := by decide +kernel
theorem dX0_worth_81 : decode cX0_worth 81 = .ok (.aload_n 0, 1) := by decide +kernel
theorem dX0_worth_82 : decode cX0_worth 82 = .ok (.getfield 15, 3) := by decide +kernel
theorem dX0_worth_85 : decode cX0_worth 85 = .ok (.iload 5, 2) := by decide +kernel
theorem dX0_worth_87 : decode cX0_worth 87 = .ok (.iload 7, 2) := by decide +kernel
theorem dX0_worth_89 : decode cX0_worth 89 = .ok (.ifCond .lt 8, 3) := by decide +kernel
theorem dX0_worth_92 : decode cX0_worth 92 = .ok (.iload 7, 2) := by decide +kernel
theorem dX0_worth_94 : decode cX0_worth 94 = .ok (.goto 12, 3) := by decide +kernel
theorem dX0_worth_97 : decode cX0_worth 97 = .ok (.iload 7, 2) := by decide +kernel
theorem dX0_worth_99 : decode cX0_worth 99 = .ok (.aload_n 2, 1) := by decide +kernel
theorem dX0_worth_100 : decode cX0_worth 100 = .ok (.iload_n 3, 1) := by decide +kernel
theorem dX0_worth_101 : decode cX0_worth 101 = .ok (.iload 4, 2) := by decide +kernel
theorem dX0_worth_103 : decode cX0_worth 103 = .ok (.invokestatic 25, 3) := by decide +kernel
theorem dX0_worth_106 : decode cX0_worth 106 = .ok (.iastore, 1) := by decide +kernel
theorem dX0_worth_107 : decode cX0_worth 107 = .ok (.iinc 5 1, 3) := by decide +kernel
theorem dX0_worth_110 : decode cX0_worth 110 = .ok (.goto 105, 3) := by decide +kernel
theorem dX0_worth_113 : decode cX0_worth 113 = .ok (.iload 7, 2) := by decide +kernel
theorem dX0_worth_115 : decode cX0_worth 115 = .ok (.bipush (-14), 2) := by decide +kernel
theorem dX0_worth_117 : decode cX0_worth 117 = .ok (.if_icmp .gt 57, 3) := by decide +kernel
theorem dX0_worth_120 : decode cX0_worth 120 = .ok (.iload 5, 2) := by decide +kernel
theorem dX0_worth_122 : decode cX0_worth 122 = .ok (.iconst 1, 1) := by decide +kernel
theorem dX0_worth_123 : decode cX0_worth 123 = .ok (.if_icmp .ge 5, 3) := by decide +kernel
theorem dX0_worth_126 : decode cX0_worth 126 = .ok (.iconst 0, 1) := by decide +kernel
theorem dX0_worth_127 : decode cX0_worth 127 = .ok (.ireturn, 1) := by decide +kernel
theorem dX0_worth_128 : decode cX0_worth 128 = .ok (.aload_n 0, 1) := by decide +kernel
theorem dX0_worth_129 : decode cX0_worth 129 = .ok (.getfield 15, 3) := by decide +kernel
theorem dX0_worth_132 : decode cX0_worth 132 = .ok (.iload 5, 2) := by decide +kernel
theorem dX0_worth_134 : decode cX0_worth 134 = .ok (.iconst 1, 1) := by decide +kernel
theorem dX0_worth_135 : decode cX0_worth 135 = .ok (.isub, 1) := by decide +kernel
theorem dX0_worth_136 : decode cX0_worth 136 = .ok (.iaload, 1) := by decide +kernel
theorem dX0_worth_137 : decode cX0_worth 137 = .ok (.istore 8, 2) := by decide +kernel
theorem dX0_worth_139 : decode cX0_worth 139 = .ok (.aload_n 0, 1) := by decide +kernel
theorem dX0_worth_140 : decode cX0_worth 140 = .ok (.getfield 15, 3) := by decide +kernel
theorem dX0_worth_143 : decode cX0_worth 143 = .ok (.iload 5, 2) := by decide +kernel
theorem dX0_worth_145 : decode cX0_worth 145 = .ok (.iconst 1, 1) := by decide +kernel
theorem dX0_worth_146 : decode cX0_worth 146 = .ok (.isub, 1) := by decide +kernel
theorem dX0_worth_147 : decode cX0_worth 147 = .ok (.iload 7, 2) := by decide +kernel
theorem dX0_worth_149 : decode cX0_worth 149 = .ok (.bipush (-15), 2) := by decide +kernel
theorem dX0_worth_151 : decode cX0_worth 151 = .ok (.if_icmp .ne 9, 3) := by decide +kernel
theorem dX0_worth_154 : decode cX0_worth 154 = .ok (.iload 8, 2) := by decide +kernel
theorem dX0_worth_156 : decode cX0_worth 156 = .ok (.ineg, 1) := by decide +kernel
theorem dX0_worth_157 : decode cX0_worth 157 = .ok (.goto 13, 3) := by decide +kernel
theorem dX0_worth_160 : decode cX0_worth 160 = .ok (.iload 8, 2) := by decide +kernel
theorem dX0_worth_162 : decode cX0_worth 162 = .ok (.ifCond .ne 7, 3) := by decide +kernel
theorem dX0_worth_165 : decode cX0_worth 165 = .ok (.iconst 1, 1) := by decide +kernel
theorem dX0_worth_166 : decode cX0_worth 166 = .ok (.goto 4, 3) := by decide +kernel
theorem dX0_worth_169 : decode cX0_worth 169 = .ok (.iconst 0, 1) := by decide +kernel
theorem dX0_worth_170 : decode cX0_worth 170 = .ok (.iastore, 1) := by decide +kernel
theorem dX0_worth_171 : decode cX0_worth 171 = .ok (.goto 44, 3) := by decide +kernel
theorem dX0_worth_174 : decode cX0_worth 174 = .ok (.iload 5, 2) := by decide +kernel
theorem dX0_worth_176 : decode cX0_worth 176 = .ok (.iconst 2, 1) := by decide +kernel
theorem dX0_worth_177 : decode cX0_worth 177 = .ok (.if_icmp .ge 5, 3) := by decide +kernel
theorem dX0_worth_180 : decode cX0_worth 180 = .ok (.iconst 0, 1) := by decide +kernel
theorem dX0_worth_181 : decode cX0_worth 181 = .ok (.ireturn, 1) := by decide +kernel
theorem dX0_worth_182 : decode cX0_worth 182 = .ok (.iinc 5 (-1), 3) := by decide +kernel
theorem dX0_worth_185 : decode cX0_worth 185 = .ok (.aload_n 0, 1) := by decide +kernel
theorem dX0_worth_186 : decode cX0_worth 186 = .ok (.getfield 15, 3) := by decide +kernel
theorem dX0_worth_189 : decode cX0_worth 189 = .ok (.iload 5, 2) := by decide +kernel
theorem dX0_worth_191 : decode cX0_worth 191 = .ok (.iconst 1, 1) := by decide +kernel
theorem dX0_worth_192 : decode cX0_worth 192 = .ok (.isub, 1) := by decide +kernel
theorem dX0_worth_193 : decode cX0_worth 193 = .ok (.iload 7, 2) := by decide +kernel
theorem dX0_worth_195 : decode cX0_worth 195 = .ok (.aload_n 0, 1) := by decide +kernel
theorem dX0_worth_196 : decode cX0_worth 196 = .ok (.getfield 15, 3) := by decide +kernel
theorem dX0_worth_199 : decode cX0_worth 199 = .ok (.iload 5, 2) := by decide +kernel
theorem dX0_worth_201 : decode cX0_worth 201 = .ok (.iconst 1, 1) := by decide +kernel
theorem dX0_worth_202 : decode cX0_worth 202 = .ok (.isub, 1) := by decide +kernel
theorem dX0_worth_203 : decode cX0_worth 203 = .ok (.iaload, 1) := by decide +kernel
theorem dX0_worth_204 : decode cX0_worth 204 = .ok (.aload_n 0, 1) := by decide +kernel
theorem dX0_worth_205 : decode cX0_worth 205 = .ok (.getfield 15, 3) := by decide +kernel
theorem dX0_worth_208 : decode cX0_worth 208 = .ok (.iload 5, 2) := by decide +kernel
theorem dX0_worth_210 : decode cX0_worth 210 = .ok (.iaload, 1) := by decide +kernel
theorem dX0_worth_211 : decode cX0_worth 211 = .ok (.invokestatic 29, 3) := by decide +kernel
theorem dX0_worth_214 : decode cX0_worth 214 = .ok (.iastore, 1) := by decide +kernel
theorem dX0_worth_215 : decode cX0_worth 215 = .ok (.iinc 6 1, 3) := by decide +kernel
theorem dX0_worth_218 : decode cX0_worth 218 = .ok (.goto (-186), 3) := by decide +kernel
theorem dX0_worth_221 : decode cX0_worth 221 = .ok (.iload 5, 2) := by decide +kernel
theorem dX0_worth_223 : decode cX0_worth 223 = .ok (.ifCond .le 12, 3) := by decide +kernel
theorem dX0_worth_226 : decode cX0_worth 226 = .ok (.aload_n 0, 1) := by decide +kernel
theorem dX0_worth_227 : decode cX0_worth 227 = .ok (.getfield 15, 3) := by decide +kernel
theorem dX0_worth_230 : decode cX0_worth 230 = .ok (.iconst 0, 1) := by decide +kernel
theorem dX0_worth_231 : decode cX0_worth 231 = .ok (.iaload, 1) := by decide +kernel
theorem dX0_worth_232 : decode cX0_worth 232 = .ok (.goto 4, 3) := by decide +kernel
theorem dX0_worth_235 : decode cX0_worth 235 = .ok (.iconst 0, 1) := by decide +kernel
theorem dX0_worth_236 : decode cX0_worth 236 = .ok (.ireturn, 1) := by decide +kernel
def b_X0_worth_221 (t : Nat) (y : Nat) (x5 : Int32) (σ : GX) : Option (Int32 × GX) :=
  if x5 ≤ 0 then (some ((0 : Int32), σ)) else (grd (0 : Int32) 160 (some ((xU σ t 1 (0 : Int32).toNatClampNeg), σ)))
theorem vb_X0_worth_221 {g : Gt} {ad : Nat → Nat} (z : Zt) (t : Nat) (y : Nat) (ht : t < 6) (hy : y < 3) (x5 : Int32) (σ : GX) : V g (LX ad) 2 RX0 cX0_worth 9 (some .int) (wX g ad) iI z (b_X0_worth_221 t y x5 σ) σ 221 [(0, .ref (aLaw ad t)), (5, .int x5)] [] := by
  unfold b_X0_worth_221
  refine v_iload (pc := 221) (i := 5) dX0_worth_221 rfl ?_
  refine v_if_le (pc := 223) (tgt := 235) dX0_worth_223 rfl ?_ ?_
  · refine v_iconst (pc := 235) dX0_worth_235 ic_0 ?_
    exact v_iret (pc := 236) dX0_worth_236
  · refine v_aload_n (pc := 226) (i := 0) dX0_worth_226 rfl rfl ?_
    refine gX0_stack (pc := 227) (t := t) ht q_111 dX0_worth_227 ?_
    refine v_iconst (pc := 230) dX0_worth_230 ic_0 ?_
    refine lX_law1 (pc := 231) (t := t) ht dX0_worth_231 ?_
    refine v_goto (pc := 232) (tgt := 236) dX0_worth_232 rfl ?_
    exact v_iret (pc := 236) dX0_worth_236
def b_X0_worth_32 (t : Nat) (y : Nat) (kc32 : Int32 → Int32 → Int32 → Int32 → Int32 → GX → Option (Int32 × GX)) (x1 : Int32) (x3 : Int32) (x4 : Int32) (x5 : Int32) (x6 : Int32) (σ : GX) : Option (Int32 × GX) :=
  grd x1 3 (if (xU σ t 2 x1.toNatClampNeg) ≤ x6 then (b_X0_worth_221 t y x5 σ) else (if (160 : Int32) ≤ x6 then (b_X0_worth_221 t y x5 σ) else (grd x6 160 (bnd (some (xU σ t 0 x6.toNatClampNeg)) fun w2 => if w2 < (-6 : Int32) then (if (-14 : Int32) < w2 then (if (2 : Int32) ≤ x5 then (grd ((x5 + (-1 : Int32)) - (1 : Int32)) 160 (grd (x5 + (-1 : Int32)) 160 (bnd (f_X0_joined w2 (xU σ t 1 ((x5 + (-1 : Int32)) - (1 : Int32)).toNatClampNeg) (xU σ t 1 (x5 + (-1 : Int32)).toNatClampNeg) σ) fun q3 => grd ((x5 + (-1 : Int32)) - (1 : Int32)) 160 (bnd (some (sU q3.2 t 1 ((x5 + (-1 : Int32)) - (1 : Int32)).toNatClampNeg q3.1)) fun σ4 => kc32 x1 x3 x4 (x5 + (-1 : Int32)) (x6 + (1 : Int32)) σ4)))) else (some ((0 : Int32), σ))) else (if (1 : Int32) ≤ x5 then (grd (x5 - (1 : Int32)) 160 (bnd (some (xU σ t 1 (x5 - (1 : Int32)).toNatClampNeg)) fun w5 => if w2 ≠ (-15 : Int32) then (if w5 ≠ 0 then (grd (x5 - (1 : Int32)) 160 (bnd (some (sU σ t 1 (x5 - (1 : Int32)).toNatClampNeg (0 : Int32))) fun σ6 => kc32 x1 x3 x4 x5 (x6 + (1 : Int32)) σ6)) else (grd (x5 - (1 : Int32)) 160 (bnd (some (sU σ t 1 (x5 - (1 : Int32)).toNatClampNeg (1 : Int32))) fun σ7 => kc32 x1 x3 x4 x5 (x6 + (1 : Int32)) σ7))) else (grd (x5 - (1 : Int32)) 160 (bnd (some (sU σ t 1 (x5 - (1 : Int32)).toNatClampNeg (-w5))) fun σ8 => kc32 x1 x3 x4 x5 (x6 + (1 : Int32)) σ8)))) else (some ((0 : Int32), σ)))) else (if x5 < (160 : Int32) then (if w2 < 0 then (bnd (f_X0_named y w2 x3 x4 σ) fun q9 => grd x5 160 (bnd (some (sU q9.2 t 1 x5.toNatClampNeg q9.1)) fun σ10 => kc32 x1 x3 x4 (x5 + (1 : Int32)) (x6 + (1 : Int32)) σ10)) else (grd x5 160 (bnd (some (sU σ t 1 x5.toNatClampNeg w2)) fun σ11 => kc32 x1 x3 x4 (x5 + (1 : Int32)) (x6 + (1 : Int32)) σ11))) else (some ((0 : Int32), σ)))))))
theorem vb_X0_worth_32 {g : Gt} {ad : Nat → Nat} (z : Zt) (t : Nat) (y : Nat) (ht : t < 6) (hy : y < 3) (kc32 : Int32 → Int32 → Int32 → Int32 → Int32 → GX → Option (Int32 × GX)) (hkc32 : ∀ (x1 : Int32) (x3 : Int32) (x4 : Int32) (x5 : Int32) (x6 : Int32) (σ : GX), V g (LX ad) 2 RX0 cX0_worth 9 (some .int) (wX g ad) iI z (kc32 x1 x3 x4 x5 x6 σ) σ 32 [(0, .ref (aLaw ad t)), (1, .int x1), (2, .ref (aSea ad y)), (3, .int x3), (4, .int x4), (5, .int x5), (6, .int x6)] []) (x1 : Int32) (x3 : Int32) (x4 : Int32) (x5 : Int32) (x6 : Int32) (σ : GX) : V g (LX ad) 2 RX0 cX0_worth 9 (some .int) (wX g ad) iI z (b_X0_worth_32 t y kc32 x1 x3 x4 x5 x6 σ) σ 32 [(0, .ref (aLaw ad t)), (1, .int x1), (2, .ref (aSea ad y)), (3, .int x3), (4, .int x4), (5, .int x5), (6, .int x6)] [] := by
  unfold b_X0_worth_32
  refine v_iload (pc := 32) (i := 6) dX0_worth_32 rfl ?_
  refine v_aload_n (pc := 34) (i := 0) dX0_worth_34 rfl rfl ?_
  refine gX0_ends (pc := 35) (t := t) ht q_112 dX0_worth_35 ?_
  refine v_iload_n (pc := 38) (i := 1) dX0_worth_38 rfl rfl ?_
  refine lX_law2 (pc := 39) (t := t) ht dX0_worth_39 ?_
  refine v_icmp_ge (pc := 40) (tgt := 221) dX0_worth_40 rfl ?_ ?_
  · exact v_sub [0, 5] rfl (vb_X0_worth_221 z t y ht hy x5 σ)
  · refine v_iload (pc := 43) (i := 6) dX0_worth_43 rfl ?_
    refine v_aload_n (pc := 45) (i := 0) dX0_worth_45 rfl rfl ?_
    refine gX0_steps (pc := 46) (t := t) ht q_110 dX0_worth_46 ?_
    refine nX_law0 (pc := 49) (t := t) ht (v := (160 : Int32)) rfl dX0_worth_49 ?_
    refine v_icmp_ge (pc := 50) (tgt := 221) dX0_worth_50 rfl ?_ ?_
    · exact v_sub [0, 5] rfl (vb_X0_worth_221 z t y ht hy x5 σ)
    · refine v_aload_n (pc := 53) (i := 0) dX0_worth_53 rfl rfl ?_
      refine gX0_steps (pc := 54) (t := t) ht q_110 dX0_worth_54 ?_
      refine v_iload (pc := 57) (i := 6) dX0_worth_57 rfl ?_
      refine lX_law0 (pc := 59) (t := t) ht dX0_worth_59 ?_
      refine v_nmi (fun w2 => ?_)
      refine v_istore (pc := 60) (lv' := [(7, .int w2), (0, .ref (aLaw ad t)), (1, .int x1), (2, .ref (aSea ad y)), (3, .int x3), (4, .int x4), (5, .int x5), (6, .int x6)]) (i := 7) dX0_worth_60 (by decide) rfl ?_
      refine v_iload (pc := 62) (i := 7) dX0_worth_62 rfl ?_
      refine v_bipush (pc := 64) dX0_worth_64 bp_m6 ?_
      refine v_icmp_lt (pc := 66) (tgt := 113) dX0_worth_66 rfl ?_ ?_
      · refine v_iload (pc := 113) (i := 7) dX0_worth_113 rfl ?_
        refine v_bipush (pc := 115) dX0_worth_115 bp_m14 ?_
        refine v_icmp_gt (pc := 117) (tgt := 174) dX0_worth_117 rfl ?_ ?_
        · refine v_iload (pc := 174) (i := 5) dX0_worth_174 rfl ?_
          refine v_iconst (pc := 176) dX0_worth_176 ic_2 ?_
          refine v_icmp_ge (pc := 177) (tgt := 182) dX0_worth_177 rfl ?_ ?_
          · refine v_iinc (pc := 182) (lv' := [(5, .int (x5 + (-1 : Int32))), (7, .int w2), (0, .ref (aLaw ad t)), (1, .int x1), (2, .ref (aSea ad y)), (3, .int x3), (4, .int x4), (6, .int x6)]) (i := 5) dX0_worth_182 rfl ic_m1 (by decide) rfl ?_
            refine v_aload_n (pc := 185) (i := 0) dX0_worth_185 rfl rfl ?_
            refine gX0_stack (pc := 186) (t := t) ht q_111 dX0_worth_186 ?_
            refine v_iload (pc := 189) (i := 5) dX0_worth_189 rfl ?_
            refine v_iconst (pc := 191) dX0_worth_191 ic_1 ?_
            refine v_isub (pc := 192) dX0_worth_192 ?_
            refine v_iload (pc := 193) (i := 7) dX0_worth_193 rfl ?_
            refine v_aload_n (pc := 195) (i := 0) dX0_worth_195 rfl rfl ?_
            refine gX0_stack (pc := 196) (t := t) ht q_111 dX0_worth_196 ?_
            refine v_iload (pc := 199) (i := 5) dX0_worth_199 rfl ?_
            refine v_iconst (pc := 201) dX0_worth_201 ic_1 ?_
            refine v_isub (pc := 202) dX0_worth_202 ?_
            refine lX_law1 (pc := 203) (t := t) ht dX0_worth_203 ?_
            refine v_aload_n (pc := 204) (i := 0) dX0_worth_204 rfl rfl ?_
            refine gX0_stack (pc := 205) (t := t) ht q_111 dX0_worth_205 ?_
            refine v_iload (pc := 208) (i := 5) dX0_worth_208 rfl ?_
            refine lX_law1 (pc := 210) (t := t) ht dX0_worth_210 ?_
            refine v_callSi (pc := 211) (av := [.int w2, .int (xU σ t 1 ((x5 + (-1 : Int32)) - (1 : Int32)).toNatClampNeg), .int (xU σ t 1 (x5 + (-1 : Int32)).toNatClampNeg)]) (rest := [.int ((x5 + (-1 : Int32)) - (1 : Int32)), .ref (aLawA ad t 1)]) (ct_X0_joined w2 (xU σ t 1 ((x5 + (-1 : Int32)) - (1 : Int32)).toNatClampNeg) (xU σ t 1 (x5 + (-1 : Int32)).toNatClampNeg)) mi_X0_joined q_448 (by decide) rfl rfl (Nat.le_of_ble_eq_true rfl) dX0_worth_211 (fun q3 => ?_)
            refine sX_law1 (pc := 214) (t := t) ht dX0_worth_214 ?_
            refine v_nms (fun σ4 => ?_)
            refine v_iinc (pc := 215) (lv' := [(6, .int (x6 + (1 : Int32))), (5, .int (x5 + (-1 : Int32))), (7, .int w2), (0, .ref (aLaw ad t)), (1, .int x1), (2, .ref (aSea ad y)), (3, .int x3), (4, .int x4)]) (i := 6) dX0_worth_215 rfl ic_1 (by decide) rfl ?_
            refine v_goto (pc := 218) (tgt := 32) dX0_worth_218 rfl ?_
            exact v_sub [3, 4, 5, 6, 7, 1, 0] rfl (hkc32 x1 x3 x4 (x5 + (-1 : Int32)) (x6 + (1 : Int32)) σ4)
          · refine v_iconst (pc := 180) dX0_worth_180 ic_0 ?_
            exact v_iret (pc := 181) dX0_worth_181
        · refine v_iload (pc := 120) (i := 5) dX0_worth_120 rfl ?_
          refine v_iconst (pc := 122) dX0_worth_122 ic_1 ?_
          refine v_icmp_ge (pc := 123) (tgt := 128) dX0_worth_123 rfl ?_ ?_
          · refine v_aload_n (pc := 128) (i := 0) dX0_worth_128 rfl rfl ?_
            refine gX0_stack (pc := 129) (t := t) ht q_111 dX0_worth_129 ?_
            refine v_iload (pc := 132) (i := 5) dX0_worth_132 rfl ?_
            refine v_iconst (pc := 134) dX0_worth_134 ic_1 ?_
            refine v_isub (pc := 135) dX0_worth_135 ?_
            refine lX_law1 (pc := 136) (t := t) ht dX0_worth_136 ?_
            refine v_nmi (fun w5 => ?_)
            refine v_istore (pc := 137) (lv' := [(8, .int w5), (7, .int w2), (0, .ref (aLaw ad t)), (1, .int x1), (2, .ref (aSea ad y)), (3, .int x3), (4, .int x4), (5, .int x5), (6, .int x6)]) (i := 8) dX0_worth_137 (by decide) rfl ?_
            refine v_aload_n (pc := 139) (i := 0) dX0_worth_139 rfl rfl ?_
            refine gX0_stack (pc := 140) (t := t) ht q_111 dX0_worth_140 ?_
            refine v_iload (pc := 143) (i := 5) dX0_worth_143 rfl ?_
            refine v_iconst (pc := 145) dX0_worth_145 ic_1 ?_
            refine v_isub (pc := 146) dX0_worth_146 ?_
            refine v_iload (pc := 147) (i := 7) dX0_worth_147 rfl ?_
            refine v_bipush (pc := 149) dX0_worth_149 bp_m15 ?_
            refine v_icmp_ne (pc := 151) (tgt := 160) dX0_worth_151 rfl ?_ ?_
            · refine v_iload (pc := 160) (i := 8) dX0_worth_160 rfl ?_
              refine v_if_ne (pc := 162) (tgt := 169) dX0_worth_162 rfl ?_ ?_
              · refine v_iconst (pc := 169) dX0_worth_169 ic_0 ?_
                refine sX_law1 (pc := 170) (t := t) ht dX0_worth_170 ?_
                refine v_nms (fun σ6 => ?_)
                refine v_goto (pc := 171) (tgt := 215) dX0_worth_171 rfl ?_
                refine v_iinc (pc := 215) (lv' := [(6, .int (x6 + (1 : Int32))), (8, .int w5), (7, .int w2), (0, .ref (aLaw ad t)), (1, .int x1), (2, .ref (aSea ad y)), (3, .int x3), (4, .int x4), (5, .int x5)]) (i := 6) dX0_worth_215 rfl ic_1 (by decide) rfl ?_
                refine v_goto (pc := 218) (tgt := 32) dX0_worth_218 rfl ?_
                exact v_sub [3, 4, 5, 6, 7, 8, 0] rfl (hkc32 x1 x3 x4 x5 (x6 + (1 : Int32)) σ6)
              · refine v_iconst (pc := 165) dX0_worth_165 ic_1 ?_
                refine v_goto (pc := 166) (tgt := 170) dX0_worth_166 rfl ?_
                refine sX_law1 (pc := 170) (t := t) ht dX0_worth_170 ?_
                refine v_nms (fun σ7 => ?_)
                refine v_goto (pc := 171) (tgt := 215) dX0_worth_171 rfl ?_
                refine v_iinc (pc := 215) (lv' := [(6, .int (x6 + (1 : Int32))), (8, .int w5), (7, .int w2), (0, .ref (aLaw ad t)), (1, .int x1), (2, .ref (aSea ad y)), (3, .int x3), (4, .int x4), (5, .int x5)]) (i := 6) dX0_worth_215 rfl ic_1 (by decide) rfl ?_
                refine v_goto (pc := 218) (tgt := 32) dX0_worth_218 rfl ?_
                exact v_sub [3, 4, 5, 6, 7, 8, 0] rfl (hkc32 x1 x3 x4 x5 (x6 + (1 : Int32)) σ7)
            · refine v_iload (pc := 154) (i := 8) dX0_worth_154 rfl ?_
              refine v_ineg (pc := 156) dX0_worth_156 ?_
              refine v_goto (pc := 157) (tgt := 170) dX0_worth_157 rfl ?_
              refine sX_law1 (pc := 170) (t := t) ht dX0_worth_170 ?_
              refine v_nms (fun σ8 => ?_)
              refine v_goto (pc := 171) (tgt := 215) dX0_worth_171 rfl ?_
              refine v_iinc (pc := 215) (lv' := [(6, .int (x6 + (1 : Int32))), (8, .int w5), (7, .int w2), (0, .ref (aLaw ad t)), (1, .int x1), (2, .ref (aSea ad y)), (3, .int x3), (4, .int x4), (5, .int x5)]) (i := 6) dX0_worth_215 rfl ic_1 (by decide) rfl ?_
              refine v_goto (pc := 218) (tgt := 32) dX0_worth_218 rfl ?_
              exact v_sub [3, 4, 5, 6, 7, 8, 0] rfl (hkc32 x1 x3 x4 x5 (x6 + (1 : Int32)) σ8)
          · refine v_iconst (pc := 126) dX0_worth_126 ic_0 ?_
            exact v_iret (pc := 127) dX0_worth_127
      · refine v_iload (pc := 69) (i := 5) dX0_worth_69 rfl ?_
        refine v_aload_n (pc := 71) (i := 0) dX0_worth_71 rfl rfl ?_
        refine gX0_stack (pc := 72) (t := t) ht q_111 dX0_worth_72 ?_
        refine nX_law1 (pc := 75) (t := t) ht (v := (160 : Int32)) rfl dX0_worth_75 ?_
        refine v_icmp_lt (pc := 76) (tgt := 81) dX0_worth_76 rfl ?_ ?_
        · refine v_aload_n (pc := 81) (i := 0) dX0_worth_81 rfl rfl ?_
          refine gX0_stack (pc := 82) (t := t) ht q_111 dX0_worth_82 ?_
          refine v_iload (pc := 85) (i := 5) dX0_worth_85 rfl ?_
          refine v_iload (pc := 87) (i := 7) dX0_worth_87 rfl ?_
          refine v_if_lt (pc := 89) (tgt := 97) dX0_worth_89 rfl ?_ ?_
          · refine v_iload (pc := 97) (i := 7) dX0_worth_97 rfl ?_
            refine v_aload_n (pc := 99) (i := 2) dX0_worth_99 rfl rfl ?_
            refine v_iload_n (pc := 100) (i := 3) dX0_worth_100 rfl rfl ?_
            refine v_iload (pc := 101) (i := 4) dX0_worth_101 rfl ?_
            refine v_callSi (pc := 103) (av := [.int w2, .ref (aSea ad y), .int x3, .int x4]) (rest := [.int x5, .ref (aLawA ad t 1)]) (ct_X0_named hy w2 x3 x4) mi_X0_named q_445 (by decide) rfl rfl (Nat.le_of_ble_eq_true rfl) dX0_worth_103 (fun q9 => ?_)
            refine sX_law1 (pc := 106) (t := t) ht dX0_worth_106 ?_
            refine v_nms (fun σ10 => ?_)
            refine v_iinc (pc := 107) (lv' := [(5, .int (x5 + (1 : Int32))), (7, .int w2), (0, .ref (aLaw ad t)), (1, .int x1), (2, .ref (aSea ad y)), (3, .int x3), (4, .int x4), (6, .int x6)]) (i := 5) dX0_worth_107 rfl ic_1 (by decide) rfl ?_
            refine v_goto (pc := 110) (tgt := 215) dX0_worth_110 rfl ?_
            refine v_iinc (pc := 215) (lv' := [(6, .int (x6 + (1 : Int32))), (5, .int (x5 + (1 : Int32))), (7, .int w2), (0, .ref (aLaw ad t)), (1, .int x1), (2, .ref (aSea ad y)), (3, .int x3), (4, .int x4)]) (i := 6) dX0_worth_215 rfl ic_1 (by decide) rfl ?_
            refine v_goto (pc := 218) (tgt := 32) dX0_worth_218 rfl ?_
            exact v_sub [3, 4, 5, 6, 7, 1, 0] rfl (hkc32 x1 x3 x4 (x5 + (1 : Int32)) (x6 + (1 : Int32)) σ10)
          · refine v_iload (pc := 92) (i := 7) dX0_worth_92 rfl ?_
            refine v_goto (pc := 94) (tgt := 106) dX0_worth_94 rfl ?_
            refine sX_law1 (pc := 106) (t := t) ht dX0_worth_106 ?_
            refine v_nms (fun σ11 => ?_)
            refine v_iinc (pc := 107) (lv' := [(5, .int (x5 + (1 : Int32))), (7, .int w2), (0, .ref (aLaw ad t)), (1, .int x1), (2, .ref (aSea ad y)), (3, .int x3), (4, .int x4), (6, .int x6)]) (i := 5) dX0_worth_107 rfl ic_1 (by decide) rfl ?_
            refine v_goto (pc := 110) (tgt := 215) dX0_worth_110 rfl ?_
            refine v_iinc (pc := 215) (lv' := [(6, .int (x6 + (1 : Int32))), (5, .int (x5 + (1 : Int32))), (7, .int w2), (0, .ref (aLaw ad t)), (1, .int x1), (2, .ref (aSea ad y)), (3, .int x3), (4, .int x4)]) (i := 6) dX0_worth_215 rfl ic_1 (by decide) rfl ?_
            refine v_goto (pc := 218) (tgt := 32) dX0_worth_218 rfl ?_
            exact v_sub [3, 4, 5, 6, 7, 1, 0] rfl (hkc32 x1 x3 x4 (x5 + (1 : Int32)) (x6 + (1 : Int32)) σ11)
        · refine v_iconst (pc := 79) dX0_worth_79 ic_0 ?_
          exact v_iret (pc := 80) dX0_worth_80
def k_X0_worth_32 (t : Nat) (y : Nat) : Nat → Int32 → Int32 → Int32 → Int32 → Int32 → GX → Option (Int32 × GX)
  | 0 => fun _ _ _ _ _ _ => none
  | n + 1 => b_X0_worth_32 t y (k_X0_worth_32 t y n)
theorem vk_X0_worth_32 {g : Gt} {ad : Nat → Nat} (z : Zt) (t : Nat) (y : Nat) (ht : t < 6) (hy : y < 3) : ∀ (n : Nat) (x1 : Int32) (x3 : Int32) (x4 : Int32) (x5 : Int32) (x6 : Int32) (σ : GX), V g (LX ad) 2 RX0 cX0_worth 9 (some .int) (wX g ad) iI z (k_X0_worth_32 t y n x1 x3 x4 x5 x6 σ) σ 32 [(0, .ref (aLaw ad t)), (1, .int x1), (2, .ref (aSea ad y)), (3, .int x3), (4, .int x4), (5, .int x5), (6, .int x6)] [] := by
  intro n
  induction n with
  | zero => intros; exact v_eq rfl v_none
  | succ n ih =>
    intro x1 x3 x4 x5 x6 σ
    exact v_eq rfl (vb_X0_worth_32 z t y ht hy _ ih x1 x3 x4 x5 x6 σ)
def f_X0_worth (t : Nat) (y : Nat) (x1 : Int32) (x3 : Int32) (x4 : Int32) (σ : GX) : Option (Int32 × GX) :=
  if x1 < 0 then (some ((0 : Int32), σ)) else (if x1 < (3 : Int32) then (if x1 ≠ 0 then (grd (x1 - (1 : Int32)) 3 (bnd (some (xU σ t 2 (x1 - (1 : Int32)).toNatClampNeg)) fun w1 => k_X0_worth_32 t y FU x1 x3 x4 (0 : Int32) w1 σ)) else (k_X0_worth_32 t y FU x1 x3 x4 (0 : Int32) (0 : Int32) σ)) else (some ((0 : Int32), σ)))
theorem vf_X0_worth {g : Gt} {ad : Nat → Nat} (z : Zt) (t : Nat) (y : Nat) (ht : t < 6) (hy : y < 3) (x1 : Int32) (x3 : Int32) (x4 : Int32) (σ : GX) : V g (LX ad) 2 RX0 cX0_worth 9 (some .int) (wX g ad) iI z (f_X0_worth t y x1 x3 x4 σ) σ 0 [(0, .ref (aLaw ad t)), (1, .int x1), (2, .ref (aSea ad y)), (3, .int x3), (4, .int x4)] [] := by
  unfold f_X0_worth
  refine v_iload_n (pc := 0) (i := 1) dX0_worth_0 rfl rfl ?_
  refine v_if_lt (pc := 1) (tgt := 9) dX0_worth_1 rfl ?_ ?_
  · refine v_iconst (pc := 9) dX0_worth_9 ic_0 ?_
    exact v_iret (pc := 10) dX0_worth_10
  · refine v_iload_n (pc := 4) (i := 1) dX0_worth_4 rfl rfl ?_
    refine v_iconst (pc := 5) dX0_worth_5 ic_3 ?_
    refine v_icmp_lt (pc := 6) (tgt := 11) dX0_worth_6 rfl ?_ ?_
    · refine v_iconst (pc := 11) dX0_worth_11 ic_0 ?_
      refine v_istore (pc := 12) (lv' := [(5, .int (0 : Int32)), (0, .ref (aLaw ad t)), (1, .int x1), (2, .ref (aSea ad y)), (3, .int x3), (4, .int x4)]) (i := 5) dX0_worth_12 (by decide) rfl ?_
      refine v_iload_n (pc := 14) (i := 1) dX0_worth_14 rfl rfl ?_
      refine v_if_ne (pc := 15) (tgt := 22) dX0_worth_15 rfl ?_ ?_
      · refine v_aload_n (pc := 22) (i := 0) dX0_worth_22 rfl rfl ?_
        refine gX0_ends (pc := 23) (t := t) ht q_112 dX0_worth_23 ?_
        refine v_iload_n (pc := 26) (i := 1) dX0_worth_26 rfl rfl ?_
        refine v_iconst (pc := 27) dX0_worth_27 ic_1 ?_
        refine v_isub (pc := 28) dX0_worth_28 ?_
        refine lX_law2 (pc := 29) (t := t) ht dX0_worth_29 ?_
        refine v_nmi (fun w1 => ?_)
        refine v_istore (pc := 30) (lv' := [(6, .int w1), (5, .int (0 : Int32)), (0, .ref (aLaw ad t)), (1, .int x1), (2, .ref (aSea ad y)), (3, .int x3), (4, .int x4)]) (i := 6) dX0_worth_30 (by decide) rfl ?_
        exact v_sub [2, 3, 4, 5, 6, 1, 0] rfl (vk_X0_worth_32 z t y ht hy FU x1 x3 x4 (0 : Int32) w1 σ)
      · refine v_iconst (pc := 18) dX0_worth_18 ic_0 ?_
        refine v_goto (pc := 19) (tgt := 30) dX0_worth_19 rfl ?_
        refine v_istore (pc := 30) (lv' := [(6, .int (0 : Int32)), (5, .int (0 : Int32)), (0, .ref (aLaw ad t)), (1, .int x1), (2, .ref (aSea ad y)), (3, .int x3), (4, .int x4)]) (i := 6) dX0_worth_30 (by decide) rfl ?_
        exact v_sub [2, 3, 4, 5, 6, 1, 0] rfl (vk_X0_worth_32 z t y ht hy FU x1 x3 x4 (0 : Int32) (0 : Int32) σ)
    · refine v_iconst (pc := 9) dX0_worth_9 ic_0 ?_
      exact v_iret (pc := 10) dX0_worth_10
theorem ct_X0_worth {g : Gt} {ad : Nat → Nat} {t : Nat} {y : Nat} (ht : t < 6) (hy : y < 3) (x1 : Int32) (x3 : Int32) (x4 : Int32) : CT g (LX ad) yX0_worth cX0_worth 9 (some .int) 2 [.ref (aLaw ad t), .int x1, .ref (aSea ad y), .int x3, .int x4] iI (wX g ad) (f_X0_worth t y x1 x3 x4) :=
  ct_of_V (own := RX0) (lv0 := [(0, .ref (aLaw ad t)), (1, .int x1), (2, .ref (aSea ad y)), (3, .int x3), (4, .int x4)]) (by decide +kernel) rfl (Nat.le_of_ble_eq_true rfl) rfl (fun z σ => vf_X0_worth z t y ht hy x1 x3 x4 σ)
-- LighthouseLiedTo$Sheet.become
theorem dX3_become_0 : decode cX3_become 0 = .ok (.aload_n 0, 1) := by decide +kernel
theorem dX3_become_1 : decode cX3_become 1 = .ok (.iload_n 1, 1) := by decide +kernel
theorem dX3_become_2 : decode cX3_become 2 = .ok (.putfield 15, 3) := by decide +kernel
theorem dX3_become_5 : decode cX3_become 5 = .ok (.aload_n 0, 1) := by decide +kernel
theorem dX3_become_6 : decode cX3_become 6 = .ok (.iload_n 2, 1) := by decide +kernel
theorem dX3_become_7 : decode cX3_become 7 = .ok (.putfield 19, 3) := by decide +kernel
theorem dX3_become_10 : decode cX3_become 10 = .ok (.iconst 0, 1) := by decide +kernel
theorem dX3_become_11 : decode cX3_become 11 = .ok (.istore_n 3, 1) := by decide +kernel
theorem dX3_become_12 : decode cX3_become 12 = .ok (.iload_n 3, 1) := by decide +kernel
theorem dX3_become_13 : decode cX3_become 13 = .ok (.bipush 40, 2) := by decide +kernel
theorem dX3_become_15 : decode cX3_become 15 = .ok (.if_icmp .ge 16, 3) := by decide +kernel
theorem dX3_become_18 : decode cX3_become 18 = .ok (.aload_n 0, 1) := by decide +kernel
theorem dX3_become_19 : decode cX3_become 19 = .ok (.getfield 9, 3) := by decide +kernel
theorem dX3_become_22 : decode cX3_become 22 = .ok (.iload_n 3, 1) := by decide +kernel
theorem dX3_become_23 : decode cX3_become 23 = .ok (.iconst 0, 1) := by decide +kernel
theorem dX3_become_24 : decode cX3_become 24 = .ok (.iastore, 1) := by decide +kernel
theorem dX3_become_25 : decode cX3_become 25 = .ok (.iinc 3 1, 3) := by decide +kernel
theorem dX3_become_28 : decode cX3_become 28 = .ok (.goto (-16), 3) := by decide +kernel
theorem dX3_become_31 : decode cX3_become 31 = .ok (.return_, 1) := by decide +kernel
def b_X3_become_12 (q : Nat) (kc12 : Int32 → GX → Option (Unit × GX)) (x3 : Int32) (σ : GX) : Option (Unit × GX) :=
  if (40 : Int32) ≤ x3 then (some ((), σ)) else (grd x3 40 (bnd (some (sN σ q x3.toNatClampNeg (0 : Int32))) fun σ3 => kc12 (x3 + (1 : Int32)) σ3))
theorem vb_X3_become_12 {g : Gt} {ad : Nat → Nat} (z : Zt) (q : Nat) (hq : q < 4) (kc12 : Int32 → GX → Option (Unit × GX)) (hkc12 : ∀ (x3 : Int32) (σ : GX), V g (LX ad) 1 RX3 cX3_become 4 none (wX g ad) iU z (kc12 x3 σ) σ 12 [(0, .ref (aSheet ad q)), (3, .int x3)] []) (x3 : Int32) (σ : GX) : V g (LX ad) 1 RX3 cX3_become 4 none (wX g ad) iU z (b_X3_become_12 q kc12 x3 σ) σ 12 [(0, .ref (aSheet ad q)), (3, .int x3)] [] := by
  unfold b_X3_become_12
  refine v_iload_n (pc := 12) (i := 3) dX3_become_12 rfl rfl ?_
  refine v_bipush (pc := 13) dX3_become_13 bp_40 ?_
  refine v_icmp_ge (pc := 15) (tgt := 31) dX3_become_15 rfl ?_ ?_
  · exact v_ret (pc := 31) dX3_become_31
  · refine v_aload_n (pc := 18) (i := 0) dX3_become_18 rfl rfl ?_
    refine gX3_numbers (pc := 19) (q := q) hq q_128 dX3_become_19 ?_
    refine v_iload_n (pc := 22) (i := 3) dX3_become_22 rfl rfl ?_
    refine v_iconst (pc := 23) dX3_become_23 ic_0 ?_
    refine sX_nums (pc := 24) (q := q) hq dX3_become_24 ?_
    refine v_nms (fun σ3 => ?_)
    refine v_iinc (pc := 25) (lv' := [(3, .int (x3 + (1 : Int32))), (0, .ref (aSheet ad q))]) (i := 3) dX3_become_25 rfl ic_1 (by decide) rfl ?_
    refine v_goto (pc := 28) (tgt := 12) dX3_become_28 rfl ?_
    exact v_sub [1, 0] rfl (hkc12 (x3 + (1 : Int32)) σ3)
def k_X3_become_12 (q : Nat) : Nat → Int32 → GX → Option (Unit × GX)
  | 0 => fun _ _ => none
  | n + 1 => b_X3_become_12 q (k_X3_become_12 q n)
theorem vk_X3_become_12 {g : Gt} {ad : Nat → Nat} (z : Zt) (q : Nat) (hq : q < 4) : ∀ (n : Nat) (x3 : Int32) (σ : GX), V g (LX ad) 1 RX3 cX3_become 4 none (wX g ad) iU z (k_X3_become_12 q n x3 σ) σ 12 [(0, .ref (aSheet ad q)), (3, .int x3)] [] := by
  intro n
  induction n with
  | zero => intros; exact v_eq rfl v_none
  | succ n ih =>
    intro x3 σ
    exact v_eq rfl (vb_X3_become_12 z q hq _ ih x3 σ)
def f_X3_become (q : Nat) (x1 : Int32) (x2 : Int32) (σ : GX) : Option (Unit × GX) :=
  bnd (some (sH σ q 0 x1)) fun σ1 => bnd (some (sH σ1 q 1 x2)) fun σ2 => k_X3_become_12 q FU (0 : Int32) σ2
theorem vf_X3_become {g : Gt} {ad : Nat → Nat} (z : Zt) (q : Nat) (hq : q < 4) (x1 : Int32) (x2 : Int32) (σ : GX) : V g (LX ad) 1 RX3 cX3_become 4 none (wX g ad) iU z (f_X3_become q x1 x2 σ) σ 0 [(0, .ref (aSheet ad q)), (1, .int x1), (2, .int x2)] [] := by
  unfold f_X3_become
  refine v_aload_n (pc := 0) (i := 0) dX3_become_0 rfl rfl ?_
  refine v_iload_n (pc := 1) (i := 1) dX3_become_1 rfl rfl ?_
  refine pX3_sort (pc := 2) (q := q) hq q_130 dX3_become_2 ?_
  refine v_nms (fun σ1 => ?_)
  refine v_aload_n (pc := 5) (i := 0) dX3_become_5 rfl rfl ?_
  refine v_iload_n (pc := 6) (i := 2) dX3_become_6 rfl rfl ?_
  refine pX3_size (pc := 7) (q := q) hq q_132 dX3_become_7 ?_
  refine v_nms (fun σ2 => ?_)
  refine v_iconst (pc := 10) dX3_become_10 ic_0 ?_
  refine v_istore_n (pc := 11) (lv' := [(3, .int (0 : Int32)), (0, .ref (aSheet ad q)), (1, .int x1), (2, .int x2)]) (i := 3) dX3_become_11 rfl (by decide) rfl ?_
  exact v_sub [1, 0] rfl (vk_X3_become_12 z q hq FU (0 : Int32) σ2)
theorem ct_X3_become {g : Gt} {ad : Nat → Nat} {q : Nat} (hq : q < 4) (x1 : Int32) (x2 : Int32) : CT g (LX ad) yX3_become cX3_become 4 none 1 [.ref (aSheet ad q), .int x1, .int x2] iU (wX g ad) (f_X3_become q x1 x2) :=
  ct_of_V (own := RX3) (lv0 := [(0, .ref (aSheet ad q)), (1, .int x1), (2, .int x2)]) (by decide +kernel) rfl (Nat.le_of_ble_eq_true rfl) rfl (fun z σ => vf_X3_become z q hq x1 x2 σ)
-- LighthouseLiedTo$Sheet.has
theorem dX3_has_0 : decode cX3_has 0 = .ok (.iload_n 1, 1) := by decide +kernel
theorem dX3_has_1 : decode cX3_has 1 = .ok (.ifCond .lt 24, 3) := by decide +kernel
theorem dX3_has_4 : decode cX3_has 4 = .ok (.iload_n 1, 1) := by decide +kernel
theorem dX3_has_5 : decode cX3_has 5 = .ok (.aload_n 0, 1) := by decide +kernel
theorem dX3_has_6 : decode cX3_has 6 = .ok (.getfield 19, 3) := by decide +kernel
theorem dX3_has_9 : decode cX3_has 9 = .ok (.if_icmp .ge 16, 3) := by decide +kernel
theorem dX3_has_12 : decode cX3_has 12 = .ok (.iload_n 1, 1) := by decide +kernel
theorem dX3_has_13 : decode cX3_has 13 = .ok (.aload_n 0, 1) := by decide +kernel
theorem dX3_has_14 : decode cX3_has 14 = .ok (.getfield 9, 3) := by decide +kernel
theorem dX3_has_17 : decode cX3_has 17 = .ok (.arraylength, 1) := by decide +kernel
theorem dX3_has_18 : decode cX3_has 18 = .ok (.if_icmp .ge 7, 3) := by decide +kernel
theorem dX3_has_21 : decode cX3_has 21 = .ok (.iconst 1, 1) := by decide +kernel
theorem dX3_has_22 : decode cX3_has 22 = .ok (.goto 4, 3) := by decide +kernel
theorem dX3_has_25 : decode cX3_has 25 = .ok (.iconst 0, 1) := by decide +kernel
theorem dX3_has_26 : decode cX3_has 26 = .ok (.ireturn, 1) := by decide +kernel
def f_X3_has (q : Nat) (x1 : Int32) (σ : GX) : Option (Int32 × GX) :=
  if x1 < 0 then (some ((0 : Int32), σ)) else (if (xH σ q 1) ≤ x1 then (some ((0 : Int32), σ)) else (if (40 : Int32) ≤ x1 then (some ((0 : Int32), σ)) else (some ((1 : Int32), σ))))
theorem vf_X3_has {g : Gt} {ad : Nat → Nat} (z : Zt) (q : Nat) (hq : q < 4) (x1 : Int32) (σ : GX) : V g (LX ad) 1 RX3 cX3_has 2 (some .boolean) (wX g ad) iI z (f_X3_has q x1 σ) σ 0 [(0, .ref (aSheet ad q)), (1, .int x1)] [] := by
  unfold f_X3_has
  refine v_iload_n (pc := 0) (i := 1) dX3_has_0 rfl rfl ?_
  refine v_if_lt (pc := 1) (tgt := 25) dX3_has_1 rfl ?_ ?_
  · refine v_iconst (pc := 25) dX3_has_25 ic_0 ?_
    exact v_nret (pc := 26) rfl dX3_has_26
  · refine v_iload_n (pc := 4) (i := 1) dX3_has_4 rfl rfl ?_
    refine v_aload_n (pc := 5) (i := 0) dX3_has_5 rfl rfl ?_
    refine gX3_size (pc := 6) (q := q) hq q_132 dX3_has_6 ?_
    refine v_icmp_ge (pc := 9) (tgt := 25) dX3_has_9 rfl ?_ ?_
    · refine v_iconst (pc := 25) dX3_has_25 ic_0 ?_
      exact v_nret (pc := 26) rfl dX3_has_26
    · refine v_iload_n (pc := 12) (i := 1) dX3_has_12 rfl rfl ?_
      refine v_aload_n (pc := 13) (i := 0) dX3_has_13 rfl rfl ?_
      refine gX3_numbers (pc := 14) (q := q) hq q_128 dX3_has_14 ?_
      refine nX_nums (pc := 17) (q := q) hq (v := (40 : Int32)) rfl dX3_has_17 ?_
      refine v_icmp_ge (pc := 18) (tgt := 25) dX3_has_18 rfl ?_ ?_
      · refine v_iconst (pc := 25) dX3_has_25 ic_0 ?_
        exact v_nret (pc := 26) rfl dX3_has_26
      · refine v_iconst (pc := 21) dX3_has_21 ic_1 ?_
        refine v_goto (pc := 22) (tgt := 26) dX3_has_22 rfl ?_
        exact v_nret (pc := 26) rfl dX3_has_26
theorem ct_X3_has {g : Gt} {ad : Nat → Nat} {q : Nat} (hq : q < 4) (x1 : Int32) : CT g (LX ad) yX3_has cX3_has 2 (some .boolean) 1 [.ref (aSheet ad q), .int x1] iI (wX g ad) (f_X3_has q x1) :=
  ct_of_V (own := RX3) (lv0 := [(0, .ref (aSheet ad q)), (1, .int x1)]) (by decide +kernel) rfl (Nat.le_of_ble_eq_true rfl) rfl (fun z σ => vf_X3_has z q hq x1 σ)
-- LighthouseLiedTo$Sheet.set
theorem dX3_set_0 : decode cX3_set 0 = .ok (.aload_n 0, 1) := by decide +kernel
theorem dX3_set_1 : decode cX3_set 1 = .ok (.iload_n 1, 1) := by decide +kernel
theorem dX3_set_2 : decode cX3_set 2 = .ok (.invokevirtual 22, 3) := by decide +kernel
theorem dX3_set_5 : decode cX3_set 5 = .ok (.ifCond .eq 35, 3) := by decide +kernel
theorem dX3_set_8 : decode cX3_set 8 = .ok (.aload_n 0, 1) := by decide +kernel
theorem dX3_set_9 : decode cX3_set 9 = .ok (.getfield 9, 3) := by decide +kernel
theorem dX3_set_12 : decode cX3_set 12 = .ok (.iload_n 1, 1) := by decide +kernel
theorem dX3_set_13 : decode cX3_set 13 = .ok (.aload_n 0, 1) := by decide +kernel
theorem dX3_set_14 : decode cX3_set 14 = .ok (.getfield 15, 3) := by decide +kernel
theorem dX3_set_17 : decode cX3_set 17 = .ok (.ifCond .ne 8, 3) := by decide +kernel
theorem dX3_set_20 : decode cX3_set 20 = .ok (.iload_n 2, 1) := by decide +kernel
theorem dX3_set_21 : decode cX3_set 21 = .ok (.i2b, 1) := by decide +kernel
theorem dX3_set_22 : decode cX3_set 22 = .ok (.goto 17, 3) := by decide +kernel
theorem dX3_set_25 : decode cX3_set 25 = .ok (.aload_n 0, 1) := by decide +kernel
theorem dX3_set_26 : decode cX3_set 26 = .ok (.getfield 15, 3) := by decide +kernel
theorem dX3_set_29 : decode cX3_set 29 = .ok (.iconst 1, 1) := by decide +kernel
theorem dX3_set_30 : decode cX3_set 30 = .ok (.if_icmp .ne 8, 3) := by decide +kernel
theorem dX3_set_33 : decode cX3_set 33 = .ok (.iload_n 2, 1) := by decide +kernel
theorem dX3_set_34 : decode cX3_set 34 = .ok (.i2s, 1) := by decide +kernel
theorem dX3_set_35 : decode cX3_set 35 = .ok (.goto 4, 3) := by decide +kernel
theorem dX3_set_38 : decode cX3_set 38 = .ok (.iload_n 2, 1) := by decide +kernel
theorem dX3_set_39 : decode cX3_set 39 = .ok (.iastore, 1) := by decide +kernel
theorem dX3_set_40 : decode cX3_set 40 = .ok (.return_, 1) := by decide +kernel
def f_X3_set (q : Nat) (x1 : Int32) (x2 : Int32) (σ : GX) : Option (Unit × GX) :=
  bnd (f_X3_has q x1 σ) fun q1 => if q1.1 = 0 then (some ((), q1.2)) else (if (xH q1.2 q 0) ≠ 0 then (if (xH q1.2 q 0) ≠ (1 : Int32) then (grd x1 40 (bnd (some (sN q1.2 q x1.toNatClampNeg x2)) fun σ2 => some ((), σ2))) else (grd x1 40 (bnd (some (sN q1.2 q x1.toNatClampNeg x2.toInt16.toInt32)) fun σ3 => some ((), σ3)))) else (grd x1 40 (bnd (some (sN q1.2 q x1.toNatClampNeg x2.toInt8.toInt32)) fun σ4 => some ((), σ4))))
theorem vf_X3_set {g : Gt} {ad : Nat → Nat} (z : Zt) (q : Nat) (hq : q < 4) (x1 : Int32) (x2 : Int32) (σ : GX) : V g (LX ad) 2 RX3 cX3_set 3 none (wX g ad) iU z (f_X3_set q x1 x2 σ) σ 0 [(0, .ref (aSheet ad q)), (1, .int x1), (2, .int x2)] [] := by
  unfold f_X3_set
  refine v_aload_n (pc := 0) (i := 0) dX3_set_0 rfl rfl ?_
  refine v_iload_n (pc := 1) (i := 1) dX3_set_1 rfl rfl ?_
  refine v_callVi (pc := 2) (rcX3 hq) (As := [.int x1]) (rest := []) (ct_X3_has hq x1) mi_X3_has q_640 (by decide) rfl rfl (Nat.le_of_ble_eq_true rfl) dX3_set_2 (fun q1 => ?_)
  refine v_if_eq (pc := 5) (tgt := 40) dX3_set_5 rfl ?_ ?_
  · exact v_ret (pc := 40) dX3_set_40
  · refine v_aload_n (pc := 8) (i := 0) dX3_set_8 rfl rfl ?_
    refine gX3_numbers (pc := 9) (q := q) hq q_128 dX3_set_9 ?_
    refine v_iload_n (pc := 12) (i := 1) dX3_set_12 rfl rfl ?_
    refine v_aload_n (pc := 13) (i := 0) dX3_set_13 rfl rfl ?_
    refine gX3_sort (pc := 14) (q := q) hq q_130 dX3_set_14 ?_
    refine v_if_ne (pc := 17) (tgt := 25) dX3_set_17 rfl ?_ ?_
    · refine v_aload_n (pc := 25) (i := 0) dX3_set_25 rfl rfl ?_
      refine gX3_sort (pc := 26) (q := q) hq q_130 dX3_set_26 ?_
      refine v_iconst (pc := 29) dX3_set_29 ic_1 ?_
      refine v_icmp_ne (pc := 30) (tgt := 38) dX3_set_30 rfl ?_ ?_
      · refine v_iload_n (pc := 38) (i := 2) dX3_set_38 rfl rfl ?_
        refine sX_nums (pc := 39) (q := q) hq dX3_set_39 ?_
        refine v_nms (fun σ2 => ?_)
        exact v_ret (pc := 40) dX3_set_40
      · refine v_iload_n (pc := 33) (i := 2) dX3_set_33 rfl rfl ?_
        refine v_i2s (pc := 34) dX3_set_34 ?_
        refine v_goto (pc := 35) (tgt := 39) dX3_set_35 rfl ?_
        refine sX_nums (pc := 39) (q := q) hq dX3_set_39 ?_
        refine v_nms (fun σ3 => ?_)
        exact v_ret (pc := 40) dX3_set_40
    · refine v_iload_n (pc := 20) (i := 2) dX3_set_20 rfl rfl ?_
      refine v_i2b (pc := 21) dX3_set_21 ?_
      refine v_goto (pc := 22) (tgt := 39) dX3_set_22 rfl ?_
      refine sX_nums (pc := 39) (q := q) hq dX3_set_39 ?_
      refine v_nms (fun σ4 => ?_)
      exact v_ret (pc := 40) dX3_set_40
theorem ct_X3_set {g : Gt} {ad : Nat → Nat} {q : Nat} (hq : q < 4) (x1 : Int32) (x2 : Int32) : CT g (LX ad) yX3_set cX3_set 3 none 2 [.ref (aSheet ad q), .int x1, .int x2] iU (wX g ad) (f_X3_set q x1 x2) :=
  ct_of_V (own := RX3) (lv0 := [(0, .ref (aSheet ad q)), (1, .int x1), (2, .int x2)]) (by decide +kernel) rfl (Nat.le_of_ble_eq_true rfl) rfl (fun z σ => vf_X3_set z q hq x1 x2 σ)
-- LighthouseLiedTo$Sheet.holds
theorem dX3_holds_0 : decode cX3_holds 0 = .ok (.iload_n 2, 1) := by decide +kernel
theorem dX3_holds_1 : decode cX3_holds 1 = .ok (.ifCond .lt 29, 3) := by decide +kernel
theorem dX3_holds_4 : decode cX3_holds 4 = .ok (.iload_n 2, 1) := by decide +kernel
theorem dX3_holds_5 : decode cX3_holds 5 = .ok (.aload_n 0, 1) := by decide +kernel
theorem dX3_holds_6 : decode cX3_holds 6 = .ok (.getfield 19, 3) := by decide +kernel
theorem dX3_holds_9 : decode cX3_holds 9 = .ok (.if_icmp .gt 21, 3) := by decide +kernel
theorem dX3_holds_12 : decode cX3_holds 12 = .ok (.iload_n 1, 1) := by decide +kernel
theorem dX3_holds_13 : decode cX3_holds 13 = .ok (.ifCond .lt 17, 3) := by decide +kernel
theorem dX3_holds_16 : decode cX3_holds 16 = .ok (.iload_n 1, 1) := by decide +kernel
theorem dX3_holds_17 : decode cX3_holds 17 = .ok (.aload_n 0, 1) := by decide +kernel
theorem dX3_holds_18 : decode cX3_holds 18 = .ok (.getfield 19, 3) := by decide +kernel
theorem dX3_holds_21 : decode cX3_holds 21 = .ok (.iload_n 2, 1) := by decide +kernel
theorem dX3_holds_22 : decode cX3_holds 22 = .ok (.isub, 1) := by decide +kernel
theorem dX3_holds_23 : decode cX3_holds 23 = .ok (.if_icmp .gt 7, 3) := by decide +kernel
theorem dX3_holds_26 : decode cX3_holds 26 = .ok (.iconst 1, 1) := by decide +kernel
theorem dX3_holds_27 : decode cX3_holds 27 = .ok (.goto 4, 3) := by decide +kernel
theorem dX3_holds_30 : decode cX3_holds 30 = .ok (.iconst 0, 1) := by decide +kernel
theorem dX3_holds_31 : decode cX3_holds 31 = .ok (.ireturn, 1) := by decide +kernel
def f_X3_holds (q : Nat) (x1 : Int32) (x2 : Int32) (σ : GX) : Option (Int32 × GX) :=
  if x2 < 0 then (some ((0 : Int32), σ)) else (if (xH σ q 1) < x2 then (some ((0 : Int32), σ)) else (if x1 < 0 then (some ((0 : Int32), σ)) else (if ((xH σ q 1) - x2) < x1 then (some ((0 : Int32), σ)) else (some ((1 : Int32), σ)))))
theorem vf_X3_holds {g : Gt} {ad : Nat → Nat} (z : Zt) (q : Nat) (hq : q < 4) (x1 : Int32) (x2 : Int32) (σ : GX) : V g (LX ad) 1 RX3 cX3_holds 3 (some .boolean) (wX g ad) iI z (f_X3_holds q x1 x2 σ) σ 0 [(0, .ref (aSheet ad q)), (1, .int x1), (2, .int x2)] [] := by
  unfold f_X3_holds
  refine v_iload_n (pc := 0) (i := 2) dX3_holds_0 rfl rfl ?_
  refine v_if_lt (pc := 1) (tgt := 30) dX3_holds_1 rfl ?_ ?_
  · refine v_iconst (pc := 30) dX3_holds_30 ic_0 ?_
    exact v_nret (pc := 31) rfl dX3_holds_31
  · refine v_iload_n (pc := 4) (i := 2) dX3_holds_4 rfl rfl ?_
    refine v_aload_n (pc := 5) (i := 0) dX3_holds_5 rfl rfl ?_
    refine gX3_size (pc := 6) (q := q) hq q_132 dX3_holds_6 ?_
    refine v_icmp_gt (pc := 9) (tgt := 30) dX3_holds_9 rfl ?_ ?_
    · refine v_iconst (pc := 30) dX3_holds_30 ic_0 ?_
      exact v_nret (pc := 31) rfl dX3_holds_31
    · refine v_iload_n (pc := 12) (i := 1) dX3_holds_12 rfl rfl ?_
      refine v_if_lt (pc := 13) (tgt := 30) dX3_holds_13 rfl ?_ ?_
      · refine v_iconst (pc := 30) dX3_holds_30 ic_0 ?_
        exact v_nret (pc := 31) rfl dX3_holds_31
      · refine v_iload_n (pc := 16) (i := 1) dX3_holds_16 rfl rfl ?_
        refine v_aload_n (pc := 17) (i := 0) dX3_holds_17 rfl rfl ?_
        refine gX3_size (pc := 18) (q := q) hq q_132 dX3_holds_18 ?_
        refine v_iload_n (pc := 21) (i := 2) dX3_holds_21 rfl rfl ?_
        refine v_isub (pc := 22) dX3_holds_22 ?_
        refine v_icmp_gt (pc := 23) (tgt := 30) dX3_holds_23 rfl ?_ ?_
        · refine v_iconst (pc := 30) dX3_holds_30 ic_0 ?_
          exact v_nret (pc := 31) rfl dX3_holds_31
        · refine v_iconst (pc := 26) dX3_holds_26 ic_1 ?_
          refine v_goto (pc := 27) (tgt := 31) dX3_holds_27 rfl ?_
          exact v_nret (pc := 31) rfl dX3_holds_31
theorem ct_X3_holds {g : Gt} {ad : Nat → Nat} {q : Nat} (hq : q < 4) (x1 : Int32) (x2 : Int32) : CT g (LX ad) yX3_holds cX3_holds 3 (some .boolean) 1 [.ref (aSheet ad q), .int x1, .int x2] iI (wX g ad) (f_X3_holds q x1 x2) :=
  ct_of_V (own := RX3) (lv0 := [(0, .ref (aSheet ad q)), (1, .int x1), (2, .int x2)]) (by decide +kernel) rfl (Nat.le_of_ble_eq_true rfl) rfl (fun z σ => vf_X3_holds z q hq x1 x2 σ)
