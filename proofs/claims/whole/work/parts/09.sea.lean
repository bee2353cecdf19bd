-- LighthouseLiedTo$Sea.afloat
theorem dX2_afloat_0 : decode cX2_afloat 0 = .ok (.iconst 1, 1) := by decide +kernel
theorem dX2_afloat_1 : decode cX2_afloat 1 = .ok (.aload_n 0, 1) := by decide +kernel
theorem dX2_afloat_2 : decode cX2_afloat 2 = .ok (.getfield 45, 3) := by decide +kernel
theorem dX2_afloat_5 : decode cX2_afloat 5 = .ok (.ishl, 1) := by decide +kernel
theorem dX2_afloat_6 : decode cX2_afloat 6 = .ok (.iconst 1, 1) := by decide +kernel
theorem dX2_afloat_7 : decode cX2_afloat 7 = .ok (.isub, 1) := by decide +kernel
theorem dX2_afloat_8 : decode cX2_afloat 8 = .ok (.aload_n 0, 1) := by decide +kernel
theorem dX2_afloat_9 : decode cX2_afloat 9 = .ok (.getfield 41, 3) := by decide +kernel
theorem dX2_afloat_12 : decode cX2_afloat 12 = .ok (.iconst (-1), 1) := by decide +kernel
theorem dX2_afloat_13 : decode cX2_afloat 13 = .ok (.ixor, 1) := by decide +kernel
theorem dX2_afloat_14 : decode cX2_afloat 14 = .ok (.iand, 1) := by decide +kernel
theorem dX2_afloat_15 : decode cX2_afloat 15 = .ok (.ireturn, 1) := by decide +kernel
def f_X2_afloat (y : Nat) (σ : GX) : Option (Int32 × GX) :=
  some ((((slI (1 : Int32) (xS σ y 1)) - (1 : Int32)) &&& ((xS σ y 0) ^^^ (-1 : Int32))), σ)
theorem vf_X2_afloat {g : Gt} {ad : Nat → Nat} (z : Zt) (y : Nat) (hy : y < 3) (σ : GX) : V g (LX ad) 1 RX2 cX2_afloat 1 (some .int) (wX g ad) iI z (f_X2_afloat y σ) σ 0 [(0, .ref (aSea ad y))] [] := by
  unfold f_X2_afloat
  refine v_iconst (pc := 0) dX2_afloat_0 ic_1 ?_
  refine v_aload_n (pc := 1) (i := 0) dX2_afloat_1 rfl rfl ?_
  refine gX2_ships (pc := 2) (y := y) hy q_164 dX2_afloat_2 ?_
  refine v_ishl (pc := 5) dX2_afloat_5 ?_
  refine v_iconst (pc := 6) dX2_afloat_6 ic_1 ?_
  refine v_isub (pc := 7) dX2_afloat_7 ?_
  refine v_aload_n (pc := 8) (i := 0) dX2_afloat_8 rfl rfl ?_
  refine gX2_lost (pc := 9) (y := y) hy q_161 dX2_afloat_9 ?_
  refine v_iconst (pc := 12) dX2_afloat_12 ic_m1 ?_
  refine v_ixor (pc := 13) dX2_afloat_13 ?_
  refine v_iand (pc := 14) dX2_afloat_14 ?_
  exact v_iret (pc := 15) dX2_afloat_15
theorem ct_X2_afloat {g : Gt} {ad : Nat → Nat} {y : Nat} (hy : y < 3) : CT g (LX ad) yX2_afloat cX2_afloat 1 (some .int) 1 [.ref (aSea ad y)] iI (wX g ad) (f_X2_afloat y) :=
  ct_of_V (own := RX2) (lv0 := [(0, .ref (aSea ad y))]) (by decide +kernel) rfl (Nat.le_of_ble_eq_true rfl) rfl (fun z σ => vf_X2_afloat z y hy σ)
-- LighthouseLiedTo$Sea.hasRock
theorem dX2_hasRock_0 : decode cX2_hasRock 0 = .ok (.aload_n 0, 1) := by decide +kernel
theorem dX2_hasRock_1 : decode cX2_hasRock 1 = .ok (.getfield 37, 3) := by decide +kernel
theorem dX2_hasRock_4 : decode cX2_hasRock 4 = .ok (.iload_n 1, 1) := by decide +kernel
theorem dX2_hasRock_5 : decode cX2_hasRock 5 = .ok (.lushr, 1) := by decide +kernel
theorem dX2_hasRock_6 : decode cX2_hasRock 6 = .ok (.lconst 1, 1) := by decide +kernel
theorem dX2_hasRock_7 : decode cX2_hasRock 7 = .ok (.land, 1) := by decide +kernel
theorem dX2_hasRock_8 : decode cX2_hasRock 8 = .ok (.lconst 0, 1) := by decide +kernel
theorem dX2_hasRock_9 : decode cX2_hasRock 9 = .ok (.lcmp, 1) := by decide +kernel
theorem dX2_hasRock_10 : decode cX2_hasRock 10 = .ok (.ifCond .eq 7, 3) := by decide +kernel
theorem dX2_hasRock_13 : decode cX2_hasRock 13 = .ok (.iconst 1, 1) := by decide +kernel
theorem dX2_hasRock_14 : decode cX2_hasRock 14 = .ok (.goto 4, 3) := by decide +kernel
theorem dX2_hasRock_17 : decode cX2_hasRock 17 = .ok (.iconst 0, 1) := by decide +kernel
theorem dX2_hasRock_18 : decode cX2_hasRock 18 = .ok (.ireturn, 1) := by decide +kernel
def f_X2_hasRock (y : Nat) (x1 : Int32) (σ : GX) : Option (Int32 × GX) :=
  if (lg_cmp ((usL (xR σ y) x1) &&& (1 : Int64)) (0 : Int64)) = 0 then (some ((0 : Int32), σ)) else (some ((1 : Int32), σ))
theorem vf_X2_hasRock {g : Gt} {ad : Nat → Nat} (z : Zt) (y : Nat) (hy : y < 3) (x1 : Int32) (σ : GX) : V g (LX ad) 1 RX2 cX2_hasRock 2 (some .boolean) (wX g ad) iI z (f_X2_hasRock y x1 σ) σ 0 [(0, .ref (aSea ad y)), (1, .int x1)] [] := by
  unfold f_X2_hasRock
  refine v_aload_n (pc := 0) (i := 0) dX2_hasRock_0 rfl rfl ?_
  refine gX2_rocks (pc := 1) (y := y) hy q_159 dX2_hasRock_1 ?_
  refine v_iload_n (pc := 4) (i := 1) dX2_hasRock_4 rfl rfl ?_
  refine v_lushr (pc := 5) dX2_hasRock_5 ?_
  refine v_lconst (pc := 6) dX2_hasRock_6 lc_1 ?_
  refine v_land (pc := 7) dX2_hasRock_7 ?_
  refine v_lconst (pc := 8) dX2_hasRock_8 lc_0 ?_
  refine v_lcmp (pc := 9) dX2_hasRock_9 ?_
  refine v_if_eq (pc := 10) (tgt := 17) dX2_hasRock_10 rfl ?_ ?_
  · refine v_iconst (pc := 17) dX2_hasRock_17 ic_0 ?_
    exact v_nret (pc := 18) rfl dX2_hasRock_18
  · refine v_iconst (pc := 13) dX2_hasRock_13 ic_1 ?_
    refine v_goto (pc := 14) (tgt := 18) dX2_hasRock_14 rfl ?_
    exact v_nret (pc := 18) rfl dX2_hasRock_18
theorem ct_X2_hasRock {g : Gt} {ad : Nat → Nat} {y : Nat} (hy : y < 3) (x1 : Int32) : CT g (LX ad) yX2_hasRock cX2_hasRock 2 (some .boolean) 1 [.ref (aSea ad y), .int x1] iI (wX g ad) (f_X2_hasRock y x1) :=
  ct_of_V (own := RX2) (lv0 := [(0, .ref (aSea ad y)), (1, .int x1)]) (by decide +kernel) rfl (Nat.le_of_ble_eq_true rfl) rfl (fun z σ => vf_X2_hasRock z y hy x1 σ)
-- LighthouseLiedTo$Sea.hear
theorem dX2_hear_0 : decode cX2_hear 0 = .ok (.iconst 1, 1) := by decide +kernel
theorem dX2_hear_1 : decode cX2_hear 1 = .ok (.aload_n 0, 1) := by decide +kernel
theorem dX2_hear_2 : decode cX2_hear 2 = .ok (.getfield 48, 3) := by decide +kernel
theorem dX2_hear_5 : decode cX2_hear 5 = .ok (.bipush 10, 2) := by decide +kernel
theorem dX2_hear_7 : decode cX2_hear 7 = .ok (.idiv, 1) := by decide +kernel
theorem dX2_hear_8 : decode cX2_hear 8 = .ok (.iadd, 1) := by decide +kernel
theorem dX2_hear_9 : decode cX2_hear 9 = .ok (.istore_n 3, 1) := by decide +kernel
theorem dX2_hear_10 : decode cX2_hear 10 = .ok (.iload_n 3, 1) := by decide +kernel
theorem dX2_hear_11 : decode cX2_hear 11 = .ok (.ifCond .le 9, 3) := by decide +kernel
theorem dX2_hear_14 : decode cX2_hear 14 = .ok (.iload_n 2, 1) := by decide +kernel
theorem dX2_hear_15 : decode cX2_hear 15 = .ok (.iload_n 3, 1) := by decide +kernel
theorem dX2_hear_16 : decode cX2_hear 16 = .ok (.idiv, 1) := by decide +kernel
theorem dX2_hear_17 : decode cX2_hear 17 = .ok (.goto 4, 3) := by decide +kernel
theorem dX2_hear_20 : decode cX2_hear 20 = .ok (.iload_n 2, 1) := by decide +kernel
theorem dX2_hear_21 : decode cX2_hear 21 = .ok (.istore 4, 2) := by decide +kernel
theorem dX2_hear_23 : decode cX2_hear 23 = .ok (.aload_n 0, 1) := by decide +kernel
theorem dX2_hear_24 : decode cX2_hear 24 = .ok (.getfield 9, 3) := by decide +kernel
theorem dX2_hear_27 : decode cX2_hear 27 = .ok (.iload_n 1, 1) := by decide +kernel
theorem dX2_hear_28 : decode cX2_hear 28 = .ok (.iconst 0, 1) := by decide +kernel
theorem dX2_hear_29 : decode cX2_hear 29 = .ok (.bipush 99, 2) := by decide +kernel
theorem dX2_hear_31 : decode cX2_hear 31 = .ok (.aload_n 0, 1) := by decide +kernel
theorem dX2_hear_32 : decode cX2_hear 32 = .ok (.getfield 9, 3) := by decide +kernel
theorem dX2_hear_35 : decode cX2_hear 35 = .ok (.iload_n 1, 1) := by decide +kernel
theorem dX2_hear_36 : decode cX2_hear 36 = .ok (.iaload, 1) := by decide +kernel
theorem dX2_hear_37 : decode cX2_hear 37 = .ok (.iload 4, 2) := by decide +kernel
theorem dX2_hear_39 : decode cX2_hear 39 = .ok (.iadd, 1) := by decide +kernel
theorem dX2_hear_40 : decode cX2_hear 40 = .ok (.invokestatic 68, 3) := by decide +kernel
theorem dX2_hear_43 : decode cX2_hear 43 = .ok (.invokestatic 74, 3) := by decide +kernel
theorem dX2_hear_46 : decode cX2_hear 46 = .ok (.iastore, 1) := by decide +kernel
theorem dX2_hear_47 : decode cX2_hear 47 = .ok (.return_, 1) := by decide +kernel
def b_X2_hear_21 (y : Nat) (x1 : Int32) (xs0 : Int32) (σ : GX) : Option (Unit × GX) :=
  grd x1 36 (grd x1 36 (bnd (some (sB σ y 0 x1.toNatClampNeg (mxI (0 : Int32) (mnI (99 : Int32) ((xB σ y 0 x1.toNatClampNeg) + xs0))))) fun σ2 => some ((), σ2)))
theorem vb_X2_hear_21 {g : Gt} {ad : Nat → Nat} (z : Zt) (y : Nat) (hy : y < 3) (x1 : Int32) (xs0 : Int32) (σ : GX) : V g (LX ad) 1 RX2 cX2_hear 5 none (wX g ad) iU z (b_X2_hear_21 y x1 xs0 σ) σ 21 [(0, .ref (aSea ad y)), (1, .int x1)] [.int xs0] := by
  unfold b_X2_hear_21
  refine v_istore (pc := 21) (lv' := [(4, .int xs0), (0, .ref (aSea ad y)), (1, .int x1)]) (i := 4) dX2_hear_21 (by decide) rfl ?_
  refine v_aload_n (pc := 23) (i := 0) dX2_hear_23 rfl rfl ?_
  refine gX2_belief (pc := 24) (y := y) hy q_148 dX2_hear_24 ?_
  refine v_iload_n (pc := 27) (i := 1) dX2_hear_27 rfl rfl ?_
  refine v_iconst (pc := 28) dX2_hear_28 ic_0 ?_
  refine v_bipush (pc := 29) dX2_hear_29 bp_99 ?_
  refine v_aload_n (pc := 31) (i := 0) dX2_hear_31 rfl rfl ?_
  refine gX2_belief (pc := 32) (y := y) hy q_148 dX2_hear_32 ?_
  refine v_iload_n (pc := 35) (i := 1) dX2_hear_35 rfl rfl ?_
  refine lX_sea0 (pc := 36) (y := y) hy dX2_hear_36 ?_
  refine v_iload (pc := 37) (i := 4) dX2_hear_37 rfl ?_
  refine v_iadd (pc := 39) dX2_hear_39 ?_
  refine v_mmin (pc := 40) q_400 q_401 q_62 q_402 (by decide) (Nat.le_of_ble_eq_true rfl) dX2_hear_40 ?_
  refine v_mmax (pc := 43) q_403 q_404 q_62 q_405 (by decide) (Nat.le_of_ble_eq_true rfl) dX2_hear_43 ?_
  refine sX_sea0 (pc := 46) (y := y) hy dX2_hear_46 ?_
  refine v_nms (fun σ2 => ?_)
  exact v_ret (pc := 47) dX2_hear_47
def f_X2_hear (y : Nat) (x1 : Int32) (x2 : Int32) (σ : GX) : Option (Unit × GX) :=
  bnd (some ((1 : Int32) + ((xS σ y 2) / (10 : Int32)))) fun w1 => if w1 ≤ 0 then (b_X2_hear_21 y x1 x2 σ) else (if ¬ w1 = 0 then (b_X2_hear_21 y x1 (x2 / w1) σ) else none)
theorem vf_X2_hear {g : Gt} {ad : Nat → Nat} (z : Zt) (y : Nat) (hy : y < 3) (x1 : Int32) (x2 : Int32) (σ : GX) : V g (LX ad) 1 RX2 cX2_hear 5 none (wX g ad) iU z (f_X2_hear y x1 x2 σ) σ 0 [(0, .ref (aSea ad y)), (1, .int x1), (2, .int x2)] [] := by
  unfold f_X2_hear
  refine v_iconst (pc := 0) dX2_hear_0 ic_1 ?_
  refine v_aload_n (pc := 1) (i := 0) dX2_hear_1 rfl rfl ?_
  refine gX2_doubt (pc := 2) (y := y) hy q_166 dX2_hear_2 ?_
  refine v_bipush (pc := 5) dX2_hear_5 bp_10 ?_
  refine v_idiv (pc := 7) dX2_hear_7 (by decide) ?_
  refine v_iadd (pc := 8) dX2_hear_8 ?_
  refine v_nmi (fun w1 => ?_)
  refine v_istore_n (pc := 9) (lv' := [(3, .int w1), (0, .ref (aSea ad y)), (1, .int x1), (2, .int x2)]) (i := 3) dX2_hear_9 rfl (by decide) rfl ?_
  refine v_iload_n (pc := 10) (i := 3) dX2_hear_10 rfl rfl ?_
  refine v_if_le (pc := 11) (tgt := 20) dX2_hear_11 rfl ?_ ?_
  · refine v_iload_n (pc := 20) (i := 2) dX2_hear_20 rfl rfl ?_
    exact v_sub [1, 2] rfl (vb_X2_hear_21 z y hy x1 x2 σ)
  · refine v_iload_n (pc := 14) (i := 2) dX2_hear_14 rfl rfl ?_
    refine v_iload_n (pc := 15) (i := 3) dX2_hear_15 rfl rfl ?_
    refine v_idivG (pc := 16) dX2_hear_16 ?_
    refine v_goto (pc := 17) (tgt := 21) dX2_hear_17 rfl ?_
    exact v_sub [1, 2] rfl (vb_X2_hear_21 z y hy x1 (x2 / w1) σ)
theorem ct_X2_hear {g : Gt} {ad : Nat → Nat} {y : Nat} (hy : y < 3) (x1 : Int32) (x2 : Int32) : CT g (LX ad) yX2_hear cX2_hear 5 none 1 [.ref (aSea ad y), .int x1, .int x2] iU (wX g ad) (f_X2_hear y x1 x2) :=
  ct_of_V (own := RX2) (lv0 := [(0, .ref (aSea ad y)), (1, .int x1), (2, .int x2)]) (by decide +kernel) rfl (Nat.le_of_ble_eq_true rfl) rfl (fun z σ => vf_X2_hear z y hy x1 x2 σ)
-- LighthouseLiedTo$Sea.says
theorem dX2_says_0 : decode cX2_says 0 = .ok (.aload_n 0, 1) := by decide +kernel
theorem dX2_says_1 : decode cX2_says 1 = .ok (.getfield 54, 3) := by decide +kernel
theorem dX2_says_4 : decode cX2_says 4 = .ok (.ifCond .lt 27, 3) := by decide +kernel
theorem dX2_says_7 : decode cX2_says 7 = .ok (.aload_n 0, 1) := by decide +kernel
theorem dX2_says_8 : decode cX2_says 8 = .ok (.getfield 54, 3) := by decide +kernel
theorem dX2_says_11 : decode cX2_says 11 = .ok (.aload_n 0, 1) := by decide +kernel
theorem dX2_says_12 : decode cX2_says 12 = .ok (.getfield 27, 3) := by decide +kernel
theorem dX2_says_15 : decode cX2_says 15 = .ok (.arraylength, 1) := by decide +kernel
theorem dX2_says_16 : decode cX2_says 16 = .ok (.if_icmp .ge 15, 3) := by decide +kernel
theorem dX2_says_19 : decode cX2_says 19 = .ok (.aload_n 0, 1) := by decide +kernel
theorem dX2_says_20 : decode cX2_says 20 = .ok (.getfield 27, 3) := by decide +kernel
theorem dX2_says_23 : decode cX2_says 23 = .ok (.aload_n 0, 1) := by decide +kernel
theorem dX2_says_24 : decode cX2_says 24 = .ok (.getfield 54, 3) := by decide +kernel
theorem dX2_says_27 : decode cX2_says 27 = .ok (.aaload, 1) := by decide +kernel
theorem dX2_says_28 : decode cX2_says 28 = .ok (.goto 4, 3) := by decide +kernel
theorem dX2_says_31 : decode cX2_says 31 = .ok (.aconst_null, 1) := by decide +kernel
theorem dX2_says_32 : decode cX2_says 32 = .ok (.astore 4, 2) := by decide +kernel
theorem dX2_says_34 : decode cX2_says 34 = .ok (.aload 4, 2) := by decide +kernel
theorem dX2_says_36 : decode cX2_says 36 = .ok (.ifnonnull 5, 3) := by decide +kernel
theorem dX2_says_39 : decode cX2_says 39 = .ok (.iconst 0, 1) := by decide +kernel
theorem dX2_says_40 : decode cX2_says 40 = .ok (.ireturn, 1) := by decide +kernel
theorem dX2_says_41 : decode cX2_says 41 = .ok (.aload 4, 2) := by decide +kernel
theorem dX2_says_43 : decode cX2_says 43 = .ok (.iload_n 1, 1) := by decide +kernel
theorem dX2_says_44 : decode cX2_says 44 = .ok (.aload_n 0, 1) := by decide +kernel
theorem dX2_says_45 : decode cX2_says 45 = .ok (.iload_n 2, 1) := by decide +kernel
theorem dX2_says_46 : decode cX2_says 46 = .ok (.iload_n 3, 1) := by decide +kernel
theorem dX2_says_47 : decode cX2_says 47 = .ok (.invokevirtual 77, 3) := by decide +kernel
theorem dX2_says_50 : decode cX2_says 50 = .ok (.istore 5, 2) := by decide +kernel
theorem dX2_says_52 : decode cX2_says 52 = .ok (.iload_n 1, 1) := by decide +kernel
theorem dX2_says_53 : decode cX2_says 53 = .ok (.iconst 1, 1) := by decide +kernel
theorem dX2_says_54 : decode cX2_says 54 = .ok (.if_icmp .ne 7, 3) := by decide +kernel
theorem dX2_says_57 : decode cX2_says 57 = .ok (.iconst 0, 1) := by decide +kernel
theorem dX2_says_58 : decode cX2_says 58 = .ok (.goto 5, 3) := by decide +kernel
theorem dX2_says_61 : decode cX2_says 61 = .ok (.bipush (-99), 2) := by decide +kernel
theorem dX2_says_63 : decode cX2_says 63 = .ok (.bipush 99, 2) := by decide +kernel
theorem dX2_says_65 : decode cX2_says 65 = .ok (.iload 5, 2) := by decide +kernel
theorem dX2_says_67 : decode cX2_says 67 = .ok (.invokestatic 68, 3) := by decide +kernel
theorem dX2_says_70 : decode cX2_says 70 = .ok (.invokestatic 74, 3) := by decide +kernel
theorem dX2_says_73 : decode cX2_says 73 = .ok (.ireturn, 1) := by decide +kernel
def b_X2_says_32 (y : Nat) (x1 : Int32) (x2 : Int32) (x3 : Int32) (σ : GX) : Option (Int32 × GX) :=
  some ((0 : Int32), σ)
theorem vb_X2_says_32 {g : Gt} {ad : Nat → Nat} (z : Zt) (y : Nat) (hy : y < 3) (x1 : Int32) (x2 : Int32) (x3 : Int32) (σ : GX) : V g (LX ad) 3 RX2 cX2_says 6 (some .int) (wX g ad) iI z (b_X2_says_32 y x1 x2 x3 σ) σ 32 [(0, .ref (aSea ad y)), (1, .int x1), (2, .int x2), (3, .int x3)] [.null] := by
  unfold b_X2_says_32
  refine v_astoreN (pc := 32) (lv' := [(4, .null), (0, .ref (aSea ad y)), (1, .int x1), (2, .int x2), (3, .int x3)]) (i := 4) dX2_says_32 (by decide) rfl ?_
  refine v_aloadN (pc := 34) (i := 4) dX2_says_34 rfl ?_
  refine v_ifnonnullN (pc := 36) dX2_says_36 ?_
  refine v_iconst (pc := 39) dX2_says_39 ic_0 ?_
  exact v_iret (pc := 40) dX2_says_40
def b_X2_says_63 (y : Nat) (x5 : Int32) (xs0 : Int32) (σ : GX) : Option (Int32 × GX) :=
  some ((mxI xs0 (mnI (99 : Int32) x5)), σ)
theorem vb_X2_says_63 {g : Gt} {ad : Nat → Nat} (z : Zt) (y : Nat) (hy : y < 3) (x5 : Int32) (xs0 : Int32) (σ : GX) : V g (LX ad) 3 RX2 cX2_says 6 (some .int) (wX g ad) iI z (b_X2_says_63 y x5 xs0 σ) σ 63 [(5, .int x5)] [.int xs0] := by
  unfold b_X2_says_63
  refine v_bipush (pc := 63) dX2_says_63 bp_99 ?_
  refine v_iload (pc := 65) (i := 5) dX2_says_65 rfl ?_
  refine v_mmin (pc := 67) q_400 q_401 q_62 q_402 (by decide) (Nat.le_of_ble_eq_true rfl) dX2_says_67 ?_
  refine v_mmax (pc := 70) q_403 q_404 q_62 q_405 (by decide) (Nat.le_of_ble_eq_true rfl) dX2_says_70 ?_
  exact v_iret (pc := 73) dX2_says_73
def b_X2_says_32b (y : Nat) (x1 : Int32) (x2 : Int32) (x3 : Int32) (ns0 : Nat) (σ : GX) : Option (Int32 × GX) :=
  bnd (f_X0_worth ns0 y x1 x2 x3 σ) fun q2 => if x1 ≠ (1 : Int32) then (b_X2_says_63 y q2.1 (-99 : Int32) q2.2) else (b_X2_says_63 y q2.1 (0 : Int32) q2.2)
theorem vb_X2_says_32b {g : Gt} {ad : Nat → Nat} (z : Zt) (y : Nat) (hy : y < 3) (x1 : Int32) (x2 : Int32) (x3 : Int32) (ns0 : Nat) (hns0 : ns0 < 6) (σ : GX) : V g (LX ad) 3 RX2 cX2_says 6 (some .int) (wX g ad) iI z (b_X2_says_32b y x1 x2 x3 ns0 σ) σ 32 [(0, .ref (aSea ad y)), (1, .int x1), (2, .int x2), (3, .int x3)] [.ref (aLaw ad ns0)] := by
  unfold b_X2_says_32b
  refine v_astore (pc := 32) (lv' := [(4, .ref (aLaw ad ns0)), (0, .ref (aSea ad y)), (1, .int x1), (2, .int x2), (3, .int x3)]) (i := 4) dX2_says_32 (by decide) rfl ?_
  refine v_aload (pc := 34) (i := 4) dX2_says_34 rfl ?_
  refine v_ifnonnull (pc := 36) (tgt := 41) dX2_says_36 rfl ?_
  refine v_aload (pc := 41) (i := 4) dX2_says_41 rfl ?_
  refine v_iload_n (pc := 43) (i := 1) dX2_says_43 rfl rfl ?_
  refine v_aload_n (pc := 44) (i := 0) dX2_says_44 rfl rfl ?_
  refine v_iload_n (pc := 45) (i := 2) dX2_says_45 rfl rfl ?_
  refine v_iload_n (pc := 46) (i := 3) dX2_says_46 rfl rfl ?_
  refine v_callVi (pc := 47) (rcX0 hns0) (As := [.int x1, .ref (aSea ad y), .int x2, .int x3]) (rest := []) (ct_X0_worth hns0 hy x1 x2 x3) mi_X0_worth q_441 (by decide) rfl rfl (Nat.le_of_ble_eq_true rfl) dX2_says_47 (fun q2 => ?_)
  refine v_istore (pc := 50) (lv' := [(5, .int q2.1), (4, .ref (aLaw ad ns0)), (0, .ref (aSea ad y)), (1, .int x1), (2, .int x2), (3, .int x3)]) (i := 5) dX2_says_50 (by decide) rfl ?_
  refine v_iload_n (pc := 52) (i := 1) dX2_says_52 rfl rfl ?_
  refine v_iconst (pc := 53) dX2_says_53 ic_1 ?_
  refine v_icmp_ne (pc := 54) (tgt := 61) dX2_says_54 rfl ?_ ?_
  · refine v_bipush (pc := 61) dX2_says_61 bp_m99 ?_
    exact v_sub [0] rfl (vb_X2_says_63 z y hy q2.1 (-99 : Int32) q2.2)
  · refine v_iconst (pc := 57) dX2_says_57 ic_0 ?_
    refine v_goto (pc := 58) (tgt := 63) dX2_says_58 rfl ?_
    exact v_sub [0] rfl (vb_X2_says_63 z y hy q2.1 (0 : Int32) q2.2)
def f_X2_says (y : Nat) (x1 : Int32) (x2 : Int32) (x3 : Int32) (σ : GX) : Option (Int32 × GX) :=
  if (xS σ y 4) < 0 then (b_X2_says_32 y x1 x2 x3 σ) else (if (6 : Int32) ≤ (xS σ y 4) then (b_X2_says_32 y x1 x2 x3 σ) else (grd (xS σ y 4) 6 (b_X2_says_32b y x1 x2 x3 (((xS σ y 4).toNatClampNeg)) σ)))
theorem vf_X2_says {g : Gt} {ad : Nat → Nat} (z : Zt) (y : Nat) (hy : y < 3) (x1 : Int32) (x2 : Int32) (x3 : Int32) (σ : GX) : V g (LX ad) 3 RX2 cX2_says 6 (some .int) (wX g ad) iI z (f_X2_says y x1 x2 x3 σ) σ 0 [(0, .ref (aSea ad y)), (1, .int x1), (2, .int x2), (3, .int x3)] [] := by
  unfold f_X2_says
  refine v_aload_n (pc := 0) (i := 0) dX2_says_0 rfl rfl ?_
  refine gX2_law (pc := 1) (y := y) hy q_172 dX2_says_1 ?_
  refine v_if_lt (pc := 4) (tgt := 31) dX2_says_4 rfl ?_ ?_
  · refine v_aconst_null (pc := 31) dX2_says_31 ?_
    exact v_sub [0, 1, 2, 3] rfl (vb_X2_says_32 z y hy x1 x2 x3 σ)
  · refine v_aload_n (pc := 7) (i := 0) dX2_says_7 rfl rfl ?_
    refine gX2_law (pc := 8) (y := y) hy q_172 dX2_says_8 ?_
    refine v_aload_n (pc := 11) (i := 0) dX2_says_11 rfl rfl ?_
    refine gX2_texts (pc := 12) (y := y) hy q_147 dX2_says_12 ?_
    refine nX_texts (pc := 15) (v := (6 : Int32)) rfl dX2_says_15 ?_
    refine v_icmp_ge (pc := 16) (tgt := 31) dX2_says_16 rfl ?_ ?_
    · refine v_aconst_null (pc := 31) dX2_says_31 ?_
      exact v_sub [0, 1, 2, 3] rfl (vb_X2_says_32 z y hy x1 x2 x3 σ)
    · refine v_aload_n (pc := 19) (i := 0) dX2_says_19 rfl rfl ?_
      refine gX2_texts (pc := 20) (y := y) hy q_147 dX2_says_20 ?_
      refine v_aload_n (pc := 23) (i := 0) dX2_says_23 rfl rfl ?_
      refine gX2_law (pc := 24) (y := y) hy q_172 dX2_says_24 ?_
      refine aX_texts (pc := 27) dX2_says_27 (fun ha1 => ?_)
      refine v_goto (pc := 28) (tgt := 32) dX2_says_28 rfl ?_
      exact v_sub [0, 1, 2, 3] rfl (vb_X2_says_32b z y hy x1 x2 x3 (((xS σ y 4).toNatClampNeg)) ha1 σ)
theorem ct_X2_says {g : Gt} {ad : Nat → Nat} {y : Nat} (hy : y < 3) (x1 : Int32) (x2 : Int32) (x3 : Int32) : CT g (LX ad) yX2_says cX2_says 6 (some .int) 3 [.ref (aSea ad y), .int x1, .int x2, .int x3] iI (wX g ad) (f_X2_says y x1 x2 x3) :=
  ct_of_V (own := RX2) (lv0 := [(0, .ref (aSea ad y)), (1, .int x1), (2, .int x2), (3, .int x3)]) (by decide +kernel) rfl (Nat.le_of_ble_eq_true rfl) rfl (fun z σ => vf_X2_says z y hy x1 x2 x3 σ)
-- LighthouseLiedTo$Sea.launch
theorem dX2_launch_0 : decode cX2_launch 0 = .ok (.aload_n 0, 1) := by decide +kernel
theorem dX2_launch_1 : decode cX2_launch 1 = .ok (.getfield 45, 3) := by decide +kernel
theorem dX2_launch_4 : decode cX2_launch 4 = .ok (.istore_n 3, 1) := by decide +kernel
theorem dX2_launch_5 : decode cX2_launch 5 = .ok (.iload_n 3, 1) := by decide +kernel
theorem dX2_launch_6 : decode cX2_launch 6 = .ok (.ifCond .lt 9, 3) := by decide +kernel
theorem dX2_launch_9 : decode cX2_launch 9 = .ok (.iload_n 3, 1) := by decide +kernel
theorem dX2_launch_10 : decode cX2_launch 10 = .ok (.bipush 6, 2) := by decide +kernel
theorem dX2_launch_12 : decode cX2_launch 12 = .ok (.if_icmp .lt 6, 3) := by decide +kernel
theorem dX2_launch_15 : decode cX2_launch 15 = .ok (.bipush (-4), 2) := by decide +kernel
theorem dX2_launch_17 : decode cX2_launch 17 = .ok (.ireturn, 1) := by decide +kernel
theorem dX2_launch_18 : decode cX2_launch 18 = .ok (.aload_n 0, 1) := by decide +kernel
theorem dX2_launch_19 : decode cX2_launch 19 = .ok (.getfield 15, 3) := by decide +kernel
theorem dX2_launch_22 : decode cX2_launch 22 = .ok (.iload_n 3, 1) := by decide +kernel
theorem dX2_launch_23 : decode cX2_launch 23 = .ok (.iload_n 1, 1) := by decide +kernel
theorem dX2_launch_24 : decode cX2_launch 24 = .ok (.bipush 10, 2) := by decide +kernel
theorem dX2_launch_26 : decode cX2_launch 26 = .ok (.idiv, 1) := by decide +kernel
theorem dX2_launch_27 : decode cX2_launch 27 = .ok (.iastore, 1) := by decide +kernel
theorem dX2_launch_28 : decode cX2_launch 28 = .ok (.aload_n 0, 1) := by decide +kernel
theorem dX2_launch_29 : decode cX2_launch 29 = .ok (.getfield 18, 3) := by decide +kernel
theorem dX2_launch_32 : decode cX2_launch 32 = .ok (.iload_n 3, 1) := by decide +kernel
theorem dX2_launch_33 : decode cX2_launch 33 = .ok (.iload_n 1, 1) := by decide +kernel
theorem dX2_launch_34 : decode cX2_launch 34 = .ok (.bipush 10, 2) := by decide +kernel
theorem dX2_launch_36 : decode cX2_launch 36 = .ok (.irem, 1) := by decide +kernel
theorem dX2_launch_37 : decode cX2_launch 37 = .ok (.iastore, 1) := by decide +kernel
theorem dX2_launch_38 : decode cX2_launch 38 = .ok (.aload_n 0, 1) := by decide +kernel
theorem dX2_launch_39 : decode cX2_launch 39 = .ok (.getfield 21, 3) := by decide +kernel
theorem dX2_launch_42 : decode cX2_launch 42 = .ok (.iload_n 3, 1) := by decide +kernel
theorem dX2_launch_43 : decode cX2_launch 43 = .ok (.iload_n 2, 1) := by decide +kernel
theorem dX2_launch_44 : decode cX2_launch 44 = .ok (.bipush 100, 2) := by decide +kernel
theorem dX2_launch_46 : decode cX2_launch 46 = .ok (.idiv, 1) := by decide +kernel
theorem dX2_launch_47 : decode cX2_launch 47 = .ok (.iastore, 1) := by decide +kernel
theorem dX2_launch_48 : decode cX2_launch 48 = .ok (.aload_n 0, 1) := by decide +kernel
theorem dX2_launch_49 : decode cX2_launch 49 = .ok (.getfield 24, 3) := by decide +kernel
theorem dX2_launch_52 : decode cX2_launch 52 = .ok (.iload_n 3, 1) := by decide +kernel
theorem dX2_launch_53 : decode cX2_launch 53 = .ok (.iload_n 2, 1) := by decide +kernel
theorem dX2_launch_54 : decode cX2_launch 54 = .ok (.bipush 100, 2) := by decide +kernel
theorem dX2_launch_56 : decode cX2_launch 56 = .ok (.irem, 1) := by decide +kernel
theorem dX2_launch_57 : decode cX2_launch 57 = .ok (.iastore, 1) := by decide +kernel
theorem dX2_launch_58 : decode cX2_launch 58 = .ok (.aload_n 0, 1) := by decide +kernel
theorem dX2_launch_59 : decode cX2_launch 59 = .ok (.dup, 1) := by decide +kernel
theorem dX2_launch_60 : decode cX2_launch 60 = .ok (.getfield 41, 3) := by decide +kernel
theorem dX2_launch_63 : decode cX2_launch 63 = .ok (.iconst 1, 1) := by decide +kernel
theorem dX2_launch_64 : decode cX2_launch 64 = .ok (.iload_n 3, 1) := by decide +kernel
theorem dX2_launch_65 : decode cX2_launch 65 = .ok (.ishl, 1) := by decide +kernel
theorem dX2_launch_66 : decode cX2_launch 66 = .ok (.iconst (-1), 1) := by decide +kernel
theorem dX2_launch_67 : decode cX2_launch 67 = .ok (.ixor, 1) := by decide +kernel
theorem dX2_launch_68 : decode cX2_launch 68 = .ok (.iand, 1) := by decide +kernel
theorem dX2_launch_69 : decode cX2_launch 69 = .ok (.putfield 41, 3) := by decide +kernel
theorem dX2_launch_72 : decode cX2_launch 72 = .ok (.aload_n 0, 1) := by decide +kernel
theorem dX2_launch_73 : decode cX2_launch 73 = .ok (.dup, 1) := by decide +kernel
theorem dX2_launch_74 : decode cX2_launch 74 = .ok (.getfield 45, 3) := by decide +kernel
theorem dX2_launch_77 : decode cX2_launch 77 = .ok (.iconst 1, 1) := by decide +kernel
theorem dX2_launch_78 : decode cX2_launch 78 = .ok (.iadd, 1) := by decide +kernel
theorem dX2_launch_79 : decode cX2_launch 79 = .ok (.putfield 45, 3) := by decide +kernel
theorem dX2_launch_82 : decode cX2_launch 82 = .ok (.iload_n 3, 1) := by decide +kernel
theorem dX2_launch_83 : decode cX2_launch 83 = .ok (.ireturn, 1) := by decide +kernel
def f_X2_launch (y : Nat) (x1 : Int32) (x2 : Int32) (σ : GX) : Option (Int32 × GX) :=
  bnd (some (xS σ y 1)) fun w1 => if w1 < 0 then (some ((-4 : Int32), σ)) else (if w1 < (6 : Int32) then (grd w1 6 (bnd (some (sB σ y 1 w1.toNatClampNeg (x1 / (10 : Int32)))) fun σ2 => grd w1 6 (bnd (some (sB σ2 y 2 w1.toNatClampNeg (rI x1 (10 : Int32)))) fun σ3 => grd w1 6 (bnd (some (sB σ3 y 3 w1.toNatClampNeg (x2 / (100 : Int32)))) fun σ4 => grd w1 6 (bnd (some (sB σ4 y 4 w1.toNatClampNeg (rI x2 (100 : Int32)))) fun σ5 => bnd (some (sS σ5 y 0 ((xS σ5 y 0) &&& ((slI (1 : Int32) w1) ^^^ (-1 : Int32))))) fun σ6 => bnd (some (sS σ6 y 1 ((xS σ6 y 1) + (1 : Int32)))) fun σ7 => some (w1, σ7)))))) else (some ((-4 : Int32), σ)))
theorem vf_X2_launch {g : Gt} {ad : Nat → Nat} (z : Zt) (y : Nat) (hy : y < 3) (x1 : Int32) (x2 : Int32) (σ : GX) : V g (LX ad) 1 RX2 cX2_launch 4 (some .int) (wX g ad) iI z (f_X2_launch y x1 x2 σ) σ 0 [(0, .ref (aSea ad y)), (1, .int x1), (2, .int x2)] [] := by
  unfold f_X2_launch
  refine v_aload_n (pc := 0) (i := 0) dX2_launch_0 rfl rfl ?_
  refine gX2_ships (pc := 1) (y := y) hy q_164 dX2_launch_1 ?_
  refine v_nmi (fun w1 => ?_)
  refine v_istore_n (pc := 4) (lv' := [(3, .int w1), (0, .ref (aSea ad y)), (1, .int x1), (2, .int x2)]) (i := 3) dX2_launch_4 rfl (by decide) rfl ?_
  refine v_iload_n (pc := 5) (i := 3) dX2_launch_5 rfl rfl ?_
  refine v_if_lt (pc := 6) (tgt := 15) dX2_launch_6 rfl ?_ ?_
  · refine v_bipush (pc := 15) dX2_launch_15 bp_m4 ?_
    exact v_iret (pc := 17) dX2_launch_17
  · refine v_iload_n (pc := 9) (i := 3) dX2_launch_9 rfl rfl ?_
    refine v_bipush (pc := 10) dX2_launch_10 bp_6 ?_
    refine v_icmp_lt (pc := 12) (tgt := 18) dX2_launch_12 rfl ?_ ?_
    · refine v_aload_n (pc := 18) (i := 0) dX2_launch_18 rfl rfl ?_
      refine gX2_kind (pc := 19) (y := y) hy q_151 dX2_launch_19 ?_
      refine v_iload_n (pc := 22) (i := 3) dX2_launch_22 rfl rfl ?_
      refine v_iload_n (pc := 23) (i := 1) dX2_launch_23 rfl rfl ?_
      refine v_bipush (pc := 24) dX2_launch_24 bp_10 ?_
      refine v_idiv (pc := 26) dX2_launch_26 (by decide) ?_
      refine sX_sea1 (pc := 27) (y := y) hy dX2_launch_27 ?_
      refine v_nms (fun σ2 => ?_)
      refine v_aload_n (pc := 28) (i := 0) dX2_launch_28 rfl rfl ?_
      refine gX2_more (pc := 29) (y := y) hy q_153 dX2_launch_29 ?_
      refine v_iload_n (pc := 32) (i := 3) dX2_launch_32 rfl rfl ?_
      refine v_iload_n (pc := 33) (i := 1) dX2_launch_33 rfl rfl ?_
      refine v_bipush (pc := 34) dX2_launch_34 bp_10 ?_
      refine v_irem (pc := 36) dX2_launch_36 (by decide) ?_
      refine sX_sea2 (pc := 37) (y := y) hy dX2_launch_37 ?_
      refine v_nms (fun σ3 => ?_)
      refine v_aload_n (pc := 38) (i := 0) dX2_launch_38 rfl rfl ?_
      refine gX2_cell (pc := 39) (y := y) hy q_155 dX2_launch_39 ?_
      refine v_iload_n (pc := 42) (i := 3) dX2_launch_42 rfl rfl ?_
      refine v_iload_n (pc := 43) (i := 2) dX2_launch_43 rfl rfl ?_
      refine v_bipush (pc := 44) dX2_launch_44 bp_100 ?_
      refine v_idiv (pc := 46) dX2_launch_46 (by decide) ?_
      refine sX_sea3 (pc := 47) (y := y) hy dX2_launch_47 ?_
      refine v_nms (fun σ4 => ?_)
      refine v_aload_n (pc := 48) (i := 0) dX2_launch_48 rfl rfl ?_
      refine gX2_draught (pc := 49) (y := y) hy q_157 dX2_launch_49 ?_
      refine v_iload_n (pc := 52) (i := 3) dX2_launch_52 rfl rfl ?_
      refine v_iload_n (pc := 53) (i := 2) dX2_launch_53 rfl rfl ?_
      refine v_bipush (pc := 54) dX2_launch_54 bp_100 ?_
      refine v_irem (pc := 56) dX2_launch_56 (by decide) ?_
      refine sX_sea4 (pc := 57) (y := y) hy dX2_launch_57 ?_
      refine v_nms (fun σ5 => ?_)
      refine v_aload_n (pc := 58) (i := 0) dX2_launch_58 rfl rfl ?_
      refine v_dup (pc := 59) dX2_launch_59 rfl ?_
      refine gX2_lost (pc := 60) (y := y) hy q_161 dX2_launch_60 ?_
      refine v_iconst (pc := 63) dX2_launch_63 ic_1 ?_
      refine v_iload_n (pc := 64) (i := 3) dX2_launch_64 rfl rfl ?_
      refine v_ishl (pc := 65) dX2_launch_65 ?_
      refine v_iconst (pc := 66) dX2_launch_66 ic_m1 ?_
      refine v_ixor (pc := 67) dX2_launch_67 ?_
      refine v_iand (pc := 68) dX2_launch_68 ?_
      refine pX2_lost (pc := 69) (y := y) hy q_161 dX2_launch_69 ?_
      refine v_nms (fun σ6 => ?_)
      refine v_aload_n (pc := 72) (i := 0) dX2_launch_72 rfl rfl ?_
      refine v_dup (pc := 73) dX2_launch_73 rfl ?_
      refine gX2_ships (pc := 74) (y := y) hy q_164 dX2_launch_74 ?_
      refine v_iconst (pc := 77) dX2_launch_77 ic_1 ?_
      refine v_iadd (pc := 78) dX2_launch_78 ?_
      refine pX2_ships (pc := 79) (y := y) hy q_164 dX2_launch_79 ?_
      refine v_nms (fun σ7 => ?_)
      refine v_iload_n (pc := 82) (i := 3) dX2_launch_82 rfl rfl ?_
      exact v_iret (pc := 83) dX2_launch_83
    · refine v_bipush (pc := 15) dX2_launch_15 bp_m4 ?_
      exact v_iret (pc := 17) dX2_launch_17
theorem ct_X2_launch {g : Gt} {ad : Nat → Nat} {y : Nat} (hy : y < 3) (x1 : Int32) (x2 : Int32) : CT g (LX ad) yX2_launch cX2_launch 4 (some .int) 1 [.ref (aSea ad y), .int x1, .int x2] iI (wX g ad) (f_X2_launch y x1 x2) :=
  ct_of_V (own := RX2) (lv0 := [(0, .ref (aSea ad y)), (1, .int x1), (2, .int x2)]) (by decide +kernel) rfl (Nat.le_of_ble_eq_true rfl) rfl (fun z σ => vf_X2_launch z y hy x1 x2 σ)
-- LighthouseLiedTo$Sea.isLost
theorem dX2_isLost_0 : decode cX2_isLost 0 = .ok (.aload_n 0, 1) := by decide +kernel
theorem dX2_isLost_1 : decode cX2_isLost 1 = .ok (.getfield 41, 3) := by decide +kernel
theorem dX2_isLost_4 : decode cX2_isLost 4 = .ok (.iload_n 1, 1) := by decide +kernel
theorem dX2_isLost_5 : decode cX2_isLost 5 = .ok (.iushr, 1) := by decide +kernel
theorem dX2_isLost_6 : decode cX2_isLost 6 = .ok (.iconst 1, 1) := by decide +kernel
theorem dX2_isLost_7 : decode cX2_isLost 7 = .ok (.iand, 1) := by decide +kernel
theorem dX2_isLost_8 : decode cX2_isLost 8 = .ok (.ifCond .eq 7, 3) := by decide +kernel
theorem dX2_isLost_11 : decode cX2_isLost 11 = .ok (.iconst 1, 1) := by decide +kernel
theorem dX2_isLost_12 : decode cX2_isLost 12 = .ok (.goto 4, 3) := by decide +kernel
theorem dX2_isLost_15 : decode cX2_isLost 15 = .ok (.iconst 0, 1) := by decide +kernel
theorem dX2_isLost_16 : decode cX2_isLost 16 = .ok (.ireturn, 1) := by decide +kernel
def f_X2_isLost (y : Nat) (x1 : Int32) (σ : GX) : Option (Int32 × GX) :=
  if ((usI (xS σ y 0) x1) &&& (1 : Int32)) = 0 then (some ((0 : Int32), σ)) else (some ((1 : Int32), σ))
theorem vf_X2_isLost {g : Gt} {ad : Nat → Nat} (z : Zt) (y : Nat) (hy : y < 3) (x1 : Int32) (σ : GX) : V g (LX ad) 1 RX2 cX2_isLost 2 (some .boolean) (wX g ad) iI z (f_X2_isLost y x1 σ) σ 0 [(0, .ref (aSea ad y)), (1, .int x1)] [] := by
  unfold f_X2_isLost
  refine v_aload_n (pc := 0) (i := 0) dX2_isLost_0 rfl rfl ?_
  refine gX2_lost (pc := 1) (y := y) hy q_161 dX2_isLost_1 ?_
  refine v_iload_n (pc := 4) (i := 1) dX2_isLost_4 rfl rfl ?_
  refine v_iushr (pc := 5) dX2_isLost_5 ?_
  refine v_iconst (pc := 6) dX2_isLost_6 ic_1 ?_
  refine v_iand (pc := 7) dX2_isLost_7 ?_
  refine v_if_eq (pc := 8) (tgt := 15) dX2_isLost_8 rfl ?_ ?_
  · refine v_iconst (pc := 15) dX2_isLost_15 ic_0 ?_
    exact v_nret (pc := 16) rfl dX2_isLost_16
  · refine v_iconst (pc := 11) dX2_isLost_11 ic_1 ?_
    refine v_goto (pc := 12) (tgt := 16) dX2_isLost_12 rfl ?_
    exact v_nret (pc := 16) rfl dX2_isLost_16
theorem ct_X2_isLost {g : Gt} {ad : Nat → Nat} {y : Nat} (hy : y < 3) (x1 : Int32) : CT g (LX ad) yX2_isLost cX2_isLost 2 (some .boolean) 1 [.ref (aSea ad y), .int x1] iI (wX g ad) (f_X2_isLost y x1) :=
  ct_of_V (own := RX2) (lv0 := [(0, .ref (aSea ad y)), (1, .int x1)]) (by decide +kernel) rfl (Nat.le_of_ble_eq_true rfl) rfl (fun z σ => vf_X2_isLost z y hy x1 σ)
-- LighthouseLiedTo$Sea.liking
theorem dX2_liking_0 : decode cX2_liking 0 = .ok (.iload_n 2, 1) := by decide +kernel
theorem dX2_liking_1 : decode cX2_liking 1 = .ok (.bipush 6, 2) := by decide +kernel
theorem dX2_liking_3 : decode cX2_liking 3 = .ok (.idiv, 1) := by decide +kernel
theorem dX2_liking_4 : decode cX2_liking 4 = .ok (.aload_n 0, 1) := by decide +kernel
theorem dX2_liking_5 : decode cX2_liking 5 = .ok (.getfield 18, 3) := by decide +kernel
theorem dX2_liking_8 : decode cX2_liking 8 = .ok (.iload_n 1, 1) := by decide +kernel
theorem dX2_liking_9 : decode cX2_liking 9 = .ok (.iaload, 1) := by decide +kernel
theorem dX2_liking_10 : decode cX2_liking 10 = .ok (.bipush 6, 2) := by decide +kernel
theorem dX2_liking_12 : decode cX2_liking 12 = .ok (.irem, 1) := by decide +kernel
theorem dX2_liking_13 : decode cX2_liking 13 = .ok (.if_icmp .ne 8, 3) := by decide +kernel
theorem dX2_liking_16 : decode cX2_liking 16 = .ok (.bipush 20, 2) := by decide +kernel
theorem dX2_liking_18 : decode cX2_liking 18 = .ok (.goto 4, 3) := by decide +kernel
theorem dX2_liking_21 : decode cX2_liking 21 = .ok (.iconst 0, 1) := by decide +kernel
theorem dX2_liking_22 : decode cX2_liking 22 = .ok (.istore_n 3, 1) := by decide +kernel
theorem dX2_liking_23 : decode cX2_liking 23 = .ok (.aload_n 0, 1) := by decide +kernel
theorem dX2_liking_24 : decode cX2_liking 24 = .ok (.getfield 15, 3) := by decide +kernel
theorem dX2_liking_27 : decode cX2_liking 27 = .ok (.iload_n 1, 1) := by decide +kernel
theorem dX2_liking_28 : decode cX2_liking 28 = .ok (.iaload, 1) := by decide +kernel
theorem dX2_liking_29 : decode cX2_liking 29 = .ok (.tableswitch 153 1 5 #[35, 61, 76, 102, 120], 35) := by decide +kernel
theorem dX2_liking_64 : decode cX2_liking 64 = .ok (.aload_n 0, 1) := by decide +kernel
theorem dX2_liking_65 : decode cX2_liking 65 = .ok (.iconst 0, 1) := by decide +kernel
theorem dX2_liking_66 : decode cX2_liking 66 = .ok (.iload_n 2, 1) := by decide +kernel
theorem dX2_liking_67 : decode cX2_liking 67 = .ok (.aload_n 0, 1) := by decide +kernel
theorem dX2_liking_68 : decode cX2_liking 68 = .ok (.getfield 24, 3) := by decide +kernel
theorem dX2_liking_71 : decode cX2_liking 71 = .ok (.iload_n 1, 1) := by decide +kernel
theorem dX2_liking_72 : decode cX2_liking 72 = .ok (.iaload, 1) := by decide +kernel
theorem dX2_liking_73 : decode cX2_liking 73 = .ok (.invokevirtual 61, 3) := by decide +kernel
theorem dX2_liking_76 : decode cX2_liking 76 = .ok (.aload_n 0, 1) := by decide +kernel
theorem dX2_liking_77 : decode cX2_liking 77 = .ok (.iconst 2, 1) := by decide +kernel
theorem dX2_liking_78 : decode cX2_liking 78 = .ok (.iload_n 2, 1) := by decide +kernel
theorem dX2_liking_79 : decode cX2_liking 79 = .ok (.aload_n 0, 1) := by decide +kernel
theorem dX2_liking_80 : decode cX2_liking 80 = .ok (.getfield 24, 3) := by decide +kernel
theorem dX2_liking_83 : decode cX2_liking 83 = .ok (.iload_n 1, 1) := by decide +kernel
theorem dX2_liking_84 : decode cX2_liking 84 = .ok (.iaload, 1) := by decide +kernel
theorem dX2_liking_85 : decode cX2_liking 85 = .ok (.invokevirtual 61, 3) := by decide +kernel
theorem dX2_liking_88 : decode cX2_liking 88 = .ok (.isub, 1) := by decide +kernel
theorem dX2_liking_89 : decode cX2_liking 89 = .ok (.ireturn, 1) := by decide +kernel
theorem dX2_liking_90 : decode cX2_liking 90 = .ok (.aload_n 0, 1) := by decide +kernel
theorem dX2_liking_91 : decode cX2_liking 91 = .ok (.iconst 0, 1) := by decide +kernel
theorem dX2_liking_92 : decode cX2_liking 92 = .ok (.iload_n 2, 1) := by decide +kernel
theorem dX2_liking_93 : decode cX2_liking 93 = .ok (.aload_n 0, 1) := by decide +kernel
theorem dX2_liking_94 : decode cX2_liking 94 = .ok (.getfield 24, 3) := by decide +kernel
theorem dX2_liking_97 : decode cX2_liking 97 = .ok (.iload_n 1, 1) := by decide +kernel
theorem dX2_liking_98 : decode cX2_liking 98 = .ok (.iaload, 1) := by decide +kernel
theorem dX2_liking_99 : decode cX2_liking 99 = .ok (.invokevirtual 61, 3) := by decide +kernel
theorem dX2_liking_102 : decode cX2_liking 102 = .ok (.iload_n 3, 1) := by decide +kernel
theorem dX2_liking_103 : decode cX2_liking 103 = .ok (.iadd, 1) := by decide +kernel
theorem dX2_liking_104 : decode cX2_liking 104 = .ok (.ireturn, 1) := by decide +kernel
theorem dX2_liking_105 : decode cX2_liking 105 = .ok (.aload_n 0, 1) := by decide +kernel
theorem dX2_liking_106 : decode cX2_liking 106 = .ok (.iconst 2, 1) := by decide +kernel
theorem dX2_liking_107 : decode cX2_liking 107 = .ok (.iload_n 2, 1) := by decide +kernel
theorem dX2_liking_108 : decode cX2_liking 108 = .ok (.aload_n 0, 1) := by decide +kernel
theorem dX2_liking_109 : decode cX2_liking 109 = .ok (.getfield 24, 3) := by decide +kernel
theorem dX2_liking_112 : decode cX2_liking 112 = .ok (.iload_n 1, 1) := by decide +kernel
theorem dX2_liking_113 : decode cX2_liking 113 = .ok (.iaload, 1) := by decide +kernel
theorem dX2_liking_114 : decode cX2_liking 114 = .ok (.invokevirtual 61, 3) := by decide +kernel
theorem dX2_liking_117 : decode cX2_liking 117 = .ok (.aload_n 0, 1) := by decide +kernel
theorem dX2_liking_118 : decode cX2_liking 118 = .ok (.iconst 0, 1) := by decide +kernel
theorem dX2_liking_119 : decode cX2_liking 119 = .ok (.iload_n 2, 1) := by decide +kernel
theorem dX2_liking_120 : decode cX2_liking 120 = .ok (.aload_n 0, 1) := by decide +kernel
theorem dX2_liking_121 : decode cX2_liking 121 = .ok (.getfield 24, 3) := by decide +kernel
theorem dX2_liking_124 : decode cX2_liking 124 = .ok (.iload_n 1, 1) := by decide +kernel
theorem dX2_liking_125 : decode cX2_liking 125 = .ok (.iaload, 1) := by decide +kernel
theorem dX2_liking_126 : decode cX2_liking 126 = .ok (.invokevirtual 61, 3) := by decide +kernel
theorem dX2_liking_129 : decode cX2_liking 129 = .ok (.isub, 1) := by decide +kernel
theorem dX2_liking_130 : decode cX2_liking 130 = .ok (.ireturn, 1) := by decide +kernel
theorem dX2_liking_131 : decode cX2_liking 131 = .ok (.aload_n 0, 1) := by decide +kernel
theorem dX2_liking_132 : decode cX2_liking 132 = .ok (.iconst 0, 1) := by decide +kernel
theorem dX2_liking_133 : decode cX2_liking 133 = .ok (.iload_n 2, 1) := by decide +kernel
theorem dX2_liking_134 : decode cX2_liking 134 = .ok (.aload_n 0, 1) := by decide +kernel
theorem dX2_liking_135 : decode cX2_liking 135 = .ok (.getfield 24, 3) := by decide +kernel
theorem dX2_liking_138 : decode cX2_liking 138 = .ok (.iload_n 1, 1) := by decide +kernel
theorem dX2_liking_139 : decode cX2_liking 139 = .ok (.iaload, 1) := by decide +kernel
theorem dX2_liking_140 : decode cX2_liking 140 = .ok (.invokevirtual 61, 3) := by decide +kernel
theorem dX2_liking_143 : decode cX2_liking 143 = .ok (.iload_n 3, 1) := by decide +kernel
theorem dX2_liking_144 : decode cX2_liking 144 = .ok (.iadd, 1) := by decide +kernel
theorem dX2_liking_145 : decode cX2_liking 145 = .ok (.bipush 10, 2) := by decide +kernel
theorem dX2_liking_147 : decode cX2_liking 147 = .ok (.idiv, 1) := by decide +kernel
theorem dX2_liking_148 : decode cX2_liking 148 = .ok (.ireturn, 1) := by decide +kernel
theorem dX2_liking_149 : decode cX2_liking 149 = .ok (.iload_n 2, 1) := by decide +kernel
theorem dX2_liking_150 : decode cX2_liking 150 = .ok (.iconst 4, 1) := by decide +kernel
theorem dX2_liking_151 : decode cX2_liking 151 = .ok (.aload_n 0, 1) := by decide +kernel
theorem dX2_liking_152 : decode cX2_liking 152 = .ok (.getfield 18, 3) := by decide +kernel
theorem dX2_liking_155 : decode cX2_liking 155 = .ok (.iload_n 1, 1) := by decide +kernel
theorem dX2_liking_156 : decode cX2_liking 156 = .ok (.iaload, 1) := by decide +kernel
theorem dX2_liking_157 : decode cX2_liking 157 = .ok (.imul, 1) := by decide +kernel
theorem dX2_liking_158 : decode cX2_liking 158 = .ok (.bipush 36, 2) := by decide +kernel
theorem dX2_liking_160 : decode cX2_liking 160 = .ok (.irem, 1) := by decide +kernel
theorem dX2_liking_161 : decode cX2_liking 161 = .ok (.if_icmp .ne 8, 3) := by decide +kernel
theorem dX2_liking_164 : decode cX2_liking 164 = .ok (.bipush 99, 2) := by decide +kernel
theorem dX2_liking_166 : decode cX2_liking 166 = .ok (.goto 15, 3) := by decide +kernel
theorem dX2_liking_169 : decode cX2_liking 169 = .ok (.aload_n 0, 1) := by decide +kernel
theorem dX2_liking_170 : decode cX2_liking 170 = .ok (.iconst 2, 1) := by decide +kernel
theorem dX2_liking_171 : decode cX2_liking 171 = .ok (.iload_n 2, 1) := by decide +kernel
theorem dX2_liking_172 : decode cX2_liking 172 = .ok (.aload_n 0, 1) := by decide +kernel
theorem dX2_liking_173 : decode cX2_liking 173 = .ok (.getfield 24, 3) := by decide +kernel
theorem dX2_liking_176 : decode cX2_liking 176 = .ok (.iload_n 1, 1) := by decide +kernel
theorem dX2_liking_177 : decode cX2_liking 177 = .ok (.iaload, 1) := by decide +kernel
theorem dX2_liking_178 : decode cX2_liking 178 = .ok (.invokevirtual 61, 3) := by decide +kernel
theorem dX2_liking_181 : decode cX2_liking 181 = .ok (.ireturn, 1) := by decide +kernel
theorem dX2_liking_182 : decode cX2_liking 182 = .ok (.aload_n 0, 1) := by decide +kernel
theorem dX2_liking_183 : decode cX2_liking 183 = .ok (.iconst 0, 1) := by decide +kernel
theorem dX2_liking_184 : decode cX2_liking 184 = .ok (.iload_n 2, 1) := by decide +kernel
theorem dX2_liking_185 : decode cX2_liking 185 = .ok (.aload_n 0, 1) := by decide +kernel
theorem dX2_liking_186 : decode cX2_liking 186 = .ok (.getfield 24, 3) := by decide +kernel
theorem dX2_liking_189 : decode cX2_liking 189 = .ok (.iload_n 1, 1) := by decide +kernel
theorem dX2_liking_190 : decode cX2_liking 190 = .ok (.iaload, 1) := by decide +kernel
theorem dX2_liking_191 : decode cX2_liking 191 = .ok (.invokevirtual 61, 3) := by decide +kernel
theorem dX2_liking_194 : decode cX2_liking 194 = .ok (.ireturn, 1) := by decide +kernel
def b_X2_liking_22 (y : Nat) (x1 : Int32) (x2 : Int32) (xs0 : Int32) (σ : GX) : Option (Int32 × GX) :=
  grd x1 6 (bnd (some (xB σ y 1 x1.toNatClampNeg)) fun w1 => if w1 = (1 : Int32) then (grd x1 6 (bnd (f_X2_says y (0 : Int32) x2 (xB σ y 4 x1.toNatClampNeg) σ) fun q2 => grd x1 6 (bnd (f_X2_says y (2 : Int32) x2 (xB q2.2 y 4 x1.toNatClampNeg) q2.2) fun q3 => some ((q2.1 - q3.1), q3.2)))) else (if w1 = (2 : Int32) then (grd x1 6 (bnd (f_X2_says y (0 : Int32) x2 (xB σ y 4 x1.toNatClampNeg) σ) fun q4 => some ((q4.1 + xs0), q4.2))) else (if w1 = (3 : Int32) then (grd x1 6 (bnd (f_X2_says y (2 : Int32) x2 (xB σ y 4 x1.toNatClampNeg) σ) fun q5 => grd x1 6 (bnd (f_X2_says y (0 : Int32) x2 (xB q5.2 y 4 x1.toNatClampNeg) q5.2) fun q6 => some ((q5.1 - q6.1), q6.2)))) else (if w1 = (4 : Int32) then (grd x1 6 (bnd (f_X2_says y (0 : Int32) x2 (xB σ y 4 x1.toNatClampNeg) σ) fun q7 => some (((q7.1 + xs0) / (10 : Int32)), q7.2))) else (if w1 = (5 : Int32) then (grd x1 6 (if x2 ≠ (rI ((4 : Int32) * (xB σ y 2 x1.toNatClampNeg)) (36 : Int32)) then (grd x1 6 (bnd (f_X2_says y (2 : Int32) x2 (xB σ y 4 x1.toNatClampNeg) σ) fun q8 => some (q8.1, q8.2))) else (some ((99 : Int32), σ)))) else (grd x1 6 (bnd (f_X2_says y (0 : Int32) x2 (xB σ y 4 x1.toNatClampNeg) σ) fun q9 => some (q9.1, q9.2))))))))
theorem vb_X2_liking_22 {g : Gt} {ad : Nat → Nat} (z : Zt) (y : Nat) (hy : y < 3) (x1 : Int32) (x2 : Int32) (xs0 : Int32) (σ : GX) : V g (LX ad) 4 RX2 cX2_liking 4 (some .int) (wX g ad) iI z (b_X2_liking_22 y x1 x2 xs0 σ) σ 22 [(0, .ref (aSea ad y)), (1, .int x1), (2, .int x2)] [.int xs0] := by
  unfold b_X2_liking_22
  refine v_istore_n (pc := 22) (lv' := [(3, .int xs0), (0, .ref (aSea ad y)), (1, .int x1), (2, .int x2)]) (i := 3) dX2_liking_22 rfl (by decide) rfl ?_
  refine v_aload_n (pc := 23) (i := 0) dX2_liking_23 rfl rfl ?_
  refine gX2_kind (pc := 24) (y := y) hy q_151 dX2_liking_24 ?_
  refine v_iload_n (pc := 27) (i := 1) dX2_liking_27 rfl rfl ?_
  refine lX_sea1 (pc := 28) (y := y) hy dX2_liking_28 ?_
  refine v_nmi (fun w1 => ?_)
  refine v_case (c := w1 = (1 : Int32)) (fun hx => ?_) (fun hc29_0 => ?_)
  · refine v_tin (pc := 29) (tgt := 64) (off := 35) hx dX2_liking_29 (by decide) (by decide) rfl rfl ?_
    refine v_aload_n (pc := 64) (i := 0) dX2_liking_64 rfl rfl ?_
    refine v_iconst (pc := 65) dX2_liking_65 ic_0 ?_
    refine v_iload_n (pc := 66) (i := 2) dX2_liking_66 rfl rfl ?_
    refine v_aload_n (pc := 67) (i := 0) dX2_liking_67 rfl rfl ?_
    refine gX2_draught (pc := 68) (y := y) hy q_157 dX2_liking_68 ?_
    refine v_iload_n (pc := 71) (i := 1) dX2_liking_71 rfl rfl ?_
    refine lX_sea4 (pc := 72) (y := y) hy dX2_liking_72 ?_
    refine v_callVi (pc := 73) (rcX2 hy) (As := [.int (0 : Int32), .int x2, .int (xB σ y 4 x1.toNatClampNeg)]) (rest := []) (ct_X2_says hy (0 : Int32) x2 (xB σ y 4 x1.toNatClampNeg)) mi_X2_says q_479 (by decide) rfl rfl (Nat.le_of_ble_eq_true rfl) dX2_liking_73 (fun q2 => ?_)
    refine v_aload_n (pc := 76) (i := 0) dX2_liking_76 rfl rfl ?_
    refine v_iconst (pc := 77) dX2_liking_77 ic_2 ?_
    refine v_iload_n (pc := 78) (i := 2) dX2_liking_78 rfl rfl ?_
    refine v_aload_n (pc := 79) (i := 0) dX2_liking_79 rfl rfl ?_
    refine gX2_draught (pc := 80) (y := y) hy q_157 dX2_liking_80 ?_
    refine v_iload_n (pc := 83) (i := 1) dX2_liking_83 rfl rfl ?_
    refine lX_sea4 (pc := 84) (y := y) hy dX2_liking_84 ?_
    refine v_callVi (pc := 85) (rcX2 hy) (As := [.int (2 : Int32), .int x2, .int (xB q2.2 y 4 x1.toNatClampNeg)]) (rest := [.int q2.1]) (ct_X2_says hy (2 : Int32) x2 (xB q2.2 y 4 x1.toNatClampNeg)) mi_X2_says q_479 (by decide) rfl rfl (Nat.le_of_ble_eq_true rfl) dX2_liking_85 (fun q3 => ?_)
    refine v_isub (pc := 88) dX2_liking_88 ?_
    exact v_iret (pc := 89) dX2_liking_89
  refine v_case (c := w1 = (2 : Int32)) (fun hx => ?_) (fun hc29_1 => ?_)
  · refine v_tin (pc := 29) (tgt := 90) (off := 61) hx dX2_liking_29 (by decide) (by decide) rfl rfl ?_
    refine v_aload_n (pc := 90) (i := 0) dX2_liking_90 rfl rfl ?_
    refine v_iconst (pc := 91) dX2_liking_91 ic_0 ?_
    refine v_iload_n (pc := 92) (i := 2) dX2_liking_92 rfl rfl ?_
    refine v_aload_n (pc := 93) (i := 0) dX2_liking_93 rfl rfl ?_
    refine gX2_draught (pc := 94) (y := y) hy q_157 dX2_liking_94 ?_
    refine v_iload_n (pc := 97) (i := 1) dX2_liking_97 rfl rfl ?_
    refine lX_sea4 (pc := 98) (y := y) hy dX2_liking_98 ?_
    refine v_callVi (pc := 99) (rcX2 hy) (As := [.int (0 : Int32), .int x2, .int (xB σ y 4 x1.toNatClampNeg)]) (rest := []) (ct_X2_says hy (0 : Int32) x2 (xB σ y 4 x1.toNatClampNeg)) mi_X2_says q_479 (by decide) rfl rfl (Nat.le_of_ble_eq_true rfl) dX2_liking_99 (fun q4 => ?_)
    refine v_iload_n (pc := 102) (i := 3) dX2_liking_102 rfl rfl ?_
    refine v_iadd (pc := 103) dX2_liking_103 ?_
    exact v_iret (pc := 104) dX2_liking_104
  refine v_case (c := w1 = (3 : Int32)) (fun hx => ?_) (fun hc29_2 => ?_)
  · refine v_tin (pc := 29) (tgt := 105) (off := 76) hx dX2_liking_29 (by decide) (by decide) rfl rfl ?_
    refine v_aload_n (pc := 105) (i := 0) dX2_liking_105 rfl rfl ?_
    refine v_iconst (pc := 106) dX2_liking_106 ic_2 ?_
    refine v_iload_n (pc := 107) (i := 2) dX2_liking_107 rfl rfl ?_
    refine v_aload_n (pc := 108) (i := 0) dX2_liking_108 rfl rfl ?_
    refine gX2_draught (pc := 109) (y := y) hy q_157 dX2_liking_109 ?_
    refine v_iload_n (pc := 112) (i := 1) dX2_liking_112 rfl rfl ?_
    refine lX_sea4 (pc := 113) (y := y) hy dX2_liking_113 ?_
    refine v_callVi (pc := 114) (rcX2 hy) (As := [.int (2 : Int32), .int x2, .int (xB σ y 4 x1.toNatClampNeg)]) (rest := []) (ct_X2_says hy (2 : Int32) x2 (xB σ y 4 x1.toNatClampNeg)) mi_X2_says q_479 (by decide) rfl rfl (Nat.le_of_ble_eq_true rfl) dX2_liking_114 (fun q5 => ?_)
    refine v_aload_n (pc := 117) (i := 0) dX2_liking_117 rfl rfl ?_
    refine v_iconst (pc := 118) dX2_liking_118 ic_0 ?_
    refine v_iload_n (pc := 119) (i := 2) dX2_liking_119 rfl rfl ?_
    refine v_aload_n (pc := 120) (i := 0) dX2_liking_120 rfl rfl ?_
    refine gX2_draught (pc := 121) (y := y) hy q_157 dX2_liking_121 ?_
    refine v_iload_n (pc := 124) (i := 1) dX2_liking_124 rfl rfl ?_
    refine lX_sea4 (pc := 125) (y := y) hy dX2_liking_125 ?_
    refine v_callVi (pc := 126) (rcX2 hy) (As := [.int (0 : Int32), .int x2, .int (xB q5.2 y 4 x1.toNatClampNeg)]) (rest := [.int q5.1]) (ct_X2_says hy (0 : Int32) x2 (xB q5.2 y 4 x1.toNatClampNeg)) mi_X2_says q_479 (by decide) rfl rfl (Nat.le_of_ble_eq_true rfl) dX2_liking_126 (fun q6 => ?_)
    refine v_isub (pc := 129) dX2_liking_129 ?_
    exact v_iret (pc := 130) dX2_liking_130
  refine v_case (c := w1 = (4 : Int32)) (fun hx => ?_) (fun hc29_3 => ?_)
  · refine v_tin (pc := 29) (tgt := 131) (off := 102) hx dX2_liking_29 (by decide) (by decide) rfl rfl ?_
    refine v_aload_n (pc := 131) (i := 0) dX2_liking_131 rfl rfl ?_
    refine v_iconst (pc := 132) dX2_liking_132 ic_0 ?_
    refine v_iload_n (pc := 133) (i := 2) dX2_liking_133 rfl rfl ?_
    refine v_aload_n (pc := 134) (i := 0) dX2_liking_134 rfl rfl ?_
    refine gX2_draught (pc := 135) (y := y) hy q_157 dX2_liking_135 ?_
    refine v_iload_n (pc := 138) (i := 1) dX2_liking_138 rfl rfl ?_
    refine lX_sea4 (pc := 139) (y := y) hy dX2_liking_139 ?_
    refine v_callVi (pc := 140) (rcX2 hy) (As := [.int (0 : Int32), .int x2, .int (xB σ y 4 x1.toNatClampNeg)]) (rest := []) (ct_X2_says hy (0 : Int32) x2 (xB σ y 4 x1.toNatClampNeg)) mi_X2_says q_479 (by decide) rfl rfl (Nat.le_of_ble_eq_true rfl) dX2_liking_140 (fun q7 => ?_)
    refine v_iload_n (pc := 143) (i := 3) dX2_liking_143 rfl rfl ?_
    refine v_iadd (pc := 144) dX2_liking_144 ?_
    refine v_bipush (pc := 145) dX2_liking_145 bp_10 ?_
    refine v_idiv (pc := 147) dX2_liking_147 (by decide) ?_
    exact v_iret (pc := 148) dX2_liking_148
  refine v_case (c := w1 = (5 : Int32)) (fun hx => ?_) (fun hc29_4 => ?_)
  · refine v_tin (pc := 29) (tgt := 149) (off := 120) hx dX2_liking_29 (by decide) (by decide) rfl rfl ?_
    refine v_iload_n (pc := 149) (i := 2) dX2_liking_149 rfl rfl ?_
    refine v_iconst (pc := 150) dX2_liking_150 ic_4 ?_
    refine v_aload_n (pc := 151) (i := 0) dX2_liking_151 rfl rfl ?_
    refine gX2_more (pc := 152) (y := y) hy q_153 dX2_liking_152 ?_
    refine v_iload_n (pc := 155) (i := 1) dX2_liking_155 rfl rfl ?_
    refine lX_sea2 (pc := 156) (y := y) hy dX2_liking_156 ?_
    refine v_imul (pc := 157) dX2_liking_157 ?_
    refine v_bipush (pc := 158) dX2_liking_158 bp_36 ?_
    refine v_irem (pc := 160) dX2_liking_160 (by decide) ?_
    refine v_icmp_ne (pc := 161) (tgt := 169) dX2_liking_161 rfl ?_ ?_
    · refine v_aload_n (pc := 169) (i := 0) dX2_liking_169 rfl rfl ?_
      refine v_iconst (pc := 170) dX2_liking_170 ic_2 ?_
      refine v_iload_n (pc := 171) (i := 2) dX2_liking_171 rfl rfl ?_
      refine v_aload_n (pc := 172) (i := 0) dX2_liking_172 rfl rfl ?_
      refine gX2_draught (pc := 173) (y := y) hy q_157 dX2_liking_173 ?_
      refine v_iload_n (pc := 176) (i := 1) dX2_liking_176 rfl rfl ?_
      refine lX_sea4 (pc := 177) (y := y) hy dX2_liking_177 ?_
      refine v_callVi (pc := 178) (rcX2 hy) (As := [.int (2 : Int32), .int x2, .int (xB σ y 4 x1.toNatClampNeg)]) (rest := []) (ct_X2_says hy (2 : Int32) x2 (xB σ y 4 x1.toNatClampNeg)) mi_X2_says q_479 (by decide) rfl rfl (Nat.le_of_ble_eq_true rfl) dX2_liking_178 (fun q8 => ?_)
      exact v_iret (pc := 181) dX2_liking_181
    · refine v_bipush (pc := 164) dX2_liking_164 bp_99 ?_
      refine v_goto (pc := 166) (tgt := 181) dX2_liking_166 rfl ?_
      exact v_iret (pc := 181) dX2_liking_181
  refine v_tout (pc := 29) (tgt := 182) dX2_liking_29 (by have e0 := tsw_ne (a := 1) hc29_0 rfl; have e1 := tsw_ne (a := 2) hc29_1 rfl; have e2 := tsw_ne (a := 3) hc29_2 rfl; have e3 := tsw_ne (a := 4) hc29_3 rfl; have e4 := tsw_ne (a := 5) hc29_4 rfl; omega) rfl ?_
  refine v_aload_n (pc := 182) (i := 0) dX2_liking_182 rfl rfl ?_
  refine v_iconst (pc := 183) dX2_liking_183 ic_0 ?_
  refine v_iload_n (pc := 184) (i := 2) dX2_liking_184 rfl rfl ?_
  refine v_aload_n (pc := 185) (i := 0) dX2_liking_185 rfl rfl ?_
  refine gX2_draught (pc := 186) (y := y) hy q_157 dX2_liking_186 ?_
  refine v_iload_n (pc := 189) (i := 1) dX2_liking_189 rfl rfl ?_
  refine lX_sea4 (pc := 190) (y := y) hy dX2_liking_190 ?_
  refine v_callVi (pc := 191) (rcX2 hy) (As := [.int (0 : Int32), .int x2, .int (xB σ y 4 x1.toNatClampNeg)]) (rest := []) (ct_X2_says hy (0 : Int32) x2 (xB σ y 4 x1.toNatClampNeg)) mi_X2_says q_479 (by decide) rfl rfl (Nat.le_of_ble_eq_true rfl) dX2_liking_191 (fun q9 => ?_)
  exact v_iret (pc := 194) dX2_liking_194
def f_X2_liking (y : Nat) (x1 : Int32) (x2 : Int32) (σ : GX) : Option (Int32 × GX) :=
  grd x1 6 (if (x2 / (6 : Int32)) ≠ (rI (xB σ y 2 x1.toNatClampNeg) (6 : Int32)) then (b_X2_liking_22 y x1 x2 (0 : Int32) σ) else (b_X2_liking_22 y x1 x2 (20 : Int32) σ))
theorem vf_X2_liking {g : Gt} {ad : Nat → Nat} (z : Zt) (y : Nat) (hy : y < 3) (x1 : Int32) (x2 : Int32) (σ : GX) : V g (LX ad) 4 RX2 cX2_liking 4 (some .int) (wX g ad) iI z (f_X2_liking y x1 x2 σ) σ 0 [(0, .ref (aSea ad y)), (1, .int x1), (2, .int x2)] [] := by
  unfold f_X2_liking
  refine v_iload_n (pc := 0) (i := 2) dX2_liking_0 rfl rfl ?_
  refine v_bipush (pc := 1) dX2_liking_1 bp_6 ?_
  refine v_idiv (pc := 3) dX2_liking_3 (by decide) ?_
  refine v_aload_n (pc := 4) (i := 0) dX2_liking_4 rfl rfl ?_
  refine gX2_more (pc := 5) (y := y) hy q_153 dX2_liking_5 ?_
  refine v_iload_n (pc := 8) (i := 1) dX2_liking_8 rfl rfl ?_
  refine lX_sea2 (pc := 9) (y := y) hy dX2_liking_9 ?_
  refine v_bipush (pc := 10) dX2_liking_10 bp_6 ?_
  refine v_irem (pc := 12) dX2_liking_12 (by decide) ?_
  refine v_icmp_ne (pc := 13) (tgt := 21) dX2_liking_13 rfl ?_ ?_
  · refine v_iconst (pc := 21) dX2_liking_21 ic_0 ?_
    exact v_sub [0, 1, 2] rfl (vb_X2_liking_22 z y hy x1 x2 (0 : Int32) σ)
  · refine v_bipush (pc := 16) dX2_liking_16 bp_20 ?_
    refine v_goto (pc := 18) (tgt := 22) dX2_liking_18 rfl ?_
    exact v_sub [0, 1, 2] rfl (vb_X2_liking_22 z y hy x1 x2 (20 : Int32) σ)
theorem ct_X2_liking {g : Gt} {ad : Nat → Nat} {y : Nat} (hy : y < 3) (x1 : Int32) (x2 : Int32) : CT g (LX ad) yX2_liking cX2_liking 4 (some .int) 4 [.ref (aSea ad y), .int x1, .int x2] iI (wX g ad) (f_X2_liking y x1 x2) :=
  ct_of_V (own := RX2) (lv0 := [(0, .ref (aSea ad y)), (1, .int x1), (2, .int x2)]) (by decide +kernel) rfl (Nat.le_of_ble_eq_true rfl) rfl (fun z σ => vf_X2_liking z y hy x1 x2 σ)
-- LighthouseLiedTo$Sea.beside
theorem dX2_beside_0 : decode cX2_beside 0 = .ok (.iload_n 1, 1) := by decide +kernel
theorem dX2_beside_1 : decode cX2_beside 1 = .ok (.tableswitch 76 0 2 #[27, 43, 58], 27) := by decide +kernel
theorem dX2_beside_28 : decode cX2_beside 28 = .ok (.iload_n 0, 1) := by decide +kernel
theorem dX2_beside_29 : decode cX2_beside 29 = .ok (.bipush 6, 2) := by decide +kernel
theorem dX2_beside_31 : decode cX2_beside 31 = .ok (.irem, 1) := by decide +kernel
theorem dX2_beside_32 : decode cX2_beside 32 = .ok (.iconst 5, 1) := by decide +kernel
theorem dX2_beside_33 : decode cX2_beside 33 = .ok (.if_icmp .ge 9, 3) := by decide +kernel
theorem dX2_beside_36 : decode cX2_beside 36 = .ok (.iload_n 0, 1) := by decide +kernel
theorem dX2_beside_37 : decode cX2_beside 37 = .ok (.iconst 1, 1) := by decide +kernel
theorem dX2_beside_38 : decode cX2_beside 38 = .ok (.iadd, 1) := by decide +kernel
theorem dX2_beside_39 : decode cX2_beside 39 = .ok (.goto 4, 3) := by decide +kernel
theorem dX2_beside_42 : decode cX2_beside 42 = .ok (.iconst (-1), 1) := by decide +kernel
theorem dX2_beside_43 : decode cX2_beside 43 = .ok (.ireturn, 1) := by decide +kernel
theorem dX2_beside_44 : decode cX2_beside 44 = .ok (.iload_n 0, 1) := by decide +kernel
theorem dX2_beside_45 : decode cX2_beside 45 = .ok (.bipush 6, 2) := by decide +kernel
theorem dX2_beside_47 : decode cX2_beside 47 = .ok (.irem, 1) := by decide +kernel
theorem dX2_beside_48 : decode cX2_beside 48 = .ok (.ifCond .le 9, 3) := by decide +kernel
theorem dX2_beside_51 : decode cX2_beside 51 = .ok (.iload_n 0, 1) := by decide +kernel
theorem dX2_beside_52 : decode cX2_beside 52 = .ok (.iconst 1, 1) := by decide +kernel
theorem dX2_beside_53 : decode cX2_beside 53 = .ok (.isub, 1) := by decide +kernel
theorem dX2_beside_54 : decode cX2_beside 54 = .ok (.goto 4, 3) := by decide +kernel
theorem dX2_beside_57 : decode cX2_beside 57 = .ok (.iconst (-1), 1) := by decide +kernel
theorem dX2_beside_58 : decode cX2_beside 58 = .ok (.ireturn, 1) := by decide +kernel
theorem dX2_beside_59 : decode cX2_beside 59 = .ok (.iload_n 0, 1) := by decide +kernel
theorem dX2_beside_60 : decode cX2_beside 60 = .ok (.bipush 6, 2) := by decide +kernel
theorem dX2_beside_62 : decode cX2_beside 62 = .ok (.iadd, 1) := by decide +kernel
theorem dX2_beside_63 : decode cX2_beside 63 = .ok (.bipush 36, 2) := by decide +kernel
theorem dX2_beside_65 : decode cX2_beside 65 = .ok (.if_icmp .ge 10, 3) := by decide +kernel
theorem dX2_beside_68 : decode cX2_beside 68 = .ok (.iload_n 0, 1) := by decide +kernel
theorem dX2_beside_69 : decode cX2_beside 69 = .ok (.bipush 6, 2) := by decide +kernel
theorem dX2_beside_71 : decode cX2_beside 71 = .ok (.iadd, 1) := by decide +kernel
theorem dX2_beside_72 : decode cX2_beside 72 = .ok (.goto 4, 3) := by decide +kernel
theorem dX2_beside_75 : decode cX2_beside 75 = .ok (.iconst (-1), 1) := by decide +kernel
theorem dX2_beside_76 : decode cX2_beside 76 = .ok (.ireturn, 1) := by decide +kernel
theorem dX2_beside_77 : decode cX2_beside 77 = .ok (.iload_n 0, 1) := by decide +kernel
theorem dX2_beside_78 : decode cX2_beside 78 = .ok (.bipush 6, 2) := by decide +kernel
theorem dX2_beside_80 : decode cX2_beside 80 = .ok (.if_icmp .lt 10, 3) := by decide +kernel
theorem dX2_beside_83 : decode cX2_beside 83 = .ok (.iload_n 0, 1) := by decide +kernel
theorem dX2_beside_84 : decode cX2_beside 84 = .ok (.bipush 6, 2) := by decide +kernel
theorem dX2_beside_86 : decode cX2_beside 86 = .ok (.isub, 1) := by decide +kernel
theorem dX2_beside_87 : decode cX2_beside 87 = .ok (.goto 4, 3) := by decide +kernel
theorem dX2_beside_90 : decode cX2_beside 90 = .ok (.iconst (-1), 1) := by decide +kernel
theorem dX2_beside_91 : decode cX2_beside 91 = .ok (.ireturn, 1) := by decide +kernel
def f_X2_beside (x0 : Int32) (x1 : Int32) (σ : GX) : Option (Int32 × GX) :=
  if x1 = (0 : Int32) then (if (5 : Int32) ≤ (rI x0 (6 : Int32)) then (some ((-1 : Int32), σ)) else (some ((x0 + (1 : Int32)), σ))) else (if x1 = (1 : Int32) then (if (rI x0 (6 : Int32)) ≤ 0 then (some ((-1 : Int32), σ)) else (some ((x0 - (1 : Int32)), σ))) else (if x1 = (2 : Int32) then (if (36 : Int32) ≤ (x0 + (6 : Int32)) then (some ((-1 : Int32), σ)) else (some ((x0 + (6 : Int32)), σ))) else (if x0 < (6 : Int32) then (some ((-1 : Int32), σ)) else (some ((x0 - (6 : Int32)), σ)))))
theorem vf_X2_beside {g : Gt} {ad : Nat → Nat} (z : Zt) (x0 : Int32) (x1 : Int32) (σ : GX) : V g (LX ad) 1 RX2 cX2_beside 2 (some .int) (wX g ad) iI z (f_X2_beside x0 x1 σ) σ 0 [(0, .int x0), (1, .int x1)] [] := by
  unfold f_X2_beside
  refine v_iload_n (pc := 0) (i := 1) dX2_beside_0 rfl rfl ?_
  refine v_case (c := x1 = (0 : Int32)) (fun hx => ?_) (fun hc1_0 => ?_)
  · refine v_tin (pc := 1) (tgt := 28) (off := 27) hx dX2_beside_1 (by decide) (by decide) rfl rfl ?_
    refine v_iload_n (pc := 28) (i := 0) dX2_beside_28 rfl rfl ?_
    refine v_bipush (pc := 29) dX2_beside_29 bp_6 ?_
    refine v_irem (pc := 31) dX2_beside_31 (by decide) ?_
    refine v_iconst (pc := 32) dX2_beside_32 ic_5 ?_
    refine v_icmp_ge (pc := 33) (tgt := 42) dX2_beside_33 rfl ?_ ?_
    · refine v_iconst (pc := 42) dX2_beside_42 ic_m1 ?_
      exact v_iret (pc := 43) dX2_beside_43
    · refine v_iload_n (pc := 36) (i := 0) dX2_beside_36 rfl rfl ?_
      refine v_iconst (pc := 37) dX2_beside_37 ic_1 ?_
      refine v_iadd (pc := 38) dX2_beside_38 ?_
      refine v_goto (pc := 39) (tgt := 43) dX2_beside_39 rfl ?_
      exact v_iret (pc := 43) dX2_beside_43
  refine v_case (c := x1 = (1 : Int32)) (fun hx => ?_) (fun hc1_1 => ?_)
  · refine v_tin (pc := 1) (tgt := 44) (off := 43) hx dX2_beside_1 (by decide) (by decide) rfl rfl ?_
    refine v_iload_n (pc := 44) (i := 0) dX2_beside_44 rfl rfl ?_
    refine v_bipush (pc := 45) dX2_beside_45 bp_6 ?_
    refine v_irem (pc := 47) dX2_beside_47 (by decide) ?_
    refine v_if_le (pc := 48) (tgt := 57) dX2_beside_48 rfl ?_ ?_
    · refine v_iconst (pc := 57) dX2_beside_57 ic_m1 ?_
      exact v_iret (pc := 58) dX2_beside_58
    · refine v_iload_n (pc := 51) (i := 0) dX2_beside_51 rfl rfl ?_
      refine v_iconst (pc := 52) dX2_beside_52 ic_1 ?_
      refine v_isub (pc := 53) dX2_beside_53 ?_
      refine v_goto (pc := 54) (tgt := 58) dX2_beside_54 rfl ?_
      exact v_iret (pc := 58) dX2_beside_58
  refine v_case (c := x1 = (2 : Int32)) (fun hx => ?_) (fun hc1_2 => ?_)
  · refine v_tin (pc := 1) (tgt := 59) (off := 58) hx dX2_beside_1 (by decide) (by decide) rfl rfl ?_
    refine v_iload_n (pc := 59) (i := 0) dX2_beside_59 rfl rfl ?_
    refine v_bipush (pc := 60) dX2_beside_60 bp_6 ?_
    refine v_iadd (pc := 62) dX2_beside_62 ?_
    refine v_bipush (pc := 63) dX2_beside_63 bp_36 ?_
    refine v_icmp_ge (pc := 65) (tgt := 75) dX2_beside_65 rfl ?_ ?_
    · refine v_iconst (pc := 75) dX2_beside_75 ic_m1 ?_
      exact v_iret (pc := 76) dX2_beside_76
    · refine v_iload_n (pc := 68) (i := 0) dX2_beside_68 rfl rfl ?_
      refine v_bipush (pc := 69) dX2_beside_69 bp_6 ?_
      refine v_iadd (pc := 71) dX2_beside_71 ?_
      refine v_goto (pc := 72) (tgt := 76) dX2_beside_72 rfl ?_
      exact v_iret (pc := 76) dX2_beside_76
  refine v_tout (pc := 1) (tgt := 77) dX2_beside_1 (by have e0 := tsw_ne (a := 0) hc1_0 rfl; have e1 := tsw_ne (a := 1) hc1_1 rfl; have e2 := tsw_ne (a := 2) hc1_2 rfl; omega) rfl ?_
  refine v_iload_n (pc := 77) (i := 0) dX2_beside_77 rfl rfl ?_
  refine v_bipush (pc := 78) dX2_beside_78 bp_6 ?_
  refine v_icmp_lt (pc := 80) (tgt := 90) dX2_beside_80 rfl ?_ ?_
  · refine v_iconst (pc := 90) dX2_beside_90 ic_m1 ?_
    exact v_iret (pc := 91) dX2_beside_91
  · refine v_iload_n (pc := 83) (i := 0) dX2_beside_83 rfl rfl ?_
    refine v_bipush (pc := 84) dX2_beside_84 bp_6 ?_
    refine v_isub (pc := 86) dX2_beside_86 ?_
    refine v_goto (pc := 87) (tgt := 91) dX2_beside_87 rfl ?_
    exact v_iret (pc := 91) dX2_beside_91
theorem ct_X2_beside {g : Gt} {ad : Nat → Nat} (x0 : Int32) (x1 : Int32) : CT g (LX ad) yX2_beside cX2_beside 2 (some .int) 1 [.int x0, .int x1] iI (wX g ad) (f_X2_beside x0 x1) :=
  ct_of_V (own := RX2) (lv0 := [(0, .int x0), (1, .int x1)]) (by decide +kernel) rfl (Nat.le_of_ble_eq_true rfl) rfl (fun z σ => vf_X2_beside z x0 x1 σ)
-- LighthouseLiedTo$Sea.goal
theorem dX2_goal_0 : decode cX2_goal 0 = .ok (.aload_n 0, 1) := by decide +kernel
theorem dX2_goal_1 : decode cX2_goal 1 = .ok (.getfield 21, 3) := by decide +kernel
theorem dX2_goal_4 : decode cX2_goal 4 = .ok (.iload_n 1, 1) := by decide +kernel
theorem dX2_goal_5 : decode cX2_goal 5 = .ok (.iaload, 1) := by decide +kernel
theorem dX2_goal_6 : decode cX2_goal 6 = .ok (.istore_n 2, 1) := by decide +kernel
theorem dX2_goal_7 : decode cX2_goal 7 = .ok (.aload_n 0, 1) := by decide +kernel
theorem dX2_goal_8 : decode cX2_goal 8 = .ok (.iload_n 1, 1) := by decide +kernel
theorem dX2_goal_9 : decode cX2_goal 9 = .ok (.iload_n 2, 1) := by decide +kernel
theorem dX2_goal_10 : decode cX2_goal 10 = .ok (.invokevirtual 83, 3) := by decide +kernel
theorem dX2_goal_13 : decode cX2_goal 13 = .ok (.istore_n 3, 1) := by decide +kernel
theorem dX2_goal_14 : decode cX2_goal 14 = .ok (.iconst 0, 1) := by decide +kernel
theorem dX2_goal_15 : decode cX2_goal 15 = .ok (.istore 4, 2) := by decide +kernel
theorem dX2_goal_17 : decode cX2_goal 17 = .ok (.iload 4, 2) := by decide +kernel
theorem dX2_goal_19 : decode cX2_goal 19 = .ok (.iconst 4, 1) := by decide +kernel
theorem dX2_goal_20 : decode cX2_goal 20 = .ok (.if_icmp .ge 49, 3) := by decide +kernel
theorem dX2_goal_23 : decode cX2_goal 23 = .ok (.aload_n 0, 1) := by decide +kernel
theorem dX2_goal_24 : decode cX2_goal 24 = .ok (.getfield 21, 3) := by decide +kernel
theorem dX2_goal_27 : decode cX2_goal 27 = .ok (.iload_n 1, 1) := by decide +kernel
theorem dX2_goal_28 : decode cX2_goal 28 = .ok (.iaload, 1) := by decide +kernel
theorem dX2_goal_29 : decode cX2_goal 29 = .ok (.iload 4, 2) := by decide +kernel
theorem dX2_goal_31 : decode cX2_goal 31 = .ok (.invokestatic 86, 3) := by decide +kernel
theorem dX2_goal_34 : decode cX2_goal 34 = .ok (.istore 5, 2) := by decide +kernel
theorem dX2_goal_36 : decode cX2_goal 36 = .ok (.iload 5, 2) := by decide +kernel
theorem dX2_goal_38 : decode cX2_goal 38 = .ok (.iconst (-1), 1) := by decide +kernel
theorem dX2_goal_39 : decode cX2_goal 39 = .ok (.if_icmp .eq 24, 3) := by decide +kernel
theorem dX2_goal_42 : decode cX2_goal 42 = .ok (.aload_n 0, 1) := by decide +kernel
theorem dX2_goal_43 : decode cX2_goal 43 = .ok (.iload_n 1, 1) := by decide +kernel
theorem dX2_goal_44 : decode cX2_goal 44 = .ok (.iload 5, 2) := by decide +kernel
theorem dX2_goal_46 : decode cX2_goal 46 = .ok (.invokevirtual 83, 3) := by decide +kernel
theorem dX2_goal_49 : decode cX2_goal 49 = .ok (.istore 6, 2) := by decide +kernel
theorem dX2_goal_51 : decode cX2_goal 51 = .ok (.iload 6, 2) := by decide +kernel
theorem dX2_goal_53 : decode cX2_goal 53 = .ok (.iload_n 3, 1) := by decide +kernel
theorem dX2_goal_54 : decode cX2_goal 54 = .ok (.if_icmp .le 9, 3) := by decide +kernel
theorem dX2_goal_57 : decode cX2_goal 57 = .ok (.iload 6, 2) := by decide +kernel
theorem dX2_goal_59 : decode cX2_goal 59 = .ok (.istore_n 3, 1) := by decide +kernel
theorem dX2_goal_60 : decode cX2_goal 60 = .ok (.iload 5, 2) := by decide +kernel
theorem dX2_goal_62 : decode cX2_goal 62 = .ok (.istore_n 2, 1) := by decide +kernel
theorem dX2_goal_63 : decode cX2_goal 63 = .ok (.iinc 4 1, 3) := by decide +kernel
theorem dX2_goal_66 : decode cX2_goal 66 = .ok (.goto (-49), 3) := by decide +kernel
theorem dX2_goal_69 : decode cX2_goal 69 = .ok (.iload_n 2, 1) := by decide +kernel
theorem dX2_goal_70 : decode cX2_goal 70 = .ok (.ireturn, 1) := by decide +kernel
def b_X2_goal_17 (y : Nat) (kc17 : Int32 → Int32 → Int32 → Int32 → GX → Option (Int32 × GX)) (x1 : Int32) (x2 : Int32) (x3 : Int32) (x4 : Int32) (σ : GX) : Option (Int32 × GX) :=
  if (4 : Int32) ≤ x4 then (some (x2, σ)) else (grd x1 6 (bnd (f_X2_beside (xB σ y 3 x1.toNatClampNeg) x4 σ) fun q3 => if q3.1 = (-1 : Int32) then (kc17 x1 x2 x3 (x4 + (1 : Int32)) q3.2) else (bnd (f_X2_liking y x1 q3.1 q3.2) fun q4 => if q4.1 ≤ x3 then (kc17 x1 x2 x3 (x4 + (1 : Int32)) q4.2) else (kc17 x1 q3.1 q4.1 (x4 + (1 : Int32)) q4.2))))
theorem vb_X2_goal_17 {g : Gt} {ad : Nat → Nat} (z : Zt) (y : Nat) (hy : y < 3) (kc17 : Int32 → Int32 → Int32 → Int32 → GX → Option (Int32 × GX)) (hkc17 : ∀ (x1 : Int32) (x2 : Int32) (x3 : Int32) (x4 : Int32) (σ : GX), V g (LX ad) 5 RX2 cX2_goal 7 (some .int) (wX g ad) iI z (kc17 x1 x2 x3 x4 σ) σ 17 [(0, .ref (aSea ad y)), (1, .int x1), (2, .int x2), (3, .int x3), (4, .int x4)] []) (x1 : Int32) (x2 : Int32) (x3 : Int32) (x4 : Int32) (σ : GX) : V g (LX ad) 5 RX2 cX2_goal 7 (some .int) (wX g ad) iI z (b_X2_goal_17 y kc17 x1 x2 x3 x4 σ) σ 17 [(0, .ref (aSea ad y)), (1, .int x1), (2, .int x2), (3, .int x3), (4, .int x4)] [] := by
  unfold b_X2_goal_17
  refine v_iload (pc := 17) (i := 4) dX2_goal_17 rfl ?_
  refine v_iconst (pc := 19) dX2_goal_19 ic_4 ?_
  refine v_icmp_ge (pc := 20) (tgt := 69) dX2_goal_20 rfl ?_ ?_
  · refine v_iload_n (pc := 69) (i := 2) dX2_goal_69 rfl rfl ?_
    exact v_iret (pc := 70) dX2_goal_70
  · refine v_aload_n (pc := 23) (i := 0) dX2_goal_23 rfl rfl ?_
    refine gX2_cell (pc := 24) (y := y) hy q_155 dX2_goal_24 ?_
    refine v_iload_n (pc := 27) (i := 1) dX2_goal_27 rfl rfl ?_
    refine lX_sea3 (pc := 28) (y := y) hy dX2_goal_28 ?_
    refine v_iload (pc := 29) (i := 4) dX2_goal_29 rfl ?_
    refine v_callSi (pc := 31) (av := [.int (xB σ y 3 x1.toNatClampNeg), .int x4]) (rest := []) (ct_X2_beside (xB σ y 3 x1.toNatClampNeg) x4) mi_X2_beside q_480 (by decide) rfl rfl (Nat.le_of_ble_eq_true rfl) dX2_goal_31 (fun q3 => ?_)
    refine v_istore (pc := 34) (lv' := [(5, .int q3.1), (0, .ref (aSea ad y)), (1, .int x1), (2, .int x2), (3, .int x3), (4, .int x4)]) (i := 5) dX2_goal_34 (by decide) rfl ?_
    refine v_iload (pc := 36) (i := 5) dX2_goal_36 rfl ?_
    refine v_iconst (pc := 38) dX2_goal_38 ic_m1 ?_
    refine v_icmp_eq (pc := 39) (tgt := 63) dX2_goal_39 rfl ?_ ?_
    · refine v_iinc (pc := 63) (lv' := [(4, .int (x4 + (1 : Int32))), (5, .int q3.1), (0, .ref (aSea ad y)), (1, .int x1), (2, .int x2), (3, .int x3)]) (i := 4) dX2_goal_63 rfl ic_1 (by decide) rfl ?_
      refine v_goto (pc := 66) (tgt := 17) dX2_goal_66 rfl ?_
      exact v_sub [2, 3, 4, 5, 0] rfl (hkc17 x1 x2 x3 (x4 + (1 : Int32)) q3.2)
    · refine v_aload_n (pc := 42) (i := 0) dX2_goal_42 rfl rfl ?_
      refine v_iload_n (pc := 43) (i := 1) dX2_goal_43 rfl rfl ?_
      refine v_iload (pc := 44) (i := 5) dX2_goal_44 rfl ?_
      refine v_callVi (pc := 46) (rcX2 hy) (As := [.int x1, .int q3.1]) (rest := []) (ct_X2_liking hy x1 q3.1) mi_X2_liking q_475 (by decide) rfl rfl (Nat.le_of_ble_eq_true rfl) dX2_goal_46 (fun q4 => ?_)
      refine v_istore (pc := 49) (lv' := [(6, .int q4.1), (5, .int q3.1), (0, .ref (aSea ad y)), (1, .int x1), (2, .int x2), (3, .int x3), (4, .int x4)]) (i := 6) dX2_goal_49 (by decide) rfl ?_
      refine v_iload (pc := 51) (i := 6) dX2_goal_51 rfl ?_
      refine v_iload_n (pc := 53) (i := 3) dX2_goal_53 rfl rfl ?_
      refine v_icmp_le (pc := 54) (tgt := 63) dX2_goal_54 rfl ?_ ?_
      · refine v_iinc (pc := 63) (lv' := [(4, .int (x4 + (1 : Int32))), (6, .int q4.1), (5, .int q3.1), (0, .ref (aSea ad y)), (1, .int x1), (2, .int x2), (3, .int x3)]) (i := 4) dX2_goal_63 rfl ic_1 (by decide) rfl ?_
        refine v_goto (pc := 66) (tgt := 17) dX2_goal_66 rfl ?_
        exact v_sub [3, 4, 5, 6, 0] rfl (hkc17 x1 x2 x3 (x4 + (1 : Int32)) q4.2)
      · refine v_iload (pc := 57) (i := 6) dX2_goal_57 rfl ?_
        refine v_istore_n (pc := 59) (lv' := [(3, .int q4.1), (6, .int q4.1), (5, .int q3.1), (0, .ref (aSea ad y)), (1, .int x1), (2, .int x2), (4, .int x4)]) (i := 3) dX2_goal_59 rfl (by decide) rfl ?_
        refine v_iload (pc := 60) (i := 5) dX2_goal_60 rfl ?_
        refine v_istore_n (pc := 62) (lv' := [(2, .int q3.1), (3, .int q4.1), (6, .int q4.1), (5, .int q3.1), (0, .ref (aSea ad y)), (1, .int x1), (4, .int x4)]) (i := 2) dX2_goal_62 rfl (by decide) rfl ?_
        refine v_iinc (pc := 63) (lv' := [(4, .int (x4 + (1 : Int32))), (2, .int q3.1), (3, .int q4.1), (6, .int q4.1), (5, .int q3.1), (0, .ref (aSea ad y)), (1, .int x1)]) (i := 4) dX2_goal_63 rfl ic_1 (by decide) rfl ?_
        refine v_goto (pc := 66) (tgt := 17) dX2_goal_66 rfl ?_
        exact v_sub [5, 6, 1, 2, 0] rfl (hkc17 x1 q3.1 q4.1 (x4 + (1 : Int32)) q4.2)
def k_X2_goal_17 (y : Nat) : Nat → Int32 → Int32 → Int32 → Int32 → GX → Option (Int32 × GX)
  | 0 => fun _ _ _ _ _ => none
  | n + 1 => b_X2_goal_17 y (k_X2_goal_17 y n)
theorem vk_X2_goal_17 {g : Gt} {ad : Nat → Nat} (z : Zt) (y : Nat) (hy : y < 3) : ∀ (n : Nat) (x1 : Int32) (x2 : Int32) (x3 : Int32) (x4 : Int32) (σ : GX), V g (LX ad) 5 RX2 cX2_goal 7 (some .int) (wX g ad) iI z (k_X2_goal_17 y n x1 x2 x3 x4 σ) σ 17 [(0, .ref (aSea ad y)), (1, .int x1), (2, .int x2), (3, .int x3), (4, .int x4)] [] := by
  intro n
  induction n with
  | zero => intros; exact v_eq rfl v_none
  | succ n ih =>
    intro x1 x2 x3 x4 σ
    exact v_eq rfl (vb_X2_goal_17 z y hy _ ih x1 x2 x3 x4 σ)
def f_X2_goal (y : Nat) (x1 : Int32) (σ : GX) : Option (Int32 × GX) :=
  grd x1 6 (bnd (some (xB σ y 3 x1.toNatClampNeg)) fun w1 => bnd (f_X2_liking y x1 w1 σ) fun q2 => k_X2_goal_17 y FU x1 w1 q2.1 (0 : Int32) q2.2)
theorem vf_X2_goal {g : Gt} {ad : Nat → Nat} (z : Zt) (y : Nat) (hy : y < 3) (x1 : Int32) (σ : GX) : V g (LX ad) 5 RX2 cX2_goal 7 (some .int) (wX g ad) iI z (f_X2_goal y x1 σ) σ 0 [(0, .ref (aSea ad y)), (1, .int x1)] [] := by
  unfold f_X2_goal
  refine v_aload_n (pc := 0) (i := 0) dX2_goal_0 rfl rfl ?_
  refine gX2_cell (pc := 1) (y := y) hy q_155 dX2_goal_1 ?_
  refine v_iload_n (pc := 4) (i := 1) dX2_goal_4 rfl rfl ?_
  refine lX_sea3 (pc := 5) (y := y) hy dX2_goal_5 ?_
  refine v_nmi (fun w1 => ?_)
  refine v_istore_n (pc := 6) (lv' := [(2, .int w1), (0, .ref (aSea ad y)), (1, .int x1)]) (i := 2) dX2_goal_6 rfl (by decide) rfl ?_
  refine v_aload_n (pc := 7) (i := 0) dX2_goal_7 rfl rfl ?_
  refine v_iload_n (pc := 8) (i := 1) dX2_goal_8 rfl rfl ?_
  refine v_iload_n (pc := 9) (i := 2) dX2_goal_9 rfl rfl ?_
  refine v_callVi (pc := 10) (rcX2 hy) (As := [.int x1, .int w1]) (rest := []) (ct_X2_liking hy x1 w1) mi_X2_liking q_475 (by decide) rfl rfl (Nat.le_of_ble_eq_true rfl) dX2_goal_10 (fun q2 => ?_)
  refine v_istore_n (pc := 13) (lv' := [(3, .int q2.1), (2, .int w1), (0, .ref (aSea ad y)), (1, .int x1)]) (i := 3) dX2_goal_13 rfl (by decide) rfl ?_
  refine v_iconst (pc := 14) dX2_goal_14 ic_0 ?_
  refine v_istore (pc := 15) (lv' := [(4, .int (0 : Int32)), (3, .int q2.1), (2, .int w1), (0, .ref (aSea ad y)), (1, .int x1)]) (i := 4) dX2_goal_15 (by decide) rfl ?_
  exact v_sub [3, 4, 2, 1, 0] rfl (vk_X2_goal_17 z y hy FU x1 w1 q2.1 (0 : Int32) q2.2)
theorem ct_X2_goal {g : Gt} {ad : Nat → Nat} {y : Nat} (hy : y < 3) (x1 : Int32) : CT g (LX ad) yX2_goal cX2_goal 7 (some .int) 5 [.ref (aSea ad y), .int x1] iI (wX g ad) (f_X2_goal y x1) :=
  ct_of_V (own := RX2) (lv0 := [(0, .ref (aSea ad y)), (1, .int x1)]) (by decide +kernel) rfl (Nat.le_of_ble_eq_true rfl) rfl (fun z σ => vf_X2_goal z y hy x1 σ)
-- LighthouseLiedTo$Sea.sinking
theorem dX2_sinking_0 : decode cX2_sinking 0 = .ok (.aload_n 0, 1) := by decide +kernel
theorem dX2_sinking_1 : decode cX2_sinking 1 = .ok (.getfield 15, 3) := by decide +kernel
theorem dX2_sinking_4 : decode cX2_sinking 4 = .ok (.iload_n 1, 1) := by decide +kernel
theorem dX2_sinking_5 : decode cX2_sinking 5 = .ok (.iaload, 1) := by decide +kernel
theorem dX2_sinking_6 : decode cX2_sinking 6 = .ok (.tableswitch 83 2 5 #[30, 83, 51, 81], 30) := by decide +kernel
theorem dX2_sinking_36 : decode cX2_sinking 36 = .ok (.aload_n 0, 1) := by decide +kernel
theorem dX2_sinking_37 : decode cX2_sinking 37 = .ok (.getfield 24, 3) := by decide +kernel
theorem dX2_sinking_40 : decode cX2_sinking 40 = .ok (.iload_n 1, 1) := by decide +kernel
theorem dX2_sinking_41 : decode cX2_sinking 41 = .ok (.iaload, 1) := by decide +kernel
theorem dX2_sinking_42 : decode cX2_sinking 42 = .ok (.aload_n 0, 1) := by decide +kernel
theorem dX2_sinking_43 : decode cX2_sinking 43 = .ok (.getfield 18, 3) := by decide +kernel
theorem dX2_sinking_46 : decode cX2_sinking 46 = .ok (.iload_n 1, 1) := by decide +kernel
theorem dX2_sinking_47 : decode cX2_sinking 47 = .ok (.iaload, 1) := by decide +kernel
theorem dX2_sinking_48 : decode cX2_sinking 48 = .ok (.if_icmp .le 7, 3) := by decide +kernel
theorem dX2_sinking_51 : decode cX2_sinking 51 = .ok (.iconst 1, 1) := by decide +kernel
theorem dX2_sinking_52 : decode cX2_sinking 52 = .ok (.goto 4, 3) := by decide +kernel
theorem dX2_sinking_55 : decode cX2_sinking 55 = .ok (.iconst 0, 1) := by decide +kernel
theorem dX2_sinking_56 : decode cX2_sinking 56 = .ok (.ireturn, 1) := by decide +kernel
theorem dX2_sinking_57 : decode cX2_sinking 57 = .ok (.aload_n 0, 1) := by decide +kernel
theorem dX2_sinking_58 : decode cX2_sinking 58 = .ok (.getfield 51, 3) := by decide +kernel
theorem dX2_sinking_61 : decode cX2_sinking 61 = .ok (.iconst 5, 1) := by decide +kernel
theorem dX2_sinking_62 : decode cX2_sinking 62 = .ok (.irem, 1) := by decide +kernel
theorem dX2_sinking_63 : decode cX2_sinking 63 = .ok (.ifCond .ne 22, 3) := by decide +kernel
theorem dX2_sinking_66 : decode cX2_sinking 66 = .ok (.aload_n 0, 1) := by decide +kernel
theorem dX2_sinking_67 : decode cX2_sinking 67 = .ok (.getfield 24, 3) := by decide +kernel
theorem dX2_sinking_70 : decode cX2_sinking 70 = .ok (.iload_n 1, 1) := by decide +kernel
theorem dX2_sinking_71 : decode cX2_sinking 71 = .ok (.iaload, 1) := by decide +kernel
theorem dX2_sinking_72 : decode cX2_sinking 72 = .ok (.aload_n 0, 1) := by decide +kernel
theorem dX2_sinking_73 : decode cX2_sinking 73 = .ok (.getfield 18, 3) := by decide +kernel
theorem dX2_sinking_76 : decode cX2_sinking 76 = .ok (.iload_n 1, 1) := by decide +kernel
theorem dX2_sinking_77 : decode cX2_sinking 77 = .ok (.iaload, 1) := by decide +kernel
theorem dX2_sinking_78 : decode cX2_sinking 78 = .ok (.if_icmp .le 7, 3) := by decide +kernel
theorem dX2_sinking_81 : decode cX2_sinking 81 = .ok (.iconst 1, 1) := by decide +kernel
theorem dX2_sinking_82 : decode cX2_sinking 82 = .ok (.goto 4, 3) := by decide +kernel
theorem dX2_sinking_85 : decode cX2_sinking 85 = .ok (.iconst 0, 1) := by decide +kernel
theorem dX2_sinking_86 : decode cX2_sinking 86 = .ok (.ireturn, 1) := by decide +kernel
theorem dX2_sinking_87 : decode cX2_sinking 87 = .ok (.iconst 0, 1) := by decide +kernel
theorem dX2_sinking_88 : decode cX2_sinking 88 = .ok (.ireturn, 1) := by decide +kernel
theorem dX2_sinking_89 : decode cX2_sinking 89 = .ok (.iconst 1, 1) := by decide +kernel
theorem dX2_sinking_90 : decode cX2_sinking 90 = .ok (.ireturn, 1) := by decide +kernel
def f_X2_sinking (y : Nat) (x1 : Int32) (σ : GX) : Option (Int32 × GX) :=
  grd x1 6 (bnd (some (xB σ y 1 x1.toNatClampNeg)) fun w1 => if w1 = (2 : Int32) then (grd x1 6 (grd x1 6 (if (xB σ y 4 x1.toNatClampNeg) ≤ (xB σ y 2 x1.toNatClampNeg) then (some ((0 : Int32), σ)) else (some ((1 : Int32), σ))))) else (if w1 = (3 : Int32) then (some ((1 : Int32), σ)) else (if w1 = (4 : Int32) then (if (rI (xS σ y 3) (5 : Int32)) ≠ 0 then (some ((0 : Int32), σ)) else (grd x1 6 (grd x1 6 (if (xB σ y 4 x1.toNatClampNeg) ≤ (xB σ y 2 x1.toNatClampNeg) then (some ((0 : Int32), σ)) else (some ((1 : Int32), σ)))))) else (if w1 = (5 : Int32) then (some ((0 : Int32), σ)) else (some ((1 : Int32), σ))))))
theorem vf_X2_sinking {g : Gt} {ad : Nat → Nat} (z : Zt) (y : Nat) (hy : y < 3) (x1 : Int32) (σ : GX) : V g (LX ad) 1 RX2 cX2_sinking 2 (some .boolean) (wX g ad) iI z (f_X2_sinking y x1 σ) σ 0 [(0, .ref (aSea ad y)), (1, .int x1)] [] := by
  unfold f_X2_sinking
  refine v_aload_n (pc := 0) (i := 0) dX2_sinking_0 rfl rfl ?_
  refine gX2_kind (pc := 1) (y := y) hy q_151 dX2_sinking_1 ?_
  refine v_iload_n (pc := 4) (i := 1) dX2_sinking_4 rfl rfl ?_
  refine lX_sea1 (pc := 5) (y := y) hy dX2_sinking_5 ?_
  refine v_nmi (fun w1 => ?_)
  refine v_case (c := w1 = (2 : Int32)) (fun hx => ?_) (fun hc6_0 => ?_)
  · refine v_tin (pc := 6) (tgt := 36) (off := 30) hx dX2_sinking_6 (by decide) (by decide) rfl rfl ?_
    refine v_aload_n (pc := 36) (i := 0) dX2_sinking_36 rfl rfl ?_
    refine gX2_draught (pc := 37) (y := y) hy q_157 dX2_sinking_37 ?_
    refine v_iload_n (pc := 40) (i := 1) dX2_sinking_40 rfl rfl ?_
    refine lX_sea4 (pc := 41) (y := y) hy dX2_sinking_41 ?_
    refine v_aload_n (pc := 42) (i := 0) dX2_sinking_42 rfl rfl ?_
    refine gX2_more (pc := 43) (y := y) hy q_153 dX2_sinking_43 ?_
    refine v_iload_n (pc := 46) (i := 1) dX2_sinking_46 rfl rfl ?_
    refine lX_sea2 (pc := 47) (y := y) hy dX2_sinking_47 ?_
    refine v_icmp_le (pc := 48) (tgt := 55) dX2_sinking_48 rfl ?_ ?_
    · refine v_iconst (pc := 55) dX2_sinking_55 ic_0 ?_
      exact v_nret (pc := 56) rfl dX2_sinking_56
    · refine v_iconst (pc := 51) dX2_sinking_51 ic_1 ?_
      refine v_goto (pc := 52) (tgt := 56) dX2_sinking_52 rfl ?_
      exact v_nret (pc := 56) rfl dX2_sinking_56
  refine v_case (c := w1 = (3 : Int32)) (fun hx => ?_) (fun hc6_1 => ?_)
  · refine v_tin (pc := 6) (tgt := 89) (off := 83) hx dX2_sinking_6 (by decide) (by decide) rfl rfl ?_
    refine v_iconst (pc := 89) dX2_sinking_89 ic_1 ?_
    exact v_nret (pc := 90) rfl dX2_sinking_90
  refine v_case (c := w1 = (4 : Int32)) (fun hx => ?_) (fun hc6_2 => ?_)
  · refine v_tin (pc := 6) (tgt := 57) (off := 51) hx dX2_sinking_6 (by decide) (by decide) rfl rfl ?_
    refine v_aload_n (pc := 57) (i := 0) dX2_sinking_57 rfl rfl ?_
    refine gX2_night (pc := 58) (y := y) hy q_169 dX2_sinking_58 ?_
    refine v_iconst (pc := 61) dX2_sinking_61 ic_5 ?_
    refine v_irem (pc := 62) dX2_sinking_62 (by decide) ?_
    refine v_if_ne (pc := 63) (tgt := 85) dX2_sinking_63 rfl ?_ ?_
    · refine v_iconst (pc := 85) dX2_sinking_85 ic_0 ?_
      exact v_nret (pc := 86) rfl dX2_sinking_86
    · refine v_aload_n (pc := 66) (i := 0) dX2_sinking_66 rfl rfl ?_
      refine gX2_draught (pc := 67) (y := y) hy q_157 dX2_sinking_67 ?_
      refine v_iload_n (pc := 70) (i := 1) dX2_sinking_70 rfl rfl ?_
      refine lX_sea4 (pc := 71) (y := y) hy dX2_sinking_71 ?_
      refine v_aload_n (pc := 72) (i := 0) dX2_sinking_72 rfl rfl ?_
      refine gX2_more (pc := 73) (y := y) hy q_153 dX2_sinking_73 ?_
      refine v_iload_n (pc := 76) (i := 1) dX2_sinking_76 rfl rfl ?_
      refine lX_sea2 (pc := 77) (y := y) hy dX2_sinking_77 ?_
      refine v_icmp_le (pc := 78) (tgt := 85) dX2_sinking_78 rfl ?_ ?_
      · refine v_iconst (pc := 85) dX2_sinking_85 ic_0 ?_
        exact v_nret (pc := 86) rfl dX2_sinking_86
      · refine v_iconst (pc := 81) dX2_sinking_81 ic_1 ?_
        refine v_goto (pc := 82) (tgt := 86) dX2_sinking_82 rfl ?_
        exact v_nret (pc := 86) rfl dX2_sinking_86
  refine v_case (c := w1 = (5 : Int32)) (fun hx => ?_) (fun hc6_3 => ?_)
  · refine v_tin (pc := 6) (tgt := 87) (off := 81) hx dX2_sinking_6 (by decide) (by decide) rfl rfl ?_
    refine v_iconst (pc := 87) dX2_sinking_87 ic_0 ?_
    exact v_nret (pc := 88) rfl dX2_sinking_88
  refine v_tout (pc := 6) (tgt := 89) dX2_sinking_6 (by have e0 := tsw_ne (a := 2) hc6_0 rfl; have e1 := tsw_ne (a := 3) hc6_1 rfl; have e2 := tsw_ne (a := 4) hc6_2 rfl; have e3 := tsw_ne (a := 5) hc6_3 rfl; omega) rfl ?_
  refine v_iconst (pc := 89) dX2_sinking_89 ic_1 ?_
  exact v_nret (pc := 90) rfl dX2_sinking_90
theorem ct_X2_sinking {g : Gt} {ad : Nat → Nat} {y : Nat} (hy : y < 3) (x1 : Int32) : CT g (LX ad) yX2_sinking cX2_sinking 2 (some .boolean) 1 [.ref (aSea ad y), .int x1] iI (wX g ad) (f_X2_sinking y x1) :=
  ct_of_V (own := RX2) (lv0 := [(0, .ref (aSea ad y)), (1, .int x1)]) (by decide +kernel) rfl (Nat.le_of_ble_eq_true rfl) rfl (fun z σ => vf_X2_sinking z y hy x1 σ)
-- LighthouseLiedTo$Sea.teaching
theorem dX2_teaching_0 : decode cX2_teaching 0 = .ok (.aload_n 0, 1) := by decide +kernel
theorem dX2_teaching_1 : decode cX2_teaching 1 = .ok (.getfield 15, 3) := by decide +kernel
theorem dX2_teaching_4 : decode cX2_teaching 4 = .ok (.iload_n 1, 1) := by decide +kernel
theorem dX2_teaching_5 : decode cX2_teaching 5 = .ok (.iaload, 1) := by decide +kernel
theorem dX2_teaching_6 : decode cX2_teaching 6 = .ok (.iconst 1, 1) := by decide +kernel
theorem dX2_teaching_7 : decode cX2_teaching 7 = .ok (.if_icmp .ne 8, 3) := by decide +kernel
theorem dX2_teaching_10 : decode cX2_teaching 10 = .ok (.bipush 49, 2) := by decide +kernel
theorem dX2_teaching_12 : decode cX2_teaching 12 = .ok (.goto 19, 3) := by decide +kernel
theorem dX2_teaching_15 : decode cX2_teaching 15 = .ok (.aload_n 0, 1) := by decide +kernel
theorem dX2_teaching_16 : decode cX2_teaching 16 = .ok (.getfield 15, 3) := by decide +kernel
theorem dX2_teaching_19 : decode cX2_teaching 19 = .ok (.iload_n 1, 1) := by decide +kernel
theorem dX2_teaching_20 : decode cX2_teaching 20 = .ok (.iaload, 1) := by decide +kernel
theorem dX2_teaching_21 : decode cX2_teaching 21 = .ok (.iconst 3, 1) := by decide +kernel
theorem dX2_teaching_22 : decode cX2_teaching 22 = .ok (.if_icmp .ne 7, 3) := by decide +kernel
theorem dX2_teaching_25 : decode cX2_teaching 25 = .ok (.iconst 0, 1) := by decide +kernel
theorem dX2_teaching_26 : decode cX2_teaching 26 = .ok (.goto 5, 3) := by decide +kernel
theorem dX2_teaching_29 : decode cX2_teaching 29 = .ok (.bipush 99, 2) := by decide +kernel
theorem dX2_teaching_31 : decode cX2_teaching 31 = .ok (.ireturn, 1) := by decide +kernel
def f_X2_teaching (y : Nat) (x1 : Int32) (σ : GX) : Option (Int32 × GX) :=
  grd x1 6 (if (xB σ y 1 x1.toNatClampNeg) ≠ (1 : Int32) then (grd x1 6 (if (xB σ y 1 x1.toNatClampNeg) ≠ (3 : Int32) then (some ((99 : Int32), σ)) else (some ((0 : Int32), σ)))) else (some ((49 : Int32), σ)))
theorem vf_X2_teaching {g : Gt} {ad : Nat → Nat} (z : Zt) (y : Nat) (hy : y < 3) (x1 : Int32) (σ : GX) : V g (LX ad) 1 RX2 cX2_teaching 2 (some .int) (wX g ad) iI z (f_X2_teaching y x1 σ) σ 0 [(0, .ref (aSea ad y)), (1, .int x1)] [] := by
  unfold f_X2_teaching
  refine v_aload_n (pc := 0) (i := 0) dX2_teaching_0 rfl rfl ?_
  refine gX2_kind (pc := 1) (y := y) hy q_151 dX2_teaching_1 ?_
  refine v_iload_n (pc := 4) (i := 1) dX2_teaching_4 rfl rfl ?_
  refine lX_sea1 (pc := 5) (y := y) hy dX2_teaching_5 ?_
  refine v_iconst (pc := 6) dX2_teaching_6 ic_1 ?_
  refine v_icmp_ne (pc := 7) (tgt := 15) dX2_teaching_7 rfl ?_ ?_
  · refine v_aload_n (pc := 15) (i := 0) dX2_teaching_15 rfl rfl ?_
    refine gX2_kind (pc := 16) (y := y) hy q_151 dX2_teaching_16 ?_
    refine v_iload_n (pc := 19) (i := 1) dX2_teaching_19 rfl rfl ?_
    refine lX_sea1 (pc := 20) (y := y) hy dX2_teaching_20 ?_
    refine v_iconst (pc := 21) dX2_teaching_21 ic_3 ?_
    refine v_icmp_ne (pc := 22) (tgt := 29) dX2_teaching_22 rfl ?_ ?_
    · refine v_bipush (pc := 29) dX2_teaching_29 bp_99 ?_
      exact v_iret (pc := 31) dX2_teaching_31
    · refine v_iconst (pc := 25) dX2_teaching_25 ic_0 ?_
      refine v_goto (pc := 26) (tgt := 31) dX2_teaching_26 rfl ?_
      exact v_iret (pc := 31) dX2_teaching_31
  · refine v_bipush (pc := 10) dX2_teaching_10 bp_49 ?_
    refine v_goto (pc := 12) (tgt := 31) dX2_teaching_12 rfl ?_
    exact v_iret (pc := 31) dX2_teaching_31
theorem ct_X2_teaching {g : Gt} {ad : Nat → Nat} {y : Nat} (hy : y < 3) (x1 : Int32) : CT g (LX ad) yX2_teaching cX2_teaching 2 (some .int) 1 [.ref (aSea ad y), .int x1] iI (wX g ad) (f_X2_teaching y x1) :=
  ct_of_V (own := RX2) (lv0 := [(0, .ref (aSea ad y)), (1, .int x1)]) (by decide +kernel) rfl (Nat.le_of_ble_eq_true rfl) rfl (fun z σ => vf_X2_teaching z y hy x1 σ)
-- LighthouseLiedTo$Sea.lose
theorem dX2_lose_0 : decode cX2_lose 0 = .ok (.aload_n 0, 1) := by decide +kernel
theorem dX2_lose_1 : decode cX2_lose 1 = .ok (.getfield 21, 3) := by decide +kernel
theorem dX2_lose_4 : decode cX2_lose 4 = .ok (.iload_n 1, 1) := by decide +kernel
theorem dX2_lose_5 : decode cX2_lose 5 = .ok (.iaload, 1) := by decide +kernel
theorem dX2_lose_6 : decode cX2_lose 6 = .ok (.istore_n 2, 1) := by decide +kernel
theorem dX2_lose_7 : decode cX2_lose 7 = .ok (.aload_n 0, 1) := by decide +kernel
theorem dX2_lose_8 : decode cX2_lose 8 = .ok (.dup, 1) := by decide +kernel
theorem dX2_lose_9 : decode cX2_lose 9 = .ok (.getfield 41, 3) := by decide +kernel
theorem dX2_lose_12 : decode cX2_lose 12 = .ok (.iconst 1, 1) := by decide +kernel
theorem dX2_lose_13 : decode cX2_lose 13 = .ok (.iload_n 1, 1) := by decide +kernel
theorem dX2_lose_14 : decode cX2_lose 14 = .ok (.ishl, 1) := by decide +kernel
theorem dX2_lose_15 : decode cX2_lose 15 = .ok (.ior, 1) := by decide +kernel
theorem dX2_lose_16 : decode cX2_lose 16 = .ok (.putfield 41, 3) := by decide +kernel
theorem dX2_lose_19 : decode cX2_lose 19 = .ok (.aload_n 0, 1) := by decide +kernel
theorem dX2_lose_20 : decode cX2_lose 20 = .ok (.getfield 9, 3) := by decide +kernel
theorem dX2_lose_23 : decode cX2_lose 23 = .ok (.iload_n 2, 1) := by decide +kernel
theorem dX2_lose_24 : decode cX2_lose 24 = .ok (.iaload, 1) := by decide +kernel
theorem dX2_lose_25 : decode cX2_lose 25 = .ok (.bipush 50, 2) := by decide +kernel
theorem dX2_lose_27 : decode cX2_lose 27 = .ok (.if_icmp .ge 18, 3) := by decide +kernel
theorem dX2_lose_30 : decode cX2_lose 30 = .ok (.aload_n 0, 1) := by decide +kernel
theorem dX2_lose_31 : decode cX2_lose 31 = .ok (.bipush 99, 2) := by decide +kernel
theorem dX2_lose_33 : decode cX2_lose 33 = .ok (.aload_n 0, 1) := by decide +kernel
theorem dX2_lose_34 : decode cX2_lose 34 = .ok (.getfield 48, 3) := by decide +kernel
theorem dX2_lose_37 : decode cX2_lose 37 = .ok (.iconst 1, 1) := by decide +kernel
theorem dX2_lose_38 : decode cX2_lose 38 = .ok (.iadd, 1) := by decide +kernel
theorem dX2_lose_39 : decode cX2_lose 39 = .ok (.invokestatic 68, 3) := by decide +kernel
theorem dX2_lose_42 : decode cX2_lose 42 = .ok (.putfield 48, 3) := by decide +kernel
theorem dX2_lose_45 : decode cX2_lose 45 = .ok (.aload_n 0, 1) := by decide +kernel
theorem dX2_lose_46 : decode cX2_lose 46 = .ok (.getfield 9, 3) := by decide +kernel
theorem dX2_lose_49 : decode cX2_lose 49 = .ok (.iload_n 2, 1) := by decide +kernel
theorem dX2_lose_50 : decode cX2_lose 50 = .ok (.aload_n 0, 1) := by decide +kernel
theorem dX2_lose_51 : decode cX2_lose 51 = .ok (.getfield 9, 3) := by decide +kernel
theorem dX2_lose_54 : decode cX2_lose 54 = .ok (.iload_n 2, 1) := by decide +kernel
theorem dX2_lose_55 : decode cX2_lose 55 = .ok (.iaload, 1) := by decide +kernel
theorem dX2_lose_56 : decode cX2_lose 56 = .ok (.aload_n 0, 1) := by decide +kernel
theorem dX2_lose_57 : decode cX2_lose 57 = .ok (.iload_n 1, 1) := by decide +kernel
theorem dX2_lose_58 : decode cX2_lose 58 = .ok (.invokevirtual 103, 3) := by decide +kernel
theorem dX2_lose_61 : decode cX2_lose 61 = .ok (.invokestatic 74, 3) := by decide +kernel
theorem dX2_lose_64 : decode cX2_lose 64 = .ok (.iastore, 1) := by decide +kernel
theorem dX2_lose_65 : decode cX2_lose 65 = .ok (.return_, 1) := by decide +kernel
def b_X2_lose_45 (y : Nat) (x1 : Int32) (x2 : Int32) (σ : GX) : Option (Unit × GX) :=
  grd x2 36 (bnd (f_X2_teaching y x1 σ) fun q3 => grd x2 36 (bnd (some (sB q3.2 y 0 x2.toNatClampNeg (mxI (xB σ y 0 x2.toNatClampNeg) q3.1))) fun σ4 => some ((), σ4)))
theorem vb_X2_lose_45 {g : Gt} {ad : Nat → Nat} (z : Zt) (y : Nat) (hy : y < 3) (x1 : Int32) (x2 : Int32) (σ : GX) : V g (LX ad) 2 RX2 cX2_lose 3 none (wX g ad) iU z (b_X2_lose_45 y x1 x2 σ) σ 45 [(0, .ref (aSea ad y)), (1, .int x1), (2, .int x2)] [] := by
  unfold b_X2_lose_45
  refine v_aload_n (pc := 45) (i := 0) dX2_lose_45 rfl rfl ?_
  refine gX2_belief (pc := 46) (y := y) hy q_148 dX2_lose_46 ?_
  refine v_iload_n (pc := 49) (i := 2) dX2_lose_49 rfl rfl ?_
  refine v_aload_n (pc := 50) (i := 0) dX2_lose_50 rfl rfl ?_
  refine gX2_belief (pc := 51) (y := y) hy q_148 dX2_lose_51 ?_
  refine v_iload_n (pc := 54) (i := 2) dX2_lose_54 rfl rfl ?_
  refine lX_sea0 (pc := 55) (y := y) hy dX2_lose_55 ?_
  refine v_aload_n (pc := 56) (i := 0) dX2_lose_56 rfl rfl ?_
  refine v_iload_n (pc := 57) (i := 1) dX2_lose_57 rfl rfl ?_
  refine v_callVi (pc := 58) (rcX2 hy) (As := [.int x1]) (rest := [.int (xB σ y 0 x2.toNatClampNeg), .int x2, .ref (aSeaA ad y 0)]) (ct_X2_teaching hy x1) mi_X2_teaching q_509 (by decide) rfl rfl (Nat.le_of_ble_eq_true rfl) dX2_lose_58 (fun q3 => ?_)
  refine v_mmax (pc := 61) q_403 q_404 q_62 q_405 (by decide) (Nat.le_of_ble_eq_true rfl) dX2_lose_61 ?_
  refine sX_sea0 (pc := 64) (y := y) hy dX2_lose_64 ?_
  refine v_nms (fun σ4 => ?_)
  exact v_ret (pc := 65) dX2_lose_65
def f_X2_lose (y : Nat) (x1 : Int32) (σ : GX) : Option (Unit × GX) :=
  grd x1 6 (bnd (some (xB σ y 3 x1.toNatClampNeg)) fun w1 => bnd (some (sS σ y 0 ((xS σ y 0) ||| (slI (1 : Int32) x1)))) fun σ2 => grd w1 36 (if (50 : Int32) ≤ (xB σ2 y 0 w1.toNatClampNeg) then (b_X2_lose_45 y x1 w1 σ2) else (bnd (some (sS σ2 y 2 (mnI (99 : Int32) ((xS σ2 y 2) + (1 : Int32))))) fun σ5 => b_X2_lose_45 y x1 w1 σ5)))
theorem vf_X2_lose {g : Gt} {ad : Nat → Nat} (z : Zt) (y : Nat) (hy : y < 3) (x1 : Int32) (σ : GX) : V g (LX ad) 2 RX2 cX2_lose 3 none (wX g ad) iU z (f_X2_lose y x1 σ) σ 0 [(0, .ref (aSea ad y)), (1, .int x1)] [] := by
  unfold f_X2_lose
  refine v_aload_n (pc := 0) (i := 0) dX2_lose_0 rfl rfl ?_
  refine gX2_cell (pc := 1) (y := y) hy q_155 dX2_lose_1 ?_
  refine v_iload_n (pc := 4) (i := 1) dX2_lose_4 rfl rfl ?_
  refine lX_sea3 (pc := 5) (y := y) hy dX2_lose_5 ?_
  refine v_nmi (fun w1 => ?_)
  refine v_istore_n (pc := 6) (lv' := [(2, .int w1), (0, .ref (aSea ad y)), (1, .int x1)]) (i := 2) dX2_lose_6 rfl (by decide) rfl ?_
  refine v_aload_n (pc := 7) (i := 0) dX2_lose_7 rfl rfl ?_
  refine v_dup (pc := 8) dX2_lose_8 rfl ?_
  refine gX2_lost (pc := 9) (y := y) hy q_161 dX2_lose_9 ?_
  refine v_iconst (pc := 12) dX2_lose_12 ic_1 ?_
  refine v_iload_n (pc := 13) (i := 1) dX2_lose_13 rfl rfl ?_
  refine v_ishl (pc := 14) dX2_lose_14 ?_
  refine v_ior (pc := 15) dX2_lose_15 ?_
  refine pX2_lost (pc := 16) (y := y) hy q_161 dX2_lose_16 ?_
  refine v_nms (fun σ2 => ?_)
  refine v_aload_n (pc := 19) (i := 0) dX2_lose_19 rfl rfl ?_
  refine gX2_belief (pc := 20) (y := y) hy q_148 dX2_lose_20 ?_
  refine v_iload_n (pc := 23) (i := 2) dX2_lose_23 rfl rfl ?_
  refine lX_sea0 (pc := 24) (y := y) hy dX2_lose_24 ?_
  refine v_bipush (pc := 25) dX2_lose_25 bp_50 ?_
  refine v_icmp_ge (pc := 27) (tgt := 45) dX2_lose_27 rfl ?_ ?_
  · exact v_sub [1, 2, 0] rfl (vb_X2_lose_45 z y hy x1 w1 σ2)
  · refine v_aload_n (pc := 30) (i := 0) dX2_lose_30 rfl rfl ?_
    refine v_bipush (pc := 31) dX2_lose_31 bp_99 ?_
    refine v_aload_n (pc := 33) (i := 0) dX2_lose_33 rfl rfl ?_
    refine gX2_doubt (pc := 34) (y := y) hy q_166 dX2_lose_34 ?_
    refine v_iconst (pc := 37) dX2_lose_37 ic_1 ?_
    refine v_iadd (pc := 38) dX2_lose_38 ?_
    refine v_mmin (pc := 39) q_400 q_401 q_62 q_402 (by decide) (Nat.le_of_ble_eq_true rfl) dX2_lose_39 ?_
    refine pX2_doubt (pc := 42) (y := y) hy q_166 dX2_lose_42 ?_
    refine v_nms (fun σ5 => ?_)
    exact v_sub [1, 2, 0] rfl (vb_X2_lose_45 z y hy x1 w1 σ5)
theorem ct_X2_lose {g : Gt} {ad : Nat → Nat} {y : Nat} (hy : y < 3) (x1 : Int32) : CT g (LX ad) yX2_lose cX2_lose 3 none 2 [.ref (aSea ad y), .int x1] iU (wX g ad) (f_X2_lose y x1) :=
  ct_of_V (own := RX2) (lv0 := [(0, .ref (aSea ad y)), (1, .int x1)]) (by decide +kernel) rfl (Nat.le_of_ble_eq_true rfl) rfl (fun z σ => vf_X2_lose z y hy x1 σ)
-- LighthouseLiedTo$Sea.passNight
theorem dX2_passNight_0 : decode cX2_passNight 0 = .ok (.iconst 0, 1) := by decide +kernel
theorem dX2_passNight_1 : decode cX2_passNight 1 = .ok (.istore_n 1, 1) := by decide +kernel
theorem dX2_passNight_2 : decode cX2_passNight 2 = .ok (.iload_n 1, 1) := by decide +kernel
theorem dX2_passNight_3 : decode cX2_passNight 3 = .ok (.aload_n 0, 1) := by decide +kernel
theorem dX2_passNight_4 : decode cX2_passNight 4 = .ok (.getfield 45, 3) := by decide +kernel
theorem dX2_passNight_7 : decode cX2_passNight 7 = .ok (.if_icmp .ge 60, 3) := by decide +kernel
theorem dX2_passNight_10 : decode cX2_passNight 10 = .ok (.iload_n 1, 1) := by decide +kernel
theorem dX2_passNight_11 : decode cX2_passNight 11 = .ok (.bipush 6, 2) := by decide +kernel
theorem dX2_passNight_13 : decode cX2_passNight 13 = .ok (.if_icmp .ge 54, 3) := by decide +kernel
theorem dX2_passNight_16 : decode cX2_passNight 16 = .ok (.aload_n 0, 1) := by decide +kernel
theorem dX2_passNight_17 : decode cX2_passNight 17 = .ok (.iload_n 1, 1) := by decide +kernel
theorem dX2_passNight_18 : decode cX2_passNight 18 = .ok (.invokevirtual 89, 3) := by decide +kernel
theorem dX2_passNight_21 : decode cX2_passNight 21 = .ok (.ifCond .ne 40, 3) := by decide +kernel
theorem dX2_passNight_24 : decode cX2_passNight 24 = .ok (.aload_n 0, 1) := by decide +kernel
theorem dX2_passNight_25 : decode cX2_passNight 25 = .ok (.getfield 21, 3) := by decide +kernel
theorem dX2_passNight_28 : decode cX2_passNight 28 = .ok (.iload_n 1, 1) := by decide +kernel
theorem dX2_passNight_29 : decode cX2_passNight 29 = .ok (.aload_n 0, 1) := by decide +kernel
theorem dX2_passNight_30 : decode cX2_passNight 30 = .ok (.iload_n 1, 1) := by decide +kernel
theorem dX2_passNight_31 : decode cX2_passNight 31 = .ok (.invokevirtual 92, 3) := by decide +kernel
theorem dX2_passNight_34 : decode cX2_passNight 34 = .ok (.iastore, 1) := by decide +kernel
theorem dX2_passNight_35 : decode cX2_passNight 35 = .ok (.aload_n 0, 1) := by decide +kernel
theorem dX2_passNight_36 : decode cX2_passNight 36 = .ok (.aload_n 0, 1) := by decide +kernel
theorem dX2_passNight_37 : decode cX2_passNight 37 = .ok (.getfield 21, 3) := by decide +kernel
theorem dX2_passNight_40 : decode cX2_passNight 40 = .ok (.iload_n 1, 1) := by decide +kernel
theorem dX2_passNight_41 : decode cX2_passNight 41 = .ok (.iaload, 1) := by decide +kernel
theorem dX2_passNight_42 : decode cX2_passNight 42 = .ok (.invokevirtual 57, 3) := by decide +kernel
theorem dX2_passNight_45 : decode cX2_passNight 45 = .ok (.ifCond .eq 16, 3) := by decide +kernel
theorem dX2_passNight_48 : decode cX2_passNight 48 = .ok (.aload_n 0, 1) := by decide +kernel
theorem dX2_passNight_49 : decode cX2_passNight 49 = .ok (.iload_n 1, 1) := by decide +kernel
theorem dX2_passNight_50 : decode cX2_passNight 50 = .ok (.invokevirtual 96, 3) := by decide +kernel
theorem dX2_passNight_53 : decode cX2_passNight 53 = .ok (.ifCond .eq 8, 3) := by decide +kernel
theorem dX2_passNight_56 : decode cX2_passNight 56 = .ok (.aload_n 0, 1) := by decide +kernel
theorem dX2_passNight_57 : decode cX2_passNight 57 = .ok (.iload_n 1, 1) := by decide +kernel
theorem dX2_passNight_58 : decode cX2_passNight 58 = .ok (.invokevirtual 99, 3) := by decide +kernel
theorem dX2_passNight_61 : decode cX2_passNight 61 = .ok (.iinc 1 1, 3) := by decide +kernel
theorem dX2_passNight_64 : decode cX2_passNight 64 = .ok (.goto (-62), 3) := by decide +kernel
theorem dX2_passNight_67 : decode cX2_passNight 67 = .ok (.iconst 0, 1) := by decide +kernel
theorem dX2_passNight_68 : decode cX2_passNight 68 = .ok (.istore_n 1, 1) := by decide +kernel
theorem dX2_passNight_69 : decode cX2_passNight 69 = .ok (.iload_n 1, 1) := by decide +kernel
theorem dX2_passNight_70 : decode cX2_passNight 70 = .ok (.bipush 36, 2) := by decide +kernel
theorem dX2_passNight_72 : decode cX2_passNight 72 = .ok (.if_icmp .ge 42, 3) := by decide +kernel
theorem dX2_passNight_75 : decode cX2_passNight 75 = .ok (.aload_n 0, 1) := by decide +kernel
theorem dX2_passNight_76 : decode cX2_passNight 76 = .ok (.getfield 9, 3) := by decide +kernel
theorem dX2_passNight_79 : decode cX2_passNight 79 = .ok (.iload_n 1, 1) := by decide +kernel
theorem dX2_passNight_80 : decode cX2_passNight 80 = .ok (.iaload, 1) := by decide +kernel
theorem dX2_passNight_81 : decode cX2_passNight 81 = .ok (.ifCond .le 27, 3) := by decide +kernel
theorem dX2_passNight_84 : decode cX2_passNight 84 = .ok (.aload_n 0, 1) := by decide +kernel
theorem dX2_passNight_85 : decode cX2_passNight 85 = .ok (.getfield 9, 3) := by decide +kernel
theorem dX2_passNight_88 : decode cX2_passNight 88 = .ok (.iload_n 1, 1) := by decide +kernel
theorem dX2_passNight_89 : decode cX2_passNight 89 = .ok (.iconst 0, 1) := by decide +kernel
theorem dX2_passNight_90 : decode cX2_passNight 90 = .ok (.aload_n 0, 1) := by decide +kernel
theorem dX2_passNight_91 : decode cX2_passNight 91 = .ok (.getfield 9, 3) := by decide +kernel
theorem dX2_passNight_94 : decode cX2_passNight 94 = .ok (.iload_n 1, 1) := by decide +kernel
theorem dX2_passNight_95 : decode cX2_passNight 95 = .ok (.iaload, 1) := by decide +kernel
theorem dX2_passNight_96 : decode cX2_passNight 96 = .ok (.aload_n 0, 1) := by decide +kernel
theorem dX2_passNight_97 : decode cX2_passNight 97 = .ok (.iconst 1, 1) := by decide +kernel
theorem dX2_passNight_98 : decode cX2_passNight 98 = .ok (.iload_n 1, 1) := by decide +kernel
theorem dX2_passNight_99 : decode cX2_passNight 99 = .ok (.iconst 0, 1) := by decide +kernel
theorem dX2_passNight_100 : decode cX2_passNight 100 = .ok (.invokevirtual 61, 3) := by decide +kernel
theorem dX2_passNight_103 : decode cX2_passNight 103 = .ok (.isub, 1) := by decide +kernel
theorem dX2_passNight_104 : decode cX2_passNight 104 = .ok (.invokestatic 74, 3) := by decide +kernel
theorem dX2_passNight_107 : decode cX2_passNight 107 = .ok (.iastore, 1) := by decide +kernel
theorem dX2_passNight_108 : decode cX2_passNight 108 = .ok (.iinc 1 1, 3) := by decide +kernel
theorem dX2_passNight_111 : decode cX2_passNight 111 = .ok (.goto (-42), 3) := by decide +kernel
theorem dX2_passNight_114 : decode cX2_passNight 114 = .ok (.aload_n 0, 1) := by decide +kernel
theorem dX2_passNight_115 : decode cX2_passNight 115 = .ok (.dup, 1) := by decide +kernel
theorem dX2_passNight_116 : decode cX2_passNight 116 = .ok (.getfield 51, 3) := by decide +kernel
theorem dX2_passNight_119 : decode cX2_passNight 119 = .ok (.iconst 1, 1) := by decide +kernel
theorem dX2_passNight_120 : decode cX2_passNight 120 = .ok (.iadd, 1) := by decide +kernel
theorem dX2_passNight_121 : decode cX2_passNight 121 = .ok (.putfield 51, 3) := by decide +kernel
theorem dX2_passNight_124 : decode cX2_passNight 124 = .ok (.return_, 1) := by decide +kernel
def b_X2_passNight_69 (y : Nat) (kc69 : Int32 → GX → Option (Unit × GX)) (x1 : Int32) (σ : GX) : Option (Unit × GX) :=
  if (36 : Int32) ≤ x1 then (bnd (some (sS σ y 3 ((xS σ y 3) + (1 : Int32)))) fun σ1 => some ((), σ1)) else (grd x1 36 (if (xB σ y 0 x1.toNatClampNeg) ≤ 0 then (kc69 (x1 + (1 : Int32)) σ) else (grd x1 36 (bnd (f_X2_says y (1 : Int32) x1 (0 : Int32) σ) fun q2 => grd x1 36 (bnd (some (sB q2.2 y 0 x1.toNatClampNeg (mxI (0 : Int32) ((xB σ y 0 x1.toNatClampNeg) - q2.1)))) fun σ3 => kc69 (x1 + (1 : Int32)) σ3)))))
theorem vb_X2_passNight_69 {g : Gt} {ad : Nat → Nat} (z : Zt) (y : Nat) (hy : y < 3) (kc69 : Int32 → GX → Option (Unit × GX)) (hkc69 : ∀ (x1 : Int32) (σ : GX), V g (LX ad) 6 RX2 cX2_passNight 2 none (wX g ad) iU z (kc69 x1 σ) σ 69 [(0, .ref (aSea ad y)), (1, .int x1)] []) (x1 : Int32) (σ : GX) : V g (LX ad) 6 RX2 cX2_passNight 2 none (wX g ad) iU z (b_X2_passNight_69 y kc69 x1 σ) σ 69 [(0, .ref (aSea ad y)), (1, .int x1)] [] := by
  unfold b_X2_passNight_69
  refine v_iload_n (pc := 69) (i := 1) dX2_passNight_69 rfl rfl ?_
  refine v_bipush (pc := 70) dX2_passNight_70 bp_36 ?_
  refine v_icmp_ge (pc := 72) (tgt := 114) dX2_passNight_72 rfl ?_ ?_
  · refine v_aload_n (pc := 114) (i := 0) dX2_passNight_114 rfl rfl ?_
    refine v_dup (pc := 115) dX2_passNight_115 rfl ?_
    refine gX2_night (pc := 116) (y := y) hy q_169 dX2_passNight_116 ?_
    refine v_iconst (pc := 119) dX2_passNight_119 ic_1 ?_
    refine v_iadd (pc := 120) dX2_passNight_120 ?_
    refine pX2_night (pc := 121) (y := y) hy q_169 dX2_passNight_121 ?_
    refine v_nms (fun σ1 => ?_)
    exact v_ret (pc := 124) dX2_passNight_124
  · refine v_aload_n (pc := 75) (i := 0) dX2_passNight_75 rfl rfl ?_
    refine gX2_belief (pc := 76) (y := y) hy q_148 dX2_passNight_76 ?_
    refine v_iload_n (pc := 79) (i := 1) dX2_passNight_79 rfl rfl ?_
    refine lX_sea0 (pc := 80) (y := y) hy dX2_passNight_80 ?_
    refine v_if_le (pc := 81) (tgt := 108) dX2_passNight_81 rfl ?_ ?_
    · refine v_iinc (pc := 108) (lv' := [(1, .int (x1 + (1 : Int32))), (0, .ref (aSea ad y))]) (i := 1) dX2_passNight_108 rfl ic_1 (by decide) rfl ?_
      refine v_goto (pc := 111) (tgt := 69) dX2_passNight_111 rfl ?_
      exact v_sub [1, 0] rfl (hkc69 (x1 + (1 : Int32)) σ)
    · refine v_aload_n (pc := 84) (i := 0) dX2_passNight_84 rfl rfl ?_
      refine gX2_belief (pc := 85) (y := y) hy q_148 dX2_passNight_85 ?_
      refine v_iload_n (pc := 88) (i := 1) dX2_passNight_88 rfl rfl ?_
      refine v_iconst (pc := 89) dX2_passNight_89 ic_0 ?_
      refine v_aload_n (pc := 90) (i := 0) dX2_passNight_90 rfl rfl ?_
      refine gX2_belief (pc := 91) (y := y) hy q_148 dX2_passNight_91 ?_
      refine v_iload_n (pc := 94) (i := 1) dX2_passNight_94 rfl rfl ?_
      refine lX_sea0 (pc := 95) (y := y) hy dX2_passNight_95 ?_
      refine v_aload_n (pc := 96) (i := 0) dX2_passNight_96 rfl rfl ?_
      refine v_iconst (pc := 97) dX2_passNight_97 ic_1 ?_
      refine v_iload_n (pc := 98) (i := 1) dX2_passNight_98 rfl rfl ?_
      refine v_iconst (pc := 99) dX2_passNight_99 ic_0 ?_
      refine v_callVi (pc := 100) (rcX2 hy) (As := [.int (1 : Int32), .int x1, .int (0 : Int32)]) (rest := [.int (xB σ y 0 x1.toNatClampNeg), .int (0 : Int32), .int x1, .ref (aSeaA ad y 0)]) (ct_X2_says hy (1 : Int32) x1 (0 : Int32)) mi_X2_says q_479 (by decide) rfl rfl (Nat.le_of_ble_eq_true rfl) dX2_passNight_100 (fun q2 => ?_)
      refine v_isub (pc := 103) dX2_passNight_103 ?_
      refine v_mmax (pc := 104) q_403 q_404 q_62 q_405 (by decide) (Nat.le_of_ble_eq_true rfl) dX2_passNight_104 ?_
      refine sX_sea0 (pc := 107) (y := y) hy dX2_passNight_107 ?_
      refine v_nms (fun σ3 => ?_)
      refine v_iinc (pc := 108) (lv' := [(1, .int (x1 + (1 : Int32))), (0, .ref (aSea ad y))]) (i := 1) dX2_passNight_108 rfl ic_1 (by decide) rfl ?_
      refine v_goto (pc := 111) (tgt := 69) dX2_passNight_111 rfl ?_
      exact v_sub [1, 0] rfl (hkc69 (x1 + (1 : Int32)) σ3)
def k_X2_passNight_69 (y : Nat) : Nat → Int32 → GX → Option (Unit × GX)
  | 0 => fun _ _ => none
  | n + 1 => b_X2_passNight_69 y (k_X2_passNight_69 y n)
theorem vk_X2_passNight_69 {g : Gt} {ad : Nat → Nat} (z : Zt) (y : Nat) (hy : y < 3) : ∀ (n : Nat) (x1 : Int32) (σ : GX), V g (LX ad) 6 RX2 cX2_passNight 2 none (wX g ad) iU z (k_X2_passNight_69 y n x1 σ) σ 69 [(0, .ref (aSea ad y)), (1, .int x1)] [] := by
  intro n
  induction n with
  | zero => intros; exact v_eq rfl v_none
  | succ n ih =>
    intro x1 σ
    exact v_eq rfl (vb_X2_passNight_69 z y hy _ ih x1 σ)
def b_X2_passNight_2 (y : Nat) (kc2 : Int32 → GX → Option (Unit × GX)) (x1 : Int32) (σ : GX) : Option (Unit × GX) :=
  if (xS σ y 1) ≤ x1 then (k_X2_passNight_69 y FU (0 : Int32) σ) else (if (6 : Int32) ≤ x1 then (k_X2_passNight_69 y FU (0 : Int32) σ) else (bnd (f_X2_isLost y x1 σ) fun q4 => if q4.1 ≠ 0 then (kc2 (x1 + (1 : Int32)) q4.2) else (bnd (f_X2_goal y x1 q4.2) fun q5 => grd x1 6 (bnd (some (sB q5.2 y 3 x1.toNatClampNeg q5.1)) fun σ6 => grd x1 6 (bnd (f_X2_hasRock y (xB σ6 y 3 x1.toNatClampNeg) σ6) fun q7 => if q7.1 = 0 then (kc2 (x1 + (1 : Int32)) q7.2) else (bnd (f_X2_sinking y x1 q7.2) fun q8 => if q8.1 = 0 then (kc2 (x1 + (1 : Int32)) q8.2) else (bnd (f_X2_lose y x1 q8.2) fun q9 => kc2 (x1 + (1 : Int32)) q9.2)))))))
theorem vb_X2_passNight_2 {g : Gt} {ad : Nat → Nat} (z : Zt) (y : Nat) (hy : y < 3) (kc2 : Int32 → GX → Option (Unit × GX)) (hkc2 : ∀ (x1 : Int32) (σ : GX), V g (LX ad) 6 RX2 cX2_passNight 2 none (wX g ad) iU z (kc2 x1 σ) σ 2 [(0, .ref (aSea ad y)), (1, .int x1)] []) (x1 : Int32) (σ : GX) : V g (LX ad) 6 RX2 cX2_passNight 2 none (wX g ad) iU z (b_X2_passNight_2 y kc2 x1 σ) σ 2 [(0, .ref (aSea ad y)), (1, .int x1)] [] := by
  unfold b_X2_passNight_2
  refine v_iload_n (pc := 2) (i := 1) dX2_passNight_2 rfl rfl ?_
  refine v_aload_n (pc := 3) (i := 0) dX2_passNight_3 rfl rfl ?_
  refine gX2_ships (pc := 4) (y := y) hy q_164 dX2_passNight_4 ?_
  refine v_icmp_ge (pc := 7) (tgt := 67) dX2_passNight_7 rfl ?_ ?_
  · refine v_iconst (pc := 67) dX2_passNight_67 ic_0 ?_
    refine v_istore_n (pc := 68) (lv' := [(1, .int (0 : Int32)), (0, .ref (aSea ad y))]) (i := 1) dX2_passNight_68 rfl (by decide) rfl ?_
    exact v_sub [1, 0] rfl (vk_X2_passNight_69 z y hy FU (0 : Int32) σ)
  · refine v_iload_n (pc := 10) (i := 1) dX2_passNight_10 rfl rfl ?_
    refine v_bipush (pc := 11) dX2_passNight_11 bp_6 ?_
    refine v_icmp_ge (pc := 13) (tgt := 67) dX2_passNight_13 rfl ?_ ?_
    · refine v_iconst (pc := 67) dX2_passNight_67 ic_0 ?_
      refine v_istore_n (pc := 68) (lv' := [(1, .int (0 : Int32)), (0, .ref (aSea ad y))]) (i := 1) dX2_passNight_68 rfl (by decide) rfl ?_
      exact v_sub [1, 0] rfl (vk_X2_passNight_69 z y hy FU (0 : Int32) σ)
    · refine v_aload_n (pc := 16) (i := 0) dX2_passNight_16 rfl rfl ?_
      refine v_iload_n (pc := 17) (i := 1) dX2_passNight_17 rfl rfl ?_
      refine v_callVi (pc := 18) (rcX2 hy) (As := [.int x1]) (rest := []) (ct_X2_isLost hy x1) mi_X2_isLost q_501 (by decide) rfl rfl (Nat.le_of_ble_eq_true rfl) dX2_passNight_18 (fun q4 => ?_)
      refine v_if_ne (pc := 21) (tgt := 61) dX2_passNight_21 rfl ?_ ?_
      · refine v_iinc (pc := 61) (lv' := [(1, .int (x1 + (1 : Int32))), (0, .ref (aSea ad y))]) (i := 1) dX2_passNight_61 rfl ic_1 (by decide) rfl ?_
        refine v_goto (pc := 64) (tgt := 2) dX2_passNight_64 rfl ?_
        exact v_sub [1, 0] rfl (hkc2 (x1 + (1 : Int32)) q4.2)
      · refine v_aload_n (pc := 24) (i := 0) dX2_passNight_24 rfl rfl ?_
        refine gX2_cell (pc := 25) (y := y) hy q_155 dX2_passNight_25 ?_
        refine v_iload_n (pc := 28) (i := 1) dX2_passNight_28 rfl rfl ?_
        refine v_aload_n (pc := 29) (i := 0) dX2_passNight_29 rfl rfl ?_
        refine v_iload_n (pc := 30) (i := 1) dX2_passNight_30 rfl rfl ?_
        refine v_callVi (pc := 31) (rcX2 hy) (As := [.int x1]) (rest := [.int x1, .ref (aSeaA ad y 3)]) (ct_X2_goal hy x1) mi_X2_goal q_502 (by decide) rfl rfl (Nat.le_of_ble_eq_true rfl) dX2_passNight_31 (fun q5 => ?_)
        refine sX_sea3 (pc := 34) (y := y) hy dX2_passNight_34 ?_
        refine v_nms (fun σ6 => ?_)
        refine v_aload_n (pc := 35) (i := 0) dX2_passNight_35 rfl rfl ?_
        refine v_aload_n (pc := 36) (i := 0) dX2_passNight_36 rfl rfl ?_
        refine gX2_cell (pc := 37) (y := y) hy q_155 dX2_passNight_37 ?_
        refine v_iload_n (pc := 40) (i := 1) dX2_passNight_40 rfl rfl ?_
        refine lX_sea3 (pc := 41) (y := y) hy dX2_passNight_41 ?_
        refine v_callVi (pc := 42) (rcX2 hy) (As := [.int (xB σ6 y 3 x1.toNatClampNeg)]) (rest := []) (ct_X2_hasRock hy (xB σ6 y 3 x1.toNatClampNeg)) mi_X2_hasRock q_503 (by decide) rfl rfl (Nat.le_of_ble_eq_true rfl) dX2_passNight_42 (fun q7 => ?_)
        refine v_if_eq (pc := 45) (tgt := 61) dX2_passNight_45 rfl ?_ ?_
        · refine v_iinc (pc := 61) (lv' := [(1, .int (x1 + (1 : Int32))), (0, .ref (aSea ad y))]) (i := 1) dX2_passNight_61 rfl ic_1 (by decide) rfl ?_
          refine v_goto (pc := 64) (tgt := 2) dX2_passNight_64 rfl ?_
          exact v_sub [1, 0] rfl (hkc2 (x1 + (1 : Int32)) q7.2)
        · refine v_aload_n (pc := 48) (i := 0) dX2_passNight_48 rfl rfl ?_
          refine v_iload_n (pc := 49) (i := 1) dX2_passNight_49 rfl rfl ?_
          refine v_callVi (pc := 50) (rcX2 hy) (As := [.int x1]) (rest := []) (ct_X2_sinking hy x1) mi_X2_sinking q_504 (by decide) rfl rfl (Nat.le_of_ble_eq_true rfl) dX2_passNight_50 (fun q8 => ?_)
          refine v_if_eq (pc := 53) (tgt := 61) dX2_passNight_53 rfl ?_ ?_
          · refine v_iinc (pc := 61) (lv' := [(1, .int (x1 + (1 : Int32))), (0, .ref (aSea ad y))]) (i := 1) dX2_passNight_61 rfl ic_1 (by decide) rfl ?_
            refine v_goto (pc := 64) (tgt := 2) dX2_passNight_64 rfl ?_
            exact v_sub [1, 0] rfl (hkc2 (x1 + (1 : Int32)) q8.2)
          · refine v_aload_n (pc := 56) (i := 0) dX2_passNight_56 rfl rfl ?_
            refine v_iload_n (pc := 57) (i := 1) dX2_passNight_57 rfl rfl ?_
            refine v_callVv (pc := 58) (rcX2 hy) (As := [.int x1]) (rest := []) (ct_X2_lose hy x1) mi_X2_lose q_505 (by decide) rfl rfl (Nat.le_of_ble_eq_true rfl) dX2_passNight_58 (fun q9 => ?_)
            refine v_iinc (pc := 61) (lv' := [(1, .int (x1 + (1 : Int32))), (0, .ref (aSea ad y))]) (i := 1) dX2_passNight_61 rfl ic_1 (by decide) rfl ?_
            refine v_goto (pc := 64) (tgt := 2) dX2_passNight_64 rfl ?_
            exact v_sub [1, 0] rfl (hkc2 (x1 + (1 : Int32)) q9.2)
def k_X2_passNight_2 (y : Nat) : Nat → Int32 → GX → Option (Unit × GX)
  | 0 => fun _ _ => none
  | n + 1 => b_X2_passNight_2 y (k_X2_passNight_2 y n)
theorem vk_X2_passNight_2 {g : Gt} {ad : Nat → Nat} (z : Zt) (y : Nat) (hy : y < 3) : ∀ (n : Nat) (x1 : Int32) (σ : GX), V g (LX ad) 6 RX2 cX2_passNight 2 none (wX g ad) iU z (k_X2_passNight_2 y n x1 σ) σ 2 [(0, .ref (aSea ad y)), (1, .int x1)] [] := by
  intro n
  induction n with
  | zero => intros; exact v_eq rfl v_none
  | succ n ih =>
    intro x1 σ
    exact v_eq rfl (vb_X2_passNight_2 z y hy _ ih x1 σ)
def f_X2_passNight (y : Nat) (σ : GX) : Option (Unit × GX) :=
  k_X2_passNight_2 y FU (0 : Int32) σ
theorem vf_X2_passNight {g : Gt} {ad : Nat → Nat} (z : Zt) (y : Nat) (hy : y < 3) (σ : GX) : V g (LX ad) 6 RX2 cX2_passNight 2 none (wX g ad) iU z (f_X2_passNight y σ) σ 0 [(0, .ref (aSea ad y))] [] := by
  unfold f_X2_passNight
  refine v_iconst (pc := 0) dX2_passNight_0 ic_0 ?_
  refine v_istore_n (pc := 1) (lv' := [(1, .int (0 : Int32)), (0, .ref (aSea ad y))]) (i := 1) dX2_passNight_1 rfl (by decide) rfl ?_
  exact v_sub [1, 0] rfl (vk_X2_passNight_2 z y hy FU (0 : Int32) σ)
theorem ct_X2_passNight {g : Gt} {ad : Nat → Nat} {y : Nat} (hy : y < 3) : CT g (LX ad) yX2_passNight cX2_passNight 2 none 6 [.ref (aSea ad y)] iU (wX g ad) (f_X2_passNight y) :=
  ct_of_V (own := RX2) (lv0 := [(0, .ref (aSea ad y))]) (by decide +kernel) rfl (Nat.le_of_ble_eq_true rfl) rfl (fun z σ => vf_X2_passNight z y hy σ)
-- LighthouseLiedTo$Sea.become
theorem dX2_become_0 : decode cX2_become 0 = .ok (.aload_n 1, 1) := by decide +kernel
theorem dX2_become_1 : decode cX2_become 1 = .ok (.getfield 9, 3) := by decide +kernel
theorem dX2_become_4 : decode cX2_become 4 = .ok (.iconst 0, 1) := by decide +kernel
theorem dX2_become_5 : decode cX2_become 5 = .ok (.aload_n 0, 1) := by decide +kernel
theorem dX2_become_6 : decode cX2_become 6 = .ok (.getfield 9, 3) := by decide +kernel
theorem dX2_become_9 : decode cX2_become 9 = .ok (.iconst 0, 1) := by decide +kernel
theorem dX2_become_10 : decode cX2_become 10 = .ok (.bipush 36, 2) := by decide +kernel
theorem dX2_become_12 : decode cX2_become 12 = .ok (.invokestatic 31, 3) := by decide +kernel
theorem dX2_become_15 : decode cX2_become 15 = .ok (.aload_n 1, 1) := by decide +kernel
theorem dX2_become_16 : decode cX2_become 16 = .ok (.getfield 15, 3) := by decide +kernel
theorem dX2_become_19 : decode cX2_become 19 = .ok (.iconst 0, 1) := by decide +kernel
theorem dX2_become_20 : decode cX2_become 20 = .ok (.aload_n 0, 1) := by decide +kernel
theorem dX2_become_21 : decode cX2_become 21 = .ok (.getfield 15, 3) := by decide +kernel
theorem dX2_become_24 : decode cX2_become 24 = .ok (.iconst 0, 1) := by decide +kernel
theorem dX2_become_25 : decode cX2_become 25 = .ok (.bipush 6, 2) := by decide +kernel
theorem dX2_become_27 : decode cX2_become 27 = .ok (.invokestatic 31, 3) := by decide +kernel
theorem dX2_become_30 : decode cX2_become 30 = .ok (.aload_n 1, 1) := by decide +kernel
theorem dX2_become_31 : decode cX2_become 31 = .ok (.getfield 18, 3) := by decide +kernel
theorem dX2_become_34 : decode cX2_become 34 = .ok (.iconst 0, 1) := by decide +kernel
theorem dX2_become_35 : decode cX2_become 35 = .ok (.aload_n 0, 1) := by decide +kernel
theorem dX2_become_36 : decode cX2_become 36 = .ok (.getfield 18, 3) := by decide +kernel
theorem dX2_become_39 : decode cX2_become 39 = .ok (.iconst 0, 1) := by decide +kernel
theorem dX2_become_40 : decode cX2_become 40 = .ok (.bipush 6, 2) := by decide +kernel
theorem dX2_become_42 : decode cX2_become 42 = .ok (.invokestatic 31, 3) := by decide +kernel
theorem dX2_become_45 : decode cX2_become 45 = .ok (.aload_n 1, 1) := by decide +kernel
theorem dX2_become_46 : decode cX2_become 46 = .ok (.getfield 21, 3) := by decide +kernel
theorem dX2_become_49 : decode cX2_become 49 = .ok (.iconst 0, 1) := by decide +kernel
theorem dX2_become_50 : decode cX2_become 50 = .ok (.aload_n 0, 1) := by decide +kernel
theorem dX2_become_51 : decode cX2_become 51 = .ok (.getfield 21, 3) := by decide +kernel
theorem dX2_become_54 : decode cX2_become 54 = .ok (.iconst 0, 1) := by decide +kernel
theorem dX2_become_55 : decode cX2_become 55 = .ok (.bipush 6, 2) := by decide +kernel
theorem dX2_become_57 : decode cX2_become 57 = .ok (.invokestatic 31, 3) := by decide +kernel
theorem dX2_become_60 : decode cX2_become 60 = .ok (.aload_n 1, 1) := by decide +kernel
theorem dX2_become_61 : decode cX2_become 61 = .ok (.getfield 24, 3) := by decide +kernel
theorem dX2_become_64 : decode cX2_become 64 = .ok (.iconst 0, 1) := by decide +kernel
theorem dX2_become_65 : decode cX2_become 65 = .ok (.aload_n 0, 1) := by decide +kernel
theorem dX2_become_66 : decode cX2_become 66 = .ok (.getfield 24, 3) := by decide +kernel
theorem dX2_become_69 : decode cX2_become 69 = .ok (.iconst 0, 1) := by decide +kernel
theorem dX2_become_70 : decode cX2_become 70 = .ok (.bipush 6, 2) := by decide +kernel
theorem dX2_become_72 : decode cX2_become 72 = .ok (.invokestatic 31, 3) := by decide +kernel
theorem dX2_become_75 : decode cX2_become 75 = .ok (.aload_n 0, 1) := by decide +kernel
theorem dX2_become_76 : decode cX2_become 76 = .ok (.aload_n 1, 1) := by decide +kernel
theorem dX2_become_77 : decode cX2_become 77 = .ok (.getfield 37, 3) := by decide +kernel
theorem dX2_become_80 : decode cX2_become 80 = .ok (.putfield 37, 3) := by decide +kernel
theorem dX2_become_83 : decode cX2_become 83 = .ok (.aload_n 0, 1) := by decide +kernel
theorem dX2_become_84 : decode cX2_become 84 = .ok (.aload_n 1, 1) := by decide +kernel
theorem dX2_become_85 : decode cX2_become 85 = .ok (.getfield 41, 3) := by decide +kernel
theorem dX2_become_88 : decode cX2_become 88 = .ok (.putfield 41, 3) := by decide +kernel
theorem dX2_become_91 : decode cX2_become 91 = .ok (.aload_n 0, 1) := by decide +kernel
theorem dX2_become_92 : decode cX2_become 92 = .ok (.aload_n 1, 1) := by decide +kernel
theorem dX2_become_93 : decode cX2_become 93 = .ok (.getfield 45, 3) := by decide +kernel
theorem dX2_become_96 : decode cX2_become 96 = .ok (.putfield 45, 3) := by decide +kernel
theorem dX2_become_99 : decode cX2_become 99 = .ok (.aload_n 0, 1) := by decide +kernel
theorem dX2_become_100 : decode cX2_become 100 = .ok (.aload_n 1, 1) := by decide +kernel
theorem dX2_become_101 : decode cX2_become 101 = .ok (.getfield 48, 3) := by decide +kernel
theorem dX2_become_104 : decode cX2_become 104 = .ok (.putfield 48, 3) := by decide +kernel
theorem dX2_become_107 : decode cX2_become 107 = .ok (.aload_n 0, 1) := by decide +kernel
theorem dX2_become_108 : decode cX2_become 108 = .ok (.aload_n 1, 1) := by decide +kernel
theorem dX2_become_109 : decode cX2_become 109 = .ok (.getfield 51, 3) := by decide +kernel
theorem dX2_become_112 : decode cX2_become 112 = .ok (.putfield 51, 3) := by decide +kernel
theorem dX2_become_115 : decode cX2_become 115 = .ok (.aload_n 0, 1) := by decide +kernel
theorem dX2_become_116 : decode cX2_become 116 = .ok (.aload_n 1, 1) := by decide +kernel
theorem dX2_become_117 : decode cX2_become 117 = .ok (.getfield 54, 3) := by decide +kernel
theorem dX2_become_120 : decode cX2_become 120 = .ok (.putfield 54, 3) := by decide +kernel
theorem dX2_become_123 : decode cX2_become 123 = .ok (.return_, 1) := by decide +kernel
def f_X2_become (y : Nat) (y1 : Nat) (σ : GX) : Option (Unit × GX) :=
  cpG (0 : Int32) (0 : Int32) (36 : Int32) 36 36 (bnd (some (cB σ y1 0 y 0 (0 : Int32).toNatClampNeg (0 : Int32).toNatClampNeg (36 : Int32).toNatClampNeg)) fun σ1 => cpG (0 : Int32) (0 : Int32) (6 : Int32) 6 6 (bnd (some (cB σ1 y1 1 y 1 (0 : Int32).toNatClampNeg (0 : Int32).toNatClampNeg (6 : Int32).toNatClampNeg)) fun σ2 => cpG (0 : Int32) (0 : Int32) (6 : Int32) 6 6 (bnd (some (cB σ2 y1 2 y 2 (0 : Int32).toNatClampNeg (0 : Int32).toNatClampNeg (6 : Int32).toNatClampNeg)) fun σ3 => cpG (0 : Int32) (0 : Int32) (6 : Int32) 6 6 (bnd (some (cB σ3 y1 3 y 3 (0 : Int32).toNatClampNeg (0 : Int32).toNatClampNeg (6 : Int32).toNatClampNeg)) fun σ4 => cpG (0 : Int32) (0 : Int32) (6 : Int32) 6 6 (bnd (some (cB σ4 y1 4 y 4 (0 : Int32).toNatClampNeg (0 : Int32).toNatClampNeg (6 : Int32).toNatClampNeg)) fun σ5 => bnd (some (sR σ5 y (xR σ5 y1))) fun σ6 => bnd (some (sS σ6 y 0 (xS σ6 y1 0))) fun σ7 => bnd (some (sS σ7 y 1 (xS σ7 y1 1))) fun σ8 => bnd (some (sS σ8 y 2 (xS σ8 y1 2))) fun σ9 => bnd (some (sS σ9 y 3 (xS σ9 y1 3))) fun σ10 => bnd (some (sS σ10 y 4 (xS σ10 y1 4))) fun σ11 => some ((), σ11))))))
theorem vf_X2_become {g : Gt} {ad : Nat → Nat} (z : Zt) (y : Nat) (y1 : Nat) (hy : y < 3) (hy1 : y1 < 3) (σ : GX) : V g (LX ad) 1 RX2 cX2_become 2 none (wX g ad) iU z (f_X2_become y y1 σ) σ 0 [(0, .ref (aSea ad y)), (1, .ref (aSea ad y1))] [] := by
  unfold f_X2_become
  refine v_aload_n (pc := 0) (i := 1) dX2_become_0 rfl rfl ?_
  refine gX2_belief (pc := 1) (y := y1) hy1 q_148 dX2_become_1 ?_
  refine v_iconst (pc := 4) dX2_become_4 ic_0 ?_
  refine v_aload_n (pc := 5) (i := 0) dX2_become_5 rfl rfl ?_
  refine gX2_belief (pc := 6) (y := y) hy q_148 dX2_become_6 ?_
  refine v_iconst (pc := 9) dX2_become_9 ic_0 ?_
  refine v_bipush (pc := 10) dX2_become_10 bp_36 ?_
  refine v_cpy_sea0 (pc := 12) (y1 := y1) hy1 (y := y) hy q_525 (by decide) (Nat.le_of_ble_eq_true rfl) dX2_become_12 ?_
  refine v_nms (fun σ1 => ?_)
  refine v_aload_n (pc := 15) (i := 1) dX2_become_15 rfl rfl ?_
  refine gX2_kind (pc := 16) (y := y1) hy1 q_151 dX2_become_16 ?_
  refine v_iconst (pc := 19) dX2_become_19 ic_0 ?_
  refine v_aload_n (pc := 20) (i := 0) dX2_become_20 rfl rfl ?_
  refine gX2_kind (pc := 21) (y := y) hy q_151 dX2_become_21 ?_
  refine v_iconst (pc := 24) dX2_become_24 ic_0 ?_
  refine v_bipush (pc := 25) dX2_become_25 bp_6 ?_
  refine v_cpy_sea1 (pc := 27) (y1 := y1) hy1 (y := y) hy q_525 (by decide) (Nat.le_of_ble_eq_true rfl) dX2_become_27 ?_
  refine v_nms (fun σ2 => ?_)
  refine v_aload_n (pc := 30) (i := 1) dX2_become_30 rfl rfl ?_
  refine gX2_more (pc := 31) (y := y1) hy1 q_153 dX2_become_31 ?_
  refine v_iconst (pc := 34) dX2_become_34 ic_0 ?_
  refine v_aload_n (pc := 35) (i := 0) dX2_become_35 rfl rfl ?_
  refine gX2_more (pc := 36) (y := y) hy q_153 dX2_become_36 ?_
  refine v_iconst (pc := 39) dX2_become_39 ic_0 ?_
  refine v_bipush (pc := 40) dX2_become_40 bp_6 ?_
  refine v_cpy_sea2 (pc := 42) (y1 := y1) hy1 (y := y) hy q_525 (by decide) (Nat.le_of_ble_eq_true rfl) dX2_become_42 ?_
  refine v_nms (fun σ3 => ?_)
  refine v_aload_n (pc := 45) (i := 1) dX2_become_45 rfl rfl ?_
  refine gX2_cell (pc := 46) (y := y1) hy1 q_155 dX2_become_46 ?_
  refine v_iconst (pc := 49) dX2_become_49 ic_0 ?_
  refine v_aload_n (pc := 50) (i := 0) dX2_become_50 rfl rfl ?_
  refine gX2_cell (pc := 51) (y := y) hy q_155 dX2_become_51 ?_
  refine v_iconst (pc := 54) dX2_become_54 ic_0 ?_
  refine v_bipush (pc := 55) dX2_become_55 bp_6 ?_
  refine v_cpy_sea3 (pc := 57) (y1 := y1) hy1 (y := y) hy q_525 (by decide) (Nat.le_of_ble_eq_true rfl) dX2_become_57 ?_
  refine v_nms (fun σ4 => ?_)
  refine v_aload_n (pc := 60) (i := 1) dX2_become_60 rfl rfl ?_
  refine gX2_draught (pc := 61) (y := y1) hy1 q_157 dX2_become_61 ?_
  refine v_iconst (pc := 64) dX2_become_64 ic_0 ?_
  refine v_aload_n (pc := 65) (i := 0) dX2_become_65 rfl rfl ?_
  refine gX2_draught (pc := 66) (y := y) hy q_157 dX2_become_66 ?_
  refine v_iconst (pc := 69) dX2_become_69 ic_0 ?_
  refine v_bipush (pc := 70) dX2_become_70 bp_6 ?_
  refine v_cpy_sea4 (pc := 72) (y1 := y1) hy1 (y := y) hy q_525 (by decide) (Nat.le_of_ble_eq_true rfl) dX2_become_72 ?_
  refine v_nms (fun σ5 => ?_)
  refine v_aload_n (pc := 75) (i := 0) dX2_become_75 rfl rfl ?_
  refine v_aload_n (pc := 76) (i := 1) dX2_become_76 rfl rfl ?_
  refine gX2_rocks (pc := 77) (y := y1) hy1 q_159 dX2_become_77 ?_
  refine pX2_rocks (pc := 80) (y := y) hy q_159 dX2_become_80 ?_
  refine v_nms (fun σ6 => ?_)
  refine v_aload_n (pc := 83) (i := 0) dX2_become_83 rfl rfl ?_
  refine v_aload_n (pc := 84) (i := 1) dX2_become_84 rfl rfl ?_
  refine gX2_lost (pc := 85) (y := y1) hy1 q_161 dX2_become_85 ?_
  refine pX2_lost (pc := 88) (y := y) hy q_161 dX2_become_88 ?_
  refine v_nms (fun σ7 => ?_)
  refine v_aload_n (pc := 91) (i := 0) dX2_become_91 rfl rfl ?_
  refine v_aload_n (pc := 92) (i := 1) dX2_become_92 rfl rfl ?_
  refine gX2_ships (pc := 93) (y := y1) hy1 q_164 dX2_become_93 ?_
  refine pX2_ships (pc := 96) (y := y) hy q_164 dX2_become_96 ?_
  refine v_nms (fun σ8 => ?_)
  refine v_aload_n (pc := 99) (i := 0) dX2_become_99 rfl rfl ?_
  refine v_aload_n (pc := 100) (i := 1) dX2_become_100 rfl rfl ?_
  refine gX2_doubt (pc := 101) (y := y1) hy1 q_166 dX2_become_101 ?_
  refine pX2_doubt (pc := 104) (y := y) hy q_166 dX2_become_104 ?_
  refine v_nms (fun σ9 => ?_)
  refine v_aload_n (pc := 107) (i := 0) dX2_become_107 rfl rfl ?_
  refine v_aload_n (pc := 108) (i := 1) dX2_become_108 rfl rfl ?_
  refine gX2_night (pc := 109) (y := y1) hy1 q_169 dX2_become_109 ?_
  refine pX2_night (pc := 112) (y := y) hy q_169 dX2_become_112 ?_
  refine v_nms (fun σ10 => ?_)
  refine v_aload_n (pc := 115) (i := 0) dX2_become_115 rfl rfl ?_
  refine v_aload_n (pc := 116) (i := 1) dX2_become_116 rfl rfl ?_
  refine gX2_law (pc := 117) (y := y1) hy1 q_172 dX2_become_117 ?_
  refine pX2_law (pc := 120) (y := y) hy q_172 dX2_become_120 ?_
  refine v_nms (fun σ11 => ?_)
  exact v_ret (pc := 123) dX2_become_123
theorem ct_X2_become {g : Gt} {ad : Nat → Nat} {y : Nat} {y1 : Nat} (hy : y < 3) (hy1 : y1 < 3) : CT g (LX ad) yX2_become cX2_become 2 none 1 [.ref (aSea ad y), .ref (aSea ad y1)] iU (wX g ad) (f_X2_become y y1) :=
  ct_of_V (own := RX2) (lv0 := [(0, .ref (aSea ad y)), (1, .ref (aSea ad y1))]) (by decide +kernel) rfl (Nat.le_of_ble_eq_true rfl) rfl (fun z σ => vf_X2_become z y y1 hy hy1 σ)
-- LighthouseLiedTo$Sea.lossesIn
theorem dX2_lossesIn_0 : decode cX2_lossesIn 0 = .ok (.aload_n 0, 1) := by decide +kernel
theorem dX2_lossesIn_1 : decode cX2_lossesIn 1 = .ok (.getfield 41, 3) := by decide +kernel
theorem dX2_lossesIn_4 : decode cX2_lossesIn 4 = .ok (.istore_n 2, 1) := by decide +kernel
theorem dX2_lossesIn_5 : decode cX2_lossesIn 5 = .ok (.iconst 0, 1) := by decide +kernel
theorem dX2_lossesIn_6 : decode cX2_lossesIn 6 = .ok (.istore_n 3, 1) := by decide +kernel
theorem dX2_lossesIn_7 : decode cX2_lossesIn 7 = .ok (.iload_n 3, 1) := by decide +kernel
theorem dX2_lossesIn_8 : decode cX2_lossesIn 8 = .ok (.iload_n 1, 1) := by decide +kernel
theorem dX2_lossesIn_9 : decode cX2_lossesIn 9 = .ok (.if_icmp .ge 13, 3) := by decide +kernel
theorem dX2_lossesIn_12 : decode cX2_lossesIn 12 = .ok (.aload_n 0, 1) := by decide +kernel
theorem dX2_lossesIn_13 : decode cX2_lossesIn 13 = .ok (.invokevirtual 106, 3) := by decide +kernel
theorem dX2_lossesIn_16 : decode cX2_lossesIn 16 = .ok (.iinc 3 1, 3) := by decide +kernel
theorem dX2_lossesIn_19 : decode cX2_lossesIn 19 = .ok (.goto (-12), 3) := by decide +kernel
theorem dX2_lossesIn_22 : decode cX2_lossesIn 22 = .ok (.aload_n 0, 1) := by decide +kernel
theorem dX2_lossesIn_23 : decode cX2_lossesIn 23 = .ok (.getfield 41, 3) := by decide +kernel
theorem dX2_lossesIn_26 : decode cX2_lossesIn 26 = .ok (.iload_n 2, 1) := by decide +kernel
theorem dX2_lossesIn_27 : decode cX2_lossesIn 27 = .ok (.iconst (-1), 1) := by decide +kernel
theorem dX2_lossesIn_28 : decode cX2_lossesIn 28 = .ok (.ixor, 1) := by decide +kernel
theorem dX2_lossesIn_29 : decode cX2_lossesIn 29 = .ok (.iand, 1) := by decide +kernel
theorem dX2_lossesIn_30 : decode cX2_lossesIn 30 = .ok (.invokestatic 109, 3) := by decide +kernel
theorem dX2_lossesIn_33 : decode cX2_lossesIn 33 = .ok (.ireturn, 1) := by decide +kernel
def b_X2_lossesIn_7 (y : Nat) (kc7 : Int32 → Int32 → Int32 → GX → Option (Int32 × GX)) (x1 : Int32) (x2 : Int32) (x3 : Int32) (σ : GX) : Option (Int32 × GX) :=
  if x1 ≤ x3 then (bnd (f_J6_bitCount_0f7a4 ((xS σ y 0) &&& (x2 ^^^ (-1 : Int32))) σ) fun q2 => some (q2.1, q2.2)) else (bnd (f_X2_passNight y σ) fun q3 => kc7 x1 x2 (x3 + (1 : Int32)) q3.2)
theorem vb_X2_lossesIn_7 {g : Gt} {ad : Nat → Nat} (z : Zt) (y : Nat) (hy : y < 3) (kc7 : Int32 → Int32 → Int32 → GX → Option (Int32 × GX)) (hkc7 : ∀ (x1 : Int32) (x2 : Int32) (x3 : Int32) (σ : GX), V g (LX ad) 7 RX2 cX2_lossesIn 4 (some .int) (wX g ad) iI z (kc7 x1 x2 x3 σ) σ 7 [(0, .ref (aSea ad y)), (1, .int x1), (2, .int x2), (3, .int x3)] []) (x1 : Int32) (x2 : Int32) (x3 : Int32) (σ : GX) : V g (LX ad) 7 RX2 cX2_lossesIn 4 (some .int) (wX g ad) iI z (b_X2_lossesIn_7 y kc7 x1 x2 x3 σ) σ 7 [(0, .ref (aSea ad y)), (1, .int x1), (2, .int x2), (3, .int x3)] [] := by
  unfold b_X2_lossesIn_7
  refine v_iload_n (pc := 7) (i := 3) dX2_lossesIn_7 rfl rfl ?_
  refine v_iload_n (pc := 8) (i := 1) dX2_lossesIn_8 rfl rfl ?_
  refine v_icmp_ge (pc := 9) (tgt := 22) dX2_lossesIn_9 rfl ?_ ?_
  · refine v_aload_n (pc := 22) (i := 0) dX2_lossesIn_22 rfl rfl ?_
    refine gX2_lost (pc := 23) (y := y) hy q_161 dX2_lossesIn_23 ?_
    refine v_iload_n (pc := 26) (i := 2) dX2_lossesIn_26 rfl rfl ?_
    refine v_iconst (pc := 27) dX2_lossesIn_27 ic_m1 ?_
    refine v_ixor (pc := 28) dX2_lossesIn_28 ?_
    refine v_iand (pc := 29) dX2_lossesIn_29 ?_
    refine v_callSi (pc := 30) (av := [.int ((xS σ y 0) &&& (x2 ^^^ (-1 : Int32)))]) (rest := []) (ct_J6_bitCount_0f7a4 ((xS σ y 0) &&& (x2 ^^^ (-1 : Int32)))) mi_J6_bitCount_0f7a4 q_533 (by decide) rfl rfl (Nat.le_of_ble_eq_true rfl) dX2_lossesIn_30 (fun q2 => ?_)
    exact v_iret (pc := 33) dX2_lossesIn_33
  · refine v_aload_n (pc := 12) (i := 0) dX2_lossesIn_12 rfl rfl ?_
    refine v_callVv (pc := 13) (rcX2 hy) (As := []) (rest := []) (ct_X2_passNight hy) mi_X2_passNight q_532 (by decide) rfl rfl (Nat.le_of_ble_eq_true rfl) dX2_lossesIn_13 (fun q3 => ?_)
    refine v_iinc (pc := 16) (lv' := [(3, .int (x3 + (1 : Int32))), (0, .ref (aSea ad y)), (1, .int x1), (2, .int x2)]) (i := 3) dX2_lossesIn_16 rfl ic_1 (by decide) rfl ?_
    refine v_goto (pc := 19) (tgt := 7) dX2_lossesIn_19 rfl ?_
    exact v_sub [1, 2, 3, 0] rfl (hkc7 x1 x2 (x3 + (1 : Int32)) q3.2)
def k_X2_lossesIn_7 (y : Nat) : Nat → Int32 → Int32 → Int32 → GX → Option (Int32 × GX)
  | 0 => fun _ _ _ _ => none
  | n + 1 => b_X2_lossesIn_7 y (k_X2_lossesIn_7 y n)
theorem vk_X2_lossesIn_7 {g : Gt} {ad : Nat → Nat} (z : Zt) (y : Nat) (hy : y < 3) : ∀ (n : Nat) (x1 : Int32) (x2 : Int32) (x3 : Int32) (σ : GX), V g (LX ad) 7 RX2 cX2_lossesIn 4 (some .int) (wX g ad) iI z (k_X2_lossesIn_7 y n x1 x2 x3 σ) σ 7 [(0, .ref (aSea ad y)), (1, .int x1), (2, .int x2), (3, .int x3)] [] := by
  intro n
  induction n with
  | zero => intros; exact v_eq rfl v_none
  | succ n ih =>
    intro x1 x2 x3 σ
    exact v_eq rfl (vb_X2_lossesIn_7 z y hy _ ih x1 x2 x3 σ)
def f_X2_lossesIn (y : Nat) (x1 : Int32) (σ : GX) : Option (Int32 × GX) :=
  bnd (some (xS σ y 0)) fun w1 => k_X2_lossesIn_7 y FU x1 w1 (0 : Int32) σ
theorem vf_X2_lossesIn {g : Gt} {ad : Nat → Nat} (z : Zt) (y : Nat) (hy : y < 3) (x1 : Int32) (σ : GX) : V g (LX ad) 7 RX2 cX2_lossesIn 4 (some .int) (wX g ad) iI z (f_X2_lossesIn y x1 σ) σ 0 [(0, .ref (aSea ad y)), (1, .int x1)] [] := by
  unfold f_X2_lossesIn
  refine v_aload_n (pc := 0) (i := 0) dX2_lossesIn_0 rfl rfl ?_
  refine gX2_lost (pc := 1) (y := y) hy q_161 dX2_lossesIn_1 ?_
  refine v_nmi (fun w1 => ?_)
  refine v_istore_n (pc := 4) (lv' := [(2, .int w1), (0, .ref (aSea ad y)), (1, .int x1)]) (i := 2) dX2_lossesIn_4 rfl (by decide) rfl ?_
  refine v_iconst (pc := 5) dX2_lossesIn_5 ic_0 ?_
  refine v_istore_n (pc := 6) (lv' := [(3, .int (0 : Int32)), (2, .int w1), (0, .ref (aSea ad y)), (1, .int x1)]) (i := 3) dX2_lossesIn_6 rfl (by decide) rfl ?_
  exact v_sub [2, 3, 1, 0] rfl (vk_X2_lossesIn_7 z y hy FU x1 w1 (0 : Int32) σ)
theorem ct_X2_lossesIn {g : Gt} {ad : Nat → Nat} {y : Nat} (hy : y < 3) (x1 : Int32) : CT g (LX ad) yX2_lossesIn cX2_lossesIn 4 (some .int) 7 [.ref (aSea ad y), .int x1] iI (wX g ad) (f_X2_lossesIn y x1) :=
  ct_of_V (own := RX2) (lv0 := [(0, .ref (aSea ad y)), (1, .int x1)]) (by decide +kernel) rfl (Nat.le_of_ble_eq_true rfl) rfl (fun z σ => vf_X2_lossesIn z y hy x1 σ)
-- LighthouseLiedTo$Sea.allBelief
theorem dX2_allBelief_0 : decode cX2_allBelief 0 = .ok (.iconst 0, 1) := by decide +kernel
theorem dX2_allBelief_1 : decode cX2_allBelief 1 = .ok (.istore_n 1, 1) := by decide +kernel
theorem dX2_allBelief_2 : decode cX2_allBelief 2 = .ok (.iconst 0, 1) := by decide +kernel
theorem dX2_allBelief_3 : decode cX2_allBelief 3 = .ok (.istore_n 2, 1) := by decide +kernel
theorem dX2_allBelief_4 : decode cX2_allBelief 4 = .ok (.iload_n 2, 1) := by decide +kernel
theorem dX2_allBelief_5 : decode cX2_allBelief 5 = .ok (.bipush 36, 2) := by decide +kernel
theorem dX2_allBelief_7 : decode cX2_allBelief 7 = .ok (.if_icmp .ge 18, 3) := by decide +kernel
theorem dX2_allBelief_10 : decode cX2_allBelief 10 = .ok (.iload_n 1, 1) := by decide +kernel
theorem dX2_allBelief_11 : decode cX2_allBelief 11 = .ok (.aload_n 0, 1) := by decide +kernel
theorem dX2_allBelief_12 : decode cX2_allBelief 12 = .ok (.getfield 9, 3) := by decide +kernel
theorem dX2_allBelief_15 : decode cX2_allBelief 15 = .ok (.iload_n 2, 1) := by decide +kernel
theorem dX2_allBelief_16 : decode cX2_allBelief 16 = .ok (.iaload, 1) := by decide +kernel
theorem dX2_allBelief_17 : decode cX2_allBelief 17 = .ok (.iadd, 1) := by decide +kernel
theorem dX2_allBelief_18 : decode cX2_allBelief 18 = .ok (.istore_n 1, 1) := by decide +kernel
theorem dX2_allBelief_19 : decode cX2_allBelief 19 = .ok (.iinc 2 1, 3) := by decide +kernel
theorem dX2_allBelief_22 : decode cX2_allBelief 22 = .ok (.goto (-18), 3) := by decide +kernel
theorem dX2_allBelief_25 : decode cX2_allBelief 25 = .ok (.iload_n 1, 1) := by decide +kernel
theorem dX2_allBelief_26 : decode cX2_allBelief 26 = .ok (.ireturn, 1) := by decide +kernel
def b_X2_allBelief_4 (y : Nat) (kc4 : Int32 → Int32 → GX → Option (Int32 × GX)) (x1 : Int32) (x2 : Int32) (σ : GX) : Option (Int32 × GX) :=
  if (36 : Int32) ≤ x2 then (some (x1, σ)) else (grd x2 36 (bnd (some (x1 + (xB σ y 0 x2.toNatClampNeg))) fun w1 => kc4 w1 (x2 + (1 : Int32)) σ))
theorem vb_X2_allBelief_4 {g : Gt} {ad : Nat → Nat} (z : Zt) (y : Nat) (hy : y < 3) (kc4 : Int32 → Int32 → GX → Option (Int32 × GX)) (hkc4 : ∀ (x1 : Int32) (x2 : Int32) (σ : GX), V g (LX ad) 1 RX2 cX2_allBelief 3 (some .int) (wX g ad) iI z (kc4 x1 x2 σ) σ 4 [(0, .ref (aSea ad y)), (1, .int x1), (2, .int x2)] []) (x1 : Int32) (x2 : Int32) (σ : GX) : V g (LX ad) 1 RX2 cX2_allBelief 3 (some .int) (wX g ad) iI z (b_X2_allBelief_4 y kc4 x1 x2 σ) σ 4 [(0, .ref (aSea ad y)), (1, .int x1), (2, .int x2)] [] := by
  unfold b_X2_allBelief_4
  refine v_iload_n (pc := 4) (i := 2) dX2_allBelief_4 rfl rfl ?_
  refine v_bipush (pc := 5) dX2_allBelief_5 bp_36 ?_
  refine v_icmp_ge (pc := 7) (tgt := 25) dX2_allBelief_7 rfl ?_ ?_
  · refine v_iload_n (pc := 25) (i := 1) dX2_allBelief_25 rfl rfl ?_
    exact v_iret (pc := 26) dX2_allBelief_26
  · refine v_iload_n (pc := 10) (i := 1) dX2_allBelief_10 rfl rfl ?_
    refine v_aload_n (pc := 11) (i := 0) dX2_allBelief_11 rfl rfl ?_
    refine gX2_belief (pc := 12) (y := y) hy q_148 dX2_allBelief_12 ?_
    refine v_iload_n (pc := 15) (i := 2) dX2_allBelief_15 rfl rfl ?_
    refine lX_sea0 (pc := 16) (y := y) hy dX2_allBelief_16 ?_
    refine v_iadd (pc := 17) dX2_allBelief_17 ?_
    refine v_nmi (fun w1 => ?_)
    refine v_istore_n (pc := 18) (lv' := [(1, .int w1), (0, .ref (aSea ad y)), (2, .int x2)]) (i := 1) dX2_allBelief_18 rfl (by decide) rfl ?_
    refine v_iinc (pc := 19) (lv' := [(2, .int (x2 + (1 : Int32))), (1, .int w1), (0, .ref (aSea ad y))]) (i := 2) dX2_allBelief_19 rfl ic_1 (by decide) rfl ?_
    refine v_goto (pc := 22) (tgt := 4) dX2_allBelief_22 rfl ?_
    exact v_sub [2, 1, 0] rfl (hkc4 w1 (x2 + (1 : Int32)) σ)
def k_X2_allBelief_4 (y : Nat) : Nat → Int32 → Int32 → GX → Option (Int32 × GX)
  | 0 => fun _ _ _ => none
  | n + 1 => b_X2_allBelief_4 y (k_X2_allBelief_4 y n)
theorem vk_X2_allBelief_4 {g : Gt} {ad : Nat → Nat} (z : Zt) (y : Nat) (hy : y < 3) : ∀ (n : Nat) (x1 : Int32) (x2 : Int32) (σ : GX), V g (LX ad) 1 RX2 cX2_allBelief 3 (some .int) (wX g ad) iI z (k_X2_allBelief_4 y n x1 x2 σ) σ 4 [(0, .ref (aSea ad y)), (1, .int x1), (2, .int x2)] [] := by
  intro n
  induction n with
  | zero => intros; exact v_eq rfl v_none
  | succ n ih =>
    intro x1 x2 σ
    exact v_eq rfl (vb_X2_allBelief_4 z y hy _ ih x1 x2 σ)
def f_X2_allBelief (y : Nat) (σ : GX) : Option (Int32 × GX) :=
  k_X2_allBelief_4 y FU (0 : Int32) (0 : Int32) σ
theorem vf_X2_allBelief {g : Gt} {ad : Nat → Nat} (z : Zt) (y : Nat) (hy : y < 3) (σ : GX) : V g (LX ad) 1 RX2 cX2_allBelief 3 (some .int) (wX g ad) iI z (f_X2_allBelief y σ) σ 0 [(0, .ref (aSea ad y))] [] := by
  unfold f_X2_allBelief
  refine v_iconst (pc := 0) dX2_allBelief_0 ic_0 ?_
  refine v_istore_n (pc := 1) (lv' := [(1, .int (0 : Int32)), (0, .ref (aSea ad y))]) (i := 1) dX2_allBelief_1 rfl (by decide) rfl ?_
  refine v_iconst (pc := 2) dX2_allBelief_2 ic_0 ?_
  refine v_istore_n (pc := 3) (lv' := [(2, .int (0 : Int32)), (1, .int (0 : Int32)), (0, .ref (aSea ad y))]) (i := 2) dX2_allBelief_3 rfl (by decide) rfl ?_
  exact v_sub [2, 1, 0] rfl (vk_X2_allBelief_4 z y hy FU (0 : Int32) (0 : Int32) σ)
theorem ct_X2_allBelief {g : Gt} {ad : Nat → Nat} {y : Nat} (hy : y < 3) : CT g (LX ad) yX2_allBelief cX2_allBelief 3 (some .int) 1 [.ref (aSea ad y)] iI (wX g ad) (f_X2_allBelief y) :=
  ct_of_V (own := RX2) (lv0 := [(0, .ref (aSea ad y))]) (by decide +kernel) rfl (Nat.le_of_ble_eq_true rfl) rfl (fun z σ => vf_X2_allBelief z y hy σ)
-- LighthouseLiedTo$Sea.brightest
theorem dX2_brightest_0 : decode cX2_brightest 0 = .ok (.lconst 0, 1) := by decide +kernel
theorem dX2_brightest_1 : decode cX2_brightest 1 = .ok (.lstore_n 1, 1) := by decide +kernel
theorem dX2_brightest_2 : decode cX2_brightest 2 = .ok (.bipush (-100), 2) := by decide +kernel
theorem dX2_brightest_4 : decode cX2_brightest 4 = .ok (.istore_n 3, 1) := by decide +kernel
theorem dX2_brightest_5 : decode cX2_brightest 5 = .ok (.iconst 0, 1) := by decide +kernel
theorem dX2_brightest_6 : decode cX2_brightest 6 = .ok (.istore 4, 2) := by decide +kernel
theorem dX2_brightest_8 : decode cX2_brightest 8 = .ok (.iload 4, 2) := by decide +kernel
theorem dX2_brightest_10 : decode cX2_brightest 10 = .ok (.bipush 36, 2) := by decide +kernel
theorem dX2_brightest_12 : decode cX2_brightest 12 = .ok (.if_icmp .ge 43, 3) := by decide +kernel
theorem dX2_brightest_15 : decode cX2_brightest 15 = .ok (.aload_n 0, 1) := by decide +kernel
theorem dX2_brightest_16 : decode cX2_brightest 16 = .ok (.iconst 0, 1) := by decide +kernel
theorem dX2_brightest_17 : decode cX2_brightest 17 = .ok (.iload 4, 2) := by decide +kernel
theorem dX2_brightest_19 : decode cX2_brightest 19 = .ok (.iconst 0, 1) := by decide +kernel
theorem dX2_brightest_20 : decode cX2_brightest 20 = .ok (.invokevirtual 61, 3) := by decide +kernel
theorem dX2_brightest_23 : decode cX2_brightest 23 = .ok (.istore 5, 2) := by decide +kernel
theorem dX2_brightest_25 : decode cX2_brightest 25 = .ok (.iload 5, 2) := by decide +kernel
theorem dX2_brightest_27 : decode cX2_brightest 27 = .ok (.iload_n 3, 1) := by decide +kernel
theorem dX2_brightest_28 : decode cX2_brightest 28 = .ok (.if_icmp .le 8, 3) := by decide +kernel
theorem dX2_brightest_31 : decode cX2_brightest 31 = .ok (.iload 5, 2) := by decide +kernel
theorem dX2_brightest_33 : decode cX2_brightest 33 = .ok (.istore_n 3, 1) := by decide +kernel
theorem dX2_brightest_34 : decode cX2_brightest 34 = .ok (.lconst 0, 1) := by decide +kernel
theorem dX2_brightest_35 : decode cX2_brightest 35 = .ok (.lstore_n 1, 1) := by decide +kernel
theorem dX2_brightest_36 : decode cX2_brightest 36 = .ok (.iload 5, 2) := by decide +kernel
theorem dX2_brightest_38 : decode cX2_brightest 38 = .ok (.iload_n 3, 1) := by decide +kernel
theorem dX2_brightest_39 : decode cX2_brightest 39 = .ok (.if_icmp .ne 10, 3) := by decide +kernel
theorem dX2_brightest_42 : decode cX2_brightest 42 = .ok (.lload_n 1, 1) := by decide +kernel
theorem dX2_brightest_43 : decode cX2_brightest 43 = .ok (.lconst 1, 1) := by decide +kernel
theorem dX2_brightest_44 : decode cX2_brightest 44 = .ok (.iload 4, 2) := by decide +kernel
theorem dX2_brightest_46 : decode cX2_brightest 46 = .ok (.lshl, 1) := by decide +kernel
theorem dX2_brightest_47 : decode cX2_brightest 47 = .ok (.lor, 1) := by decide +kernel
theorem dX2_brightest_48 : decode cX2_brightest 48 = .ok (.lstore_n 1, 1) := by decide +kernel
theorem dX2_brightest_49 : decode cX2_brightest 49 = .ok (.iinc 4 1, 3) := by decide +kernel
theorem dX2_brightest_52 : decode cX2_brightest 52 = .ok (.goto (-44), 3) := by decide +kernel
theorem dX2_brightest_55 : decode cX2_brightest 55 = .ok (.lload_n 1, 1) := by decide +kernel
theorem dX2_brightest_56 : decode cX2_brightest 56 = .ok (.lreturn, 1) := by decide +kernel
def b_X2_brightest_36 (y : Nat) (kc8 : Int64 → Int32 → Int32 → GX → Option (Int64 × GX)) (x1 : Int64) (x3 : Int32) (x4 : Int32) (x5 : Int32) (σ : GX) : Option (Int64 × GX) :=
  if x5 ≠ x3 then (kc8 x1 x3 (x4 + (1 : Int32)) σ) else (bnd (some (x1 ||| (slL (1 : Int64) x4))) fun w2 => kc8 w2 x3 (x4 + (1 : Int32)) σ)
theorem vb_X2_brightest_36 {g : Gt} {ad : Nat → Nat} (z : Zt) (y : Nat) (hy : y < 3) (kc8 : Int64 → Int32 → Int32 → GX → Option (Int64 × GX)) (hkc8 : ∀ (x1 : Int64) (x3 : Int32) (x4 : Int32) (σ : GX), V g (LX ad) 4 RX2 cX2_brightest 6 (some .long) (wX g ad) iL z (kc8 x1 x3 x4 σ) σ 8 [(0, .ref (aSea ad y)), (1, .long x1), (3, .int x3), (4, .int x4)] []) (x1 : Int64) (x3 : Int32) (x4 : Int32) (x5 : Int32) (σ : GX) : V g (LX ad) 4 RX2 cX2_brightest 6 (some .long) (wX g ad) iL z (b_X2_brightest_36 y kc8 x1 x3 x4 x5 σ) σ 36 [(0, .ref (aSea ad y)), (1, .long x1), (3, .int x3), (4, .int x4), (5, .int x5)] [] := by
  unfold b_X2_brightest_36
  refine v_iload (pc := 36) (i := 5) dX2_brightest_36 rfl ?_
  refine v_iload_n (pc := 38) (i := 3) dX2_brightest_38 rfl rfl ?_
  refine v_icmp_ne (pc := 39) (tgt := 49) dX2_brightest_39 rfl ?_ ?_
  · refine v_iinc (pc := 49) (lv' := [(4, .int (x4 + (1 : Int32))), (0, .ref (aSea ad y)), (1, .long x1), (3, .int x3), (5, .int x5)]) (i := 4) dX2_brightest_49 rfl ic_1 (by decide) rfl ?_
    refine v_goto (pc := 52) (tgt := 8) dX2_brightest_52 rfl ?_
    exact v_sub [1, 2, 3, 0] rfl (hkc8 x1 x3 (x4 + (1 : Int32)) σ)
  · refine v_lload_n (pc := 42) (i := 1) dX2_brightest_42 rfl rfl ?_
    refine v_lconst (pc := 43) dX2_brightest_43 lc_1 ?_
    refine v_iload (pc := 44) (i := 4) dX2_brightest_44 rfl ?_
    refine v_lshl (pc := 46) dX2_brightest_46 ?_
    refine v_lor (pc := 47) dX2_brightest_47 ?_
    refine v_nml (fun w2 => ?_)
    refine v_lstore_n (pc := 48) (lv' := [(1, .long w2), (0, .ref (aSea ad y)), (3, .int x3), (4, .int x4), (5, .int x5)]) (i := 1) dX2_brightest_48 rfl (by decide) rfl ?_
    refine v_iinc (pc := 49) (lv' := [(4, .int (x4 + (1 : Int32))), (1, .long w2), (0, .ref (aSea ad y)), (3, .int x3), (5, .int x5)]) (i := 4) dX2_brightest_49 rfl ic_1 (by decide) rfl ?_
    refine v_goto (pc := 52) (tgt := 8) dX2_brightest_52 rfl ?_
    exact v_sub [2, 1, 3, 0] rfl (hkc8 w2 x3 (x4 + (1 : Int32)) σ)
def b_X2_brightest_8 (y : Nat) (kc8 : Int64 → Int32 → Int32 → GX → Option (Int64 × GX)) (x1 : Int64) (x3 : Int32) (x4 : Int32) (σ : GX) : Option (Int64 × GX) :=
  if (36 : Int32) ≤ x4 then (some (x1, σ)) else (bnd (f_X2_says y (0 : Int32) x4 (0 : Int32) σ) fun q1 => if q1.1 ≤ x3 then (b_X2_brightest_36 y kc8 x1 x3 x4 q1.1 q1.2) else (b_X2_brightest_36 y kc8 (0 : Int64) q1.1 x4 q1.1 q1.2))
theorem vb_X2_brightest_8 {g : Gt} {ad : Nat → Nat} (z : Zt) (y : Nat) (hy : y < 3) (kc8 : Int64 → Int32 → Int32 → GX → Option (Int64 × GX)) (hkc8 : ∀ (x1 : Int64) (x3 : Int32) (x4 : Int32) (σ : GX), V g (LX ad) 4 RX2 cX2_brightest 6 (some .long) (wX g ad) iL z (kc8 x1 x3 x4 σ) σ 8 [(0, .ref (aSea ad y)), (1, .long x1), (3, .int x3), (4, .int x4)] []) (x1 : Int64) (x3 : Int32) (x4 : Int32) (σ : GX) : V g (LX ad) 4 RX2 cX2_brightest 6 (some .long) (wX g ad) iL z (b_X2_brightest_8 y kc8 x1 x3 x4 σ) σ 8 [(0, .ref (aSea ad y)), (1, .long x1), (3, .int x3), (4, .int x4)] [] := by
  unfold b_X2_brightest_8
  refine v_iload (pc := 8) (i := 4) dX2_brightest_8 rfl ?_
  refine v_bipush (pc := 10) dX2_brightest_10 bp_36 ?_
  refine v_icmp_ge (pc := 12) (tgt := 55) dX2_brightest_12 rfl ?_ ?_
  · refine v_lload_n (pc := 55) (i := 1) dX2_brightest_55 rfl rfl ?_
    exact v_lret (pc := 56) dX2_brightest_56
  · refine v_aload_n (pc := 15) (i := 0) dX2_brightest_15 rfl rfl ?_
    refine v_iconst (pc := 16) dX2_brightest_16 ic_0 ?_
    refine v_iload (pc := 17) (i := 4) dX2_brightest_17 rfl ?_
    refine v_iconst (pc := 19) dX2_brightest_19 ic_0 ?_
    refine v_callVi (pc := 20) (rcX2 hy) (As := [.int (0 : Int32), .int x4, .int (0 : Int32)]) (rest := []) (ct_X2_says hy (0 : Int32) x4 (0 : Int32)) mi_X2_says q_479 (by decide) rfl rfl (Nat.le_of_ble_eq_true rfl) dX2_brightest_20 (fun q1 => ?_)
    refine v_istore (pc := 23) (lv' := [(5, .int q1.1), (0, .ref (aSea ad y)), (1, .long x1), (3, .int x3), (4, .int x4)]) (i := 5) dX2_brightest_23 (by decide) rfl ?_
    refine v_iload (pc := 25) (i := 5) dX2_brightest_25 rfl ?_
    refine v_iload_n (pc := 27) (i := 3) dX2_brightest_27 rfl rfl ?_
    refine v_icmp_le (pc := 28) (tgt := 36) dX2_brightest_28 rfl ?_ ?_
    · exact v_sub [1, 2, 3, 4, 0] rfl (vb_X2_brightest_36 z y hy kc8 hkc8 x1 x3 x4 q1.1 q1.2)
    · refine v_iload (pc := 31) (i := 5) dX2_brightest_31 rfl ?_
      refine v_istore_n (pc := 33) (lv' := [(3, .int q1.1), (5, .int q1.1), (0, .ref (aSea ad y)), (1, .long x1), (4, .int x4)]) (i := 3) dX2_brightest_33 rfl (by decide) rfl ?_
      refine v_lconst (pc := 34) dX2_brightest_34 lc_0 ?_
      refine v_lstore_n (pc := 35) (lv' := [(1, .long (0 : Int64)), (3, .int q1.1), (5, .int q1.1), (0, .ref (aSea ad y)), (4, .int x4)]) (i := 1) dX2_brightest_35 rfl (by decide) rfl ?_
      exact v_sub [3, 0, 1, 4, 2] rfl (vb_X2_brightest_36 z y hy kc8 hkc8 (0 : Int64) q1.1 x4 q1.1 q1.2)
def k_X2_brightest_8 (y : Nat) : Nat → Int64 → Int32 → Int32 → GX → Option (Int64 × GX)
  | 0 => fun _ _ _ _ => none
  | n + 1 => b_X2_brightest_8 y (k_X2_brightest_8 y n)
theorem vk_X2_brightest_8 {g : Gt} {ad : Nat → Nat} (z : Zt) (y : Nat) (hy : y < 3) : ∀ (n : Nat) (x1 : Int64) (x3 : Int32) (x4 : Int32) (σ : GX), V g (LX ad) 4 RX2 cX2_brightest 6 (some .long) (wX g ad) iL z (k_X2_brightest_8 y n x1 x3 x4 σ) σ 8 [(0, .ref (aSea ad y)), (1, .long x1), (3, .int x3), (4, .int x4)] [] := by
  intro n
  induction n with
  | zero => intros; exact v_eq rfl v_none
  | succ n ih =>
    intro x1 x3 x4 σ
    exact v_eq rfl (vb_X2_brightest_8 z y hy _ ih x1 x3 x4 σ)
def f_X2_brightest (y : Nat) (σ : GX) : Option (Int64 × GX) :=
  k_X2_brightest_8 y FU (0 : Int64) (-100 : Int32) (0 : Int32) σ
theorem vf_X2_brightest {g : Gt} {ad : Nat → Nat} (z : Zt) (y : Nat) (hy : y < 3) (σ : GX) : V g (LX ad) 4 RX2 cX2_brightest 6 (some .long) (wX g ad) iL z (f_X2_brightest y σ) σ 0 [(0, .ref (aSea ad y))] [] := by
  unfold f_X2_brightest
  refine v_lconst (pc := 0) dX2_brightest_0 lc_0 ?_
  refine v_lstore_n (pc := 1) (lv' := [(1, .long (0 : Int64)), (0, .ref (aSea ad y))]) (i := 1) dX2_brightest_1 rfl (by decide) rfl ?_
  refine v_bipush (pc := 2) dX2_brightest_2 bp_m100 ?_
  refine v_istore_n (pc := 4) (lv' := [(3, .int (-100 : Int32)), (1, .long (0 : Int64)), (0, .ref (aSea ad y))]) (i := 3) dX2_brightest_4 rfl (by decide) rfl ?_
  refine v_iconst (pc := 5) dX2_brightest_5 ic_0 ?_
  refine v_istore (pc := 6) (lv' := [(4, .int (0 : Int32)), (3, .int (-100 : Int32)), (1, .long (0 : Int64)), (0, .ref (aSea ad y))]) (i := 4) dX2_brightest_6 (by decide) rfl ?_
  exact v_sub [3, 2, 1, 0] rfl (vk_X2_brightest_8 z y hy FU (0 : Int64) (-100 : Int32) (0 : Int32) σ)
theorem ct_X2_brightest {g : Gt} {ad : Nat → Nat} {y : Nat} (hy : y < 3) : CT g (LX ad) yX2_brightest cX2_brightest 6 (some .long) 4 [.ref (aSea ad y)] iL (wX g ad) (f_X2_brightest y) :=
  ct_of_V (own := RX2) (lv0 := [(0, .ref (aSea ad y))]) (by decide +kernel) rfl (Nat.le_of_ble_eq_true rfl) rfl (fun z σ => vf_X2_brightest z y hy σ)
-- LighthouseLiedTo$Sea.surelyRocks
theorem dX2_surelyRocks_0 : decode cX2_surelyRocks 0 = .ok (.lconst 0, 1) := by decide +kernel
theorem dX2_surelyRocks_1 : decode cX2_surelyRocks 1 = .ok (.lstore_n 1, 1) := by decide +kernel
theorem dX2_surelyRocks_2 : decode cX2_surelyRocks 2 = .ok (.iconst 0, 1) := by decide +kernel
theorem dX2_surelyRocks_3 : decode cX2_surelyRocks 3 = .ok (.istore_n 3, 1) := by decide +kernel
theorem dX2_surelyRocks_4 : decode cX2_surelyRocks 4 = .ok (.iload_n 3, 1) := by decide +kernel
theorem dX2_surelyRocks_5 : decode cX2_surelyRocks 5 = .ok (.bipush 36, 2) := by decide +kernel
theorem dX2_surelyRocks_7 : decode cX2_surelyRocks 7 = .ok (.if_icmp .ge 30, 3) := by decide +kernel
theorem dX2_surelyRocks_10 : decode cX2_surelyRocks 10 = .ok (.lload_n 1, 1) := by decide +kernel
theorem dX2_surelyRocks_11 : decode cX2_surelyRocks 11 = .ok (.aload_n 0, 1) := by decide +kernel
theorem dX2_surelyRocks_12 : decode cX2_surelyRocks 12 = .ok (.getfield 9, 3) := by decide +kernel
theorem dX2_surelyRocks_15 : decode cX2_surelyRocks 15 = .ok (.iload_n 3, 1) := by decide +kernel
theorem dX2_surelyRocks_16 : decode cX2_surelyRocks 16 = .ok (.iaload, 1) := by decide +kernel
theorem dX2_surelyRocks_17 : decode cX2_surelyRocks 17 = .ok (.bipush 50, 2) := by decide +kernel
theorem dX2_surelyRocks_19 : decode cX2_surelyRocks 19 = .ok (.if_icmp .lt 9, 3) := by decide +kernel
theorem dX2_surelyRocks_22 : decode cX2_surelyRocks 22 = .ok (.lconst 1, 1) := by decide +kernel
theorem dX2_surelyRocks_23 : decode cX2_surelyRocks 23 = .ok (.iload_n 3, 1) := by decide +kernel
theorem dX2_surelyRocks_24 : decode cX2_surelyRocks 24 = .ok (.lshl, 1) := by decide +kernel
theorem dX2_surelyRocks_25 : decode cX2_surelyRocks 25 = .ok (.goto 4, 3) := by decide +kernel
theorem dX2_surelyRocks_28 : decode cX2_surelyRocks 28 = .ok (.lconst 0, 1) := by decide +kernel
theorem dX2_surelyRocks_29 : decode cX2_surelyRocks 29 = .ok (.lor, 1) := by decide +kernel
theorem dX2_surelyRocks_30 : decode cX2_surelyRocks 30 = .ok (.lstore_n 1, 1) := by decide +kernel
theorem dX2_surelyRocks_31 : decode cX2_surelyRocks 31 = .ok (.iinc 3 1, 3) := by decide +kernel
theorem dX2_surelyRocks_34 : decode cX2_surelyRocks 34 = .ok (.goto (-30), 3) := by decide +kernel
theorem dX2_surelyRocks_37 : decode cX2_surelyRocks 37 = .ok (.lload_n 1, 1) := by decide +kernel
theorem dX2_surelyRocks_38 : decode cX2_surelyRocks 38 = .ok (.lreturn, 1) := by decide +kernel
def b_X2_surelyRocks_4 (y : Nat) (kc4 : Int64 → Int32 → GX → Option (Int64 × GX)) (x1 : Int64) (x3 : Int32) (σ : GX) : Option (Int64 × GX) :=
  if (36 : Int32) ≤ x3 then (some (x1, σ)) else (grd x3 36 (if (xB σ y 0 x3.toNatClampNeg) < (50 : Int32) then (bnd (some (x1 ||| (0 : Int64))) fun w1 => kc4 w1 (x3 + (1 : Int32)) σ) else (bnd (some (x1 ||| (slL (1 : Int64) x3))) fun w2 => kc4 w2 (x3 + (1 : Int32)) σ)))
theorem vb_X2_surelyRocks_4 {g : Gt} {ad : Nat → Nat} (z : Zt) (y : Nat) (hy : y < 3) (kc4 : Int64 → Int32 → GX → Option (Int64 × GX)) (hkc4 : ∀ (x1 : Int64) (x3 : Int32) (σ : GX), V g (LX ad) 1 RX2 cX2_surelyRocks 4 (some .long) (wX g ad) iL z (kc4 x1 x3 σ) σ 4 [(0, .ref (aSea ad y)), (1, .long x1), (3, .int x3)] []) (x1 : Int64) (x3 : Int32) (σ : GX) : V g (LX ad) 1 RX2 cX2_surelyRocks 4 (some .long) (wX g ad) iL z (b_X2_surelyRocks_4 y kc4 x1 x3 σ) σ 4 [(0, .ref (aSea ad y)), (1, .long x1), (3, .int x3)] [] := by
  unfold b_X2_surelyRocks_4
  refine v_iload_n (pc := 4) (i := 3) dX2_surelyRocks_4 rfl rfl ?_
  refine v_bipush (pc := 5) dX2_surelyRocks_5 bp_36 ?_
  refine v_icmp_ge (pc := 7) (tgt := 37) dX2_surelyRocks_7 rfl ?_ ?_
  · refine v_lload_n (pc := 37) (i := 1) dX2_surelyRocks_37 rfl rfl ?_
    exact v_lret (pc := 38) dX2_surelyRocks_38
  · refine v_lload_n (pc := 10) (i := 1) dX2_surelyRocks_10 rfl rfl ?_
    refine v_aload_n (pc := 11) (i := 0) dX2_surelyRocks_11 rfl rfl ?_
    refine gX2_belief (pc := 12) (y := y) hy q_148 dX2_surelyRocks_12 ?_
    refine v_iload_n (pc := 15) (i := 3) dX2_surelyRocks_15 rfl rfl ?_
    refine lX_sea0 (pc := 16) (y := y) hy dX2_surelyRocks_16 ?_
    refine v_bipush (pc := 17) dX2_surelyRocks_17 bp_50 ?_
    refine v_icmp_lt (pc := 19) (tgt := 28) dX2_surelyRocks_19 rfl ?_ ?_
    · refine v_lconst (pc := 28) dX2_surelyRocks_28 lc_0 ?_
      refine v_lor (pc := 29) dX2_surelyRocks_29 ?_
      refine v_nml (fun w1 => ?_)
      refine v_lstore_n (pc := 30) (lv' := [(1, .long w1), (0, .ref (aSea ad y)), (3, .int x3)]) (i := 1) dX2_surelyRocks_30 rfl (by decide) rfl ?_
      refine v_iinc (pc := 31) (lv' := [(3, .int (x3 + (1 : Int32))), (1, .long w1), (0, .ref (aSea ad y))]) (i := 3) dX2_surelyRocks_31 rfl ic_1 (by decide) rfl ?_
      refine v_goto (pc := 34) (tgt := 4) dX2_surelyRocks_34 rfl ?_
      exact v_sub [2, 1, 0] rfl (hkc4 w1 (x3 + (1 : Int32)) σ)
    · refine v_lconst (pc := 22) dX2_surelyRocks_22 lc_1 ?_
      refine v_iload_n (pc := 23) (i := 3) dX2_surelyRocks_23 rfl rfl ?_
      refine v_lshl (pc := 24) dX2_surelyRocks_24 ?_
      refine v_goto (pc := 25) (tgt := 29) dX2_surelyRocks_25 rfl ?_
      refine v_lor (pc := 29) dX2_surelyRocks_29 ?_
      refine v_nml (fun w2 => ?_)
      refine v_lstore_n (pc := 30) (lv' := [(1, .long w2), (0, .ref (aSea ad y)), (3, .int x3)]) (i := 1) dX2_surelyRocks_30 rfl (by decide) rfl ?_
      refine v_iinc (pc := 31) (lv' := [(3, .int (x3 + (1 : Int32))), (1, .long w2), (0, .ref (aSea ad y))]) (i := 3) dX2_surelyRocks_31 rfl ic_1 (by decide) rfl ?_
      refine v_goto (pc := 34) (tgt := 4) dX2_surelyRocks_34 rfl ?_
      exact v_sub [2, 1, 0] rfl (hkc4 w2 (x3 + (1 : Int32)) σ)
def k_X2_surelyRocks_4 (y : Nat) : Nat → Int64 → Int32 → GX → Option (Int64 × GX)
  | 0 => fun _ _ _ => none
  | n + 1 => b_X2_surelyRocks_4 y (k_X2_surelyRocks_4 y n)
theorem vk_X2_surelyRocks_4 {g : Gt} {ad : Nat → Nat} (z : Zt) (y : Nat) (hy : y < 3) : ∀ (n : Nat) (x1 : Int64) (x3 : Int32) (σ : GX), V g (LX ad) 1 RX2 cX2_surelyRocks 4 (some .long) (wX g ad) iL z (k_X2_surelyRocks_4 y n x1 x3 σ) σ 4 [(0, .ref (aSea ad y)), (1, .long x1), (3, .int x3)] [] := by
  intro n
  induction n with
  | zero => intros; exact v_eq rfl v_none
  | succ n ih =>
    intro x1 x3 σ
    exact v_eq rfl (vb_X2_surelyRocks_4 z y hy _ ih x1 x3 σ)
def f_X2_surelyRocks (y : Nat) (σ : GX) : Option (Int64 × GX) :=
  k_X2_surelyRocks_4 y FU (0 : Int64) (0 : Int32) σ
theorem vf_X2_surelyRocks {g : Gt} {ad : Nat → Nat} (z : Zt) (y : Nat) (hy : y < 3) (σ : GX) : V g (LX ad) 1 RX2 cX2_surelyRocks 4 (some .long) (wX g ad) iL z (f_X2_surelyRocks y σ) σ 0 [(0, .ref (aSea ad y))] [] := by
  unfold f_X2_surelyRocks
  refine v_lconst (pc := 0) dX2_surelyRocks_0 lc_0 ?_
  refine v_lstore_n (pc := 1) (lv' := [(1, .long (0 : Int64)), (0, .ref (aSea ad y))]) (i := 1) dX2_surelyRocks_1 rfl (by decide) rfl ?_
  refine v_iconst (pc := 2) dX2_surelyRocks_2 ic_0 ?_
  refine v_istore_n (pc := 3) (lv' := [(3, .int (0 : Int32)), (1, .long (0 : Int64)), (0, .ref (aSea ad y))]) (i := 3) dX2_surelyRocks_3 rfl (by decide) rfl ?_
  exact v_sub [2, 1, 0] rfl (vk_X2_surelyRocks_4 z y hy FU (0 : Int64) (0 : Int32) σ)
theorem ct_X2_surelyRocks {g : Gt} {ad : Nat → Nat} {y : Nat} (hy : y < 3) : CT g (LX ad) yX2_surelyRocks cX2_surelyRocks 4 (some .long) 1 [.ref (aSea ad y)] iL (wX g ad) (f_X2_surelyRocks y) :=
  ct_of_V (own := RX2) (lv0 := [(0, .ref (aSea ad y))]) (by decide +kernel) rfl (Nat.le_of_ble_eq_true rfl) rfl (fun z σ => vf_X2_surelyRocks z y hy σ)
-- LighthouseLiedTo$Sea.trueBelief
theorem dX2_trueBelief_0 : decode cX2_trueBelief 0 = .ok (.iconst 0, 1) := by decide +kernel
theorem dX2_trueBelief_1 : decode cX2_trueBelief 1 = .ok (.istore_n 1, 1) := by decide +kernel
theorem dX2_trueBelief_2 : decode cX2_trueBelief 2 = .ok (.iconst 0, 1) := by decide +kernel
theorem dX2_trueBelief_3 : decode cX2_trueBelief 3 = .ok (.istore_n 2, 1) := by decide +kernel
theorem dX2_trueBelief_4 : decode cX2_trueBelief 4 = .ok (.iload_n 2, 1) := by decide +kernel
theorem dX2_trueBelief_5 : decode cX2_trueBelief 5 = .ok (.bipush 36, 2) := by decide +kernel
theorem dX2_trueBelief_7 : decode cX2_trueBelief 7 = .ok (.if_icmp .ge 30, 3) := by decide +kernel
theorem dX2_trueBelief_10 : decode cX2_trueBelief 10 = .ok (.iload_n 1, 1) := by decide +kernel
theorem dX2_trueBelief_11 : decode cX2_trueBelief 11 = .ok (.aload_n 0, 1) := by decide +kernel
theorem dX2_trueBelief_12 : decode cX2_trueBelief 12 = .ok (.iload_n 2, 1) := by decide +kernel
theorem dX2_trueBelief_13 : decode cX2_trueBelief 13 = .ok (.invokevirtual 57, 3) := by decide +kernel
theorem dX2_trueBelief_16 : decode cX2_trueBelief 16 = .ok (.ifCond .eq 12, 3) := by decide +kernel
theorem dX2_trueBelief_19 : decode cX2_trueBelief 19 = .ok (.aload_n 0, 1) := by decide +kernel
theorem dX2_trueBelief_20 : decode cX2_trueBelief 20 = .ok (.getfield 9, 3) := by decide +kernel
theorem dX2_trueBelief_23 : decode cX2_trueBelief 23 = .ok (.iload_n 2, 1) := by decide +kernel
theorem dX2_trueBelief_24 : decode cX2_trueBelief 24 = .ok (.iaload, 1) := by decide +kernel
theorem dX2_trueBelief_25 : decode cX2_trueBelief 25 = .ok (.goto 4, 3) := by decide +kernel
theorem dX2_trueBelief_28 : decode cX2_trueBelief 28 = .ok (.iconst 0, 1) := by decide +kernel
theorem dX2_trueBelief_29 : decode cX2_trueBelief 29 = .ok (.iadd, 1) := by decide +kernel
theorem dX2_trueBelief_30 : decode cX2_trueBelief 30 = .ok (.istore_n 1, 1) := by decide +kernel
theorem dX2_trueBelief_31 : decode cX2_trueBelief 31 = .ok (.iinc 2 1, 3) := by decide +kernel
theorem dX2_trueBelief_34 : decode cX2_trueBelief 34 = .ok (.goto (-30), 3) := by decide +kernel
theorem dX2_trueBelief_37 : decode cX2_trueBelief 37 = .ok (.iload_n 1, 1) := by decide +kernel
theorem dX2_trueBelief_38 : decode cX2_trueBelief 38 = .ok (.ireturn, 1) := by decide +kernel
def b_X2_trueBelief_4 (y : Nat) (kc4 : Int32 → Int32 → GX → Option (Int32 × GX)) (x1 : Int32) (x2 : Int32) (σ : GX) : Option (Int32 × GX) :=
  if (36 : Int32) ≤ x2 then (some (x1, σ)) else (bnd (f_X2_hasRock y x2 σ) fun q1 => if q1.1 = 0 then (bnd (some (x1 + (0 : Int32))) fun w2 => kc4 w2 (x2 + (1 : Int32)) q1.2) else (grd x2 36 (bnd (some (x1 + (xB q1.2 y 0 x2.toNatClampNeg))) fun w3 => kc4 w3 (x2 + (1 : Int32)) q1.2)))
theorem vb_X2_trueBelief_4 {g : Gt} {ad : Nat → Nat} (z : Zt) (y : Nat) (hy : y < 3) (kc4 : Int32 → Int32 → GX → Option (Int32 × GX)) (hkc4 : ∀ (x1 : Int32) (x2 : Int32) (σ : GX), V g (LX ad) 2 RX2 cX2_trueBelief 3 (some .int) (wX g ad) iI z (kc4 x1 x2 σ) σ 4 [(0, .ref (aSea ad y)), (1, .int x1), (2, .int x2)] []) (x1 : Int32) (x2 : Int32) (σ : GX) : V g (LX ad) 2 RX2 cX2_trueBelief 3 (some .int) (wX g ad) iI z (b_X2_trueBelief_4 y kc4 x1 x2 σ) σ 4 [(0, .ref (aSea ad y)), (1, .int x1), (2, .int x2)] [] := by
  unfold b_X2_trueBelief_4
  refine v_iload_n (pc := 4) (i := 2) dX2_trueBelief_4 rfl rfl ?_
  refine v_bipush (pc := 5) dX2_trueBelief_5 bp_36 ?_
  refine v_icmp_ge (pc := 7) (tgt := 37) dX2_trueBelief_7 rfl ?_ ?_
  · refine v_iload_n (pc := 37) (i := 1) dX2_trueBelief_37 rfl rfl ?_
    exact v_iret (pc := 38) dX2_trueBelief_38
  · refine v_iload_n (pc := 10) (i := 1) dX2_trueBelief_10 rfl rfl ?_
    refine v_aload_n (pc := 11) (i := 0) dX2_trueBelief_11 rfl rfl ?_
    refine v_iload_n (pc := 12) (i := 2) dX2_trueBelief_12 rfl rfl ?_
    refine v_callVi (pc := 13) (rcX2 hy) (As := [.int x2]) (rest := [.int x1]) (ct_X2_hasRock hy x2) mi_X2_hasRock q_503 (by decide) rfl rfl (Nat.le_of_ble_eq_true rfl) dX2_trueBelief_13 (fun q1 => ?_)
    refine v_if_eq (pc := 16) (tgt := 28) dX2_trueBelief_16 rfl ?_ ?_
    · refine v_iconst (pc := 28) dX2_trueBelief_28 ic_0 ?_
      refine v_iadd (pc := 29) dX2_trueBelief_29 ?_
      refine v_nmi (fun w2 => ?_)
      refine v_istore_n (pc := 30) (lv' := [(1, .int w2), (0, .ref (aSea ad y)), (2, .int x2)]) (i := 1) dX2_trueBelief_30 rfl (by decide) rfl ?_
      refine v_iinc (pc := 31) (lv' := [(2, .int (x2 + (1 : Int32))), (1, .int w2), (0, .ref (aSea ad y))]) (i := 2) dX2_trueBelief_31 rfl ic_1 (by decide) rfl ?_
      refine v_goto (pc := 34) (tgt := 4) dX2_trueBelief_34 rfl ?_
      exact v_sub [2, 1, 0] rfl (hkc4 w2 (x2 + (1 : Int32)) q1.2)
    · refine v_aload_n (pc := 19) (i := 0) dX2_trueBelief_19 rfl rfl ?_
      refine gX2_belief (pc := 20) (y := y) hy q_148 dX2_trueBelief_20 ?_
      refine v_iload_n (pc := 23) (i := 2) dX2_trueBelief_23 rfl rfl ?_
      refine lX_sea0 (pc := 24) (y := y) hy dX2_trueBelief_24 ?_
      refine v_goto (pc := 25) (tgt := 29) dX2_trueBelief_25 rfl ?_
      refine v_iadd (pc := 29) dX2_trueBelief_29 ?_
      refine v_nmi (fun w3 => ?_)
      refine v_istore_n (pc := 30) (lv' := [(1, .int w3), (0, .ref (aSea ad y)), (2, .int x2)]) (i := 1) dX2_trueBelief_30 rfl (by decide) rfl ?_
      refine v_iinc (pc := 31) (lv' := [(2, .int (x2 + (1 : Int32))), (1, .int w3), (0, .ref (aSea ad y))]) (i := 2) dX2_trueBelief_31 rfl ic_1 (by decide) rfl ?_
      refine v_goto (pc := 34) (tgt := 4) dX2_trueBelief_34 rfl ?_
      exact v_sub [2, 1, 0] rfl (hkc4 w3 (x2 + (1 : Int32)) q1.2)
def k_X2_trueBelief_4 (y : Nat) : Nat → Int32 → Int32 → GX → Option (Int32 × GX)
  | 0 => fun _ _ _ => none
  | n + 1 => b_X2_trueBelief_4 y (k_X2_trueBelief_4 y n)
theorem vk_X2_trueBelief_4 {g : Gt} {ad : Nat → Nat} (z : Zt) (y : Nat) (hy : y < 3) : ∀ (n : Nat) (x1 : Int32) (x2 : Int32) (σ : GX), V g (LX ad) 2 RX2 cX2_trueBelief 3 (some .int) (wX g ad) iI z (k_X2_trueBelief_4 y n x1 x2 σ) σ 4 [(0, .ref (aSea ad y)), (1, .int x1), (2, .int x2)] [] := by
  intro n
  induction n with
  | zero => intros; exact v_eq rfl v_none
  | succ n ih =>
    intro x1 x2 σ
    exact v_eq rfl (vb_X2_trueBelief_4 z y hy _ ih x1 x2 σ)
def f_X2_trueBelief (y : Nat) (σ : GX) : Option (Int32 × GX) :=
  k_X2_trueBelief_4 y FU (0 : Int32) (0 : Int32) σ
theorem vf_X2_trueBelief {g : Gt} {ad : Nat → Nat} (z : Zt) (y : Nat) (hy : y < 3) (σ : GX) : V g (LX ad) 2 RX2 cX2_trueBelief 3 (some .int) (wX g ad) iI z (f_X2_trueBelief y σ) σ 0 [(0, .ref (aSea ad y))] [] := by
  unfold f_X2_trueBelief
  refine v_iconst (pc := 0) dX2_trueBelief_0 ic_0 ?_
  refine v_istore_n (pc := 1) (lv' := [(1, .int (0 : Int32)), (0, .ref (aSea ad y))]) (i := 1) dX2_trueBelief_1 rfl (by decide) rfl ?_
  refine v_iconst (pc := 2) dX2_trueBelief_2 ic_0 ?_
  refine v_istore_n (pc := 3) (lv' := [(2, .int (0 : Int32)), (1, .int (0 : Int32)), (0, .ref (aSea ad y))]) (i := 2) dX2_trueBelief_3 rfl (by decide) rfl ?_
  exact v_sub [2, 1, 0] rfl (vk_X2_trueBelief_4 z y hy FU (0 : Int32) (0 : Int32) σ)
theorem ct_X2_trueBelief {g : Gt} {ad : Nat → Nat} {y : Nat} (hy : y < 3) : CT g (LX ad) yX2_trueBelief cX2_trueBelief 3 (some .int) 2 [.ref (aSea ad y)] iI (wX g ad) (f_X2_trueBelief y) :=
  ct_of_V (own := RX2) (lv0 := [(0, .ref (aSea ad y))]) (by decide +kernel) rfl (Nat.le_of_ble_eq_true rfl) rfl (fun z σ => vf_X2_trueBelief z y hy σ)
-- LighthouseLiedTo$Sea.isOne
theorem dX2_isOne_0 : decode cX2_isOne 0 = .ok (.aload_n 0, 1) := by decide +kernel
theorem dX2_isOne_1 : decode cX2_isOne 1 = .ok (.getfield 15, 3) := by decide +kernel
theorem dX2_isOne_4 : decode cX2_isOne 4 = .ok (.iload_n 1, 1) := by decide +kernel
theorem dX2_isOne_5 : decode cX2_isOne 5 = .ok (.iaload, 1) := by decide +kernel
theorem dX2_isOne_6 : decode cX2_isOne 6 = .ok (.istore_n 3, 1) := by decide +kernel
theorem dX2_isOne_7 : decode cX2_isOne 7 = .ok (.iconst 0, 1) := by decide +kernel
theorem dX2_isOne_8 : decode cX2_isOne 8 = .ok (.istore 4, 2) := by decide +kernel
theorem dX2_isOne_10 : decode cX2_isOne 10 = .ok (.iload 4, 2) := by decide +kernel
theorem dX2_isOne_12 : decode cX2_isOne 12 = .ok (.bipush 6, 2) := by decide +kernel
theorem dX2_isOne_14 : decode cX2_isOne 14 = .ok (.if_icmp .ge 34, 3) := by decide +kernel
theorem dX2_isOne_17 : decode cX2_isOne 17 = .ok (.iload_n 3, 1) := by decide +kernel
theorem dX2_isOne_18 : decode cX2_isOne 18 = .ok (.ifCond .lt 30, 3) := by decide +kernel
theorem dX2_isOne_21 : decode cX2_isOne 21 = .ok (.iload_n 3, 1) := by decide +kernel
theorem dX2_isOne_22 : decode cX2_isOne 22 = .ok (.getstatic 65, 3) := by decide +kernel
theorem dX2_isOne_25 : decode cX2_isOne 25 = .ok (.arraylength, 1) := by decide +kernel
theorem dX2_isOne_26 : decode cX2_isOne 26 = .ok (.if_icmp .ge 22, 3) := by decide +kernel
theorem dX2_isOne_29 : decode cX2_isOne 29 = .ok (.iload_n 3, 1) := by decide +kernel
theorem dX2_isOne_30 : decode cX2_isOne 30 = .ok (.iload_n 2, 1) := by decide +kernel
theorem dX2_isOne_31 : decode cX2_isOne 31 = .ok (.if_icmp .ne 5, 3) := by decide +kernel
theorem dX2_isOne_34 : decode cX2_isOne 34 = .ok (.iconst 1, 1) := by decide +kernel
theorem dX2_isOne_35 : decode cX2_isOne 35 = .ok (.ireturn, 1) := by decide +kernel
theorem dX2_isOne_36 : decode cX2_isOne 36 = .ok (.getstatic 65, 3) := by decide +kernel
theorem dX2_isOne_39 : decode cX2_isOne 39 = .ok (.iload_n 3, 1) := by decide +kernel
theorem dX2_isOne_40 : decode cX2_isOne 40 = .ok (.iaload, 1) := by decide +kernel
theorem dX2_isOne_41 : decode cX2_isOne 41 = .ok (.istore_n 3, 1) := by decide +kernel
theorem dX2_isOne_42 : decode cX2_isOne 42 = .ok (.iinc 4 1, 3) := by decide +kernel
theorem dX2_isOne_45 : decode cX2_isOne 45 = .ok (.goto (-35), 3) := by decide +kernel
theorem dX2_isOne_48 : decode cX2_isOne 48 = .ok (.iconst 0, 1) := by decide +kernel
theorem dX2_isOne_49 : decode cX2_isOne 49 = .ok (.ireturn, 1) := by decide +kernel
def b_X2_isOne_10 (y : Nat) (kc10 : Int32 → Int32 → Int32 → GX → Option (Int32 × GX)) (x2 : Int32) (x3 : Int32) (x4 : Int32) (σ : GX) : Option (Int32 × GX) :=
  if (6 : Int32) ≤ x4 then (some ((0 : Int32), σ)) else (if x3 < 0 then (some ((0 : Int32), σ)) else (if (6 : Int32) ≤ x3 then (some ((0 : Int32), σ)) else (if x3 ≠ x2 then (grd x3 6 (bnd (some (kabF x3.toNatClampNeg)) fun w2 => kc10 x2 w2 (x4 + (1 : Int32)) σ)) else (some ((1 : Int32), σ)))))
theorem vb_X2_isOne_10 {g : Gt} {ad : Nat → Nat} (z : Zt) (y : Nat) (hy : y < 3) (kc10 : Int32 → Int32 → Int32 → GX → Option (Int32 × GX)) (hkc10 : ∀ (x2 : Int32) (x3 : Int32) (x4 : Int32) (σ : GX), V g (LX ad) 1 RX2 cX2_isOne 5 (some .boolean) (wX g ad) iI z (kc10 x2 x3 x4 σ) σ 10 [(2, .int x2), (3, .int x3), (4, .int x4)] []) (x2 : Int32) (x3 : Int32) (x4 : Int32) (σ : GX) : V g (LX ad) 1 RX2 cX2_isOne 5 (some .boolean) (wX g ad) iI z (b_X2_isOne_10 y kc10 x2 x3 x4 σ) σ 10 [(2, .int x2), (3, .int x3), (4, .int x4)] [] := by
  unfold b_X2_isOne_10
  refine v_iload (pc := 10) (i := 4) dX2_isOne_10 rfl ?_
  refine v_bipush (pc := 12) dX2_isOne_12 bp_6 ?_
  refine v_icmp_ge (pc := 14) (tgt := 48) dX2_isOne_14 rfl ?_ ?_
  · refine v_iconst (pc := 48) dX2_isOne_48 ic_0 ?_
    exact v_nret (pc := 49) rfl dX2_isOne_49
  · refine v_iload_n (pc := 17) (i := 3) dX2_isOne_17 rfl rfl ?_
    refine v_if_lt (pc := 18) (tgt := 48) dX2_isOne_18 rfl ?_ ?_
    · refine v_iconst (pc := 48) dX2_isOne_48 ic_0 ?_
      exact v_nret (pc := 49) rfl dX2_isOne_49
    · refine v_iload_n (pc := 21) (i := 3) dX2_isOne_21 rfl rfl ?_
      refine v_kab (pc := 22) q_699 dX2_isOne_22 ?_
      refine v_kabn (pc := 25) dX2_isOne_25 ?_
      refine v_icmp_ge (pc := 26) (tgt := 48) dX2_isOne_26 rfl ?_ ?_
      · refine v_iconst (pc := 48) dX2_isOne_48 ic_0 ?_
        exact v_nret (pc := 49) rfl dX2_isOne_49
      · refine v_iload_n (pc := 29) (i := 3) dX2_isOne_29 rfl rfl ?_
        refine v_iload_n (pc := 30) (i := 2) dX2_isOne_30 rfl rfl ?_
        refine v_icmp_ne (pc := 31) (tgt := 36) dX2_isOne_31 rfl ?_ ?_
        · refine v_kab (pc := 36) q_699 dX2_isOne_36 ?_
          refine v_iload_n (pc := 39) (i := 3) dX2_isOne_39 rfl rfl ?_
          refine v_kabl (pc := 40) dX2_isOne_40 ?_
          refine v_nmi (fun w2 => ?_)
          refine v_istore_n (pc := 41) (lv' := [(3, .int w2), (2, .int x2), (4, .int x4)]) (i := 3) dX2_isOne_41 rfl (by decide) rfl ?_
          refine v_iinc (pc := 42) (lv' := [(4, .int (x4 + (1 : Int32))), (3, .int w2), (2, .int x2)]) (i := 4) dX2_isOne_42 rfl ic_1 (by decide) rfl ?_
          refine v_goto (pc := 45) (tgt := 10) dX2_isOne_45 rfl ?_
          exact v_sub [2, 1, 0] rfl (hkc10 x2 w2 (x4 + (1 : Int32)) σ)
        · refine v_iconst (pc := 34) dX2_isOne_34 ic_1 ?_
          exact v_nret (pc := 35) rfl dX2_isOne_35
def k_X2_isOne_10 (y : Nat) : Nat → Int32 → Int32 → Int32 → GX → Option (Int32 × GX)
  | 0 => fun _ _ _ _ => none
  | n + 1 => b_X2_isOne_10 y (k_X2_isOne_10 y n)
theorem vk_X2_isOne_10 {g : Gt} {ad : Nat → Nat} (z : Zt) (y : Nat) (hy : y < 3) : ∀ (n : Nat) (x2 : Int32) (x3 : Int32) (x4 : Int32) (σ : GX), V g (LX ad) 1 RX2 cX2_isOne 5 (some .boolean) (wX g ad) iI z (k_X2_isOne_10 y n x2 x3 x4 σ) σ 10 [(2, .int x2), (3, .int x3), (4, .int x4)] [] := by
  intro n
  induction n with
  | zero => intros; exact v_eq rfl v_none
  | succ n ih =>
    intro x2 x3 x4 σ
    exact v_eq rfl (vb_X2_isOne_10 z y hy _ ih x2 x3 x4 σ)
def f_X2_isOne (y : Nat) (x1 : Int32) (x2 : Int32) (σ : GX) : Option (Int32 × GX) :=
  grd x1 6 (bnd (some (xB σ y 1 x1.toNatClampNeg)) fun w1 => k_X2_isOne_10 y FU x2 w1 (0 : Int32) σ)
theorem vf_X2_isOne {g : Gt} {ad : Nat → Nat} (z : Zt) (y : Nat) (hy : y < 3) (x1 : Int32) (x2 : Int32) (σ : GX) : V g (LX ad) 1 RX2 cX2_isOne 5 (some .boolean) (wX g ad) iI z (f_X2_isOne y x1 x2 σ) σ 0 [(0, .ref (aSea ad y)), (1, .int x1), (2, .int x2)] [] := by
  unfold f_X2_isOne
  refine v_aload_n (pc := 0) (i := 0) dX2_isOne_0 rfl rfl ?_
  refine gX2_kind (pc := 1) (y := y) hy q_151 dX2_isOne_1 ?_
  refine v_iload_n (pc := 4) (i := 1) dX2_isOne_4 rfl rfl ?_
  refine lX_sea1 (pc := 5) (y := y) hy dX2_isOne_5 ?_
  refine v_nmi (fun w1 => ?_)
  refine v_istore_n (pc := 6) (lv' := [(3, .int w1), (0, .ref (aSea ad y)), (1, .int x1), (2, .int x2)]) (i := 3) dX2_isOne_6 rfl (by decide) rfl ?_
  refine v_iconst (pc := 7) dX2_isOne_7 ic_0 ?_
  refine v_istore (pc := 8) (lv' := [(4, .int (0 : Int32)), (3, .int w1), (0, .ref (aSea ad y)), (1, .int x1), (2, .int x2)]) (i := 4) dX2_isOne_8 (by decide) rfl ?_
  exact v_sub [4, 1, 0] rfl (vk_X2_isOne_10 z y hy FU x2 w1 (0 : Int32) σ)
theorem ct_X2_isOne {g : Gt} {ad : Nat → Nat} {y : Nat} (hy : y < 3) (x1 : Int32) (x2 : Int32) : CT g (LX ad) yX2_isOne cX2_isOne 5 (some .boolean) 1 [.ref (aSea ad y), .int x1, .int x2] iI (wX g ad) (f_X2_isOne y x1 x2) :=
  ct_of_V (own := RX2) (lv0 := [(0, .ref (aSea ad y)), (1, .int x1), (2, .int x2)]) (by decide +kernel) rfl (Nat.le_of_ble_eq_true rfl) rfl (fun z σ => vf_X2_isOne z y hy x1 x2 σ)
