-- java/lang/Integer.bitCount
theorem dJ6_bitCount_0f7a4_0 : decode cJ6_bitCount_0f7a4 0 = .ok (.iload_n 0, 1) := by decide +kernel
theorem dJ6_bitCount_0f7a4_1 : decode cJ6_bitCount_0f7a4 1 = .ok (.iload_n 0, 1) := by decide +kernel
theorem dJ6_bitCount_0f7a4_2 : decode cJ6_bitCount_0f7a4 2 = .ok (.iconst 1, 1) := by decide +kernel
theorem dJ6_bitCount_0f7a4_3 : decode cJ6_bitCount_0f7a4 3 = .ok (.iushr, 1) := by decide +kernel
theorem dJ6_bitCount_0f7a4_4 : decode cJ6_bitCount_0f7a4 4 = .ok (.ldc_w 265, 3) := by decide +kernel
theorem dJ6_bitCount_0f7a4_7 : decode cJ6_bitCount_0f7a4 7 = .ok (.iand, 1) := by decide +kernel
theorem dJ6_bitCount_0f7a4_8 : decode cJ6_bitCount_0f7a4 8 = .ok (.isub, 1) := by decide +kernel
theorem dJ6_bitCount_0f7a4_9 : decode cJ6_bitCount_0f7a4 9 = .ok (.istore_n 0, 1) := by decide +kernel
theorem dJ6_bitCount_0f7a4_10 : decode cJ6_bitCount_0f7a4 10 = .ok (.iload_n 0, 1) := by decide +kernel
theorem dJ6_bitCount_0f7a4_11 : decode cJ6_bitCount_0f7a4 11 = .ok (.ldc_w 266, 3) := by decide +kernel
theorem dJ6_bitCount_0f7a4_14 : decode cJ6_bitCount_0f7a4 14 = .ok (.iand, 1) := by decide +kernel
theorem dJ6_bitCount_0f7a4_15 : decode cJ6_bitCount_0f7a4 15 = .ok (.iload_n 0, 1) := by decide +kernel
theorem dJ6_bitCount_0f7a4_16 : decode cJ6_bitCount_0f7a4 16 = .ok (.iconst 2, 1) := by decide +kernel
theorem dJ6_bitCount_0f7a4_17 : decode cJ6_bitCount_0f7a4 17 = .ok (.iushr, 1) := by decide +kernel
theorem dJ6_bitCount_0f7a4_18 : decode cJ6_bitCount_0f7a4 18 = .ok (.ldc_w 266, 3) := by decide +kernel
theorem dJ6_bitCount_0f7a4_21 : decode cJ6_bitCount_0f7a4 21 = .ok (.iand, 1) := by decide +kernel
theorem dJ6_bitCount_0f7a4_22 : decode cJ6_bitCount_0f7a4 22 = .ok (.iadd, 1) := by decide +kernel
theorem dJ6_bitCount_0f7a4_23 : decode cJ6_bitCount_0f7a4 23 = .ok (.istore_n 0, 1) := by decide +kernel
theorem dJ6_bitCount_0f7a4_24 : decode cJ6_bitCount_0f7a4 24 = .ok (.iload_n 0, 1) := by decide +kernel
theorem dJ6_bitCount_0f7a4_25 : decode cJ6_bitCount_0f7a4 25 = .ok (.iload_n 0, 1) := by decide +kernel
theorem dJ6_bitCount_0f7a4_26 : decode cJ6_bitCount_0f7a4 26 = .ok (.iconst 4, 1) := by decide +kernel
theorem dJ6_bitCount_0f7a4_27 : decode cJ6_bitCount_0f7a4 27 = .ok (.iushr, 1) := by decide +kernel
theorem dJ6_bitCount_0f7a4_28 : decode cJ6_bitCount_0f7a4 28 = .ok (.iadd, 1) := by decide +kernel
theorem dJ6_bitCount_0f7a4_29 : decode cJ6_bitCount_0f7a4 29 = .ok (.ldc_w 267, 3) := by decide +kernel
theorem dJ6_bitCount_0f7a4_32 : decode cJ6_bitCount_0f7a4 32 = .ok (.iand, 1) := by decide +kernel
theorem dJ6_bitCount_0f7a4_33 : decode cJ6_bitCount_0f7a4 33 = .ok (.istore_n 0, 1) := by decide +kernel
theorem dJ6_bitCount_0f7a4_34 : decode cJ6_bitCount_0f7a4 34 = .ok (.iload_n 0, 1) := by decide +kernel
theorem dJ6_bitCount_0f7a4_35 : decode cJ6_bitCount_0f7a4 35 = .ok (.iload_n 0, 1) := by decide +kernel
theorem dJ6_bitCount_0f7a4_36 : decode cJ6_bitCount_0f7a4 36 = .ok (.bipush 8, 2) := by decide +kernel
theorem dJ6_bitCount_0f7a4_38 : decode cJ6_bitCount_0f7a4 38 = .ok (.iushr, 1) := by decide +kernel
theorem dJ6_bitCount_0f7a4_39 : decode cJ6_bitCount_0f7a4 39 = .ok (.iadd, 1) := by decide +kernel
theorem dJ6_bitCount_0f7a4_40 : decode cJ6_bitCount_0f7a4 40 = .ok (.istore_n 0, 1) := by decide +kernel
theorem dJ6_bitCount_0f7a4_41 : decode cJ6_bitCount_0f7a4 41 = .ok (.iload_n 0, 1) := by decide +kernel
theorem dJ6_bitCount_0f7a4_42 : decode cJ6_bitCount_0f7a4 42 = .ok (.iload_n 0, 1) := by decide +kernel
theorem dJ6_bitCount_0f7a4_43 : decode cJ6_bitCount_0f7a4 43 = .ok (.bipush 16, 2) := by decide +kernel
theorem dJ6_bitCount_0f7a4_45 : decode cJ6_bitCount_0f7a4 45 = .ok (.iushr, 1) := by decide +kernel
theorem dJ6_bitCount_0f7a4_46 : decode cJ6_bitCount_0f7a4 46 = .ok (.iadd, 1) := by decide +kernel
theorem dJ6_bitCount_0f7a4_47 : decode cJ6_bitCount_0f7a4 47 = .ok (.istore_n 0, 1) := by decide +kernel
theorem dJ6_bitCount_0f7a4_48 : decode cJ6_bitCount_0f7a4 48 = .ok (.iload_n 0, 1) := by decide +kernel
theorem dJ6_bitCount_0f7a4_49 : decode cJ6_bitCount_0f7a4 49 = .ok (.bipush 63, 2) := by decide +kernel
theorem dJ6_bitCount_0f7a4_51 : decode cJ6_bitCount_0f7a4 51 = .ok (.iand, 1) := by decide +kernel
theorem dJ6_bitCount_0f7a4_52 : decode cJ6_bitCount_0f7a4 52 = .ok (.ireturn, 1) := by decide +kernel
def f_J6_bitCount_0f7a4 (x0 : Int32) (σ : GX) : Option (Int32 × GX) :=
  bnd (some (x0 - ((usI x0 (1 : Int32)) &&& (1431655765 : Int32)))) fun w1 => bnd (some ((w1 &&& (858993459 : Int32)) + ((usI w1 (2 : Int32)) &&& (858993459 : Int32)))) fun w2 => bnd (some ((w2 + (usI w2 (4 : Int32))) &&& (252645135 : Int32))) fun w3 => bnd (some (w3 + (usI w3 (8 : Int32)))) fun w4 => bnd (some (w4 + (usI w4 (16 : Int32)))) fun w5 => some ((w5 &&& (63 : Int32)), σ)
theorem vf_J6_bitCount_0f7a4 {g : Gt} {ad : Nat → Nat} (z : Zt) (x0 : Int32) (σ : GX) : V g (LX ad) 1 RJ6 cJ6_bitCount_0f7a4 1 (some .int) (wX g ad) iI z (f_J6_bitCount_0f7a4 x0 σ) σ 0 [(0, .int x0)] [] := by
  unfold f_J6_bitCount_0f7a4
  refine v_iload_n (pc := 0) (i := 0) dJ6_bitCount_0f7a4_0 rfl rfl ?_
  refine v_iload_n (pc := 1) (i := 0) dJ6_bitCount_0f7a4_1 rfl rfl ?_
  refine v_iconst (pc := 2) dJ6_bitCount_0f7a4_2 ic_1 ?_
  refine v_iushr (pc := 3) dJ6_bitCount_0f7a4_3 ?_
  refine v_ldcw (pc := 4) dJ6_bitCount_0f7a4_4 q_368 ?_
  refine v_iand (pc := 7) dJ6_bitCount_0f7a4_7 ?_
  refine v_isub (pc := 8) dJ6_bitCount_0f7a4_8 ?_
  refine v_nmi (fun w1 => ?_)
  refine v_istore_n (pc := 9) (lv' := [(0, .int w1)]) (i := 0) dJ6_bitCount_0f7a4_9 rfl (by decide) rfl ?_
  refine v_iload_n (pc := 10) (i := 0) dJ6_bitCount_0f7a4_10 rfl rfl ?_
  refine v_ldcw (pc := 11) dJ6_bitCount_0f7a4_11 q_369 ?_
  refine v_iand (pc := 14) dJ6_bitCount_0f7a4_14 ?_
  refine v_iload_n (pc := 15) (i := 0) dJ6_bitCount_0f7a4_15 rfl rfl ?_
  refine v_iconst (pc := 16) dJ6_bitCount_0f7a4_16 ic_2 ?_
  refine v_iushr (pc := 17) dJ6_bitCount_0f7a4_17 ?_
  refine v_ldcw (pc := 18) dJ6_bitCount_0f7a4_18 q_369 ?_
  refine v_iand (pc := 21) dJ6_bitCount_0f7a4_21 ?_
  refine v_iadd (pc := 22) dJ6_bitCount_0f7a4_22 ?_
  refine v_nmi (fun w2 => ?_)
  refine v_istore_n (pc := 23) (lv' := [(0, .int w2)]) (i := 0) dJ6_bitCount_0f7a4_23 rfl (by decide) rfl ?_
  refine v_iload_n (pc := 24) (i := 0) dJ6_bitCount_0f7a4_24 rfl rfl ?_
  refine v_iload_n (pc := 25) (i := 0) dJ6_bitCount_0f7a4_25 rfl rfl ?_
  refine v_iconst (pc := 26) dJ6_bitCount_0f7a4_26 ic_4 ?_
  refine v_iushr (pc := 27) dJ6_bitCount_0f7a4_27 ?_
  refine v_iadd (pc := 28) dJ6_bitCount_0f7a4_28 ?_
  refine v_ldcw (pc := 29) dJ6_bitCount_0f7a4_29 q_370 ?_
  refine v_iand (pc := 32) dJ6_bitCount_0f7a4_32 ?_
  refine v_nmi (fun w3 => ?_)
  refine v_istore_n (pc := 33) (lv' := [(0, .int w3)]) (i := 0) dJ6_bitCount_0f7a4_33 rfl (by decide) rfl ?_
  refine v_iload_n (pc := 34) (i := 0) dJ6_bitCount_0f7a4_34 rfl rfl ?_
  refine v_iload_n (pc := 35) (i := 0) dJ6_bitCount_0f7a4_35 rfl rfl ?_
  refine v_bipush (pc := 36) dJ6_bitCount_0f7a4_36 bp_8 ?_
  refine v_iushr (pc := 38) dJ6_bitCount_0f7a4_38 ?_
  refine v_iadd (pc := 39) dJ6_bitCount_0f7a4_39 ?_
  refine v_nmi (fun w4 => ?_)
  refine v_istore_n (pc := 40) (lv' := [(0, .int w4)]) (i := 0) dJ6_bitCount_0f7a4_40 rfl (by decide) rfl ?_
  refine v_iload_n (pc := 41) (i := 0) dJ6_bitCount_0f7a4_41 rfl rfl ?_
  refine v_iload_n (pc := 42) (i := 0) dJ6_bitCount_0f7a4_42 rfl rfl ?_
  refine v_bipush (pc := 43) dJ6_bitCount_0f7a4_43 bp_16 ?_
  refine v_iushr (pc := 45) dJ6_bitCount_0f7a4_45 ?_
  refine v_iadd (pc := 46) dJ6_bitCount_0f7a4_46 ?_
  refine v_nmi (fun w5 => ?_)
  refine v_istore_n (pc := 47) (lv' := [(0, .int w5)]) (i := 0) dJ6_bitCount_0f7a4_47 rfl (by decide) rfl ?_
  refine v_iload_n (pc := 48) (i := 0) dJ6_bitCount_0f7a4_48 rfl rfl ?_
  refine v_bipush (pc := 49) dJ6_bitCount_0f7a4_49 bp_63 ?_
  refine v_iand (pc := 51) dJ6_bitCount_0f7a4_51 ?_
  exact v_iret (pc := 52) dJ6_bitCount_0f7a4_52
theorem ct_J6_bitCount_0f7a4 {g : Gt} {ad : Nat → Nat} (x0 : Int32) : CT g (LX ad) yJ6_bitCount_0f7a4 cJ6_bitCount_0f7a4 1 (some .int) 1 [.int x0] iI (wX g ad) (f_J6_bitCount_0f7a4 x0) :=
  ct_of_V (own := RJ6) (lv0 := [(0, .int x0)]) (by decide +kernel) rfl (Nat.le_of_ble_eq_true rfl) rfl (fun z σ => vf_J6_bitCount_0f7a4 z x0 σ)
-- java/lang/Long.bitCount
theorem dJ13_bitCount_95d88_0 : decode cJ13_bitCount_95d88 0 = .ok (.lload_n 0, 1) := by decide +kernel
theorem dJ13_bitCount_95d88_1 : decode cJ13_bitCount_95d88 1 = .ok (.lload_n 0, 1) := by decide +kernel
theorem dJ13_bitCount_95d88_2 : decode cJ13_bitCount_95d88 2 = .ok (.iconst 1, 1) := by decide +kernel
theorem dJ13_bitCount_95d88_3 : decode cJ13_bitCount_95d88 3 = .ok (.lushr, 1) := by decide +kernel
theorem dJ13_bitCount_95d88_4 : decode cJ13_bitCount_95d88 4 = .ok (.ldc2_w 314, 3) := by decide +kernel
theorem dJ13_bitCount_95d88_7 : decode cJ13_bitCount_95d88 7 = .ok (.land, 1) := by decide +kernel
theorem dJ13_bitCount_95d88_8 : decode cJ13_bitCount_95d88 8 = .ok (.lsub, 1) := by decide +kernel
theorem dJ13_bitCount_95d88_9 : decode cJ13_bitCount_95d88 9 = .ok (.lstore_n 0, 1) := by decide +kernel
theorem dJ13_bitCount_95d88_10 : decode cJ13_bitCount_95d88 10 = .ok (.lload_n 0, 1) := by decide +kernel
theorem dJ13_bitCount_95d88_11 : decode cJ13_bitCount_95d88 11 = .ok (.ldc2_w 316, 3) := by decide +kernel
theorem dJ13_bitCount_95d88_14 : decode cJ13_bitCount_95d88 14 = .ok (.land, 1) := by decide +kernel
theorem dJ13_bitCount_95d88_15 : decode cJ13_bitCount_95d88 15 = .ok (.lload_n 0, 1) := by decide +kernel
theorem dJ13_bitCount_95d88_16 : decode cJ13_bitCount_95d88 16 = .ok (.iconst 2, 1) := by decide +kernel
theorem dJ13_bitCount_95d88_17 : decode cJ13_bitCount_95d88 17 = .ok (.lushr, 1) := by decide +kernel
theorem dJ13_bitCount_95d88_18 : decode cJ13_bitCount_95d88 18 = .ok (.ldc2_w 316, 3) := by decide +kernel
theorem dJ13_bitCount_95d88_21 : decode cJ13_bitCount_95d88 21 = .ok (.land, 1) := by decide +kernel
theorem dJ13_bitCount_95d88_22 : decode cJ13_bitCount_95d88 22 = .ok (.ladd, 1) := by decide +kernel
theorem dJ13_bitCount_95d88_23 : decode cJ13_bitCount_95d88 23 = .ok (.lstore_n 0, 1) := by decide +kernel
theorem dJ13_bitCount_95d88_24 : decode cJ13_bitCount_95d88 24 = .ok (.lload_n 0, 1) := by decide +kernel
theorem dJ13_bitCount_95d88_25 : decode cJ13_bitCount_95d88 25 = .ok (.lload_n 0, 1) := by decide +kernel
theorem dJ13_bitCount_95d88_26 : decode cJ13_bitCount_95d88 26 = .ok (.iconst 4, 1) := by decide +kernel
theorem dJ13_bitCount_95d88_27 : decode cJ13_bitCount_95d88 27 = .ok (.lushr, 1) := by decide +kernel
theorem dJ13_bitCount_95d88_28 : decode cJ13_bitCount_95d88 28 = .ok (.ladd, 1) := by decide +kernel
theorem dJ13_bitCount_95d88_29 : decode cJ13_bitCount_95d88 29 = .ok (.ldc2_w 318, 3) := by decide +kernel
theorem dJ13_bitCount_95d88_32 : decode cJ13_bitCount_95d88 32 = .ok (.land, 1) := by decide +kernel
theorem dJ13_bitCount_95d88_33 : decode cJ13_bitCount_95d88 33 = .ok (.lstore_n 0, 1) := by decide +kernel
theorem dJ13_bitCount_95d88_34 : decode cJ13_bitCount_95d88 34 = .ok (.lload_n 0, 1) := by decide +kernel
theorem dJ13_bitCount_95d88_35 : decode cJ13_bitCount_95d88 35 = .ok (.lload_n 0, 1) := by decide +kernel
theorem dJ13_bitCount_95d88_36 : decode cJ13_bitCount_95d88 36 = .ok (.bipush 8, 2) := by decide +kernel
theorem dJ13_bitCount_95d88_38 : decode cJ13_bitCount_95d88 38 = .ok (.lushr, 1) := by decide +kernel
theorem dJ13_bitCount_95d88_39 : decode cJ13_bitCount_95d88 39 = .ok (.ladd, 1) := by decide +kernel
theorem dJ13_bitCount_95d88_40 : decode cJ13_bitCount_95d88 40 = .ok (.lstore_n 0, 1) := by decide +kernel
theorem dJ13_bitCount_95d88_41 : decode cJ13_bitCount_95d88 41 = .ok (.lload_n 0, 1) := by decide +kernel
theorem dJ13_bitCount_95d88_42 : decode cJ13_bitCount_95d88 42 = .ok (.lload_n 0, 1) := by decide +kernel
theorem dJ13_bitCount_95d88_43 : decode cJ13_bitCount_95d88 43 = .ok (.bipush 16, 2) := by decide +kernel
theorem dJ13_bitCount_95d88_45 : decode cJ13_bitCount_95d88 45 = .ok (.lushr, 1) := by decide +kernel
theorem dJ13_bitCount_95d88_46 : decode cJ13_bitCount_95d88 46 = .ok (.ladd, 1) := by decide +kernel
theorem dJ13_bitCount_95d88_47 : decode cJ13_bitCount_95d88 47 = .ok (.lstore_n 0, 1) := by decide +kernel
theorem dJ13_bitCount_95d88_48 : decode cJ13_bitCount_95d88 48 = .ok (.lload_n 0, 1) := by decide +kernel
theorem dJ13_bitCount_95d88_49 : decode cJ13_bitCount_95d88 49 = .ok (.lload_n 0, 1) := by decide +kernel
theorem dJ13_bitCount_95d88_50 : decode cJ13_bitCount_95d88 50 = .ok (.bipush 32, 2) := by decide +kernel
theorem dJ13_bitCount_95d88_52 : decode cJ13_bitCount_95d88 52 = .ok (.lushr, 1) := by decide +kernel
theorem dJ13_bitCount_95d88_53 : decode cJ13_bitCount_95d88 53 = .ok (.ladd, 1) := by decide +kernel
theorem dJ13_bitCount_95d88_54 : decode cJ13_bitCount_95d88 54 = .ok (.lstore_n 0, 1) := by decide +kernel
theorem dJ13_bitCount_95d88_55 : decode cJ13_bitCount_95d88 55 = .ok (.lload_n 0, 1) := by decide +kernel
theorem dJ13_bitCount_95d88_56 : decode cJ13_bitCount_95d88 56 = .ok (.l2i, 1) := by decide +kernel
theorem dJ13_bitCount_95d88_57 : decode cJ13_bitCount_95d88 57 = .ok (.bipush 127, 2) := by decide +kernel
theorem dJ13_bitCount_95d88_59 : decode cJ13_bitCount_95d88 59 = .ok (.iand, 1) := by decide +kernel
theorem dJ13_bitCount_95d88_60 : decode cJ13_bitCount_95d88 60 = .ok (.ireturn, 1) := by decide +kernel
def f_J13_bitCount_95d88 (x0 : Int64) (σ : GX) : Option (Int32 × GX) :=
  bnd (some (x0 - ((usL x0 (1 : Int32)) &&& (6148914691236517205 : Int64)))) fun w1 => bnd (some ((w1 &&& (3689348814741910323 : Int64)) + ((usL w1 (2 : Int32)) &&& (3689348814741910323 : Int64)))) fun w2 => bnd (some ((w2 + (usL w2 (4 : Int32))) &&& (1085102592571150095 : Int64))) fun w3 => bnd (some (w3 + (usL w3 (8 : Int32)))) fun w4 => bnd (some (w4 + (usL w4 (16 : Int32)))) fun w5 => bnd (some (w5 + (usL w5 (32 : Int32)))) fun w6 => some ((w6.toInt32 &&& (127 : Int32)), σ)
theorem vf_J13_bitCount_95d88 {g : Gt} {ad : Nat → Nat} (z : Zt) (x0 : Int64) (σ : GX) : V g (LX ad) 1 RJ13 cJ13_bitCount_95d88 2 (some .int) (wX g ad) iI z (f_J13_bitCount_95d88 x0 σ) σ 0 [(0, .long x0)] [] := by
  unfold f_J13_bitCount_95d88
  refine v_lload_n (pc := 0) (i := 0) dJ13_bitCount_95d88_0 rfl rfl ?_
  refine v_lload_n (pc := 1) (i := 0) dJ13_bitCount_95d88_1 rfl rfl ?_
  refine v_iconst (pc := 2) dJ13_bitCount_95d88_2 ic_1 ?_
  refine v_lushr (pc := 3) dJ13_bitCount_95d88_3 ?_
  refine v_ldc2 (pc := 4) dJ13_bitCount_95d88_4 q_374 ?_
  refine v_land (pc := 7) dJ13_bitCount_95d88_7 ?_
  refine v_lsub (pc := 8) dJ13_bitCount_95d88_8 ?_
  refine v_nml (fun w1 => ?_)
  refine v_lstore_n (pc := 9) (lv' := [(0, .long w1)]) (i := 0) dJ13_bitCount_95d88_9 rfl (by decide) rfl ?_
  refine v_lload_n (pc := 10) (i := 0) dJ13_bitCount_95d88_10 rfl rfl ?_
  refine v_ldc2 (pc := 11) dJ13_bitCount_95d88_11 q_375 ?_
  refine v_land (pc := 14) dJ13_bitCount_95d88_14 ?_
  refine v_lload_n (pc := 15) (i := 0) dJ13_bitCount_95d88_15 rfl rfl ?_
  refine v_iconst (pc := 16) dJ13_bitCount_95d88_16 ic_2 ?_
  refine v_lushr (pc := 17) dJ13_bitCount_95d88_17 ?_
  refine v_ldc2 (pc := 18) dJ13_bitCount_95d88_18 q_375 ?_
  refine v_land (pc := 21) dJ13_bitCount_95d88_21 ?_
  refine v_ladd (pc := 22) dJ13_bitCount_95d88_22 ?_
  refine v_nml (fun w2 => ?_)
  refine v_lstore_n (pc := 23) (lv' := [(0, .long w2)]) (i := 0) dJ13_bitCount_95d88_23 rfl (by decide) rfl ?_
  refine v_lload_n (pc := 24) (i := 0) dJ13_bitCount_95d88_24 rfl rfl ?_
  refine v_lload_n (pc := 25) (i := 0) dJ13_bitCount_95d88_25 rfl rfl ?_
  refine v_iconst (pc := 26) dJ13_bitCount_95d88_26 ic_4 ?_
  refine v_lushr (pc := 27) dJ13_bitCount_95d88_27 ?_
  refine v_ladd (pc := 28) dJ13_bitCount_95d88_28 ?_
  refine v_ldc2 (pc := 29) dJ13_bitCount_95d88_29 q_376 ?_
  refine v_land (pc := 32) dJ13_bitCount_95d88_32 ?_
  refine v_nml (fun w3 => ?_)
  refine v_lstore_n (pc := 33) (lv' := [(0, .long w3)]) (i := 0) dJ13_bitCount_95d88_33 rfl (by decide) rfl ?_
  refine v_lload_n (pc := 34) (i := 0) dJ13_bitCount_95d88_34 rfl rfl ?_
  refine v_lload_n (pc := 35) (i := 0) dJ13_bitCount_95d88_35 rfl rfl ?_
  refine v_bipush (pc := 36) dJ13_bitCount_95d88_36 bp_8 ?_
  refine v_lushr (pc := 38) dJ13_bitCount_95d88_38 ?_
  refine v_ladd (pc := 39) dJ13_bitCount_95d88_39 ?_
  refine v_nml (fun w4 => ?_)
  refine v_lstore_n (pc := 40) (lv' := [(0, .long w4)]) (i := 0) dJ13_bitCount_95d88_40 rfl (by decide) rfl ?_
  refine v_lload_n (pc := 41) (i := 0) dJ13_bitCount_95d88_41 rfl rfl ?_
  refine v_lload_n (pc := 42) (i := 0) dJ13_bitCount_95d88_42 rfl rfl ?_
  refine v_bipush (pc := 43) dJ13_bitCount_95d88_43 bp_16 ?_
  refine v_lushr (pc := 45) dJ13_bitCount_95d88_45 ?_
  refine v_ladd (pc := 46) dJ13_bitCount_95d88_46 ?_
  refine v_nml (fun w5 => ?_)
  refine v_lstore_n (pc := 47) (lv' := [(0, .long w5)]) (i := 0) dJ13_bitCount_95d88_47 rfl (by decide) rfl ?_
  refine v_lload_n (pc := 48) (i := 0) dJ13_bitCount_95d88_48 rfl rfl ?_
  refine v_lload_n (pc := 49) (i := 0) dJ13_bitCount_95d88_49 rfl rfl ?_
  refine v_bipush (pc := 50) dJ13_bitCount_95d88_50 bp_32 ?_
  refine v_lushr (pc := 52) dJ13_bitCount_95d88_52 ?_
  refine v_ladd (pc := 53) dJ13_bitCount_95d88_53 ?_
  refine v_nml (fun w6 => ?_)
  refine v_lstore_n (pc := 54) (lv' := [(0, .long w6)]) (i := 0) dJ13_bitCount_95d88_54 rfl (by decide) rfl ?_
  refine v_lload_n (pc := 55) (i := 0) dJ13_bitCount_95d88_55 rfl rfl ?_
  refine v_l2i (pc := 56) dJ13_bitCount_95d88_56 ?_
  refine v_bipush (pc := 57) dJ13_bitCount_95d88_57 bp_127 ?_
  refine v_iand (pc := 59) dJ13_bitCount_95d88_59 ?_
  exact v_iret (pc := 60) dJ13_bitCount_95d88_60
theorem ct_J13_bitCount_95d88 {g : Gt} {ad : Nat → Nat} (x0 : Int64) : CT g (LX ad) yJ13_bitCount_95d88 cJ13_bitCount_95d88 2 (some .int) 1 [.long x0] iI (wX g ad) (f_J13_bitCount_95d88 x0) :=
  ct_of_V (own := RJ13) (lv0 := [(0, .long x0)]) (by decide +kernel) rfl (Nat.le_of_ble_eq_true rfl) rfl (fun z σ => vf_J13_bitCount_95d88 z x0 σ)
-- java/lang/String.coder
theorem dJ0_coder_7d493_0 : decode cJ0_coder_7d493 0 = .ok (.getstatic 38, 3) := by decide +kernel
theorem dJ0_coder_7d493_3 : decode cJ0_coder_7d493 3 = .ok (.ifCond .eq 10, 3) := by decide +kernel
theorem dJ0_coder_7d493_6 : decode cJ0_coder_7d493 6 = .ok (.aload_n 0, 1) := by decide +kernel
theorem dJ0_coder_7d493_7 : decode cJ0_coder_7d493 7 = .ok (.getfield 15, 3) := by decide +kernel
theorem dJ0_coder_7d493_10 : decode cJ0_coder_7d493 10 = .ok (.goto 4, 3) := by decide +kernel
theorem dJ0_coder_7d493_13 : decode cJ0_coder_7d493 13 = .ok (.iconst 1, 1) := by decide +kernel
theorem dJ0_coder_7d493_14 : decode cJ0_coder_7d493 14 = .ok (.ireturn, 1) := by decide +kernel
def f_J0_coder_7d493 (w : Nat) (σ : GX) : Option (Int32 × GX) :=
  if (1 : Int32) = 0 then (some ((1 : Int32), σ)) else (some ((0 : Int32), σ))
theorem vf_J0_coder_7d493 {g : Gt} {ad : Nat → Nat} (z : Zt) (w : Nat) (hw : w < 13) (σ : GX) : V g (LX ad) 1 RJ0 cJ0_coder_7d493 1 (some .byte) (wX g ad) iI z (f_J0_coder_7d493 w σ) σ 0 [(0, .ref (g.2.2.2.2.2.2.1 w))] [] := by
  unfold f_J0_coder_7d493
  refine v_cstr (pc := 0) q_207 dJ0_coder_7d493_0 ?_
  refine v_if_eq (pc := 3) (tgt := 13) dJ0_coder_7d493_3 rfl ?_ ?_
  · refine v_iconst (pc := 13) dJ0_coder_7d493_13 ic_1 ?_
    exact v_nret (pc := 14) rfl dJ0_coder_7d493_14
  · refine v_aload_n (pc := 6) (i := 0) dJ0_coder_7d493_6 rfl rfl ?_
    refine v_scod (pc := 7) (i := w) hw q_1148 dJ0_coder_7d493_7 ?_
    refine v_goto (pc := 10) (tgt := 14) dJ0_coder_7d493_10 rfl ?_
    exact v_nret (pc := 14) rfl dJ0_coder_7d493_14
theorem ct_J0_coder_7d493 {g : Gt} {ad : Nat → Nat} {w : Nat} (hw : w < 13) : CT g (LX ad) yJ0_coder_7d493 cJ0_coder_7d493 1 (some .byte) 1 [.ref (g.2.2.2.2.2.2.1 w)] iI (wX g ad) (f_J0_coder_7d493 w) :=
  ct_of_V (own := RJ0) (lv0 := [(0, .ref (g.2.2.2.2.2.2.1 w))]) (by decide +kernel) rfl (Nat.le_of_ble_eq_true rfl) rfl (fun z σ => vf_J0_coder_7d493 z w hw σ)
-- java/lang/String.length
theorem dJ0_length_8abf5_0 : decode cJ0_length_8abf5 0 = .ok (.aload_n 0, 1) := by decide +kernel
theorem dJ0_length_8abf5_1 : decode cJ0_length_8abf5 1 = .ok (.getfield 9, 3) := by decide +kernel
theorem dJ0_length_8abf5_4 : decode cJ0_length_8abf5 4 = .ok (.arraylength, 1) := by decide +kernel
theorem dJ0_length_8abf5_5 : decode cJ0_length_8abf5 5 = .ok (.aload_n 0, 1) := by decide +kernel
theorem dJ0_length_8abf5_6 : decode cJ0_length_8abf5 6 = .ok (.invokevirtual 335, 3) := by decide +kernel
theorem dJ0_length_8abf5_9 : decode cJ0_length_8abf5 9 = .ok (.ishr, 1) := by decide +kernel
theorem dJ0_length_8abf5_10 : decode cJ0_length_8abf5 10 = .ok (.ireturn, 1) := by decide +kernel
def f_J0_length_8abf5 (w : Nat) (σ : GX) : Option (Int32 × GX) :=
  bnd (f_J0_coder_7d493 w σ) fun q1 => some ((srI (nI (lenJS.getD w 0)) q1.1), q1.2)
theorem vf_J0_length_8abf5 {g : Gt} {ad : Nat → Nat} (z : Zt) (w : Nat) (hw : w < 13) (σ : GX) : V g (LX ad) 2 RJ0 cJ0_length_8abf5 1 (some .int) (wX g ad) iI z (f_J0_length_8abf5 w σ) σ 0 [(0, .ref (g.2.2.2.2.2.2.1 w))] [] := by
  unfold f_J0_length_8abf5
  refine v_aload_n (pc := 0) (i := 0) dJ0_length_8abf5_0 rfl rfl ?_
  refine v_sval (pc := 1) (i := w) hw q_1147 dJ0_length_8abf5_1 ?_
  refine v_svn (pc := 4) (i := w) hw dJ0_length_8abf5_4 ?_
  refine v_aload_n (pc := 5) (i := 0) dJ0_length_8abf5_5 rfl rfl ?_
  refine v_callTi (pc := 6) (i := w) hw rfl (As := []) (rest := [.int (nI (lenJS.getD w 0))]) (ct_J0_coder_7d493 hw) mi_J0_coder_7d493 q_203 (by decide) rfl rfl (Nat.le_of_ble_eq_true rfl) dJ0_length_8abf5_6 (fun q1 => ?_)
  refine v_ishr (pc := 9) dJ0_length_8abf5_9 ?_
  exact v_iret (pc := 10) dJ0_length_8abf5_10
theorem ct_J0_length_8abf5 {g : Gt} {ad : Nat → Nat} {w : Nat} (hw : w < 13) : CT g (LX ad) yJ0_length_8abf5 cJ0_length_8abf5 1 (some .int) 2 [.ref (g.2.2.2.2.2.2.1 w)] iI (wX g ad) (f_J0_length_8abf5 w) :=
  ct_of_V (own := RJ0) (lv0 := [(0, .ref (g.2.2.2.2.2.2.1 w))]) (by decide +kernel) rfl (Nat.le_of_ble_eq_true rfl) rfl (fun z σ => vf_J0_length_8abf5 z w hw σ)
-- java/lang/String.isLatin1
theorem dJ0_isLatin1_aae02_0 : decode cJ0_isLatin1_aae02 0 = .ok (.getstatic 38, 3) := by decide +kernel
theorem dJ0_isLatin1_aae02_3 : decode cJ0_isLatin1_aae02 3 = .ok (.ifCond .eq 14, 3) := by decide +kernel
theorem dJ0_isLatin1_aae02_6 : decode cJ0_isLatin1_aae02 6 = .ok (.aload_n 0, 1) := by decide +kernel
theorem dJ0_isLatin1_aae02_7 : decode cJ0_isLatin1_aae02 7 = .ok (.getfield 15, 3) := by decide +kernel
theorem dJ0_isLatin1_aae02_10 : decode cJ0_isLatin1_aae02 10 = .ok (.ifCond .ne 7, 3) := by decide +kernel
theorem dJ0_isLatin1_aae02_13 : decode cJ0_isLatin1_aae02 13 = .ok (.iconst 1, 1) := by decide +kernel
theorem dJ0_isLatin1_aae02_14 : decode cJ0_isLatin1_aae02 14 = .ok (.goto 4, 3) := by decide +kernel
theorem dJ0_isLatin1_aae02_17 : decode cJ0_isLatin1_aae02 17 = .ok (.iconst 0, 1) := by decide +kernel
theorem dJ0_isLatin1_aae02_18 : decode cJ0_isLatin1_aae02 18 = .ok (.ireturn, 1) := by decide +kernel
def f_J0_isLatin1_aae02 (w : Nat) (σ : GX) : Option (Int32 × GX) :=
  if (1 : Int32) = 0 then (some ((0 : Int32), σ)) else (if (0 : Int32) ≠ 0 then (some ((0 : Int32), σ)) else (some ((1 : Int32), σ)))
theorem vf_J0_isLatin1_aae02 {g : Gt} {ad : Nat → Nat} (z : Zt) (w : Nat) (hw : w < 13) (σ : GX) : V g (LX ad) 1 RJ0 cJ0_isLatin1_aae02 1 (some .boolean) (wX g ad) iI z (f_J0_isLatin1_aae02 w σ) σ 0 [(0, .ref (g.2.2.2.2.2.2.1 w))] [] := by
  unfold f_J0_isLatin1_aae02
  refine v_cstr (pc := 0) q_207 dJ0_isLatin1_aae02_0 ?_
  refine v_if_eq (pc := 3) (tgt := 17) dJ0_isLatin1_aae02_3 rfl ?_ ?_
  · refine v_iconst (pc := 17) dJ0_isLatin1_aae02_17 ic_0 ?_
    exact v_nret (pc := 18) rfl dJ0_isLatin1_aae02_18
  · refine v_aload_n (pc := 6) (i := 0) dJ0_isLatin1_aae02_6 rfl rfl ?_
    refine v_scod (pc := 7) (i := w) hw q_1148 dJ0_isLatin1_aae02_7 ?_
    refine v_if_ne (pc := 10) (tgt := 17) dJ0_isLatin1_aae02_10 rfl ?_ ?_
    · refine v_iconst (pc := 17) dJ0_isLatin1_aae02_17 ic_0 ?_
      exact v_nret (pc := 18) rfl dJ0_isLatin1_aae02_18
    · refine v_iconst (pc := 13) dJ0_isLatin1_aae02_13 ic_1 ?_
      refine v_goto (pc := 14) (tgt := 18) dJ0_isLatin1_aae02_14 rfl ?_
      exact v_nret (pc := 18) rfl dJ0_isLatin1_aae02_18
theorem ct_J0_isLatin1_aae02 {g : Gt} {ad : Nat → Nat} {w : Nat} (hw : w < 13) : CT g (LX ad) yJ0_isLatin1_aae02 cJ0_isLatin1_aae02 1 (some .boolean) 1 [.ref (g.2.2.2.2.2.2.1 w)] iI (wX g ad) (f_J0_isLatin1_aae02 w) :=
  ct_of_V (own := RJ0) (lv0 := [(0, .ref (g.2.2.2.2.2.2.1 w))]) (by decide +kernel) rfl (Nat.le_of_ble_eq_true rfl) rfl (fun z σ => vf_J0_isLatin1_aae02 z w hw σ)
-- jdk/internal/util/Preconditions.checkIndex
theorem dJ3_checkIndex_8e157_0 : decode cJ3_checkIndex_8e157 0 = .ok (.iload_n 0, 1) := by decide +kernel
theorem dJ3_checkIndex_8e157_1 : decode cJ3_checkIndex_8e157 1 = .ok (.ifCond .lt 8, 3) := by decide +kernel
theorem dJ3_checkIndex_8e157_4 : decode cJ3_checkIndex_8e157 4 = .ok (.iload_n 0, 1) := by decide +kernel
theorem dJ3_checkIndex_8e157_5 : decode cJ3_checkIndex_8e157 5 = .ok (.iload_n 1, 1) := by decide +kernel
theorem dJ3_checkIndex_8e157_6 : decode cJ3_checkIndex_8e157 6 = .ok (.if_icmp .lt 10, 3) := by decide +kernel
theorem dJ3_checkIndex_8e157_9 : decode cJ3_checkIndex_8e157 9 = .ok (.aload_n 2, 1) := by decide +kernel
theorem dJ3_checkIndex_8e157_10 : decode cJ3_checkIndex_8e157 10 = .ok (.iload_n 0, 1) := by decide +kernel
theorem dJ3_checkIndex_8e157_11 : decode cJ3_checkIndex_8e157 11 = .ok (.iload_n 1, 1) := by decide +kernel
theorem dJ3_checkIndex_8e157_12 : decode cJ3_checkIndex_8e157 12 = .ok (.invokestatic 95, 3) := by decide +kernel
theorem dJ3_checkIndex_8e157_15 : decode cJ3_checkIndex_8e157 15 = .ok (.athrow, 1) := by decide +kernel
theorem dJ3_checkIndex_8e157_16 : decode cJ3_checkIndex_8e157 16 = .ok (.iload_n 0, 1) := by decide +kernel
theorem dJ3_checkIndex_8e157_17 : decode cJ3_checkIndex_8e157 17 = .ok (.ireturn, 1) := by decide +kernel
def b_J3_checkIndex_8e157_9 (x0 : Int32) (x1 : Int32) (σ : GX) : Option (Int32 × GX) :=
  none
theorem vb_J3_checkIndex_8e157_9 {g : Gt} {ad : Nat → Nat} (z : Zt) (fo : Option Nat) (x0 : Int32) (x1 : Int32) (σ : GX) : V g (LX ad) 1 RJ3 cJ3_checkIndex_8e157 3 (some .int) (wX g ad) iI z (b_J3_checkIndex_8e157_9 x0 x1 σ) σ 9 [(0, .int x0), (1, .int x1), (2, (va_rf fo))] [] := by
  unfold b_J3_checkIndex_8e157_9
  exact v_none
def f_J3_checkIndex_8e157 (x0 : Int32) (x1 : Int32) (σ : GX) : Option (Int32 × GX) :=
  if x0 < 0 then (b_J3_checkIndex_8e157_9 x0 x1 σ) else (if x0 < x1 then (some (x0, σ)) else (b_J3_checkIndex_8e157_9 x0 x1 σ))
theorem vf_J3_checkIndex_8e157 {g : Gt} {ad : Nat → Nat} (z : Zt) (fo : Option Nat) (x0 : Int32) (x1 : Int32) (σ : GX) : V g (LX ad) 1 RJ3 cJ3_checkIndex_8e157 3 (some .int) (wX g ad) iI z (f_J3_checkIndex_8e157 x0 x1 σ) σ 0 [(0, .int x0), (1, .int x1), (2, (va_rf fo))] [] := by
  unfold f_J3_checkIndex_8e157
  refine v_iload_n (pc := 0) (i := 0) dJ3_checkIndex_8e157_0 rfl rfl ?_
  refine v_if_lt (pc := 1) (tgt := 9) dJ3_checkIndex_8e157_1 rfl ?_ ?_
  · exact v_sub [0, 1, 2] rfl (vb_J3_checkIndex_8e157_9 z fo x0 x1 σ)
  · refine v_iload_n (pc := 4) (i := 0) dJ3_checkIndex_8e157_4 rfl rfl ?_
    refine v_iload_n (pc := 5) (i := 1) dJ3_checkIndex_8e157_5 rfl rfl ?_
    refine v_icmp_lt (pc := 6) (tgt := 16) dJ3_checkIndex_8e157_6 rfl ?_ ?_
    · refine v_iload_n (pc := 16) (i := 0) dJ3_checkIndex_8e157_16 rfl rfl ?_
      exact v_iret (pc := 17) dJ3_checkIndex_8e157_17
    · exact v_sub [0, 1, 2] rfl (vb_J3_checkIndex_8e157_9 z fo x0 x1 σ)
theorem ct_J3_checkIndex_8e157 {g : Gt} {ad : Nat → Nat} (fo : Option Nat) (x0 : Int32) (x1 : Int32) : CT g (LX ad) yJ3_checkIndex_8e157 cJ3_checkIndex_8e157 3 (some .int) 1 [.int x0, .int x1, (va_rf fo)] iI (wX g ad) (f_J3_checkIndex_8e157 x0 x1) :=
  match fo with
  | none =>   ct_of_V (own := RJ3) (lv0 := [(0, .int x0), (1, .int x1), (2, .null)]) (by decide +kernel) rfl (Nat.le_of_ble_eq_true rfl) rfl (fun z σ => vf_J3_checkIndex_8e157 z none x0 x1 σ)
  | some fa =>   ct_of_V (own := RJ3) (lv0 := [(0, .int x0), (1, .int x1), (2, .ref fa)]) (by decide +kernel) rfl (Nat.le_of_ble_eq_true rfl) rfl (fun z σ => vf_J3_checkIndex_8e157 z (some fa) x0 x1 σ)
-- java/lang/String.checkIndex
theorem dJ0_checkIndex_df160_0 : decode cJ0_checkIndex_df160 0 = .ok (.iload_n 0, 1) := by decide +kernel
theorem dJ0_checkIndex_df160_1 : decode cJ0_checkIndex_df160 1 = .ok (.iload_n 1, 1) := by decide +kernel
theorem dJ0_checkIndex_df160_2 : decode cJ0_checkIndex_df160 2 = .ok (.getstatic 1053, 3) := by decide +kernel
theorem dJ0_checkIndex_df160_5 : decode cJ0_checkIndex_df160 5 = .ok (.invokestatic 1059, 3) := by decide +kernel
theorem dJ0_checkIndex_df160_8 : decode cJ0_checkIndex_df160 8 = .ok (.pop, 1) := by decide +kernel
theorem dJ0_checkIndex_df160_9 : decode cJ0_checkIndex_df160 9 = .ok (.return_, 1) := by decide +kernel
def f_J0_checkIndex_df160 (x0 : Int32) (x1 : Int32) (σ : GX) : Option (Unit × GX) :=
  bnd (f_J3_checkIndex_8e157 x0 x1 σ) fun q1 => some ((), q1.2)
theorem vf_J0_checkIndex_df160 {g : Gt} {ad : Nat → Nat} (z : Zt) (x0 : Int32) (x1 : Int32) (σ : GX) : V g (LX ad) 2 RJ0 cJ0_checkIndex_df160 2 none (wX g ad) iU z (f_J0_checkIndex_df160 x0 x1 σ) σ 0 [(0, .int x0), (1, .int x1)] [] := by
  unfold f_J0_checkIndex_df160
  refine v_iload_n (pc := 0) (i := 0) dJ0_checkIndex_df160_0 rfl rfl ?_
  refine v_iload_n (pc := 1) (i := 1) dJ0_checkIndex_df160_1 rfl rfl ?_
  refine v_fmt (pc := 2) q_223 dJ0_checkIndex_df160_2 ?_
  refine v_callSi (pc := 5) (av := [.int x0, .int x1, (va_rf g.2.2.2.2.2.1)]) (rest := []) (ct_J3_checkIndex_8e157 g.2.2.2.2.2.1 x0 x1) mi_J3_checkIndex_8e157 q_225 (by decide) rfl rfl (Nat.le_of_ble_eq_true rfl) dJ0_checkIndex_df160_5 (fun q1 => ?_)
  refine v_pop (pc := 8) dJ0_checkIndex_df160_8 rfl ?_
  exact v_ret (pc := 9) dJ0_checkIndex_df160_9
theorem ct_J0_checkIndex_df160 {g : Gt} {ad : Nat → Nat} (x0 : Int32) (x1 : Int32) : CT g (LX ad) yJ0_checkIndex_df160 cJ0_checkIndex_df160 2 none 2 [.int x0, .int x1] iU (wX g ad) (f_J0_checkIndex_df160 x0 x1) :=
  ct_of_V (own := RJ0) (lv0 := [(0, .int x0), (1, .int x1)]) (by decide +kernel) rfl (Nat.le_of_ble_eq_true rfl) rfl (fun z σ => vf_J0_checkIndex_df160 z x0 x1 σ)
-- java/lang/StringLatin1.charAt
theorem dJ1_charAt_3b067_0 : decode cJ1_charAt_3b067 0 = .ok (.iload_n 1, 1) := by decide +kernel
theorem dJ1_charAt_3b067_1 : decode cJ1_charAt_3b067 1 = .ok (.aload_n 0, 1) := by decide +kernel
theorem dJ1_charAt_3b067_2 : decode cJ1_charAt_3b067 2 = .ok (.arraylength, 1) := by decide +kernel
theorem dJ1_charAt_3b067_3 : decode cJ1_charAt_3b067 3 = .ok (.invokestatic 9, 3) := by decide +kernel
theorem dJ1_charAt_3b067_6 : decode cJ1_charAt_3b067 6 = .ok (.aload_n 0, 1) := by decide +kernel
theorem dJ1_charAt_3b067_7 : decode cJ1_charAt_3b067 7 = .ok (.iload_n 1, 1) := by decide +kernel
theorem dJ1_charAt_3b067_8 : decode cJ1_charAt_3b067 8 = .ok (.baload, 1) := by decide +kernel
theorem dJ1_charAt_3b067_9 : decode cJ1_charAt_3b067 9 = .ok (.sipush 255, 3) := by decide +kernel
theorem dJ1_charAt_3b067_12 : decode cJ1_charAt_3b067 12 = .ok (.iand, 1) := by decide +kernel
theorem dJ1_charAt_3b067_13 : decode cJ1_charAt_3b067 13 = .ok (.i2c, 1) := by decide +kernel
theorem dJ1_charAt_3b067_14 : decode cJ1_charAt_3b067 14 = .ok (.ireturn, 1) := by decide +kernel
def f_J1_charAt_3b067 (w : Nat) (x1 : Int32) (σ : GX) : Option (Int32 × GX) :=
  bnd (f_J0_checkIndex_df160 x1 (nI (lenJS.getD w 0)) σ) fun q1 => grd x1 (lenJS.getD w 0) (if ((((((bytJS.getD w []).getD x1.toNatClampNeg 0) &&& (255 : Int32)).toUInt32 % 65536).toInt32).toUInt32 % 65536).toInt32 = (((((bytJS.getD w []).getD x1.toNatClampNeg 0) &&& (255 : Int32)).toUInt32 % 65536).toInt32) then some ((((((bytJS.getD w []).getD x1.toNatClampNeg 0) &&& (255 : Int32)).toUInt32 % 65536).toInt32), q1.2) else none)
theorem vf_J1_charAt_3b067 {g : Gt} {ad : Nat → Nat} (z : Zt) (w : Nat) (hw : w < 13) (x1 : Int32) (σ : GX) : V g (LX ad) 3 RJ1 cJ1_charAt_3b067 2 (some .char) (wX g ad) iI z (f_J1_charAt_3b067 w x1 σ) σ 0 [(0, .ref (g.2.2.2.2.2.2.2 w)), (1, .int x1)] [] := by
  unfold f_J1_charAt_3b067
  refine v_iload_n (pc := 0) (i := 1) dJ1_charAt_3b067_0 rfl rfl ?_
  refine v_aload_n (pc := 1) (i := 0) dJ1_charAt_3b067_1 rfl rfl ?_
  refine v_svn (pc := 2) (i := w) hw dJ1_charAt_3b067_2 ?_
  refine v_callSv (pc := 3) (av := [.int x1, .int (nI (lenJS.getD w 0))]) (rest := []) (ct_J0_checkIndex_df160 x1 (nI (lenJS.getD w 0))) mi_J0_checkIndex_df160 q_220 (by decide) rfl rfl (Nat.le_of_ble_eq_true rfl) dJ1_charAt_3b067_3 (fun q1 => ?_)
  refine v_aload_n (pc := 6) (i := 0) dJ1_charAt_3b067_6 rfl rfl ?_
  refine v_iload_n (pc := 7) (i := 1) dJ1_charAt_3b067_7 rfl rfl ?_
  refine v_svl (pc := 8) (i := w) hw dJ1_charAt_3b067_8 ?_
  refine v_sipush (pc := 9) dJ1_charAt_3b067_9 sp_255 ?_
  refine v_iand (pc := 12) dJ1_charAt_3b067_12 ?_
  refine v_i2c (pc := 13) dJ1_charAt_3b067_13 ?_
  exact v_cret (pc := 14) dJ1_charAt_3b067_14
theorem ct_J1_charAt_3b067 {g : Gt} {ad : Nat → Nat} {w : Nat} (hw : w < 13) (x1 : Int32) : CT g (LX ad) yJ1_charAt_3b067 cJ1_charAt_3b067 2 (some .char) 3 [.ref (g.2.2.2.2.2.2.2 w), .int x1] iI (wX g ad) (f_J1_charAt_3b067 w x1) :=
  ct_of_V (own := RJ1) (lv0 := [(0, .ref (g.2.2.2.2.2.2.2 w)), (1, .int x1)]) (by decide +kernel) rfl (Nat.le_of_ble_eq_true rfl) rfl (fun z σ => vf_J1_charAt_3b067 z w hw x1 σ)
-- java/lang/String.charAt
theorem dJ0_charAt_5068e_0 : decode cJ0_charAt_5068e 0 = .ok (.aload_n 0, 1) := by decide +kernel
theorem dJ0_charAt_5068e_1 : decode cJ0_charAt_5068e 1 = .ok (.invokevirtual 492, 3) := by decide +kernel
theorem dJ0_charAt_5068e_4 : decode cJ0_charAt_5068e 4 = .ok (.ifCond .eq 12, 3) := by decide +kernel
theorem dJ0_charAt_5068e_7 : decode cJ0_charAt_5068e 7 = .ok (.aload_n 0, 1) := by decide +kernel
theorem dJ0_charAt_5068e_8 : decode cJ0_charAt_5068e 8 = .ok (.getfield 9, 3) := by decide +kernel
theorem dJ0_charAt_5068e_11 : decode cJ0_charAt_5068e 11 = .ok (.iload_n 1, 1) := by decide +kernel
theorem dJ0_charAt_5068e_12 : decode cJ0_charAt_5068e 12 = .ok (.invokestatic 495, 3) := by decide +kernel
theorem dJ0_charAt_5068e_15 : decode cJ0_charAt_5068e 15 = .ok (.ireturn, 1) := by decide +kernel
theorem dJ0_charAt_5068e_16 : decode cJ0_charAt_5068e 16 = .ok (.aload_n 0, 1) := by decide +kernel
theorem dJ0_charAt_5068e_17 : decode cJ0_charAt_5068e 17 = .ok (.getfield 9, 3) := by decide +kernel
theorem dJ0_charAt_5068e_20 : decode cJ0_charAt_5068e 20 = .ok (.iload_n 1, 1) := by decide +kernel
theorem dJ0_charAt_5068e_21 : decode cJ0_charAt_5068e 21 = .ok (.invokestatic 498, 3) := by decide +kernel
theorem dJ0_charAt_5068e_24 : decode cJ0_charAt_5068e 24 = .ok (.ireturn, 1) := by decide +kernel
def f_J0_charAt_5068e (w : Nat) (x1 : Int32) (σ : GX) : Option (Int32 × GX) :=
  bnd (f_J0_isLatin1_aae02 w σ) fun q1 => if q1.1 = 0 then (none) else (bnd (f_J1_charAt_3b067 w x1 q1.2) fun q2 => if (q2.1.toUInt32 % 65536).toInt32 = q2.1 then some (q2.1, q2.2) else none)
theorem vf_J0_charAt_5068e {g : Gt} {ad : Nat → Nat} (z : Zt) (w : Nat) (hw : w < 13) (x1 : Int32) (σ : GX) : V g (LX ad) 4 RJ0 cJ0_charAt_5068e 2 (some .char) (wX g ad) iI z (f_J0_charAt_5068e w x1 σ) σ 0 [(0, .ref (g.2.2.2.2.2.2.1 w)), (1, .int x1)] [] := by
  unfold f_J0_charAt_5068e
  refine v_aload_n (pc := 0) (i := 0) dJ0_charAt_5068e_0 rfl rfl ?_
  refine v_callTi (pc := 1) (i := w) hw rfl (As := []) (rest := []) (ct_J0_isLatin1_aae02 hw) mi_J0_isLatin1_aae02 q_213 (by decide) rfl rfl (Nat.le_of_ble_eq_true rfl) dJ0_charAt_5068e_1 (fun q1 => ?_)
  refine v_if_eq (pc := 4) (tgt := 16) dJ0_charAt_5068e_4 rfl ?_ ?_
  · exact v_none
  · refine v_aload_n (pc := 7) (i := 0) dJ0_charAt_5068e_7 rfl rfl ?_
    refine v_sval (pc := 8) (i := w) hw q_1147 dJ0_charAt_5068e_8 ?_
    refine v_iload_n (pc := 11) (i := 1) dJ0_charAt_5068e_11 rfl rfl ?_
    refine v_callSi (pc := 12) (av := [.ref (g.2.2.2.2.2.2.2 w), .int x1]) (rest := []) (ct_J1_charAt_3b067 hw x1) mi_J1_charAt_3b067 q_217 (by decide) rfl rfl (Nat.le_of_ble_eq_true rfl) dJ0_charAt_5068e_12 (fun q2 => ?_)
    exact v_cret (pc := 15) dJ0_charAt_5068e_15
theorem ct_J0_charAt_5068e {g : Gt} {ad : Nat → Nat} {w : Nat} (hw : w < 13) (x1 : Int32) : CT g (LX ad) yJ0_charAt_5068e cJ0_charAt_5068e 2 (some .char) 4 [.ref (g.2.2.2.2.2.2.1 w), .int x1] iI (wX g ad) (f_J0_charAt_5068e w x1) :=
  ct_of_V (own := RJ0) (lv0 := [(0, .ref (g.2.2.2.2.2.2.1 w)), (1, .int x1)]) (by decide +kernel) rfl (Nat.le_of_ble_eq_true rfl) rfl (fun z σ => vf_J0_charAt_5068e z w hw x1 σ)
