-- LighthouseLiedToModel.afloat
theorem dX5_afloat_0 : decode cX5_afloat 0 = .ok (.iconst 0, 1) := by decide +kernel
theorem dX5_afloat_1 : decode cX5_afloat 1 = .ok (.istore_n 1, 1) := by decide +kernel
theorem dX5_afloat_2 : decode cX5_afloat 2 = .ok (.iconst 0, 1) := by decide +kernel
theorem dX5_afloat_3 : decode cX5_afloat 3 = .ok (.istore_n 2, 1) := by decide +kernel
theorem dX5_afloat_4 : decode cX5_afloat 4 = .ok (.iload_n 2, 1) := by decide +kernel
theorem dX5_afloat_5 : decode cX5_afloat 5 = .ok (.aload_n 0, 1) := by decide +kernel
theorem dX5_afloat_6 : decode cX5_afloat 6 = .ok (.getfield 82, 3) := by decide +kernel
theorem dX5_afloat_9 : decode cX5_afloat 9 = .ok (.if_icmp .ge 22, 3) := by decide +kernel
theorem dX5_afloat_12 : decode cX5_afloat 12 = .ok (.iload_n 1, 1) := by decide +kernel
theorem dX5_afloat_13 : decode cX5_afloat 13 = .ok (.iconst 1, 1) := by decide +kernel
theorem dX5_afloat_14 : decode cX5_afloat 14 = .ok (.aload_n 0, 1) := by decide +kernel
theorem dX5_afloat_15 : decode cX5_afloat 15 = .ok (.getfield 22, 3) := by decide +kernel
theorem dX5_afloat_18 : decode cX5_afloat 18 = .ok (.iload_n 2, 1) := by decide +kernel
theorem dX5_afloat_19 : decode cX5_afloat 19 = .ok (.iaload, 1) := by decide +kernel
theorem dX5_afloat_20 : decode cX5_afloat 20 = .ok (.isub, 1) := by decide +kernel
theorem dX5_afloat_21 : decode cX5_afloat 21 = .ok (.iload_n 2, 1) := by decide +kernel
theorem dX5_afloat_22 : decode cX5_afloat 22 = .ok (.ishl, 1) := by decide +kernel
theorem dX5_afloat_23 : decode cX5_afloat 23 = .ok (.ior, 1) := by decide +kernel
theorem dX5_afloat_24 : decode cX5_afloat 24 = .ok (.istore_n 1, 1) := by decide +kernel
theorem dX5_afloat_25 : decode cX5_afloat 25 = .ok (.iinc 2 1, 3) := by decide +kernel
theorem dX5_afloat_28 : decode cX5_afloat 28 = .ok (.goto (-24), 3) := by decide +kernel
theorem dX5_afloat_31 : decode cX5_afloat 31 = .ok (.iload_n 1, 1) := by decide +kernel
theorem dX5_afloat_32 : decode cX5_afloat 32 = .ok (.ireturn, 1) := by decide +kernel
def b_X5_afloat_4 (kc4 : Int32 → Int32 → GM → Option (Int32 × GM)) (x1 : Int32) (x2 : Int32) (σ : GM) : Option (Int32 × GM) :=
  if (mI σ 0) ≤ x2 then (some (x1, σ)) else (grd x2 6 (bnd (some (x1 ||| (slI ((1 : Int32) - (mA σ 4 x2.toNatClampNeg)) x2))) fun w1 => kc4 w1 (x2 + (1 : Int32)) σ))
theorem vb_X5_afloat_4 {g : Gt} {ad : Nat → Nat} (z : Zt) (kc4 : Int32 → Int32 → GM → Option (Int32 × GM)) (hkc4 : ∀ (x1 : Int32) (x2 : Int32) (σ : GM), V g (LM ad) 1 RX5 cX5_afloat 3 (some .int) (wM g ad) iI z (kc4 x1 x2 σ) σ 4 [(0, .ref (aMo ad)), (1, .int x1), (2, .int x2)] []) (x1 : Int32) (x2 : Int32) (σ : GM) : V g (LM ad) 1 RX5 cX5_afloat 3 (some .int) (wM g ad) iI z (b_X5_afloat_4 kc4 x1 x2 σ) σ 4 [(0, .ref (aMo ad)), (1, .int x1), (2, .int x2)] [] := by
  unfold b_X5_afloat_4
  refine v_iload_n (pc := 4) (i := 2) dX5_afloat_4 rfl rfl ?_
  refine v_aload_n (pc := 5) (i := 0) dX5_afloat_5 rfl rfl ?_
  refine gX5_ships (pc := 6) q_754 dX5_afloat_6 ?_
  refine v_icmp_ge (pc := 9) (tgt := 31) dX5_afloat_9 rfl ?_ ?_
  · refine v_iload_n (pc := 31) (i := 1) dX5_afloat_31 rfl rfl ?_
    exact v_iret (pc := 32) dX5_afloat_32
  · refine v_iload_n (pc := 12) (i := 1) dX5_afloat_12 rfl rfl ?_
    refine v_iconst (pc := 13) dX5_afloat_13 ic_1 ?_
    refine v_aload_n (pc := 14) (i := 0) dX5_afloat_14 rfl rfl ?_
    refine gX5_lost (pc := 15) q_759 dX5_afloat_15 ?_
    refine v_iload_n (pc := 18) (i := 2) dX5_afloat_18 rfl rfl ?_
    refine lM_lost (pc := 19) dX5_afloat_19 ?_
    refine v_isub (pc := 20) dX5_afloat_20 ?_
    refine v_iload_n (pc := 21) (i := 2) dX5_afloat_21 rfl rfl ?_
    refine v_ishl (pc := 22) dX5_afloat_22 ?_
    refine v_ior (pc := 23) dX5_afloat_23 ?_
    refine v_nmi (fun w1 => ?_)
    refine v_istore_n (pc := 24) (lv' := [(1, .int w1), (0, .ref (aMo ad)), (2, .int x2)]) (i := 1) dX5_afloat_24 rfl (by decide) rfl ?_
    refine v_iinc (pc := 25) (lv' := [(2, .int (x2 + (1 : Int32))), (1, .int w1), (0, .ref (aMo ad))]) (i := 2) dX5_afloat_25 rfl ic_1 (by decide) rfl ?_
    refine v_goto (pc := 28) (tgt := 4) dX5_afloat_28 rfl ?_
    exact v_sub [2, 1, 0] rfl (hkc4 w1 (x2 + (1 : Int32)) σ)
def k_X5_afloat_4 : Nat → Int32 → Int32 → GM → Option (Int32 × GM)
  | 0 => fun _ _ _ => none
  | n + 1 => b_X5_afloat_4 (k_X5_afloat_4 n)
theorem vk_X5_afloat_4 {g : Gt} {ad : Nat → Nat} (z : Zt) : ∀ (n : Nat) (x1 : Int32) (x2 : Int32) (σ : GM), V g (LM ad) 1 RX5 cX5_afloat 3 (some .int) (wM g ad) iI z (k_X5_afloat_4 n x1 x2 σ) σ 4 [(0, .ref (aMo ad)), (1, .int x1), (2, .int x2)] [] := by
  intro n
  induction n with
  | zero => intros; exact v_eq rfl v_none
  | succ n ih =>
    intro x1 x2 σ
    exact v_eq rfl (vb_X5_afloat_4 z _ ih x1 x2 σ)
def f_X5_afloat (σ : GM) : Option (Int32 × GM) :=
  k_X5_afloat_4 FU (0 : Int32) (0 : Int32) σ
theorem vf_X5_afloat {g : Gt} {ad : Nat → Nat} (z : Zt) (σ : GM) : V g (LM ad) 1 RX5 cX5_afloat 3 (some .int) (wM g ad) iI z (f_X5_afloat σ) σ 0 [(0, .ref (aMo ad))] [] := by
  unfold f_X5_afloat
  refine v_iconst (pc := 0) dX5_afloat_0 ic_0 ?_
  refine v_istore_n (pc := 1) (lv' := [(1, .int (0 : Int32)), (0, .ref (aMo ad))]) (i := 1) dX5_afloat_1 rfl (by decide) rfl ?_
  refine v_iconst (pc := 2) dX5_afloat_2 ic_0 ?_
  refine v_istore_n (pc := 3) (lv' := [(2, .int (0 : Int32)), (1, .int (0 : Int32)), (0, .ref (aMo ad))]) (i := 2) dX5_afloat_3 rfl (by decide) rfl ?_
  exact v_sub [2, 1, 0] rfl (vk_X5_afloat_4 z FU (0 : Int32) (0 : Int32) σ)
theorem ct_X5_afloat {g : Gt} {ad : Nat → Nat} : CT g (LM ad) yX5_afloat cX5_afloat 3 (some .int) 1 [.ref (aMo ad)] iI (wM g ad) (f_X5_afloat) :=
  ct_of_V (own := RX5) (lv0 := [(0, .ref (aMo ad))]) (by decide +kernel) rfl (Nat.le_of_ble_eq_true rfl) rfl (fun z σ => vf_X5_afloat z σ)
-- LighthouseLiedToModel.ones
theorem dX5_ones_0 : decode cX5_ones 0 = .ok (.iconst 0, 1) := by decide +kernel
theorem dX5_ones_1 : decode cX5_ones 1 = .ok (.istore_n 1, 1) := by decide +kernel
theorem dX5_ones_2 : decode cX5_ones 2 = .ok (.iconst 0, 1) := by decide +kernel
theorem dX5_ones_3 : decode cX5_ones 3 = .ok (.istore_n 2, 1) := by decide +kernel
theorem dX5_ones_4 : decode cX5_ones 4 = .ok (.iload_n 2, 1) := by decide +kernel
theorem dX5_ones_5 : decode cX5_ones 5 = .ok (.bipush 6, 2) := by decide +kernel
theorem dX5_ones_7 : decode cX5_ones 7 = .ok (.if_icmp .ge 17, 3) := by decide +kernel
theorem dX5_ones_10 : decode cX5_ones 10 = .ok (.iload_n 1, 1) := by decide +kernel
theorem dX5_ones_11 : decode cX5_ones 11 = .ok (.iload_n 0, 1) := by decide +kernel
theorem dX5_ones_12 : decode cX5_ones 12 = .ok (.iload_n 2, 1) := by decide +kernel
theorem dX5_ones_13 : decode cX5_ones 13 = .ok (.ishr, 1) := by decide +kernel
theorem dX5_ones_14 : decode cX5_ones 14 = .ok (.iconst 1, 1) := by decide +kernel
theorem dX5_ones_15 : decode cX5_ones 15 = .ok (.iand, 1) := by decide +kernel
theorem dX5_ones_16 : decode cX5_ones 16 = .ok (.iadd, 1) := by decide +kernel
theorem dX5_ones_17 : decode cX5_ones 17 = .ok (.istore_n 1, 1) := by decide +kernel
theorem dX5_ones_18 : decode cX5_ones 18 = .ok (.iinc 2 1, 3) := by decide +kernel
theorem dX5_ones_21 : decode cX5_ones 21 = .ok (.goto (-17), 3) := by decide +kernel
theorem dX5_ones_24 : decode cX5_ones 24 = .ok (.iload_n 1, 1) := by decide +kernel
theorem dX5_ones_25 : decode cX5_ones 25 = .ok (.ireturn, 1) := by decide +kernel
def b_X5_ones_4 (kc4 : Int32 → Int32 → Int32 → GM → Option (Int32 × GM)) (x0 : Int32) (x1 : Int32) (x2 : Int32) (σ : GM) : Option (Int32 × GM) :=
  if (6 : Int32) ≤ x2 then (some (x1, σ)) else (bnd (some (x1 + ((srI x0 x2) &&& (1 : Int32)))) fun w1 => kc4 x0 w1 (x2 + (1 : Int32)) σ)
theorem vb_X5_ones_4 {g : Gt} {ad : Nat → Nat} (z : Zt) (kc4 : Int32 → Int32 → Int32 → GM → Option (Int32 × GM)) (hkc4 : ∀ (x0 : Int32) (x1 : Int32) (x2 : Int32) (σ : GM), V g (LM ad) 1 RX5 cX5_ones 3 (some .int) (wM g ad) iI z (kc4 x0 x1 x2 σ) σ 4 [(0, .int x0), (1, .int x1), (2, .int x2)] []) (x0 : Int32) (x1 : Int32) (x2 : Int32) (σ : GM) : V g (LM ad) 1 RX5 cX5_ones 3 (some .int) (wM g ad) iI z (b_X5_ones_4 kc4 x0 x1 x2 σ) σ 4 [(0, .int x0), (1, .int x1), (2, .int x2)] [] := by
  unfold b_X5_ones_4
  refine v_iload_n (pc := 4) (i := 2) dX5_ones_4 rfl rfl ?_
  refine v_bipush (pc := 5) dX5_ones_5 bp_6 ?_
  refine v_icmp_ge (pc := 7) (tgt := 24) dX5_ones_7 rfl ?_ ?_
  · refine v_iload_n (pc := 24) (i := 1) dX5_ones_24 rfl rfl ?_
    exact v_iret (pc := 25) dX5_ones_25
  · refine v_iload_n (pc := 10) (i := 1) dX5_ones_10 rfl rfl ?_
    refine v_iload_n (pc := 11) (i := 0) dX5_ones_11 rfl rfl ?_
    refine v_iload_n (pc := 12) (i := 2) dX5_ones_12 rfl rfl ?_
    refine v_ishr (pc := 13) dX5_ones_13 ?_
    refine v_iconst (pc := 14) dX5_ones_14 ic_1 ?_
    refine v_iand (pc := 15) dX5_ones_15 ?_
    refine v_iadd (pc := 16) dX5_ones_16 ?_
    refine v_nmi (fun w1 => ?_)
    refine v_istore_n (pc := 17) (lv' := [(1, .int w1), (0, .int x0), (2, .int x2)]) (i := 1) dX5_ones_17 rfl (by decide) rfl ?_
    refine v_iinc (pc := 18) (lv' := [(2, .int (x2 + (1 : Int32))), (1, .int w1), (0, .int x0)]) (i := 2) dX5_ones_18 rfl ic_1 (by decide) rfl ?_
    refine v_goto (pc := 21) (tgt := 4) dX5_ones_21 rfl ?_
    exact v_sub [2, 1, 0] rfl (hkc4 x0 w1 (x2 + (1 : Int32)) σ)
def k_X5_ones_4 : Nat → Int32 → Int32 → Int32 → GM → Option (Int32 × GM)
  | 0 => fun _ _ _ _ => none
  | n + 1 => b_X5_ones_4 (k_X5_ones_4 n)
theorem vk_X5_ones_4 {g : Gt} {ad : Nat → Nat} (z : Zt) : ∀ (n : Nat) (x0 : Int32) (x1 : Int32) (x2 : Int32) (σ : GM), V g (LM ad) 1 RX5 cX5_ones 3 (some .int) (wM g ad) iI z (k_X5_ones_4 n x0 x1 x2 σ) σ 4 [(0, .int x0), (1, .int x1), (2, .int x2)] [] := by
  intro n
  induction n with
  | zero => intros; exact v_eq rfl v_none
  | succ n ih =>
    intro x0 x1 x2 σ
    exact v_eq rfl (vb_X5_ones_4 z _ ih x0 x1 x2 σ)
def f_X5_ones (x0 : Int32) (σ : GM) : Option (Int32 × GM) :=
  k_X5_ones_4 FU x0 (0 : Int32) (0 : Int32) σ
theorem vf_X5_ones {g : Gt} {ad : Nat → Nat} (z : Zt) (x0 : Int32) (σ : GM) : V g (LM ad) 1 RX5 cX5_ones 3 (some .int) (wM g ad) iI z (f_X5_ones x0 σ) σ 0 [(0, .int x0)] [] := by
  unfold f_X5_ones
  refine v_iconst (pc := 0) dX5_ones_0 ic_0 ?_
  refine v_istore_n (pc := 1) (lv' := [(1, .int (0 : Int32)), (0, .int x0)]) (i := 1) dX5_ones_1 rfl (by decide) rfl ?_
  refine v_iconst (pc := 2) dX5_ones_2 ic_0 ?_
  refine v_istore_n (pc := 3) (lv' := [(2, .int (0 : Int32)), (1, .int (0 : Int32)), (0, .int x0)]) (i := 2) dX5_ones_3 rfl (by decide) rfl ?_
  exact v_sub [2, 1, 0] rfl (vk_X5_ones_4 z FU x0 (0 : Int32) (0 : Int32) σ)
theorem ct_X5_ones {g : Gt} {ad : Nat → Nat} (x0 : Int32) : CT g (LM ad) yX5_ones cX5_ones 3 (some .int) 1 [.int x0] iI (wM g ad) (f_X5_ones x0) :=
  ct_of_V (own := RX5) (lv0 := [(0, .int x0)]) (by decide +kernel) rfl (Nat.le_of_ble_eq_true rfl) rfl (fun z σ => vf_X5_ones z x0 σ)
-- LighthouseLiedToModel.hasRock
theorem dX5_hasRock_0 : decode cX5_hasRock 0 = .ok (.aload_n 0, 1) := by decide +kernel
theorem dX5_hasRock_1 : decode cX5_hasRock 1 = .ok (.getfield 85, 3) := by decide +kernel
theorem dX5_hasRock_4 : decode cX5_hasRock 4 = .ok (.iload_n 1, 1) := by decide +kernel
theorem dX5_hasRock_5 : decode cX5_hasRock 5 = .ok (.lshr, 1) := by decide +kernel
theorem dX5_hasRock_6 : decode cX5_hasRock 6 = .ok (.lconst 1, 1) := by decide +kernel
theorem dX5_hasRock_7 : decode cX5_hasRock 7 = .ok (.land, 1) := by decide +kernel
theorem dX5_hasRock_8 : decode cX5_hasRock 8 = .ok (.lconst 1, 1) := by decide +kernel
theorem dX5_hasRock_9 : decode cX5_hasRock 9 = .ok (.lcmp, 1) := by decide +kernel
theorem dX5_hasRock_10 : decode cX5_hasRock 10 = .ok (.ifCond .ne 7, 3) := by decide +kernel
theorem dX5_hasRock_13 : decode cX5_hasRock 13 = .ok (.iconst 1, 1) := by decide +kernel
theorem dX5_hasRock_14 : decode cX5_hasRock 14 = .ok (.goto 4, 3) := by decide +kernel
theorem dX5_hasRock_17 : decode cX5_hasRock 17 = .ok (.iconst 0, 1) := by decide +kernel
theorem dX5_hasRock_18 : decode cX5_hasRock 18 = .ok (.ireturn, 1) := by decide +kernel
def f_X5_hasRock (x1 : Int32) (σ : GM) : Option (Int32 × GM) :=
  if (lg_cmp ((srL (mL σ 0) x1) &&& (1 : Int64)) (1 : Int64)) ≠ 0 then (some ((0 : Int32), σ)) else (some ((1 : Int32), σ))
theorem vf_X5_hasRock {g : Gt} {ad : Nat → Nat} (z : Zt) (x1 : Int32) (σ : GM) : V g (LM ad) 1 RX5 cX5_hasRock 2 (some .boolean) (wM g ad) iI z (f_X5_hasRock x1 σ) σ 0 [(0, .ref (aMo ad)), (1, .int x1)] [] := by
  unfold f_X5_hasRock
  refine v_aload_n (pc := 0) (i := 0) dX5_hasRock_0 rfl rfl ?_
  refine gX5_rocks (pc := 1) q_761 dX5_hasRock_1 ?_
  refine v_iload_n (pc := 4) (i := 1) dX5_hasRock_4 rfl rfl ?_
  refine v_lshr (pc := 5) dX5_hasRock_5 ?_
  refine v_lconst (pc := 6) dX5_hasRock_6 lc_1 ?_
  refine v_land (pc := 7) dX5_hasRock_7 ?_
  refine v_lconst (pc := 8) dX5_hasRock_8 lc_1 ?_
  refine v_lcmp (pc := 9) dX5_hasRock_9 ?_
  refine v_if_ne (pc := 10) (tgt := 17) dX5_hasRock_10 rfl ?_ ?_
  · refine v_iconst (pc := 17) dX5_hasRock_17 ic_0 ?_
    exact v_nret (pc := 18) rfl dX5_hasRock_18
  · refine v_iconst (pc := 13) dX5_hasRock_13 ic_1 ?_
    refine v_goto (pc := 14) (tgt := 18) dX5_hasRock_14 rfl ?_
    exact v_nret (pc := 18) rfl dX5_hasRock_18
theorem ct_X5_hasRock {g : Gt} {ad : Nat → Nat} (x1 : Int32) : CT g (LM ad) yX5_hasRock cX5_hasRock 2 (some .boolean) 1 [.ref (aMo ad), .int x1] iI (wM g ad) (f_X5_hasRock x1) :=
  ct_of_V (own := RX5) (lv0 := [(0, .ref (aMo ad)), (1, .int x1)]) (by decide +kernel) rfl (Nat.le_of_ble_eq_true rfl) rfl (fun z σ => vf_X5_hasRock z x1 σ)
-- LighthouseLiedToModel.rockMany
theorem dX5_rockMany_0 : decode cX5_rockMany 0 = .ok (.iconst 0, 1) := by decide +kernel
theorem dX5_rockMany_1 : decode cX5_rockMany 1 = .ok (.istore_n 1, 1) := by decide +kernel
theorem dX5_rockMany_2 : decode cX5_rockMany 2 = .ok (.iconst 0, 1) := by decide +kernel
theorem dX5_rockMany_3 : decode cX5_rockMany 3 = .ok (.istore_n 2, 1) := by decide +kernel
theorem dX5_rockMany_4 : decode cX5_rockMany 4 = .ok (.iload_n 2, 1) := by decide +kernel
theorem dX5_rockMany_5 : decode cX5_rockMany 5 = .ok (.bipush 36, 2) := by decide +kernel
theorem dX5_rockMany_7 : decode cX5_rockMany 7 = .ok (.if_icmp .ge 25, 3) := by decide +kernel
theorem dX5_rockMany_10 : decode cX5_rockMany 10 = .ok (.iload_n 1, 1) := by decide +kernel
theorem dX5_rockMany_11 : decode cX5_rockMany 11 = .ok (.aload_n 0, 1) := by decide +kernel
theorem dX5_rockMany_12 : decode cX5_rockMany 12 = .ok (.iload_n 2, 1) := by decide +kernel
theorem dX5_rockMany_13 : decode cX5_rockMany 13 = .ok (.invokevirtual 89, 3) := by decide +kernel
theorem dX5_rockMany_16 : decode cX5_rockMany 16 = .ok (.ifCond .eq 7, 3) := by decide +kernel
theorem dX5_rockMany_19 : decode cX5_rockMany 19 = .ok (.iconst 1, 1) := by decide +kernel
theorem dX5_rockMany_20 : decode cX5_rockMany 20 = .ok (.goto 4, 3) := by decide +kernel
theorem dX5_rockMany_23 : decode cX5_rockMany 23 = .ok (.iconst 0, 1) := by decide +kernel
theorem dX5_rockMany_24 : decode cX5_rockMany 24 = .ok (.iadd, 1) := by decide +kernel
theorem dX5_rockMany_25 : decode cX5_rockMany 25 = .ok (.istore_n 1, 1) := by decide +kernel
theorem dX5_rockMany_26 : decode cX5_rockMany 26 = .ok (.iinc 2 1, 3) := by decide +kernel
theorem dX5_rockMany_29 : decode cX5_rockMany 29 = .ok (.goto (-25), 3) := by decide +kernel
theorem dX5_rockMany_32 : decode cX5_rockMany 32 = .ok (.iload_n 1, 1) := by decide +kernel
theorem dX5_rockMany_33 : decode cX5_rockMany 33 = .ok (.ireturn, 1) := by decide +kernel
def b_X5_rockMany_4 (kc4 : Int32 → Int32 → GM → Option (Int32 × GM)) (x1 : Int32) (x2 : Int32) (σ : GM) : Option (Int32 × GM) :=
  if (36 : Int32) ≤ x2 then (some (x1, σ)) else (bnd (f_X5_hasRock x2 σ) fun q1 => if q1.1 = 0 then (bnd (some (x1 + (0 : Int32))) fun w2 => kc4 w2 (x2 + (1 : Int32)) q1.2) else (bnd (some (x1 + (1 : Int32))) fun w3 => kc4 w3 (x2 + (1 : Int32)) q1.2))
theorem vb_X5_rockMany_4 {g : Gt} {ad : Nat → Nat} (z : Zt) (kc4 : Int32 → Int32 → GM → Option (Int32 × GM)) (hkc4 : ∀ (x1 : Int32) (x2 : Int32) (σ : GM), V g (LM ad) 2 RX5 cX5_rockMany 3 (some .int) (wM g ad) iI z (kc4 x1 x2 σ) σ 4 [(0, .ref (aMo ad)), (1, .int x1), (2, .int x2)] []) (x1 : Int32) (x2 : Int32) (σ : GM) : V g (LM ad) 2 RX5 cX5_rockMany 3 (some .int) (wM g ad) iI z (b_X5_rockMany_4 kc4 x1 x2 σ) σ 4 [(0, .ref (aMo ad)), (1, .int x1), (2, .int x2)] [] := by
  unfold b_X5_rockMany_4
  refine v_iload_n (pc := 4) (i := 2) dX5_rockMany_4 rfl rfl ?_
  refine v_bipush (pc := 5) dX5_rockMany_5 bp_36 ?_
  refine v_icmp_ge (pc := 7) (tgt := 32) dX5_rockMany_7 rfl ?_ ?_
  · refine v_iload_n (pc := 32) (i := 1) dX5_rockMany_32 rfl rfl ?_
    exact v_iret (pc := 33) dX5_rockMany_33
  · refine v_iload_n (pc := 10) (i := 1) dX5_rockMany_10 rfl rfl ?_
    refine v_aload_n (pc := 11) (i := 0) dX5_rockMany_11 rfl rfl ?_
    refine v_iload_n (pc := 12) (i := 2) dX5_rockMany_12 rfl rfl ?_
    refine v_callVi (pc := 13) rcX5 (As := [.int x2]) (rest := [.int x1]) (ct_X5_hasRock x2) mi_X5_hasRock q_881 (by decide) rfl rfl (Nat.le_of_ble_eq_true rfl) dX5_rockMany_13 (fun q1 => ?_)
    refine v_if_eq (pc := 16) (tgt := 23) dX5_rockMany_16 rfl ?_ ?_
    · refine v_iconst (pc := 23) dX5_rockMany_23 ic_0 ?_
      refine v_iadd (pc := 24) dX5_rockMany_24 ?_
      refine v_nmi (fun w2 => ?_)
      refine v_istore_n (pc := 25) (lv' := [(1, .int w2), (0, .ref (aMo ad)), (2, .int x2)]) (i := 1) dX5_rockMany_25 rfl (by decide) rfl ?_
      refine v_iinc (pc := 26) (lv' := [(2, .int (x2 + (1 : Int32))), (1, .int w2), (0, .ref (aMo ad))]) (i := 2) dX5_rockMany_26 rfl ic_1 (by decide) rfl ?_
      refine v_goto (pc := 29) (tgt := 4) dX5_rockMany_29 rfl ?_
      exact v_sub [2, 1, 0] rfl (hkc4 w2 (x2 + (1 : Int32)) q1.2)
    · refine v_iconst (pc := 19) dX5_rockMany_19 ic_1 ?_
      refine v_goto (pc := 20) (tgt := 24) dX5_rockMany_20 rfl ?_
      refine v_iadd (pc := 24) dX5_rockMany_24 ?_
      refine v_nmi (fun w3 => ?_)
      refine v_istore_n (pc := 25) (lv' := [(1, .int w3), (0, .ref (aMo ad)), (2, .int x2)]) (i := 1) dX5_rockMany_25 rfl (by decide) rfl ?_
      refine v_iinc (pc := 26) (lv' := [(2, .int (x2 + (1 : Int32))), (1, .int w3), (0, .ref (aMo ad))]) (i := 2) dX5_rockMany_26 rfl ic_1 (by decide) rfl ?_
      refine v_goto (pc := 29) (tgt := 4) dX5_rockMany_29 rfl ?_
      exact v_sub [2, 1, 0] rfl (hkc4 w3 (x2 + (1 : Int32)) q1.2)
def k_X5_rockMany_4 : Nat → Int32 → Int32 → GM → Option (Int32 × GM)
  | 0 => fun _ _ _ => none
  | n + 1 => b_X5_rockMany_4 (k_X5_rockMany_4 n)
theorem vk_X5_rockMany_4 {g : Gt} {ad : Nat → Nat} (z : Zt) : ∀ (n : Nat) (x1 : Int32) (x2 : Int32) (σ : GM), V g (LM ad) 2 RX5 cX5_rockMany 3 (some .int) (wM g ad) iI z (k_X5_rockMany_4 n x1 x2 σ) σ 4 [(0, .ref (aMo ad)), (1, .int x1), (2, .int x2)] [] := by
  intro n
  induction n with
  | zero => intros; exact v_eq rfl v_none
  | succ n ih =>
    intro x1 x2 σ
    exact v_eq rfl (vb_X5_rockMany_4 z _ ih x1 x2 σ)
def f_X5_rockMany (σ : GM) : Option (Int32 × GM) :=
  k_X5_rockMany_4 FU (0 : Int32) (0 : Int32) σ
theorem vf_X5_rockMany {g : Gt} {ad : Nat → Nat} (z : Zt) (σ : GM) : V g (LM ad) 2 RX5 cX5_rockMany 3 (some .int) (wM g ad) iI z (f_X5_rockMany σ) σ 0 [(0, .ref (aMo ad))] [] := by
  unfold f_X5_rockMany
  refine v_iconst (pc := 0) dX5_rockMany_0 ic_0 ?_
  refine v_istore_n (pc := 1) (lv' := [(1, .int (0 : Int32)), (0, .ref (aMo ad))]) (i := 1) dX5_rockMany_1 rfl (by decide) rfl ?_
  refine v_iconst (pc := 2) dX5_rockMany_2 ic_0 ?_
  refine v_istore_n (pc := 3) (lv' := [(2, .int (0 : Int32)), (1, .int (0 : Int32)), (0, .ref (aMo ad))]) (i := 2) dX5_rockMany_3 rfl (by decide) rfl ?_
  exact v_sub [2, 1, 0] rfl (vk_X5_rockMany_4 z FU (0 : Int32) (0 : Int32) σ)
theorem ct_X5_rockMany {g : Gt} {ad : Nat → Nat} : CT g (LM ad) yX5_rockMany cX5_rockMany 3 (some .int) 2 [.ref (aMo ad)] iI (wM g ad) (f_X5_rockMany) :=
  ct_of_V (own := RX5) (lv0 := [(0, .ref (aMo ad))]) (by decide +kernel) rfl (Nat.le_of_ble_eq_true rfl) rfl (fun z σ => vf_X5_rockMany z σ)
-- LighthouseLiedToModel.count
theorem dX5_count_0 : decode cX5_count 0 = .ok (.iload_n 1, 1) := by decide +kernel
theorem dX5_count_1 : decode cX5_count 1 = .ok (.tableswitch 90 0 7 #[47, 52, 60, 65, 70, 75, 80, 85], 47) := by decide +kernel
theorem dX5_count_48 : decode cX5_count 48 = .ok (.aload_n 0, 1) := by decide +kernel
theorem dX5_count_49 : decode cX5_count 49 = .ok (.getfield 82, 3) := by decide +kernel
theorem dX5_count_52 : decode cX5_count 52 = .ok (.ireturn, 1) := by decide +kernel
theorem dX5_count_53 : decode cX5_count 53 = .ok (.aload_n 0, 1) := by decide +kernel
theorem dX5_count_54 : decode cX5_count 54 = .ok (.invokevirtual 93, 3) := by decide +kernel
theorem dX5_count_57 : decode cX5_count 57 = .ok (.invokestatic 96, 3) := by decide +kernel
theorem dX5_count_60 : decode cX5_count 60 = .ok (.ireturn, 1) := by decide +kernel
theorem dX5_count_61 : decode cX5_count 61 = .ok (.aload_n 0, 1) := by decide +kernel
theorem dX5_count_62 : decode cX5_count 62 = .ok (.getfield 100, 3) := by decide +kernel
theorem dX5_count_65 : decode cX5_count 65 = .ok (.ireturn, 1) := by decide +kernel
theorem dX5_count_66 : decode cX5_count 66 = .ok (.aload_n 0, 1) := by decide +kernel
theorem dX5_count_67 : decode cX5_count 67 = .ok (.getfield 103, 3) := by decide +kernel
theorem dX5_count_70 : decode cX5_count 70 = .ok (.ireturn, 1) := by decide +kernel
theorem dX5_count_71 : decode cX5_count 71 = .ok (.aload_n 0, 1) := by decide +kernel
theorem dX5_count_72 : decode cX5_count 72 = .ok (.invokevirtual 106, 3) := by decide +kernel
theorem dX5_count_75 : decode cX5_count 75 = .ok (.ireturn, 1) := by decide +kernel
theorem dX5_count_76 : decode cX5_count 76 = .ok (.aload_n 0, 1) := by decide +kernel
theorem dX5_count_77 : decode cX5_count 77 = .ok (.getfield 109, 3) := by decide +kernel
theorem dX5_count_80 : decode cX5_count 80 = .ok (.ireturn, 1) := by decide +kernel
theorem dX5_count_81 : decode cX5_count 81 = .ok (.aload_n 0, 1) := by decide +kernel
theorem dX5_count_82 : decode cX5_count 82 = .ok (.getfield 112, 3) := by decide +kernel
theorem dX5_count_85 : decode cX5_count 85 = .ok (.ireturn, 1) := by decide +kernel
theorem dX5_count_86 : decode cX5_count 86 = .ok (.aload_n 0, 1) := by decide +kernel
theorem dX5_count_87 : decode cX5_count 87 = .ok (.getfield 70, 3) := by decide +kernel
theorem dX5_count_90 : decode cX5_count 90 = .ok (.ireturn, 1) := by decide +kernel
theorem dX5_count_91 : decode cX5_count 91 = .ok (.bipush (-2), 2) := by decide +kernel
theorem dX5_count_93 : decode cX5_count 93 = .ok (.ireturn, 1) := by decide +kernel
def f_X5_count (x1 : Int32) (σ : GM) : Option (Int32 × GM) :=
  if x1 = (0 : Int32) then (some ((mI σ 0), σ)) else (if x1 = (1 : Int32) then (bnd (f_X5_afloat σ) fun q1 => bnd (f_X5_ones q1.1 q1.2) fun q2 => some (q2.1, q2.2)) else (if x1 = (2 : Int32) then (some ((mI σ 1), σ)) else (if x1 = (3 : Int32) then (some ((mI σ 2), σ)) else (if x1 = (4 : Int32) then (bnd (f_X5_rockMany σ) fun q3 => some (q3.1, q3.2)) else (if x1 = (5 : Int32) then (some ((mI σ 4), σ)) else (if x1 = (6 : Int32) then (some ((mI σ 5), σ)) else (if x1 = (7 : Int32) then (some ((mI σ 3), σ)) else (some ((-2 : Int32), σ)))))))))
theorem vf_X5_count {g : Gt} {ad : Nat → Nat} (z : Zt) (x1 : Int32) (σ : GM) : V g (LM ad) 3 RX5 cX5_count 2 (some .int) (wM g ad) iI z (f_X5_count x1 σ) σ 0 [(0, .ref (aMo ad)), (1, .int x1)] [] := by
  unfold f_X5_count
  refine v_iload_n (pc := 0) (i := 1) dX5_count_0 rfl rfl ?_
  refine v_case (c := x1 = (0 : Int32)) (fun hx => ?_) (fun hc1_0 => ?_)
  · refine v_tin (pc := 1) (tgt := 48) (off := 47) hx dX5_count_1 (by decide) (by decide) rfl rfl ?_
    refine v_aload_n (pc := 48) (i := 0) dX5_count_48 rfl rfl ?_
    refine gX5_ships (pc := 49) q_754 dX5_count_49 ?_
    exact v_iret (pc := 52) dX5_count_52
  refine v_case (c := x1 = (1 : Int32)) (fun hx => ?_) (fun hc1_1 => ?_)
  · refine v_tin (pc := 1) (tgt := 53) (off := 52) hx dX5_count_1 (by decide) (by decide) rfl rfl ?_
    refine v_aload_n (pc := 53) (i := 0) dX5_count_53 rfl rfl ?_
    refine v_callVi (pc := 54) rcX5 (As := []) (rest := []) (ct_X5_afloat) mi_X5_afloat q_870 (by decide) rfl rfl (Nat.le_of_ble_eq_true rfl) dX5_count_54 (fun q1 => ?_)
    refine v_callSi (pc := 57) (av := [.int q1.1]) (rest := []) (ct_X5_ones q1.1) mi_X5_ones q_874 (by decide) rfl rfl (Nat.le_of_ble_eq_true rfl) dX5_count_57 (fun q2 => ?_)
    exact v_iret (pc := 60) dX5_count_60
  refine v_case (c := x1 = (2 : Int32)) (fun hx => ?_) (fun hc1_2 => ?_)
  · refine v_tin (pc := 1) (tgt := 61) (off := 60) hx dX5_count_1 (by decide) (by decide) rfl rfl ?_
    refine v_aload_n (pc := 61) (i := 0) dX5_count_61 rfl rfl ?_
    refine gX5_nights (pc := 62) q_762 dX5_count_62 ?_
    exact v_iret (pc := 65) dX5_count_65
  refine v_case (c := x1 = (3 : Int32)) (fun hx => ?_) (fun hc1_3 => ?_)
  · refine v_tin (pc := 1) (tgt := 66) (off := 65) hx dX5_count_1 (by decide) (by decide) rfl rfl ?_
    refine v_aload_n (pc := 66) (i := 0) dX5_count_66 rfl rfl ?_
    refine gX5_doubt (pc := 67) q_763 dX5_count_67 ?_
    exact v_iret (pc := 70) dX5_count_70
  refine v_case (c := x1 = (4 : Int32)) (fun hx => ?_) (fun hc1_4 => ?_)
  · refine v_tin (pc := 1) (tgt := 71) (off := 70) hx dX5_count_1 (by decide) (by decide) rfl rfl ?_
    refine v_aload_n (pc := 71) (i := 0) dX5_count_71 rfl rfl ?_
    refine v_callVi (pc := 72) rcX5 (As := []) (rest := []) (ct_X5_rockMany) mi_X5_rockMany q_877 (by decide) rfl rfl (Nat.le_of_ble_eq_true rfl) dX5_count_72 (fun q3 => ?_)
    exact v_iret (pc := 75) dX5_count_75
  refine v_case (c := x1 = (5 : Int32)) (fun hx => ?_) (fun hc1_5 => ?_)
  · refine v_tin (pc := 1) (tgt := 76) (off := 75) hx dX5_count_1 (by decide) (by decide) rfl rfl ?_
    refine v_aload_n (pc := 76) (i := 0) dX5_count_76 rfl rfl ?_
    refine gX5_texts (pc := 77) q_768 dX5_count_77 ?_
    exact v_iret (pc := 80) dX5_count_80
  refine v_case (c := x1 = (6 : Int32)) (fun hx => ?_) (fun hc1_6 => ?_)
  · refine v_tin (pc := 1) (tgt := 81) (off := 80) hx dX5_count_1 (by decide) (by decide) rfl rfl ?_
    refine v_aload_n (pc := 81) (i := 0) dX5_count_81 rfl rfl ?_
    refine gX5_rule (pc := 82) q_769 dX5_count_82 ?_
    exact v_iret (pc := 85) dX5_count_85
  refine v_case (c := x1 = (7 : Int32)) (fun hx => ?_) (fun hc1_7 => ?_)
  · refine v_tin (pc := 1) (tgt := 86) (off := 85) hx dX5_count_1 (by decide) (by decide) rfl rfl ?_
    refine v_aload_n (pc := 86) (i := 0) dX5_count_86 rfl rfl ?_
    refine gX5_taped (pc := 87) q_765 dX5_count_87 ?_
    exact v_iret (pc := 90) dX5_count_90
  refine v_tout (pc := 1) (tgt := 91) dX5_count_1 (by have e0 := tsw_ne (a := 0) hc1_0 rfl; have e1 := tsw_ne (a := 1) hc1_1 rfl; have e2 := tsw_ne (a := 2) hc1_2 rfl; have e3 := tsw_ne (a := 3) hc1_3 rfl; have e4 := tsw_ne (a := 4) hc1_4 rfl; have e5 := tsw_ne (a := 5) hc1_5 rfl; have e6 := tsw_ne (a := 6) hc1_6 rfl; have e7 := tsw_ne (a := 7) hc1_7 rfl; omega) rfl ?_
  refine v_bipush (pc := 91) dX5_count_91 bp_m2 ?_
  exact v_iret (pc := 93) dX5_count_93
theorem ct_X5_count {g : Gt} {ad : Nat → Nat} (x1 : Int32) : CT g (LM ad) yX5_count cX5_count 2 (some .int) 3 [.ref (aMo ad), .int x1] iI (wM g ad) (f_X5_count x1) :=
  ct_of_V (own := RX5) (lv0 := [(0, .ref (aMo ad)), (1, .int x1)]) (by decide +kernel) rfl (Nat.le_of_ble_eq_true rfl) rfl (fun z σ => vf_X5_count z x1 σ)
-- LighthouseLiedToModel.in
theorem dX5_in_0 : decode cX5_in 0 = .ok (.iload_n 0, 1) := by decide +kernel
theorem dX5_in_1 : decode cX5_in 1 = .ok (.iload_n 1, 1) := by decide +kernel
theorem dX5_in_2 : decode cX5_in 2 = .ok (.if_icmp .lt 12, 3) := by decide +kernel
theorem dX5_in_5 : decode cX5_in 5 = .ok (.iload_n 0, 1) := by decide +kernel
theorem dX5_in_6 : decode cX5_in 6 = .ok (.iload_n 2, 1) := by decide +kernel
theorem dX5_in_7 : decode cX5_in 7 = .ok (.if_icmp .gt 7, 3) := by decide +kernel
theorem dX5_in_10 : decode cX5_in 10 = .ok (.iconst 1, 1) := by decide +kernel
theorem dX5_in_11 : decode cX5_in 11 = .ok (.goto 4, 3) := by decide +kernel
theorem dX5_in_14 : decode cX5_in 14 = .ok (.iconst 0, 1) := by decide +kernel
theorem dX5_in_15 : decode cX5_in 15 = .ok (.ireturn, 1) := by decide +kernel
def f_X5_in (x0 : Int32) (x1 : Int32) (x2 : Int32) (σ : GM) : Option (Int32 × GM) :=
  if x0 < x1 then (some ((0 : Int32), σ)) else (if x2 < x0 then (some ((0 : Int32), σ)) else (some ((1 : Int32), σ)))
theorem vf_X5_in {g : Gt} {ad : Nat → Nat} (z : Zt) (x0 : Int32) (x1 : Int32) (x2 : Int32) (σ : GM) : V g (LM ad) 1 RX5 cX5_in 3 (some .boolean) (wM g ad) iI z (f_X5_in x0 x1 x2 σ) σ 0 [(0, .int x0), (1, .int x1), (2, .int x2)] [] := by
  unfold f_X5_in
  refine v_iload_n (pc := 0) (i := 0) dX5_in_0 rfl rfl ?_
  refine v_iload_n (pc := 1) (i := 1) dX5_in_1 rfl rfl ?_
  refine v_icmp_lt (pc := 2) (tgt := 14) dX5_in_2 rfl ?_ ?_
  · refine v_iconst (pc := 14) dX5_in_14 ic_0 ?_
    exact v_nret (pc := 15) rfl dX5_in_15
  · refine v_iload_n (pc := 5) (i := 0) dX5_in_5 rfl rfl ?_
    refine v_iload_n (pc := 6) (i := 2) dX5_in_6 rfl rfl ?_
    refine v_icmp_gt (pc := 7) (tgt := 14) dX5_in_7 rfl ?_ ?_
    · refine v_iconst (pc := 14) dX5_in_14 ic_0 ?_
      exact v_nret (pc := 15) rfl dX5_in_15
    · refine v_iconst (pc := 10) dX5_in_10 ic_1 ?_
      refine v_goto (pc := 11) (tgt := 15) dX5_in_11 rfl ?_
      exact v_nret (pc := 15) rfl dX5_in_15
theorem ct_X5_in {g : Gt} {ad : Nat → Nat} (x0 : Int32) (x1 : Int32) (x2 : Int32) : CT g (LM ad) yX5_in cX5_in 3 (some .boolean) 1 [.int x0, .int x1, .int x2] iI (wM g ad) (f_X5_in x0 x1 x2) :=
  ct_of_V (own := RX5) (lv0 := [(0, .int x0), (1, .int x1), (2, .int x2)]) (by decide +kernel) rfl (Nat.le_of_ble_eq_true rfl) rfl (fun z σ => vf_X5_in z x0 x1 x2 σ)
-- LighthouseLiedToModel.isCell
theorem dX5_isCell_0 : decode cX5_isCell 0 = .ok (.iload_n 0, 1) := by decide +kernel
theorem dX5_isCell_1 : decode cX5_isCell 1 = .ok (.iconst 0, 1) := by decide +kernel
theorem dX5_isCell_2 : decode cX5_isCell 2 = .ok (.bipush 35, 2) := by decide +kernel
theorem dX5_isCell_4 : decode cX5_isCell 4 = .ok (.invokestatic 78, 3) := by decide +kernel
theorem dX5_isCell_7 : decode cX5_isCell 7 = .ok (.ireturn, 1) := by decide +kernel
def f_X5_isCell (x0 : Int32) (σ : GM) : Option (Int32 × GM) :=
  bnd (f_X5_in x0 (0 : Int32) (35 : Int32) σ) fun q1 => if q1.1 = 0 ∨ q1.1 = 1 then some (q1.1, q1.2) else none
theorem vf_X5_isCell {g : Gt} {ad : Nat → Nat} (z : Zt) (x0 : Int32) (σ : GM) : V g (LM ad) 2 RX5 cX5_isCell 1 (some .boolean) (wM g ad) iI z (f_X5_isCell x0 σ) σ 0 [(0, .int x0)] [] := by
  unfold f_X5_isCell
  refine v_iload_n (pc := 0) (i := 0) dX5_isCell_0 rfl rfl ?_
  refine v_iconst (pc := 1) dX5_isCell_1 ic_0 ?_
  refine v_bipush (pc := 2) dX5_isCell_2 bp_35 ?_
  refine v_callSi (pc := 4) (av := [.int x0, .int (0 : Int32), .int (35 : Int32)]) (rest := []) (ct_X5_in x0 (0 : Int32) (35 : Int32)) mi_X5_in q_715 (by decide) rfl rfl (Nat.le_of_ble_eq_true rfl) dX5_isCell_4 (fun q1 => ?_)
  exact v_zret (pc := 7) dX5_isCell_7
theorem ct_X5_isCell {g : Gt} {ad : Nat → Nat} (x0 : Int32) : CT g (LM ad) yX5_isCell cX5_isCell 1 (some .boolean) 2 [.int x0] iI (wM g ad) (f_X5_isCell x0) :=
  ct_of_V (own := RX5) (lv0 := [(0, .int x0)]) (by decide +kernel) rfl (Nat.le_of_ble_eq_true rfl) rfl (fun z σ => vf_X5_isCell z x0 σ)
-- LighthouseLiedToModel.rock
theorem dX5_rock_0 : decode cX5_rock 0 = .ok (.iload_n 1, 1) := by decide +kernel
theorem dX5_rock_1 : decode cX5_rock 1 = .ok (.invokestatic 115, 3) := by decide +kernel
theorem dX5_rock_4 : decode cX5_rock 4 = .ok (.ifCond .ne 6, 3) := by decide +kernel
theorem dX5_rock_7 : decode cX5_rock 7 = .ok (.bipush (-5), 2) := by decide +kernel
theorem dX5_rock_9 : decode cX5_rock 9 = .ok (.ireturn, 1) := by decide +kernel
theorem dX5_rock_10 : decode cX5_rock 10 = .ok (.iload_n 2, 1) := by decide +kernel
theorem dX5_rock_11 : decode cX5_rock 11 = .ok (.iconst 0, 1) := by decide +kernel
theorem dX5_rock_12 : decode cX5_rock 12 = .ok (.iconst 1, 1) := by decide +kernel
theorem dX5_rock_13 : decode cX5_rock 13 = .ok (.invokestatic 78, 3) := by decide +kernel
theorem dX5_rock_16 : decode cX5_rock 16 = .ok (.ifCond .ne 6, 3) := by decide +kernel
theorem dX5_rock_19 : decode cX5_rock 19 = .ok (.bipush (-7), 2) := by decide +kernel
theorem dX5_rock_21 : decode cX5_rock 21 = .ok (.ireturn, 1) := by decide +kernel
theorem dX5_rock_22 : decode cX5_rock 22 = .ok (.aload_n 0, 1) := by decide +kernel
theorem dX5_rock_23 : decode cX5_rock 23 = .ok (.iload_n 1, 1) := by decide +kernel
theorem dX5_rock_24 : decode cX5_rock 24 = .ok (.invokevirtual 89, 3) := by decide +kernel
theorem dX5_rock_27 : decode cX5_rock 27 = .ok (.ifCond .eq 7, 3) := by decide +kernel
theorem dX5_rock_30 : decode cX5_rock 30 = .ok (.iconst 1, 1) := by decide +kernel
theorem dX5_rock_31 : decode cX5_rock 31 = .ok (.goto 4, 3) := by decide +kernel
theorem dX5_rock_34 : decode cX5_rock 34 = .ok (.iconst 0, 1) := by decide +kernel
theorem dX5_rock_35 : decode cX5_rock 35 = .ok (.istore_n 3, 1) := by decide +kernel
theorem dX5_rock_36 : decode cX5_rock 36 = .ok (.aload_n 0, 1) := by decide +kernel
theorem dX5_rock_37 : decode cX5_rock 37 = .ok (.iload_n 2, 1) := by decide +kernel
theorem dX5_rock_38 : decode cX5_rock 38 = .ok (.iconst 1, 1) := by decide +kernel
theorem dX5_rock_39 : decode cX5_rock 39 = .ok (.if_icmp .ne 14, 3) := by decide +kernel
theorem dX5_rock_42 : decode cX5_rock 42 = .ok (.aload_n 0, 1) := by decide +kernel
theorem dX5_rock_43 : decode cX5_rock 43 = .ok (.getfield 85, 3) := by decide +kernel
theorem dX5_rock_46 : decode cX5_rock 46 = .ok (.lconst 1, 1) := by decide +kernel
theorem dX5_rock_47 : decode cX5_rock 47 = .ok (.iload_n 1, 1) := by decide +kernel
theorem dX5_rock_48 : decode cX5_rock 48 = .ok (.lshl, 1) := by decide +kernel
theorem dX5_rock_49 : decode cX5_rock 49 = .ok (.lor, 1) := by decide +kernel
theorem dX5_rock_50 : decode cX5_rock 50 = .ok (.goto 15, 3) := by decide +kernel
theorem dX5_rock_53 : decode cX5_rock 53 = .ok (.aload_n 0, 1) := by decide +kernel
theorem dX5_rock_54 : decode cX5_rock 54 = .ok (.getfield 85, 3) := by decide +kernel
theorem dX5_rock_57 : decode cX5_rock 57 = .ok (.lconst 1, 1) := by decide +kernel
theorem dX5_rock_58 : decode cX5_rock 58 = .ok (.iload_n 1, 1) := by decide +kernel
theorem dX5_rock_59 : decode cX5_rock 59 = .ok (.lshl, 1) := by decide +kernel
theorem dX5_rock_60 : decode cX5_rock 60 = .ok (.ldc2_w 118, 3) := by decide +kernel
theorem dX5_rock_63 : decode cX5_rock 63 = .ok (.lxor, 1) := by decide +kernel
theorem dX5_rock_64 : decode cX5_rock 64 = .ok (.land, 1) := by decide +kernel
theorem dX5_rock_65 : decode cX5_rock 65 = .ok (.putfield 85, 3) := by decide +kernel
theorem dX5_rock_68 : decode cX5_rock 68 = .ok (.iload_n 3, 1) := by decide +kernel
theorem dX5_rock_69 : decode cX5_rock 69 = .ok (.ireturn, 1) := by decide +kernel
def b_X5_rock_35 (x1 : Int32) (x2 : Int32) (xs0 : Int32) (σ : GM) : Option (Int32 × GM) :=
  if x2 ≠ (1 : Int32) then (bnd (some (tL σ 0 ((mL σ 0) &&& ((slL (1 : Int64) x1) ^^^ (-1 : Int64))))) fun σ4 => some (xs0, σ4)) else (bnd (some (tL σ 0 ((mL σ 0) ||| (slL (1 : Int64) x1)))) fun σ5 => some (xs0, σ5))
theorem vb_X5_rock_35 {g : Gt} {ad : Nat → Nat} (z : Zt) (x1 : Int32) (x2 : Int32) (xs0 : Int32) (σ : GM) : V g (LM ad) 3 RX5 cX5_rock 4 (some .int) (wM g ad) iI z (b_X5_rock_35 x1 x2 xs0 σ) σ 35 [(0, .ref (aMo ad)), (1, .int x1), (2, .int x2)] [.int xs0] := by
  unfold b_X5_rock_35
  refine v_istore_n (pc := 35) (lv' := [(3, .int xs0), (0, .ref (aMo ad)), (1, .int x1), (2, .int x2)]) (i := 3) dX5_rock_35 rfl (by decide) rfl ?_
  refine v_aload_n (pc := 36) (i := 0) dX5_rock_36 rfl rfl ?_
  refine v_iload_n (pc := 37) (i := 2) dX5_rock_37 rfl rfl ?_
  refine v_iconst (pc := 38) dX5_rock_38 ic_1 ?_
  refine v_icmp_ne (pc := 39) (tgt := 53) dX5_rock_39 rfl ?_ ?_
  · refine v_aload_n (pc := 53) (i := 0) dX5_rock_53 rfl rfl ?_
    refine gX5_rocks (pc := 54) q_761 dX5_rock_54 ?_
    refine v_lconst (pc := 57) dX5_rock_57 lc_1 ?_
    refine v_iload_n (pc := 58) (i := 1) dX5_rock_58 rfl rfl ?_
    refine v_lshl (pc := 59) dX5_rock_59 ?_
    refine v_ldc2 (pc := 60) dX5_rock_60 q_892 ?_
    refine v_lxor (pc := 63) dX5_rock_63 ?_
    refine v_land (pc := 64) dX5_rock_64 ?_
    refine pX5_rocks (pc := 65) q_761 dX5_rock_65 ?_
    refine v_nms (fun σ4 => ?_)
    refine v_iload_n (pc := 68) (i := 3) dX5_rock_68 rfl rfl ?_
    exact v_iret (pc := 69) dX5_rock_69
  · refine v_aload_n (pc := 42) (i := 0) dX5_rock_42 rfl rfl ?_
    refine gX5_rocks (pc := 43) q_761 dX5_rock_43 ?_
    refine v_lconst (pc := 46) dX5_rock_46 lc_1 ?_
    refine v_iload_n (pc := 47) (i := 1) dX5_rock_47 rfl rfl ?_
    refine v_lshl (pc := 48) dX5_rock_48 ?_
    refine v_lor (pc := 49) dX5_rock_49 ?_
    refine v_goto (pc := 50) (tgt := 65) dX5_rock_50 rfl ?_
    refine pX5_rocks (pc := 65) q_761 dX5_rock_65 ?_
    refine v_nms (fun σ5 => ?_)
    refine v_iload_n (pc := 68) (i := 3) dX5_rock_68 rfl rfl ?_
    exact v_iret (pc := 69) dX5_rock_69
def f_X5_rock (x1 : Int32) (x2 : Int32) (σ : GM) : Option (Int32 × GM) :=
  bnd (f_X5_isCell x1 σ) fun q1 => if q1.1 ≠ 0 then (bnd (f_X5_in x2 (0 : Int32) (1 : Int32) q1.2) fun q2 => if q2.1 ≠ 0 then (bnd (f_X5_hasRock x1 q2.2) fun q3 => if q3.1 = 0 then (b_X5_rock_35 x1 x2 (0 : Int32) q3.2) else (b_X5_rock_35 x1 x2 (1 : Int32) q3.2)) else (some ((-7 : Int32), q2.2))) else (some ((-5 : Int32), q1.2))
theorem vf_X5_rock {g : Gt} {ad : Nat → Nat} (z : Zt) (x1 : Int32) (x2 : Int32) (σ : GM) : V g (LM ad) 3 RX5 cX5_rock 4 (some .int) (wM g ad) iI z (f_X5_rock x1 x2 σ) σ 0 [(0, .ref (aMo ad)), (1, .int x1), (2, .int x2)] [] := by
  unfold f_X5_rock
  refine v_iload_n (pc := 0) (i := 1) dX5_rock_0 rfl rfl ?_
  refine v_callSi (pc := 1) (av := [.int x1]) (rest := []) (ct_X5_isCell x1) mi_X5_isCell q_889 (by decide) rfl rfl (Nat.le_of_ble_eq_true rfl) dX5_rock_1 (fun q1 => ?_)
  refine v_if_ne (pc := 4) (tgt := 10) dX5_rock_4 rfl ?_ ?_
  · refine v_iload_n (pc := 10) (i := 2) dX5_rock_10 rfl rfl ?_
    refine v_iconst (pc := 11) dX5_rock_11 ic_0 ?_
    refine v_iconst (pc := 12) dX5_rock_12 ic_1 ?_
    refine v_callSi (pc := 13) (av := [.int x2, .int (0 : Int32), .int (1 : Int32)]) (rest := []) (ct_X5_in x2 (0 : Int32) (1 : Int32)) mi_X5_in q_715 (by decide) rfl rfl (Nat.le_of_ble_eq_true rfl) dX5_rock_13 (fun q2 => ?_)
    refine v_if_ne (pc := 16) (tgt := 22) dX5_rock_16 rfl ?_ ?_
    · refine v_aload_n (pc := 22) (i := 0) dX5_rock_22 rfl rfl ?_
      refine v_iload_n (pc := 23) (i := 1) dX5_rock_23 rfl rfl ?_
      refine v_callVi (pc := 24) rcX5 (As := [.int x1]) (rest := []) (ct_X5_hasRock x1) mi_X5_hasRock q_881 (by decide) rfl rfl (Nat.le_of_ble_eq_true rfl) dX5_rock_24 (fun q3 => ?_)
      refine v_if_eq (pc := 27) (tgt := 34) dX5_rock_27 rfl ?_ ?_
      · refine v_iconst (pc := 34) dX5_rock_34 ic_0 ?_
        exact v_sub [0, 1, 2] rfl (vb_X5_rock_35 z x1 x2 (0 : Int32) q3.2)
      · refine v_iconst (pc := 30) dX5_rock_30 ic_1 ?_
        refine v_goto (pc := 31) (tgt := 35) dX5_rock_31 rfl ?_
        exact v_sub [0, 1, 2] rfl (vb_X5_rock_35 z x1 x2 (1 : Int32) q3.2)
    · refine v_bipush (pc := 19) dX5_rock_19 bp_m7 ?_
      exact v_iret (pc := 21) dX5_rock_21
  · refine v_bipush (pc := 7) dX5_rock_7 bp_m5 ?_
    exact v_iret (pc := 9) dX5_rock_9
theorem ct_X5_rock {g : Gt} {ad : Nat → Nat} (x1 : Int32) (x2 : Int32) : CT g (LM ad) yX5_rock cX5_rock 4 (some .int) 3 [.ref (aMo ad), .int x1, .int x2] iI (wM g ad) (f_X5_rock x1 x2) :=
  ct_of_V (own := RX5) (lv0 := [(0, .ref (aMo ad)), (1, .int x1), (2, .int x2)]) (by decide +kernel) rfl (Nat.le_of_ble_eq_true rfl) rfl (fun z σ => vf_X5_rock z x1 x2 σ)
-- LighthouseLiedToModel.within
theorem dX5_within_0 : decode cX5_within 0 = .ok (.iload_n 0, 1) := by decide +kernel
theorem dX5_within_1 : decode cX5_within 1 = .ok (.iload_n 1, 1) := by decide +kernel
theorem dX5_within_2 : decode cX5_within 2 = .ok (.if_icmp .ge 7, 3) := by decide +kernel
theorem dX5_within_5 : decode cX5_within 5 = .ok (.iload_n 1, 1) := by decide +kernel
theorem dX5_within_6 : decode cX5_within 6 = .ok (.goto 13, 3) := by decide +kernel
theorem dX5_within_9 : decode cX5_within 9 = .ok (.iload_n 0, 1) := by decide +kernel
theorem dX5_within_10 : decode cX5_within 10 = .ok (.iload_n 2, 1) := by decide +kernel
theorem dX5_within_11 : decode cX5_within 11 = .ok (.if_icmp .le 7, 3) := by decide +kernel
theorem dX5_within_14 : decode cX5_within 14 = .ok (.iload_n 2, 1) := by decide +kernel
theorem dX5_within_15 : decode cX5_within 15 = .ok (.goto 4, 3) := by decide +kernel
theorem dX5_within_18 : decode cX5_within 18 = .ok (.iload_n 0, 1) := by decide +kernel
theorem dX5_within_19 : decode cX5_within 19 = .ok (.ireturn, 1) := by decide +kernel
def f_X5_within (x0 : Int32) (x1 : Int32) (x2 : Int32) (σ : GM) : Option (Int32 × GM) :=
  if x1 ≤ x0 then (if x0 ≤ x2 then (some (x0, σ)) else (some (x2, σ))) else (some (x1, σ))
theorem vf_X5_within {g : Gt} {ad : Nat → Nat} (z : Zt) (x0 : Int32) (x1 : Int32) (x2 : Int32) (σ : GM) : V g (LM ad) 1 RX5 cX5_within 3 (some .int) (wM g ad) iI z (f_X5_within x0 x1 x2 σ) σ 0 [(0, .int x0), (1, .int x1), (2, .int x2)] [] := by
  unfold f_X5_within
  refine v_iload_n (pc := 0) (i := 0) dX5_within_0 rfl rfl ?_
  refine v_iload_n (pc := 1) (i := 1) dX5_within_1 rfl rfl ?_
  refine v_icmp_ge (pc := 2) (tgt := 9) dX5_within_2 rfl ?_ ?_
  · refine v_iload_n (pc := 9) (i := 0) dX5_within_9 rfl rfl ?_
    refine v_iload_n (pc := 10) (i := 2) dX5_within_10 rfl rfl ?_
    refine v_icmp_le (pc := 11) (tgt := 18) dX5_within_11 rfl ?_ ?_
    · refine v_iload_n (pc := 18) (i := 0) dX5_within_18 rfl rfl ?_
      exact v_iret (pc := 19) dX5_within_19
    · refine v_iload_n (pc := 14) (i := 2) dX5_within_14 rfl rfl ?_
      refine v_goto (pc := 15) (tgt := 19) dX5_within_15 rfl ?_
      exact v_iret (pc := 19) dX5_within_19
  · refine v_iload_n (pc := 5) (i := 1) dX5_within_5 rfl rfl ?_
    refine v_goto (pc := 6) (tgt := 19) dX5_within_6 rfl ?_
    exact v_iret (pc := 19) dX5_within_19
theorem ct_X5_within {g : Gt} {ad : Nat → Nat} (x0 : Int32) (x1 : Int32) (x2 : Int32) : CT g (LM ad) yX5_within cX5_within 3 (some .int) 1 [.int x0, .int x1, .int x2] iI (wM g ad) (f_X5_within x0 x1 x2) :=
  ct_of_V (own := RX5) (lv0 := [(0, .int x0), (1, .int x1), (2, .int x2)]) (by decide +kernel) rfl (Nat.le_of_ble_eq_true rfl) rfl (fun z σ => vf_X5_within z x0 x1 x2 σ)
-- LighthouseLiedToModel.isToldOf
theorem dX5_isToldOf_0 : decode cX5_isToldOf 0 = .ok (.aload_n 0, 1) := by decide +kernel
theorem dX5_isToldOf_1 : decode cX5_isToldOf 1 = .ok (.getfield 25, 3) := by decide +kernel
theorem dX5_isToldOf_4 : decode cX5_isToldOf 4 = .ok (.iload_n 1, 1) := by decide +kernel
theorem dX5_isToldOf_5 : decode cX5_isToldOf 5 = .ok (.aload_n 0, 1) := by decide +kernel
theorem dX5_isToldOf_6 : decode cX5_isToldOf 6 = .ok (.getfield 25, 3) := by decide +kernel
theorem dX5_isToldOf_9 : decode cX5_isToldOf 9 = .ok (.iload_n 1, 1) := by decide +kernel
theorem dX5_isToldOf_10 : decode cX5_isToldOf 10 = .ok (.iaload, 1) := by decide +kernel
theorem dX5_isToldOf_11 : decode cX5_isToldOf 11 = .ok (.iload_n 2, 1) := by decide +kernel
theorem dX5_isToldOf_12 : decode cX5_isToldOf 12 = .ok (.iconst 1, 1) := by decide +kernel
theorem dX5_isToldOf_13 : decode cX5_isToldOf 13 = .ok (.aload_n 0, 1) := by decide +kernel
theorem dX5_isToldOf_14 : decode cX5_isToldOf 14 = .ok (.getfield 103, 3) := by decide +kernel
theorem dX5_isToldOf_17 : decode cX5_isToldOf 17 = .ok (.bipush 10, 2) := by decide +kernel
theorem dX5_isToldOf_19 : decode cX5_isToldOf 19 = .ok (.idiv, 1) := by decide +kernel
theorem dX5_isToldOf_20 : decode cX5_isToldOf 20 = .ok (.iadd, 1) := by decide +kernel
theorem dX5_isToldOf_21 : decode cX5_isToldOf 21 = .ok (.idiv, 1) := by decide +kernel
theorem dX5_isToldOf_22 : decode cX5_isToldOf 22 = .ok (.iadd, 1) := by decide +kernel
theorem dX5_isToldOf_23 : decode cX5_isToldOf 23 = .ok (.iconst 0, 1) := by decide +kernel
theorem dX5_isToldOf_24 : decode cX5_isToldOf 24 = .ok (.bipush 99, 2) := by decide +kernel
theorem dX5_isToldOf_26 : decode cX5_isToldOf 26 = .ok (.invokestatic 120, 3) := by decide +kernel
theorem dX5_isToldOf_29 : decode cX5_isToldOf 29 = .ok (.iastore, 1) := by decide +kernel
theorem dX5_isToldOf_30 : decode cX5_isToldOf 30 = .ok (.return_, 1) := by decide +kernel
def f_X5_isToldOf (x1 : Int32) (x2 : Int32) (σ : GM) : Option (Unit × GM) :=
  grd x1 36 (if ¬ ((1 : Int32) + ((mI σ 2) / (10 : Int32))) = 0 then (bnd (f_X5_within ((mA σ 5 x1.toNatClampNeg) + (x2 / ((1 : Int32) + ((mI σ 2) / (10 : Int32))))) (0 : Int32) (99 : Int32) σ) fun q1 => grd x1 36 (bnd (some (tA q1.2 5 x1.toNatClampNeg q1.1)) fun σ2 => some ((), σ2))) else none)
theorem vf_X5_isToldOf {g : Gt} {ad : Nat → Nat} (z : Zt) (x1 : Int32) (x2 : Int32) (σ : GM) : V g (LM ad) 2 RX5 cX5_isToldOf 3 none (wM g ad) iU z (f_X5_isToldOf x1 x2 σ) σ 0 [(0, .ref (aMo ad)), (1, .int x1), (2, .int x2)] [] := by
  unfold f_X5_isToldOf
  refine v_aload_n (pc := 0) (i := 0) dX5_isToldOf_0 rfl rfl ?_
  refine gX5_beliefs (pc := 1) q_760 dX5_isToldOf_1 ?_
  refine v_iload_n (pc := 4) (i := 1) dX5_isToldOf_4 rfl rfl ?_
  refine v_aload_n (pc := 5) (i := 0) dX5_isToldOf_5 rfl rfl ?_
  refine gX5_beliefs (pc := 6) q_760 dX5_isToldOf_6 ?_
  refine v_iload_n (pc := 9) (i := 1) dX5_isToldOf_9 rfl rfl ?_
  refine lM_beliefs (pc := 10) dX5_isToldOf_10 ?_
  refine v_iload_n (pc := 11) (i := 2) dX5_isToldOf_11 rfl rfl ?_
  refine v_iconst (pc := 12) dX5_isToldOf_12 ic_1 ?_
  refine v_aload_n (pc := 13) (i := 0) dX5_isToldOf_13 rfl rfl ?_
  refine gX5_doubt (pc := 14) q_763 dX5_isToldOf_14 ?_
  refine v_bipush (pc := 17) dX5_isToldOf_17 bp_10 ?_
  refine v_idiv (pc := 19) dX5_isToldOf_19 (by decide) ?_
  refine v_iadd (pc := 20) dX5_isToldOf_20 ?_
  refine v_idivG (pc := 21) dX5_isToldOf_21 ?_
  refine v_iadd (pc := 22) dX5_isToldOf_22 ?_
  refine v_iconst (pc := 23) dX5_isToldOf_23 ic_0 ?_
  refine v_bipush (pc := 24) dX5_isToldOf_24 bp_99 ?_
  refine v_callSi (pc := 26) (av := [.int ((mA σ 5 x1.toNatClampNeg) + (x2 / ((1 : Int32) + ((mI σ 2) / (10 : Int32))))), .int (0 : Int32), .int (99 : Int32)]) (rest := [.int x1, .ref (aMoA ad 5)]) (ct_X5_within ((mA σ 5 x1.toNatClampNeg) + (x2 / ((1 : Int32) + ((mI σ 2) / (10 : Int32))))) (0 : Int32) (99 : Int32)) mi_X5_within q_901 (by decide) rfl rfl (Nat.le_of_ble_eq_true rfl) dX5_isToldOf_26 (fun q1 => ?_)
  refine sM_beliefs (pc := 29) dX5_isToldOf_29 ?_
  refine v_nms (fun σ2 => ?_)
  exact v_ret (pc := 30) dX5_isToldOf_30
theorem ct_X5_isToldOf {g : Gt} {ad : Nat → Nat} (x1 : Int32) (x2 : Int32) : CT g (LM ad) yX5_isToldOf cX5_isToldOf 3 none 2 [.ref (aMo ad), .int x1, .int x2] iU (wM g ad) (f_X5_isToldOf x1 x2) :=
  ct_of_V (own := RX5) (lv0 := [(0, .ref (aMo ad)), (1, .int x1), (2, .int x2)]) (by decide +kernel) rfl (Nat.le_of_ble_eq_true rfl) rfl (fun z σ => vf_X5_isToldOf z x1 x2 σ)
-- LighthouseLiedToModel.tell
theorem dX5_tell_0 : decode cX5_tell 0 = .ok (.iload_n 1, 1) := by decide +kernel
theorem dX5_tell_1 : decode cX5_tell 1 = .ok (.invokestatic 115, 3) := by decide +kernel
theorem dX5_tell_4 : decode cX5_tell 4 = .ok (.ifCond .ne 6, 3) := by decide +kernel
theorem dX5_tell_7 : decode cX5_tell 7 = .ok (.bipush (-5), 2) := by decide +kernel
theorem dX5_tell_9 : decode cX5_tell 9 = .ok (.ireturn, 1) := by decide +kernel
theorem dX5_tell_10 : decode cX5_tell 10 = .ok (.iload_n 2, 1) := by decide +kernel
theorem dX5_tell_11 : decode cX5_tell 11 = .ok (.bipush (-99), 2) := by decide +kernel
theorem dX5_tell_13 : decode cX5_tell 13 = .ok (.bipush 99, 2) := by decide +kernel
theorem dX5_tell_15 : decode cX5_tell 15 = .ok (.invokestatic 78, 3) := by decide +kernel
theorem dX5_tell_18 : decode cX5_tell 18 = .ok (.ifCond .ne 6, 3) := by decide +kernel
theorem dX5_tell_21 : decode cX5_tell 21 = .ok (.bipush (-7), 2) := by decide +kernel
theorem dX5_tell_23 : decode cX5_tell 23 = .ok (.ireturn, 1) := by decide +kernel
theorem dX5_tell_24 : decode cX5_tell 24 = .ok (.aload_n 0, 1) := by decide +kernel
theorem dX5_tell_25 : decode cX5_tell 25 = .ok (.iload_n 1, 1) := by decide +kernel
theorem dX5_tell_26 : decode cX5_tell 26 = .ok (.iload_n 2, 1) := by decide +kernel
theorem dX5_tell_27 : decode cX5_tell 27 = .ok (.invokevirtual 124, 3) := by decide +kernel
theorem dX5_tell_30 : decode cX5_tell 30 = .ok (.aload_n 0, 1) := by decide +kernel
theorem dX5_tell_31 : decode cX5_tell 31 = .ok (.getfield 25, 3) := by decide +kernel
theorem dX5_tell_34 : decode cX5_tell 34 = .ok (.iload_n 1, 1) := by decide +kernel
theorem dX5_tell_35 : decode cX5_tell 35 = .ok (.iaload, 1) := by decide +kernel
theorem dX5_tell_36 : decode cX5_tell 36 = .ok (.ireturn, 1) := by decide +kernel
def f_X5_tell (x1 : Int32) (x2 : Int32) (σ : GM) : Option (Int32 × GM) :=
  bnd (f_X5_isCell x1 σ) fun q1 => if q1.1 ≠ 0 then (bnd (f_X5_in x2 (-99 : Int32) (99 : Int32) q1.2) fun q2 => if q2.1 ≠ 0 then (bnd (f_X5_isToldOf x1 x2 q2.2) fun q3 => grd x1 36 (some ((mA q3.2 5 x1.toNatClampNeg), q3.2))) else (some ((-7 : Int32), q2.2))) else (some ((-5 : Int32), q1.2))
theorem vf_X5_tell {g : Gt} {ad : Nat → Nat} (z : Zt) (x1 : Int32) (x2 : Int32) (σ : GM) : V g (LM ad) 3 RX5 cX5_tell 3 (some .int) (wM g ad) iI z (f_X5_tell x1 x2 σ) σ 0 [(0, .ref (aMo ad)), (1, .int x1), (2, .int x2)] [] := by
  unfold f_X5_tell
  refine v_iload_n (pc := 0) (i := 1) dX5_tell_0 rfl rfl ?_
  refine v_callSi (pc := 1) (av := [.int x1]) (rest := []) (ct_X5_isCell x1) mi_X5_isCell q_889 (by decide) rfl rfl (Nat.le_of_ble_eq_true rfl) dX5_tell_1 (fun q1 => ?_)
  refine v_if_ne (pc := 4) (tgt := 10) dX5_tell_4 rfl ?_ ?_
  · refine v_iload_n (pc := 10) (i := 2) dX5_tell_10 rfl rfl ?_
    refine v_bipush (pc := 11) dX5_tell_11 bp_m99 ?_
    refine v_bipush (pc := 13) dX5_tell_13 bp_99 ?_
    refine v_callSi (pc := 15) (av := [.int x2, .int (-99 : Int32), .int (99 : Int32)]) (rest := []) (ct_X5_in x2 (-99 : Int32) (99 : Int32)) mi_X5_in q_715 (by decide) rfl rfl (Nat.le_of_ble_eq_true rfl) dX5_tell_15 (fun q2 => ?_)
    refine v_if_ne (pc := 18) (tgt := 24) dX5_tell_18 rfl ?_ ?_
    · refine v_aload_n (pc := 24) (i := 0) dX5_tell_24 rfl rfl ?_
      refine v_iload_n (pc := 25) (i := 1) dX5_tell_25 rfl rfl ?_
      refine v_iload_n (pc := 26) (i := 2) dX5_tell_26 rfl rfl ?_
      refine v_callVv (pc := 27) rcX5 (As := [.int x1, .int x2]) (rest := []) (ct_X5_isToldOf x1 x2) mi_X5_isToldOf q_897 (by decide) rfl rfl (Nat.le_of_ble_eq_true rfl) dX5_tell_27 (fun q3 => ?_)
      refine v_aload_n (pc := 30) (i := 0) dX5_tell_30 rfl rfl ?_
      refine gX5_beliefs (pc := 31) q_760 dX5_tell_31 ?_
      refine v_iload_n (pc := 34) (i := 1) dX5_tell_34 rfl rfl ?_
      refine lM_beliefs (pc := 35) dX5_tell_35 ?_
      exact v_iret (pc := 36) dX5_tell_36
    · refine v_bipush (pc := 21) dX5_tell_21 bp_m7 ?_
      exact v_iret (pc := 23) dX5_tell_23
  · refine v_bipush (pc := 7) dX5_tell_7 bp_m5 ?_
    exact v_iret (pc := 9) dX5_tell_9
theorem ct_X5_tell {g : Gt} {ad : Nat → Nat} (x1 : Int32) (x2 : Int32) : CT g (LM ad) yX5_tell cX5_tell 3 (some .int) 3 [.ref (aMo ad), .int x1, .int x2] iI (wM g ad) (f_X5_tell x1 x2) :=
  ct_of_V (own := RX5) (lv0 := [(0, .ref (aMo ad)), (1, .int x1), (2, .int x2)]) (by decide +kernel) rfl (Nat.le_of_ble_eq_true rfl) rfl (fun z σ => vf_X5_tell z x1 x2 σ)
-- LighthouseLiedToModel.believes
theorem dX5_believes_0 : decode cX5_believes 0 = .ok (.iload_n 1, 1) := by decide +kernel
theorem dX5_believes_1 : decode cX5_believes 1 = .ok (.invokestatic 115, 3) := by decide +kernel
theorem dX5_believes_4 : decode cX5_believes 4 = .ok (.ifCond .eq 12, 3) := by decide +kernel
theorem dX5_believes_7 : decode cX5_believes 7 = .ok (.aload_n 0, 1) := by decide +kernel
theorem dX5_believes_8 : decode cX5_believes 8 = .ok (.getfield 25, 3) := by decide +kernel
theorem dX5_believes_11 : decode cX5_believes 11 = .ok (.iload_n 1, 1) := by decide +kernel
theorem dX5_believes_12 : decode cX5_believes 12 = .ok (.iaload, 1) := by decide +kernel
theorem dX5_believes_13 : decode cX5_believes 13 = .ok (.goto 5, 3) := by decide +kernel
theorem dX5_believes_16 : decode cX5_believes 16 = .ok (.bipush (-5), 2) := by decide +kernel
theorem dX5_believes_18 : decode cX5_believes 18 = .ok (.ireturn, 1) := by decide +kernel
def f_X5_believes (x1 : Int32) (σ : GM) : Option (Int32 × GM) :=
  bnd (f_X5_isCell x1 σ) fun q1 => if q1.1 = 0 then (some ((-5 : Int32), q1.2)) else (grd x1 36 (some ((mA q1.2 5 x1.toNatClampNeg), q1.2)))
theorem vf_X5_believes {g : Gt} {ad : Nat → Nat} (z : Zt) (x1 : Int32) (σ : GM) : V g (LM ad) 3 RX5 cX5_believes 2 (some .int) (wM g ad) iI z (f_X5_believes x1 σ) σ 0 [(0, .ref (aMo ad)), (1, .int x1)] [] := by
  unfold f_X5_believes
  refine v_iload_n (pc := 0) (i := 1) dX5_believes_0 rfl rfl ?_
  refine v_callSi (pc := 1) (av := [.int x1]) (rest := []) (ct_X5_isCell x1) mi_X5_isCell q_889 (by decide) rfl rfl (Nat.le_of_ble_eq_true rfl) dX5_believes_1 (fun q1 => ?_)
  refine v_if_eq (pc := 4) (tgt := 16) dX5_believes_4 rfl ?_ ?_
  · refine v_bipush (pc := 16) dX5_believes_16 bp_m5 ?_
    exact v_iret (pc := 18) dX5_believes_18
  · refine v_aload_n (pc := 7) (i := 0) dX5_believes_7 rfl rfl ?_
    refine gX5_beliefs (pc := 8) q_760 dX5_believes_8 ?_
    refine v_iload_n (pc := 11) (i := 1) dX5_believes_11 rfl rfl ?_
    refine lM_beliefs (pc := 12) dX5_believes_12 ?_
    refine v_goto (pc := 13) (tgt := 18) dX5_believes_13 rfl ?_
    exact v_iret (pc := 18) dX5_believes_18
theorem ct_X5_believes {g : Gt} {ad : Nat → Nat} (x1 : Int32) : CT g (LM ad) yX5_believes cX5_believes 2 (some .int) 3 [.ref (aMo ad), .int x1] iI (wM g ad) (f_X5_believes x1) :=
  ct_of_V (own := RX5) (lv0 := [(0, .ref (aMo ad)), (1, .int x1)]) (by decide +kernel) rfl (Nat.le_of_ble_eq_true rfl) rfl (fun z σ => vf_X5_believes z x1 σ)
-- LighthouseLiedToModel.doubts
theorem dX5_doubts_0 : decode cX5_doubts 0 = .ok (.iload_n 1, 1) := by decide +kernel
theorem dX5_doubts_1 : decode cX5_doubts 1 = .ok (.iconst 0, 1) := by decide +kernel
theorem dX5_doubts_2 : decode cX5_doubts 2 = .ok (.bipush 99, 2) := by decide +kernel
theorem dX5_doubts_4 : decode cX5_doubts 4 = .ok (.invokestatic 78, 3) := by decide +kernel
theorem dX5_doubts_7 : decode cX5_doubts 7 = .ok (.ifCond .ne 6, 3) := by decide +kernel
theorem dX5_doubts_10 : decode cX5_doubts 10 = .ok (.bipush (-2), 2) := by decide +kernel
theorem dX5_doubts_12 : decode cX5_doubts 12 = .ok (.ireturn, 1) := by decide +kernel
theorem dX5_doubts_13 : decode cX5_doubts 13 = .ok (.aload_n 0, 1) := by decide +kernel
theorem dX5_doubts_14 : decode cX5_doubts 14 = .ok (.getfield 103, 3) := by decide +kernel
theorem dX5_doubts_17 : decode cX5_doubts 17 = .ok (.istore_n 2, 1) := by decide +kernel
theorem dX5_doubts_18 : decode cX5_doubts 18 = .ok (.aload_n 0, 1) := by decide +kernel
theorem dX5_doubts_19 : decode cX5_doubts 19 = .ok (.iload_n 1, 1) := by decide +kernel
theorem dX5_doubts_20 : decode cX5_doubts 20 = .ok (.putfield 103, 3) := by decide +kernel
theorem dX5_doubts_23 : decode cX5_doubts 23 = .ok (.iload_n 2, 1) := by decide +kernel
theorem dX5_doubts_24 : decode cX5_doubts 24 = .ok (.ireturn, 1) := by decide +kernel
def f_X5_doubts (x1 : Int32) (σ : GM) : Option (Int32 × GM) :=
  bnd (f_X5_in x1 (0 : Int32) (99 : Int32) σ) fun q1 => if q1.1 ≠ 0 then (bnd (some (mI q1.2 2)) fun w2 => bnd (some (tI q1.2 2 x1)) fun σ3 => some (w2, σ3)) else (some ((-2 : Int32), q1.2))
theorem vf_X5_doubts {g : Gt} {ad : Nat → Nat} (z : Zt) (x1 : Int32) (σ : GM) : V g (LM ad) 2 RX5 cX5_doubts 3 (some .int) (wM g ad) iI z (f_X5_doubts x1 σ) σ 0 [(0, .ref (aMo ad)), (1, .int x1)] [] := by
  unfold f_X5_doubts
  refine v_iload_n (pc := 0) (i := 1) dX5_doubts_0 rfl rfl ?_
  refine v_iconst (pc := 1) dX5_doubts_1 ic_0 ?_
  refine v_bipush (pc := 2) dX5_doubts_2 bp_99 ?_
  refine v_callSi (pc := 4) (av := [.int x1, .int (0 : Int32), .int (99 : Int32)]) (rest := []) (ct_X5_in x1 (0 : Int32) (99 : Int32)) mi_X5_in q_715 (by decide) rfl rfl (Nat.le_of_ble_eq_true rfl) dX5_doubts_4 (fun q1 => ?_)
  refine v_if_ne (pc := 7) (tgt := 13) dX5_doubts_7 rfl ?_ ?_
  · refine v_aload_n (pc := 13) (i := 0) dX5_doubts_13 rfl rfl ?_
    refine gX5_doubt (pc := 14) q_763 dX5_doubts_14 ?_
    refine v_nmi (fun w2 => ?_)
    refine v_istore_n (pc := 17) (lv' := [(2, .int w2), (0, .ref (aMo ad)), (1, .int x1)]) (i := 2) dX5_doubts_17 rfl (by decide) rfl ?_
    refine v_aload_n (pc := 18) (i := 0) dX5_doubts_18 rfl rfl ?_
    refine v_iload_n (pc := 19) (i := 1) dX5_doubts_19 rfl rfl ?_
    refine pX5_doubt (pc := 20) q_763 dX5_doubts_20 ?_
    refine v_nms (fun σ3 => ?_)
    refine v_iload_n (pc := 23) (i := 2) dX5_doubts_23 rfl rfl ?_
    exact v_iret (pc := 24) dX5_doubts_24
  · refine v_bipush (pc := 10) dX5_doubts_10 bp_m2 ?_
    exact v_iret (pc := 12) dX5_doubts_12
theorem ct_X5_doubts {g : Gt} {ad : Nat → Nat} (x1 : Int32) : CT g (LM ad) yX5_doubts cX5_doubts 3 (some .int) 2 [.ref (aMo ad), .int x1] iI (wM g ad) (f_X5_doubts x1) :=
  ct_of_V (own := RX5) (lv0 := [(0, .ref (aMo ad)), (1, .int x1)]) (by decide +kernel) rfl (Nat.le_of_ble_eq_true rfl) rfl (fun z σ => vf_X5_doubts z x1 σ)
-- LighthouseLiedToModel.isByte
theorem dX5_isByte_0 : decode cX5_isByte 0 = .ok (.iload_n 0, 1) := by decide +kernel
theorem dX5_isByte_1 : decode cX5_isByte 1 = .ok (.iconst 0, 1) := by decide +kernel
theorem dX5_isByte_2 : decode cX5_isByte 2 = .ok (.sipush 255, 3) := by decide +kernel
theorem dX5_isByte_5 : decode cX5_isByte 5 = .ok (.invokestatic 78, 3) := by decide +kernel
theorem dX5_isByte_8 : decode cX5_isByte 8 = .ok (.ireturn, 1) := by decide +kernel
def f_X5_isByte (x0 : Int32) (σ : GM) : Option (Int32 × GM) :=
  bnd (f_X5_in x0 (0 : Int32) (255 : Int32) σ) fun q1 => if q1.1 = 0 ∨ q1.1 = 1 then some (q1.1, q1.2) else none
theorem vf_X5_isByte {g : Gt} {ad : Nat → Nat} (z : Zt) (x0 : Int32) (σ : GM) : V g (LM ad) 2 RX5 cX5_isByte 1 (some .boolean) (wM g ad) iI z (f_X5_isByte x0 σ) σ 0 [(0, .int x0)] [] := by
  unfold f_X5_isByte
  refine v_iload_n (pc := 0) (i := 0) dX5_isByte_0 rfl rfl ?_
  refine v_iconst (pc := 1) dX5_isByte_1 ic_0 ?_
  refine v_sipush (pc := 2) dX5_isByte_2 sp_255 ?_
  refine v_callSi (pc := 5) (av := [.int x0, .int (0 : Int32), .int (255 : Int32)]) (rest := []) (ct_X5_in x0 (0 : Int32) (255 : Int32)) mi_X5_in q_715 (by decide) rfl rfl (Nat.le_of_ble_eq_true rfl) dX5_isByte_5 (fun q1 => ?_)
  exact v_zret (pc := 8) dX5_isByte_8
theorem ct_X5_isByte {g : Gt} {ad : Nat → Nat} (x0 : Int32) : CT g (LM ad) yX5_isByte cX5_isByte 1 (some .boolean) 2 [.int x0] iI (wM g ad) (f_X5_isByte x0) :=
  ct_of_V (own := RX5) (lv0 := [(0, .int x0)]) (by decide +kernel) rfl (Nat.le_of_ble_eq_true rfl) rfl (fun z σ => vf_X5_isByte z x0 σ)
-- LighthouseLiedToModel.feed
theorem dX5_feed_0 : decode cX5_feed 0 = .ok (.iload_n 1, 1) := by decide +kernel
theorem dX5_feed_1 : decode cX5_feed 1 = .ok (.iconst 1, 1) := by decide +kernel
theorem dX5_feed_2 : decode cX5_feed 2 = .ok (.iconst 5, 1) := by decide +kernel
theorem dX5_feed_3 : decode cX5_feed 3 = .ok (.invokestatic 78, 3) := by decide +kernel
theorem dX5_feed_6 : decode cX5_feed 6 = .ok (.ifCond .eq 41, 3) := by decide +kernel
theorem dX5_feed_9 : decode cX5_feed 9 = .ok (.iload_n 2, 1) := by decide +kernel
theorem dX5_feed_10 : decode cX5_feed 10 = .ok (.invokestatic 128, 3) := by decide +kernel
theorem dX5_feed_13 : decode cX5_feed 13 = .ok (.ifCond .eq 34, 3) := by decide +kernel
theorem dX5_feed_16 : decode cX5_feed 16 = .ok (.iload_n 3, 1) := by decide +kernel
theorem dX5_feed_17 : decode cX5_feed 17 = .ok (.invokestatic 128, 3) := by decide +kernel
theorem dX5_feed_20 : decode cX5_feed 20 = .ok (.ifCond .eq 27, 3) := by decide +kernel
theorem dX5_feed_23 : decode cX5_feed 23 = .ok (.iload 4, 2) := by decide +kernel
theorem dX5_feed_25 : decode cX5_feed 25 = .ok (.invokestatic 128, 3) := by decide +kernel
theorem dX5_feed_28 : decode cX5_feed 28 = .ok (.ifCond .eq 19, 3) := by decide +kernel
theorem dX5_feed_31 : decode cX5_feed 31 = .ok (.iload 5, 2) := by decide +kernel
theorem dX5_feed_33 : decode cX5_feed 33 = .ok (.invokestatic 128, 3) := by decide +kernel
theorem dX5_feed_36 : decode cX5_feed 36 = .ok (.ifCond .eq 11, 3) := by decide +kernel
theorem dX5_feed_39 : decode cX5_feed 39 = .ok (.iload 6, 2) := by decide +kernel
theorem dX5_feed_41 : decode cX5_feed 41 = .ok (.invokestatic 128, 3) := by decide +kernel
theorem dX5_feed_44 : decode cX5_feed 44 = .ok (.ifCond .ne 6, 3) := by decide +kernel
theorem dX5_feed_47 : decode cX5_feed 47 = .ok (.bipush (-2), 2) := by decide +kernel
theorem dX5_feed_49 : decode cX5_feed 49 = .ok (.ireturn, 1) := by decide +kernel
theorem dX5_feed_50 : decode cX5_feed 50 = .ok (.aload_n 0, 1) := by decide +kernel
theorem dX5_feed_51 : decode cX5_feed 51 = .ok (.getfield 70, 3) := by decide +kernel
theorem dX5_feed_54 : decode cX5_feed 54 = .ok (.iload_n 1, 1) := by decide +kernel
theorem dX5_feed_55 : decode cX5_feed 55 = .ok (.iadd, 1) := by decide +kernel
theorem dX5_feed_56 : decode cX5_feed 56 = .ok (.sipush 160, 3) := by decide +kernel
theorem dX5_feed_59 : decode cX5_feed 59 = .ok (.if_icmp .le 6, 3) := by decide +kernel
theorem dX5_feed_62 : decode cX5_feed 62 = .ok (.bipush (-4), 2) := by decide +kernel
theorem dX5_feed_64 : decode cX5_feed 64 = .ok (.ireturn, 1) := by decide +kernel
theorem dX5_feed_65 : decode cX5_feed 65 = .ok (.iconst 0, 1) := by decide +kernel
theorem dX5_feed_66 : decode cX5_feed 66 = .ok (.istore 7, 2) := by decide +kernel
theorem dX5_feed_68 : decode cX5_feed 68 = .ok (.iload 7, 2) := by decide +kernel
theorem dX5_feed_70 : decode cX5_feed 70 = .ok (.iload_n 1, 1) := by decide +kernel
theorem dX5_feed_71 : decode cX5_feed 71 = .ok (.if_icmp .ge 71, 3) := by decide +kernel
theorem dX5_feed_74 : decode cX5_feed 74 = .ok (.aload_n 0, 1) := by decide +kernel
theorem dX5_feed_75 : decode cX5_feed 75 = .ok (.getfield 28, 3) := by decide +kernel
theorem dX5_feed_78 : decode cX5_feed 78 = .ok (.aload_n 0, 1) := by decide +kernel
theorem dX5_feed_79 : decode cX5_feed 79 = .ok (.getfield 70, 3) := by decide +kernel
theorem dX5_feed_82 : decode cX5_feed 82 = .ok (.iload 7, 2) := by decide +kernel
theorem dX5_feed_84 : decode cX5_feed 84 = .ok (.ifCond .ne 7, 3) := by decide +kernel
theorem dX5_feed_87 : decode cX5_feed 87 = .ok (.iload_n 2, 1) := by decide +kernel
theorem dX5_feed_88 : decode cX5_feed 88 = .ok (.goto 37, 3) := by decide +kernel
theorem dX5_feed_91 : decode cX5_feed 91 = .ok (.iload 7, 2) := by decide +kernel
theorem dX5_feed_93 : decode cX5_feed 93 = .ok (.iconst 1, 1) := by decide +kernel
theorem dX5_feed_94 : decode cX5_feed 94 = .ok (.if_icmp .ne 7, 3) := by decide +kernel
theorem dX5_feed_97 : decode cX5_feed 97 = .ok (.iload_n 3, 1) := by decide +kernel
theorem dX5_feed_98 : decode cX5_feed 98 = .ok (.goto 27, 3) := by decide +kernel
theorem dX5_feed_101 : decode cX5_feed 101 = .ok (.iload 7, 2) := by decide +kernel
theorem dX5_feed_103 : decode cX5_feed 103 = .ok (.iconst 2, 1) := by decide +kernel
theorem dX5_feed_104 : decode cX5_feed 104 = .ok (.if_icmp .ne 8, 3) := by decide +kernel
theorem dX5_feed_107 : decode cX5_feed 107 = .ok (.iload 4, 2) := by decide +kernel
theorem dX5_feed_109 : decode cX5_feed 109 = .ok (.goto 16, 3) := by decide +kernel
theorem dX5_feed_112 : decode cX5_feed 112 = .ok (.iload 7, 2) := by decide +kernel
theorem dX5_feed_114 : decode cX5_feed 114 = .ok (.iconst 3, 1) := by decide +kernel
theorem dX5_feed_115 : decode cX5_feed 115 = .ok (.if_icmp .ne 8, 3) := by decide +kernel
theorem dX5_feed_118 : decode cX5_feed 118 = .ok (.iload 5, 2) := by decide +kernel
theorem dX5_feed_120 : decode cX5_feed 120 = .ok (.goto 5, 3) := by decide +kernel
theorem dX5_feed_123 : decode cX5_feed 123 = .ok (.iload 6, 2) := by decide +kernel
theorem dX5_feed_125 : decode cX5_feed 125 = .ok (.iastore, 1) := by decide +kernel
theorem dX5_feed_126 : decode cX5_feed 126 = .ok (.aload_n 0, 1) := by decide +kernel
theorem dX5_feed_127 : decode cX5_feed 127 = .ok (.dup, 1) := by decide +kernel
theorem dX5_feed_128 : decode cX5_feed 128 = .ok (.getfield 70, 3) := by decide +kernel
theorem dX5_feed_131 : decode cX5_feed 131 = .ok (.iconst 1, 1) := by decide +kernel
theorem dX5_feed_132 : decode cX5_feed 132 = .ok (.iadd, 1) := by decide +kernel
theorem dX5_feed_133 : decode cX5_feed 133 = .ok (.putfield 70, 3) := by decide +kernel
theorem dX5_feed_136 : decode cX5_feed 136 = .ok (.iinc 7 1, 3) := by decide +kernel
theorem dX5_feed_139 : decode cX5_feed 139 = .ok (.goto (-71), 3) := by decide +kernel
theorem dX5_feed_142 : decode cX5_feed 142 = .ok (.aload_n 0, 1) := by decide +kernel
theorem dX5_feed_143 : decode cX5_feed 143 = .ok (.getfield 70, 3) := by decide +kernel
theorem dX5_feed_146 : decode cX5_feed 146 = .ok (.ireturn, 1) := by decide +kernel
def b_X5_feed_125 (kc68 : Int32 → Int32 → Int32 → Int32 → Int32 → Int32 → Int32 → GM → Option (Int32 × GM)) (x1 : Int32) (x2 : Int32) (x3 : Int32) (x4 : Int32) (x5 : Int32) (x6 : Int32) (x7 : Int32) (xs0 : Int32) (xs1 : Int32) (σ : GM) : Option (Int32 × GM) :=
  grd xs1 160 (bnd (some (tA σ 6 xs1.toNatClampNeg xs0)) fun σ7 => bnd (some (tI σ7 3 ((mI σ7 3) + (1 : Int32)))) fun σ8 => kc68 x1 x2 x3 x4 x5 x6 (x7 + (1 : Int32)) σ8)
theorem vb_X5_feed_125 {g : Gt} {ad : Nat → Nat} (z : Zt) (kc68 : Int32 → Int32 → Int32 → Int32 → Int32 → Int32 → Int32 → GM → Option (Int32 × GM)) (hkc68 : ∀ (x1 : Int32) (x2 : Int32) (x3 : Int32) (x4 : Int32) (x5 : Int32) (x6 : Int32) (x7 : Int32) (σ : GM), V g (LM ad) 3 RX5 cX5_feed 8 (some .int) (wM g ad) iI z (kc68 x1 x2 x3 x4 x5 x6 x7 σ) σ 68 [(0, .ref (aMo ad)), (1, .int x1), (2, .int x2), (3, .int x3), (4, .int x4), (5, .int x5), (6, .int x6), (7, .int x7)] []) (x1 : Int32) (x2 : Int32) (x3 : Int32) (x4 : Int32) (x5 : Int32) (x6 : Int32) (x7 : Int32) (xs0 : Int32) (xs1 : Int32) (σ : GM) : V g (LM ad) 3 RX5 cX5_feed 8 (some .int) (wM g ad) iI z (b_X5_feed_125 kc68 x1 x2 x3 x4 x5 x6 x7 xs0 xs1 σ) σ 125 [(0, .ref (aMo ad)), (1, .int x1), (2, .int x2), (3, .int x3), (4, .int x4), (5, .int x5), (6, .int x6), (7, .int x7)] [.int xs0, .int xs1, .ref (aMoA ad 6)] := by
  unfold b_X5_feed_125
  refine sM_tape (pc := 125) dX5_feed_125 ?_
  refine v_nms (fun σ7 => ?_)
  refine v_aload_n (pc := 126) (i := 0) dX5_feed_126 rfl rfl ?_
  refine v_dup (pc := 127) dX5_feed_127 rfl ?_
  refine gX5_taped (pc := 128) q_765 dX5_feed_128 ?_
  refine v_iconst (pc := 131) dX5_feed_131 ic_1 ?_
  refine v_iadd (pc := 132) dX5_feed_132 ?_
  refine pX5_taped (pc := 133) q_765 dX5_feed_133 ?_
  refine v_nms (fun σ8 => ?_)
  refine v_iinc (pc := 136) (lv' := [(7, .int (x7 + (1 : Int32))), (0, .ref (aMo ad)), (1, .int x1), (2, .int x2), (3, .int x3), (4, .int x4), (5, .int x5), (6, .int x6)]) (i := 7) dX5_feed_136 rfl ic_1 (by decide) rfl ?_
  refine v_goto (pc := 139) (tgt := 68) dX5_feed_139 rfl ?_
  exact v_sub [1, 2, 3, 4, 5, 6, 7, 0] rfl (hkc68 x1 x2 x3 x4 x5 x6 (x7 + (1 : Int32)) σ8)
def b_X5_feed_68 (kc68 : Int32 → Int32 → Int32 → Int32 → Int32 → Int32 → Int32 → GM → Option (Int32 × GM)) (x1 : Int32) (x2 : Int32) (x3 : Int32) (x4 : Int32) (x5 : Int32) (x6 : Int32) (x7 : Int32) (σ : GM) : Option (Int32 × GM) :=
  if x1 ≤ x7 then (some ((mI σ 3), σ)) else (if x7 ≠ 0 then (if x7 ≠ (1 : Int32) then (if x7 ≠ (2 : Int32) then (if x7 ≠ (3 : Int32) then (b_X5_feed_125 kc68 x1 x2 x3 x4 x5 x6 x7 x6 (mI σ 3) σ) else (b_X5_feed_125 kc68 x1 x2 x3 x4 x5 x6 x7 x5 (mI σ 3) σ)) else (b_X5_feed_125 kc68 x1 x2 x3 x4 x5 x6 x7 x4 (mI σ 3) σ)) else (b_X5_feed_125 kc68 x1 x2 x3 x4 x5 x6 x7 x3 (mI σ 3) σ)) else (b_X5_feed_125 kc68 x1 x2 x3 x4 x5 x6 x7 x2 (mI σ 3) σ))
theorem vb_X5_feed_68 {g : Gt} {ad : Nat → Nat} (z : Zt) (kc68 : Int32 → Int32 → Int32 → Int32 → Int32 → Int32 → Int32 → GM → Option (Int32 × GM)) (hkc68 : ∀ (x1 : Int32) (x2 : Int32) (x3 : Int32) (x4 : Int32) (x5 : Int32) (x6 : Int32) (x7 : Int32) (σ : GM), V g (LM ad) 3 RX5 cX5_feed 8 (some .int) (wM g ad) iI z (kc68 x1 x2 x3 x4 x5 x6 x7 σ) σ 68 [(0, .ref (aMo ad)), (1, .int x1), (2, .int x2), (3, .int x3), (4, .int x4), (5, .int x5), (6, .int x6), (7, .int x7)] []) (x1 : Int32) (x2 : Int32) (x3 : Int32) (x4 : Int32) (x5 : Int32) (x6 : Int32) (x7 : Int32) (σ : GM) : V g (LM ad) 3 RX5 cX5_feed 8 (some .int) (wM g ad) iI z (b_X5_feed_68 kc68 x1 x2 x3 x4 x5 x6 x7 σ) σ 68 [(0, .ref (aMo ad)), (1, .int x1), (2, .int x2), (3, .int x3), (4, .int x4), (5, .int x5), (6, .int x6), (7, .int x7)] [] := by
  unfold b_X5_feed_68
  refine v_iload (pc := 68) (i := 7) dX5_feed_68 rfl ?_
  refine v_iload_n (pc := 70) (i := 1) dX5_feed_70 rfl rfl ?_
  refine v_icmp_ge (pc := 71) (tgt := 142) dX5_feed_71 rfl ?_ ?_
  · refine v_aload_n (pc := 142) (i := 0) dX5_feed_142 rfl rfl ?_
    refine gX5_taped (pc := 143) q_765 dX5_feed_143 ?_
    exact v_iret (pc := 146) dX5_feed_146
  · refine v_aload_n (pc := 74) (i := 0) dX5_feed_74 rfl rfl ?_
    refine gX5_tape (pc := 75) q_764 dX5_feed_75 ?_
    refine v_aload_n (pc := 78) (i := 0) dX5_feed_78 rfl rfl ?_
    refine gX5_taped (pc := 79) q_765 dX5_feed_79 ?_
    refine v_iload (pc := 82) (i := 7) dX5_feed_82 rfl ?_
    refine v_if_ne (pc := 84) (tgt := 91) dX5_feed_84 rfl ?_ ?_
    · refine v_iload (pc := 91) (i := 7) dX5_feed_91 rfl ?_
      refine v_iconst (pc := 93) dX5_feed_93 ic_1 ?_
      refine v_icmp_ne (pc := 94) (tgt := 101) dX5_feed_94 rfl ?_ ?_
      · refine v_iload (pc := 101) (i := 7) dX5_feed_101 rfl ?_
        refine v_iconst (pc := 103) dX5_feed_103 ic_2 ?_
        refine v_icmp_ne (pc := 104) (tgt := 112) dX5_feed_104 rfl ?_ ?_
        · refine v_iload (pc := 112) (i := 7) dX5_feed_112 rfl ?_
          refine v_iconst (pc := 114) dX5_feed_114 ic_3 ?_
          refine v_icmp_ne (pc := 115) (tgt := 123) dX5_feed_115 rfl ?_ ?_
          · refine v_iload (pc := 123) (i := 6) dX5_feed_123 rfl ?_
            exact v_sub [0, 1, 2, 3, 4, 5, 6, 7] rfl (vb_X5_feed_125 z kc68 hkc68 x1 x2 x3 x4 x5 x6 x7 x6 (mI σ 3) σ)
          · refine v_iload (pc := 118) (i := 5) dX5_feed_118 rfl ?_
            refine v_goto (pc := 120) (tgt := 125) dX5_feed_120 rfl ?_
            exact v_sub [0, 1, 2, 3, 4, 5, 6, 7] rfl (vb_X5_feed_125 z kc68 hkc68 x1 x2 x3 x4 x5 x6 x7 x5 (mI σ 3) σ)
        · refine v_iload (pc := 107) (i := 4) dX5_feed_107 rfl ?_
          refine v_goto (pc := 109) (tgt := 125) dX5_feed_109 rfl ?_
          exact v_sub [0, 1, 2, 3, 4, 5, 6, 7] rfl (vb_X5_feed_125 z kc68 hkc68 x1 x2 x3 x4 x5 x6 x7 x4 (mI σ 3) σ)
      · refine v_iload_n (pc := 97) (i := 3) dX5_feed_97 rfl rfl ?_
        refine v_goto (pc := 98) (tgt := 125) dX5_feed_98 rfl ?_
        exact v_sub [0, 1, 2, 3, 4, 5, 6, 7] rfl (vb_X5_feed_125 z kc68 hkc68 x1 x2 x3 x4 x5 x6 x7 x3 (mI σ 3) σ)
    · refine v_iload_n (pc := 87) (i := 2) dX5_feed_87 rfl rfl ?_
      refine v_goto (pc := 88) (tgt := 125) dX5_feed_88 rfl ?_
      exact v_sub [0, 1, 2, 3, 4, 5, 6, 7] rfl (vb_X5_feed_125 z kc68 hkc68 x1 x2 x3 x4 x5 x6 x7 x2 (mI σ 3) σ)
def k_X5_feed_68 : Nat → Int32 → Int32 → Int32 → Int32 → Int32 → Int32 → Int32 → GM → Option (Int32 × GM)
  | 0 => fun _ _ _ _ _ _ _ _ => none
  | n + 1 => b_X5_feed_68 (k_X5_feed_68 n)
theorem vk_X5_feed_68 {g : Gt} {ad : Nat → Nat} (z : Zt) : ∀ (n : Nat) (x1 : Int32) (x2 : Int32) (x3 : Int32) (x4 : Int32) (x5 : Int32) (x6 : Int32) (x7 : Int32) (σ : GM), V g (LM ad) 3 RX5 cX5_feed 8 (some .int) (wM g ad) iI z (k_X5_feed_68 n x1 x2 x3 x4 x5 x6 x7 σ) σ 68 [(0, .ref (aMo ad)), (1, .int x1), (2, .int x2), (3, .int x3), (4, .int x4), (5, .int x5), (6, .int x6), (7, .int x7)] [] := by
  intro n
  induction n with
  | zero => intros; exact v_eq rfl v_none
  | succ n ih =>
    intro x1 x2 x3 x4 x5 x6 x7 σ
    exact v_eq rfl (vb_X5_feed_68 z _ ih x1 x2 x3 x4 x5 x6 x7 σ)
def f_X5_feed (x1 : Int32) (x2 : Int32) (x3 : Int32) (x4 : Int32) (x5 : Int32) (x6 : Int32) (σ : GM) : Option (Int32 × GM) :=
  bnd (f_X5_in x1 (1 : Int32) (5 : Int32) σ) fun q1 => if q1.1 = 0 then (some ((-2 : Int32), q1.2)) else (bnd (f_X5_isByte x2 q1.2) fun q2 => if q2.1 = 0 then (some ((-2 : Int32), q2.2)) else (bnd (f_X5_isByte x3 q2.2) fun q3 => if q3.1 = 0 then (some ((-2 : Int32), q3.2)) else (bnd (f_X5_isByte x4 q3.2) fun q4 => if q4.1 = 0 then (some ((-2 : Int32), q4.2)) else (bnd (f_X5_isByte x5 q4.2) fun q5 => if q5.1 = 0 then (some ((-2 : Int32), q5.2)) else (bnd (f_X5_isByte x6 q5.2) fun q6 => if q6.1 ≠ 0 then (if ((mI q6.2 3) + x1) ≤ (160 : Int32) then (k_X5_feed_68 FU x1 x2 x3 x4 x5 x6 (0 : Int32) q6.2) else (some ((-4 : Int32), q6.2))) else (some ((-2 : Int32), q6.2)))))))
theorem vf_X5_feed {g : Gt} {ad : Nat → Nat} (z : Zt) (x1 : Int32) (x2 : Int32) (x3 : Int32) (x4 : Int32) (x5 : Int32) (x6 : Int32) (σ : GM) : V g (LM ad) 3 RX5 cX5_feed 8 (some .int) (wM g ad) iI z (f_X5_feed x1 x2 x3 x4 x5 x6 σ) σ 0 [(0, .ref (aMo ad)), (1, .int x1), (2, .int x2), (3, .int x3), (4, .int x4), (5, .int x5), (6, .int x6)] [] := by
  unfold f_X5_feed
  refine v_iload_n (pc := 0) (i := 1) dX5_feed_0 rfl rfl ?_
  refine v_iconst (pc := 1) dX5_feed_1 ic_1 ?_
  refine v_iconst (pc := 2) dX5_feed_2 ic_5 ?_
  refine v_callSi (pc := 3) (av := [.int x1, .int (1 : Int32), .int (5 : Int32)]) (rest := []) (ct_X5_in x1 (1 : Int32) (5 : Int32)) mi_X5_in q_715 (by decide) rfl rfl (Nat.le_of_ble_eq_true rfl) dX5_feed_3 (fun q1 => ?_)
  refine v_if_eq (pc := 6) (tgt := 47) dX5_feed_6 rfl ?_ ?_
  · refine v_bipush (pc := 47) dX5_feed_47 bp_m2 ?_
    exact v_iret (pc := 49) dX5_feed_49
  · refine v_iload_n (pc := 9) (i := 2) dX5_feed_9 rfl rfl ?_
    refine v_callSi (pc := 10) (av := [.int x2]) (rest := []) (ct_X5_isByte x2) mi_X5_isByte q_916 (by decide) rfl rfl (Nat.le_of_ble_eq_true rfl) dX5_feed_10 (fun q2 => ?_)
    refine v_if_eq (pc := 13) (tgt := 47) dX5_feed_13 rfl ?_ ?_
    · refine v_bipush (pc := 47) dX5_feed_47 bp_m2 ?_
      exact v_iret (pc := 49) dX5_feed_49
    · refine v_iload_n (pc := 16) (i := 3) dX5_feed_16 rfl rfl ?_
      refine v_callSi (pc := 17) (av := [.int x3]) (rest := []) (ct_X5_isByte x3) mi_X5_isByte q_916 (by decide) rfl rfl (Nat.le_of_ble_eq_true rfl) dX5_feed_17 (fun q3 => ?_)
      refine v_if_eq (pc := 20) (tgt := 47) dX5_feed_20 rfl ?_ ?_
      · refine v_bipush (pc := 47) dX5_feed_47 bp_m2 ?_
        exact v_iret (pc := 49) dX5_feed_49
      · refine v_iload (pc := 23) (i := 4) dX5_feed_23 rfl ?_
        refine v_callSi (pc := 25) (av := [.int x4]) (rest := []) (ct_X5_isByte x4) mi_X5_isByte q_916 (by decide) rfl rfl (Nat.le_of_ble_eq_true rfl) dX5_feed_25 (fun q4 => ?_)
        refine v_if_eq (pc := 28) (tgt := 47) dX5_feed_28 rfl ?_ ?_
        · refine v_bipush (pc := 47) dX5_feed_47 bp_m2 ?_
          exact v_iret (pc := 49) dX5_feed_49
        · refine v_iload (pc := 31) (i := 5) dX5_feed_31 rfl ?_
          refine v_callSi (pc := 33) (av := [.int x5]) (rest := []) (ct_X5_isByte x5) mi_X5_isByte q_916 (by decide) rfl rfl (Nat.le_of_ble_eq_true rfl) dX5_feed_33 (fun q5 => ?_)
          refine v_if_eq (pc := 36) (tgt := 47) dX5_feed_36 rfl ?_ ?_
          · refine v_bipush (pc := 47) dX5_feed_47 bp_m2 ?_
            exact v_iret (pc := 49) dX5_feed_49
          · refine v_iload (pc := 39) (i := 6) dX5_feed_39 rfl ?_
            refine v_callSi (pc := 41) (av := [.int x6]) (rest := []) (ct_X5_isByte x6) mi_X5_isByte q_916 (by decide) rfl rfl (Nat.le_of_ble_eq_true rfl) dX5_feed_41 (fun q6 => ?_)
            refine v_if_ne (pc := 44) (tgt := 50) dX5_feed_44 rfl ?_ ?_
            · refine v_aload_n (pc := 50) (i := 0) dX5_feed_50 rfl rfl ?_
              refine gX5_taped (pc := 51) q_765 dX5_feed_51 ?_
              refine v_iload_n (pc := 54) (i := 1) dX5_feed_54 rfl rfl ?_
              refine v_iadd (pc := 55) dX5_feed_55 ?_
              refine v_sipush (pc := 56) dX5_feed_56 sp_160 ?_
              refine v_icmp_le (pc := 59) (tgt := 65) dX5_feed_59 rfl ?_ ?_
              · refine v_iconst (pc := 65) dX5_feed_65 ic_0 ?_
                refine v_istore (pc := 66) (lv' := [(7, .int (0 : Int32)), (0, .ref (aMo ad)), (1, .int x1), (2, .int x2), (3, .int x3), (4, .int x4), (5, .int x5), (6, .int x6)]) (i := 7) dX5_feed_66 (by decide) rfl ?_
                exact v_sub [1, 2, 3, 4, 5, 6, 7, 0] rfl (vk_X5_feed_68 z FU x1 x2 x3 x4 x5 x6 (0 : Int32) q6.2)
              · refine v_bipush (pc := 62) dX5_feed_62 bp_m4 ?_
                exact v_iret (pc := 64) dX5_feed_64
            · refine v_bipush (pc := 47) dX5_feed_47 bp_m2 ?_
              exact v_iret (pc := 49) dX5_feed_49
theorem ct_X5_feed {g : Gt} {ad : Nat → Nat} (x1 : Int32) (x2 : Int32) (x3 : Int32) (x4 : Int32) (x5 : Int32) (x6 : Int32) : CT g (LM ad) yX5_feed cX5_feed 8 (some .int) 3 [.ref (aMo ad), .int x1, .int x2, .int x3, .int x4, .int x5, .int x6] iI (wM g ad) (f_X5_feed x1 x2 x3 x4 x5 x6) :=
  ct_of_V (own := RX5) (lv0 := [(0, .ref (aMo ad)), (1, .int x1), (2, .int x2), (3, .int x3), (4, .int x4), (5, .int x5), (6, .int x6)]) (by decide +kernel) rfl (Nat.le_of_ble_eq_true rfl) rfl (fun z σ => vf_X5_feed z x1 x2 x3 x4 x5 x6 σ)
-- LighthouseLiedToModel.wordFrom
theorem dX5_wordFrom_0 : decode cX5_wordFrom 0 = .ok (.iconst 0, 1) := by decide +kernel
theorem dX5_wordFrom_1 : decode cX5_wordFrom 1 = .ok (.istore_n 3, 1) := by decide +kernel
theorem dX5_wordFrom_2 : decode cX5_wordFrom 2 = .ok (.iload_n 3, 1) := by decide +kernel
theorem dX5_wordFrom_3 : decode cX5_wordFrom 3 = .ok (.bipush 12, 2) := by decide +kernel
theorem dX5_wordFrom_5 : decode cX5_wordFrom 5 = .ok (.if_icmp .ge 96, 3) := by decide +kernel
theorem dX5_wordFrom_8 : decode cX5_wordFrom 8 = .ok (.iload_n 2, 1) := by decide +kernel
theorem dX5_wordFrom_9 : decode cX5_wordFrom 9 = .ok (.iload_n 1, 1) := by decide +kernel
theorem dX5_wordFrom_10 : decode cX5_wordFrom 10 = .ok (.isub, 1) := by decide +kernel
theorem dX5_wordFrom_11 : decode cX5_wordFrom 11 = .ok (.bipush 8, 2) := by decide +kernel
theorem dX5_wordFrom_13 : decode cX5_wordFrom 13 = .ok (.if_icmp .gt 7, 3) := by decide +kernel
theorem dX5_wordFrom_16 : decode cX5_wordFrom 16 = .ok (.iconst 1, 1) := by decide +kernel
theorem dX5_wordFrom_17 : decode cX5_wordFrom 17 = .ok (.goto 4, 3) := by decide +kernel
theorem dX5_wordFrom_20 : decode cX5_wordFrom 20 = .ok (.iconst 0, 1) := by decide +kernel
theorem dX5_wordFrom_21 : decode cX5_wordFrom 21 = .ok (.istore 4, 2) := by decide +kernel
theorem dX5_wordFrom_23 : decode cX5_wordFrom 23 = .ok (.iconst 0, 1) := by decide +kernel
theorem dX5_wordFrom_24 : decode cX5_wordFrom 24 = .ok (.istore 5, 2) := by decide +kernel
theorem dX5_wordFrom_26 : decode cX5_wordFrom 26 = .ok (.iload 5, 2) := by decide +kernel
theorem dX5_wordFrom_28 : decode cX5_wordFrom 28 = .ok (.bipush 8, 2) := by decide +kernel
theorem dX5_wordFrom_30 : decode cX5_wordFrom 30 = .ok (.if_icmp .ge 58, 3) := by decide +kernel
theorem dX5_wordFrom_33 : decode cX5_wordFrom 33 = .ok (.iload 4, 2) := by decide +kernel
theorem dX5_wordFrom_35 : decode cX5_wordFrom 35 = .ok (.ifCond .eq 53, 3) := by decide +kernel
theorem dX5_wordFrom_38 : decode cX5_wordFrom 38 = .ok (.aload_n 0, 1) := by decide +kernel
theorem dX5_wordFrom_39 : decode cX5_wordFrom 39 = .ok (.getfield 55, 3) := by decide +kernel
theorem dX5_wordFrom_42 : decode cX5_wordFrom 42 = .ok (.bipush 8, 2) := by decide +kernel
theorem dX5_wordFrom_44 : decode cX5_wordFrom 44 = .ok (.iload_n 3, 1) := by decide +kernel
theorem dX5_wordFrom_45 : decode cX5_wordFrom 45 = .ok (.imul, 1) := by decide +kernel
theorem dX5_wordFrom_46 : decode cX5_wordFrom 46 = .ok (.iload 5, 2) := by decide +kernel
theorem dX5_wordFrom_48 : decode cX5_wordFrom 48 = .ok (.iadd, 1) := by decide +kernel
theorem dX5_wordFrom_49 : decode cX5_wordFrom 49 = .ok (.iaload, 1) := by decide +kernel
theorem dX5_wordFrom_50 : decode cX5_wordFrom 50 = .ok (.iload_n 1, 1) := by decide +kernel
theorem dX5_wordFrom_51 : decode cX5_wordFrom 51 = .ok (.iload 5, 2) := by decide +kernel
theorem dX5_wordFrom_53 : decode cX5_wordFrom 53 = .ok (.iadd, 1) := by decide +kernel
theorem dX5_wordFrom_54 : decode cX5_wordFrom 54 = .ok (.iload_n 2, 1) := by decide +kernel
theorem dX5_wordFrom_55 : decode cX5_wordFrom 55 = .ok (.if_icmp .ge 15, 3) := by decide +kernel
theorem dX5_wordFrom_58 : decode cX5_wordFrom 58 = .ok (.aload_n 0, 1) := by decide +kernel
theorem dX5_wordFrom_59 : decode cX5_wordFrom 59 = .ok (.getfield 28, 3) := by decide +kernel
theorem dX5_wordFrom_62 : decode cX5_wordFrom 62 = .ok (.iload_n 1, 1) := by decide +kernel
theorem dX5_wordFrom_63 : decode cX5_wordFrom 63 = .ok (.iload 5, 2) := by decide +kernel
theorem dX5_wordFrom_65 : decode cX5_wordFrom 65 = .ok (.iadd, 1) := by decide +kernel
theorem dX5_wordFrom_66 : decode cX5_wordFrom 66 = .ok (.iaload, 1) := by decide +kernel
theorem dX5_wordFrom_67 : decode cX5_wordFrom 67 = .ok (.goto 5, 3) := by decide +kernel
theorem dX5_wordFrom_70 : decode cX5_wordFrom 70 = .ok (.bipush 32, 2) := by decide +kernel
theorem dX5_wordFrom_72 : decode cX5_wordFrom 72 = .ok (.if_icmp .ne 7, 3) := by decide +kernel
theorem dX5_wordFrom_75 : decode cX5_wordFrom 75 = .ok (.iconst 1, 1) := by decide +kernel
theorem dX5_wordFrom_76 : decode cX5_wordFrom 76 = .ok (.goto 4, 3) := by decide +kernel
theorem dX5_wordFrom_79 : decode cX5_wordFrom 79 = .ok (.iconst 0, 1) := by decide +kernel
theorem dX5_wordFrom_80 : decode cX5_wordFrom 80 = .ok (.istore 4, 2) := by decide +kernel
theorem dX5_wordFrom_82 : decode cX5_wordFrom 82 = .ok (.iinc 5 1, 3) := by decide +kernel
theorem dX5_wordFrom_85 : decode cX5_wordFrom 85 = .ok (.goto (-59), 3) := by decide +kernel
theorem dX5_wordFrom_88 : decode cX5_wordFrom 88 = .ok (.iload 4, 2) := by decide +kernel
theorem dX5_wordFrom_90 : decode cX5_wordFrom 90 = .ok (.ifCond .eq 5, 3) := by decide +kernel
theorem dX5_wordFrom_93 : decode cX5_wordFrom 93 = .ok (.iload_n 3, 1) := by decide +kernel
theorem dX5_wordFrom_94 : decode cX5_wordFrom 94 = .ok (.ireturn, 1) := by decide +kernel
theorem dX5_wordFrom_95 : decode cX5_wordFrom 95 = .ok (.iinc 3 1, 3) := by decide +kernel
theorem dX5_wordFrom_98 : decode cX5_wordFrom 98 = .ok (.goto (-96), 3) := by decide +kernel
theorem dX5_wordFrom_101 : decode cX5_wordFrom 101 = .ok (.bipush 12, 2) := by decide +kernel
theorem dX5_wordFrom_103 : decode cX5_wordFrom 103 = .ok (.ireturn, 1) := by decide +kernel
def b_X5_wordFrom_88 (kc2 : Int32 → Int32 → Int32 → GM → Option (Int32 × GM)) (x1 : Int32) (x2 : Int32) (x3 : Int32) (x4 : Int32) (σ : GM) : Option (Int32 × GM) :=
  if x4 = 0 then (kc2 x1 x2 (x3 + (1 : Int32)) σ) else (some (x3, σ))
theorem vb_X5_wordFrom_88 {g : Gt} {ad : Nat → Nat} (z : Zt) (kc2 : Int32 → Int32 → Int32 → GM → Option (Int32 × GM)) (hkc2 : ∀ (x1 : Int32) (x2 : Int32) (x3 : Int32) (σ : GM), V g (LM ad) 1 RX5 cX5_wordFrom 6 (some .int) (wM g ad) iI z (kc2 x1 x2 x3 σ) σ 2 [(0, .ref (aMo ad)), (1, .int x1), (2, .int x2), (3, .int x3)] []) (x1 : Int32) (x2 : Int32) (x3 : Int32) (x4 : Int32) (σ : GM) : V g (LM ad) 1 RX5 cX5_wordFrom 6 (some .int) (wM g ad) iI z (b_X5_wordFrom_88 kc2 x1 x2 x3 x4 σ) σ 88 [(0, .ref (aMo ad)), (1, .int x1), (2, .int x2), (3, .int x3), (4, .int x4)] [] := by
  unfold b_X5_wordFrom_88
  refine v_iload (pc := 88) (i := 4) dX5_wordFrom_88 rfl ?_
  refine v_if_eq (pc := 90) (tgt := 95) dX5_wordFrom_90 rfl ?_ ?_
  · refine v_iinc (pc := 95) (lv' := [(3, .int (x3 + (1 : Int32))), (0, .ref (aMo ad)), (1, .int x1), (2, .int x2), (4, .int x4)]) (i := 3) dX5_wordFrom_95 rfl ic_1 (by decide) rfl ?_
    refine v_goto (pc := 98) (tgt := 2) dX5_wordFrom_98 rfl ?_
    exact v_sub [1, 2, 3, 0] rfl (hkc2 x1 x2 (x3 + (1 : Int32)) σ)
  · refine v_iload_n (pc := 93) (i := 3) dX5_wordFrom_93 rfl rfl ?_
    exact v_iret (pc := 94) dX5_wordFrom_94
def b_X5_wordFrom_72 (kc2 : Int32 → Int32 → Int32 → GM → Option (Int32 × GM)) (kc26 : Int32 → Int32 → Int32 → Int32 → Int32 → GM → Option (Int32 × GM)) (x1 : Int32) (x2 : Int32) (x3 : Int32) (x5 : Int32) (xs0 : Int32) (xs1 : Int32) (σ : GM) : Option (Int32 × GM) :=
  if xs1 ≠ xs0 then (kc26 x1 x2 x3 (0 : Int32) (x5 + (1 : Int32)) σ) else (kc26 x1 x2 x3 (1 : Int32) (x5 + (1 : Int32)) σ)
theorem vb_X5_wordFrom_72 {g : Gt} {ad : Nat → Nat} (z : Zt) (kc2 : Int32 → Int32 → Int32 → GM → Option (Int32 × GM)) (hkc2 : ∀ (x1 : Int32) (x2 : Int32) (x3 : Int32) (σ : GM), V g (LM ad) 1 RX5 cX5_wordFrom 6 (some .int) (wM g ad) iI z (kc2 x1 x2 x3 σ) σ 2 [(0, .ref (aMo ad)), (1, .int x1), (2, .int x2), (3, .int x3)] []) (kc26 : Int32 → Int32 → Int32 → Int32 → Int32 → GM → Option (Int32 × GM)) (hkc26 : ∀ (x1 : Int32) (x2 : Int32) (x3 : Int32) (x4 : Int32) (x5 : Int32) (σ : GM), V g (LM ad) 1 RX5 cX5_wordFrom 6 (some .int) (wM g ad) iI z (kc26 x1 x2 x3 x4 x5 σ) σ 26 [(0, .ref (aMo ad)), (1, .int x1), (2, .int x2), (3, .int x3), (4, .int x4), (5, .int x5)] []) (x1 : Int32) (x2 : Int32) (x3 : Int32) (x5 : Int32) (xs0 : Int32) (xs1 : Int32) (σ : GM) : V g (LM ad) 1 RX5 cX5_wordFrom 6 (some .int) (wM g ad) iI z (b_X5_wordFrom_72 kc2 kc26 x1 x2 x3 x5 xs0 xs1 σ) σ 72 [(0, .ref (aMo ad)), (1, .int x1), (2, .int x2), (3, .int x3), (5, .int x5)] [.int xs0, .int xs1] := by
  unfold b_X5_wordFrom_72
  refine v_icmp_ne (pc := 72) (tgt := 79) dX5_wordFrom_72 rfl ?_ ?_
  · refine v_iconst (pc := 79) dX5_wordFrom_79 ic_0 ?_
    refine v_istore (pc := 80) (lv' := [(4, .int (0 : Int32)), (0, .ref (aMo ad)), (1, .int x1), (2, .int x2), (3, .int x3), (5, .int x5)]) (i := 4) dX5_wordFrom_80 (by decide) rfl ?_
    refine v_iinc (pc := 82) (lv' := [(5, .int (x5 + (1 : Int32))), (4, .int (0 : Int32)), (0, .ref (aMo ad)), (1, .int x1), (2, .int x2), (3, .int x3)]) (i := 5) dX5_wordFrom_82 rfl ic_1 (by decide) rfl ?_
    refine v_goto (pc := 85) (tgt := 26) dX5_wordFrom_85 rfl ?_
    exact v_sub [2, 3, 4, 5, 1, 0] rfl (hkc26 x1 x2 x3 (0 : Int32) (x5 + (1 : Int32)) σ)
  · refine v_iconst (pc := 75) dX5_wordFrom_75 ic_1 ?_
    refine v_goto (pc := 76) (tgt := 80) dX5_wordFrom_76 rfl ?_
    refine v_istore (pc := 80) (lv' := [(4, .int (1 : Int32)), (0, .ref (aMo ad)), (1, .int x1), (2, .int x2), (3, .int x3), (5, .int x5)]) (i := 4) dX5_wordFrom_80 (by decide) rfl ?_
    refine v_iinc (pc := 82) (lv' := [(5, .int (x5 + (1 : Int32))), (4, .int (1 : Int32)), (0, .ref (aMo ad)), (1, .int x1), (2, .int x2), (3, .int x3)]) (i := 5) dX5_wordFrom_82 rfl ic_1 (by decide) rfl ?_
    refine v_goto (pc := 85) (tgt := 26) dX5_wordFrom_85 rfl ?_
    exact v_sub [2, 3, 4, 5, 1, 0] rfl (hkc26 x1 x2 x3 (1 : Int32) (x5 + (1 : Int32)) σ)
def b_X5_wordFrom_26 (kc2 : Int32 → Int32 → Int32 → GM → Option (Int32 × GM)) (kc26 : Int32 → Int32 → Int32 → Int32 → Int32 → GM → Option (Int32 × GM)) (x1 : Int32) (x2 : Int32) (x3 : Int32) (x4 : Int32) (x5 : Int32) (σ : GM) : Option (Int32 × GM) :=
  if (8 : Int32) ≤ x5 then (b_X5_wordFrom_88 kc2 x1 x2 x3 x4 σ) else (if x4 = 0 then (b_X5_wordFrom_88 kc2 x1 x2 x3 x4 σ) else (grd (((8 : Int32) * x3) + x5) 96 (if x2 ≤ (x1 + x5) then (b_X5_wordFrom_72 kc2 kc26 x1 x2 x3 x5 (32 : Int32) (mA σ 15 (((8 : Int32) * x3) + x5).toNatClampNeg) σ) else (grd (x1 + x5) 160 (b_X5_wordFrom_72 kc2 kc26 x1 x2 x3 x5 (mA σ 6 (x1 + x5).toNatClampNeg) (mA σ 15 (((8 : Int32) * x3) + x5).toNatClampNeg) σ)))))
theorem vb_X5_wordFrom_26 {g : Gt} {ad : Nat → Nat} (z : Zt) (kc2 : Int32 → Int32 → Int32 → GM → Option (Int32 × GM)) (hkc2 : ∀ (x1 : Int32) (x2 : Int32) (x3 : Int32) (σ : GM), V g (LM ad) 1 RX5 cX5_wordFrom 6 (some .int) (wM g ad) iI z (kc2 x1 x2 x3 σ) σ 2 [(0, .ref (aMo ad)), (1, .int x1), (2, .int x2), (3, .int x3)] []) (kc26 : Int32 → Int32 → Int32 → Int32 → Int32 → GM → Option (Int32 × GM)) (hkc26 : ∀ (x1 : Int32) (x2 : Int32) (x3 : Int32) (x4 : Int32) (x5 : Int32) (σ : GM), V g (LM ad) 1 RX5 cX5_wordFrom 6 (some .int) (wM g ad) iI z (kc26 x1 x2 x3 x4 x5 σ) σ 26 [(0, .ref (aMo ad)), (1, .int x1), (2, .int x2), (3, .int x3), (4, .int x4), (5, .int x5)] []) (x1 : Int32) (x2 : Int32) (x3 : Int32) (x4 : Int32) (x5 : Int32) (σ : GM) : V g (LM ad) 1 RX5 cX5_wordFrom 6 (some .int) (wM g ad) iI z (b_X5_wordFrom_26 kc2 kc26 x1 x2 x3 x4 x5 σ) σ 26 [(0, .ref (aMo ad)), (1, .int x1), (2, .int x2), (3, .int x3), (4, .int x4), (5, .int x5)] [] := by
  unfold b_X5_wordFrom_26
  refine v_iload (pc := 26) (i := 5) dX5_wordFrom_26 rfl ?_
  refine v_bipush (pc := 28) dX5_wordFrom_28 bp_8 ?_
  refine v_icmp_ge (pc := 30) (tgt := 88) dX5_wordFrom_30 rfl ?_ ?_
  · exact v_sub [0, 1, 2, 3, 4] rfl (vb_X5_wordFrom_88 z kc2 hkc2 x1 x2 x3 x4 σ)
  · refine v_iload (pc := 33) (i := 4) dX5_wordFrom_33 rfl ?_
    refine v_if_eq (pc := 35) (tgt := 88) dX5_wordFrom_35 rfl ?_ ?_
    · exact v_sub [0, 1, 2, 3, 4] rfl (vb_X5_wordFrom_88 z kc2 hkc2 x1 x2 x3 x4 σ)
    · refine v_aload_n (pc := 38) (i := 0) dX5_wordFrom_38 rfl rfl ?_
      refine gX5_words (pc := 39) q_782 dX5_wordFrom_39 ?_
      refine v_bipush (pc := 42) dX5_wordFrom_42 bp_8 ?_
      refine v_iload_n (pc := 44) (i := 3) dX5_wordFrom_44 rfl rfl ?_
      refine v_imul (pc := 45) dX5_wordFrom_45 ?_
      refine v_iload (pc := 46) (i := 5) dX5_wordFrom_46 rfl ?_
      refine v_iadd (pc := 48) dX5_wordFrom_48 ?_
      refine lM_words (pc := 49) dX5_wordFrom_49 ?_
      refine v_iload_n (pc := 50) (i := 1) dX5_wordFrom_50 rfl rfl ?_
      refine v_iload (pc := 51) (i := 5) dX5_wordFrom_51 rfl ?_
      refine v_iadd (pc := 53) dX5_wordFrom_53 ?_
      refine v_iload_n (pc := 54) (i := 2) dX5_wordFrom_54 rfl rfl ?_
      refine v_icmp_ge (pc := 55) (tgt := 70) dX5_wordFrom_55 rfl ?_ ?_
      · refine v_bipush (pc := 70) dX5_wordFrom_70 bp_32 ?_
        exact v_sub [0, 1, 2, 3, 5] rfl (vb_X5_wordFrom_72 z kc2 hkc2 kc26 hkc26 x1 x2 x3 x5 (32 : Int32) (mA σ 15 (((8 : Int32) * x3) + x5).toNatClampNeg) σ)
      · refine v_aload_n (pc := 58) (i := 0) dX5_wordFrom_58 rfl rfl ?_
        refine gX5_tape (pc := 59) q_764 dX5_wordFrom_59 ?_
        refine v_iload_n (pc := 62) (i := 1) dX5_wordFrom_62 rfl rfl ?_
        refine v_iload (pc := 63) (i := 5) dX5_wordFrom_63 rfl ?_
        refine v_iadd (pc := 65) dX5_wordFrom_65 ?_
        refine lM_tape (pc := 66) dX5_wordFrom_66 ?_
        refine v_goto (pc := 67) (tgt := 72) dX5_wordFrom_67 rfl ?_
        exact v_sub [0, 1, 2, 3, 5] rfl (vb_X5_wordFrom_72 z kc2 hkc2 kc26 hkc26 x1 x2 x3 x5 (mA σ 6 (x1 + x5).toNatClampNeg) (mA σ 15 (((8 : Int32) * x3) + x5).toNatClampNeg) σ)
def k_X5_wordFrom_26 (kc2 : Int32 → Int32 → Int32 → GM → Option (Int32 × GM)) : Nat → Int32 → Int32 → Int32 → Int32 → Int32 → GM → Option (Int32 × GM)
  | 0 => fun _ _ _ _ _ _ => none
  | n + 1 => b_X5_wordFrom_26 kc2 (k_X5_wordFrom_26 kc2 n)
theorem vk_X5_wordFrom_26 {g : Gt} {ad : Nat → Nat} (z : Zt) (kc2 : Int32 → Int32 → Int32 → GM → Option (Int32 × GM)) (hkc2 : ∀ (x1 : Int32) (x2 : Int32) (x3 : Int32) (σ : GM), V g (LM ad) 1 RX5 cX5_wordFrom 6 (some .int) (wM g ad) iI z (kc2 x1 x2 x3 σ) σ 2 [(0, .ref (aMo ad)), (1, .int x1), (2, .int x2), (3, .int x3)] []) : ∀ (n : Nat) (x1 : Int32) (x2 : Int32) (x3 : Int32) (x4 : Int32) (x5 : Int32) (σ : GM), V g (LM ad) 1 RX5 cX5_wordFrom 6 (some .int) (wM g ad) iI z (k_X5_wordFrom_26 kc2 n x1 x2 x3 x4 x5 σ) σ 26 [(0, .ref (aMo ad)), (1, .int x1), (2, .int x2), (3, .int x3), (4, .int x4), (5, .int x5)] [] := by
  intro n
  induction n with
  | zero => intros; exact v_eq rfl v_none
  | succ n ih =>
    intro x1 x2 x3 x4 x5 σ
    exact v_eq rfl (vb_X5_wordFrom_26 z kc2 hkc2 _ ih x1 x2 x3 x4 x5 σ)
def b_X5_wordFrom_2 (kc2 : Int32 → Int32 → Int32 → GM → Option (Int32 × GM)) (x1 : Int32) (x2 : Int32) (x3 : Int32) (σ : GM) : Option (Int32 × GM) :=
  if (12 : Int32) ≤ x3 then (some ((12 : Int32), σ)) else (if (8 : Int32) < (x2 - x1) then (k_X5_wordFrom_26 kc2 FU x1 x2 x3 (0 : Int32) (0 : Int32) σ) else (k_X5_wordFrom_26 kc2 FU x1 x2 x3 (1 : Int32) (0 : Int32) σ))
theorem vb_X5_wordFrom_2 {g : Gt} {ad : Nat → Nat} (z : Zt) (kc2 : Int32 → Int32 → Int32 → GM → Option (Int32 × GM)) (hkc2 : ∀ (x1 : Int32) (x2 : Int32) (x3 : Int32) (σ : GM), V g (LM ad) 1 RX5 cX5_wordFrom 6 (some .int) (wM g ad) iI z (kc2 x1 x2 x3 σ) σ 2 [(0, .ref (aMo ad)), (1, .int x1), (2, .int x2), (3, .int x3)] []) (x1 : Int32) (x2 : Int32) (x3 : Int32) (σ : GM) : V g (LM ad) 1 RX5 cX5_wordFrom 6 (some .int) (wM g ad) iI z (b_X5_wordFrom_2 kc2 x1 x2 x3 σ) σ 2 [(0, .ref (aMo ad)), (1, .int x1), (2, .int x2), (3, .int x3)] [] := by
  unfold b_X5_wordFrom_2
  refine v_iload_n (pc := 2) (i := 3) dX5_wordFrom_2 rfl rfl ?_
  refine v_bipush (pc := 3) dX5_wordFrom_3 bp_12 ?_
  refine v_icmp_ge (pc := 5) (tgt := 101) dX5_wordFrom_5 rfl ?_ ?_
  · refine v_bipush (pc := 101) dX5_wordFrom_101 bp_12 ?_
    exact v_iret (pc := 103) dX5_wordFrom_103
  · refine v_iload_n (pc := 8) (i := 2) dX5_wordFrom_8 rfl rfl ?_
    refine v_iload_n (pc := 9) (i := 1) dX5_wordFrom_9 rfl rfl ?_
    refine v_isub (pc := 10) dX5_wordFrom_10 ?_
    refine v_bipush (pc := 11) dX5_wordFrom_11 bp_8 ?_
    refine v_icmp_gt (pc := 13) (tgt := 20) dX5_wordFrom_13 rfl ?_ ?_
    · refine v_iconst (pc := 20) dX5_wordFrom_20 ic_0 ?_
      refine v_istore (pc := 21) (lv' := [(4, .int (0 : Int32)), (0, .ref (aMo ad)), (1, .int x1), (2, .int x2), (3, .int x3)]) (i := 4) dX5_wordFrom_21 (by decide) rfl ?_
      refine v_iconst (pc := 23) dX5_wordFrom_23 ic_0 ?_
      refine v_istore (pc := 24) (lv' := [(5, .int (0 : Int32)), (4, .int (0 : Int32)), (0, .ref (aMo ad)), (1, .int x1), (2, .int x2), (3, .int x3)]) (i := 5) dX5_wordFrom_24 (by decide) rfl ?_
      exact v_sub [2, 3, 4, 5, 1, 0] rfl (vk_X5_wordFrom_26 z kc2 hkc2 FU x1 x2 x3 (0 : Int32) (0 : Int32) σ)
    · refine v_iconst (pc := 16) dX5_wordFrom_16 ic_1 ?_
      refine v_goto (pc := 17) (tgt := 21) dX5_wordFrom_17 rfl ?_
      refine v_istore (pc := 21) (lv' := [(4, .int (1 : Int32)), (0, .ref (aMo ad)), (1, .int x1), (2, .int x2), (3, .int x3)]) (i := 4) dX5_wordFrom_21 (by decide) rfl ?_
      refine v_iconst (pc := 23) dX5_wordFrom_23 ic_0 ?_
      refine v_istore (pc := 24) (lv' := [(5, .int (0 : Int32)), (4, .int (1 : Int32)), (0, .ref (aMo ad)), (1, .int x1), (2, .int x2), (3, .int x3)]) (i := 5) dX5_wordFrom_24 (by decide) rfl ?_
      exact v_sub [2, 3, 4, 5, 1, 0] rfl (vk_X5_wordFrom_26 z kc2 hkc2 FU x1 x2 x3 (1 : Int32) (0 : Int32) σ)
def k_X5_wordFrom_2 : Nat → Int32 → Int32 → Int32 → GM → Option (Int32 × GM)
  | 0 => fun _ _ _ _ => none
  | n + 1 => b_X5_wordFrom_2 (k_X5_wordFrom_2 n)
theorem vk_X5_wordFrom_2 {g : Gt} {ad : Nat → Nat} (z : Zt) : ∀ (n : Nat) (x1 : Int32) (x2 : Int32) (x3 : Int32) (σ : GM), V g (LM ad) 1 RX5 cX5_wordFrom 6 (some .int) (wM g ad) iI z (k_X5_wordFrom_2 n x1 x2 x3 σ) σ 2 [(0, .ref (aMo ad)), (1, .int x1), (2, .int x2), (3, .int x3)] [] := by
  intro n
  induction n with
  | zero => intros; exact v_eq rfl v_none
  | succ n ih =>
    intro x1 x2 x3 σ
    exact v_eq rfl (vb_X5_wordFrom_2 z _ ih x1 x2 x3 σ)
def f_X5_wordFrom (x1 : Int32) (x2 : Int32) (σ : GM) : Option (Int32 × GM) :=
  k_X5_wordFrom_2 FU x1 x2 (0 : Int32) σ
theorem vf_X5_wordFrom {g : Gt} {ad : Nat → Nat} (z : Zt) (x1 : Int32) (x2 : Int32) (σ : GM) : V g (LM ad) 1 RX5 cX5_wordFrom 6 (some .int) (wM g ad) iI z (f_X5_wordFrom x1 x2 σ) σ 0 [(0, .ref (aMo ad)), (1, .int x1), (2, .int x2)] [] := by
  unfold f_X5_wordFrom
  refine v_iconst (pc := 0) dX5_wordFrom_0 ic_0 ?_
  refine v_istore_n (pc := 1) (lv' := [(3, .int (0 : Int32)), (0, .ref (aMo ad)), (1, .int x1), (2, .int x2)]) (i := 3) dX5_wordFrom_1 rfl (by decide) rfl ?_
  exact v_sub [1, 2, 3, 0] rfl (vk_X5_wordFrom_2 z FU x1 x2 (0 : Int32) σ)
theorem ct_X5_wordFrom {g : Gt} {ad : Nat → Nat} (x1 : Int32) (x2 : Int32) : CT g (LM ad) yX5_wordFrom cX5_wordFrom 6 (some .int) 1 [.ref (aMo ad), .int x1, .int x2] iI (wM g ad) (f_X5_wordFrom x1 x2) :=
  ct_of_V (own := RX5) (lv0 := [(0, .ref (aMo ad)), (1, .int x1), (2, .int x2)]) (by decide +kernel) rfl (Nat.le_of_ble_eq_true rfl) rfl (fun z σ => vf_X5_wordFrom z x1 x2 σ)
-- LighthouseLiedToModel.next
theorem dX5_next_0 : decode cX5_next 0 = .ok (.aload_n 0, 1) := by decide +kernel
theorem dX5_next_1 : decode cX5_next 1 = .ok (.getfield 131, 3) := by decide +kernel
theorem dX5_next_4 : decode cX5_next 4 = .ok (.aload_n 0, 1) := by decide +kernel
theorem dX5_next_5 : decode cX5_next 5 = .ok (.getfield 70, 3) := by decide +kernel
theorem dX5_next_8 : decode cX5_next 8 = .ok (.if_icmp .ge 44, 3) := by decide +kernel
theorem dX5_next_11 : decode cX5_next 11 = .ok (.aload_n 0, 1) := by decide +kernel
theorem dX5_next_12 : decode cX5_next 12 = .ok (.getfield 28, 3) := by decide +kernel
theorem dX5_next_15 : decode cX5_next 15 = .ok (.aload_n 0, 1) := by decide +kernel
theorem dX5_next_16 : decode cX5_next 16 = .ok (.getfield 131, 3) := by decide +kernel
theorem dX5_next_19 : decode cX5_next 19 = .ok (.iaload, 1) := by decide +kernel
theorem dX5_next_20 : decode cX5_next 20 = .ok (.bipush 32, 2) := by decide +kernel
theorem dX5_next_22 : decode cX5_next 22 = .ok (.if_icmp .eq 17, 3) := by decide +kernel
theorem dX5_next_25 : decode cX5_next 25 = .ok (.aload_n 0, 1) := by decide +kernel
theorem dX5_next_26 : decode cX5_next 26 = .ok (.getfield 28, 3) := by decide +kernel
theorem dX5_next_29 : decode cX5_next 29 = .ok (.aload_n 0, 1) := by decide +kernel
theorem dX5_next_30 : decode cX5_next 30 = .ok (.getfield 131, 3) := by decide +kernel
theorem dX5_next_33 : decode cX5_next 33 = .ok (.iaload, 1) := by decide +kernel
theorem dX5_next_34 : decode cX5_next 34 = .ok (.bipush 10, 2) := by decide +kernel
theorem dX5_next_36 : decode cX5_next 36 = .ok (.if_icmp .ne 16, 3) := by decide +kernel
theorem dX5_next_39 : decode cX5_next 39 = .ok (.aload_n 0, 1) := by decide +kernel
theorem dX5_next_40 : decode cX5_next 40 = .ok (.dup, 1) := by decide +kernel
theorem dX5_next_41 : decode cX5_next 41 = .ok (.getfield 131, 3) := by decide +kernel
theorem dX5_next_44 : decode cX5_next 44 = .ok (.iconst 1, 1) := by decide +kernel
theorem dX5_next_45 : decode cX5_next 45 = .ok (.iadd, 1) := by decide +kernel
theorem dX5_next_46 : decode cX5_next 46 = .ok (.putfield 131, 3) := by decide +kernel
theorem dX5_next_49 : decode cX5_next 49 = .ok (.goto (-49), 3) := by decide +kernel
theorem dX5_next_52 : decode cX5_next 52 = .ok (.aload_n 0, 1) := by decide +kernel
theorem dX5_next_53 : decode cX5_next 53 = .ok (.aload_n 0, 1) := by decide +kernel
theorem dX5_next_54 : decode cX5_next 54 = .ok (.getfield 131, 3) := by decide +kernel
theorem dX5_next_57 : decode cX5_next 57 = .ok (.putfield 134, 3) := by decide +kernel
theorem dX5_next_60 : decode cX5_next 60 = .ok (.aload_n 0, 1) := by decide +kernel
theorem dX5_next_61 : decode cX5_next 61 = .ok (.iconst 0, 1) := by decide +kernel
theorem dX5_next_62 : decode cX5_next 62 = .ok (.putfield 137, 3) := by decide +kernel
theorem dX5_next_65 : decode cX5_next 65 = .ok (.aload_n 0, 1) := by decide +kernel
theorem dX5_next_66 : decode cX5_next 66 = .ok (.iconst 0, 1) := by decide +kernel
theorem dX5_next_67 : decode cX5_next 67 = .ok (.putfield 140, 3) := by decide +kernel
theorem dX5_next_70 : decode cX5_next 70 = .ok (.aload_n 0, 1) := by decide +kernel
theorem dX5_next_71 : decode cX5_next 71 = .ok (.getfield 131, 3) := by decide +kernel
theorem dX5_next_74 : decode cX5_next 74 = .ok (.aload_n 0, 1) := by decide +kernel
theorem dX5_next_75 : decode cX5_next 75 = .ok (.getfield 70, 3) := by decide +kernel
theorem dX5_next_78 : decode cX5_next 78 = .ok (.if_icmp .ne 4, 3) := by decide +kernel
theorem dX5_next_81 : decode cX5_next 81 = .ok (.return_, 1) := by decide +kernel
theorem dX5_next_82 : decode cX5_next 82 = .ok (.aload_n 0, 1) := by decide +kernel
theorem dX5_next_83 : decode cX5_next 83 = .ok (.getfield 28, 3) := by decide +kernel
theorem dX5_next_86 : decode cX5_next 86 = .ok (.aload_n 0, 1) := by decide +kernel
theorem dX5_next_87 : decode cX5_next 87 = .ok (.getfield 131, 3) := by decide +kernel
theorem dX5_next_90 : decode cX5_next 90 = .ok (.iaload, 1) := by decide +kernel
theorem dX5_next_91 : decode cX5_next 91 = .ok (.istore_n 1, 1) := by decide +kernel
theorem dX5_next_92 : decode cX5_next 92 = .ok (.iload_n 1, 1) := by decide +kernel
theorem dX5_next_93 : decode cX5_next 93 = .ok (.bipush 97, 2) := by decide +kernel
theorem dX5_next_95 : decode cX5_next 95 = .ok (.bipush 122, 2) := by decide +kernel
theorem dX5_next_97 : decode cX5_next 97 = .ok (.invokestatic 78, 3) := by decide +kernel
theorem dX5_next_100 : decode cX5_next 100 = .ok (.ifCond .eq 117, 3) := by decide +kernel
theorem dX5_next_103 : decode cX5_next 103 = .ok (.aload_n 0, 1) := by decide +kernel
theorem dX5_next_104 : decode cX5_next 104 = .ok (.getfield 131, 3) := by decide +kernel
theorem dX5_next_107 : decode cX5_next 107 = .ok (.aload_n 0, 1) := by decide +kernel
theorem dX5_next_108 : decode cX5_next 108 = .ok (.getfield 70, 3) := by decide +kernel
theorem dX5_next_111 : decode cX5_next 111 = .ok (.if_icmp .ge 35, 3) := by decide +kernel
theorem dX5_next_114 : decode cX5_next 114 = .ok (.aload_n 0, 1) := by decide +kernel
theorem dX5_next_115 : decode cX5_next 115 = .ok (.getfield 28, 3) := by decide +kernel
theorem dX5_next_118 : decode cX5_next 118 = .ok (.aload_n 0, 1) := by decide +kernel
theorem dX5_next_119 : decode cX5_next 119 = .ok (.getfield 131, 3) := by decide +kernel
theorem dX5_next_122 : decode cX5_next 122 = .ok (.iaload, 1) := by decide +kernel
theorem dX5_next_123 : decode cX5_next 123 = .ok (.bipush 97, 2) := by decide +kernel
theorem dX5_next_125 : decode cX5_next 125 = .ok (.bipush 122, 2) := by decide +kernel
theorem dX5_next_127 : decode cX5_next 127 = .ok (.invokestatic 78, 3) := by decide +kernel
theorem dX5_next_130 : decode cX5_next 130 = .ok (.ifCond .eq 16, 3) := by decide +kernel
theorem dX5_next_133 : decode cX5_next 133 = .ok (.aload_n 0, 1) := by decide +kernel
theorem dX5_next_134 : decode cX5_next 134 = .ok (.dup, 1) := by decide +kernel
theorem dX5_next_135 : decode cX5_next 135 = .ok (.getfield 131, 3) := by decide +kernel
theorem dX5_next_138 : decode cX5_next 138 = .ok (.iconst 1, 1) := by decide +kernel
theorem dX5_next_139 : decode cX5_next 139 = .ok (.iadd, 1) := by decide +kernel
theorem dX5_next_140 : decode cX5_next 140 = .ok (.putfield 131, 3) := by decide +kernel
theorem dX5_next_143 : decode cX5_next 143 = .ok (.goto (-40), 3) := by decide +kernel
theorem dX5_next_146 : decode cX5_next 146 = .ok (.aload_n 0, 1) := by decide +kernel
theorem dX5_next_147 : decode cX5_next 147 = .ok (.aload_n 0, 1) := by decide +kernel
theorem dX5_next_148 : decode cX5_next 148 = .ok (.getfield 134, 3) := by decide +kernel
theorem dX5_next_151 : decode cX5_next 151 = .ok (.aload_n 0, 1) := by decide +kernel
theorem dX5_next_152 : decode cX5_next 152 = .ok (.getfield 131, 3) := by decide +kernel
theorem dX5_next_155 : decode cX5_next 155 = .ok (.invokevirtual 143, 3) := by decide +kernel
theorem dX5_next_158 : decode cX5_next 158 = .ok (.istore_n 2, 1) := by decide +kernel
theorem dX5_next_159 : decode cX5_next 159 = .ok (.aload_n 0, 1) := by decide +kernel
theorem dX5_next_160 : decode cX5_next 160 = .ok (.iload_n 2, 1) := by decide +kernel
theorem dX5_next_161 : decode cX5_next 161 = .ok (.iconst 3, 1) := by decide +kernel
theorem dX5_next_162 : decode cX5_next 162 = .ok (.if_icmp .ge 7, 3) := by decide +kernel
theorem dX5_next_165 : decode cX5_next 165 = .ok (.iconst 3, 1) := by decide +kernel
theorem dX5_next_166 : decode cX5_next 166 = .ok (.goto 29, 3) := by decide +kernel
theorem dX5_next_169 : decode cX5_next 169 = .ok (.iload_n 2, 1) := by decide +kernel
theorem dX5_next_170 : decode cX5_next 170 = .ok (.bipush 9, 2) := by decide +kernel
theorem dX5_next_172 : decode cX5_next 172 = .ok (.if_icmp .ge 7, 3) := by decide +kernel
theorem dX5_next_175 : decode cX5_next 175 = .ok (.iconst 2, 1) := by decide +kernel
theorem dX5_next_176 : decode cX5_next 176 = .ok (.goto 19, 3) := by decide +kernel
theorem dX5_next_179 : decode cX5_next 179 = .ok (.iload_n 2, 1) := by decide +kernel
theorem dX5_next_180 : decode cX5_next 180 = .ok (.bipush 12, 2) := by decide +kernel
theorem dX5_next_182 : decode cX5_next 182 = .ok (.if_icmp .ne 7, 3) := by decide +kernel
theorem dX5_next_185 : decode cX5_next 185 = .ok (.iconst (-1), 1) := by decide +kernel
theorem dX5_next_186 : decode cX5_next 186 = .ok (.goto 9, 3) := by decide +kernel
theorem dX5_next_189 : decode cX5_next 189 = .ok (.iconst 4, 1) := by decide +kernel
theorem dX5_next_190 : decode cX5_next 190 = .ok (.iload_n 2, 1) := by decide +kernel
theorem dX5_next_191 : decode cX5_next 191 = .ok (.iadd, 1) := by decide +kernel
theorem dX5_next_192 : decode cX5_next 192 = .ok (.bipush 9, 2) := by decide +kernel
theorem dX5_next_194 : decode cX5_next 194 = .ok (.isub, 1) := by decide +kernel
theorem dX5_next_195 : decode cX5_next 195 = .ok (.putfield 137, 3) := by decide +kernel
theorem dX5_next_198 : decode cX5_next 198 = .ok (.aload_n 0, 1) := by decide +kernel
theorem dX5_next_199 : decode cX5_next 199 = .ok (.iload_n 2, 1) := by decide +kernel
theorem dX5_next_200 : decode cX5_next 200 = .ok (.iconst 3, 1) := by decide +kernel
theorem dX5_next_201 : decode cX5_next 201 = .ok (.if_icmp .ge 7, 3) := by decide +kernel
theorem dX5_next_204 : decode cX5_next 204 = .ok (.iload_n 2, 1) := by decide +kernel
theorem dX5_next_205 : decode cX5_next 205 = .ok (.goto 6, 3) := by decide +kernel
theorem dX5_next_208 : decode cX5_next 208 = .ok (.iload_n 2, 1) := by decide +kernel
theorem dX5_next_209 : decode cX5_next 209 = .ok (.iconst 3, 1) := by decide +kernel
theorem dX5_next_210 : decode cX5_next 210 = .ok (.isub, 1) := by decide +kernel
theorem dX5_next_211 : decode cX5_next 211 = .ok (.putfield 140, 3) := by decide +kernel
theorem dX5_next_214 : decode cX5_next 214 = .ok (.goto 189, 3) := by decide +kernel
theorem dX5_next_217 : decode cX5_next 217 = .ok (.iload_n 1, 1) := by decide +kernel
theorem dX5_next_218 : decode cX5_next 218 = .ok (.bipush 48, 2) := by decide +kernel
theorem dX5_next_220 : decode cX5_next 220 = .ok (.bipush 57, 2) := by decide +kernel
theorem dX5_next_222 : decode cX5_next 222 = .ok (.invokestatic 78, 3) := by decide +kernel
theorem dX5_next_225 : decode cX5_next 225 = .ok (.ifCond .eq 101, 3) := by decide +kernel
theorem dX5_next_228 : decode cX5_next 228 = .ok (.iconst 0, 1) := by decide +kernel
theorem dX5_next_229 : decode cX5_next 229 = .ok (.istore_n 2, 1) := by decide +kernel
theorem dX5_next_230 : decode cX5_next 230 = .ok (.aload_n 0, 1) := by decide +kernel
theorem dX5_next_231 : decode cX5_next 231 = .ok (.getfield 131, 3) := by decide +kernel
theorem dX5_next_234 : decode cX5_next 234 = .ok (.aload_n 0, 1) := by decide +kernel
theorem dX5_next_235 : decode cX5_next 235 = .ok (.getfield 70, 3) := by decide +kernel
theorem dX5_next_238 : decode cX5_next 238 = .ok (.if_icmp .ge 71, 3) := by decide +kernel
theorem dX5_next_241 : decode cX5_next 241 = .ok (.aload_n 0, 1) := by decide +kernel
theorem dX5_next_242 : decode cX5_next 242 = .ok (.getfield 28, 3) := by decide +kernel
theorem dX5_next_245 : decode cX5_next 245 = .ok (.aload_n 0, 1) := by decide +kernel
theorem dX5_next_246 : decode cX5_next 246 = .ok (.getfield 131, 3) := by decide +kernel
theorem dX5_next_249 : decode cX5_next 249 = .ok (.iaload, 1) := by decide +kernel
theorem dX5_next_250 : decode cX5_next 250 = .ok (.bipush 48, 2) := by decide +kernel
theorem dX5_next_252 : decode cX5_next 252 = .ok (.bipush 57, 2) := by decide +kernel
theorem dX5_next_254 : decode cX5_next 254 = .ok (.invokestatic 78, 3) := by decide +kernel
theorem dX5_next_257 : decode cX5_next 257 = .ok (.ifCond .eq 52, 3) := by decide +kernel
theorem dX5_next_260 : decode cX5_next 260 = .ok (.aload_n 0, 1) := by decide +kernel
theorem dX5_next_261 : decode cX5_next 261 = .ok (.iload_n 2, 1) := by decide +kernel
theorem dX5_next_262 : decode cX5_next 262 = .ok (.iconst 4, 1) := by decide +kernel
theorem dX5_next_263 : decode cX5_next 263 = .ok (.if_icmp .ge 26, 3) := by decide +kernel
theorem dX5_next_266 : decode cX5_next 266 = .ok (.bipush 10, 2) := by decide +kernel
theorem dX5_next_268 : decode cX5_next 268 = .ok (.aload_n 0, 1) := by decide +kernel
theorem dX5_next_269 : decode cX5_next 269 = .ok (.getfield 140, 3) := by decide +kernel
theorem dX5_next_272 : decode cX5_next 272 = .ok (.imul, 1) := by decide +kernel
theorem dX5_next_273 : decode cX5_next 273 = .ok (.aload_n 0, 1) := by decide +kernel
theorem dX5_next_274 : decode cX5_next 274 = .ok (.getfield 28, 3) := by decide +kernel
theorem dX5_next_277 : decode cX5_next 277 = .ok (.aload_n 0, 1) := by decide +kernel
theorem dX5_next_278 : decode cX5_next 278 = .ok (.getfield 131, 3) := by decide +kernel
theorem dX5_next_281 : decode cX5_next 281 = .ok (.iaload, 1) := by decide +kernel
theorem dX5_next_282 : decode cX5_next 282 = .ok (.iadd, 1) := by decide +kernel
theorem dX5_next_283 : decode cX5_next 283 = .ok (.bipush 48, 2) := by decide +kernel
theorem dX5_next_285 : decode cX5_next 285 = .ok (.isub, 1) := by decide +kernel
theorem dX5_next_286 : decode cX5_next 286 = .ok (.goto 4, 3) := by decide +kernel
theorem dX5_next_289 : decode cX5_next 289 = .ok (.iconst 0, 1) := by decide +kernel
theorem dX5_next_290 : decode cX5_next 290 = .ok (.putfield 140, 3) := by decide +kernel
theorem dX5_next_293 : decode cX5_next 293 = .ok (.iinc 2 1, 3) := by decide +kernel
theorem dX5_next_296 : decode cX5_next 296 = .ok (.aload_n 0, 1) := by decide +kernel
theorem dX5_next_297 : decode cX5_next 297 = .ok (.dup, 1) := by decide +kernel
theorem dX5_next_298 : decode cX5_next 298 = .ok (.getfield 131, 3) := by decide +kernel
theorem dX5_next_301 : decode cX5_next 301 = .ok (.iconst 1, 1) := by decide +kernel
theorem dX5_next_302 : decode cX5_next 302 = .ok (.iadd, 1) := by decide +kernel
theorem dX5_next_303 : decode cX5_next 303 = .ok (.putfield 131, 3) := by decide +kernel
theorem dX5_next_306 : decode cX5_next 306 = .ok (.goto (-76), 3) := by decide +kernel
theorem dX5_next_309 : decode cX5_next 309 = .ok (.aload_n 0, 1) := by decide +kernel
theorem dX5_next_310 : decode cX5_next 310 = .ok (.iload_n 2, 1) := by decide +kernel
theorem dX5_next_311 : decode cX5_next 311 = .ok (.iconst 4, 1) := by decide +kernel
theorem dX5_next_312 : decode cX5_next 312 = .ok (.if_icmp .le 7, 3) := by decide +kernel
theorem dX5_next_315 : decode cX5_next 315 = .ok (.iconst (-1), 1) := by decide +kernel
theorem dX5_next_316 : decode cX5_next 316 = .ok (.goto 4, 3) := by decide +kernel
theorem dX5_next_319 : decode cX5_next 319 = .ok (.iconst 1, 1) := by decide +kernel
theorem dX5_next_320 : decode cX5_next 320 = .ok (.putfield 137, 3) := by decide +kernel
theorem dX5_next_323 : decode cX5_next 323 = .ok (.goto 80, 3) := by decide +kernel
theorem dX5_next_326 : decode cX5_next 326 = .ok (.iload_n 1, 1) := by decide +kernel
theorem dX5_next_327 : decode cX5_next 327 = .ok (.bipush 40, 2) := by decide +kernel
theorem dX5_next_329 : decode cX5_next 329 = .ok (.if_icmp .eq 45, 3) := by decide +kernel
theorem dX5_next_332 : decode cX5_next 332 = .ok (.iload_n 1, 1) := by decide +kernel
theorem dX5_next_333 : decode cX5_next 333 = .ok (.bipush 41, 2) := by decide +kernel
theorem dX5_next_335 : decode cX5_next 335 = .ok (.if_icmp .eq 39, 3) := by decide +kernel
theorem dX5_next_338 : decode cX5_next 338 = .ok (.iload_n 1, 1) := by decide +kernel
theorem dX5_next_339 : decode cX5_next 339 = .ok (.bipush 59, 2) := by decide +kernel
theorem dX5_next_341 : decode cX5_next 341 = .ok (.if_icmp .eq 33, 3) := by decide +kernel
theorem dX5_next_344 : decode cX5_next 344 = .ok (.iload_n 1, 1) := by decide +kernel
theorem dX5_next_345 : decode cX5_next 345 = .ok (.bipush 43, 2) := by decide +kernel
theorem dX5_next_347 : decode cX5_next 347 = .ok (.if_icmp .eq 27, 3) := by decide +kernel
theorem dX5_next_350 : decode cX5_next 350 = .ok (.iload_n 1, 1) := by decide +kernel
theorem dX5_next_351 : decode cX5_next 351 = .ok (.bipush 45, 2) := by decide +kernel
theorem dX5_next_353 : decode cX5_next 353 = .ok (.if_icmp .eq 21, 3) := by decide +kernel
theorem dX5_next_356 : decode cX5_next 356 = .ok (.iload_n 1, 1) := by decide +kernel
theorem dX5_next_357 : decode cX5_next 357 = .ok (.bipush 42, 2) := by decide +kernel
theorem dX5_next_359 : decode cX5_next 359 = .ok (.if_icmp .eq 15, 3) := by decide +kernel
theorem dX5_next_362 : decode cX5_next 362 = .ok (.iload_n 1, 1) := by decide +kernel
theorem dX5_next_363 : decode cX5_next 363 = .ok (.bipush 60, 2) := by decide +kernel
theorem dX5_next_365 : decode cX5_next 365 = .ok (.if_icmp .eq 9, 3) := by decide +kernel
theorem dX5_next_368 : decode cX5_next 368 = .ok (.iload_n 1, 1) := by decide +kernel
theorem dX5_next_369 : decode cX5_next 369 = .ok (.bipush 61, 2) := by decide +kernel
theorem dX5_next_371 : decode cX5_next 371 = .ok (.if_icmp .ne 7, 3) := by decide +kernel
theorem dX5_next_374 : decode cX5_next 374 = .ok (.iconst 1, 1) := by decide +kernel
theorem dX5_next_375 : decode cX5_next 375 = .ok (.goto 4, 3) := by decide +kernel
theorem dX5_next_378 : decode cX5_next 378 = .ok (.iconst 0, 1) := by decide +kernel
theorem dX5_next_379 : decode cX5_next 379 = .ok (.istore_n 2, 1) := by decide +kernel
theorem dX5_next_380 : decode cX5_next 380 = .ok (.aload_n 0, 1) := by decide +kernel
theorem dX5_next_381 : decode cX5_next 381 = .ok (.iload_n 2, 1) := by decide +kernel
theorem dX5_next_382 : decode cX5_next 382 = .ok (.ifCond .eq 7, 3) := by decide +kernel
theorem dX5_next_385 : decode cX5_next 385 = .ok (.iload_n 1, 1) := by decide +kernel
theorem dX5_next_386 : decode cX5_next 386 = .ok (.goto 4, 3) := by decide +kernel
theorem dX5_next_389 : decode cX5_next 389 = .ok (.iconst (-1), 1) := by decide +kernel
theorem dX5_next_390 : decode cX5_next 390 = .ok (.putfield 137, 3) := by decide +kernel
theorem dX5_next_393 : decode cX5_next 393 = .ok (.aload_n 0, 1) := by decide +kernel
theorem dX5_next_394 : decode cX5_next 394 = .ok (.dup, 1) := by decide +kernel
theorem dX5_next_395 : decode cX5_next 395 = .ok (.getfield 131, 3) := by decide +kernel
theorem dX5_next_398 : decode cX5_next 398 = .ok (.iconst 1, 1) := by decide +kernel
theorem dX5_next_399 : decode cX5_next 399 = .ok (.iadd, 1) := by decide +kernel
theorem dX5_next_400 : decode cX5_next 400 = .ok (.putfield 131, 3) := by decide +kernel
theorem dX5_next_403 : decode cX5_next 403 = .ok (.return_, 1) := by decide +kernel
def b_X5_next_390 (xs0 : Int32) (σ : GM) : Option (Unit × GM) :=
  bnd (some (tI σ 9 xs0)) fun σ7 => bnd (some (tI σ7 7 ((mI σ7 7) + (1 : Int32)))) fun σ8 => some ((), σ8)
theorem vb_X5_next_390 {g : Gt} {ad : Nat → Nat} (z : Zt) (xs0 : Int32) (σ : GM) : V g (LM ad) 2 RX5 cX5_next 3 none (wM g ad) iU z (b_X5_next_390 xs0 σ) σ 390 [(0, .ref (aMo ad))] [.int xs0, .ref (aMo ad)] := by
  unfold b_X5_next_390
  refine pX5_token (pc := 390) q_780 dX5_next_390 ?_
  refine v_nms (fun σ7 => ?_)
  refine v_aload_n (pc := 393) (i := 0) dX5_next_393 rfl rfl ?_
  refine v_dup (pc := 394) dX5_next_394 rfl ?_
  refine gX5_at (pc := 395) q_778 dX5_next_395 ?_
  refine v_iconst (pc := 398) dX5_next_398 ic_1 ?_
  refine v_iadd (pc := 399) dX5_next_399 ?_
  refine pX5_at (pc := 400) q_778 dX5_next_400 ?_
  refine v_nms (fun σ8 => ?_)
  exact v_ret (pc := 403) dX5_next_403
def b_X5_next_379 (x1 : Int32) (xs0 : Int32) (σ : GM) : Option (Unit × GM) :=
  if xs0 = 0 then (b_X5_next_390 (-1 : Int32) σ) else (b_X5_next_390 x1 σ)
theorem vb_X5_next_379 {g : Gt} {ad : Nat → Nat} (z : Zt) (x1 : Int32) (xs0 : Int32) (σ : GM) : V g (LM ad) 2 RX5 cX5_next 3 none (wM g ad) iU z (b_X5_next_379 x1 xs0 σ) σ 379 [(0, .ref (aMo ad)), (1, .int x1)] [.int xs0] := by
  unfold b_X5_next_379
  refine v_istore_n (pc := 379) (lv' := [(2, .int xs0), (0, .ref (aMo ad)), (1, .int x1)]) (i := 2) dX5_next_379 rfl (by decide) rfl ?_
  refine v_aload_n (pc := 380) (i := 0) dX5_next_380 rfl rfl ?_
  refine v_iload_n (pc := 381) (i := 2) dX5_next_381 rfl rfl ?_
  refine v_if_eq (pc := 382) (tgt := 389) dX5_next_382 rfl ?_ ?_
  · refine v_iconst (pc := 389) dX5_next_389 ic_m1 ?_
    exact v_sub [1] rfl (vb_X5_next_390 z (-1 : Int32) σ)
  · refine v_iload_n (pc := 385) (i := 1) dX5_next_385 rfl rfl ?_
    refine v_goto (pc := 386) (tgt := 390) dX5_next_386 rfl ?_
    exact v_sub [1] rfl (vb_X5_next_390 z x1 σ)
def b_X5_next_309 (x2 : Int32) (σ : GM) : Option (Unit × GM) :=
  if x2 ≤ (4 : Int32) then (bnd (some (tI σ 9 (1 : Int32))) fun σ9 => some ((), σ9)) else (bnd (some (tI σ 9 (-1 : Int32))) fun σ10 => some ((), σ10))
theorem vb_X5_next_309 {g : Gt} {ad : Nat → Nat} (z : Zt) (x2 : Int32) (σ : GM) : V g (LM ad) 2 RX5 cX5_next 3 none (wM g ad) iU z (b_X5_next_309 x2 σ) σ 309 [(0, .ref (aMo ad)), (2, .int x2)] [] := by
  unfold b_X5_next_309
  refine v_aload_n (pc := 309) (i := 0) dX5_next_309 rfl rfl ?_
  refine v_iload_n (pc := 310) (i := 2) dX5_next_310 rfl rfl ?_
  refine v_iconst (pc := 311) dX5_next_311 ic_4 ?_
  refine v_icmp_le (pc := 312) (tgt := 319) dX5_next_312 rfl ?_ ?_
  · refine v_iconst (pc := 319) dX5_next_319 ic_1 ?_
    refine pX5_token (pc := 320) q_780 dX5_next_320 ?_
    refine v_nms (fun σ9 => ?_)
    refine v_goto (pc := 323) (tgt := 403) dX5_next_323 rfl ?_
    exact v_ret (pc := 403) dX5_next_403
  · refine v_iconst (pc := 315) dX5_next_315 ic_m1 ?_
    refine v_goto (pc := 316) (tgt := 320) dX5_next_316 rfl ?_
    refine pX5_token (pc := 320) q_780 dX5_next_320 ?_
    refine v_nms (fun σ10 => ?_)
    refine v_goto (pc := 323) (tgt := 403) dX5_next_323 rfl ?_
    exact v_ret (pc := 403) dX5_next_403
def b_X5_next_290 (kc230 : Int32 → GM → Option (Unit × GM)) (x2 : Int32) (xs0 : Int32) (σ : GM) : Option (Unit × GM) :=
  bnd (some (tI σ 10 xs0)) fun σ12 => bnd (some (tI σ12 7 ((mI σ12 7) + (1 : Int32)))) fun σ13 => kc230 (x2 + (1 : Int32)) σ13
theorem vb_X5_next_290 {g : Gt} {ad : Nat → Nat} (z : Zt) (kc230 : Int32 → GM → Option (Unit × GM)) (hkc230 : ∀ (x2 : Int32) (σ : GM), V g (LM ad) 2 RX5 cX5_next 3 none (wM g ad) iU z (kc230 x2 σ) σ 230 [(0, .ref (aMo ad)), (2, .int x2)] []) (x2 : Int32) (xs0 : Int32) (σ : GM) : V g (LM ad) 2 RX5 cX5_next 3 none (wM g ad) iU z (b_X5_next_290 kc230 x2 xs0 σ) σ 290 [(0, .ref (aMo ad)), (2, .int x2)] [.int xs0, .ref (aMo ad)] := by
  unfold b_X5_next_290
  refine pX5_value (pc := 290) q_781 dX5_next_290 ?_
  refine v_nms (fun σ12 => ?_)
  refine v_iinc (pc := 293) (lv' := [(2, .int (x2 + (1 : Int32))), (0, .ref (aMo ad))]) (i := 2) dX5_next_293 rfl ic_1 (by decide) rfl ?_
  refine v_aload_n (pc := 296) (i := 0) dX5_next_296 rfl rfl ?_
  refine v_dup (pc := 297) dX5_next_297 rfl ?_
  refine gX5_at (pc := 298) q_778 dX5_next_298 ?_
  refine v_iconst (pc := 301) dX5_next_301 ic_1 ?_
  refine v_iadd (pc := 302) dX5_next_302 ?_
  refine pX5_at (pc := 303) q_778 dX5_next_303 ?_
  refine v_nms (fun σ13 => ?_)
  refine v_goto (pc := 306) (tgt := 230) dX5_next_306 rfl ?_
  exact v_sub [1, 0] rfl (hkc230 (x2 + (1 : Int32)) σ13)
def b_X5_next_230 (kc230 : Int32 → GM → Option (Unit × GM)) (x2 : Int32) (σ : GM) : Option (Unit × GM) :=
  if (mI σ 3) ≤ (mI σ 7) then (b_X5_next_309 x2 σ) else (grd (mI σ 7) 160 (bnd (f_X5_in (mA σ 6 (mI σ 7).toNatClampNeg) (48 : Int32) (57 : Int32) σ) fun q11 => if q11.1 = 0 then (b_X5_next_309 x2 q11.2) else (if (4 : Int32) ≤ x2 then (b_X5_next_290 kc230 x2 (0 : Int32) q11.2) else (grd (mI q11.2 7) 160 (b_X5_next_290 kc230 x2 ((((10 : Int32) * (mI q11.2 10)) + (mA q11.2 6 (mI q11.2 7).toNatClampNeg)) - (48 : Int32)) q11.2)))))
theorem vb_X5_next_230 {g : Gt} {ad : Nat → Nat} (z : Zt) (kc230 : Int32 → GM → Option (Unit × GM)) (hkc230 : ∀ (x2 : Int32) (σ : GM), V g (LM ad) 2 RX5 cX5_next 3 none (wM g ad) iU z (kc230 x2 σ) σ 230 [(0, .ref (aMo ad)), (2, .int x2)] []) (x2 : Int32) (σ : GM) : V g (LM ad) 2 RX5 cX5_next 3 none (wM g ad) iU z (b_X5_next_230 kc230 x2 σ) σ 230 [(0, .ref (aMo ad)), (2, .int x2)] [] := by
  unfold b_X5_next_230
  refine v_aload_n (pc := 230) (i := 0) dX5_next_230 rfl rfl ?_
  refine gX5_at (pc := 231) q_778 dX5_next_231 ?_
  refine v_aload_n (pc := 234) (i := 0) dX5_next_234 rfl rfl ?_
  refine gX5_taped (pc := 235) q_765 dX5_next_235 ?_
  refine v_icmp_ge (pc := 238) (tgt := 309) dX5_next_238 rfl ?_ ?_
  · exact v_sub [0, 1] rfl (vb_X5_next_309 z x2 σ)
  · refine v_aload_n (pc := 241) (i := 0) dX5_next_241 rfl rfl ?_
    refine gX5_tape (pc := 242) q_764 dX5_next_242 ?_
    refine v_aload_n (pc := 245) (i := 0) dX5_next_245 rfl rfl ?_
    refine gX5_at (pc := 246) q_778 dX5_next_246 ?_
    refine lM_tape (pc := 249) dX5_next_249 ?_
    refine v_bipush (pc := 250) dX5_next_250 bp_48 ?_
    refine v_bipush (pc := 252) dX5_next_252 bp_57 ?_
    refine v_callSi (pc := 254) (av := [.int (mA σ 6 (mI σ 7).toNatClampNeg), .int (48 : Int32), .int (57 : Int32)]) (rest := []) (ct_X5_in (mA σ 6 (mI σ 7).toNatClampNeg) (48 : Int32) (57 : Int32)) mi_X5_in q_715 (by decide) rfl rfl (Nat.le_of_ble_eq_true rfl) dX5_next_254 (fun q11 => ?_)
    refine v_if_eq (pc := 257) (tgt := 309) dX5_next_257 rfl ?_ ?_
    · exact v_sub [0, 1] rfl (vb_X5_next_309 z x2 q11.2)
    · refine v_aload_n (pc := 260) (i := 0) dX5_next_260 rfl rfl ?_
      refine v_iload_n (pc := 261) (i := 2) dX5_next_261 rfl rfl ?_
      refine v_iconst (pc := 262) dX5_next_262 ic_4 ?_
      refine v_icmp_ge (pc := 263) (tgt := 289) dX5_next_263 rfl ?_ ?_
      · refine v_iconst (pc := 289) dX5_next_289 ic_0 ?_
        exact v_sub [0, 1] rfl (vb_X5_next_290 z kc230 hkc230 x2 (0 : Int32) q11.2)
      · refine v_bipush (pc := 266) dX5_next_266 bp_10 ?_
        refine v_aload_n (pc := 268) (i := 0) dX5_next_268 rfl rfl ?_
        refine gX5_value (pc := 269) q_781 dX5_next_269 ?_
        refine v_imul (pc := 272) dX5_next_272 ?_
        refine v_aload_n (pc := 273) (i := 0) dX5_next_273 rfl rfl ?_
        refine gX5_tape (pc := 274) q_764 dX5_next_274 ?_
        refine v_aload_n (pc := 277) (i := 0) dX5_next_277 rfl rfl ?_
        refine gX5_at (pc := 278) q_778 dX5_next_278 ?_
        refine lM_tape (pc := 281) dX5_next_281 ?_
        refine v_iadd (pc := 282) dX5_next_282 ?_
        refine v_bipush (pc := 283) dX5_next_283 bp_48 ?_
        refine v_isub (pc := 285) dX5_next_285 ?_
        refine v_goto (pc := 286) (tgt := 290) dX5_next_286 rfl ?_
        exact v_sub [0, 1] rfl (vb_X5_next_290 z kc230 hkc230 x2 ((((10 : Int32) * (mI q11.2 10)) + (mA q11.2 6 (mI q11.2 7).toNatClampNeg)) - (48 : Int32)) q11.2)
def k_X5_next_230 : Nat → Int32 → GM → Option (Unit × GM)
  | 0 => fun _ _ => none
  | n + 1 => b_X5_next_230 (k_X5_next_230 n)
theorem vk_X5_next_230 {g : Gt} {ad : Nat → Nat} (z : Zt) : ∀ (n : Nat) (x2 : Int32) (σ : GM), V g (LM ad) 2 RX5 cX5_next 3 none (wM g ad) iU z (k_X5_next_230 n x2 σ) σ 230 [(0, .ref (aMo ad)), (2, .int x2)] [] := by
  intro n
  induction n with
  | zero => intros; exact v_eq rfl v_none
  | succ n ih =>
    intro x2 σ
    exact v_eq rfl (vb_X5_next_230 z _ ih x2 σ)
def b_X5_next_195 (x2 : Int32) (xs0 : Int32) (σ : GM) : Option (Unit × GM) :=
  bnd (some (tI σ 9 xs0)) fun σ15 => if (3 : Int32) ≤ x2 then (bnd (some (tI σ15 10 (x2 - (3 : Int32)))) fun σ16 => some ((), σ16)) else (bnd (some (tI σ15 10 x2)) fun σ17 => some ((), σ17))
theorem vb_X5_next_195 {g : Gt} {ad : Nat → Nat} (z : Zt) (x2 : Int32) (xs0 : Int32) (σ : GM) : V g (LM ad) 2 RX5 cX5_next 3 none (wM g ad) iU z (b_X5_next_195 x2 xs0 σ) σ 195 [(0, .ref (aMo ad)), (2, .int x2)] [.int xs0, .ref (aMo ad)] := by
  unfold b_X5_next_195
  refine pX5_token (pc := 195) q_780 dX5_next_195 ?_
  refine v_nms (fun σ15 => ?_)
  refine v_aload_n (pc := 198) (i := 0) dX5_next_198 rfl rfl ?_
  refine v_iload_n (pc := 199) (i := 2) dX5_next_199 rfl rfl ?_
  refine v_iconst (pc := 200) dX5_next_200 ic_3 ?_
  refine v_icmp_ge (pc := 201) (tgt := 208) dX5_next_201 rfl ?_ ?_
  · refine v_iload_n (pc := 208) (i := 2) dX5_next_208 rfl rfl ?_
    refine v_iconst (pc := 209) dX5_next_209 ic_3 ?_
    refine v_isub (pc := 210) dX5_next_210 ?_
    refine pX5_value (pc := 211) q_781 dX5_next_211 ?_
    refine v_nms (fun σ16 => ?_)
    refine v_goto (pc := 214) (tgt := 403) dX5_next_214 rfl ?_
    exact v_ret (pc := 403) dX5_next_403
  · refine v_iload_n (pc := 204) (i := 2) dX5_next_204 rfl rfl ?_
    refine v_goto (pc := 205) (tgt := 211) dX5_next_205 rfl ?_
    refine pX5_value (pc := 211) q_781 dX5_next_211 ?_
    refine v_nms (fun σ17 => ?_)
    refine v_goto (pc := 214) (tgt := 403) dX5_next_214 rfl ?_
    exact v_ret (pc := 403) dX5_next_403
def b_X5_next_146 (σ : GM) : Option (Unit × GM) :=
  bnd (f_X5_wordFrom (mI σ 8) (mI σ 7) σ) fun q14 => if (3 : Int32) ≤ q14.1 then (if (9 : Int32) ≤ q14.1 then (if q14.1 ≠ (12 : Int32) then (b_X5_next_195 q14.1 (((4 : Int32) + q14.1) - (9 : Int32)) q14.2) else (b_X5_next_195 q14.1 (-1 : Int32) q14.2)) else (b_X5_next_195 q14.1 (2 : Int32) q14.2)) else (b_X5_next_195 q14.1 (3 : Int32) q14.2)
theorem vb_X5_next_146 {g : Gt} {ad : Nat → Nat} (z : Zt) (σ : GM) : V g (LM ad) 2 RX5 cX5_next 3 none (wM g ad) iU z (b_X5_next_146 σ) σ 146 [(0, .ref (aMo ad))] [] := by
  unfold b_X5_next_146
  refine v_aload_n (pc := 146) (i := 0) dX5_next_146 rfl rfl ?_
  refine v_aload_n (pc := 147) (i := 0) dX5_next_147 rfl rfl ?_
  refine gX5_begun (pc := 148) q_779 dX5_next_148 ?_
  refine v_aload_n (pc := 151) (i := 0) dX5_next_151 rfl rfl ?_
  refine gX5_at (pc := 152) q_778 dX5_next_152 ?_
  refine v_callVi (pc := 155) rcX5 (As := [.int (mI σ 8), .int (mI σ 7)]) (rest := []) (ct_X5_wordFrom (mI σ 8) (mI σ 7)) mi_X5_wordFrom q_718 (by decide) rfl rfl (Nat.le_of_ble_eq_true rfl) dX5_next_155 (fun q14 => ?_)
  refine v_istore_n (pc := 158) (lv' := [(2, .int q14.1), (0, .ref (aMo ad))]) (i := 2) dX5_next_158 rfl (by decide) rfl ?_
  refine v_aload_n (pc := 159) (i := 0) dX5_next_159 rfl rfl ?_
  refine v_iload_n (pc := 160) (i := 2) dX5_next_160 rfl rfl ?_
  refine v_iconst (pc := 161) dX5_next_161 ic_3 ?_
  refine v_icmp_ge (pc := 162) (tgt := 169) dX5_next_162 rfl ?_ ?_
  · refine v_iload_n (pc := 169) (i := 2) dX5_next_169 rfl rfl ?_
    refine v_bipush (pc := 170) dX5_next_170 bp_9 ?_
    refine v_icmp_ge (pc := 172) (tgt := 179) dX5_next_172 rfl ?_ ?_
    · refine v_iload_n (pc := 179) (i := 2) dX5_next_179 rfl rfl ?_
      refine v_bipush (pc := 180) dX5_next_180 bp_12 ?_
      refine v_icmp_ne (pc := 182) (tgt := 189) dX5_next_182 rfl ?_ ?_
      · refine v_iconst (pc := 189) dX5_next_189 ic_4 ?_
        refine v_iload_n (pc := 190) (i := 2) dX5_next_190 rfl rfl ?_
        refine v_iadd (pc := 191) dX5_next_191 ?_
        refine v_bipush (pc := 192) dX5_next_192 bp_9 ?_
        refine v_isub (pc := 194) dX5_next_194 ?_
        exact v_sub [1, 0] rfl (vb_X5_next_195 z q14.1 (((4 : Int32) + q14.1) - (9 : Int32)) q14.2)
      · refine v_iconst (pc := 185) dX5_next_185 ic_m1 ?_
        refine v_goto (pc := 186) (tgt := 195) dX5_next_186 rfl ?_
        exact v_sub [1, 0] rfl (vb_X5_next_195 z q14.1 (-1 : Int32) q14.2)
    · refine v_iconst (pc := 175) dX5_next_175 ic_2 ?_
      refine v_goto (pc := 176) (tgt := 195) dX5_next_176 rfl ?_
      exact v_sub [1, 0] rfl (vb_X5_next_195 z q14.1 (2 : Int32) q14.2)
  · refine v_iconst (pc := 165) dX5_next_165 ic_3 ?_
    refine v_goto (pc := 166) (tgt := 195) dX5_next_166 rfl ?_
    exact v_sub [1, 0] rfl (vb_X5_next_195 z q14.1 (3 : Int32) q14.2)
def b_X5_next_103 (kc103 : GM → Option (Unit × GM)) (σ : GM) : Option (Unit × GM) :=
  if (mI σ 3) ≤ (mI σ 7) then (b_X5_next_146 σ) else (grd (mI σ 7) 160 (bnd (f_X5_in (mA σ 6 (mI σ 7).toNatClampNeg) (97 : Int32) (122 : Int32) σ) fun q18 => if q18.1 = 0 then (b_X5_next_146 q18.2) else (bnd (some (tI q18.2 7 ((mI q18.2 7) + (1 : Int32)))) fun σ19 => kc103 σ19)))
theorem vb_X5_next_103 {g : Gt} {ad : Nat → Nat} (z : Zt) (kc103 : GM → Option (Unit × GM)) (hkc103 : ∀ (σ : GM), V g (LM ad) 2 RX5 cX5_next 3 none (wM g ad) iU z (kc103 σ) σ 103 [(0, .ref (aMo ad))] []) (σ : GM) : V g (LM ad) 2 RX5 cX5_next 3 none (wM g ad) iU z (b_X5_next_103 kc103 σ) σ 103 [(0, .ref (aMo ad))] [] := by
  unfold b_X5_next_103
  refine v_aload_n (pc := 103) (i := 0) dX5_next_103 rfl rfl ?_
  refine gX5_at (pc := 104) q_778 dX5_next_104 ?_
  refine v_aload_n (pc := 107) (i := 0) dX5_next_107 rfl rfl ?_
  refine gX5_taped (pc := 108) q_765 dX5_next_108 ?_
  refine v_icmp_ge (pc := 111) (tgt := 146) dX5_next_111 rfl ?_ ?_
  · exact v_sub [0] rfl (vb_X5_next_146 z σ)
  · refine v_aload_n (pc := 114) (i := 0) dX5_next_114 rfl rfl ?_
    refine gX5_tape (pc := 115) q_764 dX5_next_115 ?_
    refine v_aload_n (pc := 118) (i := 0) dX5_next_118 rfl rfl ?_
    refine gX5_at (pc := 119) q_778 dX5_next_119 ?_
    refine lM_tape (pc := 122) dX5_next_122 ?_
    refine v_bipush (pc := 123) dX5_next_123 bp_97 ?_
    refine v_bipush (pc := 125) dX5_next_125 bp_122 ?_
    refine v_callSi (pc := 127) (av := [.int (mA σ 6 (mI σ 7).toNatClampNeg), .int (97 : Int32), .int (122 : Int32)]) (rest := []) (ct_X5_in (mA σ 6 (mI σ 7).toNatClampNeg) (97 : Int32) (122 : Int32)) mi_X5_in q_715 (by decide) rfl rfl (Nat.le_of_ble_eq_true rfl) dX5_next_127 (fun q18 => ?_)
    refine v_if_eq (pc := 130) (tgt := 146) dX5_next_130 rfl ?_ ?_
    · exact v_sub [0] rfl (vb_X5_next_146 z q18.2)
    · refine v_aload_n (pc := 133) (i := 0) dX5_next_133 rfl rfl ?_
      refine v_dup (pc := 134) dX5_next_134 rfl ?_
      refine gX5_at (pc := 135) q_778 dX5_next_135 ?_
      refine v_iconst (pc := 138) dX5_next_138 ic_1 ?_
      refine v_iadd (pc := 139) dX5_next_139 ?_
      refine pX5_at (pc := 140) q_778 dX5_next_140 ?_
      refine v_nms (fun σ19 => ?_)
      refine v_goto (pc := 143) (tgt := 103) dX5_next_143 rfl ?_
      exact v_sub [0] rfl (hkc103 σ19)
def k_X5_next_103 : Nat → GM → Option (Unit × GM)
  | 0 => fun _ => none
  | n + 1 => b_X5_next_103 (k_X5_next_103 n)
theorem vk_X5_next_103 {g : Gt} {ad : Nat → Nat} (z : Zt) : ∀ (n : Nat) (σ : GM), V g (LM ad) 2 RX5 cX5_next 3 none (wM g ad) iU z (k_X5_next_103 n σ) σ 103 [(0, .ref (aMo ad))] [] := by
  intro n
  induction n with
  | zero => intros; exact v_eq rfl v_none
  | succ n ih =>
    intro σ
    exact v_eq rfl (vb_X5_next_103 z _ ih σ)
def b_X5_next_52 (σ : GM) : Option (Unit × GM) :=
  bnd (some (tI σ 8 (mI σ 7))) fun σ1 => bnd (some (tI σ1 9 (0 : Int32))) fun σ2 => bnd (some (tI σ2 10 (0 : Int32))) fun σ3 => if (mI σ3 7) ≠ (mI σ3 3) then (grd (mI σ3 7) 160 (bnd (some (mA σ3 6 (mI σ3 7).toNatClampNeg)) fun w4 => bnd (f_X5_in w4 (97 : Int32) (122 : Int32) σ3) fun q5 => if q5.1 = 0 then (bnd (f_X5_in w4 (48 : Int32) (57 : Int32) q5.2) fun q6 => if q6.1 = 0 then (if w4 = (40 : Int32) then (b_X5_next_379 w4 (1 : Int32) q6.2) else (if w4 = (41 : Int32) then (b_X5_next_379 w4 (1 : Int32) q6.2) else (if w4 = (59 : Int32) then (b_X5_next_379 w4 (1 : Int32) q6.2) else (if w4 = (43 : Int32) then (b_X5_next_379 w4 (1 : Int32) q6.2) else (if w4 = (45 : Int32) then (b_X5_next_379 w4 (1 : Int32) q6.2) else (if w4 = (42 : Int32) then (b_X5_next_379 w4 (1 : Int32) q6.2) else (if w4 = (60 : Int32) then (b_X5_next_379 w4 (1 : Int32) q6.2) else (if w4 ≠ (61 : Int32) then (b_X5_next_379 w4 (0 : Int32) q6.2) else (b_X5_next_379 w4 (1 : Int32) q6.2))))))))) else (k_X5_next_230 FU (0 : Int32) q6.2)) else (k_X5_next_103 FU q5.2))) else (some ((), σ3))
theorem vb_X5_next_52 {g : Gt} {ad : Nat → Nat} (z : Zt) (σ : GM) : V g (LM ad) 2 RX5 cX5_next 3 none (wM g ad) iU z (b_X5_next_52 σ) σ 52 [(0, .ref (aMo ad))] [] := by
  unfold b_X5_next_52
  refine v_aload_n (pc := 52) (i := 0) dX5_next_52 rfl rfl ?_
  refine v_aload_n (pc := 53) (i := 0) dX5_next_53 rfl rfl ?_
  refine gX5_at (pc := 54) q_778 dX5_next_54 ?_
  refine pX5_begun (pc := 57) q_779 dX5_next_57 ?_
  refine v_nms (fun σ1 => ?_)
  refine v_aload_n (pc := 60) (i := 0) dX5_next_60 rfl rfl ?_
  refine v_iconst (pc := 61) dX5_next_61 ic_0 ?_
  refine pX5_token (pc := 62) q_780 dX5_next_62 ?_
  refine v_nms (fun σ2 => ?_)
  refine v_aload_n (pc := 65) (i := 0) dX5_next_65 rfl rfl ?_
  refine v_iconst (pc := 66) dX5_next_66 ic_0 ?_
  refine pX5_value (pc := 67) q_781 dX5_next_67 ?_
  refine v_nms (fun σ3 => ?_)
  refine v_aload_n (pc := 70) (i := 0) dX5_next_70 rfl rfl ?_
  refine gX5_at (pc := 71) q_778 dX5_next_71 ?_
  refine v_aload_n (pc := 74) (i := 0) dX5_next_74 rfl rfl ?_
  refine gX5_taped (pc := 75) q_765 dX5_next_75 ?_
  refine v_icmp_ne (pc := 78) (tgt := 82) dX5_next_78 rfl ?_ ?_
  · refine v_aload_n (pc := 82) (i := 0) dX5_next_82 rfl rfl ?_
    refine gX5_tape (pc := 83) q_764 dX5_next_83 ?_
    refine v_aload_n (pc := 86) (i := 0) dX5_next_86 rfl rfl ?_
    refine gX5_at (pc := 87) q_778 dX5_next_87 ?_
    refine lM_tape (pc := 90) dX5_next_90 ?_
    refine v_nmi (fun w4 => ?_)
    refine v_istore_n (pc := 91) (lv' := [(1, .int w4), (0, .ref (aMo ad))]) (i := 1) dX5_next_91 rfl (by decide) rfl ?_
    refine v_iload_n (pc := 92) (i := 1) dX5_next_92 rfl rfl ?_
    refine v_bipush (pc := 93) dX5_next_93 bp_97 ?_
    refine v_bipush (pc := 95) dX5_next_95 bp_122 ?_
    refine v_callSi (pc := 97) (av := [.int w4, .int (97 : Int32), .int (122 : Int32)]) (rest := []) (ct_X5_in w4 (97 : Int32) (122 : Int32)) mi_X5_in q_715 (by decide) rfl rfl (Nat.le_of_ble_eq_true rfl) dX5_next_97 (fun q5 => ?_)
    refine v_if_eq (pc := 100) (tgt := 217) dX5_next_100 rfl ?_ ?_
    · refine v_iload_n (pc := 217) (i := 1) dX5_next_217 rfl rfl ?_
      refine v_bipush (pc := 218) dX5_next_218 bp_48 ?_
      refine v_bipush (pc := 220) dX5_next_220 bp_57 ?_
      refine v_callSi (pc := 222) (av := [.int w4, .int (48 : Int32), .int (57 : Int32)]) (rest := []) (ct_X5_in w4 (48 : Int32) (57 : Int32)) mi_X5_in q_715 (by decide) rfl rfl (Nat.le_of_ble_eq_true rfl) dX5_next_222 (fun q6 => ?_)
      refine v_if_eq (pc := 225) (tgt := 326) dX5_next_225 rfl ?_ ?_
      · refine v_iload_n (pc := 326) (i := 1) dX5_next_326 rfl rfl ?_
        refine v_bipush (pc := 327) dX5_next_327 bp_40 ?_
        refine v_icmp_eq (pc := 329) (tgt := 374) dX5_next_329 rfl ?_ ?_
        · refine v_iconst (pc := 374) dX5_next_374 ic_1 ?_
          refine v_goto (pc := 375) (tgt := 379) dX5_next_375 rfl ?_
          exact v_sub [1, 0] rfl (vb_X5_next_379 z w4 (1 : Int32) q6.2)
        · refine v_iload_n (pc := 332) (i := 1) dX5_next_332 rfl rfl ?_
          refine v_bipush (pc := 333) dX5_next_333 bp_41 ?_
          refine v_icmp_eq (pc := 335) (tgt := 374) dX5_next_335 rfl ?_ ?_
          · refine v_iconst (pc := 374) dX5_next_374 ic_1 ?_
            refine v_goto (pc := 375) (tgt := 379) dX5_next_375 rfl ?_
            exact v_sub [1, 0] rfl (vb_X5_next_379 z w4 (1 : Int32) q6.2)
          · refine v_iload_n (pc := 338) (i := 1) dX5_next_338 rfl rfl ?_
            refine v_bipush (pc := 339) dX5_next_339 bp_59 ?_
            refine v_icmp_eq (pc := 341) (tgt := 374) dX5_next_341 rfl ?_ ?_
            · refine v_iconst (pc := 374) dX5_next_374 ic_1 ?_
              refine v_goto (pc := 375) (tgt := 379) dX5_next_375 rfl ?_
              exact v_sub [1, 0] rfl (vb_X5_next_379 z w4 (1 : Int32) q6.2)
            · refine v_iload_n (pc := 344) (i := 1) dX5_next_344 rfl rfl ?_
              refine v_bipush (pc := 345) dX5_next_345 bp_43 ?_
              refine v_icmp_eq (pc := 347) (tgt := 374) dX5_next_347 rfl ?_ ?_
              · refine v_iconst (pc := 374) dX5_next_374 ic_1 ?_
                refine v_goto (pc := 375) (tgt := 379) dX5_next_375 rfl ?_
                exact v_sub [1, 0] rfl (vb_X5_next_379 z w4 (1 : Int32) q6.2)
              · refine v_iload_n (pc := 350) (i := 1) dX5_next_350 rfl rfl ?_
                refine v_bipush (pc := 351) dX5_next_351 bp_45 ?_
                refine v_icmp_eq (pc := 353) (tgt := 374) dX5_next_353 rfl ?_ ?_
                · refine v_iconst (pc := 374) dX5_next_374 ic_1 ?_
                  refine v_goto (pc := 375) (tgt := 379) dX5_next_375 rfl ?_
                  exact v_sub [1, 0] rfl (vb_X5_next_379 z w4 (1 : Int32) q6.2)
                · refine v_iload_n (pc := 356) (i := 1) dX5_next_356 rfl rfl ?_
                  refine v_bipush (pc := 357) dX5_next_357 bp_42 ?_
                  refine v_icmp_eq (pc := 359) (tgt := 374) dX5_next_359 rfl ?_ ?_
                  · refine v_iconst (pc := 374) dX5_next_374 ic_1 ?_
                    refine v_goto (pc := 375) (tgt := 379) dX5_next_375 rfl ?_
                    exact v_sub [1, 0] rfl (vb_X5_next_379 z w4 (1 : Int32) q6.2)
                  · refine v_iload_n (pc := 362) (i := 1) dX5_next_362 rfl rfl ?_
                    refine v_bipush (pc := 363) dX5_next_363 bp_60 ?_
                    refine v_icmp_eq (pc := 365) (tgt := 374) dX5_next_365 rfl ?_ ?_
                    · refine v_iconst (pc := 374) dX5_next_374 ic_1 ?_
                      refine v_goto (pc := 375) (tgt := 379) dX5_next_375 rfl ?_
                      exact v_sub [1, 0] rfl (vb_X5_next_379 z w4 (1 : Int32) q6.2)
                    · refine v_iload_n (pc := 368) (i := 1) dX5_next_368 rfl rfl ?_
                      refine v_bipush (pc := 369) dX5_next_369 bp_61 ?_
                      refine v_icmp_ne (pc := 371) (tgt := 378) dX5_next_371 rfl ?_ ?_
                      · refine v_iconst (pc := 378) dX5_next_378 ic_0 ?_
                        exact v_sub [1, 0] rfl (vb_X5_next_379 z w4 (0 : Int32) q6.2)
                      · refine v_iconst (pc := 374) dX5_next_374 ic_1 ?_
                        refine v_goto (pc := 375) (tgt := 379) dX5_next_375 rfl ?_
                        exact v_sub [1, 0] rfl (vb_X5_next_379 z w4 (1 : Int32) q6.2)
      · refine v_iconst (pc := 228) dX5_next_228 ic_0 ?_
        refine v_istore_n (pc := 229) (lv' := [(2, .int (0 : Int32)), (1, .int w4), (0, .ref (aMo ad))]) (i := 2) dX5_next_229 rfl (by decide) rfl ?_
        exact v_sub [2, 0] rfl (vk_X5_next_230 z FU (0 : Int32) q6.2)
    · exact v_sub [1] rfl (vk_X5_next_103 z FU q5.2)
  · exact v_ret (pc := 81) dX5_next_81
def b_X5_next_0 (kc0 : GM → Option (Unit × GM)) (σ : GM) : Option (Unit × GM) :=
  if (mI σ 3) ≤ (mI σ 7) then (b_X5_next_52 σ) else (grd (mI σ 7) 160 (if (mA σ 6 (mI σ 7).toNatClampNeg) = (32 : Int32) then (bnd (some (tI σ 7 ((mI σ 7) + (1 : Int32)))) fun σ20 => kc0 σ20) else (grd (mI σ 7) 160 (if (mA σ 6 (mI σ 7).toNatClampNeg) ≠ (10 : Int32) then (b_X5_next_52 σ) else (bnd (some (tI σ 7 ((mI σ 7) + (1 : Int32)))) fun σ21 => kc0 σ21)))))
theorem vb_X5_next_0 {g : Gt} {ad : Nat → Nat} (z : Zt) (kc0 : GM → Option (Unit × GM)) (hkc0 : ∀ (σ : GM), V g (LM ad) 2 RX5 cX5_next 3 none (wM g ad) iU z (kc0 σ) σ 0 [(0, .ref (aMo ad))] []) (σ : GM) : V g (LM ad) 2 RX5 cX5_next 3 none (wM g ad) iU z (b_X5_next_0 kc0 σ) σ 0 [(0, .ref (aMo ad))] [] := by
  unfold b_X5_next_0
  refine v_aload_n (pc := 0) (i := 0) dX5_next_0 rfl rfl ?_
  refine gX5_at (pc := 1) q_778 dX5_next_1 ?_
  refine v_aload_n (pc := 4) (i := 0) dX5_next_4 rfl rfl ?_
  refine gX5_taped (pc := 5) q_765 dX5_next_5 ?_
  refine v_icmp_ge (pc := 8) (tgt := 52) dX5_next_8 rfl ?_ ?_
  · exact v_sub [0] rfl (vb_X5_next_52 z σ)
  · refine v_aload_n (pc := 11) (i := 0) dX5_next_11 rfl rfl ?_
    refine gX5_tape (pc := 12) q_764 dX5_next_12 ?_
    refine v_aload_n (pc := 15) (i := 0) dX5_next_15 rfl rfl ?_
    refine gX5_at (pc := 16) q_778 dX5_next_16 ?_
    refine lM_tape (pc := 19) dX5_next_19 ?_
    refine v_bipush (pc := 20) dX5_next_20 bp_32 ?_
    refine v_icmp_eq (pc := 22) (tgt := 39) dX5_next_22 rfl ?_ ?_
    · refine v_aload_n (pc := 39) (i := 0) dX5_next_39 rfl rfl ?_
      refine v_dup (pc := 40) dX5_next_40 rfl ?_
      refine gX5_at (pc := 41) q_778 dX5_next_41 ?_
      refine v_iconst (pc := 44) dX5_next_44 ic_1 ?_
      refine v_iadd (pc := 45) dX5_next_45 ?_
      refine pX5_at (pc := 46) q_778 dX5_next_46 ?_
      refine v_nms (fun σ20 => ?_)
      refine v_goto (pc := 49) (tgt := 0) dX5_next_49 rfl ?_
      exact v_sub [0] rfl (hkc0 σ20)
    · refine v_aload_n (pc := 25) (i := 0) dX5_next_25 rfl rfl ?_
      refine gX5_tape (pc := 26) q_764 dX5_next_26 ?_
      refine v_aload_n (pc := 29) (i := 0) dX5_next_29 rfl rfl ?_
      refine gX5_at (pc := 30) q_778 dX5_next_30 ?_
      refine lM_tape (pc := 33) dX5_next_33 ?_
      refine v_bipush (pc := 34) dX5_next_34 bp_10 ?_
      refine v_icmp_ne (pc := 36) (tgt := 52) dX5_next_36 rfl ?_ ?_
      · exact v_sub [0] rfl (vb_X5_next_52 z σ)
      · refine v_aload_n (pc := 39) (i := 0) dX5_next_39 rfl rfl ?_
        refine v_dup (pc := 40) dX5_next_40 rfl ?_
        refine gX5_at (pc := 41) q_778 dX5_next_41 ?_
        refine v_iconst (pc := 44) dX5_next_44 ic_1 ?_
        refine v_iadd (pc := 45) dX5_next_45 ?_
        refine pX5_at (pc := 46) q_778 dX5_next_46 ?_
        refine v_nms (fun σ21 => ?_)
        refine v_goto (pc := 49) (tgt := 0) dX5_next_49 rfl ?_
        exact v_sub [0] rfl (hkc0 σ21)
def k_X5_next_0 : Nat → GM → Option (Unit × GM)
  | 0 => fun _ => none
  | n + 1 => b_X5_next_0 (k_X5_next_0 n)
theorem vk_X5_next_0 {g : Gt} {ad : Nat → Nat} (z : Zt) : ∀ (n : Nat) (σ : GM), V g (LM ad) 2 RX5 cX5_next 3 none (wM g ad) iU z (k_X5_next_0 n σ) σ 0 [(0, .ref (aMo ad))] [] := by
  intro n
  induction n with
  | zero => intros; exact v_eq rfl v_none
  | succ n ih =>
    intro σ
    exact v_eq rfl (vb_X5_next_0 z _ ih σ)
def f_X5_next (σ : GM) : Option (Unit × GM) :=
  k_X5_next_0 FU σ
theorem vf_X5_next {g : Gt} {ad : Nat → Nat} (z : Zt) (σ : GM) : V g (LM ad) 2 RX5 cX5_next 3 none (wM g ad) iU z (f_X5_next σ) σ 0 [(0, .ref (aMo ad))] [] := by
  unfold f_X5_next
  exact v_sub [0] rfl (vk_X5_next_0 z FU σ)
theorem ct_X5_next {g : Gt} {ad : Nat → Nat} : CT g (LM ad) yX5_next cX5_next 3 none 2 [.ref (aMo ad)] iU (wM g ad) (f_X5_next) :=
  ct_of_V (own := RX5) (lv0 := [(0, .ref (aMo ad))]) (by decide +kernel) rfl (Nat.le_of_ble_eq_true rfl) rfl (fun z σ => vf_X5_next z σ)
-- LighthouseLiedToModel.puts
theorem dX5_puts_0 : decode cX5_puts 0 = .ok (.aload_n 0, 1) := by decide +kernel
theorem dX5_puts_1 : decode cX5_puts 1 = .ok (.getfield 31, 3) := by decide +kernel
theorem dX5_puts_4 : decode cX5_puts 4 = .ok (.sipush 200, 3) := by decide +kernel
theorem dX5_puts_7 : decode cX5_puts 7 = .ok (.aload_n 0, 1) := by decide +kernel
theorem dX5_puts_8 : decode cX5_puts 8 = .ok (.getfield 109, 3) := by decide +kernel
theorem dX5_puts_11 : decode cX5_puts 11 = .ok (.imul, 1) := by decide +kernel
theorem dX5_puts_12 : decode cX5_puts 12 = .ok (.aload_n 0, 1) := by decide +kernel
theorem dX5_puts_13 : decode cX5_puts 13 = .ok (.getfield 147, 3) := by decide +kernel
theorem dX5_puts_16 : decode cX5_puts 16 = .ok (.iadd, 1) := by decide +kernel
theorem dX5_puts_17 : decode cX5_puts 17 = .ok (.iload_n 1, 1) := by decide +kernel
theorem dX5_puts_18 : decode cX5_puts 18 = .ok (.iastore, 1) := by decide +kernel
theorem dX5_puts_19 : decode cX5_puts 19 = .ok (.aload_n 0, 1) := by decide +kernel
theorem dX5_puts_20 : decode cX5_puts 20 = .ok (.dup, 1) := by decide +kernel
theorem dX5_puts_21 : decode cX5_puts 21 = .ok (.getfield 147, 3) := by decide +kernel
theorem dX5_puts_24 : decode cX5_puts 24 = .ok (.iconst 1, 1) := by decide +kernel
theorem dX5_puts_25 : decode cX5_puts 25 = .ok (.iadd, 1) := by decide +kernel
theorem dX5_puts_26 : decode cX5_puts 26 = .ok (.putfield 147, 3) := by decide +kernel
theorem dX5_puts_29 : decode cX5_puts 29 = .ok (.return_, 1) := by decide +kernel
def f_X5_puts (x1 : Int32) (σ : GM) : Option (Unit × GM) :=
  grd (((200 : Int32) * (mI σ 4)) + (mI σ 13)) 1200 (bnd (some (tA σ 7 (((200 : Int32) * (mI σ 4)) + (mI σ 13)).toNatClampNeg x1)) fun σ1 => bnd (some (tI σ1 13 ((mI σ1 13) + (1 : Int32)))) fun σ2 => some ((), σ2))
theorem vf_X5_puts {g : Gt} {ad : Nat → Nat} (z : Zt) (x1 : Int32) (σ : GM) : V g (LM ad) 1 RX5 cX5_puts 2 none (wM g ad) iU z (f_X5_puts x1 σ) σ 0 [(0, .ref (aMo ad)), (1, .int x1)] [] := by
  unfold f_X5_puts
  refine v_aload_n (pc := 0) (i := 0) dX5_puts_0 rfl rfl ?_
  refine gX5_codes (pc := 1) q_766 dX5_puts_1 ?_
  refine v_sipush (pc := 4) dX5_puts_4 sp_200 ?_
  refine v_aload_n (pc := 7) (i := 0) dX5_puts_7 rfl rfl ?_
  refine gX5_texts (pc := 8) q_768 dX5_puts_8 ?_
  refine v_imul (pc := 11) dX5_puts_11 ?_
  refine v_aload_n (pc := 12) (i := 0) dX5_puts_12 rfl rfl ?_
  refine gX5_out (pc := 13) q_786 dX5_puts_13 ?_
  refine v_iadd (pc := 16) dX5_puts_16 ?_
  refine v_iload_n (pc := 17) (i := 1) dX5_puts_17 rfl rfl ?_
  refine sM_codes (pc := 18) dX5_puts_18 ?_
  refine v_nms (fun σ1 => ?_)
  refine v_aload_n (pc := 19) (i := 0) dX5_puts_19 rfl rfl ?_
  refine v_dup (pc := 20) dX5_puts_20 rfl ?_
  refine gX5_out (pc := 21) q_786 dX5_puts_21 ?_
  refine v_iconst (pc := 24) dX5_puts_24 ic_1 ?_
  refine v_iadd (pc := 25) dX5_puts_25 ?_
  refine pX5_out (pc := 26) q_786 dX5_puts_26 ?_
  refine v_nms (fun σ2 => ?_)
  exact v_ret (pc := 29) dX5_puts_29
theorem ct_X5_puts {g : Gt} {ad : Nat → Nat} (x1 : Int32) : CT g (LM ad) yX5_puts cX5_puts 2 none 1 [.ref (aMo ad), .int x1] iU (wM g ad) (f_X5_puts x1) :=
  ct_of_V (own := RX5) (lv0 := [(0, .ref (aMo ad)), (1, .int x1)]) (by decide +kernel) rfl (Nat.le_of_ble_eq_true rfl) rfl (fun z σ => vf_X5_puts z x1 σ)
-- LighthouseLiedToModel.rank
theorem dX5_rank_0 : decode cX5_rank 0 = .ok (.iload_n 0, 1) := by decide +kernel
theorem dX5_rank_1 : decode cX5_rank 1 = .ok (.ifCond .ne 7, 3) := by decide +kernel
theorem dX5_rank_4 : decode cX5_rank 4 = .ok (.iconst 0, 1) := by decide +kernel
theorem dX5_rank_5 : decode cX5_rank 5 = .ok (.goto 66, 3) := by decide +kernel
theorem dX5_rank_8 : decode cX5_rank 8 = .ok (.iload_n 0, 1) := by decide +kernel
theorem dX5_rank_9 : decode cX5_rank 9 = .ok (.bipush 11, 2) := by decide +kernel
theorem dX5_rank_11 : decode cX5_rank 11 = .ok (.if_icmp .ne 7, 3) := by decide +kernel
theorem dX5_rank_14 : decode cX5_rank 14 = .ok (.iconst 1, 1) := by decide +kernel
theorem dX5_rank_15 : decode cX5_rank 15 = .ok (.goto 56, 3) := by decide +kernel
theorem dX5_rank_18 : decode cX5_rank 18 = .ok (.iload_n 0, 1) := by decide +kernel
theorem dX5_rank_19 : decode cX5_rank 19 = .ok (.bipush 12, 2) := by decide +kernel
theorem dX5_rank_21 : decode cX5_rank 21 = .ok (.if_icmp .ne 7, 3) := by decide +kernel
theorem dX5_rank_24 : decode cX5_rank 24 = .ok (.iconst 2, 1) := by decide +kernel
theorem dX5_rank_25 : decode cX5_rank 25 = .ok (.goto 46, 3) := by decide +kernel
theorem dX5_rank_28 : decode cX5_rank 28 = .ok (.iload_n 0, 1) := by decide +kernel
theorem dX5_rank_29 : decode cX5_rank 29 = .ok (.bipush 13, 2) := by decide +kernel
theorem dX5_rank_31 : decode cX5_rank 31 = .ok (.if_icmp .ne 7, 3) := by decide +kernel
theorem dX5_rank_34 : decode cX5_rank 34 = .ok (.iconst 3, 1) := by decide +kernel
theorem dX5_rank_35 : decode cX5_rank 35 = .ok (.goto 36, 3) := by decide +kernel
theorem dX5_rank_38 : decode cX5_rank 38 = .ok (.iload_n 0, 1) := by decide +kernel
theorem dX5_rank_39 : decode cX5_rank 39 = .ok (.bipush 15, 2) := by decide +kernel
theorem dX5_rank_41 : decode cX5_rank 41 = .ok (.if_icmp .gt 7, 3) := by decide +kernel
theorem dX5_rank_44 : decode cX5_rank 44 = .ok (.iconst 4, 1) := by decide +kernel
theorem dX5_rank_45 : decode cX5_rank 45 = .ok (.goto 26, 3) := by decide +kernel
theorem dX5_rank_48 : decode cX5_rank 48 = .ok (.iload_n 0, 1) := by decide +kernel
theorem dX5_rank_49 : decode cX5_rank 49 = .ok (.bipush 17, 2) := by decide +kernel
theorem dX5_rank_51 : decode cX5_rank 51 = .ok (.if_icmp .gt 7, 3) := by decide +kernel
theorem dX5_rank_54 : decode cX5_rank 54 = .ok (.iconst 5, 1) := by decide +kernel
theorem dX5_rank_55 : decode cX5_rank 55 = .ok (.goto 16, 3) := by decide +kernel
theorem dX5_rank_58 : decode cX5_rank 58 = .ok (.iload_n 0, 1) := by decide +kernel
theorem dX5_rank_59 : decode cX5_rank 59 = .ok (.bipush 18, 2) := by decide +kernel
theorem dX5_rank_61 : decode cX5_rank 61 = .ok (.if_icmp .ne 8, 3) := by decide +kernel
theorem dX5_rank_64 : decode cX5_rank 64 = .ok (.bipush 6, 2) := by decide +kernel
theorem dX5_rank_66 : decode cX5_rank 66 = .ok (.goto 5, 3) := by decide +kernel
theorem dX5_rank_69 : decode cX5_rank 69 = .ok (.bipush 7, 2) := by decide +kernel
theorem dX5_rank_71 : decode cX5_rank 71 = .ok (.ireturn, 1) := by decide +kernel
def f_X5_rank (x0 : Int32) (σ : GM) : Option (Int32 × GM) :=
  if x0 ≠ 0 then (if x0 ≠ (11 : Int32) then (if x0 ≠ (12 : Int32) then (if x0 ≠ (13 : Int32) then (if (15 : Int32) < x0 then (if (17 : Int32) < x0 then (if x0 ≠ (18 : Int32) then (some ((7 : Int32), σ)) else (some ((6 : Int32), σ))) else (some ((5 : Int32), σ))) else (some ((4 : Int32), σ))) else (some ((3 : Int32), σ))) else (some ((2 : Int32), σ))) else (some ((1 : Int32), σ))) else (some ((0 : Int32), σ))
theorem vf_X5_rank {g : Gt} {ad : Nat → Nat} (z : Zt) (x0 : Int32) (σ : GM) : V g (LM ad) 1 RX5 cX5_rank 1 (some .int) (wM g ad) iI z (f_X5_rank x0 σ) σ 0 [(0, .int x0)] [] := by
  unfold f_X5_rank
  refine v_iload_n (pc := 0) (i := 0) dX5_rank_0 rfl rfl ?_
  refine v_if_ne (pc := 1) (tgt := 8) dX5_rank_1 rfl ?_ ?_
  · refine v_iload_n (pc := 8) (i := 0) dX5_rank_8 rfl rfl ?_
    refine v_bipush (pc := 9) dX5_rank_9 bp_11 ?_
    refine v_icmp_ne (pc := 11) (tgt := 18) dX5_rank_11 rfl ?_ ?_
    · refine v_iload_n (pc := 18) (i := 0) dX5_rank_18 rfl rfl ?_
      refine v_bipush (pc := 19) dX5_rank_19 bp_12 ?_
      refine v_icmp_ne (pc := 21) (tgt := 28) dX5_rank_21 rfl ?_ ?_
      · refine v_iload_n (pc := 28) (i := 0) dX5_rank_28 rfl rfl ?_
        refine v_bipush (pc := 29) dX5_rank_29 bp_13 ?_
        refine v_icmp_ne (pc := 31) (tgt := 38) dX5_rank_31 rfl ?_ ?_
        · refine v_iload_n (pc := 38) (i := 0) dX5_rank_38 rfl rfl ?_
          refine v_bipush (pc := 39) dX5_rank_39 bp_15 ?_
          refine v_icmp_gt (pc := 41) (tgt := 48) dX5_rank_41 rfl ?_ ?_
          · refine v_iload_n (pc := 48) (i := 0) dX5_rank_48 rfl rfl ?_
            refine v_bipush (pc := 49) dX5_rank_49 bp_17 ?_
            refine v_icmp_gt (pc := 51) (tgt := 58) dX5_rank_51 rfl ?_ ?_
            · refine v_iload_n (pc := 58) (i := 0) dX5_rank_58 rfl rfl ?_
              refine v_bipush (pc := 59) dX5_rank_59 bp_18 ?_
              refine v_icmp_ne (pc := 61) (tgt := 69) dX5_rank_61 rfl ?_ ?_
              · refine v_bipush (pc := 69) dX5_rank_69 bp_7 ?_
                exact v_iret (pc := 71) dX5_rank_71
              · refine v_bipush (pc := 64) dX5_rank_64 bp_6 ?_
                refine v_goto (pc := 66) (tgt := 71) dX5_rank_66 rfl ?_
                exact v_iret (pc := 71) dX5_rank_71
            · refine v_iconst (pc := 54) dX5_rank_54 ic_5 ?_
              refine v_goto (pc := 55) (tgt := 71) dX5_rank_55 rfl ?_
              exact v_iret (pc := 71) dX5_rank_71
          · refine v_iconst (pc := 44) dX5_rank_44 ic_4 ?_
            refine v_goto (pc := 45) (tgt := 71) dX5_rank_45 rfl ?_
            exact v_iret (pc := 71) dX5_rank_71
        · refine v_iconst (pc := 34) dX5_rank_34 ic_3 ?_
          refine v_goto (pc := 35) (tgt := 71) dX5_rank_35 rfl ?_
          exact v_iret (pc := 71) dX5_rank_71
      · refine v_iconst (pc := 24) dX5_rank_24 ic_2 ?_
        refine v_goto (pc := 25) (tgt := 71) dX5_rank_25 rfl ?_
        exact v_iret (pc := 71) dX5_rank_71
    · refine v_iconst (pc := 14) dX5_rank_14 ic_1 ?_
      refine v_goto (pc := 15) (tgt := 71) dX5_rank_15 rfl ?_
      exact v_iret (pc := 71) dX5_rank_71
  · refine v_iconst (pc := 4) dX5_rank_4 ic_0 ?_
    refine v_goto (pc := 5) (tgt := 71) dX5_rank_5 rfl ?_
    exact v_iret (pc := 71) dX5_rank_71
theorem ct_X5_rank {g : Gt} {ad : Nat → Nat} (x0 : Int32) : CT g (LM ad) yX5_rank cX5_rank 1 (some .int) 1 [.int x0] iI (wM g ad) (f_X5_rank x0) :=
  ct_of_V (own := RX5) (lv0 := [(0, .int x0)]) (by decide +kernel) rfl (Nat.le_of_ble_eq_true rfl) rfl (fun z σ => vf_X5_rank z x0 σ)
-- LighthouseLiedToModel.unwinds
theorem dX5_unwinds_0 : decode cX5_unwinds 0 = .ok (.aload_n 0, 1) := by decide +kernel
theorem dX5_unwinds_1 : decode cX5_unwinds 1 = .ok (.getfield 150, 3) := by decide +kernel
theorem dX5_unwinds_4 : decode cX5_unwinds 4 = .ok (.ifCond .le 75, 3) := by decide +kernel
theorem dX5_unwinds_7 : decode cX5_unwinds 7 = .ok (.aload_n 0, 1) := by decide +kernel
theorem dX5_unwinds_8 : decode cX5_unwinds 8 = .ok (.getfield 58, 3) := by decide +kernel
theorem dX5_unwinds_11 : decode cX5_unwinds 11 = .ok (.aload_n 0, 1) := by decide +kernel
theorem dX5_unwinds_12 : decode cX5_unwinds 12 = .ok (.getfield 150, 3) := by decide +kernel
theorem dX5_unwinds_15 : decode cX5_unwinds 15 = .ok (.iconst 1, 1) := by decide +kernel
theorem dX5_unwinds_16 : decode cX5_unwinds 16 = .ok (.isub, 1) := by decide +kernel
theorem dX5_unwinds_17 : decode cX5_unwinds 17 = .ok (.iaload, 1) := by decide +kernel
theorem dX5_unwinds_18 : decode cX5_unwinds 18 = .ok (.invokestatic 153, 3) := by decide +kernel
theorem dX5_unwinds_21 : decode cX5_unwinds 21 = .ok (.iload_n 1, 1) := by decide +kernel
theorem dX5_unwinds_22 : decode cX5_unwinds 22 = .ok (.if_icmp .lt 57, 3) := by decide +kernel
theorem dX5_unwinds_25 : decode cX5_unwinds 25 = .ok (.aload_n 0, 1) := by decide +kernel
theorem dX5_unwinds_26 : decode cX5_unwinds 26 = .ok (.dup, 1) := by decide +kernel
theorem dX5_unwinds_27 : decode cX5_unwinds 27 = .ok (.getfield 150, 3) := by decide +kernel
theorem dX5_unwinds_30 : decode cX5_unwinds 30 = .ok (.iconst 1, 1) := by decide +kernel
theorem dX5_unwinds_31 : decode cX5_unwinds 31 = .ok (.isub, 1) := by decide +kernel
theorem dX5_unwinds_32 : decode cX5_unwinds 32 = .ok (.putfield 150, 3) := by decide +kernel
theorem dX5_unwinds_35 : decode cX5_unwinds 35 = .ok (.aload_n 0, 1) := by decide +kernel
theorem dX5_unwinds_36 : decode cX5_unwinds 36 = .ok (.getfield 58, 3) := by decide +kernel
theorem dX5_unwinds_39 : decode cX5_unwinds 39 = .ok (.aload_n 0, 1) := by decide +kernel
theorem dX5_unwinds_40 : decode cX5_unwinds 40 = .ok (.getfield 150, 3) := by decide +kernel
theorem dX5_unwinds_43 : decode cX5_unwinds 43 = .ok (.iaload, 1) := by decide +kernel
theorem dX5_unwinds_44 : decode cX5_unwinds 44 = .ok (.istore_n 2, 1) := by decide +kernel
theorem dX5_unwinds_45 : decode cX5_unwinds 45 = .ok (.aload_n 0, 1) := by decide +kernel
theorem dX5_unwinds_46 : decode cX5_unwinds 46 = .ok (.dup, 1) := by decide +kernel
theorem dX5_unwinds_47 : decode cX5_unwinds 47 = .ok (.getfield 156, 3) := by decide +kernel
theorem dX5_unwinds_50 : decode cX5_unwinds 50 = .ok (.iload_n 2, 1) := by decide +kernel
theorem dX5_unwinds_51 : decode cX5_unwinds 51 = .ok (.bipush 13, 2) := by decide +kernel
theorem dX5_unwinds_53 : decode cX5_unwinds 53 = .ok (.if_icmp .eq 9, 3) := by decide +kernel
theorem dX5_unwinds_56 : decode cX5_unwinds 56 = .ok (.iload_n 2, 1) := by decide +kernel
theorem dX5_unwinds_57 : decode cX5_unwinds 57 = .ok (.bipush 19, 2) := by decide +kernel
theorem dX5_unwinds_59 : decode cX5_unwinds 59 = .ok (.if_icmp .ne 7, 3) := by decide +kernel
theorem dX5_unwinds_62 : decode cX5_unwinds 62 = .ok (.iconst 1, 1) := by decide +kernel
theorem dX5_unwinds_63 : decode cX5_unwinds 63 = .ok (.goto 4, 3) := by decide +kernel
theorem dX5_unwinds_66 : decode cX5_unwinds 66 = .ok (.iconst 0, 1) := by decide +kernel
theorem dX5_unwinds_67 : decode cX5_unwinds 67 = .ok (.isub, 1) := by decide +kernel
theorem dX5_unwinds_68 : decode cX5_unwinds 68 = .ok (.putfield 156, 3) := by decide +kernel
theorem dX5_unwinds_71 : decode cX5_unwinds 71 = .ok (.aload_n 0, 1) := by decide +kernel
theorem dX5_unwinds_72 : decode cX5_unwinds 72 = .ok (.iload_n 2, 1) := by decide +kernel
theorem dX5_unwinds_73 : decode cX5_unwinds 73 = .ok (.invokevirtual 159, 3) := by decide +kernel
theorem dX5_unwinds_76 : decode cX5_unwinds 76 = .ok (.goto (-76), 3) := by decide +kernel
theorem dX5_unwinds_79 : decode cX5_unwinds 79 = .ok (.return_, 1) := by decide +kernel
def b_X5_unwinds_67 (kc0 : Int32 → GM → Option (Unit × GM)) (x1 : Int32) (x2 : Int32) (xs0 : Int32) (xs1 : Int32) (σ : GM) : Option (Unit × GM) :=
  bnd (some (tI σ 12 (xs1 - xs0))) fun σ4 => bnd (f_X5_puts x2 σ4) fun q5 => kc0 x1 q5.2
theorem vb_X5_unwinds_67 {g : Gt} {ad : Nat → Nat} (z : Zt) (kc0 : Int32 → GM → Option (Unit × GM)) (hkc0 : ∀ (x1 : Int32) (σ : GM), V g (LM ad) 2 RX5 cX5_unwinds 3 none (wM g ad) iU z (kc0 x1 σ) σ 0 [(0, .ref (aMo ad)), (1, .int x1)] []) (x1 : Int32) (x2 : Int32) (xs0 : Int32) (xs1 : Int32) (σ : GM) : V g (LM ad) 2 RX5 cX5_unwinds 3 none (wM g ad) iU z (b_X5_unwinds_67 kc0 x1 x2 xs0 xs1 σ) σ 67 [(0, .ref (aMo ad)), (1, .int x1), (2, .int x2)] [.int xs0, .int xs1, .ref (aMo ad)] := by
  unfold b_X5_unwinds_67
  refine v_isub (pc := 67) dX5_unwinds_67 ?_
  refine pX5_opens (pc := 68) q_785 dX5_unwinds_68 ?_
  refine v_nms (fun σ4 => ?_)
  refine v_aload_n (pc := 71) (i := 0) dX5_unwinds_71 rfl rfl ?_
  refine v_iload_n (pc := 72) (i := 2) dX5_unwinds_72 rfl rfl ?_
  refine v_callVv (pc := 73) rcX5 (As := [.int x2]) (rest := []) (ct_X5_puts x2) mi_X5_puts q_727 (by decide) rfl rfl (Nat.le_of_ble_eq_true rfl) dX5_unwinds_73 (fun q5 => ?_)
  refine v_goto (pc := 76) (tgt := 0) dX5_unwinds_76 rfl ?_
  exact v_sub [0, 1] rfl (hkc0 x1 q5.2)
def b_X5_unwinds_0 (kc0 : Int32 → GM → Option (Unit × GM)) (x1 : Int32) (σ : GM) : Option (Unit × GM) :=
  if (mI σ 11) ≤ 0 then (some ((), σ)) else (grd ((mI σ 11) - (1 : Int32)) 200 (bnd (f_X5_rank (mA σ 16 ((mI σ 11) - (1 : Int32)).toNatClampNeg) σ) fun q1 => if q1.1 < x1 then (some ((), q1.2)) else (bnd (some (tI q1.2 11 ((mI q1.2 11) - (1 : Int32)))) fun σ2 => grd (mI σ2 11) 200 (bnd (some (mA σ2 16 (mI σ2 11).toNatClampNeg)) fun w3 => if w3 = (13 : Int32) then (b_X5_unwinds_67 kc0 x1 w3 (1 : Int32) (mI σ2 12) σ2) else (if w3 ≠ (19 : Int32) then (b_X5_unwinds_67 kc0 x1 w3 (0 : Int32) (mI σ2 12) σ2) else (b_X5_unwinds_67 kc0 x1 w3 (1 : Int32) (mI σ2 12) σ2))))))
theorem vb_X5_unwinds_0 {g : Gt} {ad : Nat → Nat} (z : Zt) (kc0 : Int32 → GM → Option (Unit × GM)) (hkc0 : ∀ (x1 : Int32) (σ : GM), V g (LM ad) 2 RX5 cX5_unwinds 3 none (wM g ad) iU z (kc0 x1 σ) σ 0 [(0, .ref (aMo ad)), (1, .int x1)] []) (x1 : Int32) (σ : GM) : V g (LM ad) 2 RX5 cX5_unwinds 3 none (wM g ad) iU z (b_X5_unwinds_0 kc0 x1 σ) σ 0 [(0, .ref (aMo ad)), (1, .int x1)] [] := by
  unfold b_X5_unwinds_0
  refine v_aload_n (pc := 0) (i := 0) dX5_unwinds_0 rfl rfl ?_
  refine gX5_heldMany (pc := 1) q_784 dX5_unwinds_1 ?_
  refine v_if_le (pc := 4) (tgt := 79) dX5_unwinds_4 rfl ?_ ?_
  · exact v_ret (pc := 79) dX5_unwinds_79
  · refine v_aload_n (pc := 7) (i := 0) dX5_unwinds_7 rfl rfl ?_
    refine gX5_held (pc := 8) q_783 dX5_unwinds_8 ?_
    refine v_aload_n (pc := 11) (i := 0) dX5_unwinds_11 rfl rfl ?_
    refine gX5_heldMany (pc := 12) q_784 dX5_unwinds_12 ?_
    refine v_iconst (pc := 15) dX5_unwinds_15 ic_1 ?_
    refine v_isub (pc := 16) dX5_unwinds_16 ?_
    refine lM_held (pc := 17) dX5_unwinds_17 ?_
    refine v_callSi (pc := 18) (av := [.int (mA σ 16 ((mI σ 11) - (1 : Int32)).toNatClampNeg)]) (rest := []) (ct_X5_rank (mA σ 16 ((mI σ 11) - (1 : Int32)).toNatClampNeg)) mi_X5_rank q_735 (by decide) rfl rfl (Nat.le_of_ble_eq_true rfl) dX5_unwinds_18 (fun q1 => ?_)
    refine v_iload_n (pc := 21) (i := 1) dX5_unwinds_21 rfl rfl ?_
    refine v_icmp_lt (pc := 22) (tgt := 79) dX5_unwinds_22 rfl ?_ ?_
    · exact v_ret (pc := 79) dX5_unwinds_79
    · refine v_aload_n (pc := 25) (i := 0) dX5_unwinds_25 rfl rfl ?_
      refine v_dup (pc := 26) dX5_unwinds_26 rfl ?_
      refine gX5_heldMany (pc := 27) q_784 dX5_unwinds_27 ?_
      refine v_iconst (pc := 30) dX5_unwinds_30 ic_1 ?_
      refine v_isub (pc := 31) dX5_unwinds_31 ?_
      refine pX5_heldMany (pc := 32) q_784 dX5_unwinds_32 ?_
      refine v_nms (fun σ2 => ?_)
      refine v_aload_n (pc := 35) (i := 0) dX5_unwinds_35 rfl rfl ?_
      refine gX5_held (pc := 36) q_783 dX5_unwinds_36 ?_
      refine v_aload_n (pc := 39) (i := 0) dX5_unwinds_39 rfl rfl ?_
      refine gX5_heldMany (pc := 40) q_784 dX5_unwinds_40 ?_
      refine lM_held (pc := 43) dX5_unwinds_43 ?_
      refine v_nmi (fun w3 => ?_)
      refine v_istore_n (pc := 44) (lv' := [(2, .int w3), (0, .ref (aMo ad)), (1, .int x1)]) (i := 2) dX5_unwinds_44 rfl (by decide) rfl ?_
      refine v_aload_n (pc := 45) (i := 0) dX5_unwinds_45 rfl rfl ?_
      refine v_dup (pc := 46) dX5_unwinds_46 rfl ?_
      refine gX5_opens (pc := 47) q_785 dX5_unwinds_47 ?_
      refine v_iload_n (pc := 50) (i := 2) dX5_unwinds_50 rfl rfl ?_
      refine v_bipush (pc := 51) dX5_unwinds_51 bp_13 ?_
      refine v_icmp_eq (pc := 53) (tgt := 62) dX5_unwinds_53 rfl ?_ ?_
      · refine v_iconst (pc := 62) dX5_unwinds_62 ic_1 ?_
        refine v_goto (pc := 63) (tgt := 67) dX5_unwinds_63 rfl ?_
        exact v_sub [1, 2, 0] rfl (vb_X5_unwinds_67 z kc0 hkc0 x1 w3 (1 : Int32) (mI σ2 12) σ2)
      · refine v_iload_n (pc := 56) (i := 2) dX5_unwinds_56 rfl rfl ?_
        refine v_bipush (pc := 57) dX5_unwinds_57 bp_19 ?_
        refine v_icmp_ne (pc := 59) (tgt := 66) dX5_unwinds_59 rfl ?_ ?_
        · refine v_iconst (pc := 66) dX5_unwinds_66 ic_0 ?_
          exact v_sub [1, 2, 0] rfl (vb_X5_unwinds_67 z kc0 hkc0 x1 w3 (0 : Int32) (mI σ2 12) σ2)
        · refine v_iconst (pc := 62) dX5_unwinds_62 ic_1 ?_
          refine v_goto (pc := 63) (tgt := 67) dX5_unwinds_63 rfl ?_
          exact v_sub [1, 2, 0] rfl (vb_X5_unwinds_67 z kc0 hkc0 x1 w3 (1 : Int32) (mI σ2 12) σ2)
def k_X5_unwinds_0 : Nat → Int32 → GM → Option (Unit × GM)
  | 0 => fun _ _ => none
  | n + 1 => b_X5_unwinds_0 (k_X5_unwinds_0 n)
theorem vk_X5_unwinds_0 {g : Gt} {ad : Nat → Nat} (z : Zt) : ∀ (n : Nat) (x1 : Int32) (σ : GM), V g (LM ad) 2 RX5 cX5_unwinds 3 none (wM g ad) iU z (k_X5_unwinds_0 n x1 σ) σ 0 [(0, .ref (aMo ad)), (1, .int x1)] [] := by
  intro n
  induction n with
  | zero => intros; exact v_eq rfl v_none
  | succ n ih =>
    intro x1 σ
    exact v_eq rfl (vb_X5_unwinds_0 z _ ih x1 σ)
def f_X5_unwinds (x1 : Int32) (σ : GM) : Option (Unit × GM) :=
  k_X5_unwinds_0 FU x1 σ
theorem vf_X5_unwinds {g : Gt} {ad : Nat → Nat} (z : Zt) (x1 : Int32) (σ : GM) : V g (LM ad) 2 RX5 cX5_unwinds 3 none (wM g ad) iU z (f_X5_unwinds x1 σ) σ 0 [(0, .ref (aMo ad)), (1, .int x1)] [] := by
  unfold f_X5_unwinds
  exact v_sub [0, 1] rfl (vk_X5_unwinds_0 z FU x1 σ)
theorem ct_X5_unwinds {g : Gt} {ad : Nat → Nat} (x1 : Int32) : CT g (LM ad) yX5_unwinds cX5_unwinds 3 none 2 [.ref (aMo ad), .int x1] iU (wM g ad) (f_X5_unwinds x1) :=
  ct_of_V (own := RX5) (lv0 := [(0, .ref (aMo ad)), (1, .int x1)]) (by decide +kernel) rfl (Nat.le_of_ble_eq_true rfl) rfl (fun z σ => vf_X5_unwinds z x1 σ)
-- LighthouseLiedToModel.holds
theorem dX5_holds_0 : decode cX5_holds 0 = .ok (.aload_n 0, 1) := by decide +kernel
theorem dX5_holds_1 : decode cX5_holds 1 = .ok (.getfield 58, 3) := by decide +kernel
theorem dX5_holds_4 : decode cX5_holds 4 = .ok (.aload_n 0, 1) := by decide +kernel
theorem dX5_holds_5 : decode cX5_holds 5 = .ok (.getfield 150, 3) := by decide +kernel
theorem dX5_holds_8 : decode cX5_holds 8 = .ok (.iload_n 1, 1) := by decide +kernel
theorem dX5_holds_9 : decode cX5_holds 9 = .ok (.iastore, 1) := by decide +kernel
theorem dX5_holds_10 : decode cX5_holds 10 = .ok (.aload_n 0, 1) := by decide +kernel
theorem dX5_holds_11 : decode cX5_holds 11 = .ok (.dup, 1) := by decide +kernel
theorem dX5_holds_12 : decode cX5_holds 12 = .ok (.getfield 150, 3) := by decide +kernel
theorem dX5_holds_15 : decode cX5_holds 15 = .ok (.iconst 1, 1) := by decide +kernel
theorem dX5_holds_16 : decode cX5_holds 16 = .ok (.iadd, 1) := by decide +kernel
theorem dX5_holds_17 : decode cX5_holds 17 = .ok (.putfield 150, 3) := by decide +kernel
theorem dX5_holds_20 : decode cX5_holds 20 = .ok (.return_, 1) := by decide +kernel
def f_X5_holds (x1 : Int32) (σ : GM) : Option (Unit × GM) :=
  grd (mI σ 11) 200 (bnd (some (tA σ 16 (mI σ 11).toNatClampNeg x1)) fun σ1 => bnd (some (tI σ1 11 ((mI σ1 11) + (1 : Int32)))) fun σ2 => some ((), σ2))
theorem vf_X5_holds {g : Gt} {ad : Nat → Nat} (z : Zt) (x1 : Int32) (σ : GM) : V g (LM ad) 1 RX5 cX5_holds 2 none (wM g ad) iU z (f_X5_holds x1 σ) σ 0 [(0, .ref (aMo ad)), (1, .int x1)] [] := by
  unfold f_X5_holds
  refine v_aload_n (pc := 0) (i := 0) dX5_holds_0 rfl rfl ?_
  refine gX5_held (pc := 1) q_783 dX5_holds_1 ?_
  refine v_aload_n (pc := 4) (i := 0) dX5_holds_4 rfl rfl ?_
  refine gX5_heldMany (pc := 5) q_784 dX5_holds_5 ?_
  refine v_iload_n (pc := 8) (i := 1) dX5_holds_8 rfl rfl ?_
  refine sM_held (pc := 9) dX5_holds_9 ?_
  refine v_nms (fun σ1 => ?_)
  refine v_aload_n (pc := 10) (i := 0) dX5_holds_10 rfl rfl ?_
  refine v_dup (pc := 11) dX5_holds_11 rfl ?_
  refine gX5_heldMany (pc := 12) q_784 dX5_holds_12 ?_
  refine v_iconst (pc := 15) dX5_holds_15 ic_1 ?_
  refine v_iadd (pc := 16) dX5_holds_16 ?_
  refine pX5_heldMany (pc := 17) q_784 dX5_holds_17 ?_
  refine v_nms (fun σ2 => ?_)
  exact v_ret (pc := 20) dX5_holds_20
theorem ct_X5_holds {g : Gt} {ad : Nat → Nat} (x1 : Int32) : CT g (LM ad) yX5_holds cX5_holds 2 none 1 [.ref (aMo ad), .int x1] iU (wM g ad) (f_X5_holds x1) :=
  ct_of_V (own := RX5) (lv0 := [(0, .ref (aMo ad)), (1, .int x1)]) (by decide +kernel) rfl (Nat.le_of_ble_eq_true rfl) rfl (fun z σ => vf_X5_holds z x1 σ)
-- LighthouseLiedToModel.opensOne
theorem dX5_opensOne_0 : decode cX5_opensOne 0 = .ok (.aload_n 0, 1) := by decide +kernel
theorem dX5_opensOne_1 : decode cX5_opensOne 1 = .ok (.getfield 156, 3) := by decide +kernel
theorem dX5_opensOne_4 : decode cX5_opensOne 4 = .ok (.iconst 5, 1) := by decide +kernel
theorem dX5_opensOne_5 : decode cX5_opensOne 5 = .ok (.if_icmp .ne 5, 3) := by decide +kernel
theorem dX5_opensOne_8 : decode cX5_opensOne 8 = .ok (.iconst 0, 1) := by decide +kernel
theorem dX5_opensOne_9 : decode cX5_opensOne 9 = .ok (.ireturn, 1) := by decide +kernel
theorem dX5_opensOne_10 : decode cX5_opensOne 10 = .ok (.aload_n 0, 1) := by decide +kernel
theorem dX5_opensOne_11 : decode cX5_opensOne 11 = .ok (.dup, 1) := by decide +kernel
theorem dX5_opensOne_12 : decode cX5_opensOne 12 = .ok (.getfield 156, 3) := by decide +kernel
theorem dX5_opensOne_15 : decode cX5_opensOne 15 = .ok (.iconst 1, 1) := by decide +kernel
theorem dX5_opensOne_16 : decode cX5_opensOne 16 = .ok (.iadd, 1) := by decide +kernel
theorem dX5_opensOne_17 : decode cX5_opensOne 17 = .ok (.putfield 156, 3) := by decide +kernel
theorem dX5_opensOne_20 : decode cX5_opensOne 20 = .ok (.aload_n 0, 1) := by decide +kernel
theorem dX5_opensOne_21 : decode cX5_opensOne 21 = .ok (.iload_n 1, 1) := by decide +kernel
theorem dX5_opensOne_22 : decode cX5_opensOne 22 = .ok (.invokevirtual 163, 3) := by decide +kernel
theorem dX5_opensOne_25 : decode cX5_opensOne 25 = .ok (.iconst 1, 1) := by decide +kernel
theorem dX5_opensOne_26 : decode cX5_opensOne 26 = .ok (.ireturn, 1) := by decide +kernel
def f_X5_opensOne (x1 : Int32) (σ : GM) : Option (Int32 × GM) :=
  if (mI σ 12) ≠ (5 : Int32) then (bnd (some (tI σ 12 ((mI σ 12) + (1 : Int32)))) fun σ1 => bnd (f_X5_holds x1 σ1) fun q2 => some ((1 : Int32), q2.2)) else (some ((0 : Int32), σ))
theorem vf_X5_opensOne {g : Gt} {ad : Nat → Nat} (z : Zt) (x1 : Int32) (σ : GM) : V g (LM ad) 2 RX5 cX5_opensOne 2 (some .boolean) (wM g ad) iI z (f_X5_opensOne x1 σ) σ 0 [(0, .ref (aMo ad)), (1, .int x1)] [] := by
  unfold f_X5_opensOne
  refine v_aload_n (pc := 0) (i := 0) dX5_opensOne_0 rfl rfl ?_
  refine gX5_opens (pc := 1) q_785 dX5_opensOne_1 ?_
  refine v_iconst (pc := 4) dX5_opensOne_4 ic_5 ?_
  refine v_icmp_ne (pc := 5) (tgt := 10) dX5_opensOne_5 rfl ?_ ?_
  · refine v_aload_n (pc := 10) (i := 0) dX5_opensOne_10 rfl rfl ?_
    refine v_dup (pc := 11) dX5_opensOne_11 rfl ?_
    refine gX5_opens (pc := 12) q_785 dX5_opensOne_12 ?_
    refine v_iconst (pc := 15) dX5_opensOne_15 ic_1 ?_
    refine v_iadd (pc := 16) dX5_opensOne_16 ?_
    refine pX5_opens (pc := 17) q_785 dX5_opensOne_17 ?_
    refine v_nms (fun σ1 => ?_)
    refine v_aload_n (pc := 20) (i := 0) dX5_opensOne_20 rfl rfl ?_
    refine v_iload_n (pc := 21) (i := 1) dX5_opensOne_21 rfl rfl ?_
    refine v_callVv (pc := 22) rcX5 (As := [.int x1]) (rest := []) (ct_X5_holds x1) mi_X5_holds q_742 (by decide) rfl rfl (Nat.le_of_ble_eq_true rfl) dX5_opensOne_22 (fun q2 => ?_)
    refine v_iconst (pc := 25) dX5_opensOne_25 ic_1 ?_
    exact v_nret (pc := 26) rfl dX5_opensOne_26
  · refine v_iconst (pc := 8) dX5_opensOne_8 ic_0 ?_
    exact v_nret (pc := 9) rfl dX5_opensOne_9
theorem ct_X5_opensOne {g : Gt} {ad : Nat → Nat} (x1 : Int32) : CT g (LM ad) yX5_opensOne cX5_opensOne 2 (some .boolean) 2 [.ref (aMo ad), .int x1] iI (wM g ad) (f_X5_opensOne x1) :=
  ct_of_V (own := RX5) (lv0 := [(0, .ref (aMo ad)), (1, .int x1)]) (by decide +kernel) rfl (Nat.le_of_ble_eq_true rfl) rfl (fun z σ => vf_X5_opensOne z x1 σ)
-- LighthouseLiedToModel.signOf
theorem dX5_signOf_0 : decode cX5_signOf 0 = .ok (.aload_n 0, 1) := by decide +kernel
theorem dX5_signOf_1 : decode cX5_signOf 1 = .ok (.getfield 137, 3) := by decide +kernel
theorem dX5_signOf_4 : decode cX5_signOf 4 = .ok (.iconst 4, 1) := by decide +kernel
theorem dX5_signOf_5 : decode cX5_signOf 5 = .ok (.if_icmp .ne 8, 3) := by decide +kernel
theorem dX5_signOf_8 : decode cX5_signOf 8 = .ok (.bipush 11, 2) := by decide +kernel
theorem dX5_signOf_10 : decode cX5_signOf 10 = .ok (.goto 87, 3) := by decide +kernel
theorem dX5_signOf_13 : decode cX5_signOf 13 = .ok (.aload_n 0, 1) := by decide +kernel
theorem dX5_signOf_14 : decode cX5_signOf 14 = .ok (.getfield 137, 3) := by decide +kernel
theorem dX5_signOf_17 : decode cX5_signOf 17 = .ok (.iconst 5, 1) := by decide +kernel
theorem dX5_signOf_18 : decode cX5_signOf 18 = .ok (.if_icmp .ne 8, 3) := by decide +kernel
theorem dX5_signOf_21 : decode cX5_signOf 21 = .ok (.bipush 12, 2) := by decide +kernel
theorem dX5_signOf_23 : decode cX5_signOf 23 = .ok (.goto 74, 3) := by decide +kernel
theorem dX5_signOf_26 : decode cX5_signOf 26 = .ok (.aload_n 0, 1) := by decide +kernel
theorem dX5_signOf_27 : decode cX5_signOf 27 = .ok (.getfield 137, 3) := by decide +kernel
theorem dX5_signOf_30 : decode cX5_signOf 30 = .ok (.bipush 60, 2) := by decide +kernel
theorem dX5_signOf_32 : decode cX5_signOf 32 = .ok (.if_icmp .ne 8, 3) := by decide +kernel
theorem dX5_signOf_35 : decode cX5_signOf 35 = .ok (.bipush 14, 2) := by decide +kernel
theorem dX5_signOf_37 : decode cX5_signOf 37 = .ok (.goto 60, 3) := by decide +kernel
theorem dX5_signOf_40 : decode cX5_signOf 40 = .ok (.aload_n 0, 1) := by decide +kernel
theorem dX5_signOf_41 : decode cX5_signOf 41 = .ok (.getfield 137, 3) := by decide +kernel
theorem dX5_signOf_44 : decode cX5_signOf 44 = .ok (.bipush 61, 2) := by decide +kernel
theorem dX5_signOf_46 : decode cX5_signOf 46 = .ok (.if_icmp .ne 8, 3) := by decide +kernel
theorem dX5_signOf_49 : decode cX5_signOf 49 = .ok (.bipush 15, 2) := by decide +kernel
theorem dX5_signOf_51 : decode cX5_signOf 51 = .ok (.goto 46, 3) := by decide +kernel
theorem dX5_signOf_54 : decode cX5_signOf 54 = .ok (.aload_n 0, 1) := by decide +kernel
theorem dX5_signOf_55 : decode cX5_signOf 55 = .ok (.getfield 137, 3) := by decide +kernel
theorem dX5_signOf_58 : decode cX5_signOf 58 = .ok (.bipush 43, 2) := by decide +kernel
theorem dX5_signOf_60 : decode cX5_signOf 60 = .ok (.if_icmp .ne 8, 3) := by decide +kernel
theorem dX5_signOf_63 : decode cX5_signOf 63 = .ok (.bipush 16, 2) := by decide +kernel
theorem dX5_signOf_65 : decode cX5_signOf 65 = .ok (.goto 32, 3) := by decide +kernel
theorem dX5_signOf_68 : decode cX5_signOf 68 = .ok (.aload_n 0, 1) := by decide +kernel
theorem dX5_signOf_69 : decode cX5_signOf 69 = .ok (.getfield 137, 3) := by decide +kernel
theorem dX5_signOf_72 : decode cX5_signOf 72 = .ok (.bipush 45, 2) := by decide +kernel
theorem dX5_signOf_74 : decode cX5_signOf 74 = .ok (.if_icmp .ne 8, 3) := by decide +kernel
theorem dX5_signOf_77 : decode cX5_signOf 77 = .ok (.bipush 17, 2) := by decide +kernel
theorem dX5_signOf_79 : decode cX5_signOf 79 = .ok (.goto 18, 3) := by decide +kernel
theorem dX5_signOf_82 : decode cX5_signOf 82 = .ok (.aload_n 0, 1) := by decide +kernel
theorem dX5_signOf_83 : decode cX5_signOf 83 = .ok (.getfield 137, 3) := by decide +kernel
theorem dX5_signOf_86 : decode cX5_signOf 86 = .ok (.bipush 42, 2) := by decide +kernel
theorem dX5_signOf_88 : decode cX5_signOf 88 = .ok (.if_icmp .ne 8, 3) := by decide +kernel
theorem dX5_signOf_91 : decode cX5_signOf 91 = .ok (.bipush 18, 2) := by decide +kernel
theorem dX5_signOf_93 : decode cX5_signOf 93 = .ok (.goto 4, 3) := by decide +kernel
theorem dX5_signOf_96 : decode cX5_signOf 96 = .ok (.iconst (-1), 1) := by decide +kernel
theorem dX5_signOf_97 : decode cX5_signOf 97 = .ok (.ireturn, 1) := by decide +kernel
def f_X5_signOf (σ : GM) : Option (Int32 × GM) :=
  if (mI σ 9) ≠ (4 : Int32) then (if (mI σ 9) ≠ (5 : Int32) then (if (mI σ 9) ≠ (60 : Int32) then (if (mI σ 9) ≠ (61 : Int32) then (if (mI σ 9) ≠ (43 : Int32) then (if (mI σ 9) ≠ (45 : Int32) then (if (mI σ 9) ≠ (42 : Int32) then (some ((-1 : Int32), σ)) else (some ((18 : Int32), σ))) else (some ((17 : Int32), σ))) else (some ((16 : Int32), σ))) else (some ((15 : Int32), σ))) else (some ((14 : Int32), σ))) else (some ((12 : Int32), σ))) else (some ((11 : Int32), σ))
theorem vf_X5_signOf {g : Gt} {ad : Nat → Nat} (z : Zt) (σ : GM) : V g (LM ad) 1 RX5 cX5_signOf 1 (some .int) (wM g ad) iI z (f_X5_signOf σ) σ 0 [(0, .ref (aMo ad))] [] := by
  unfold f_X5_signOf
  refine v_aload_n (pc := 0) (i := 0) dX5_signOf_0 rfl rfl ?_
  refine gX5_token (pc := 1) q_780 dX5_signOf_1 ?_
  refine v_iconst (pc := 4) dX5_signOf_4 ic_4 ?_
  refine v_icmp_ne (pc := 5) (tgt := 13) dX5_signOf_5 rfl ?_ ?_
  · refine v_aload_n (pc := 13) (i := 0) dX5_signOf_13 rfl rfl ?_
    refine gX5_token (pc := 14) q_780 dX5_signOf_14 ?_
    refine v_iconst (pc := 17) dX5_signOf_17 ic_5 ?_
    refine v_icmp_ne (pc := 18) (tgt := 26) dX5_signOf_18 rfl ?_ ?_
    · refine v_aload_n (pc := 26) (i := 0) dX5_signOf_26 rfl rfl ?_
      refine gX5_token (pc := 27) q_780 dX5_signOf_27 ?_
      refine v_bipush (pc := 30) dX5_signOf_30 bp_60 ?_
      refine v_icmp_ne (pc := 32) (tgt := 40) dX5_signOf_32 rfl ?_ ?_
      · refine v_aload_n (pc := 40) (i := 0) dX5_signOf_40 rfl rfl ?_
        refine gX5_token (pc := 41) q_780 dX5_signOf_41 ?_
        refine v_bipush (pc := 44) dX5_signOf_44 bp_61 ?_
        refine v_icmp_ne (pc := 46) (tgt := 54) dX5_signOf_46 rfl ?_ ?_
        · refine v_aload_n (pc := 54) (i := 0) dX5_signOf_54 rfl rfl ?_
          refine gX5_token (pc := 55) q_780 dX5_signOf_55 ?_
          refine v_bipush (pc := 58) dX5_signOf_58 bp_43 ?_
          refine v_icmp_ne (pc := 60) (tgt := 68) dX5_signOf_60 rfl ?_ ?_
          · refine v_aload_n (pc := 68) (i := 0) dX5_signOf_68 rfl rfl ?_
            refine gX5_token (pc := 69) q_780 dX5_signOf_69 ?_
            refine v_bipush (pc := 72) dX5_signOf_72 bp_45 ?_
            refine v_icmp_ne (pc := 74) (tgt := 82) dX5_signOf_74 rfl ?_ ?_
            · refine v_aload_n (pc := 82) (i := 0) dX5_signOf_82 rfl rfl ?_
              refine gX5_token (pc := 83) q_780 dX5_signOf_83 ?_
              refine v_bipush (pc := 86) dX5_signOf_86 bp_42 ?_
              refine v_icmp_ne (pc := 88) (tgt := 96) dX5_signOf_88 rfl ?_ ?_
              · refine v_iconst (pc := 96) dX5_signOf_96 ic_m1 ?_
                exact v_iret (pc := 97) dX5_signOf_97
              · refine v_bipush (pc := 91) dX5_signOf_91 bp_18 ?_
                refine v_goto (pc := 93) (tgt := 97) dX5_signOf_93 rfl ?_
                exact v_iret (pc := 97) dX5_signOf_97
            · refine v_bipush (pc := 77) dX5_signOf_77 bp_17 ?_
              refine v_goto (pc := 79) (tgt := 97) dX5_signOf_79 rfl ?_
              exact v_iret (pc := 97) dX5_signOf_97
          · refine v_bipush (pc := 63) dX5_signOf_63 bp_16 ?_
            refine v_goto (pc := 65) (tgt := 97) dX5_signOf_65 rfl ?_
            exact v_iret (pc := 97) dX5_signOf_97
        · refine v_bipush (pc := 49) dX5_signOf_49 bp_15 ?_
          refine v_goto (pc := 51) (tgt := 97) dX5_signOf_51 rfl ?_
          exact v_iret (pc := 97) dX5_signOf_97
      · refine v_bipush (pc := 35) dX5_signOf_35 bp_14 ?_
        refine v_goto (pc := 37) (tgt := 97) dX5_signOf_37 rfl ?_
        exact v_iret (pc := 97) dX5_signOf_97
    · refine v_bipush (pc := 21) dX5_signOf_21 bp_12 ?_
      refine v_goto (pc := 23) (tgt := 97) dX5_signOf_23 rfl ?_
      exact v_iret (pc := 97) dX5_signOf_97
  · refine v_bipush (pc := 8) dX5_signOf_8 bp_11 ?_
    refine v_goto (pc := 10) (tgt := 97) dX5_signOf_10 rfl ?_
    exact v_iret (pc := 97) dX5_signOf_97
theorem ct_X5_signOf {g : Gt} {ad : Nat → Nat} : CT g (LM ad) yX5_signOf cX5_signOf 1 (some .int) 1 [.ref (aMo ad)] iI (wM g ad) (f_X5_signOf) :=
  ct_of_V (own := RX5) (lv0 := [(0, .ref (aMo ad))]) (by decide +kernel) rfl (Nat.le_of_ble_eq_true rfl) rfl (fun z σ => vf_X5_signOf z σ)
-- LighthouseLiedToModel.between
theorem dX5_between_0 : decode cX5_between 0 = .ok (.aload_n 0, 1) := by decide +kernel
theorem dX5_between_1 : decode cX5_between 1 = .ok (.iload_n 1, 1) := by decide +kernel
theorem dX5_between_2 : decode cX5_between 2 = .ok (.invokestatic 153, 3) := by decide +kernel
theorem dX5_between_5 : decode cX5_between 5 = .ok (.iconst 4, 1) := by decide +kernel
theorem dX5_between_6 : decode cX5_between 6 = .ok (.if_icmp .ne 7, 3) := by decide +kernel
theorem dX5_between_9 : decode cX5_between 9 = .ok (.iconst 5, 1) := by decide +kernel
theorem dX5_between_10 : decode cX5_between 10 = .ok (.goto 7, 3) := by decide +kernel
theorem dX5_between_13 : decode cX5_between 13 = .ok (.iload_n 1, 1) := by decide +kernel
theorem dX5_between_14 : decode cX5_between 14 = .ok (.invokestatic 153, 3) := by decide +kernel
theorem dX5_between_17 : decode cX5_between 17 = .ok (.invokevirtual 166, 3) := by decide +kernel
theorem dX5_between_20 : decode cX5_between 20 = .ok (.iload_n 1, 1) := by decide +kernel
theorem dX5_between_21 : decode cX5_between 21 = .ok (.invokestatic 153, 3) := by decide +kernel
theorem dX5_between_24 : decode cX5_between 24 = .ok (.iconst 4, 1) := by decide +kernel
theorem dX5_between_25 : decode cX5_between 25 = .ok (.if_icmp .ne 30, 3) := by decide +kernel
theorem dX5_between_28 : decode cX5_between 28 = .ok (.aload_n 0, 1) := by decide +kernel
theorem dX5_between_29 : decode cX5_between 29 = .ok (.getfield 150, 3) := by decide +kernel
theorem dX5_between_32 : decode cX5_between 32 = .ok (.ifCond .le 23, 3) := by decide +kernel
theorem dX5_between_35 : decode cX5_between 35 = .ok (.aload_n 0, 1) := by decide +kernel
theorem dX5_between_36 : decode cX5_between 36 = .ok (.getfield 58, 3) := by decide +kernel
theorem dX5_between_39 : decode cX5_between 39 = .ok (.aload_n 0, 1) := by decide +kernel
theorem dX5_between_40 : decode cX5_between 40 = .ok (.getfield 150, 3) := by decide +kernel
theorem dX5_between_43 : decode cX5_between 43 = .ok (.iconst 1, 1) := by decide +kernel
theorem dX5_between_44 : decode cX5_between 44 = .ok (.isub, 1) := by decide +kernel
theorem dX5_between_45 : decode cX5_between 45 = .ok (.iaload, 1) := by decide +kernel
theorem dX5_between_46 : decode cX5_between 46 = .ok (.invokestatic 153, 3) := by decide +kernel
theorem dX5_between_49 : decode cX5_between 49 = .ok (.iconst 4, 1) := by decide +kernel
theorem dX5_between_50 : decode cX5_between 50 = .ok (.if_icmp .ne 5, 3) := by decide +kernel
theorem dX5_between_53 : decode cX5_between 53 = .ok (.iconst 0, 1) := by decide +kernel
theorem dX5_between_54 : decode cX5_between 54 = .ok (.ireturn, 1) := by decide +kernel
theorem dX5_between_55 : decode cX5_between 55 = .ok (.aload_n 0, 1) := by decide +kernel
theorem dX5_between_56 : decode cX5_between 56 = .ok (.iload_n 1, 1) := by decide +kernel
theorem dX5_between_57 : decode cX5_between 57 = .ok (.invokevirtual 163, 3) := by decide +kernel
theorem dX5_between_60 : decode cX5_between 60 = .ok (.iconst 1, 1) := by decide +kernel
theorem dX5_between_61 : decode cX5_between 61 = .ok (.ireturn, 1) := by decide +kernel
def b_X5_between_55 (x1 : Int32) (σ : GM) : Option (Int32 × GM) :=
  bnd (f_X5_holds x1 σ) fun q5 => some ((1 : Int32), q5.2)
theorem vb_X5_between_55 {g : Gt} {ad : Nat → Nat} (z : Zt) (x1 : Int32) (σ : GM) : V g (LM ad) 3 RX5 cX5_between 2 (some .boolean) (wM g ad) iI z (b_X5_between_55 x1 σ) σ 55 [(0, .ref (aMo ad)), (1, .int x1)] [] := by
  unfold b_X5_between_55
  refine v_aload_n (pc := 55) (i := 0) dX5_between_55 rfl rfl ?_
  refine v_iload_n (pc := 56) (i := 1) dX5_between_56 rfl rfl ?_
  refine v_callVv (pc := 57) rcX5 (As := [.int x1]) (rest := []) (ct_X5_holds x1) mi_X5_holds q_742 (by decide) rfl rfl (Nat.le_of_ble_eq_true rfl) dX5_between_57 (fun q5 => ?_)
  refine v_iconst (pc := 60) dX5_between_60 ic_1 ?_
  exact v_nret (pc := 61) rfl dX5_between_61
def b_X5_between_17 (x1 : Int32) (xs0 : Int32) (σ : GM) : Option (Int32 × GM) :=
  bnd (f_X5_unwinds xs0 σ) fun q3 => bnd (f_X5_rank x1 q3.2) fun q4 => if q4.1 ≠ (4 : Int32) then (b_X5_between_55 x1 q4.2) else (if (mI q4.2 11) ≤ 0 then (b_X5_between_55 x1 q4.2) else (grd ((mI q4.2 11) - (1 : Int32)) 200 (bnd (f_X5_rank (mA q4.2 16 ((mI q4.2 11) - (1 : Int32)).toNatClampNeg) q4.2) fun q6 => if q6.1 ≠ (4 : Int32) then (b_X5_between_55 x1 q6.2) else (some ((0 : Int32), q6.2)))))
theorem vb_X5_between_17 {g : Gt} {ad : Nat → Nat} (z : Zt) (x1 : Int32) (xs0 : Int32) (σ : GM) : V g (LM ad) 3 RX5 cX5_between 2 (some .boolean) (wM g ad) iI z (b_X5_between_17 x1 xs0 σ) σ 17 [(0, .ref (aMo ad)), (1, .int x1)] [.int xs0, .ref (aMo ad)] := by
  unfold b_X5_between_17
  refine v_callVv (pc := 17) rcX5 (As := [.int xs0]) (rest := []) (ct_X5_unwinds xs0) mi_X5_unwinds q_731 (by decide) rfl rfl (Nat.le_of_ble_eq_true rfl) dX5_between_17 (fun q3 => ?_)
  refine v_iload_n (pc := 20) (i := 1) dX5_between_20 rfl rfl ?_
  refine v_callSi (pc := 21) (av := [.int x1]) (rest := []) (ct_X5_rank x1) mi_X5_rank q_735 (by decide) rfl rfl (Nat.le_of_ble_eq_true rfl) dX5_between_21 (fun q4 => ?_)
  refine v_iconst (pc := 24) dX5_between_24 ic_4 ?_
  refine v_icmp_ne (pc := 25) (tgt := 55) dX5_between_25 rfl ?_ ?_
  · exact v_sub [0, 1] rfl (vb_X5_between_55 z x1 q4.2)
  · refine v_aload_n (pc := 28) (i := 0) dX5_between_28 rfl rfl ?_
    refine gX5_heldMany (pc := 29) q_784 dX5_between_29 ?_
    refine v_if_le (pc := 32) (tgt := 55) dX5_between_32 rfl ?_ ?_
    · exact v_sub [0, 1] rfl (vb_X5_between_55 z x1 q4.2)
    · refine v_aload_n (pc := 35) (i := 0) dX5_between_35 rfl rfl ?_
      refine gX5_held (pc := 36) q_783 dX5_between_36 ?_
      refine v_aload_n (pc := 39) (i := 0) dX5_between_39 rfl rfl ?_
      refine gX5_heldMany (pc := 40) q_784 dX5_between_40 ?_
      refine v_iconst (pc := 43) dX5_between_43 ic_1 ?_
      refine v_isub (pc := 44) dX5_between_44 ?_
      refine lM_held (pc := 45) dX5_between_45 ?_
      refine v_callSi (pc := 46) (av := [.int (mA q4.2 16 ((mI q4.2 11) - (1 : Int32)).toNatClampNeg)]) (rest := []) (ct_X5_rank (mA q4.2 16 ((mI q4.2 11) - (1 : Int32)).toNatClampNeg)) mi_X5_rank q_735 (by decide) rfl rfl (Nat.le_of_ble_eq_true rfl) dX5_between_46 (fun q6 => ?_)
      refine v_iconst (pc := 49) dX5_between_49 ic_4 ?_
      refine v_icmp_ne (pc := 50) (tgt := 55) dX5_between_50 rfl ?_ ?_
      · exact v_sub [0, 1] rfl (vb_X5_between_55 z x1 q6.2)
      · refine v_iconst (pc := 53) dX5_between_53 ic_0 ?_
        exact v_nret (pc := 54) rfl dX5_between_54
def f_X5_between (x1 : Int32) (σ : GM) : Option (Int32 × GM) :=
  bnd (f_X5_rank x1 σ) fun q1 => if q1.1 ≠ (4 : Int32) then (bnd (f_X5_rank x1 q1.2) fun q2 => b_X5_between_17 x1 q2.1 q2.2) else (b_X5_between_17 x1 (5 : Int32) q1.2)
theorem vf_X5_between {g : Gt} {ad : Nat → Nat} (z : Zt) (x1 : Int32) (σ : GM) : V g (LM ad) 3 RX5 cX5_between 2 (some .boolean) (wM g ad) iI z (f_X5_between x1 σ) σ 0 [(0, .ref (aMo ad)), (1, .int x1)] [] := by
  unfold f_X5_between
  refine v_aload_n (pc := 0) (i := 0) dX5_between_0 rfl rfl ?_
  refine v_iload_n (pc := 1) (i := 1) dX5_between_1 rfl rfl ?_
  refine v_callSi (pc := 2) (av := [.int x1]) (rest := [.ref (aMo ad)]) (ct_X5_rank x1) mi_X5_rank q_735 (by decide) rfl rfl (Nat.le_of_ble_eq_true rfl) dX5_between_2 (fun q1 => ?_)
  refine v_iconst (pc := 5) dX5_between_5 ic_4 ?_
  refine v_icmp_ne (pc := 6) (tgt := 13) dX5_between_6 rfl ?_ ?_
  · refine v_iload_n (pc := 13) (i := 1) dX5_between_13 rfl rfl ?_
    refine v_callSi (pc := 14) (av := [.int x1]) (rest := [.ref (aMo ad)]) (ct_X5_rank x1) mi_X5_rank q_735 (by decide) rfl rfl (Nat.le_of_ble_eq_true rfl) dX5_between_14 (fun q2 => ?_)
    exact v_sub [0, 1] rfl (vb_X5_between_17 z x1 q2.1 q2.2)
  · refine v_iconst (pc := 9) dX5_between_9 ic_5 ?_
    refine v_goto (pc := 10) (tgt := 17) dX5_between_10 rfl ?_
    exact v_sub [0, 1] rfl (vb_X5_between_17 z x1 (5 : Int32) q1.2)
theorem ct_X5_between {g : Gt} {ad : Nat → Nat} (x1 : Int32) : CT g (LM ad) yX5_between cX5_between 2 (some .boolean) 3 [.ref (aMo ad), .int x1] iI (wM g ad) (f_X5_between x1) :=
  ct_of_V (own := RX5) (lv0 := [(0, .ref (aMo ad)), (1, .int x1)]) (by decide +kernel) rfl (Nat.le_of_ble_eq_true rfl) rfl (fun z σ => vf_X5_between z x1 σ)
-- LighthouseLiedToModel.eRead
theorem dX5_eRead_0 : decode cX5_eRead 0 = .ok (.aload_n 0, 1) := by decide +kernel
theorem dX5_eRead_1 : decode cX5_eRead 1 = .ok (.iconst 0, 1) := by decide +kernel
theorem dX5_eRead_2 : decode cX5_eRead 2 = .ok (.putfield 150, 3) := by decide +kernel
theorem dX5_eRead_5 : decode cX5_eRead 5 = .ok (.aload_n 0, 1) := by decide +kernel
theorem dX5_eRead_6 : decode cX5_eRead 6 = .ok (.iconst 0, 1) := by decide +kernel
theorem dX5_eRead_7 : decode cX5_eRead 7 = .ok (.putfield 156, 3) := by decide +kernel
theorem dX5_eRead_10 : decode cX5_eRead 10 = .ok (.iconst 1, 1) := by decide +kernel
theorem dX5_eRead_11 : decode cX5_eRead 11 = .ok (.istore_n 1, 1) := by decide +kernel
theorem dX5_eRead_12 : decode cX5_eRead 12 = .ok (.iconst 1, 1) := by decide +kernel
theorem dX5_eRead_13 : decode cX5_eRead 13 = .ok (.istore_n 2, 1) := by decide +kernel
theorem dX5_eRead_14 : decode cX5_eRead 14 = .ok (.aload_n 0, 1) := by decide +kernel
theorem dX5_eRead_15 : decode cX5_eRead 15 = .ok (.invokevirtual 169, 3) := by decide +kernel
theorem dX5_eRead_18 : decode cX5_eRead 18 = .ok (.iload_n 1, 1) := by decide +kernel
theorem dX5_eRead_19 : decode cX5_eRead 19 = .ok (.ifCond .eq 131, 3) := by decide +kernel
theorem dX5_eRead_22 : decode cX5_eRead 22 = .ok (.aload_n 0, 1) := by decide +kernel
theorem dX5_eRead_23 : decode cX5_eRead 23 = .ok (.getfield 137, 3) := by decide +kernel
theorem dX5_eRead_26 : decode cX5_eRead 26 = .ok (.iconst 1, 1) := by decide +kernel
theorem dX5_eRead_27 : decode cX5_eRead 27 = .ok (.if_icmp .eq 11, 3) := by decide +kernel
theorem dX5_eRead_30 : decode cX5_eRead 30 = .ok (.aload_n 0, 1) := by decide +kernel
theorem dX5_eRead_31 : decode cX5_eRead 31 = .ok (.getfield 137, 3) := by decide +kernel
theorem dX5_eRead_34 : decode cX5_eRead 34 = .ok (.iconst 2, 1) := by decide +kernel
theorem dX5_eRead_35 : decode cX5_eRead 35 = .ok (.if_icmp .ne 40, 3) := by decide +kernel
theorem dX5_eRead_38 : decode cX5_eRead 38 = .ok (.aload_n 0, 1) := by decide +kernel
theorem dX5_eRead_39 : decode cX5_eRead 39 = .ok (.aload_n 0, 1) := by decide +kernel
theorem dX5_eRead_40 : decode cX5_eRead 40 = .ok (.getfield 137, 3) := by decide +kernel
theorem dX5_eRead_43 : decode cX5_eRead 43 = .ok (.iconst 1, 1) := by decide +kernel
theorem dX5_eRead_44 : decode cX5_eRead 44 = .ok (.if_icmp .ne 13, 3) := by decide +kernel
theorem dX5_eRead_47 : decode cX5_eRead 47 = .ok (.ldc 172, 2) := by decide +kernel
theorem dX5_eRead_49 : decode cX5_eRead 49 = .ok (.aload_n 0, 1) := by decide +kernel
theorem dX5_eRead_50 : decode cX5_eRead 50 = .ok (.getfield 140, 3) := by decide +kernel
theorem dX5_eRead_53 : decode cX5_eRead 53 = .ok (.iadd, 1) := by decide +kernel
theorem dX5_eRead_54 : decode cX5_eRead 54 = .ok (.goto 7, 3) := by decide +kernel
theorem dX5_eRead_57 : decode cX5_eRead 57 = .ok (.aload_n 0, 1) := by decide +kernel
theorem dX5_eRead_58 : decode cX5_eRead 58 = .ok (.getfield 140, 3) := by decide +kernel
theorem dX5_eRead_61 : decode cX5_eRead 61 = .ok (.invokevirtual 159, 3) := by decide +kernel
theorem dX5_eRead_64 : decode cX5_eRead 64 = .ok (.aload_n 0, 1) := by decide +kernel
theorem dX5_eRead_65 : decode cX5_eRead 65 = .ok (.bipush 7, 2) := by decide +kernel
theorem dX5_eRead_67 : decode cX5_eRead 67 = .ok (.invokevirtual 166, 3) := by decide +kernel
theorem dX5_eRead_70 : decode cX5_eRead 70 = .ok (.iconst 0, 1) := by decide +kernel
theorem dX5_eRead_71 : decode cX5_eRead 71 = .ok (.istore_n 1, 1) := by decide +kernel
theorem dX5_eRead_72 : decode cX5_eRead 72 = .ok (.goto (-58), 3) := by decide +kernel
theorem dX5_eRead_75 : decode cX5_eRead 75 = .ok (.aload_n 0, 1) := by decide +kernel
theorem dX5_eRead_76 : decode cX5_eRead 76 = .ok (.getfield 137, 3) := by decide +kernel
theorem dX5_eRead_79 : decode cX5_eRead 79 = .ok (.bipush 6, 2) := by decide +kernel
theorem dX5_eRead_81 : decode cX5_eRead 81 = .ok (.if_icmp .ne 18, 3) := by decide +kernel
theorem dX5_eRead_84 : decode cX5_eRead 84 = .ok (.iload_n 2, 1) := by decide +kernel
theorem dX5_eRead_85 : decode cX5_eRead 85 = .ok (.ifCond .eq 14, 3) := by decide +kernel
theorem dX5_eRead_88 : decode cX5_eRead 88 = .ok (.aload_n 0, 1) := by decide +kernel
theorem dX5_eRead_89 : decode cX5_eRead 89 = .ok (.bipush 13, 2) := by decide +kernel
theorem dX5_eRead_91 : decode cX5_eRead 91 = .ok (.invokevirtual 173, 3) := by decide +kernel
theorem dX5_eRead_94 : decode cX5_eRead 94 = .ok (.ifCond .ne (-80), 3) := by decide +kernel
theorem dX5_eRead_97 : decode cX5_eRead 97 = .ok (.iconst 0, 1) := by decide +kernel
theorem dX5_eRead_98 : decode cX5_eRead 98 = .ok (.ireturn, 1) := by decide +kernel
theorem dX5_eRead_99 : decode cX5_eRead 99 = .ok (.aload_n 0, 1) := by decide +kernel
theorem dX5_eRead_100 : decode cX5_eRead 100 = .ok (.getfield 137, 3) := by decide +kernel
theorem dX5_eRead_103 : decode cX5_eRead 103 = .ok (.bipush 45, 2) := by decide +kernel
theorem dX5_eRead_105 : decode cX5_eRead 105 = .ok (.if_icmp .ne 19, 3) := by decide +kernel
theorem dX5_eRead_108 : decode cX5_eRead 108 = .ok (.aload_n 0, 1) := by decide +kernel
theorem dX5_eRead_109 : decode cX5_eRead 109 = .ok (.bipush 19, 2) := by decide +kernel
theorem dX5_eRead_111 : decode cX5_eRead 111 = .ok (.invokevirtual 173, 3) := by decide +kernel
theorem dX5_eRead_114 : decode cX5_eRead 114 = .ok (.ifCond .ne 5, 3) := by decide +kernel
theorem dX5_eRead_117 : decode cX5_eRead 117 = .ok (.iconst 0, 1) := by decide +kernel
theorem dX5_eRead_118 : decode cX5_eRead 118 = .ok (.ireturn, 1) := by decide +kernel
theorem dX5_eRead_119 : decode cX5_eRead 119 = .ok (.iconst 0, 1) := by decide +kernel
theorem dX5_eRead_120 : decode cX5_eRead 120 = .ok (.istore_n 2, 1) := by decide +kernel
theorem dX5_eRead_121 : decode cX5_eRead 121 = .ok (.goto (-107), 3) := by decide +kernel
theorem dX5_eRead_124 : decode cX5_eRead 124 = .ok (.aload_n 0, 1) := by decide +kernel
theorem dX5_eRead_125 : decode cX5_eRead 125 = .ok (.getfield 137, 3) := by decide +kernel
theorem dX5_eRead_128 : decode cX5_eRead 128 = .ok (.bipush 40, 2) := by decide +kernel
theorem dX5_eRead_130 : decode cX5_eRead 130 = .ok (.if_icmp .ne 18, 3) := by decide +kernel
theorem dX5_eRead_133 : decode cX5_eRead 133 = .ok (.aload_n 0, 1) := by decide +kernel
theorem dX5_eRead_134 : decode cX5_eRead 134 = .ok (.iconst 0, 1) := by decide +kernel
theorem dX5_eRead_135 : decode cX5_eRead 135 = .ok (.invokevirtual 173, 3) := by decide +kernel
theorem dX5_eRead_138 : decode cX5_eRead 138 = .ok (.ifCond .ne 5, 3) := by decide +kernel
theorem dX5_eRead_141 : decode cX5_eRead 141 = .ok (.iconst 0, 1) := by decide +kernel
theorem dX5_eRead_142 : decode cX5_eRead 142 = .ok (.ireturn, 1) := by decide +kernel
theorem dX5_eRead_143 : decode cX5_eRead 143 = .ok (.iconst 1, 1) := by decide +kernel
theorem dX5_eRead_144 : decode cX5_eRead 144 = .ok (.istore_n 2, 1) := by decide +kernel
theorem dX5_eRead_145 : decode cX5_eRead 145 = .ok (.goto (-131), 3) := by decide +kernel
theorem dX5_eRead_148 : decode cX5_eRead 148 = .ok (.iconst 0, 1) := by decide +kernel
theorem dX5_eRead_149 : decode cX5_eRead 149 = .ok (.ireturn, 1) := by decide +kernel
theorem dX5_eRead_150 : decode cX5_eRead 150 = .ok (.aload_n 0, 1) := by decide +kernel
theorem dX5_eRead_151 : decode cX5_eRead 151 = .ok (.getfield 137, 3) := by decide +kernel
theorem dX5_eRead_154 : decode cX5_eRead 154 = .ok (.bipush 59, 2) := by decide +kernel
theorem dX5_eRead_156 : decode cX5_eRead 156 = .ok (.if_icmp .ne 21, 3) := by decide +kernel
theorem dX5_eRead_159 : decode cX5_eRead 159 = .ok (.aload_n 0, 1) := by decide +kernel
theorem dX5_eRead_160 : decode cX5_eRead 160 = .ok (.iconst 1, 1) := by decide +kernel
theorem dX5_eRead_161 : decode cX5_eRead 161 = .ok (.invokevirtual 166, 3) := by decide +kernel
theorem dX5_eRead_164 : decode cX5_eRead 164 = .ok (.aload_n 0, 1) := by decide +kernel
theorem dX5_eRead_165 : decode cX5_eRead 165 = .ok (.getfield 150, 3) := by decide +kernel
theorem dX5_eRead_168 : decode cX5_eRead 168 = .ok (.ifCond .ne 7, 3) := by decide +kernel
theorem dX5_eRead_171 : decode cX5_eRead 171 = .ok (.iconst 1, 1) := by decide +kernel
theorem dX5_eRead_172 : decode cX5_eRead 172 = .ok (.goto 4, 3) := by decide +kernel
theorem dX5_eRead_175 : decode cX5_eRead 175 = .ok (.iconst 0, 1) := by decide +kernel
theorem dX5_eRead_176 : decode cX5_eRead 176 = .ok (.ireturn, 1) := by decide +kernel
theorem dX5_eRead_177 : decode cX5_eRead 177 = .ok (.aload_n 0, 1) := by decide +kernel
theorem dX5_eRead_178 : decode cX5_eRead 178 = .ok (.getfield 137, 3) := by decide +kernel
theorem dX5_eRead_181 : decode cX5_eRead 181 = .ok (.bipush 41, 2) := by decide +kernel
theorem dX5_eRead_183 : decode cX5_eRead 183 = .ok (.if_icmp .ne 46, 3) := by decide +kernel
theorem dX5_eRead_186 : decode cX5_eRead 186 = .ok (.aload_n 0, 1) := by decide +kernel
theorem dX5_eRead_187 : decode cX5_eRead 187 = .ok (.iconst 1, 1) := by decide +kernel
theorem dX5_eRead_188 : decode cX5_eRead 188 = .ok (.invokevirtual 166, 3) := by decide +kernel
theorem dX5_eRead_191 : decode cX5_eRead 191 = .ok (.aload_n 0, 1) := by decide +kernel
theorem dX5_eRead_192 : decode cX5_eRead 192 = .ok (.getfield 150, 3) := by decide +kernel
theorem dX5_eRead_195 : decode cX5_eRead 195 = .ok (.ifCond .ne 5, 3) := by decide +kernel
theorem dX5_eRead_198 : decode cX5_eRead 198 = .ok (.iconst 0, 1) := by decide +kernel
theorem dX5_eRead_199 : decode cX5_eRead 199 = .ok (.ireturn, 1) := by decide +kernel
theorem dX5_eRead_200 : decode cX5_eRead 200 = .ok (.aload_n 0, 1) := by decide +kernel
theorem dX5_eRead_201 : decode cX5_eRead 201 = .ok (.dup, 1) := by decide +kernel
theorem dX5_eRead_202 : decode cX5_eRead 202 = .ok (.getfield 150, 3) := by decide +kernel
theorem dX5_eRead_205 : decode cX5_eRead 205 = .ok (.iconst 1, 1) := by decide +kernel
theorem dX5_eRead_206 : decode cX5_eRead 206 = .ok (.isub, 1) := by decide +kernel
theorem dX5_eRead_207 : decode cX5_eRead 207 = .ok (.putfield 150, 3) := by decide +kernel
theorem dX5_eRead_210 : decode cX5_eRead 210 = .ok (.aload_n 0, 1) := by decide +kernel
theorem dX5_eRead_211 : decode cX5_eRead 211 = .ok (.dup, 1) := by decide +kernel
theorem dX5_eRead_212 : decode cX5_eRead 212 = .ok (.getfield 156, 3) := by decide +kernel
theorem dX5_eRead_215 : decode cX5_eRead 215 = .ok (.iconst 1, 1) := by decide +kernel
theorem dX5_eRead_216 : decode cX5_eRead 216 = .ok (.isub, 1) := by decide +kernel
theorem dX5_eRead_217 : decode cX5_eRead 217 = .ok (.putfield 156, 3) := by decide +kernel
theorem dX5_eRead_220 : decode cX5_eRead 220 = .ok (.aload_n 0, 1) := by decide +kernel
theorem dX5_eRead_221 : decode cX5_eRead 221 = .ok (.bipush 7, 2) := by decide +kernel
theorem dX5_eRead_223 : decode cX5_eRead 223 = .ok (.invokevirtual 166, 3) := by decide +kernel
theorem dX5_eRead_226 : decode cX5_eRead 226 = .ok (.goto (-212), 3) := by decide +kernel
theorem dX5_eRead_229 : decode cX5_eRead 229 = .ok (.aload_n 0, 1) := by decide +kernel
theorem dX5_eRead_230 : decode cX5_eRead 230 = .ok (.invokevirtual 176, 3) := by decide +kernel
theorem dX5_eRead_233 : decode cX5_eRead 233 = .ok (.istore_n 3, 1) := by decide +kernel
theorem dX5_eRead_234 : decode cX5_eRead 234 = .ok (.iload_n 3, 1) := by decide +kernel
theorem dX5_eRead_235 : decode cX5_eRead 235 = .ok (.iconst (-1), 1) := by decide +kernel
theorem dX5_eRead_236 : decode cX5_eRead 236 = .ok (.if_icmp .eq 11, 3) := by decide +kernel
theorem dX5_eRead_239 : decode cX5_eRead 239 = .ok (.aload_n 0, 1) := by decide +kernel
theorem dX5_eRead_240 : decode cX5_eRead 240 = .ok (.iload_n 3, 1) := by decide +kernel
theorem dX5_eRead_241 : decode cX5_eRead 241 = .ok (.invokevirtual 179, 3) := by decide +kernel
theorem dX5_eRead_244 : decode cX5_eRead 244 = .ok (.ifCond .ne 5, 3) := by decide +kernel
theorem dX5_eRead_247 : decode cX5_eRead 247 = .ok (.iconst 0, 1) := by decide +kernel
theorem dX5_eRead_248 : decode cX5_eRead 248 = .ok (.ireturn, 1) := by decide +kernel
theorem dX5_eRead_249 : decode cX5_eRead 249 = .ok (.iconst 1, 1) := by decide +kernel
theorem dX5_eRead_250 : decode cX5_eRead 250 = .ok (.istore_n 1, 1) := by decide +kernel
theorem dX5_eRead_251 : decode cX5_eRead 251 = .ok (.iload_n 3, 1) := by decide +kernel
theorem dX5_eRead_252 : decode cX5_eRead 252 = .ok (.bipush 12, 2) := by decide +kernel
theorem dX5_eRead_254 : decode cX5_eRead 254 = .ok (.if_icmp .gt 7, 3) := by decide +kernel
theorem dX5_eRead_257 : decode cX5_eRead 257 = .ok (.iconst 1, 1) := by decide +kernel
theorem dX5_eRead_258 : decode cX5_eRead 258 = .ok (.goto 4, 3) := by decide +kernel
theorem dX5_eRead_261 : decode cX5_eRead 261 = .ok (.iconst 0, 1) := by decide +kernel
theorem dX5_eRead_262 : decode cX5_eRead 262 = .ok (.istore_n 2, 1) := by decide +kernel
theorem dX5_eRead_263 : decode cX5_eRead 263 = .ok (.goto (-249), 3) := by decide +kernel
def b_X5_eRead_61 (kc14 : Int32 → Int32 → GM → Option (Int32 × GM)) (x2 : Int32) (xs0 : Int32) (σ : GM) : Option (Int32 × GM) :=
  bnd (f_X5_puts xs0 σ) fun q11 => bnd (f_X5_unwinds (7 : Int32) q11.2) fun q12 => kc14 (0 : Int32) x2 q12.2
theorem vb_X5_eRead_61 {g : Gt} {ad : Nat → Nat} (z : Zt) (kc14 : Int32 → Int32 → GM → Option (Int32 × GM)) (hkc14 : ∀ (x1 : Int32) (x2 : Int32) (σ : GM), V g (LM ad) 4 RX5 cX5_eRead 4 (some .boolean) (wM g ad) iI z (kc14 x1 x2 σ) σ 14 [(0, .ref (aMo ad)), (1, .int x1), (2, .int x2)] []) (x2 : Int32) (xs0 : Int32) (σ : GM) : V g (LM ad) 4 RX5 cX5_eRead 4 (some .boolean) (wM g ad) iI z (b_X5_eRead_61 kc14 x2 xs0 σ) σ 61 [(0, .ref (aMo ad)), (2, .int x2)] [.int xs0, .ref (aMo ad)] := by
  unfold b_X5_eRead_61
  refine v_callVv (pc := 61) rcX5 (As := [.int xs0]) (rest := []) (ct_X5_puts xs0) mi_X5_puts q_727 (by decide) rfl rfl (Nat.le_of_ble_eq_true rfl) dX5_eRead_61 (fun q11 => ?_)
  refine v_aload_n (pc := 64) (i := 0) dX5_eRead_64 rfl rfl ?_
  refine v_bipush (pc := 65) dX5_eRead_65 bp_7 ?_
  refine v_callVv (pc := 67) rcX5 (As := [.int (7 : Int32)]) (rest := []) (ct_X5_unwinds (7 : Int32)) mi_X5_unwinds q_731 (by decide) rfl rfl (Nat.le_of_ble_eq_true rfl) dX5_eRead_67 (fun q12 => ?_)
  refine v_iconst (pc := 70) dX5_eRead_70 ic_0 ?_
  refine v_istore_n (pc := 71) (lv' := [(1, .int (0 : Int32)), (0, .ref (aMo ad)), (2, .int x2)]) (i := 1) dX5_eRead_71 rfl (by decide) rfl ?_
  refine v_goto (pc := 72) (tgt := 14) dX5_eRead_72 rfl ?_
  exact v_sub [1, 0, 2] rfl (hkc14 (0 : Int32) x2 q12.2)
def b_X5_eRead_38 (kc14 : Int32 → Int32 → GM → Option (Int32 × GM)) (x2 : Int32) (σ : GM) : Option (Int32 × GM) :=
  if (mI σ 9) ≠ (1 : Int32) then (b_X5_eRead_61 kc14 x2 (mI σ 10) σ) else (b_X5_eRead_61 kc14 x2 ((100000 : Int32) + (mI σ 10)) σ)
theorem vb_X5_eRead_38 {g : Gt} {ad : Nat → Nat} (z : Zt) (kc14 : Int32 → Int32 → GM → Option (Int32 × GM)) (hkc14 : ∀ (x1 : Int32) (x2 : Int32) (σ : GM), V g (LM ad) 4 RX5 cX5_eRead 4 (some .boolean) (wM g ad) iI z (kc14 x1 x2 σ) σ 14 [(0, .ref (aMo ad)), (1, .int x1), (2, .int x2)] []) (x2 : Int32) (σ : GM) : V g (LM ad) 4 RX5 cX5_eRead 4 (some .boolean) (wM g ad) iI z (b_X5_eRead_38 kc14 x2 σ) σ 38 [(0, .ref (aMo ad)), (2, .int x2)] [] := by
  unfold b_X5_eRead_38
  refine v_aload_n (pc := 38) (i := 0) dX5_eRead_38 rfl rfl ?_
  refine v_aload_n (pc := 39) (i := 0) dX5_eRead_39 rfl rfl ?_
  refine gX5_token (pc := 40) q_780 dX5_eRead_40 ?_
  refine v_iconst (pc := 43) dX5_eRead_43 ic_1 ?_
  refine v_icmp_ne (pc := 44) (tgt := 57) dX5_eRead_44 rfl ?_ ?_
  · refine v_aload_n (pc := 57) (i := 0) dX5_eRead_57 rfl rfl ?_
    refine gX5_value (pc := 58) q_781 dX5_eRead_58 ?_
    exact v_sub [0, 1] rfl (vb_X5_eRead_61 z kc14 hkc14 x2 (mI σ 10) σ)
  · refine v_ldc (pc := 47) dX5_eRead_47 q_726 ?_
    refine v_aload_n (pc := 49) (i := 0) dX5_eRead_49 rfl rfl ?_
    refine gX5_value (pc := 50) q_781 dX5_eRead_50 ?_
    refine v_iadd (pc := 53) dX5_eRead_53 ?_
    refine v_goto (pc := 54) (tgt := 61) dX5_eRead_54 rfl ?_
    exact v_sub [0, 1] rfl (vb_X5_eRead_61 z kc14 hkc14 x2 ((100000 : Int32) + (mI σ 10)) σ)
def b_X5_eRead_99 (kc14 : Int32 → Int32 → GM → Option (Int32 × GM)) (x1 : Int32) (σ : GM) : Option (Int32 × GM) :=
  if (mI σ 9) ≠ (45 : Int32) then (if (mI σ 9) ≠ (40 : Int32) then (some ((0 : Int32), σ)) else (bnd (f_X5_opensOne (0 : Int32) σ) fun q13 => if q13.1 ≠ 0 then (kc14 x1 (1 : Int32) q13.2) else (some ((0 : Int32), q13.2)))) else (bnd (f_X5_opensOne (19 : Int32) σ) fun q14 => if q14.1 ≠ 0 then (kc14 x1 (0 : Int32) q14.2) else (some ((0 : Int32), q14.2)))
theorem vb_X5_eRead_99 {g : Gt} {ad : Nat → Nat} (z : Zt) (kc14 : Int32 → Int32 → GM → Option (Int32 × GM)) (hkc14 : ∀ (x1 : Int32) (x2 : Int32) (σ : GM), V g (LM ad) 4 RX5 cX5_eRead 4 (some .boolean) (wM g ad) iI z (kc14 x1 x2 σ) σ 14 [(0, .ref (aMo ad)), (1, .int x1), (2, .int x2)] []) (x1 : Int32) (σ : GM) : V g (LM ad) 4 RX5 cX5_eRead 4 (some .boolean) (wM g ad) iI z (b_X5_eRead_99 kc14 x1 σ) σ 99 [(0, .ref (aMo ad)), (1, .int x1)] [] := by
  unfold b_X5_eRead_99
  refine v_aload_n (pc := 99) (i := 0) dX5_eRead_99 rfl rfl ?_
  refine gX5_token (pc := 100) q_780 dX5_eRead_100 ?_
  refine v_bipush (pc := 103) dX5_eRead_103 bp_45 ?_
  refine v_icmp_ne (pc := 105) (tgt := 124) dX5_eRead_105 rfl ?_ ?_
  · refine v_aload_n (pc := 124) (i := 0) dX5_eRead_124 rfl rfl ?_
    refine gX5_token (pc := 125) q_780 dX5_eRead_125 ?_
    refine v_bipush (pc := 128) dX5_eRead_128 bp_40 ?_
    refine v_icmp_ne (pc := 130) (tgt := 148) dX5_eRead_130 rfl ?_ ?_
    · refine v_iconst (pc := 148) dX5_eRead_148 ic_0 ?_
      exact v_nret (pc := 149) rfl dX5_eRead_149
    · refine v_aload_n (pc := 133) (i := 0) dX5_eRead_133 rfl rfl ?_
      refine v_iconst (pc := 134) dX5_eRead_134 ic_0 ?_
      refine v_callVi (pc := 135) rcX5 (As := [.int (0 : Int32)]) (rest := []) (ct_X5_opensOne (0 : Int32)) mi_X5_opensOne q_738 (by decide) rfl rfl (Nat.le_of_ble_eq_true rfl) dX5_eRead_135 (fun q13 => ?_)
      refine v_if_ne (pc := 138) (tgt := 143) dX5_eRead_138 rfl ?_ ?_
      · refine v_iconst (pc := 143) dX5_eRead_143 ic_1 ?_
        refine v_istore_n (pc := 144) (lv' := [(2, .int (1 : Int32)), (0, .ref (aMo ad)), (1, .int x1)]) (i := 2) dX5_eRead_144 rfl (by decide) rfl ?_
        refine v_goto (pc := 145) (tgt := 14) dX5_eRead_145 rfl ?_
        exact v_sub [1, 2, 0] rfl (hkc14 x1 (1 : Int32) q13.2)
      · refine v_iconst (pc := 141) dX5_eRead_141 ic_0 ?_
        exact v_nret (pc := 142) rfl dX5_eRead_142
  · refine v_aload_n (pc := 108) (i := 0) dX5_eRead_108 rfl rfl ?_
    refine v_bipush (pc := 109) dX5_eRead_109 bp_19 ?_
    refine v_callVi (pc := 111) rcX5 (As := [.int (19 : Int32)]) (rest := []) (ct_X5_opensOne (19 : Int32)) mi_X5_opensOne q_738 (by decide) rfl rfl (Nat.le_of_ble_eq_true rfl) dX5_eRead_111 (fun q14 => ?_)
    refine v_if_ne (pc := 114) (tgt := 119) dX5_eRead_114 rfl ?_ ?_
    · refine v_iconst (pc := 119) dX5_eRead_119 ic_0 ?_
      refine v_istore_n (pc := 120) (lv' := [(2, .int (0 : Int32)), (0, .ref (aMo ad)), (1, .int x1)]) (i := 2) dX5_eRead_120 rfl (by decide) rfl ?_
      refine v_goto (pc := 121) (tgt := 14) dX5_eRead_121 rfl ?_
      exact v_sub [1, 2, 0] rfl (hkc14 x1 (0 : Int32) q14.2)
    · refine v_iconst (pc := 117) dX5_eRead_117 ic_0 ?_
      exact v_nret (pc := 118) rfl dX5_eRead_118
def b_X5_eRead_14 (kc14 : Int32 → Int32 → GM → Option (Int32 × GM)) (x1 : Int32) (x2 : Int32) (σ : GM) : Option (Int32 × GM) :=
  bnd (f_X5_next σ) fun q3 => if x1 = 0 then (if (mI q3.2 9) ≠ (59 : Int32) then (if (mI q3.2 9) ≠ (41 : Int32) then (bnd (f_X5_signOf q3.2) fun q4 => if q4.1 = (-1 : Int32) then (some ((0 : Int32), q4.2)) else (bnd (f_X5_between q4.1 q4.2) fun q5 => if q5.1 ≠ 0 then (if (12 : Int32) < q4.1 then (kc14 (1 : Int32) (0 : Int32) q5.2) else (kc14 (1 : Int32) (1 : Int32) q5.2)) else (some ((0 : Int32), q5.2)))) else (bnd (f_X5_unwinds (1 : Int32) q3.2) fun q6 => if (mI q6.2 11) ≠ 0 then (bnd (some (tI q6.2 11 ((mI q6.2 11) - (1 : Int32)))) fun σ7 => bnd (some (tI σ7 12 ((mI σ7 12) - (1 : Int32)))) fun σ8 => bnd (f_X5_unwinds (7 : Int32) σ8) fun q9 => kc14 x1 x2 q9.2) else (some ((0 : Int32), q6.2)))) else (bnd (f_X5_unwinds (1 : Int32) q3.2) fun q10 => if (mI q10.2 11) ≠ 0 then (some ((0 : Int32), q10.2)) else (some ((1 : Int32), q10.2)))) else (if (mI q3.2 9) = (1 : Int32) then (b_X5_eRead_38 kc14 x2 q3.2) else (if (mI q3.2 9) ≠ (2 : Int32) then (if (mI q3.2 9) ≠ (6 : Int32) then (b_X5_eRead_99 kc14 x1 q3.2) else (if x2 = 0 then (b_X5_eRead_99 kc14 x1 q3.2) else (bnd (f_X5_opensOne (13 : Int32) q3.2) fun q15 => if q15.1 ≠ 0 then (kc14 x1 x2 q15.2) else (some ((0 : Int32), q15.2))))) else (b_X5_eRead_38 kc14 x2 q3.2)))
theorem vb_X5_eRead_14 {g : Gt} {ad : Nat → Nat} (z : Zt) (kc14 : Int32 → Int32 → GM → Option (Int32 × GM)) (hkc14 : ∀ (x1 : Int32) (x2 : Int32) (σ : GM), V g (LM ad) 4 RX5 cX5_eRead 4 (some .boolean) (wM g ad) iI z (kc14 x1 x2 σ) σ 14 [(0, .ref (aMo ad)), (1, .int x1), (2, .int x2)] []) (x1 : Int32) (x2 : Int32) (σ : GM) : V g (LM ad) 4 RX5 cX5_eRead 4 (some .boolean) (wM g ad) iI z (b_X5_eRead_14 kc14 x1 x2 σ) σ 14 [(0, .ref (aMo ad)), (1, .int x1), (2, .int x2)] [] := by
  unfold b_X5_eRead_14
  refine v_aload_n (pc := 14) (i := 0) dX5_eRead_14 rfl rfl ?_
  refine v_callVv (pc := 15) rcX5 (As := []) (rest := []) (ct_X5_next) mi_X5_next q_711 (by decide) rfl rfl (Nat.le_of_ble_eq_true rfl) dX5_eRead_15 (fun q3 => ?_)
  refine v_iload_n (pc := 18) (i := 1) dX5_eRead_18 rfl rfl ?_
  refine v_if_eq (pc := 19) (tgt := 150) dX5_eRead_19 rfl ?_ ?_
  · refine v_aload_n (pc := 150) (i := 0) dX5_eRead_150 rfl rfl ?_
    refine gX5_token (pc := 151) q_780 dX5_eRead_151 ?_
    refine v_bipush (pc := 154) dX5_eRead_154 bp_59 ?_
    refine v_icmp_ne (pc := 156) (tgt := 177) dX5_eRead_156 rfl ?_ ?_
    · refine v_aload_n (pc := 177) (i := 0) dX5_eRead_177 rfl rfl ?_
      refine gX5_token (pc := 178) q_780 dX5_eRead_178 ?_
      refine v_bipush (pc := 181) dX5_eRead_181 bp_41 ?_
      refine v_icmp_ne (pc := 183) (tgt := 229) dX5_eRead_183 rfl ?_ ?_
      · refine v_aload_n (pc := 229) (i := 0) dX5_eRead_229 rfl rfl ?_
        refine v_callVi (pc := 230) rcX5 (As := []) (rest := []) (ct_X5_signOf) mi_X5_signOf q_746 (by decide) rfl rfl (Nat.le_of_ble_eq_true rfl) dX5_eRead_230 (fun q4 => ?_)
        refine v_istore_n (pc := 233) (lv' := [(3, .int q4.1), (0, .ref (aMo ad)), (1, .int x1), (2, .int x2)]) (i := 3) dX5_eRead_233 rfl (by decide) rfl ?_
        refine v_iload_n (pc := 234) (i := 3) dX5_eRead_234 rfl rfl ?_
        refine v_iconst (pc := 235) dX5_eRead_235 ic_m1 ?_
        refine v_icmp_eq (pc := 236) (tgt := 247) dX5_eRead_236 rfl ?_ ?_
        · refine v_iconst (pc := 247) dX5_eRead_247 ic_0 ?_
          exact v_nret (pc := 248) rfl dX5_eRead_248
        · refine v_aload_n (pc := 239) (i := 0) dX5_eRead_239 rfl rfl ?_
          refine v_iload_n (pc := 240) (i := 3) dX5_eRead_240 rfl rfl ?_
          refine v_callVi (pc := 241) rcX5 (As := [.int q4.1]) (rest := []) (ct_X5_between q4.1) mi_X5_between q_750 (by decide) rfl rfl (Nat.le_of_ble_eq_true rfl) dX5_eRead_241 (fun q5 => ?_)
          refine v_if_ne (pc := 244) (tgt := 249) dX5_eRead_244 rfl ?_ ?_
          · refine v_iconst (pc := 249) dX5_eRead_249 ic_1 ?_
            refine v_istore_n (pc := 250) (lv' := [(1, .int (1 : Int32)), (3, .int q4.1), (0, .ref (aMo ad)), (2, .int x2)]) (i := 1) dX5_eRead_250 rfl (by decide) rfl ?_
            refine v_iload_n (pc := 251) (i := 3) dX5_eRead_251 rfl rfl ?_
            refine v_bipush (pc := 252) dX5_eRead_252 bp_12 ?_
            refine v_icmp_gt (pc := 254) (tgt := 261) dX5_eRead_254 rfl ?_ ?_
            · refine v_iconst (pc := 261) dX5_eRead_261 ic_0 ?_
              refine v_istore_n (pc := 262) (lv' := [(2, .int (0 : Int32)), (1, .int (1 : Int32)), (3, .int q4.1), (0, .ref (aMo ad))]) (i := 2) dX5_eRead_262 rfl (by decide) rfl ?_
              refine v_goto (pc := 263) (tgt := 14) dX5_eRead_263 rfl ?_
              exact v_sub [3, 1, 0] rfl (hkc14 (1 : Int32) (0 : Int32) q5.2)
            · refine v_iconst (pc := 257) dX5_eRead_257 ic_1 ?_
              refine v_goto (pc := 258) (tgt := 262) dX5_eRead_258 rfl ?_
              refine v_istore_n (pc := 262) (lv' := [(2, .int (1 : Int32)), (1, .int (1 : Int32)), (3, .int q4.1), (0, .ref (aMo ad))]) (i := 2) dX5_eRead_262 rfl (by decide) rfl ?_
              refine v_goto (pc := 263) (tgt := 14) dX5_eRead_263 rfl ?_
              exact v_sub [3, 1, 0] rfl (hkc14 (1 : Int32) (1 : Int32) q5.2)
          · refine v_iconst (pc := 247) dX5_eRead_247 ic_0 ?_
            exact v_nret (pc := 248) rfl dX5_eRead_248
      · refine v_aload_n (pc := 186) (i := 0) dX5_eRead_186 rfl rfl ?_
        refine v_iconst (pc := 187) dX5_eRead_187 ic_1 ?_
        refine v_callVv (pc := 188) rcX5 (As := [.int (1 : Int32)]) (rest := []) (ct_X5_unwinds (1 : Int32)) mi_X5_unwinds q_731 (by decide) rfl rfl (Nat.le_of_ble_eq_true rfl) dX5_eRead_188 (fun q6 => ?_)
        refine v_aload_n (pc := 191) (i := 0) dX5_eRead_191 rfl rfl ?_
        refine gX5_heldMany (pc := 192) q_784 dX5_eRead_192 ?_
        refine v_if_ne (pc := 195) (tgt := 200) dX5_eRead_195 rfl ?_ ?_
        · refine v_aload_n (pc := 200) (i := 0) dX5_eRead_200 rfl rfl ?_
          refine v_dup (pc := 201) dX5_eRead_201 rfl ?_
          refine gX5_heldMany (pc := 202) q_784 dX5_eRead_202 ?_
          refine v_iconst (pc := 205) dX5_eRead_205 ic_1 ?_
          refine v_isub (pc := 206) dX5_eRead_206 ?_
          refine pX5_heldMany (pc := 207) q_784 dX5_eRead_207 ?_
          refine v_nms (fun σ7 => ?_)
          refine v_aload_n (pc := 210) (i := 0) dX5_eRead_210 rfl rfl ?_
          refine v_dup (pc := 211) dX5_eRead_211 rfl ?_
          refine gX5_opens (pc := 212) q_785 dX5_eRead_212 ?_
          refine v_iconst (pc := 215) dX5_eRead_215 ic_1 ?_
          refine v_isub (pc := 216) dX5_eRead_216 ?_
          refine pX5_opens (pc := 217) q_785 dX5_eRead_217 ?_
          refine v_nms (fun σ8 => ?_)
          refine v_aload_n (pc := 220) (i := 0) dX5_eRead_220 rfl rfl ?_
          refine v_bipush (pc := 221) dX5_eRead_221 bp_7 ?_
          refine v_callVv (pc := 223) rcX5 (As := [.int (7 : Int32)]) (rest := []) (ct_X5_unwinds (7 : Int32)) mi_X5_unwinds q_731 (by decide) rfl rfl (Nat.le_of_ble_eq_true rfl) dX5_eRead_223 (fun q9 => ?_)
          refine v_goto (pc := 226) (tgt := 14) dX5_eRead_226 rfl ?_
          exact v_sub [0, 1, 2] rfl (hkc14 x1 x2 q9.2)
        · refine v_iconst (pc := 198) dX5_eRead_198 ic_0 ?_
          exact v_nret (pc := 199) rfl dX5_eRead_199
    · refine v_aload_n (pc := 159) (i := 0) dX5_eRead_159 rfl rfl ?_
      refine v_iconst (pc := 160) dX5_eRead_160 ic_1 ?_
      refine v_callVv (pc := 161) rcX5 (As := [.int (1 : Int32)]) (rest := []) (ct_X5_unwinds (1 : Int32)) mi_X5_unwinds q_731 (by decide) rfl rfl (Nat.le_of_ble_eq_true rfl) dX5_eRead_161 (fun q10 => ?_)
      refine v_aload_n (pc := 164) (i := 0) dX5_eRead_164 rfl rfl ?_
      refine gX5_heldMany (pc := 165) q_784 dX5_eRead_165 ?_
      refine v_if_ne (pc := 168) (tgt := 175) dX5_eRead_168 rfl ?_ ?_
      · refine v_iconst (pc := 175) dX5_eRead_175 ic_0 ?_
        exact v_nret (pc := 176) rfl dX5_eRead_176
      · refine v_iconst (pc := 171) dX5_eRead_171 ic_1 ?_
        refine v_goto (pc := 172) (tgt := 176) dX5_eRead_172 rfl ?_
        exact v_nret (pc := 176) rfl dX5_eRead_176
  · refine v_aload_n (pc := 22) (i := 0) dX5_eRead_22 rfl rfl ?_
    refine gX5_token (pc := 23) q_780 dX5_eRead_23 ?_
    refine v_iconst (pc := 26) dX5_eRead_26 ic_1 ?_
    refine v_icmp_eq (pc := 27) (tgt := 38) dX5_eRead_27 rfl ?_ ?_
    · exact v_sub [0, 2] rfl (vb_X5_eRead_38 z kc14 hkc14 x2 q3.2)
    · refine v_aload_n (pc := 30) (i := 0) dX5_eRead_30 rfl rfl ?_
      refine gX5_token (pc := 31) q_780 dX5_eRead_31 ?_
      refine v_iconst (pc := 34) dX5_eRead_34 ic_2 ?_
      refine v_icmp_ne (pc := 35) (tgt := 75) dX5_eRead_35 rfl ?_ ?_
      · refine v_aload_n (pc := 75) (i := 0) dX5_eRead_75 rfl rfl ?_
        refine gX5_token (pc := 76) q_780 dX5_eRead_76 ?_
        refine v_bipush (pc := 79) dX5_eRead_79 bp_6 ?_
        refine v_icmp_ne (pc := 81) (tgt := 99) dX5_eRead_81 rfl ?_ ?_
        · exact v_sub [0, 1] rfl (vb_X5_eRead_99 z kc14 hkc14 x1 q3.2)
        · refine v_iload_n (pc := 84) (i := 2) dX5_eRead_84 rfl rfl ?_
          refine v_if_eq (pc := 85) (tgt := 99) dX5_eRead_85 rfl ?_ ?_
          · exact v_sub [0, 1] rfl (vb_X5_eRead_99 z kc14 hkc14 x1 q3.2)
          · refine v_aload_n (pc := 88) (i := 0) dX5_eRead_88 rfl rfl ?_
            refine v_bipush (pc := 89) dX5_eRead_89 bp_13 ?_
            refine v_callVi (pc := 91) rcX5 (As := [.int (13 : Int32)]) (rest := []) (ct_X5_opensOne (13 : Int32)) mi_X5_opensOne q_738 (by decide) rfl rfl (Nat.le_of_ble_eq_true rfl) dX5_eRead_91 (fun q15 => ?_)
            refine v_if_ne (pc := 94) (tgt := 14) dX5_eRead_94 rfl ?_ ?_
            · exact v_sub [0, 1, 2] rfl (hkc14 x1 x2 q15.2)
            · refine v_iconst (pc := 97) dX5_eRead_97 ic_0 ?_
              exact v_nret (pc := 98) rfl dX5_eRead_98
      · exact v_sub [0, 2] rfl (vb_X5_eRead_38 z kc14 hkc14 x2 q3.2)
def k_X5_eRead_14 : Nat → Int32 → Int32 → GM → Option (Int32 × GM)
  | 0 => fun _ _ _ => none
  | n + 1 => b_X5_eRead_14 (k_X5_eRead_14 n)
theorem vk_X5_eRead_14 {g : Gt} {ad : Nat → Nat} (z : Zt) : ∀ (n : Nat) (x1 : Int32) (x2 : Int32) (σ : GM), V g (LM ad) 4 RX5 cX5_eRead 4 (some .boolean) (wM g ad) iI z (k_X5_eRead_14 n x1 x2 σ) σ 14 [(0, .ref (aMo ad)), (1, .int x1), (2, .int x2)] [] := by
  intro n
  induction n with
  | zero => intros; exact v_eq rfl v_none
  | succ n ih =>
    intro x1 x2 σ
    exact v_eq rfl (vb_X5_eRead_14 z _ ih x1 x2 σ)
def f_X5_eRead (σ : GM) : Option (Int32 × GM) :=
  bnd (some (tI σ 11 (0 : Int32))) fun σ1 => bnd (some (tI σ1 12 (0 : Int32))) fun σ2 => k_X5_eRead_14 FU (1 : Int32) (1 : Int32) σ2
theorem vf_X5_eRead {g : Gt} {ad : Nat → Nat} (z : Zt) (σ : GM) : V g (LM ad) 4 RX5 cX5_eRead 4 (some .boolean) (wM g ad) iI z (f_X5_eRead σ) σ 0 [(0, .ref (aMo ad))] [] := by
  unfold f_X5_eRead
  refine v_aload_n (pc := 0) (i := 0) dX5_eRead_0 rfl rfl ?_
  refine v_iconst (pc := 1) dX5_eRead_1 ic_0 ?_
  refine pX5_heldMany (pc := 2) q_784 dX5_eRead_2 ?_
  refine v_nms (fun σ1 => ?_)
  refine v_aload_n (pc := 5) (i := 0) dX5_eRead_5 rfl rfl ?_
  refine v_iconst (pc := 6) dX5_eRead_6 ic_0 ?_
  refine pX5_opens (pc := 7) q_785 dX5_eRead_7 ?_
  refine v_nms (fun σ2 => ?_)
  refine v_iconst (pc := 10) dX5_eRead_10 ic_1 ?_
  refine v_istore_n (pc := 11) (lv' := [(1, .int (1 : Int32)), (0, .ref (aMo ad))]) (i := 1) dX5_eRead_11 rfl (by decide) rfl ?_
  refine v_iconst (pc := 12) dX5_eRead_12 ic_1 ?_
  refine v_istore_n (pc := 13) (lv' := [(2, .int (1 : Int32)), (1, .int (1 : Int32)), (0, .ref (aMo ad))]) (i := 2) dX5_eRead_13 rfl (by decide) rfl ?_
  exact v_sub [2, 1, 0] rfl (vk_X5_eRead_14 z FU (1 : Int32) (1 : Int32) σ2)
theorem ct_X5_eRead {g : Gt} {ad : Nat → Nat} : CT g (LM ad) yX5_eRead cX5_eRead 4 (some .boolean) 4 [.ref (aMo ad)] iI (wM g ad) (f_X5_eRead) :=
  ct_of_V (own := RX5) (lv0 := [(0, .ref (aMo ad))]) (by decide +kernel) rfl (Nat.le_of_ble_eq_true rfl) rfl (fun z σ => vf_X5_eRead z σ)
-- LighthouseLiedToModel.text
theorem dX5_text_0 : decode cX5_text 0 = .ok (.aload_n 0, 1) := by decide +kernel
theorem dX5_text_1 : decode cX5_text 1 = .ok (.getfield 109, 3) := by decide +kernel
theorem dX5_text_4 : decode cX5_text 4 = .ok (.bipush 6, 2) := by decide +kernel
theorem dX5_text_6 : decode cX5_text 6 = .ok (.if_icmp .ne 6, 3) := by decide +kernel
theorem dX5_text_9 : decode cX5_text 9 = .ok (.bipush (-4), 2) := by decide +kernel
theorem dX5_text_11 : decode cX5_text 11 = .ok (.ireturn, 1) := by decide +kernel
theorem dX5_text_12 : decode cX5_text 12 = .ok (.aload_n 0, 1) := by decide +kernel
theorem dX5_text_13 : decode cX5_text 13 = .ok (.iconst 0, 1) := by decide +kernel
theorem dX5_text_14 : decode cX5_text 14 = .ok (.putfield 131, 3) := by decide +kernel
theorem dX5_text_17 : decode cX5_text 17 = .ok (.aload_n 0, 1) := by decide +kernel
theorem dX5_text_18 : decode cX5_text 18 = .ok (.iconst 0, 1) := by decide +kernel
theorem dX5_text_19 : decode cX5_text 19 = .ok (.putfield 147, 3) := by decide +kernel
theorem dX5_text_22 : decode cX5_text 22 = .ok (.iconst 1, 1) := by decide +kernel
theorem dX5_text_23 : decode cX5_text 23 = .ok (.istore_n 1, 1) := by decide +kernel
theorem dX5_text_24 : decode cX5_text 24 = .ok (.iconst 0, 1) := by decide +kernel
theorem dX5_text_25 : decode cX5_text 25 = .ok (.istore_n 2, 1) := by decide +kernel
theorem dX5_text_26 : decode cX5_text 26 = .ok (.iload_n 2, 1) := by decide +kernel
theorem dX5_text_27 : decode cX5_text 27 = .ok (.iconst 3, 1) := by decide +kernel
theorem dX5_text_28 : decode cX5_text 28 = .ok (.if_icmp .ge 73, 3) := by decide +kernel
theorem dX5_text_31 : decode cX5_text 31 = .ok (.iload_n 1, 1) := by decide +kernel
theorem dX5_text_32 : decode cX5_text 32 = .ok (.ifCond .eq 69, 3) := by decide +kernel
theorem dX5_text_35 : decode cX5_text 35 = .ok (.aload_n 0, 1) := by decide +kernel
theorem dX5_text_36 : decode cX5_text 36 = .ok (.invokevirtual 169, 3) := by decide +kernel
theorem dX5_text_39 : decode cX5_text 39 = .ok (.aload_n 0, 1) := by decide +kernel
theorem dX5_text_40 : decode cX5_text 40 = .ok (.getfield 137, 3) := by decide +kernel
theorem dX5_text_43 : decode cX5_text 43 = .ok (.iconst 3, 1) := by decide +kernel
theorem dX5_text_44 : decode cX5_text 44 = .ok (.if_icmp .ne 15, 3) := by decide +kernel
theorem dX5_text_47 : decode cX5_text 47 = .ok (.aload_n 0, 1) := by decide +kernel
theorem dX5_text_48 : decode cX5_text 48 = .ok (.getfield 140, 3) := by decide +kernel
theorem dX5_text_51 : decode cX5_text 51 = .ok (.iload_n 2, 1) := by decide +kernel
theorem dX5_text_52 : decode cX5_text 52 = .ok (.if_icmp .ne 7, 3) := by decide +kernel
theorem dX5_text_55 : decode cX5_text 55 = .ok (.iconst 1, 1) := by decide +kernel
theorem dX5_text_56 : decode cX5_text 56 = .ok (.goto 4, 3) := by decide +kernel
theorem dX5_text_59 : decode cX5_text 59 = .ok (.iconst 0, 1) := by decide +kernel
theorem dX5_text_60 : decode cX5_text 60 = .ok (.istore_n 1, 1) := by decide +kernel
theorem dX5_text_61 : decode cX5_text 61 = .ok (.aload_n 0, 1) := by decide +kernel
theorem dX5_text_62 : decode cX5_text 62 = .ok (.getfield 34, 3) := by decide +kernel
theorem dX5_text_65 : decode cX5_text 65 = .ok (.iconst 4, 1) := by decide +kernel
theorem dX5_text_66 : decode cX5_text 66 = .ok (.aload_n 0, 1) := by decide +kernel
theorem dX5_text_67 : decode cX5_text 67 = .ok (.getfield 109, 3) := by decide +kernel
theorem dX5_text_70 : decode cX5_text 70 = .ok (.imul, 1) := by decide +kernel
theorem dX5_text_71 : decode cX5_text 71 = .ok (.iload_n 2, 1) := by decide +kernel
theorem dX5_text_72 : decode cX5_text 72 = .ok (.iadd, 1) := by decide +kernel
theorem dX5_text_73 : decode cX5_text 73 = .ok (.aload_n 0, 1) := by decide +kernel
theorem dX5_text_74 : decode cX5_text 74 = .ok (.getfield 147, 3) := by decide +kernel
theorem dX5_text_77 : decode cX5_text 77 = .ok (.iastore, 1) := by decide +kernel
theorem dX5_text_78 : decode cX5_text 78 = .ok (.iload_n 1, 1) := by decide +kernel
theorem dX5_text_79 : decode cX5_text 79 = .ok (.ifCond .eq 14, 3) := by decide +kernel
theorem dX5_text_82 : decode cX5_text 82 = .ok (.aload_n 0, 1) := by decide +kernel
theorem dX5_text_83 : decode cX5_text 83 = .ok (.invokevirtual 182, 3) := by decide +kernel
theorem dX5_text_86 : decode cX5_text 86 = .ok (.ifCond .eq 7, 3) := by decide +kernel
theorem dX5_text_89 : decode cX5_text 89 = .ok (.iconst 1, 1) := by decide +kernel
theorem dX5_text_90 : decode cX5_text 90 = .ok (.goto 4, 3) := by decide +kernel
theorem dX5_text_93 : decode cX5_text 93 = .ok (.iconst 0, 1) := by decide +kernel
theorem dX5_text_94 : decode cX5_text 94 = .ok (.istore_n 1, 1) := by decide +kernel
theorem dX5_text_95 : decode cX5_text 95 = .ok (.iinc 2 1, 3) := by decide +kernel
theorem dX5_text_98 : decode cX5_text 98 = .ok (.goto (-72), 3) := by decide +kernel
theorem dX5_text_101 : decode cX5_text 101 = .ok (.iload_n 1, 1) := by decide +kernel
theorem dX5_text_102 : decode cX5_text 102 = .ok (.ifCond .eq 20, 3) := by decide +kernel
theorem dX5_text_105 : decode cX5_text 105 = .ok (.aload_n 0, 1) := by decide +kernel
theorem dX5_text_106 : decode cX5_text 106 = .ok (.invokevirtual 169, 3) := by decide +kernel
theorem dX5_text_109 : decode cX5_text 109 = .ok (.aload_n 0, 1) := by decide +kernel
theorem dX5_text_110 : decode cX5_text 110 = .ok (.getfield 137, 3) := by decide +kernel
theorem dX5_text_113 : decode cX5_text 113 = .ok (.ifCond .ne 7, 3) := by decide +kernel
theorem dX5_text_116 : decode cX5_text 116 = .ok (.iconst 1, 1) := by decide +kernel
theorem dX5_text_117 : decode cX5_text 117 = .ok (.goto 4, 3) := by decide +kernel
theorem dX5_text_120 : decode cX5_text 120 = .ok (.iconst 0, 1) := by decide +kernel
theorem dX5_text_121 : decode cX5_text 121 = .ok (.istore_n 1, 1) := by decide +kernel
theorem dX5_text_122 : decode cX5_text 122 = .ok (.aload_n 0, 1) := by decide +kernel
theorem dX5_text_123 : decode cX5_text 123 = .ok (.getfield 34, 3) := by decide +kernel
theorem dX5_text_126 : decode cX5_text 126 = .ok (.iconst 4, 1) := by decide +kernel
theorem dX5_text_127 : decode cX5_text 127 = .ok (.aload_n 0, 1) := by decide +kernel
theorem dX5_text_128 : decode cX5_text 128 = .ok (.getfield 109, 3) := by decide +kernel
theorem dX5_text_131 : decode cX5_text 131 = .ok (.imul, 1) := by decide +kernel
theorem dX5_text_132 : decode cX5_text 132 = .ok (.iconst 3, 1) := by decide +kernel
theorem dX5_text_133 : decode cX5_text 133 = .ok (.iadd, 1) := by decide +kernel
theorem dX5_text_134 : decode cX5_text 134 = .ok (.aload_n 0, 1) := by decide +kernel
theorem dX5_text_135 : decode cX5_text 135 = .ok (.getfield 147, 3) := by decide +kernel
theorem dX5_text_138 : decode cX5_text 138 = .ok (.iastore, 1) := by decide +kernel
theorem dX5_text_139 : decode cX5_text 139 = .ok (.aload_n 0, 1) := by decide +kernel
theorem dX5_text_140 : decode cX5_text 140 = .ok (.iconst 0, 1) := by decide +kernel
theorem dX5_text_141 : decode cX5_text 141 = .ok (.putfield 70, 3) := by decide +kernel
theorem dX5_text_144 : decode cX5_text 144 = .ok (.iload_n 1, 1) := by decide +kernel
theorem dX5_text_145 : decode cX5_text 145 = .ok (.ifCond .ne 11, 3) := by decide +kernel
theorem dX5_text_148 : decode cX5_text 148 = .ok (.bipush (-100), 2) := by decide +kernel
theorem dX5_text_150 : decode cX5_text 150 = .ok (.aload_n 0, 1) := by decide +kernel
theorem dX5_text_151 : decode cX5_text 151 = .ok (.getfield 134, 3) := by decide +kernel
theorem dX5_text_154 : decode cX5_text 154 = .ok (.isub, 1) := by decide +kernel
theorem dX5_text_155 : decode cX5_text 155 = .ok (.ireturn, 1) := by decide +kernel
theorem dX5_text_156 : decode cX5_text 156 = .ok (.aload_n 0, 1) := by decide +kernel
theorem dX5_text_157 : decode cX5_text 157 = .ok (.dup, 1) := by decide +kernel
theorem dX5_text_158 : decode cX5_text 158 = .ok (.getfield 109, 3) := by decide +kernel
theorem dX5_text_161 : decode cX5_text 161 = .ok (.iconst 1, 1) := by decide +kernel
theorem dX5_text_162 : decode cX5_text 162 = .ok (.iadd, 1) := by decide +kernel
theorem dX5_text_163 : decode cX5_text 163 = .ok (.putfield 109, 3) := by decide +kernel
theorem dX5_text_166 : decode cX5_text 166 = .ok (.aload_n 0, 1) := by decide +kernel
theorem dX5_text_167 : decode cX5_text 167 = .ok (.getfield 109, 3) := by decide +kernel
theorem dX5_text_170 : decode cX5_text 170 = .ok (.iconst 1, 1) := by decide +kernel
theorem dX5_text_171 : decode cX5_text 171 = .ok (.isub, 1) := by decide +kernel
theorem dX5_text_172 : decode cX5_text 172 = .ok (.ireturn, 1) := by decide +kernel
def b_X5_text_122 (x1 : Int32) (σ : GM) : Option (Int32 × GM) :=
  grd (((4 : Int32) * (mI σ 4)) + (3 : Int32)) 24 (bnd (some (tA σ 8 (((4 : Int32) * (mI σ 4)) + (3 : Int32)).toNatClampNeg (mI σ 13))) fun σ3 => bnd (some (tI σ3 3 (0 : Int32))) fun σ4 => if x1 ≠ 0 then (bnd (some (tI σ4 4 ((mI σ4 4) + (1 : Int32)))) fun σ5 => some (((mI σ5 4) - (1 : Int32)), σ5)) else (some (((-100 : Int32) - (mI σ4 8)), σ4)))
theorem vb_X5_text_122 {g : Gt} {ad : Nat → Nat} (z : Zt) (x1 : Int32) (σ : GM) : V g (LM ad) 5 RX5 cX5_text 3 (some .int) (wM g ad) iI z (b_X5_text_122 x1 σ) σ 122 [(0, .ref (aMo ad)), (1, .int x1)] [] := by
  unfold b_X5_text_122
  refine v_aload_n (pc := 122) (i := 0) dX5_text_122 rfl rfl ?_
  refine gX5_starts (pc := 123) q_767 dX5_text_123 ?_
  refine v_iconst (pc := 126) dX5_text_126 ic_4 ?_
  refine v_aload_n (pc := 127) (i := 0) dX5_text_127 rfl rfl ?_
  refine gX5_texts (pc := 128) q_768 dX5_text_128 ?_
  refine v_imul (pc := 131) dX5_text_131 ?_
  refine v_iconst (pc := 132) dX5_text_132 ic_3 ?_
  refine v_iadd (pc := 133) dX5_text_133 ?_
  refine v_aload_n (pc := 134) (i := 0) dX5_text_134 rfl rfl ?_
  refine gX5_out (pc := 135) q_786 dX5_text_135 ?_
  refine sM_starts (pc := 138) dX5_text_138 ?_
  refine v_nms (fun σ3 => ?_)
  refine v_aload_n (pc := 139) (i := 0) dX5_text_139 rfl rfl ?_
  refine v_iconst (pc := 140) dX5_text_140 ic_0 ?_
  refine pX5_taped (pc := 141) q_765 dX5_text_141 ?_
  refine v_nms (fun σ4 => ?_)
  refine v_iload_n (pc := 144) (i := 1) dX5_text_144 rfl rfl ?_
  refine v_if_ne (pc := 145) (tgt := 156) dX5_text_145 rfl ?_ ?_
  · refine v_aload_n (pc := 156) (i := 0) dX5_text_156 rfl rfl ?_
    refine v_dup (pc := 157) dX5_text_157 rfl ?_
    refine gX5_texts (pc := 158) q_768 dX5_text_158 ?_
    refine v_iconst (pc := 161) dX5_text_161 ic_1 ?_
    refine v_iadd (pc := 162) dX5_text_162 ?_
    refine pX5_texts (pc := 163) q_768 dX5_text_163 ?_
    refine v_nms (fun σ5 => ?_)
    refine v_aload_n (pc := 166) (i := 0) dX5_text_166 rfl rfl ?_
    refine gX5_texts (pc := 167) q_768 dX5_text_167 ?_
    refine v_iconst (pc := 170) dX5_text_170 ic_1 ?_
    refine v_isub (pc := 171) dX5_text_171 ?_
    exact v_iret (pc := 172) dX5_text_172
  · refine v_bipush (pc := 148) dX5_text_148 bp_m100 ?_
    refine v_aload_n (pc := 150) (i := 0) dX5_text_150 rfl rfl ?_
    refine gX5_begun (pc := 151) q_779 dX5_text_151 ?_
    refine v_isub (pc := 154) dX5_text_154 ?_
    exact v_iret (pc := 155) dX5_text_155
def b_X5_text_101 (x1 : Int32) (σ : GM) : Option (Int32 × GM) :=
  if x1 = 0 then (b_X5_text_122 x1 σ) else (bnd (f_X5_next σ) fun q6 => if (mI q6.2 9) ≠ 0 then (b_X5_text_122 (0 : Int32) q6.2) else (b_X5_text_122 (1 : Int32) q6.2))
theorem vb_X5_text_101 {g : Gt} {ad : Nat → Nat} (z : Zt) (x1 : Int32) (σ : GM) : V g (LM ad) 5 RX5 cX5_text 3 (some .int) (wM g ad) iI z (b_X5_text_101 x1 σ) σ 101 [(0, .ref (aMo ad)), (1, .int x1)] [] := by
  unfold b_X5_text_101
  refine v_iload_n (pc := 101) (i := 1) dX5_text_101 rfl rfl ?_
  refine v_if_eq (pc := 102) (tgt := 122) dX5_text_102 rfl ?_ ?_
  · exact v_sub [0, 1] rfl (vb_X5_text_122 z x1 σ)
  · refine v_aload_n (pc := 105) (i := 0) dX5_text_105 rfl rfl ?_
    refine v_callVv (pc := 106) rcX5 (As := []) (rest := []) (ct_X5_next) mi_X5_next q_711 (by decide) rfl rfl (Nat.le_of_ble_eq_true rfl) dX5_text_106 (fun q6 => ?_)
    refine v_aload_n (pc := 109) (i := 0) dX5_text_109 rfl rfl ?_
    refine gX5_token (pc := 110) q_780 dX5_text_110 ?_
    refine v_if_ne (pc := 113) (tgt := 120) dX5_text_113 rfl ?_ ?_
    · refine v_iconst (pc := 120) dX5_text_120 ic_0 ?_
      refine v_istore_n (pc := 121) (lv' := [(1, .int (0 : Int32)), (0, .ref (aMo ad))]) (i := 1) dX5_text_121 rfl (by decide) rfl ?_
      exact v_sub [1, 0] rfl (vb_X5_text_122 z (0 : Int32) q6.2)
    · refine v_iconst (pc := 116) dX5_text_116 ic_1 ?_
      refine v_goto (pc := 117) (tgt := 121) dX5_text_117 rfl ?_
      refine v_istore_n (pc := 121) (lv' := [(1, .int (1 : Int32)), (0, .ref (aMo ad))]) (i := 1) dX5_text_121 rfl (by decide) rfl ?_
      exact v_sub [1, 0] rfl (vb_X5_text_122 z (1 : Int32) q6.2)
def b_X5_text_60 (kc26 : Int32 → Int32 → GM → Option (Int32 × GM)) (x2 : Int32) (xs0 : Int32) (σ : GM) : Option (Int32 × GM) :=
  grd (((4 : Int32) * (mI σ 4)) + x2) 24 (bnd (some (tA σ 8 (((4 : Int32) * (mI σ 4)) + x2).toNatClampNeg (mI σ 13))) fun σ8 => if xs0 = 0 then (kc26 (0 : Int32) (x2 + (1 : Int32)) σ8) else (bnd (f_X5_eRead σ8) fun q9 => if q9.1 = 0 then (kc26 (0 : Int32) (x2 + (1 : Int32)) q9.2) else (kc26 (1 : Int32) (x2 + (1 : Int32)) q9.2)))
theorem vb_X5_text_60 {g : Gt} {ad : Nat → Nat} (z : Zt) (kc26 : Int32 → Int32 → GM → Option (Int32 × GM)) (hkc26 : ∀ (x1 : Int32) (x2 : Int32) (σ : GM), V g (LM ad) 5 RX5 cX5_text 3 (some .int) (wM g ad) iI z (kc26 x1 x2 σ) σ 26 [(0, .ref (aMo ad)), (1, .int x1), (2, .int x2)] []) (x2 : Int32) (xs0 : Int32) (σ : GM) : V g (LM ad) 5 RX5 cX5_text 3 (some .int) (wM g ad) iI z (b_X5_text_60 kc26 x2 xs0 σ) σ 60 [(0, .ref (aMo ad)), (2, .int x2)] [.int xs0] := by
  unfold b_X5_text_60
  refine v_istore_n (pc := 60) (lv' := [(1, .int xs0), (0, .ref (aMo ad)), (2, .int x2)]) (i := 1) dX5_text_60 rfl (by decide) rfl ?_
  refine v_aload_n (pc := 61) (i := 0) dX5_text_61 rfl rfl ?_
  refine gX5_starts (pc := 62) q_767 dX5_text_62 ?_
  refine v_iconst (pc := 65) dX5_text_65 ic_4 ?_
  refine v_aload_n (pc := 66) (i := 0) dX5_text_66 rfl rfl ?_
  refine gX5_texts (pc := 67) q_768 dX5_text_67 ?_
  refine v_imul (pc := 70) dX5_text_70 ?_
  refine v_iload_n (pc := 71) (i := 2) dX5_text_71 rfl rfl ?_
  refine v_iadd (pc := 72) dX5_text_72 ?_
  refine v_aload_n (pc := 73) (i := 0) dX5_text_73 rfl rfl ?_
  refine gX5_out (pc := 74) q_786 dX5_text_74 ?_
  refine sM_starts (pc := 77) dX5_text_77 ?_
  refine v_nms (fun σ8 => ?_)
  refine v_iload_n (pc := 78) (i := 1) dX5_text_78 rfl rfl ?_
  refine v_if_eq (pc := 79) (tgt := 93) dX5_text_79 rfl ?_ ?_
  · refine v_iconst (pc := 93) dX5_text_93 ic_0 ?_
    refine v_istore_n (pc := 94) (lv' := [(1, .int (0 : Int32)), (0, .ref (aMo ad)), (2, .int x2)]) (i := 1) dX5_text_94 rfl (by decide) rfl ?_
    refine v_iinc (pc := 95) (lv' := [(2, .int (x2 + (1 : Int32))), (1, .int (0 : Int32)), (0, .ref (aMo ad))]) (i := 2) dX5_text_95 rfl ic_1 (by decide) rfl ?_
    refine v_goto (pc := 98) (tgt := 26) dX5_text_98 rfl ?_
    exact v_sub [2, 1, 0] rfl (hkc26 (0 : Int32) (x2 + (1 : Int32)) σ8)
  · refine v_aload_n (pc := 82) (i := 0) dX5_text_82 rfl rfl ?_
    refine v_callVi (pc := 83) rcX5 (As := []) (rest := []) (ct_X5_eRead) mi_X5_eRead q_722 (by decide) rfl rfl (Nat.le_of_ble_eq_true rfl) dX5_text_83 (fun q9 => ?_)
    refine v_if_eq (pc := 86) (tgt := 93) dX5_text_86 rfl ?_ ?_
    · refine v_iconst (pc := 93) dX5_text_93 ic_0 ?_
      refine v_istore_n (pc := 94) (lv' := [(1, .int (0 : Int32)), (0, .ref (aMo ad)), (2, .int x2)]) (i := 1) dX5_text_94 rfl (by decide) rfl ?_
      refine v_iinc (pc := 95) (lv' := [(2, .int (x2 + (1 : Int32))), (1, .int (0 : Int32)), (0, .ref (aMo ad))]) (i := 2) dX5_text_95 rfl ic_1 (by decide) rfl ?_
      refine v_goto (pc := 98) (tgt := 26) dX5_text_98 rfl ?_
      exact v_sub [2, 1, 0] rfl (hkc26 (0 : Int32) (x2 + (1 : Int32)) q9.2)
    · refine v_iconst (pc := 89) dX5_text_89 ic_1 ?_
      refine v_goto (pc := 90) (tgt := 94) dX5_text_90 rfl ?_
      refine v_istore_n (pc := 94) (lv' := [(1, .int (1 : Int32)), (0, .ref (aMo ad)), (2, .int x2)]) (i := 1) dX5_text_94 rfl (by decide) rfl ?_
      refine v_iinc (pc := 95) (lv' := [(2, .int (x2 + (1 : Int32))), (1, .int (1 : Int32)), (0, .ref (aMo ad))]) (i := 2) dX5_text_95 rfl ic_1 (by decide) rfl ?_
      refine v_goto (pc := 98) (tgt := 26) dX5_text_98 rfl ?_
      exact v_sub [2, 1, 0] rfl (hkc26 (1 : Int32) (x2 + (1 : Int32)) q9.2)
def b_X5_text_26 (kc26 : Int32 → Int32 → GM → Option (Int32 × GM)) (x1 : Int32) (x2 : Int32) (σ : GM) : Option (Int32 × GM) :=
  if (3 : Int32) ≤ x2 then (b_X5_text_101 x1 σ) else (if x1 = 0 then (b_X5_text_101 x1 σ) else (bnd (f_X5_next σ) fun q7 => if (mI q7.2 9) ≠ (3 : Int32) then (b_X5_text_60 kc26 x2 (0 : Int32) q7.2) else (if (mI q7.2 10) ≠ x2 then (b_X5_text_60 kc26 x2 (0 : Int32) q7.2) else (b_X5_text_60 kc26 x2 (1 : Int32) q7.2))))
theorem vb_X5_text_26 {g : Gt} {ad : Nat → Nat} (z : Zt) (kc26 : Int32 → Int32 → GM → Option (Int32 × GM)) (hkc26 : ∀ (x1 : Int32) (x2 : Int32) (σ : GM), V g (LM ad) 5 RX5 cX5_text 3 (some .int) (wM g ad) iI z (kc26 x1 x2 σ) σ 26 [(0, .ref (aMo ad)), (1, .int x1), (2, .int x2)] []) (x1 : Int32) (x2 : Int32) (σ : GM) : V g (LM ad) 5 RX5 cX5_text 3 (some .int) (wM g ad) iI z (b_X5_text_26 kc26 x1 x2 σ) σ 26 [(0, .ref (aMo ad)), (1, .int x1), (2, .int x2)] [] := by
  unfold b_X5_text_26
  refine v_iload_n (pc := 26) (i := 2) dX5_text_26 rfl rfl ?_
  refine v_iconst (pc := 27) dX5_text_27 ic_3 ?_
  refine v_icmp_ge (pc := 28) (tgt := 101) dX5_text_28 rfl ?_ ?_
  · exact v_sub [0, 1] rfl (vb_X5_text_101 z x1 σ)
  · refine v_iload_n (pc := 31) (i := 1) dX5_text_31 rfl rfl ?_
    refine v_if_eq (pc := 32) (tgt := 101) dX5_text_32 rfl ?_ ?_
    · exact v_sub [0, 1] rfl (vb_X5_text_101 z x1 σ)
    · refine v_aload_n (pc := 35) (i := 0) dX5_text_35 rfl rfl ?_
      refine v_callVv (pc := 36) rcX5 (As := []) (rest := []) (ct_X5_next) mi_X5_next q_711 (by decide) rfl rfl (Nat.le_of_ble_eq_true rfl) dX5_text_36 (fun q7 => ?_)
      refine v_aload_n (pc := 39) (i := 0) dX5_text_39 rfl rfl ?_
      refine gX5_token (pc := 40) q_780 dX5_text_40 ?_
      refine v_iconst (pc := 43) dX5_text_43 ic_3 ?_
      refine v_icmp_ne (pc := 44) (tgt := 59) dX5_text_44 rfl ?_ ?_
      · refine v_iconst (pc := 59) dX5_text_59 ic_0 ?_
        exact v_sub [0, 2] rfl (vb_X5_text_60 z kc26 hkc26 x2 (0 : Int32) q7.2)
      · refine v_aload_n (pc := 47) (i := 0) dX5_text_47 rfl rfl ?_
        refine gX5_value (pc := 48) q_781 dX5_text_48 ?_
        refine v_iload_n (pc := 51) (i := 2) dX5_text_51 rfl rfl ?_
        refine v_icmp_ne (pc := 52) (tgt := 59) dX5_text_52 rfl ?_ ?_
        · refine v_iconst (pc := 59) dX5_text_59 ic_0 ?_
          exact v_sub [0, 2] rfl (vb_X5_text_60 z kc26 hkc26 x2 (0 : Int32) q7.2)
        · refine v_iconst (pc := 55) dX5_text_55 ic_1 ?_
          refine v_goto (pc := 56) (tgt := 60) dX5_text_56 rfl ?_
          exact v_sub [0, 2] rfl (vb_X5_text_60 z kc26 hkc26 x2 (1 : Int32) q7.2)
def k_X5_text_26 : Nat → Int32 → Int32 → GM → Option (Int32 × GM)
  | 0 => fun _ _ _ => none
  | n + 1 => b_X5_text_26 (k_X5_text_26 n)
theorem vk_X5_text_26 {g : Gt} {ad : Nat → Nat} (z : Zt) : ∀ (n : Nat) (x1 : Int32) (x2 : Int32) (σ : GM), V g (LM ad) 5 RX5 cX5_text 3 (some .int) (wM g ad) iI z (k_X5_text_26 n x1 x2 σ) σ 26 [(0, .ref (aMo ad)), (1, .int x1), (2, .int x2)] [] := by
  intro n
  induction n with
  | zero => intros; exact v_eq rfl v_none
  | succ n ih =>
    intro x1 x2 σ
    exact v_eq rfl (vb_X5_text_26 z _ ih x1 x2 σ)
def f_X5_text (σ : GM) : Option (Int32 × GM) :=
  if (mI σ 4) ≠ (6 : Int32) then (bnd (some (tI σ 7 (0 : Int32))) fun σ1 => bnd (some (tI σ1 13 (0 : Int32))) fun σ2 => k_X5_text_26 FU (1 : Int32) (0 : Int32) σ2) else (some ((-4 : Int32), σ))
theorem vf_X5_text {g : Gt} {ad : Nat → Nat} (z : Zt) (σ : GM) : V g (LM ad) 5 RX5 cX5_text 3 (some .int) (wM g ad) iI z (f_X5_text σ) σ 0 [(0, .ref (aMo ad))] [] := by
  unfold f_X5_text
  refine v_aload_n (pc := 0) (i := 0) dX5_text_0 rfl rfl ?_
  refine gX5_texts (pc := 1) q_768 dX5_text_1 ?_
  refine v_bipush (pc := 4) dX5_text_4 bp_6 ?_
  refine v_icmp_ne (pc := 6) (tgt := 12) dX5_text_6 rfl ?_ ?_
  · refine v_aload_n (pc := 12) (i := 0) dX5_text_12 rfl rfl ?_
    refine v_iconst (pc := 13) dX5_text_13 ic_0 ?_
    refine pX5_at (pc := 14) q_778 dX5_text_14 ?_
    refine v_nms (fun σ1 => ?_)
    refine v_aload_n (pc := 17) (i := 0) dX5_text_17 rfl rfl ?_
    refine v_iconst (pc := 18) dX5_text_18 ic_0 ?_
    refine pX5_out (pc := 19) q_786 dX5_text_19 ?_
    refine v_nms (fun σ2 => ?_)
    refine v_iconst (pc := 22) dX5_text_22 ic_1 ?_
    refine v_istore_n (pc := 23) (lv' := [(1, .int (1 : Int32)), (0, .ref (aMo ad))]) (i := 1) dX5_text_23 rfl (by decide) rfl ?_
    refine v_iconst (pc := 24) dX5_text_24 ic_0 ?_
    refine v_istore_n (pc := 25) (lv' := [(2, .int (0 : Int32)), (1, .int (1 : Int32)), (0, .ref (aMo ad))]) (i := 2) dX5_text_25 rfl (by decide) rfl ?_
    exact v_sub [2, 1, 0] rfl (vk_X5_text_26 z FU (1 : Int32) (0 : Int32) σ2)
  · refine v_bipush (pc := 9) dX5_text_9 bp_m4 ?_
    exact v_iret (pc := 11) dX5_text_11
theorem ct_X5_text {g : Gt} {ad : Nat → Nat} : CT g (LM ad) yX5_text cX5_text 3 (some .int) 5 [.ref (aMo ad)] iI (wM g ad) (f_X5_text) :=
  ct_of_V (own := RX5) (lv0 := [(0, .ref (aMo ad))]) (by decide +kernel) rfl (Nat.le_of_ble_eq_true rfl) rfl (fun z σ => vf_X5_text z σ)
-- LighthouseLiedToModel.force
theorem dX5_force_0 : decode cX5_force 0 = .ok (.iload_n 1, 1) := by decide +kernel
theorem dX5_force_1 : decode cX5_force 1 = .ok (.iconst 0, 1) := by decide +kernel
theorem dX5_force_2 : decode cX5_force 2 = .ok (.aload_n 0, 1) := by decide +kernel
theorem dX5_force_3 : decode cX5_force 3 = .ok (.getfield 109, 3) := by decide +kernel
theorem dX5_force_6 : decode cX5_force 6 = .ok (.iconst 1, 1) := by decide +kernel
theorem dX5_force_7 : decode cX5_force 7 = .ok (.isub, 1) := by decide +kernel
theorem dX5_force_8 : decode cX5_force 8 = .ok (.invokestatic 78, 3) := by decide +kernel
theorem dX5_force_11 : decode cX5_force 11 = .ok (.ifCond .ne 6, 3) := by decide +kernel
theorem dX5_force_14 : decode cX5_force 14 = .ok (.bipush (-2), 2) := by decide +kernel
theorem dX5_force_16 : decode cX5_force 16 = .ok (.ireturn, 1) := by decide +kernel
theorem dX5_force_17 : decode cX5_force 17 = .ok (.aload_n 0, 1) := by decide +kernel
theorem dX5_force_18 : decode cX5_force 18 = .ok (.getfield 112, 3) := by decide +kernel
theorem dX5_force_21 : decode cX5_force 21 = .ok (.istore_n 2, 1) := by decide +kernel
theorem dX5_force_22 : decode cX5_force 22 = .ok (.aload_n 0, 1) := by decide +kernel
theorem dX5_force_23 : decode cX5_force 23 = .ok (.iload_n 1, 1) := by decide +kernel
theorem dX5_force_24 : decode cX5_force 24 = .ok (.putfield 112, 3) := by decide +kernel
theorem dX5_force_27 : decode cX5_force 27 = .ok (.iload_n 2, 1) := by decide +kernel
theorem dX5_force_28 : decode cX5_force 28 = .ok (.ireturn, 1) := by decide +kernel
def f_X5_force (x1 : Int32) (σ : GM) : Option (Int32 × GM) :=
  bnd (f_X5_in x1 (0 : Int32) ((mI σ 4) - (1 : Int32)) σ) fun q1 => if q1.1 ≠ 0 then (bnd (some (mI q1.2 5)) fun w2 => bnd (some (tI q1.2 5 x1)) fun σ3 => some (w2, σ3)) else (some ((-2 : Int32), q1.2))
theorem vf_X5_force {g : Gt} {ad : Nat → Nat} (z : Zt) (x1 : Int32) (σ : GM) : V g (LM ad) 2 RX5 cX5_force 3 (some .int) (wM g ad) iI z (f_X5_force x1 σ) σ 0 [(0, .ref (aMo ad)), (1, .int x1)] [] := by
  unfold f_X5_force
  refine v_iload_n (pc := 0) (i := 1) dX5_force_0 rfl rfl ?_
  refine v_iconst (pc := 1) dX5_force_1 ic_0 ?_
  refine v_aload_n (pc := 2) (i := 0) dX5_force_2 rfl rfl ?_
  refine gX5_texts (pc := 3) q_768 dX5_force_3 ?_
  refine v_iconst (pc := 6) dX5_force_6 ic_1 ?_
  refine v_isub (pc := 7) dX5_force_7 ?_
  refine v_callSi (pc := 8) (av := [.int x1, .int (0 : Int32), .int ((mI σ 4) - (1 : Int32))]) (rest := []) (ct_X5_in x1 (0 : Int32) ((mI σ 4) - (1 : Int32))) mi_X5_in q_715 (by decide) rfl rfl (Nat.le_of_ble_eq_true rfl) dX5_force_8 (fun q1 => ?_)
  refine v_if_ne (pc := 11) (tgt := 17) dX5_force_11 rfl ?_ ?_
  · refine v_aload_n (pc := 17) (i := 0) dX5_force_17 rfl rfl ?_
    refine gX5_rule (pc := 18) q_769 dX5_force_18 ?_
    refine v_nmi (fun w2 => ?_)
    refine v_istore_n (pc := 21) (lv' := [(2, .int w2), (0, .ref (aMo ad)), (1, .int x1)]) (i := 2) dX5_force_21 rfl (by decide) rfl ?_
    refine v_aload_n (pc := 22) (i := 0) dX5_force_22 rfl rfl ?_
    refine v_iload_n (pc := 23) (i := 1) dX5_force_23 rfl rfl ?_
    refine pX5_rule (pc := 24) q_769 dX5_force_24 ?_
    refine v_nms (fun σ3 => ?_)
    refine v_iload_n (pc := 27) (i := 2) dX5_force_27 rfl rfl ?_
    exact v_iret (pc := 28) dX5_force_28
  · refine v_bipush (pc := 14) dX5_force_14 bp_m2 ?_
    exact v_iret (pc := 16) dX5_force_16
theorem ct_X5_force {g : Gt} {ad : Nat → Nat} (x1 : Int32) : CT g (LM ad) yX5_force cX5_force 3 (some .int) 2 [.ref (aMo ad), .int x1] iI (wM g ad) (f_X5_force x1) :=
  ct_of_V (own := RX5) (lv0 := [(0, .ref (aMo ad)), (1, .int x1)]) (by decide +kernel) rfl (Nat.le_of_ble_eq_true rfl) rfl (fun z σ => vf_X5_force z x1 σ)
-- LighthouseLiedToModel.isShip
theorem dX5_isShip_0 : decode cX5_isShip 0 = .ok (.iload_n 1, 1) := by decide +kernel
theorem dX5_isShip_1 : decode cX5_isShip 1 = .ok (.iconst 0, 1) := by decide +kernel
theorem dX5_isShip_2 : decode cX5_isShip 2 = .ok (.aload_n 0, 1) := by decide +kernel
theorem dX5_isShip_3 : decode cX5_isShip 3 = .ok (.getfield 82, 3) := by decide +kernel
theorem dX5_isShip_6 : decode cX5_isShip 6 = .ok (.iconst 1, 1) := by decide +kernel
theorem dX5_isShip_7 : decode cX5_isShip 7 = .ok (.isub, 1) := by decide +kernel
theorem dX5_isShip_8 : decode cX5_isShip 8 = .ok (.invokestatic 78, 3) := by decide +kernel
theorem dX5_isShip_11 : decode cX5_isShip 11 = .ok (.ireturn, 1) := by decide +kernel
def f_X5_isShip (x1 : Int32) (σ : GM) : Option (Int32 × GM) :=
  bnd (f_X5_in x1 (0 : Int32) ((mI σ 0) - (1 : Int32)) σ) fun q1 => if q1.1 = 0 ∨ q1.1 = 1 then some (q1.1, q1.2) else none
theorem vf_X5_isShip {g : Gt} {ad : Nat → Nat} (z : Zt) (x1 : Int32) (σ : GM) : V g (LM ad) 2 RX5 cX5_isShip 2 (some .boolean) (wM g ad) iI z (f_X5_isShip x1 σ) σ 0 [(0, .ref (aMo ad)), (1, .int x1)] [] := by
  unfold f_X5_isShip
  refine v_iload_n (pc := 0) (i := 1) dX5_isShip_0 rfl rfl ?_
  refine v_iconst (pc := 1) dX5_isShip_1 ic_0 ?_
  refine v_aload_n (pc := 2) (i := 0) dX5_isShip_2 rfl rfl ?_
  refine gX5_ships (pc := 3) q_754 dX5_isShip_3 ?_
  refine v_iconst (pc := 6) dX5_isShip_6 ic_1 ?_
  refine v_isub (pc := 7) dX5_isShip_7 ?_
  refine v_callSi (pc := 8) (av := [.int x1, .int (0 : Int32), .int ((mI σ 0) - (1 : Int32))]) (rest := []) (ct_X5_in x1 (0 : Int32) ((mI σ 0) - (1 : Int32))) mi_X5_in q_715 (by decide) rfl rfl (Nat.le_of_ble_eq_true rfl) dX5_isShip_8 (fun q1 => ?_)
  exact v_zret (pc := 11) dX5_isShip_11
theorem ct_X5_isShip {g : Gt} {ad : Nat → Nat} (x1 : Int32) : CT g (LM ad) yX5_isShip cX5_isShip 2 (some .boolean) 2 [.ref (aMo ad), .int x1] iI (wM g ad) (f_X5_isShip x1) :=
  ct_of_V (own := RX5) (lv0 := [(0, .ref (aMo ad)), (1, .int x1)]) (by decide +kernel) rfl (Nat.le_of_ble_eq_true rfl) rfl (fun z σ => vf_X5_isShip z x1 σ)
-- LighthouseLiedToModel.two
theorem dX5_two_0 : decode cX5_two 0 = .ok (.iload_n 0, 1) := by decide +kernel
theorem dX5_two_1 : decode cX5_two 1 = .ok (.tableswitch 101 11 17 #[43, 57, 101, 71, 82, 93, 97], 43) := by decide +kernel
theorem dX5_two_44 : decode cX5_two 44 = .ok (.iload_n 1, 1) := by decide +kernel
theorem dX5_two_45 : decode cX5_two 45 = .ok (.ifCond .ne 7, 3) := by decide +kernel
theorem dX5_two_48 : decode cX5_two 48 = .ok (.iload_n 2, 1) := by decide +kernel
theorem dX5_two_49 : decode cX5_two 49 = .ok (.ifCond .eq 7, 3) := by decide +kernel
theorem dX5_two_52 : decode cX5_two 52 = .ok (.iconst 1, 1) := by decide +kernel
theorem dX5_two_53 : decode cX5_two 53 = .ok (.goto 4, 3) := by decide +kernel
theorem dX5_two_56 : decode cX5_two 56 = .ok (.iconst 0, 1) := by decide +kernel
theorem dX5_two_57 : decode cX5_two 57 = .ok (.ireturn, 1) := by decide +kernel
theorem dX5_two_58 : decode cX5_two 58 = .ok (.iload_n 1, 1) := by decide +kernel
theorem dX5_two_59 : decode cX5_two 59 = .ok (.ifCond .eq 11, 3) := by decide +kernel
theorem dX5_two_62 : decode cX5_two 62 = .ok (.iload_n 2, 1) := by decide +kernel
theorem dX5_two_63 : decode cX5_two 63 = .ok (.ifCond .eq 7, 3) := by decide +kernel
theorem dX5_two_66 : decode cX5_two 66 = .ok (.iconst 1, 1) := by decide +kernel
theorem dX5_two_67 : decode cX5_two 67 = .ok (.goto 4, 3) := by decide +kernel
theorem dX5_two_70 : decode cX5_two 70 = .ok (.iconst 0, 1) := by decide +kernel
theorem dX5_two_71 : decode cX5_two 71 = .ok (.ireturn, 1) := by decide +kernel
theorem dX5_two_72 : decode cX5_two 72 = .ok (.iload_n 1, 1) := by decide +kernel
theorem dX5_two_73 : decode cX5_two 73 = .ok (.iload_n 2, 1) := by decide +kernel
theorem dX5_two_74 : decode cX5_two 74 = .ok (.if_icmp .ge 7, 3) := by decide +kernel
theorem dX5_two_77 : decode cX5_two 77 = .ok (.iconst 1, 1) := by decide +kernel
theorem dX5_two_78 : decode cX5_two 78 = .ok (.goto 4, 3) := by decide +kernel
theorem dX5_two_81 : decode cX5_two 81 = .ok (.iconst 0, 1) := by decide +kernel
theorem dX5_two_82 : decode cX5_two 82 = .ok (.ireturn, 1) := by decide +kernel
theorem dX5_two_83 : decode cX5_two 83 = .ok (.iload_n 1, 1) := by decide +kernel
theorem dX5_two_84 : decode cX5_two 84 = .ok (.iload_n 2, 1) := by decide +kernel
theorem dX5_two_85 : decode cX5_two 85 = .ok (.if_icmp .ne 7, 3) := by decide +kernel
theorem dX5_two_88 : decode cX5_two 88 = .ok (.iconst 1, 1) := by decide +kernel
theorem dX5_two_89 : decode cX5_two 89 = .ok (.goto 4, 3) := by decide +kernel
theorem dX5_two_92 : decode cX5_two 92 = .ok (.iconst 0, 1) := by decide +kernel
theorem dX5_two_93 : decode cX5_two 93 = .ok (.ireturn, 1) := by decide +kernel
theorem dX5_two_94 : decode cX5_two 94 = .ok (.iload_n 1, 1) := by decide +kernel
theorem dX5_two_95 : decode cX5_two 95 = .ok (.iload_n 2, 1) := by decide +kernel
theorem dX5_two_96 : decode cX5_two 96 = .ok (.iadd, 1) := by decide +kernel
theorem dX5_two_97 : decode cX5_two 97 = .ok (.ireturn, 1) := by decide +kernel
theorem dX5_two_98 : decode cX5_two 98 = .ok (.iload_n 1, 1) := by decide +kernel
theorem dX5_two_99 : decode cX5_two 99 = .ok (.iload_n 2, 1) := by decide +kernel
theorem dX5_two_100 : decode cX5_two 100 = .ok (.isub, 1) := by decide +kernel
theorem dX5_two_101 : decode cX5_two 101 = .ok (.ireturn, 1) := by decide +kernel
theorem dX5_two_102 : decode cX5_two 102 = .ok (.iload_n 1, 1) := by decide +kernel
theorem dX5_two_103 : decode cX5_two 103 = .ok (.iload_n 2, 1) := by decide +kernel
theorem dX5_two_104 : decode cX5_two 104 = .ok (.imul, 1) := by decide +kernel
theorem dX5_two_105 : decode cX5_two 105 = .ok (.ireturn, 1) := by decide +kernel
def f_X5_two (x0 : Int32) (x1 : Int32) (x2 : Int32) (σ : GM) : Option (Int32 × GM) :=
  if x0 = (11 : Int32) then (if x1 ≠ 0 then (some ((1 : Int32), σ)) else (if x2 = 0 then (some ((0 : Int32), σ)) else (some ((1 : Int32), σ)))) else (if x0 = (12 : Int32) then (if x1 = 0 then (some ((0 : Int32), σ)) else (if x2 = 0 then (some ((0 : Int32), σ)) else (some ((1 : Int32), σ)))) else (if x0 = (13 : Int32) then (some ((x1 * x2), σ)) else (if x0 = (14 : Int32) then (if x2 ≤ x1 then (some ((0 : Int32), σ)) else (some ((1 : Int32), σ))) else (if x0 = (15 : Int32) then (if x1 ≠ x2 then (some ((0 : Int32), σ)) else (some ((1 : Int32), σ))) else (if x0 = (16 : Int32) then (some ((x1 + x2), σ)) else (if x0 = (17 : Int32) then (some ((x1 - x2), σ)) else (some ((x1 * x2), σ))))))))
theorem vf_X5_two {g : Gt} {ad : Nat → Nat} (z : Zt) (x0 : Int32) (x1 : Int32) (x2 : Int32) (σ : GM) : V g (LM ad) 1 RX5 cX5_two 3 (some .int) (wM g ad) iI z (f_X5_two x0 x1 x2 σ) σ 0 [(0, .int x0), (1, .int x1), (2, .int x2)] [] := by
  unfold f_X5_two
  refine v_iload_n (pc := 0) (i := 0) dX5_two_0 rfl rfl ?_
  refine v_case (c := x0 = (11 : Int32)) (fun hx => ?_) (fun hc1_0 => ?_)
  · refine v_tin (pc := 1) (tgt := 44) (off := 43) hx dX5_two_1 (by decide) (by decide) rfl rfl ?_
    refine v_iload_n (pc := 44) (i := 1) dX5_two_44 rfl rfl ?_
    refine v_if_ne (pc := 45) (tgt := 52) dX5_two_45 rfl ?_ ?_
    · refine v_iconst (pc := 52) dX5_two_52 ic_1 ?_
      refine v_goto (pc := 53) (tgt := 57) dX5_two_53 rfl ?_
      exact v_iret (pc := 57) dX5_two_57
    · refine v_iload_n (pc := 48) (i := 2) dX5_two_48 rfl rfl ?_
      refine v_if_eq (pc := 49) (tgt := 56) dX5_two_49 rfl ?_ ?_
      · refine v_iconst (pc := 56) dX5_two_56 ic_0 ?_
        exact v_iret (pc := 57) dX5_two_57
      · refine v_iconst (pc := 52) dX5_two_52 ic_1 ?_
        refine v_goto (pc := 53) (tgt := 57) dX5_two_53 rfl ?_
        exact v_iret (pc := 57) dX5_two_57
  refine v_case (c := x0 = (12 : Int32)) (fun hx => ?_) (fun hc1_1 => ?_)
  · refine v_tin (pc := 1) (tgt := 58) (off := 57) hx dX5_two_1 (by decide) (by decide) rfl rfl ?_
    refine v_iload_n (pc := 58) (i := 1) dX5_two_58 rfl rfl ?_
    refine v_if_eq (pc := 59) (tgt := 70) dX5_two_59 rfl ?_ ?_
    · refine v_iconst (pc := 70) dX5_two_70 ic_0 ?_
      exact v_iret (pc := 71) dX5_two_71
    · refine v_iload_n (pc := 62) (i := 2) dX5_two_62 rfl rfl ?_
      refine v_if_eq (pc := 63) (tgt := 70) dX5_two_63 rfl ?_ ?_
      · refine v_iconst (pc := 70) dX5_two_70 ic_0 ?_
        exact v_iret (pc := 71) dX5_two_71
      · refine v_iconst (pc := 66) dX5_two_66 ic_1 ?_
        refine v_goto (pc := 67) (tgt := 71) dX5_two_67 rfl ?_
        exact v_iret (pc := 71) dX5_two_71
  refine v_case (c := x0 = (13 : Int32)) (fun hx => ?_) (fun hc1_2 => ?_)
  · refine v_tin (pc := 1) (tgt := 102) (off := 101) hx dX5_two_1 (by decide) (by decide) rfl rfl ?_
    refine v_iload_n (pc := 102) (i := 1) dX5_two_102 rfl rfl ?_
    refine v_iload_n (pc := 103) (i := 2) dX5_two_103 rfl rfl ?_
    refine v_imul (pc := 104) dX5_two_104 ?_
    exact v_iret (pc := 105) dX5_two_105
  refine v_case (c := x0 = (14 : Int32)) (fun hx => ?_) (fun hc1_3 => ?_)
  · refine v_tin (pc := 1) (tgt := 72) (off := 71) hx dX5_two_1 (by decide) (by decide) rfl rfl ?_
    refine v_iload_n (pc := 72) (i := 1) dX5_two_72 rfl rfl ?_
    refine v_iload_n (pc := 73) (i := 2) dX5_two_73 rfl rfl ?_
    refine v_icmp_ge (pc := 74) (tgt := 81) dX5_two_74 rfl ?_ ?_
    · refine v_iconst (pc := 81) dX5_two_81 ic_0 ?_
      exact v_iret (pc := 82) dX5_two_82
    · refine v_iconst (pc := 77) dX5_two_77 ic_1 ?_
      refine v_goto (pc := 78) (tgt := 82) dX5_two_78 rfl ?_
      exact v_iret (pc := 82) dX5_two_82
  refine v_case (c := x0 = (15 : Int32)) (fun hx => ?_) (fun hc1_4 => ?_)
  · refine v_tin (pc := 1) (tgt := 83) (off := 82) hx dX5_two_1 (by decide) (by decide) rfl rfl ?_
    refine v_iload_n (pc := 83) (i := 1) dX5_two_83 rfl rfl ?_
    refine v_iload_n (pc := 84) (i := 2) dX5_two_84 rfl rfl ?_
    refine v_icmp_ne (pc := 85) (tgt := 92) dX5_two_85 rfl ?_ ?_
    · refine v_iconst (pc := 92) dX5_two_92 ic_0 ?_
      exact v_iret (pc := 93) dX5_two_93
    · refine v_iconst (pc := 88) dX5_two_88 ic_1 ?_
      refine v_goto (pc := 89) (tgt := 93) dX5_two_89 rfl ?_
      exact v_iret (pc := 93) dX5_two_93
  refine v_case (c := x0 = (16 : Int32)) (fun hx => ?_) (fun hc1_5 => ?_)
  · refine v_tin (pc := 1) (tgt := 94) (off := 93) hx dX5_two_1 (by decide) (by decide) rfl rfl ?_
    refine v_iload_n (pc := 94) (i := 1) dX5_two_94 rfl rfl ?_
    refine v_iload_n (pc := 95) (i := 2) dX5_two_95 rfl rfl ?_
    refine v_iadd (pc := 96) dX5_two_96 ?_
    exact v_iret (pc := 97) dX5_two_97
  refine v_case (c := x0 = (17 : Int32)) (fun hx => ?_) (fun hc1_6 => ?_)
  · refine v_tin (pc := 1) (tgt := 98) (off := 97) hx dX5_two_1 (by decide) (by decide) rfl rfl ?_
    refine v_iload_n (pc := 98) (i := 1) dX5_two_98 rfl rfl ?_
    refine v_iload_n (pc := 99) (i := 2) dX5_two_99 rfl rfl ?_
    refine v_isub (pc := 100) dX5_two_100 ?_
    exact v_iret (pc := 101) dX5_two_101
  refine v_tout (pc := 1) (tgt := 102) dX5_two_1 (by have e0 := tsw_ne (a := 11) hc1_0 rfl; have e1 := tsw_ne (a := 12) hc1_1 rfl; have e2 := tsw_ne (a := 13) hc1_2 rfl; have e3 := tsw_ne (a := 14) hc1_3 rfl; have e4 := tsw_ne (a := 15) hc1_4 rfl; have e5 := tsw_ne (a := 16) hc1_5 rfl; have e6 := tsw_ne (a := 17) hc1_6 rfl; omega) rfl ?_
  refine v_iload_n (pc := 102) (i := 1) dX5_two_102 rfl rfl ?_
  refine v_iload_n (pc := 103) (i := 2) dX5_two_103 rfl rfl ?_
  refine v_imul (pc := 104) dX5_two_104 ?_
  exact v_iret (pc := 105) dX5_two_105
theorem ct_X5_two {g : Gt} {ad : Nat → Nat} (x0 : Int32) (x1 : Int32) (x2 : Int32) : CT g (LM ad) yX5_two cX5_two 3 (some .int) 1 [.int x0, .int x1, .int x2] iI (wM g ad) (f_X5_two x0 x1 x2) :=
  ct_of_V (own := RX5) (lv0 := [(0, .int x0), (1, .int x1), (2, .int x2)]) (by decide +kernel) rfl (Nat.le_of_ble_eq_true rfl) rfl (fun z σ => vf_X5_two z x0 x1 x2 σ)
-- LighthouseLiedToModel.says
theorem dX5_says_0 : decode cX5_says 0 = .ok (.iconst 0, 1) := by decide +kernel
theorem dX5_says_1 : decode cX5_says 1 = .ok (.istore_n 2, 1) := by decide +kernel
theorem dX5_says_2 : decode cX5_says 2 = .ok (.aload_n 0, 1) := by decide +kernel
theorem dX5_says_3 : decode cX5_says 3 = .ok (.getfield 34, 3) := by decide +kernel
theorem dX5_says_6 : decode cX5_says 6 = .ok (.iconst 4, 1) := by decide +kernel
theorem dX5_says_7 : decode cX5_says 7 = .ok (.aload_n 0, 1) := by decide +kernel
theorem dX5_says_8 : decode cX5_says 8 = .ok (.getfield 112, 3) := by decide +kernel
theorem dX5_says_11 : decode cX5_says 11 = .ok (.imul, 1) := by decide +kernel
theorem dX5_says_12 : decode cX5_says 12 = .ok (.iload_n 1, 1) := by decide +kernel
theorem dX5_says_13 : decode cX5_says 13 = .ok (.iadd, 1) := by decide +kernel
theorem dX5_says_14 : decode cX5_says 14 = .ok (.iaload, 1) := by decide +kernel
theorem dX5_says_15 : decode cX5_says 15 = .ok (.istore_n 3, 1) := by decide +kernel
theorem dX5_says_16 : decode cX5_says 16 = .ok (.iload_n 3, 1) := by decide +kernel
theorem dX5_says_17 : decode cX5_says 17 = .ok (.aload_n 0, 1) := by decide +kernel
theorem dX5_says_18 : decode cX5_says 18 = .ok (.getfield 34, 3) := by decide +kernel
theorem dX5_says_21 : decode cX5_says 21 = .ok (.iconst 4, 1) := by decide +kernel
theorem dX5_says_22 : decode cX5_says 22 = .ok (.aload_n 0, 1) := by decide +kernel
theorem dX5_says_23 : decode cX5_says 23 = .ok (.getfield 112, 3) := by decide +kernel
theorem dX5_says_26 : decode cX5_says 26 = .ok (.imul, 1) := by decide +kernel
theorem dX5_says_27 : decode cX5_says 27 = .ok (.iload_n 1, 1) := by decide +kernel
theorem dX5_says_28 : decode cX5_says 28 = .ok (.iadd, 1) := by decide +kernel
theorem dX5_says_29 : decode cX5_says 29 = .ok (.iconst 1, 1) := by decide +kernel
theorem dX5_says_30 : decode cX5_says 30 = .ok (.iadd, 1) := by decide +kernel
theorem dX5_says_31 : decode cX5_says 31 = .ok (.iaload, 1) := by decide +kernel
theorem dX5_says_32 : decode cX5_says 32 = .ok (.if_icmp .ge 165, 3) := by decide +kernel
theorem dX5_says_35 : decode cX5_says 35 = .ok (.aload_n 0, 1) := by decide +kernel
theorem dX5_says_36 : decode cX5_says 36 = .ok (.getfield 31, 3) := by decide +kernel
theorem dX5_says_39 : decode cX5_says 39 = .ok (.sipush 200, 3) := by decide +kernel
theorem dX5_says_42 : decode cX5_says 42 = .ok (.aload_n 0, 1) := by decide +kernel
theorem dX5_says_43 : decode cX5_says 43 = .ok (.getfield 112, 3) := by decide +kernel
theorem dX5_says_46 : decode cX5_says 46 = .ok (.imul, 1) := by decide +kernel
theorem dX5_says_47 : decode cX5_says 47 = .ok (.iload_n 3, 1) := by decide +kernel
theorem dX5_says_48 : decode cX5_says 48 = .ok (.iadd, 1) := by decide +kernel
theorem dX5_says_49 : decode cX5_says 49 = .ok (.iaload, 1) := by decide +kernel
theorem dX5_says_50 : decode cX5_says 50 = .ok (.istore 4, 2) := by decide +kernel
theorem dX5_says_52 : decode cX5_says 52 = .ok (.iload 4, 2) := by decide +kernel
theorem dX5_says_54 : decode cX5_says 54 = .ok (.ldc 172, 2) := by decide +kernel
theorem dX5_says_56 : decode cX5_says 56 = .ok (.if_icmp .ge 10, 3) := by decide +kernel
theorem dX5_says_59 : decode cX5_says 59 = .ok (.iload 4, 2) := by decide +kernel
theorem dX5_says_61 : decode cX5_says 61 = .ok (.bipush 11, 2) := by decide +kernel
theorem dX5_says_63 : decode cX5_says 63 = .ok (.if_icmp .ge 37, 3) := by decide +kernel
theorem dX5_says_66 : decode cX5_says 66 = .ok (.aload_n 0, 1) := by decide +kernel
theorem dX5_says_67 : decode cX5_says 67 = .ok (.getfield 61, 3) := by decide +kernel
theorem dX5_says_70 : decode cX5_says 70 = .ok (.iload_n 2, 1) := by decide +kernel
theorem dX5_says_71 : decode cX5_says 71 = .ok (.iload 4, 2) := by decide +kernel
theorem dX5_says_73 : decode cX5_says 73 = .ok (.bipush 11, 2) := by decide +kernel
theorem dX5_says_75 : decode cX5_says 75 = .ok (.if_icmp .ge 13, 3) := by decide +kernel
theorem dX5_says_78 : decode cX5_says 78 = .ok (.aload_n 0, 1) := by decide +kernel
theorem dX5_says_79 : decode cX5_says 79 = .ok (.getfield 64, 3) := by decide +kernel
theorem dX5_says_82 : decode cX5_says 82 = .ok (.iload 4, 2) := by decide +kernel
theorem dX5_says_84 : decode cX5_says 84 = .ok (.iaload, 1) := by decide +kernel
theorem dX5_says_85 : decode cX5_says 85 = .ok (.goto 8, 3) := by decide +kernel
theorem dX5_says_88 : decode cX5_says 88 = .ok (.iload 4, 2) := by decide +kernel
theorem dX5_says_90 : decode cX5_says 90 = .ok (.ldc 172, 2) := by decide +kernel
theorem dX5_says_92 : decode cX5_says 92 = .ok (.isub, 1) := by decide +kernel
theorem dX5_says_93 : decode cX5_says 93 = .ok (.iastore, 1) := by decide +kernel
theorem dX5_says_94 : decode cX5_says 94 = .ok (.iinc 2 1, 3) := by decide +kernel
theorem dX5_says_97 : decode cX5_says 97 = .ok (.goto 94, 3) := by decide +kernel
theorem dX5_says_100 : decode cX5_says 100 = .ok (.iload 4, 2) := by decide +kernel
theorem dX5_says_102 : decode cX5_says 102 = .ok (.bipush 13, 2) := by decide +kernel
theorem dX5_says_104 : decode cX5_says 104 = .ok (.if_icmp .ne 30, 3) := by decide +kernel
theorem dX5_says_107 : decode cX5_says 107 = .ok (.aload_n 0, 1) := by decide +kernel
theorem dX5_says_108 : decode cX5_says 108 = .ok (.getfield 61, 3) := by decide +kernel
theorem dX5_says_111 : decode cX5_says 111 = .ok (.iload_n 2, 1) := by decide +kernel
theorem dX5_says_112 : decode cX5_says 112 = .ok (.iconst 1, 1) := by decide +kernel
theorem dX5_says_113 : decode cX5_says 113 = .ok (.isub, 1) := by decide +kernel
theorem dX5_says_114 : decode cX5_says 114 = .ok (.aload_n 0, 1) := by decide +kernel
theorem dX5_says_115 : decode cX5_says 115 = .ok (.getfield 61, 3) := by decide +kernel
theorem dX5_says_118 : decode cX5_says 118 = .ok (.iload_n 2, 1) := by decide +kernel
theorem dX5_says_119 : decode cX5_says 119 = .ok (.iconst 1, 1) := by decide +kernel
theorem dX5_says_120 : decode cX5_says 120 = .ok (.isub, 1) := by decide +kernel
theorem dX5_says_121 : decode cX5_says 121 = .ok (.iaload, 1) := by decide +kernel
theorem dX5_says_122 : decode cX5_says 122 = .ok (.ifCond .ne 7, 3) := by decide +kernel
theorem dX5_says_125 : decode cX5_says 125 = .ok (.iconst 1, 1) := by decide +kernel
theorem dX5_says_126 : decode cX5_says 126 = .ok (.goto 4, 3) := by decide +kernel
theorem dX5_says_129 : decode cX5_says 129 = .ok (.iconst 0, 1) := by decide +kernel
theorem dX5_says_130 : decode cX5_says 130 = .ok (.iastore, 1) := by decide +kernel
theorem dX5_says_131 : decode cX5_says 131 = .ok (.goto 60, 3) := by decide +kernel
theorem dX5_says_134 : decode cX5_says 134 = .ok (.iload 4, 2) := by decide +kernel
theorem dX5_says_136 : decode cX5_says 136 = .ok (.bipush 19, 2) := by decide +kernel
theorem dX5_says_138 : decode cX5_says 138 = .ok (.if_icmp .ne 23, 3) := by decide +kernel
theorem dX5_says_141 : decode cX5_says 141 = .ok (.aload_n 0, 1) := by decide +kernel
theorem dX5_says_142 : decode cX5_says 142 = .ok (.getfield 61, 3) := by decide +kernel
theorem dX5_says_145 : decode cX5_says 145 = .ok (.iload_n 2, 1) := by decide +kernel
theorem dX5_says_146 : decode cX5_says 146 = .ok (.iconst 1, 1) := by decide +kernel
theorem dX5_says_147 : decode cX5_says 147 = .ok (.isub, 1) := by decide +kernel
theorem dX5_says_148 : decode cX5_says 148 = .ok (.aload_n 0, 1) := by decide +kernel
theorem dX5_says_149 : decode cX5_says 149 = .ok (.getfield 61, 3) := by decide +kernel
theorem dX5_says_152 : decode cX5_says 152 = .ok (.iload_n 2, 1) := by decide +kernel
theorem dX5_says_153 : decode cX5_says 153 = .ok (.iconst 1, 1) := by decide +kernel
theorem dX5_says_154 : decode cX5_says 154 = .ok (.isub, 1) := by decide +kernel
theorem dX5_says_155 : decode cX5_says 155 = .ok (.iaload, 1) := by decide +kernel
theorem dX5_says_156 : decode cX5_says 156 = .ok (.ineg, 1) := by decide +kernel
theorem dX5_says_157 : decode cX5_says 157 = .ok (.iastore, 1) := by decide +kernel
theorem dX5_says_158 : decode cX5_says 158 = .ok (.goto 33, 3) := by decide +kernel
theorem dX5_says_161 : decode cX5_says 161 = .ok (.iinc 2 (-1), 3) := by decide +kernel
theorem dX5_says_164 : decode cX5_says 164 = .ok (.aload_n 0, 1) := by decide +kernel
theorem dX5_says_165 : decode cX5_says 165 = .ok (.getfield 61, 3) := by decide +kernel
theorem dX5_says_168 : decode cX5_says 168 = .ok (.iload_n 2, 1) := by decide +kernel
theorem dX5_says_169 : decode cX5_says 169 = .ok (.iconst 1, 1) := by decide +kernel
theorem dX5_says_170 : decode cX5_says 170 = .ok (.isub, 1) := by decide +kernel
theorem dX5_says_171 : decode cX5_says 171 = .ok (.iload 4, 2) := by decide +kernel
theorem dX5_says_173 : decode cX5_says 173 = .ok (.aload_n 0, 1) := by decide +kernel
theorem dX5_says_174 : decode cX5_says 174 = .ok (.getfield 61, 3) := by decide +kernel
theorem dX5_says_177 : decode cX5_says 177 = .ok (.iload_n 2, 1) := by decide +kernel
theorem dX5_says_178 : decode cX5_says 178 = .ok (.iconst 1, 1) := by decide +kernel
theorem dX5_says_179 : decode cX5_says 179 = .ok (.isub, 1) := by decide +kernel
theorem dX5_says_180 : decode cX5_says 180 = .ok (.iaload, 1) := by decide +kernel
theorem dX5_says_181 : decode cX5_says 181 = .ok (.aload_n 0, 1) := by decide +kernel
theorem dX5_says_182 : decode cX5_says 182 = .ok (.getfield 61, 3) := by decide +kernel
theorem dX5_says_185 : decode cX5_says 185 = .ok (.iload_n 2, 1) := by decide +kernel
theorem dX5_says_186 : decode cX5_says 186 = .ok (.iaload, 1) := by decide +kernel
theorem dX5_says_187 : decode cX5_says 187 = .ok (.invokestatic 186, 3) := by decide +kernel
theorem dX5_says_190 : decode cX5_says 190 = .ok (.iastore, 1) := by decide +kernel
theorem dX5_says_191 : decode cX5_says 191 = .ok (.iinc 3 1, 3) := by decide +kernel
theorem dX5_says_194 : decode cX5_says 194 = .ok (.goto (-178), 3) := by decide +kernel
theorem dX5_says_197 : decode cX5_says 197 = .ok (.aload_n 0, 1) := by decide +kernel
theorem dX5_says_198 : decode cX5_says 198 = .ok (.getfield 61, 3) := by decide +kernel
theorem dX5_says_201 : decode cX5_says 201 = .ok (.iconst 0, 1) := by decide +kernel
theorem dX5_says_202 : decode cX5_says 202 = .ok (.iaload, 1) := by decide +kernel
theorem dX5_says_203 : decode cX5_says 203 = .ok (.ireturn, 1) := by decide +kernel
def b_X5_says_66 (kc16 : Int32 → Int32 → Int32 → GM → Option (Int32 × GM)) (x1 : Int32) (x2 : Int32) (x3 : Int32) (x4 : Int32) (σ : GM) : Option (Int32 × GM) :=
  if (11 : Int32) ≤ x4 then (grd x2 200 (bnd (some (tA σ 17 x2.toNatClampNeg (x4 - (100000 : Int32)))) fun σ3 => kc16 x1 (x2 + (1 : Int32)) (x3 + (1 : Int32)) σ3)) else (grd x4 6 (grd x2 200 (bnd (some (tA σ 17 x2.toNatClampNeg (mA σ 18 x4.toNatClampNeg))) fun σ4 => kc16 x1 (x2 + (1 : Int32)) (x3 + (1 : Int32)) σ4)))
theorem vb_X5_says_66 {g : Gt} {ad : Nat → Nat} (z : Zt) (kc16 : Int32 → Int32 → Int32 → GM → Option (Int32 × GM)) (hkc16 : ∀ (x1 : Int32) (x2 : Int32) (x3 : Int32) (σ : GM), V g (LM ad) 2 RX5 cX5_says 5 (some .int) (wM g ad) iI z (kc16 x1 x2 x3 σ) σ 16 [(0, .ref (aMo ad)), (1, .int x1), (2, .int x2), (3, .int x3)] []) (x1 : Int32) (x2 : Int32) (x3 : Int32) (x4 : Int32) (σ : GM) : V g (LM ad) 2 RX5 cX5_says 5 (some .int) (wM g ad) iI z (b_X5_says_66 kc16 x1 x2 x3 x4 σ) σ 66 [(0, .ref (aMo ad)), (1, .int x1), (2, .int x2), (3, .int x3), (4, .int x4)] [] := by
  unfold b_X5_says_66
  refine v_aload_n (pc := 66) (i := 0) dX5_says_66 rfl rfl ?_
  refine gX5_stack (pc := 67) q_787 dX5_says_67 ?_
  refine v_iload_n (pc := 70) (i := 2) dX5_says_70 rfl rfl ?_
  refine v_iload (pc := 71) (i := 4) dX5_says_71 rfl ?_
  refine v_bipush (pc := 73) dX5_says_73 bp_11 ?_
  refine v_icmp_ge (pc := 75) (tgt := 88) dX5_says_75 rfl ?_ ?_
  · refine v_iload (pc := 88) (i := 4) dX5_says_88 rfl ?_
    refine v_ldc (pc := 90) dX5_says_90 q_726 ?_
    refine v_isub (pc := 92) dX5_says_92 ?_
    refine sM_stack (pc := 93) dX5_says_93 ?_
    refine v_nms (fun σ3 => ?_)
    refine v_iinc (pc := 94) (lv' := [(2, .int (x2 + (1 : Int32))), (0, .ref (aMo ad)), (1, .int x1), (3, .int x3), (4, .int x4)]) (i := 2) dX5_says_94 rfl ic_1 (by decide) rfl ?_
    refine v_goto (pc := 97) (tgt := 191) dX5_says_97 rfl ?_
    refine v_iinc (pc := 191) (lv' := [(3, .int (x3 + (1 : Int32))), (2, .int (x2 + (1 : Int32))), (0, .ref (aMo ad)), (1, .int x1), (4, .int x4)]) (i := 3) dX5_says_191 rfl ic_1 (by decide) rfl ?_
    refine v_goto (pc := 194) (tgt := 16) dX5_says_194 rfl ?_
    exact v_sub [2, 3, 1, 0] rfl (hkc16 x1 (x2 + (1 : Int32)) (x3 + (1 : Int32)) σ3)
  · refine v_aload_n (pc := 78) (i := 0) dX5_says_78 rfl rfl ?_
    refine gX5_named (pc := 79) q_788 dX5_says_79 ?_
    refine v_iload (pc := 82) (i := 4) dX5_says_82 rfl ?_
    refine lM_named (pc := 84) dX5_says_84 ?_
    refine v_goto (pc := 85) (tgt := 93) dX5_says_85 rfl ?_
    refine sM_stack (pc := 93) dX5_says_93 ?_
    refine v_nms (fun σ4 => ?_)
    refine v_iinc (pc := 94) (lv' := [(2, .int (x2 + (1 : Int32))), (0, .ref (aMo ad)), (1, .int x1), (3, .int x3), (4, .int x4)]) (i := 2) dX5_says_94 rfl ic_1 (by decide) rfl ?_
    refine v_goto (pc := 97) (tgt := 191) dX5_says_97 rfl ?_
    refine v_iinc (pc := 191) (lv' := [(3, .int (x3 + (1 : Int32))), (2, .int (x2 + (1 : Int32))), (0, .ref (aMo ad)), (1, .int x1), (4, .int x4)]) (i := 3) dX5_says_191 rfl ic_1 (by decide) rfl ?_
    refine v_goto (pc := 194) (tgt := 16) dX5_says_194 rfl ?_
    exact v_sub [2, 3, 1, 0] rfl (hkc16 x1 (x2 + (1 : Int32)) (x3 + (1 : Int32)) σ4)
def b_X5_says_16 (kc16 : Int32 → Int32 → Int32 → GM → Option (Int32 × GM)) (x1 : Int32) (x2 : Int32) (x3 : Int32) (σ : GM) : Option (Int32 × GM) :=
  grd ((((4 : Int32) * (mI σ 5)) + x1) + (1 : Int32)) 24 (if (mA σ 8 ((((4 : Int32) * (mI σ 5)) + x1) + (1 : Int32)).toNatClampNeg) ≤ x3 then (grd (0 : Int32) 200 (some ((mA σ 17 (0 : Int32).toNatClampNeg), σ))) else (grd (((200 : Int32) * (mI σ 5)) + x3) 1200 (bnd (some (mA σ 7 (((200 : Int32) * (mI σ 5)) + x3).toNatClampNeg)) fun w2 => if (100000 : Int32) ≤ w2 then (b_X5_says_66 kc16 x1 x2 x3 w2 σ) else (if (11 : Int32) ≤ w2 then (if w2 ≠ (13 : Int32) then (if w2 ≠ (19 : Int32) then (grd ((x2 + (-1 : Int32)) - (1 : Int32)) 200 (grd (x2 + (-1 : Int32)) 200 (bnd (f_X5_two w2 (mA σ 17 ((x2 + (-1 : Int32)) - (1 : Int32)).toNatClampNeg) (mA σ 17 (x2 + (-1 : Int32)).toNatClampNeg) σ) fun q5 => grd ((x2 + (-1 : Int32)) - (1 : Int32)) 200 (bnd (some (tA q5.2 17 ((x2 + (-1 : Int32)) - (1 : Int32)).toNatClampNeg q5.1)) fun σ6 => kc16 x1 (x2 + (-1 : Int32)) (x3 + (1 : Int32)) σ6)))) else (grd (x2 - (1 : Int32)) 200 (grd (x2 - (1 : Int32)) 200 (bnd (some (tA σ 17 (x2 - (1 : Int32)).toNatClampNeg (-(mA σ 17 (x2 - (1 : Int32)).toNatClampNeg)))) fun σ7 => kc16 x1 x2 (x3 + (1 : Int32)) σ7)))) else (grd (x2 - (1 : Int32)) 200 (if (mA σ 17 (x2 - (1 : Int32)).toNatClampNeg) ≠ 0 then (grd (x2 - (1 : Int32)) 200 (bnd (some (tA σ 17 (x2 - (1 : Int32)).toNatClampNeg (0 : Int32))) fun σ8 => kc16 x1 x2 (x3 + (1 : Int32)) σ8)) else (grd (x2 - (1 : Int32)) 200 (bnd (some (tA σ 17 (x2 - (1 : Int32)).toNatClampNeg (1 : Int32))) fun σ9 => kc16 x1 x2 (x3 + (1 : Int32)) σ9))))) else (b_X5_says_66 kc16 x1 x2 x3 w2 σ)))))
theorem vb_X5_says_16 {g : Gt} {ad : Nat → Nat} (z : Zt) (kc16 : Int32 → Int32 → Int32 → GM → Option (Int32 × GM)) (hkc16 : ∀ (x1 : Int32) (x2 : Int32) (x3 : Int32) (σ : GM), V g (LM ad) 2 RX5 cX5_says 5 (some .int) (wM g ad) iI z (kc16 x1 x2 x3 σ) σ 16 [(0, .ref (aMo ad)), (1, .int x1), (2, .int x2), (3, .int x3)] []) (x1 : Int32) (x2 : Int32) (x3 : Int32) (σ : GM) : V g (LM ad) 2 RX5 cX5_says 5 (some .int) (wM g ad) iI z (b_X5_says_16 kc16 x1 x2 x3 σ) σ 16 [(0, .ref (aMo ad)), (1, .int x1), (2, .int x2), (3, .int x3)] [] := by
  unfold b_X5_says_16
  refine v_iload_n (pc := 16) (i := 3) dX5_says_16 rfl rfl ?_
  refine v_aload_n (pc := 17) (i := 0) dX5_says_17 rfl rfl ?_
  refine gX5_starts (pc := 18) q_767 dX5_says_18 ?_
  refine v_iconst (pc := 21) dX5_says_21 ic_4 ?_
  refine v_aload_n (pc := 22) (i := 0) dX5_says_22 rfl rfl ?_
  refine gX5_rule (pc := 23) q_769 dX5_says_23 ?_
  refine v_imul (pc := 26) dX5_says_26 ?_
  refine v_iload_n (pc := 27) (i := 1) dX5_says_27 rfl rfl ?_
  refine v_iadd (pc := 28) dX5_says_28 ?_
  refine v_iconst (pc := 29) dX5_says_29 ic_1 ?_
  refine v_iadd (pc := 30) dX5_says_30 ?_
  refine lM_starts (pc := 31) dX5_says_31 ?_
  refine v_icmp_ge (pc := 32) (tgt := 197) dX5_says_32 rfl ?_ ?_
  · refine v_aload_n (pc := 197) (i := 0) dX5_says_197 rfl rfl ?_
    refine gX5_stack (pc := 198) q_787 dX5_says_198 ?_
    refine v_iconst (pc := 201) dX5_says_201 ic_0 ?_
    refine lM_stack (pc := 202) dX5_says_202 ?_
    exact v_iret (pc := 203) dX5_says_203
  · refine v_aload_n (pc := 35) (i := 0) dX5_says_35 rfl rfl ?_
    refine gX5_codes (pc := 36) q_766 dX5_says_36 ?_
    refine v_sipush (pc := 39) dX5_says_39 sp_200 ?_
    refine v_aload_n (pc := 42) (i := 0) dX5_says_42 rfl rfl ?_
    refine gX5_rule (pc := 43) q_769 dX5_says_43 ?_
    refine v_imul (pc := 46) dX5_says_46 ?_
    refine v_iload_n (pc := 47) (i := 3) dX5_says_47 rfl rfl ?_
    refine v_iadd (pc := 48) dX5_says_48 ?_
    refine lM_codes (pc := 49) dX5_says_49 ?_
    refine v_nmi (fun w2 => ?_)
    refine v_istore (pc := 50) (lv' := [(4, .int w2), (0, .ref (aMo ad)), (1, .int x1), (2, .int x2), (3, .int x3)]) (i := 4) dX5_says_50 (by decide) rfl ?_
    refine v_iload (pc := 52) (i := 4) dX5_says_52 rfl ?_
    refine v_ldc (pc := 54) dX5_says_54 q_726 ?_
    refine v_icmp_ge (pc := 56) (tgt := 66) dX5_says_56 rfl ?_ ?_
    · exact v_sub [1, 2, 3, 4, 0] rfl (vb_X5_says_66 z kc16 hkc16 x1 x2 x3 w2 σ)
    · refine v_iload (pc := 59) (i := 4) dX5_says_59 rfl ?_
      refine v_bipush (pc := 61) dX5_says_61 bp_11 ?_
      refine v_icmp_ge (pc := 63) (tgt := 100) dX5_says_63 rfl ?_ ?_
      · refine v_iload (pc := 100) (i := 4) dX5_says_100 rfl ?_
        refine v_bipush (pc := 102) dX5_says_102 bp_13 ?_
        refine v_icmp_ne (pc := 104) (tgt := 134) dX5_says_104 rfl ?_ ?_
        · refine v_iload (pc := 134) (i := 4) dX5_says_134 rfl ?_
          refine v_bipush (pc := 136) dX5_says_136 bp_19 ?_
          refine v_icmp_ne (pc := 138) (tgt := 161) dX5_says_138 rfl ?_ ?_
          · refine v_iinc (pc := 161) (lv' := [(2, .int (x2 + (-1 : Int32))), (4, .int w2), (0, .ref (aMo ad)), (1, .int x1), (3, .int x3)]) (i := 2) dX5_says_161 rfl ic_m1 (by decide) rfl ?_
            refine v_aload_n (pc := 164) (i := 0) dX5_says_164 rfl rfl ?_
            refine gX5_stack (pc := 165) q_787 dX5_says_165 ?_
            refine v_iload_n (pc := 168) (i := 2) dX5_says_168 rfl rfl ?_
            refine v_iconst (pc := 169) dX5_says_169 ic_1 ?_
            refine v_isub (pc := 170) dX5_says_170 ?_
            refine v_iload (pc := 171) (i := 4) dX5_says_171 rfl ?_
            refine v_aload_n (pc := 173) (i := 0) dX5_says_173 rfl rfl ?_
            refine gX5_stack (pc := 174) q_787 dX5_says_174 ?_
            refine v_iload_n (pc := 177) (i := 2) dX5_says_177 rfl rfl ?_
            refine v_iconst (pc := 178) dX5_says_178 ic_1 ?_
            refine v_isub (pc := 179) dX5_says_179 ?_
            refine lM_stack (pc := 180) dX5_says_180 ?_
            refine v_aload_n (pc := 181) (i := 0) dX5_says_181 rfl rfl ?_
            refine gX5_stack (pc := 182) q_787 dX5_says_182 ?_
            refine v_iload_n (pc := 185) (i := 2) dX5_says_185 rfl rfl ?_
            refine lM_stack (pc := 186) dX5_says_186 ?_
            refine v_callSi (pc := 187) (av := [.int w2, .int (mA σ 17 ((x2 + (-1 : Int32)) - (1 : Int32)).toNatClampNeg), .int (mA σ 17 (x2 + (-1 : Int32)).toNatClampNeg)]) (rest := [.int ((x2 + (-1 : Int32)) - (1 : Int32)), .ref (aMoA ad 17)]) (ct_X5_two w2 (mA σ 17 ((x2 + (-1 : Int32)) - (1 : Int32)).toNatClampNeg) (mA σ 17 (x2 + (-1 : Int32)).toNatClampNeg)) mi_X5_two q_940 (by decide) rfl rfl (Nat.le_of_ble_eq_true rfl) dX5_says_187 (fun q5 => ?_)
            refine sM_stack (pc := 190) dX5_says_190 ?_
            refine v_nms (fun σ6 => ?_)
            refine v_iinc (pc := 191) (lv' := [(3, .int (x3 + (1 : Int32))), (2, .int (x2 + (-1 : Int32))), (4, .int w2), (0, .ref (aMo ad)), (1, .int x1)]) (i := 3) dX5_says_191 rfl ic_1 (by decide) rfl ?_
            refine v_goto (pc := 194) (tgt := 16) dX5_says_194 rfl ?_
            exact v_sub [3, 4, 1, 0] rfl (hkc16 x1 (x2 + (-1 : Int32)) (x3 + (1 : Int32)) σ6)
          · refine v_aload_n (pc := 141) (i := 0) dX5_says_141 rfl rfl ?_
            refine gX5_stack (pc := 142) q_787 dX5_says_142 ?_
            refine v_iload_n (pc := 145) (i := 2) dX5_says_145 rfl rfl ?_
            refine v_iconst (pc := 146) dX5_says_146 ic_1 ?_
            refine v_isub (pc := 147) dX5_says_147 ?_
            refine v_aload_n (pc := 148) (i := 0) dX5_says_148 rfl rfl ?_
            refine gX5_stack (pc := 149) q_787 dX5_says_149 ?_
            refine v_iload_n (pc := 152) (i := 2) dX5_says_152 rfl rfl ?_
            refine v_iconst (pc := 153) dX5_says_153 ic_1 ?_
            refine v_isub (pc := 154) dX5_says_154 ?_
            refine lM_stack (pc := 155) dX5_says_155 ?_
            refine v_ineg (pc := 156) dX5_says_156 ?_
            refine sM_stack (pc := 157) dX5_says_157 ?_
            refine v_nms (fun σ7 => ?_)
            refine v_goto (pc := 158) (tgt := 191) dX5_says_158 rfl ?_
            refine v_iinc (pc := 191) (lv' := [(3, .int (x3 + (1 : Int32))), (4, .int w2), (0, .ref (aMo ad)), (1, .int x1), (2, .int x2)]) (i := 3) dX5_says_191 rfl ic_1 (by decide) rfl ?_
            refine v_goto (pc := 194) (tgt := 16) dX5_says_194 rfl ?_
            exact v_sub [2, 3, 4, 0] rfl (hkc16 x1 x2 (x3 + (1 : Int32)) σ7)
        · refine v_aload_n (pc := 107) (i := 0) dX5_says_107 rfl rfl ?_
          refine gX5_stack (pc := 108) q_787 dX5_says_108 ?_
          refine v_iload_n (pc := 111) (i := 2) dX5_says_111 rfl rfl ?_
          refine v_iconst (pc := 112) dX5_says_112 ic_1 ?_
          refine v_isub (pc := 113) dX5_says_113 ?_
          refine v_aload_n (pc := 114) (i := 0) dX5_says_114 rfl rfl ?_
          refine gX5_stack (pc := 115) q_787 dX5_says_115 ?_
          refine v_iload_n (pc := 118) (i := 2) dX5_says_118 rfl rfl ?_
          refine v_iconst (pc := 119) dX5_says_119 ic_1 ?_
          refine v_isub (pc := 120) dX5_says_120 ?_
          refine lM_stack (pc := 121) dX5_says_121 ?_
          refine v_if_ne (pc := 122) (tgt := 129) dX5_says_122 rfl ?_ ?_
          · refine v_iconst (pc := 129) dX5_says_129 ic_0 ?_
            refine sM_stack (pc := 130) dX5_says_130 ?_
            refine v_nms (fun σ8 => ?_)
            refine v_goto (pc := 131) (tgt := 191) dX5_says_131 rfl ?_
            refine v_iinc (pc := 191) (lv' := [(3, .int (x3 + (1 : Int32))), (4, .int w2), (0, .ref (aMo ad)), (1, .int x1), (2, .int x2)]) (i := 3) dX5_says_191 rfl ic_1 (by decide) rfl ?_
            refine v_goto (pc := 194) (tgt := 16) dX5_says_194 rfl ?_
            exact v_sub [2, 3, 4, 0] rfl (hkc16 x1 x2 (x3 + (1 : Int32)) σ8)
          · refine v_iconst (pc := 125) dX5_says_125 ic_1 ?_
            refine v_goto (pc := 126) (tgt := 130) dX5_says_126 rfl ?_
            refine sM_stack (pc := 130) dX5_says_130 ?_
            refine v_nms (fun σ9 => ?_)
            refine v_goto (pc := 131) (tgt := 191) dX5_says_131 rfl ?_
            refine v_iinc (pc := 191) (lv' := [(3, .int (x3 + (1 : Int32))), (4, .int w2), (0, .ref (aMo ad)), (1, .int x1), (2, .int x2)]) (i := 3) dX5_says_191 rfl ic_1 (by decide) rfl ?_
            refine v_goto (pc := 194) (tgt := 16) dX5_says_194 rfl ?_
            exact v_sub [2, 3, 4, 0] rfl (hkc16 x1 x2 (x3 + (1 : Int32)) σ9)
      · exact v_sub [1, 2, 3, 4, 0] rfl (vb_X5_says_66 z kc16 hkc16 x1 x2 x3 w2 σ)
def k_X5_says_16 : Nat → Int32 → Int32 → Int32 → GM → Option (Int32 × GM)
  | 0 => fun _ _ _ _ => none
  | n + 1 => b_X5_says_16 (k_X5_says_16 n)
theorem vk_X5_says_16 {g : Gt} {ad : Nat → Nat} (z : Zt) : ∀ (n : Nat) (x1 : Int32) (x2 : Int32) (x3 : Int32) (σ : GM), V g (LM ad) 2 RX5 cX5_says 5 (some .int) (wM g ad) iI z (k_X5_says_16 n x1 x2 x3 σ) σ 16 [(0, .ref (aMo ad)), (1, .int x1), (2, .int x2), (3, .int x3)] [] := by
  intro n
  induction n with
  | zero => intros; exact v_eq rfl v_none
  | succ n ih =>
    intro x1 x2 x3 σ
    exact v_eq rfl (vb_X5_says_16 z _ ih x1 x2 x3 σ)
def f_X5_says (x1 : Int32) (σ : GM) : Option (Int32 × GM) :=
  grd (((4 : Int32) * (mI σ 5)) + x1) 24 (bnd (some (mA σ 8 (((4 : Int32) * (mI σ 5)) + x1).toNatClampNeg)) fun w1 => k_X5_says_16 FU x1 (0 : Int32) w1 σ)
theorem vf_X5_says {g : Gt} {ad : Nat → Nat} (z : Zt) (x1 : Int32) (σ : GM) : V g (LM ad) 2 RX5 cX5_says 5 (some .int) (wM g ad) iI z (f_X5_says x1 σ) σ 0 [(0, .ref (aMo ad)), (1, .int x1)] [] := by
  unfold f_X5_says
  refine v_iconst (pc := 0) dX5_says_0 ic_0 ?_
  refine v_istore_n (pc := 1) (lv' := [(2, .int (0 : Int32)), (0, .ref (aMo ad)), (1, .int x1)]) (i := 2) dX5_says_1 rfl (by decide) rfl ?_
  refine v_aload_n (pc := 2) (i := 0) dX5_says_2 rfl rfl ?_
  refine gX5_starts (pc := 3) q_767 dX5_says_3 ?_
  refine v_iconst (pc := 6) dX5_says_6 ic_4 ?_
  refine v_aload_n (pc := 7) (i := 0) dX5_says_7 rfl rfl ?_
  refine gX5_rule (pc := 8) q_769 dX5_says_8 ?_
  refine v_imul (pc := 11) dX5_says_11 ?_
  refine v_iload_n (pc := 12) (i := 1) dX5_says_12 rfl rfl ?_
  refine v_iadd (pc := 13) dX5_says_13 ?_
  refine lM_starts (pc := 14) dX5_says_14 ?_
  refine v_nmi (fun w1 => ?_)
  refine v_istore_n (pc := 15) (lv' := [(3, .int w1), (2, .int (0 : Int32)), (0, .ref (aMo ad)), (1, .int x1)]) (i := 3) dX5_says_15 rfl (by decide) rfl ?_
  exact v_sub [2, 3, 1, 0] rfl (vk_X5_says_16 z FU x1 (0 : Int32) w1 σ)
theorem ct_X5_says {g : Gt} {ad : Nat → Nat} (x1 : Int32) : CT g (LM ad) yX5_says cX5_says 5 (some .int) 2 [.ref (aMo ad), .int x1] iI (wM g ad) (f_X5_says x1) :=
  ct_of_V (own := RX5) (lv0 := [(0, .ref (aMo ad)), (1, .int x1)]) (by decide +kernel) rfl (Nat.le_of_ble_eq_true rfl) rfl (fun z σ => vf_X5_says z x1 σ)
-- LighthouseLiedToModel.asksOf
theorem dX5_asksOf_0 : decode cX5_asksOf 0 = .ok (.aload_n 0, 1) := by decide +kernel
theorem dX5_asksOf_1 : decode cX5_asksOf 1 = .ok (.getfield 64, 3) := by decide +kernel
theorem dX5_asksOf_4 : decode cX5_asksOf 4 = .ok (.iconst 0, 1) := by decide +kernel
theorem dX5_asksOf_5 : decode cX5_asksOf 5 = .ok (.aload_n 0, 1) := by decide +kernel
theorem dX5_asksOf_6 : decode cX5_asksOf 6 = .ok (.getfield 25, 3) := by decide +kernel
theorem dX5_asksOf_9 : decode cX5_asksOf 9 = .ok (.iload_n 2, 1) := by decide +kernel
theorem dX5_asksOf_10 : decode cX5_asksOf 10 = .ok (.iaload, 1) := by decide +kernel
theorem dX5_asksOf_11 : decode cX5_asksOf 11 = .ok (.iastore, 1) := by decide +kernel
theorem dX5_asksOf_12 : decode cX5_asksOf 12 = .ok (.aload_n 0, 1) := by decide +kernel
theorem dX5_asksOf_13 : decode cX5_asksOf 13 = .ok (.getfield 64, 3) := by decide +kernel
theorem dX5_asksOf_16 : decode cX5_asksOf 16 = .ok (.iconst 1, 1) := by decide +kernel
theorem dX5_asksOf_17 : decode cX5_asksOf 17 = .ok (.iload_n 2, 1) := by decide +kernel
theorem dX5_asksOf_18 : decode cX5_asksOf 18 = .ok (.bipush 6, 2) := by decide +kernel
theorem dX5_asksOf_20 : decode cX5_asksOf 20 = .ok (.irem, 1) := by decide +kernel
theorem dX5_asksOf_21 : decode cX5_asksOf 21 = .ok (.iastore, 1) := by decide +kernel
theorem dX5_asksOf_22 : decode cX5_asksOf 22 = .ok (.aload_n 0, 1) := by decide +kernel
theorem dX5_asksOf_23 : decode cX5_asksOf 23 = .ok (.getfield 64, 3) := by decide +kernel
theorem dX5_asksOf_26 : decode cX5_asksOf 26 = .ok (.iconst 2, 1) := by decide +kernel
theorem dX5_asksOf_27 : decode cX5_asksOf 27 = .ok (.iload_n 2, 1) := by decide +kernel
theorem dX5_asksOf_28 : decode cX5_asksOf 28 = .ok (.bipush 6, 2) := by decide +kernel
theorem dX5_asksOf_30 : decode cX5_asksOf 30 = .ok (.idiv, 1) := by decide +kernel
theorem dX5_asksOf_31 : decode cX5_asksOf 31 = .ok (.iastore, 1) := by decide +kernel
theorem dX5_asksOf_32 : decode cX5_asksOf 32 = .ok (.aload_n 0, 1) := by decide +kernel
theorem dX5_asksOf_33 : decode cX5_asksOf 33 = .ok (.getfield 64, 3) := by decide +kernel
theorem dX5_asksOf_36 : decode cX5_asksOf 36 = .ok (.iconst 3, 1) := by decide +kernel
theorem dX5_asksOf_37 : decode cX5_asksOf 37 = .ok (.aload_n 0, 1) := by decide +kernel
theorem dX5_asksOf_38 : decode cX5_asksOf 38 = .ok (.getfield 100, 3) := by decide +kernel
theorem dX5_asksOf_41 : decode cX5_asksOf 41 = .ok (.iastore, 1) := by decide +kernel
theorem dX5_asksOf_42 : decode cX5_asksOf 42 = .ok (.aload_n 0, 1) := by decide +kernel
theorem dX5_asksOf_43 : decode cX5_asksOf 43 = .ok (.getfield 64, 3) := by decide +kernel
theorem dX5_asksOf_46 : decode cX5_asksOf 46 = .ok (.iconst 4, 1) := by decide +kernel
theorem dX5_asksOf_47 : decode cX5_asksOf 47 = .ok (.aload_n 0, 1) := by decide +kernel
theorem dX5_asksOf_48 : decode cX5_asksOf 48 = .ok (.getfield 103, 3) := by decide +kernel
theorem dX5_asksOf_51 : decode cX5_asksOf 51 = .ok (.iastore, 1) := by decide +kernel
theorem dX5_asksOf_52 : decode cX5_asksOf 52 = .ok (.aload_n 0, 1) := by decide +kernel
theorem dX5_asksOf_53 : decode cX5_asksOf 53 = .ok (.getfield 64, 3) := by decide +kernel
theorem dX5_asksOf_56 : decode cX5_asksOf 56 = .ok (.iconst 5, 1) := by decide +kernel
theorem dX5_asksOf_57 : decode cX5_asksOf 57 = .ok (.iload_n 3, 1) := by decide +kernel
theorem dX5_asksOf_58 : decode cX5_asksOf 58 = .ok (.iconst (-1), 1) := by decide +kernel
theorem dX5_asksOf_59 : decode cX5_asksOf 59 = .ok (.if_icmp .ne 7, 3) := by decide +kernel
theorem dX5_asksOf_62 : decode cX5_asksOf 62 = .ok (.iconst 0, 1) := by decide +kernel
theorem dX5_asksOf_63 : decode cX5_asksOf 63 = .ok (.goto 14, 3) := by decide +kernel
theorem dX5_asksOf_66 : decode cX5_asksOf 66 = .ok (.aload_n 0, 1) := by decide +kernel
theorem dX5_asksOf_67 : decode cX5_asksOf 67 = .ok (.getfield 19, 3) := by decide +kernel
theorem dX5_asksOf_70 : decode cX5_asksOf 70 = .ok (.iload_n 3, 1) := by decide +kernel
theorem dX5_asksOf_71 : decode cX5_asksOf 71 = .ok (.iconst 0, 1) := by decide +kernel
theorem dX5_asksOf_72 : decode cX5_asksOf 72 = .ok (.iconst 5, 1) := by decide +kernel
theorem dX5_asksOf_73 : decode cX5_asksOf 73 = .ok (.invokestatic 120, 3) := by decide +kernel
theorem dX5_asksOf_76 : decode cX5_asksOf 76 = .ok (.iaload, 1) := by decide +kernel
theorem dX5_asksOf_77 : decode cX5_asksOf 77 = .ok (.iastore, 1) := by decide +kernel
theorem dX5_asksOf_78 : decode cX5_asksOf 78 = .ok (.aload_n 0, 1) := by decide +kernel
theorem dX5_asksOf_79 : decode cX5_asksOf 79 = .ok (.iload_n 1, 1) := by decide +kernel
theorem dX5_asksOf_80 : decode cX5_asksOf 80 = .ok (.invokevirtual 189, 3) := by decide +kernel
theorem dX5_asksOf_83 : decode cX5_asksOf 83 = .ok (.iload_n 1, 1) := by decide +kernel
theorem dX5_asksOf_84 : decode cX5_asksOf 84 = .ok (.iconst 1, 1) := by decide +kernel
theorem dX5_asksOf_85 : decode cX5_asksOf 85 = .ok (.if_icmp .ne 7, 3) := by decide +kernel
theorem dX5_asksOf_88 : decode cX5_asksOf 88 = .ok (.iconst 0, 1) := by decide +kernel
theorem dX5_asksOf_89 : decode cX5_asksOf 89 = .ok (.goto 5, 3) := by decide +kernel
theorem dX5_asksOf_92 : decode cX5_asksOf 92 = .ok (.bipush (-99), 2) := by decide +kernel
theorem dX5_asksOf_94 : decode cX5_asksOf 94 = .ok (.bipush 99, 2) := by decide +kernel
theorem dX5_asksOf_96 : decode cX5_asksOf 96 = .ok (.invokestatic 120, 3) := by decide +kernel
theorem dX5_asksOf_99 : decode cX5_asksOf 99 = .ok (.ireturn, 1) := by decide +kernel
def b_X5_asksOf_77 (x1 : Int32) (xs0 : Int32) (xs1 : Int32) (σ : GM) : Option (Int32 × GM) :=
  grd xs1 6 (bnd (some (tA σ 18 xs1.toNatClampNeg xs0)) fun σ7 => bnd (f_X5_says x1 σ7) fun q8 => if x1 ≠ (1 : Int32) then (bnd (f_X5_within q8.1 (-99 : Int32) (99 : Int32) q8.2) fun q9 => some (q9.1, q9.2)) else (bnd (f_X5_within q8.1 (0 : Int32) (99 : Int32) q8.2) fun q10 => some (q10.1, q10.2)))
theorem vb_X5_asksOf_77 {g : Gt} {ad : Nat → Nat} (z : Zt) (x1 : Int32) (xs0 : Int32) (xs1 : Int32) (σ : GM) : V g (LM ad) 3 RX5 cX5_asksOf 4 (some .int) (wM g ad) iI z (b_X5_asksOf_77 x1 xs0 xs1 σ) σ 77 [(0, .ref (aMo ad)), (1, .int x1)] [.int xs0, .int xs1, .ref (aMoA ad 18)] := by
  unfold b_X5_asksOf_77
  refine sM_named (pc := 77) dX5_asksOf_77 ?_
  refine v_nms (fun σ7 => ?_)
  refine v_aload_n (pc := 78) (i := 0) dX5_asksOf_78 rfl rfl ?_
  refine v_iload_n (pc := 79) (i := 1) dX5_asksOf_79 rfl rfl ?_
  refine v_callVi (pc := 80) rcX5 (As := [.int x1]) (rest := []) (ct_X5_says x1) mi_X5_says q_936 (by decide) rfl rfl (Nat.le_of_ble_eq_true rfl) dX5_asksOf_80 (fun q8 => ?_)
  refine v_iload_n (pc := 83) (i := 1) dX5_asksOf_83 rfl rfl ?_
  refine v_iconst (pc := 84) dX5_asksOf_84 ic_1 ?_
  refine v_icmp_ne (pc := 85) (tgt := 92) dX5_asksOf_85 rfl ?_ ?_
  · refine v_bipush (pc := 92) dX5_asksOf_92 bp_m99 ?_
    refine v_bipush (pc := 94) dX5_asksOf_94 bp_99 ?_
    refine v_callSi (pc := 96) (av := [.int q8.1, .int (-99 : Int32), .int (99 : Int32)]) (rest := []) (ct_X5_within q8.1 (-99 : Int32) (99 : Int32)) mi_X5_within q_901 (by decide) rfl rfl (Nat.le_of_ble_eq_true rfl) dX5_asksOf_96 (fun q9 => ?_)
    exact v_iret (pc := 99) dX5_asksOf_99
  · refine v_iconst (pc := 88) dX5_asksOf_88 ic_0 ?_
    refine v_goto (pc := 89) (tgt := 94) dX5_asksOf_89 rfl ?_
    refine v_bipush (pc := 94) dX5_asksOf_94 bp_99 ?_
    refine v_callSi (pc := 96) (av := [.int q8.1, .int (0 : Int32), .int (99 : Int32)]) (rest := []) (ct_X5_within q8.1 (0 : Int32) (99 : Int32)) mi_X5_within q_901 (by decide) rfl rfl (Nat.le_of_ble_eq_true rfl) dX5_asksOf_96 (fun q10 => ?_)
    exact v_iret (pc := 99) dX5_asksOf_99
def f_X5_asksOf (x1 : Int32) (x2 : Int32) (x3 : Int32) (σ : GM) : Option (Int32 × GM) :=
  grd x2 36 (grd (0 : Int32) 6 (bnd (some (tA σ 18 (0 : Int32).toNatClampNeg (mA σ 5 x2.toNatClampNeg))) fun σ1 => grd (1 : Int32) 6 (bnd (some (tA σ1 18 (1 : Int32).toNatClampNeg (rI x2 (6 : Int32)))) fun σ2 => grd (2 : Int32) 6 (bnd (some (tA σ2 18 (2 : Int32).toNatClampNeg (x2 / (6 : Int32)))) fun σ3 => grd (3 : Int32) 6 (bnd (some (tA σ3 18 (3 : Int32).toNatClampNeg (mI σ3 1))) fun σ4 => grd (4 : Int32) 6 (bnd (some (tA σ4 18 (4 : Int32).toNatClampNeg (mI σ4 2))) fun σ5 => if x3 ≠ (-1 : Int32) then (bnd (f_X5_within x3 (0 : Int32) (5 : Int32) σ5) fun q6 => grd q6.1 6 (b_X5_asksOf_77 x1 (mA q6.2 3 q6.1.toNatClampNeg) (5 : Int32) q6.2)) else (b_X5_asksOf_77 x1 (0 : Int32) (5 : Int32) σ5)))))))
theorem vf_X5_asksOf {g : Gt} {ad : Nat → Nat} (z : Zt) (x1 : Int32) (x2 : Int32) (x3 : Int32) (σ : GM) : V g (LM ad) 3 RX5 cX5_asksOf 4 (some .int) (wM g ad) iI z (f_X5_asksOf x1 x2 x3 σ) σ 0 [(0, .ref (aMo ad)), (1, .int x1), (2, .int x2), (3, .int x3)] [] := by
  unfold f_X5_asksOf
  refine v_aload_n (pc := 0) (i := 0) dX5_asksOf_0 rfl rfl ?_
  refine gX5_named (pc := 1) q_788 dX5_asksOf_1 ?_
  refine v_iconst (pc := 4) dX5_asksOf_4 ic_0 ?_
  refine v_aload_n (pc := 5) (i := 0) dX5_asksOf_5 rfl rfl ?_
  refine gX5_beliefs (pc := 6) q_760 dX5_asksOf_6 ?_
  refine v_iload_n (pc := 9) (i := 2) dX5_asksOf_9 rfl rfl ?_
  refine lM_beliefs (pc := 10) dX5_asksOf_10 ?_
  refine sM_named (pc := 11) dX5_asksOf_11 ?_
  refine v_nms (fun σ1 => ?_)
  refine v_aload_n (pc := 12) (i := 0) dX5_asksOf_12 rfl rfl ?_
  refine gX5_named (pc := 13) q_788 dX5_asksOf_13 ?_
  refine v_iconst (pc := 16) dX5_asksOf_16 ic_1 ?_
  refine v_iload_n (pc := 17) (i := 2) dX5_asksOf_17 rfl rfl ?_
  refine v_bipush (pc := 18) dX5_asksOf_18 bp_6 ?_
  refine v_irem (pc := 20) dX5_asksOf_20 (by decide) ?_
  refine sM_named (pc := 21) dX5_asksOf_21 ?_
  refine v_nms (fun σ2 => ?_)
  refine v_aload_n (pc := 22) (i := 0) dX5_asksOf_22 rfl rfl ?_
  refine gX5_named (pc := 23) q_788 dX5_asksOf_23 ?_
  refine v_iconst (pc := 26) dX5_asksOf_26 ic_2 ?_
  refine v_iload_n (pc := 27) (i := 2) dX5_asksOf_27 rfl rfl ?_
  refine v_bipush (pc := 28) dX5_asksOf_28 bp_6 ?_
  refine v_idiv (pc := 30) dX5_asksOf_30 (by decide) ?_
  refine sM_named (pc := 31) dX5_asksOf_31 ?_
  refine v_nms (fun σ3 => ?_)
  refine v_aload_n (pc := 32) (i := 0) dX5_asksOf_32 rfl rfl ?_
  refine gX5_named (pc := 33) q_788 dX5_asksOf_33 ?_
  refine v_iconst (pc := 36) dX5_asksOf_36 ic_3 ?_
  refine v_aload_n (pc := 37) (i := 0) dX5_asksOf_37 rfl rfl ?_
  refine gX5_nights (pc := 38) q_762 dX5_asksOf_38 ?_
  refine sM_named (pc := 41) dX5_asksOf_41 ?_
  refine v_nms (fun σ4 => ?_)
  refine v_aload_n (pc := 42) (i := 0) dX5_asksOf_42 rfl rfl ?_
  refine gX5_named (pc := 43) q_788 dX5_asksOf_43 ?_
  refine v_iconst (pc := 46) dX5_asksOf_46 ic_4 ?_
  refine v_aload_n (pc := 47) (i := 0) dX5_asksOf_47 rfl rfl ?_
  refine gX5_doubt (pc := 48) q_763 dX5_asksOf_48 ?_
  refine sM_named (pc := 51) dX5_asksOf_51 ?_
  refine v_nms (fun σ5 => ?_)
  refine v_aload_n (pc := 52) (i := 0) dX5_asksOf_52 rfl rfl ?_
  refine gX5_named (pc := 53) q_788 dX5_asksOf_53 ?_
  refine v_iconst (pc := 56) dX5_asksOf_56 ic_5 ?_
  refine v_iload_n (pc := 57) (i := 3) dX5_asksOf_57 rfl rfl ?_
  refine v_iconst (pc := 58) dX5_asksOf_58 ic_m1 ?_
  refine v_icmp_ne (pc := 59) (tgt := 66) dX5_asksOf_59 rfl ?_ ?_
  · refine v_aload_n (pc := 66) (i := 0) dX5_asksOf_66 rfl rfl ?_
    refine gX5_draughtOf (pc := 67) q_758 dX5_asksOf_67 ?_
    refine v_iload_n (pc := 70) (i := 3) dX5_asksOf_70 rfl rfl ?_
    refine v_iconst (pc := 71) dX5_asksOf_71 ic_0 ?_
    refine v_iconst (pc := 72) dX5_asksOf_72 ic_5 ?_
    refine v_callSi (pc := 73) (av := [.int x3, .int (0 : Int32), .int (5 : Int32)]) (rest := [.ref (aMoA ad 3), .int (5 : Int32), .ref (aMoA ad 18)]) (ct_X5_within x3 (0 : Int32) (5 : Int32)) mi_X5_within q_901 (by decide) rfl rfl (Nat.le_of_ble_eq_true rfl) dX5_asksOf_73 (fun q6 => ?_)
    refine lM_draughtOf (pc := 76) dX5_asksOf_76 ?_
    exact v_sub [0, 1] rfl (vb_X5_asksOf_77 z x1 (mA q6.2 3 q6.1.toNatClampNeg) (5 : Int32) q6.2)
  · refine v_iconst (pc := 62) dX5_asksOf_62 ic_0 ?_
    refine v_goto (pc := 63) (tgt := 77) dX5_asksOf_63 rfl ?_
    exact v_sub [0, 1] rfl (vb_X5_asksOf_77 z x1 (0 : Int32) (5 : Int32) σ5)
theorem ct_X5_asksOf {g : Gt} {ad : Nat → Nat} (x1 : Int32) (x2 : Int32) (x3 : Int32) : CT g (LM ad) yX5_asksOf cX5_asksOf 4 (some .int) 3 [.ref (aMo ad), .int x1, .int x2, .int x3] iI (wM g ad) (f_X5_asksOf x1 x2 x3) :=
  ct_of_V (own := RX5) (lv0 := [(0, .ref (aMo ad)), (1, .int x1), (2, .int x2), (3, .int x3)]) (by decide +kernel) rfl (Nat.le_of_ble_eq_true rfl) rfl (fun z σ => vf_X5_asksOf z x1 x2 x3 σ)
-- LighthouseLiedToModel.asks
theorem dX5_asks_0 : decode cX5_asks 0 = .ok (.iload_n 1, 1) := by decide +kernel
theorem dX5_asks_1 : decode cX5_asks 1 = .ok (.iconst 0, 1) := by decide +kernel
theorem dX5_asks_2 : decode cX5_asks 2 = .ok (.iconst 2, 1) := by decide +kernel
theorem dX5_asks_3 : decode cX5_asks 3 = .ok (.invokestatic 78, 3) := by decide +kernel
theorem dX5_asks_6 : decode cX5_asks 6 = .ok (.ifCond .eq 27, 3) := by decide +kernel
theorem dX5_asks_9 : decode cX5_asks 9 = .ok (.iload_n 2, 1) := by decide +kernel
theorem dX5_asks_10 : decode cX5_asks 10 = .ok (.invokestatic 115, 3) := by decide +kernel
theorem dX5_asks_13 : decode cX5_asks 13 = .ok (.ifCond .eq 20, 3) := by decide +kernel
theorem dX5_asks_16 : decode cX5_asks 16 = .ok (.iload_n 3, 1) := by decide +kernel
theorem dX5_asks_17 : decode cX5_asks 17 = .ok (.iconst (-1), 1) := by decide +kernel
theorem dX5_asks_18 : decode cX5_asks 18 = .ok (.if_icmp .eq 11, 3) := by decide +kernel
theorem dX5_asks_21 : decode cX5_asks 21 = .ok (.aload_n 0, 1) := by decide +kernel
theorem dX5_asks_22 : decode cX5_asks 22 = .ok (.iload_n 3, 1) := by decide +kernel
theorem dX5_asks_23 : decode cX5_asks 23 = .ok (.invokevirtual 192, 3) := by decide +kernel
theorem dX5_asks_26 : decode cX5_asks 26 = .ok (.ifCond .eq 7, 3) := by decide +kernel
theorem dX5_asks_29 : decode cX5_asks 29 = .ok (.iconst 1, 1) := by decide +kernel
theorem dX5_asks_30 : decode cX5_asks 30 = .ok (.goto 4, 3) := by decide +kernel
theorem dX5_asks_33 : decode cX5_asks 33 = .ok (.iconst 0, 1) := by decide +kernel
theorem dX5_asks_34 : decode cX5_asks 34 = .ok (.istore 4, 2) := by decide +kernel
theorem dX5_asks_36 : decode cX5_asks 36 = .ok (.iload 4, 2) := by decide +kernel
theorem dX5_asks_38 : decode cX5_asks 38 = .ok (.ifCond .eq 13, 3) := by decide +kernel
theorem dX5_asks_41 : decode cX5_asks 41 = .ok (.aload_n 0, 1) := by decide +kernel
theorem dX5_asks_42 : decode cX5_asks 42 = .ok (.iload_n 1, 1) := by decide +kernel
theorem dX5_asks_43 : decode cX5_asks 43 = .ok (.iload_n 2, 1) := by decide +kernel
theorem dX5_asks_44 : decode cX5_asks 44 = .ok (.iload_n 3, 1) := by decide +kernel
theorem dX5_asks_45 : decode cX5_asks 45 = .ok (.invokevirtual 195, 3) := by decide +kernel
theorem dX5_asks_48 : decode cX5_asks 48 = .ok (.goto 6, 3) := by decide +kernel
theorem dX5_asks_51 : decode cX5_asks 51 = .ok (.sipush (-1000), 3) := by decide +kernel
theorem dX5_asks_54 : decode cX5_asks 54 = .ok (.ireturn, 1) := by decide +kernel
def b_X5_asks_34 (x1 : Int32) (x2 : Int32) (x3 : Int32) (xs0 : Int32) (σ : GM) : Option (Int32 × GM) :=
  if xs0 = 0 then (some ((-1000 : Int32), σ)) else (bnd (f_X5_asksOf x1 x2 x3 σ) fun q2 => some (q2.1, q2.2))
theorem vb_X5_asks_34 {g : Gt} {ad : Nat → Nat} (z : Zt) (x1 : Int32) (x2 : Int32) (x3 : Int32) (xs0 : Int32) (σ : GM) : V g (LM ad) 4 RX5 cX5_asks 5 (some .int) (wM g ad) iI z (b_X5_asks_34 x1 x2 x3 xs0 σ) σ 34 [(0, .ref (aMo ad)), (1, .int x1), (2, .int x2), (3, .int x3)] [.int xs0] := by
  unfold b_X5_asks_34
  refine v_istore (pc := 34) (lv' := [(4, .int xs0), (0, .ref (aMo ad)), (1, .int x1), (2, .int x2), (3, .int x3)]) (i := 4) dX5_asks_34 (by decide) rfl ?_
  refine v_iload (pc := 36) (i := 4) dX5_asks_36 rfl ?_
  refine v_if_eq (pc := 38) (tgt := 51) dX5_asks_38 rfl ?_ ?_
  · refine v_sipush (pc := 51) dX5_asks_51 sp_m1000 ?_
    exact v_iret (pc := 54) dX5_asks_54
  · refine v_aload_n (pc := 41) (i := 0) dX5_asks_41 rfl rfl ?_
    refine v_iload_n (pc := 42) (i := 1) dX5_asks_42 rfl rfl ?_
    refine v_iload_n (pc := 43) (i := 2) dX5_asks_43 rfl rfl ?_
    refine v_iload_n (pc := 44) (i := 3) dX5_asks_44 rfl rfl ?_
    refine v_callVi (pc := 45) rcX5 (As := [.int x1, .int x2, .int x3]) (rest := []) (ct_X5_asksOf x1 x2 x3) mi_X5_asksOf q_932 (by decide) rfl rfl (Nat.le_of_ble_eq_true rfl) dX5_asks_45 (fun q2 => ?_)
    refine v_goto (pc := 48) (tgt := 54) dX5_asks_48 rfl ?_
    exact v_iret (pc := 54) dX5_asks_54
def f_X5_asks (x1 : Int32) (x2 : Int32) (x3 : Int32) (σ : GM) : Option (Int32 × GM) :=
  bnd (f_X5_in x1 (0 : Int32) (2 : Int32) σ) fun q1 => if q1.1 = 0 then (b_X5_asks_34 x1 x2 x3 (0 : Int32) q1.2) else (bnd (f_X5_isCell x2 q1.2) fun q3 => if q3.1 = 0 then (b_X5_asks_34 x1 x2 x3 (0 : Int32) q3.2) else (if x3 = (-1 : Int32) then (b_X5_asks_34 x1 x2 x3 (1 : Int32) q3.2) else (bnd (f_X5_isShip x3 q3.2) fun q4 => if q4.1 = 0 then (b_X5_asks_34 x1 x2 x3 (0 : Int32) q4.2) else (b_X5_asks_34 x1 x2 x3 (1 : Int32) q4.2))))
theorem vf_X5_asks {g : Gt} {ad : Nat → Nat} (z : Zt) (x1 : Int32) (x2 : Int32) (x3 : Int32) (σ : GM) : V g (LM ad) 4 RX5 cX5_asks 5 (some .int) (wM g ad) iI z (f_X5_asks x1 x2 x3 σ) σ 0 [(0, .ref (aMo ad)), (1, .int x1), (2, .int x2), (3, .int x3)] [] := by
  unfold f_X5_asks
  refine v_iload_n (pc := 0) (i := 1) dX5_asks_0 rfl rfl ?_
  refine v_iconst (pc := 1) dX5_asks_1 ic_0 ?_
  refine v_iconst (pc := 2) dX5_asks_2 ic_2 ?_
  refine v_callSi (pc := 3) (av := [.int x1, .int (0 : Int32), .int (2 : Int32)]) (rest := []) (ct_X5_in x1 (0 : Int32) (2 : Int32)) mi_X5_in q_715 (by decide) rfl rfl (Nat.le_of_ble_eq_true rfl) dX5_asks_3 (fun q1 => ?_)
  refine v_if_eq (pc := 6) (tgt := 33) dX5_asks_6 rfl ?_ ?_
  · refine v_iconst (pc := 33) dX5_asks_33 ic_0 ?_
    exact v_sub [0, 1, 2, 3] rfl (vb_X5_asks_34 z x1 x2 x3 (0 : Int32) q1.2)
  · refine v_iload_n (pc := 9) (i := 2) dX5_asks_9 rfl rfl ?_
    refine v_callSi (pc := 10) (av := [.int x2]) (rest := []) (ct_X5_isCell x2) mi_X5_isCell q_889 (by decide) rfl rfl (Nat.le_of_ble_eq_true rfl) dX5_asks_10 (fun q3 => ?_)
    refine v_if_eq (pc := 13) (tgt := 33) dX5_asks_13 rfl ?_ ?_
    · refine v_iconst (pc := 33) dX5_asks_33 ic_0 ?_
      exact v_sub [0, 1, 2, 3] rfl (vb_X5_asks_34 z x1 x2 x3 (0 : Int32) q3.2)
    · refine v_iload_n (pc := 16) (i := 3) dX5_asks_16 rfl rfl ?_
      refine v_iconst (pc := 17) dX5_asks_17 ic_m1 ?_
      refine v_icmp_eq (pc := 18) (tgt := 29) dX5_asks_18 rfl ?_ ?_
      · refine v_iconst (pc := 29) dX5_asks_29 ic_1 ?_
        refine v_goto (pc := 30) (tgt := 34) dX5_asks_30 rfl ?_
        exact v_sub [0, 1, 2, 3] rfl (vb_X5_asks_34 z x1 x2 x3 (1 : Int32) q3.2)
      · refine v_aload_n (pc := 21) (i := 0) dX5_asks_21 rfl rfl ?_
        refine v_iload_n (pc := 22) (i := 3) dX5_asks_22 rfl rfl ?_
        refine v_callVi (pc := 23) rcX5 (As := [.int x3]) (rest := []) (ct_X5_isShip x3) mi_X5_isShip q_928 (by decide) rfl rfl (Nat.le_of_ble_eq_true rfl) dX5_asks_23 (fun q4 => ?_)
        refine v_if_eq (pc := 26) (tgt := 33) dX5_asks_26 rfl ?_ ?_
        · refine v_iconst (pc := 33) dX5_asks_33 ic_0 ?_
          exact v_sub [0, 1, 2, 3] rfl (vb_X5_asks_34 z x1 x2 x3 (0 : Int32) q4.2)
        · refine v_iconst (pc := 29) dX5_asks_29 ic_1 ?_
          refine v_goto (pc := 30) (tgt := 34) dX5_asks_30 rfl ?_
          exact v_sub [0, 1, 2, 3] rfl (vb_X5_asks_34 z x1 x2 x3 (1 : Int32) q4.2)
theorem ct_X5_asks {g : Gt} {ad : Nat → Nat} (x1 : Int32) (x2 : Int32) (x3 : Int32) : CT g (LM ad) yX5_asks cX5_asks 5 (some .int) 4 [.ref (aMo ad), .int x1, .int x2, .int x3] iI (wM g ad) (f_X5_asks x1 x2 x3) :=
  ct_of_V (own := RX5) (lv0 := [(0, .ref (aMo ad)), (1, .int x1), (2, .int x2), (3, .int x3)]) (by decide +kernel) rfl (Nat.le_of_ble_eq_true rfl) rfl (fun z σ => vf_X5_asks z x1 x2 x3 σ)
-- LighthouseLiedToModel.ship
theorem dX5_ship_0 : decode cX5_ship 0 = .ok (.iload_n 1, 1) := by decide +kernel
theorem dX5_ship_1 : decode cX5_ship 1 = .ok (.iconst 0, 1) := by decide +kernel
theorem dX5_ship_2 : decode cX5_ship 2 = .ok (.bipush 59, 2) := by decide +kernel
theorem dX5_ship_4 : decode cX5_ship 4 = .ok (.invokestatic 78, 3) := by decide +kernel
theorem dX5_ship_7 : decode cX5_ship 7 = .ok (.ifCond .eq 14, 3) := by decide +kernel
theorem dX5_ship_10 : decode cX5_ship 10 = .ok (.iload_n 2, 1) := by decide +kernel
theorem dX5_ship_11 : decode cX5_ship 11 = .ok (.iconst 0, 1) := by decide +kernel
theorem dX5_ship_12 : decode cX5_ship 12 = .ok (.sipush 3599, 3) := by decide +kernel
theorem dX5_ship_15 : decode cX5_ship 15 = .ok (.invokestatic 78, 3) := by decide +kernel
theorem dX5_ship_18 : decode cX5_ship 18 = .ok (.ifCond .ne 6, 3) := by decide +kernel
theorem dX5_ship_21 : decode cX5_ship 21 = .ok (.bipush (-2), 2) := by decide +kernel
theorem dX5_ship_23 : decode cX5_ship 23 = .ok (.ireturn, 1) := by decide +kernel
theorem dX5_ship_24 : decode cX5_ship 24 = .ok (.aload_n 0, 1) := by decide +kernel
theorem dX5_ship_25 : decode cX5_ship 25 = .ok (.getfield 82, 3) := by decide +kernel
theorem dX5_ship_28 : decode cX5_ship 28 = .ok (.bipush 6, 2) := by decide +kernel
theorem dX5_ship_30 : decode cX5_ship 30 = .ok (.if_icmp .ne 6, 3) := by decide +kernel
theorem dX5_ship_33 : decode cX5_ship 33 = .ok (.bipush (-4), 2) := by decide +kernel
theorem dX5_ship_35 : decode cX5_ship 35 = .ok (.ireturn, 1) := by decide +kernel
theorem dX5_ship_36 : decode cX5_ship 36 = .ok (.aload_n 0, 1) := by decide +kernel
theorem dX5_ship_37 : decode cX5_ship 37 = .ok (.getfield 7, 3) := by decide +kernel
theorem dX5_ship_40 : decode cX5_ship 40 = .ok (.aload_n 0, 1) := by decide +kernel
theorem dX5_ship_41 : decode cX5_ship 41 = .ok (.getfield 82, 3) := by decide +kernel
theorem dX5_ship_44 : decode cX5_ship 44 = .ok (.iload_n 1, 1) := by decide +kernel
theorem dX5_ship_45 : decode cX5_ship 45 = .ok (.bipush 10, 2) := by decide +kernel
theorem dX5_ship_47 : decode cX5_ship 47 = .ok (.idiv, 1) := by decide +kernel
theorem dX5_ship_48 : decode cX5_ship 48 = .ok (.iastore, 1) := by decide +kernel
theorem dX5_ship_49 : decode cX5_ship 49 = .ok (.aload_n 0, 1) := by decide +kernel
theorem dX5_ship_50 : decode cX5_ship 50 = .ok (.getfield 13, 3) := by decide +kernel
theorem dX5_ship_53 : decode cX5_ship 53 = .ok (.aload_n 0, 1) := by decide +kernel
theorem dX5_ship_54 : decode cX5_ship 54 = .ok (.getfield 82, 3) := by decide +kernel
theorem dX5_ship_57 : decode cX5_ship 57 = .ok (.iload_n 1, 1) := by decide +kernel
theorem dX5_ship_58 : decode cX5_ship 58 = .ok (.bipush 10, 2) := by decide +kernel
theorem dX5_ship_60 : decode cX5_ship 60 = .ok (.irem, 1) := by decide +kernel
theorem dX5_ship_61 : decode cX5_ship 61 = .ok (.iastore, 1) := by decide +kernel
theorem dX5_ship_62 : decode cX5_ship 62 = .ok (.aload_n 0, 1) := by decide +kernel
theorem dX5_ship_63 : decode cX5_ship 63 = .ok (.getfield 16, 3) := by decide +kernel
theorem dX5_ship_66 : decode cX5_ship 66 = .ok (.aload_n 0, 1) := by decide +kernel
theorem dX5_ship_67 : decode cX5_ship 67 = .ok (.getfield 82, 3) := by decide +kernel
theorem dX5_ship_70 : decode cX5_ship 70 = .ok (.iload_n 2, 1) := by decide +kernel
theorem dX5_ship_71 : decode cX5_ship 71 = .ok (.bipush 100, 2) := by decide +kernel
theorem dX5_ship_73 : decode cX5_ship 73 = .ok (.idiv, 1) := by decide +kernel
theorem dX5_ship_74 : decode cX5_ship 74 = .ok (.iastore, 1) := by decide +kernel
theorem dX5_ship_75 : decode cX5_ship 75 = .ok (.aload_n 0, 1) := by decide +kernel
theorem dX5_ship_76 : decode cX5_ship 76 = .ok (.getfield 19, 3) := by decide +kernel
theorem dX5_ship_79 : decode cX5_ship 79 = .ok (.aload_n 0, 1) := by decide +kernel
theorem dX5_ship_80 : decode cX5_ship 80 = .ok (.getfield 82, 3) := by decide +kernel
theorem dX5_ship_83 : decode cX5_ship 83 = .ok (.iload_n 2, 1) := by decide +kernel
theorem dX5_ship_84 : decode cX5_ship 84 = .ok (.bipush 100, 2) := by decide +kernel
theorem dX5_ship_86 : decode cX5_ship 86 = .ok (.irem, 1) := by decide +kernel
theorem dX5_ship_87 : decode cX5_ship 87 = .ok (.iastore, 1) := by decide +kernel
theorem dX5_ship_88 : decode cX5_ship 88 = .ok (.aload_n 0, 1) := by decide +kernel
theorem dX5_ship_89 : decode cX5_ship 89 = .ok (.getfield 22, 3) := by decide +kernel
theorem dX5_ship_92 : decode cX5_ship 92 = .ok (.aload_n 0, 1) := by decide +kernel
theorem dX5_ship_93 : decode cX5_ship 93 = .ok (.getfield 82, 3) := by decide +kernel
theorem dX5_ship_96 : decode cX5_ship 96 = .ok (.iconst 0, 1) := by decide +kernel
theorem dX5_ship_97 : decode cX5_ship 97 = .ok (.iastore, 1) := by decide +kernel
theorem dX5_ship_98 : decode cX5_ship 98 = .ok (.aload_n 0, 1) := by decide +kernel
theorem dX5_ship_99 : decode cX5_ship 99 = .ok (.dup, 1) := by decide +kernel
theorem dX5_ship_100 : decode cX5_ship 100 = .ok (.getfield 82, 3) := by decide +kernel
theorem dX5_ship_103 : decode cX5_ship 103 = .ok (.iconst 1, 1) := by decide +kernel
theorem dX5_ship_104 : decode cX5_ship 104 = .ok (.iadd, 1) := by decide +kernel
theorem dX5_ship_105 : decode cX5_ship 105 = .ok (.putfield 82, 3) := by decide +kernel
theorem dX5_ship_108 : decode cX5_ship 108 = .ok (.aload_n 0, 1) := by decide +kernel
theorem dX5_ship_109 : decode cX5_ship 109 = .ok (.getfield 82, 3) := by decide +kernel
theorem dX5_ship_112 : decode cX5_ship 112 = .ok (.iconst 1, 1) := by decide +kernel
theorem dX5_ship_113 : decode cX5_ship 113 = .ok (.isub, 1) := by decide +kernel
theorem dX5_ship_114 : decode cX5_ship 114 = .ok (.ireturn, 1) := by decide +kernel
def f_X5_ship (x1 : Int32) (x2 : Int32) (σ : GM) : Option (Int32 × GM) :=
  bnd (f_X5_in x1 (0 : Int32) (59 : Int32) σ) fun q1 => if q1.1 = 0 then (some ((-2 : Int32), q1.2)) else (bnd (f_X5_in x2 (0 : Int32) (3599 : Int32) q1.2) fun q2 => if q2.1 ≠ 0 then (if (mI q2.2 0) ≠ (6 : Int32) then (grd (mI q2.2 0) 6 (bnd (some (tA q2.2 0 (mI q2.2 0).toNatClampNeg (x1 / (10 : Int32)))) fun σ3 => grd (mI σ3 0) 6 (bnd (some (tA σ3 1 (mI σ3 0).toNatClampNeg (rI x1 (10 : Int32)))) fun σ4 => grd (mI σ4 0) 6 (bnd (some (tA σ4 2 (mI σ4 0).toNatClampNeg (x2 / (100 : Int32)))) fun σ5 => grd (mI σ5 0) 6 (bnd (some (tA σ5 3 (mI σ5 0).toNatClampNeg (rI x2 (100 : Int32)))) fun σ6 => grd (mI σ6 0) 6 (bnd (some (tA σ6 4 (mI σ6 0).toNatClampNeg (0 : Int32))) fun σ7 => bnd (some (tI σ7 0 ((mI σ7 0) + (1 : Int32)))) fun σ8 => some (((mI σ8 0) - (1 : Int32)), σ8))))))) else (some ((-4 : Int32), q2.2))) else (some ((-2 : Int32), q2.2)))
theorem vf_X5_ship {g : Gt} {ad : Nat → Nat} (z : Zt) (x1 : Int32) (x2 : Int32) (σ : GM) : V g (LM ad) 2 RX5 cX5_ship 3 (some .int) (wM g ad) iI z (f_X5_ship x1 x2 σ) σ 0 [(0, .ref (aMo ad)), (1, .int x1), (2, .int x2)] [] := by
  unfold f_X5_ship
  refine v_iload_n (pc := 0) (i := 1) dX5_ship_0 rfl rfl ?_
  refine v_iconst (pc := 1) dX5_ship_1 ic_0 ?_
  refine v_bipush (pc := 2) dX5_ship_2 bp_59 ?_
  refine v_callSi (pc := 4) (av := [.int x1, .int (0 : Int32), .int (59 : Int32)]) (rest := []) (ct_X5_in x1 (0 : Int32) (59 : Int32)) mi_X5_in q_715 (by decide) rfl rfl (Nat.le_of_ble_eq_true rfl) dX5_ship_4 (fun q1 => ?_)
  refine v_if_eq (pc := 7) (tgt := 21) dX5_ship_7 rfl ?_ ?_
  · refine v_bipush (pc := 21) dX5_ship_21 bp_m2 ?_
    exact v_iret (pc := 23) dX5_ship_23
  · refine v_iload_n (pc := 10) (i := 2) dX5_ship_10 rfl rfl ?_
    refine v_iconst (pc := 11) dX5_ship_11 ic_0 ?_
    refine v_sipush (pc := 12) dX5_ship_12 sp_3599 ?_
    refine v_callSi (pc := 15) (av := [.int x2, .int (0 : Int32), .int (3599 : Int32)]) (rest := []) (ct_X5_in x2 (0 : Int32) (3599 : Int32)) mi_X5_in q_715 (by decide) rfl rfl (Nat.le_of_ble_eq_true rfl) dX5_ship_15 (fun q2 => ?_)
    refine v_if_ne (pc := 18) (tgt := 24) dX5_ship_18 rfl ?_ ?_
    · refine v_aload_n (pc := 24) (i := 0) dX5_ship_24 rfl rfl ?_
      refine gX5_ships (pc := 25) q_754 dX5_ship_25 ?_
      refine v_bipush (pc := 28) dX5_ship_28 bp_6 ?_
      refine v_icmp_ne (pc := 30) (tgt := 36) dX5_ship_30 rfl ?_ ?_
      · refine v_aload_n (pc := 36) (i := 0) dX5_ship_36 rfl rfl ?_
        refine gX5_kind (pc := 37) q_755 dX5_ship_37 ?_
        refine v_aload_n (pc := 40) (i := 0) dX5_ship_40 rfl rfl ?_
        refine gX5_ships (pc := 41) q_754 dX5_ship_41 ?_
        refine v_iload_n (pc := 44) (i := 1) dX5_ship_44 rfl rfl ?_
        refine v_bipush (pc := 45) dX5_ship_45 bp_10 ?_
        refine v_idiv (pc := 47) dX5_ship_47 (by decide) ?_
        refine sM_kind (pc := 48) dX5_ship_48 ?_
        refine v_nms (fun σ3 => ?_)
        refine v_aload_n (pc := 49) (i := 0) dX5_ship_49 rfl rfl ?_
        refine gX5_moreOf (pc := 50) q_756 dX5_ship_50 ?_
        refine v_aload_n (pc := 53) (i := 0) dX5_ship_53 rfl rfl ?_
        refine gX5_ships (pc := 54) q_754 dX5_ship_54 ?_
        refine v_iload_n (pc := 57) (i := 1) dX5_ship_57 rfl rfl ?_
        refine v_bipush (pc := 58) dX5_ship_58 bp_10 ?_
        refine v_irem (pc := 60) dX5_ship_60 (by decide) ?_
        refine sM_moreOf (pc := 61) dX5_ship_61 ?_
        refine v_nms (fun σ4 => ?_)
        refine v_aload_n (pc := 62) (i := 0) dX5_ship_62 rfl rfl ?_
        refine gX5_onOf (pc := 63) q_757 dX5_ship_63 ?_
        refine v_aload_n (pc := 66) (i := 0) dX5_ship_66 rfl rfl ?_
        refine gX5_ships (pc := 67) q_754 dX5_ship_67 ?_
        refine v_iload_n (pc := 70) (i := 2) dX5_ship_70 rfl rfl ?_
        refine v_bipush (pc := 71) dX5_ship_71 bp_100 ?_
        refine v_idiv (pc := 73) dX5_ship_73 (by decide) ?_
        refine sM_onOf (pc := 74) dX5_ship_74 ?_
        refine v_nms (fun σ5 => ?_)
        refine v_aload_n (pc := 75) (i := 0) dX5_ship_75 rfl rfl ?_
        refine gX5_draughtOf (pc := 76) q_758 dX5_ship_76 ?_
        refine v_aload_n (pc := 79) (i := 0) dX5_ship_79 rfl rfl ?_
        refine gX5_ships (pc := 80) q_754 dX5_ship_80 ?_
        refine v_iload_n (pc := 83) (i := 2) dX5_ship_83 rfl rfl ?_
        refine v_bipush (pc := 84) dX5_ship_84 bp_100 ?_
        refine v_irem (pc := 86) dX5_ship_86 (by decide) ?_
        refine sM_draughtOf (pc := 87) dX5_ship_87 ?_
        refine v_nms (fun σ6 => ?_)
        refine v_aload_n (pc := 88) (i := 0) dX5_ship_88 rfl rfl ?_
        refine gX5_lost (pc := 89) q_759 dX5_ship_89 ?_
        refine v_aload_n (pc := 92) (i := 0) dX5_ship_92 rfl rfl ?_
        refine gX5_ships (pc := 93) q_754 dX5_ship_93 ?_
        refine v_iconst (pc := 96) dX5_ship_96 ic_0 ?_
        refine sM_lost (pc := 97) dX5_ship_97 ?_
        refine v_nms (fun σ7 => ?_)
        refine v_aload_n (pc := 98) (i := 0) dX5_ship_98 rfl rfl ?_
        refine v_dup (pc := 99) dX5_ship_99 rfl ?_
        refine gX5_ships (pc := 100) q_754 dX5_ship_100 ?_
        refine v_iconst (pc := 103) dX5_ship_103 ic_1 ?_
        refine v_iadd (pc := 104) dX5_ship_104 ?_
        refine pX5_ships (pc := 105) q_754 dX5_ship_105 ?_
        refine v_nms (fun σ8 => ?_)
        refine v_aload_n (pc := 108) (i := 0) dX5_ship_108 rfl rfl ?_
        refine gX5_ships (pc := 109) q_754 dX5_ship_109 ?_
        refine v_iconst (pc := 112) dX5_ship_112 ic_1 ?_
        refine v_isub (pc := 113) dX5_ship_113 ?_
        exact v_iret (pc := 114) dX5_ship_114
      · refine v_bipush (pc := 33) dX5_ship_33 bp_m4 ?_
        exact v_iret (pc := 35) dX5_ship_35
    · refine v_bipush (pc := 21) dX5_ship_21 bp_m2 ?_
      exact v_iret (pc := 23) dX5_ship_23
theorem ct_X5_ship {g : Gt} {ad : Nat → Nat} (x1 : Int32) (x2 : Int32) : CT g (LM ad) yX5_ship cX5_ship 3 (some .int) 2 [.ref (aMo ad), .int x1, .int x2] iI (wM g ad) (f_X5_ship x1 x2) :=
  ct_of_V (own := RX5) (lv0 := [(0, .ref (aMo ad)), (1, .int x1), (2, .int x2)]) (by decide +kernel) rfl (Nat.le_of_ble_eq_true rfl) rfl (fun z σ => vf_X5_ship z x1 x2 σ)
-- LighthouseLiedToModel.put
theorem dX5_put_0 : decode cX5_put 0 = .ok (.aload_n 0, 1) := by decide +kernel
theorem dX5_put_1 : decode cX5_put 1 = .ok (.iload_n 1, 1) := by decide +kernel
theorem dX5_put_2 : decode cX5_put 2 = .ok (.invokevirtual 192, 3) := by decide +kernel
theorem dX5_put_5 : decode cX5_put 5 = .ok (.ifCond .ne 6, 3) := by decide +kernel
theorem dX5_put_8 : decode cX5_put 8 = .ok (.bipush (-5), 2) := by decide +kernel
theorem dX5_put_10 : decode cX5_put 10 = .ok (.ireturn, 1) := by decide +kernel
theorem dX5_put_11 : decode cX5_put 11 = .ok (.iload_n 2, 1) := by decide +kernel
theorem dX5_put_12 : decode cX5_put 12 = .ok (.iconst 0, 1) := by decide +kernel
theorem dX5_put_13 : decode cX5_put 13 = .ok (.iconst 1, 1) := by decide +kernel
theorem dX5_put_14 : decode cX5_put 14 = .ok (.invokestatic 78, 3) := by decide +kernel
theorem dX5_put_17 : decode cX5_put 17 = .ok (.ifCond .eq 22, 3) := by decide +kernel
theorem dX5_put_20 : decode cX5_put 20 = .ok (.iload_n 3, 1) := by decide +kernel
theorem dX5_put_21 : decode cX5_put 21 = .ok (.iconst 0, 1) := by decide +kernel
theorem dX5_put_22 : decode cX5_put 22 = .ok (.iload_n 2, 1) := by decide +kernel
theorem dX5_put_23 : decode cX5_put 23 = .ok (.ifCond .ne 8, 3) := by decide +kernel
theorem dX5_put_26 : decode cX5_put 26 = .ok (.bipush 35, 2) := by decide +kernel
theorem dX5_put_28 : decode cX5_put 28 = .ok (.goto 5, 3) := by decide +kernel
theorem dX5_put_31 : decode cX5_put 31 = .ok (.bipush 99, 2) := by decide +kernel
theorem dX5_put_33 : decode cX5_put 33 = .ok (.invokestatic 78, 3) := by decide +kernel
theorem dX5_put_36 : decode cX5_put 36 = .ok (.ifCond .ne 6, 3) := by decide +kernel
theorem dX5_put_39 : decode cX5_put 39 = .ok (.bipush (-7), 2) := by decide +kernel
theorem dX5_put_41 : decode cX5_put 41 = .ok (.ireturn, 1) := by decide +kernel
theorem dX5_put_42 : decode cX5_put 42 = .ok (.iload_n 2, 1) := by decide +kernel
theorem dX5_put_43 : decode cX5_put 43 = .ok (.ifCond .ne 12, 3) := by decide +kernel
theorem dX5_put_46 : decode cX5_put 46 = .ok (.aload_n 0, 1) := by decide +kernel
theorem dX5_put_47 : decode cX5_put 47 = .ok (.getfield 16, 3) := by decide +kernel
theorem dX5_put_50 : decode cX5_put 50 = .ok (.iload_n 1, 1) := by decide +kernel
theorem dX5_put_51 : decode cX5_put 51 = .ok (.iaload, 1) := by decide +kernel
theorem dX5_put_52 : decode cX5_put 52 = .ok (.goto 9, 3) := by decide +kernel
theorem dX5_put_55 : decode cX5_put 55 = .ok (.aload_n 0, 1) := by decide +kernel
theorem dX5_put_56 : decode cX5_put 56 = .ok (.getfield 19, 3) := by decide +kernel
theorem dX5_put_59 : decode cX5_put 59 = .ok (.iload_n 1, 1) := by decide +kernel
theorem dX5_put_60 : decode cX5_put 60 = .ok (.iaload, 1) := by decide +kernel
theorem dX5_put_61 : decode cX5_put 61 = .ok (.istore 4, 2) := by decide +kernel
theorem dX5_put_63 : decode cX5_put 63 = .ok (.iload_n 2, 1) := by decide +kernel
theorem dX5_put_64 : decode cX5_put 64 = .ok (.ifCond .ne 13, 3) := by decide +kernel
theorem dX5_put_67 : decode cX5_put 67 = .ok (.aload_n 0, 1) := by decide +kernel
theorem dX5_put_68 : decode cX5_put 68 = .ok (.getfield 16, 3) := by decide +kernel
theorem dX5_put_71 : decode cX5_put 71 = .ok (.iload_n 1, 1) := by decide +kernel
theorem dX5_put_72 : decode cX5_put 72 = .ok (.iload_n 3, 1) := by decide +kernel
theorem dX5_put_73 : decode cX5_put 73 = .ok (.iastore, 1) := by decide +kernel
theorem dX5_put_74 : decode cX5_put 74 = .ok (.goto 10, 3) := by decide +kernel
theorem dX5_put_77 : decode cX5_put 77 = .ok (.aload_n 0, 1) := by decide +kernel
theorem dX5_put_78 : decode cX5_put 78 = .ok (.getfield 19, 3) := by decide +kernel
theorem dX5_put_81 : decode cX5_put 81 = .ok (.iload_n 1, 1) := by decide +kernel
theorem dX5_put_82 : decode cX5_put 82 = .ok (.iload_n 3, 1) := by decide +kernel
theorem dX5_put_83 : decode cX5_put 83 = .ok (.iastore, 1) := by decide +kernel
theorem dX5_put_84 : decode cX5_put 84 = .ok (.iload 4, 2) := by decide +kernel
theorem dX5_put_86 : decode cX5_put 86 = .ok (.ireturn, 1) := by decide +kernel
def b_X5_put_61 (x1 : Int32) (x2 : Int32) (x3 : Int32) (xs0 : Int32) (σ : GM) : Option (Int32 × GM) :=
  if x2 ≠ 0 then (grd x1 6 (bnd (some (tA σ 3 x1.toNatClampNeg x3)) fun σ4 => some (xs0, σ4))) else (grd x1 6 (bnd (some (tA σ 2 x1.toNatClampNeg x3)) fun σ5 => some (xs0, σ5)))
theorem vb_X5_put_61 {g : Gt} {ad : Nat → Nat} (z : Zt) (x1 : Int32) (x2 : Int32) (x3 : Int32) (xs0 : Int32) (σ : GM) : V g (LM ad) 3 RX5 cX5_put 5 (some .int) (wM g ad) iI z (b_X5_put_61 x1 x2 x3 xs0 σ) σ 61 [(0, .ref (aMo ad)), (1, .int x1), (2, .int x2), (3, .int x3)] [.int xs0] := by
  unfold b_X5_put_61
  refine v_istore (pc := 61) (lv' := [(4, .int xs0), (0, .ref (aMo ad)), (1, .int x1), (2, .int x2), (3, .int x3)]) (i := 4) dX5_put_61 (by decide) rfl ?_
  refine v_iload_n (pc := 63) (i := 2) dX5_put_63 rfl rfl ?_
  refine v_if_ne (pc := 64) (tgt := 77) dX5_put_64 rfl ?_ ?_
  · refine v_aload_n (pc := 77) (i := 0) dX5_put_77 rfl rfl ?_
    refine gX5_draughtOf (pc := 78) q_758 dX5_put_78 ?_
    refine v_iload_n (pc := 81) (i := 1) dX5_put_81 rfl rfl ?_
    refine v_iload_n (pc := 82) (i := 3) dX5_put_82 rfl rfl ?_
    refine sM_draughtOf (pc := 83) dX5_put_83 ?_
    refine v_nms (fun σ4 => ?_)
    refine v_iload (pc := 84) (i := 4) dX5_put_84 rfl ?_
    exact v_iret (pc := 86) dX5_put_86
  · refine v_aload_n (pc := 67) (i := 0) dX5_put_67 rfl rfl ?_
    refine gX5_onOf (pc := 68) q_757 dX5_put_68 ?_
    refine v_iload_n (pc := 71) (i := 1) dX5_put_71 rfl rfl ?_
    refine v_iload_n (pc := 72) (i := 3) dX5_put_72 rfl rfl ?_
    refine sM_onOf (pc := 73) dX5_put_73 ?_
    refine v_nms (fun σ5 => ?_)
    refine v_goto (pc := 74) (tgt := 84) dX5_put_74 rfl ?_
    refine v_iload (pc := 84) (i := 4) dX5_put_84 rfl ?_
    exact v_iret (pc := 86) dX5_put_86
def b_X5_put_33 (x1 : Int32) (x2 : Int32) (x3 : Int32) (xs0 : Int32) (xs1 : Int32) (xs2 : Int32) (σ : GM) : Option (Int32 × GM) :=
  bnd (f_X5_in xs2 xs1 xs0 σ) fun q3 => if q3.1 ≠ 0 then (if x2 ≠ 0 then (grd x1 6 (b_X5_put_61 x1 x2 x3 (mA q3.2 3 x1.toNatClampNeg) q3.2)) else (grd x1 6 (b_X5_put_61 x1 x2 x3 (mA q3.2 2 x1.toNatClampNeg) q3.2))) else (some ((-7 : Int32), q3.2))
theorem vb_X5_put_33 {g : Gt} {ad : Nat → Nat} (z : Zt) (x1 : Int32) (x2 : Int32) (x3 : Int32) (xs0 : Int32) (xs1 : Int32) (xs2 : Int32) (σ : GM) : V g (LM ad) 3 RX5 cX5_put 5 (some .int) (wM g ad) iI z (b_X5_put_33 x1 x2 x3 xs0 xs1 xs2 σ) σ 33 [(0, .ref (aMo ad)), (1, .int x1), (2, .int x2), (3, .int x3)] [.int xs0, .int xs1, .int xs2] := by
  unfold b_X5_put_33
  refine v_callSi (pc := 33) (av := [.int xs2, .int xs1, .int xs0]) (rest := []) (ct_X5_in xs2 xs1 xs0) mi_X5_in q_715 (by decide) rfl rfl (Nat.le_of_ble_eq_true rfl) dX5_put_33 (fun q3 => ?_)
  refine v_if_ne (pc := 36) (tgt := 42) dX5_put_36 rfl ?_ ?_
  · refine v_iload_n (pc := 42) (i := 2) dX5_put_42 rfl rfl ?_
    refine v_if_ne (pc := 43) (tgt := 55) dX5_put_43 rfl ?_ ?_
    · refine v_aload_n (pc := 55) (i := 0) dX5_put_55 rfl rfl ?_
      refine gX5_draughtOf (pc := 56) q_758 dX5_put_56 ?_
      refine v_iload_n (pc := 59) (i := 1) dX5_put_59 rfl rfl ?_
      refine lM_draughtOf (pc := 60) dX5_put_60 ?_
      exact v_sub [0, 1, 2, 3] rfl (vb_X5_put_61 z x1 x2 x3 (mA q3.2 3 x1.toNatClampNeg) q3.2)
    · refine v_aload_n (pc := 46) (i := 0) dX5_put_46 rfl rfl ?_
      refine gX5_onOf (pc := 47) q_757 dX5_put_47 ?_
      refine v_iload_n (pc := 50) (i := 1) dX5_put_50 rfl rfl ?_
      refine lM_onOf (pc := 51) dX5_put_51 ?_
      refine v_goto (pc := 52) (tgt := 61) dX5_put_52 rfl ?_
      exact v_sub [0, 1, 2, 3] rfl (vb_X5_put_61 z x1 x2 x3 (mA q3.2 2 x1.toNatClampNeg) q3.2)
  · refine v_bipush (pc := 39) dX5_put_39 bp_m7 ?_
    exact v_iret (pc := 41) dX5_put_41
def f_X5_put (x1 : Int32) (x2 : Int32) (x3 : Int32) (σ : GM) : Option (Int32 × GM) :=
  bnd (f_X5_isShip x1 σ) fun q1 => if q1.1 ≠ 0 then (bnd (f_X5_in x2 (0 : Int32) (1 : Int32) q1.2) fun q2 => if q2.1 = 0 then (some ((-7 : Int32), q2.2)) else (if x2 ≠ 0 then (b_X5_put_33 x1 x2 x3 (99 : Int32) (0 : Int32) x3 q2.2) else (b_X5_put_33 x1 x2 x3 (35 : Int32) (0 : Int32) x3 q2.2))) else (some ((-5 : Int32), q1.2))
theorem vf_X5_put {g : Gt} {ad : Nat → Nat} (z : Zt) (x1 : Int32) (x2 : Int32) (x3 : Int32) (σ : GM) : V g (LM ad) 3 RX5 cX5_put 5 (some .int) (wM g ad) iI z (f_X5_put x1 x2 x3 σ) σ 0 [(0, .ref (aMo ad)), (1, .int x1), (2, .int x2), (3, .int x3)] [] := by
  unfold f_X5_put
  refine v_aload_n (pc := 0) (i := 0) dX5_put_0 rfl rfl ?_
  refine v_iload_n (pc := 1) (i := 1) dX5_put_1 rfl rfl ?_
  refine v_callVi (pc := 2) rcX5 (As := [.int x1]) (rest := []) (ct_X5_isShip x1) mi_X5_isShip q_928 (by decide) rfl rfl (Nat.le_of_ble_eq_true rfl) dX5_put_2 (fun q1 => ?_)
  refine v_if_ne (pc := 5) (tgt := 11) dX5_put_5 rfl ?_ ?_
  · refine v_iload_n (pc := 11) (i := 2) dX5_put_11 rfl rfl ?_
    refine v_iconst (pc := 12) dX5_put_12 ic_0 ?_
    refine v_iconst (pc := 13) dX5_put_13 ic_1 ?_
    refine v_callSi (pc := 14) (av := [.int x2, .int (0 : Int32), .int (1 : Int32)]) (rest := []) (ct_X5_in x2 (0 : Int32) (1 : Int32)) mi_X5_in q_715 (by decide) rfl rfl (Nat.le_of_ble_eq_true rfl) dX5_put_14 (fun q2 => ?_)
    refine v_if_eq (pc := 17) (tgt := 39) dX5_put_17 rfl ?_ ?_
    · refine v_bipush (pc := 39) dX5_put_39 bp_m7 ?_
      exact v_iret (pc := 41) dX5_put_41
    · refine v_iload_n (pc := 20) (i := 3) dX5_put_20 rfl rfl ?_
      refine v_iconst (pc := 21) dX5_put_21 ic_0 ?_
      refine v_iload_n (pc := 22) (i := 2) dX5_put_22 rfl rfl ?_
      refine v_if_ne (pc := 23) (tgt := 31) dX5_put_23 rfl ?_ ?_
      · refine v_bipush (pc := 31) dX5_put_31 bp_99 ?_
        exact v_sub [0, 1, 2, 3] rfl (vb_X5_put_33 z x1 x2 x3 (99 : Int32) (0 : Int32) x3 q2.2)
      · refine v_bipush (pc := 26) dX5_put_26 bp_35 ?_
        refine v_goto (pc := 28) (tgt := 33) dX5_put_28 rfl ?_
        exact v_sub [0, 1, 2, 3] rfl (vb_X5_put_33 z x1 x2 x3 (35 : Int32) (0 : Int32) x3 q2.2)
  · refine v_bipush (pc := 8) dX5_put_8 bp_m5 ?_
    exact v_iret (pc := 10) dX5_put_10
theorem ct_X5_put {g : Gt} {ad : Nat → Nat} (x1 : Int32) (x2 : Int32) (x3 : Int32) : CT g (LM ad) yX5_put cX5_put 5 (some .int) 3 [.ref (aMo ad), .int x1, .int x2, .int x3] iI (wM g ad) (f_X5_put x1 x2 x3) :=
  ct_of_V (own := RX5) (lv0 := [(0, .ref (aMo ad)), (1, .int x1), (2, .int x2), (3, .int x3)]) (by decide +kernel) rfl (Nat.le_of_ble_eq_true rfl) rfl (fun z σ => vf_X5_put z x1 x2 x3 σ)
-- LighthouseLiedToModel.likesOf
theorem dX5_likesOf_0 : decode cX5_likesOf 0 = .ok (.aload_n 0, 1) := by decide +kernel
theorem dX5_likesOf_1 : decode cX5_likesOf 1 = .ok (.getfield 7, 3) := by decide +kernel
theorem dX5_likesOf_4 : decode cX5_likesOf 4 = .ok (.iload_n 1, 1) := by decide +kernel
theorem dX5_likesOf_5 : decode cX5_likesOf 5 = .ok (.iaload, 1) := by decide +kernel
theorem dX5_likesOf_6 : decode cX5_likesOf 6 = .ok (.iconst 5, 1) := by decide +kernel
theorem dX5_likesOf_7 : decode cX5_likesOf 7 = .ok (.if_icmp .ne 31, 3) := by decide +kernel
theorem dX5_likesOf_10 : decode cX5_likesOf 10 = .ok (.iload_n 2, 1) := by decide +kernel
theorem dX5_likesOf_11 : decode cX5_likesOf 11 = .ok (.iconst 4, 1) := by decide +kernel
theorem dX5_likesOf_12 : decode cX5_likesOf 12 = .ok (.aload_n 0, 1) := by decide +kernel
theorem dX5_likesOf_13 : decode cX5_likesOf 13 = .ok (.getfield 13, 3) := by decide +kernel
theorem dX5_likesOf_16 : decode cX5_likesOf 16 = .ok (.iload_n 1, 1) := by decide +kernel
theorem dX5_likesOf_17 : decode cX5_likesOf 17 = .ok (.iaload, 1) := by decide +kernel
theorem dX5_likesOf_18 : decode cX5_likesOf 18 = .ok (.imul, 1) := by decide +kernel
theorem dX5_likesOf_19 : decode cX5_likesOf 19 = .ok (.bipush 36, 2) := by decide +kernel
theorem dX5_likesOf_21 : decode cX5_likesOf 21 = .ok (.irem, 1) := by decide +kernel
theorem dX5_likesOf_22 : decode cX5_likesOf 22 = .ok (.if_icmp .ne 8, 3) := by decide +kernel
theorem dX5_likesOf_25 : decode cX5_likesOf 25 = .ok (.bipush 99, 2) := by decide +kernel
theorem dX5_likesOf_27 : decode cX5_likesOf 27 = .ok (.goto 10, 3) := by decide +kernel
theorem dX5_likesOf_30 : decode cX5_likesOf 30 = .ok (.aload_n 0, 1) := by decide +kernel
theorem dX5_likesOf_31 : decode cX5_likesOf 31 = .ok (.iconst 2, 1) := by decide +kernel
theorem dX5_likesOf_32 : decode cX5_likesOf 32 = .ok (.iload_n 2, 1) := by decide +kernel
theorem dX5_likesOf_33 : decode cX5_likesOf 33 = .ok (.iload_n 1, 1) := by decide +kernel
theorem dX5_likesOf_34 : decode cX5_likesOf 34 = .ok (.invokevirtual 195, 3) := by decide +kernel
theorem dX5_likesOf_37 : decode cX5_likesOf 37 = .ok (.ireturn, 1) := by decide +kernel
theorem dX5_likesOf_38 : decode cX5_likesOf 38 = .ok (.aload_n 0, 1) := by decide +kernel
theorem dX5_likesOf_39 : decode cX5_likesOf 39 = .ok (.iconst 0, 1) := by decide +kernel
theorem dX5_likesOf_40 : decode cX5_likesOf 40 = .ok (.iload_n 2, 1) := by decide +kernel
theorem dX5_likesOf_41 : decode cX5_likesOf 41 = .ok (.iload_n 1, 1) := by decide +kernel
theorem dX5_likesOf_42 : decode cX5_likesOf 42 = .ok (.invokevirtual 195, 3) := by decide +kernel
theorem dX5_likesOf_45 : decode cX5_likesOf 45 = .ok (.istore_n 3, 1) := by decide +kernel
theorem dX5_likesOf_46 : decode cX5_likesOf 46 = .ok (.iload_n 2, 1) := by decide +kernel
theorem dX5_likesOf_47 : decode cX5_likesOf 47 = .ok (.bipush 6, 2) := by decide +kernel
theorem dX5_likesOf_49 : decode cX5_likesOf 49 = .ok (.idiv, 1) := by decide +kernel
theorem dX5_likesOf_50 : decode cX5_likesOf 50 = .ok (.aload_n 0, 1) := by decide +kernel
theorem dX5_likesOf_51 : decode cX5_likesOf 51 = .ok (.getfield 13, 3) := by decide +kernel
theorem dX5_likesOf_54 : decode cX5_likesOf 54 = .ok (.iload_n 1, 1) := by decide +kernel
theorem dX5_likesOf_55 : decode cX5_likesOf 55 = .ok (.iaload, 1) := by decide +kernel
theorem dX5_likesOf_56 : decode cX5_likesOf 56 = .ok (.bipush 6, 2) := by decide +kernel
theorem dX5_likesOf_58 : decode cX5_likesOf 58 = .ok (.irem, 1) := by decide +kernel
theorem dX5_likesOf_59 : decode cX5_likesOf 59 = .ok (.if_icmp .ne 10, 3) := by decide +kernel
theorem dX5_likesOf_62 : decode cX5_likesOf 62 = .ok (.iload_n 3, 1) := by decide +kernel
theorem dX5_likesOf_63 : decode cX5_likesOf 63 = .ok (.bipush 20, 2) := by decide +kernel
theorem dX5_likesOf_65 : decode cX5_likesOf 65 = .ok (.iadd, 1) := by decide +kernel
theorem dX5_likesOf_66 : decode cX5_likesOf 66 = .ok (.goto 4, 3) := by decide +kernel
theorem dX5_likesOf_69 : decode cX5_likesOf 69 = .ok (.iload_n 3, 1) := by decide +kernel
theorem dX5_likesOf_70 : decode cX5_likesOf 70 = .ok (.istore 4, 2) := by decide +kernel
theorem dX5_likesOf_72 : decode cX5_likesOf 72 = .ok (.aload_n 0, 1) := by decide +kernel
theorem dX5_likesOf_73 : decode cX5_likesOf 73 = .ok (.getfield 7, 3) := by decide +kernel
theorem dX5_likesOf_76 : decode cX5_likesOf 76 = .ok (.iload_n 1, 1) := by decide +kernel
theorem dX5_likesOf_77 : decode cX5_likesOf 77 = .ok (.iaload, 1) := by decide +kernel
theorem dX5_likesOf_78 : decode cX5_likesOf 78 = .ok (.tableswitch 59 1 4 #[30, 40, 43, 53], 30) := by decide +kernel
theorem dX5_likesOf_108 : decode cX5_likesOf 108 = .ok (.iload_n 3, 1) := by decide +kernel
theorem dX5_likesOf_109 : decode cX5_likesOf 109 = .ok (.aload_n 0, 1) := by decide +kernel
theorem dX5_likesOf_110 : decode cX5_likesOf 110 = .ok (.iconst 2, 1) := by decide +kernel
theorem dX5_likesOf_111 : decode cX5_likesOf 111 = .ok (.iload_n 2, 1) := by decide +kernel
theorem dX5_likesOf_112 : decode cX5_likesOf 112 = .ok (.iload_n 1, 1) := by decide +kernel
theorem dX5_likesOf_113 : decode cX5_likesOf 113 = .ok (.invokevirtual 195, 3) := by decide +kernel
theorem dX5_likesOf_116 : decode cX5_likesOf 116 = .ok (.isub, 1) := by decide +kernel
theorem dX5_likesOf_117 : decode cX5_likesOf 117 = .ok (.ireturn, 1) := by decide +kernel
theorem dX5_likesOf_118 : decode cX5_likesOf 118 = .ok (.iload 4, 2) := by decide +kernel
theorem dX5_likesOf_120 : decode cX5_likesOf 120 = .ok (.ireturn, 1) := by decide +kernel
theorem dX5_likesOf_121 : decode cX5_likesOf 121 = .ok (.aload_n 0, 1) := by decide +kernel
theorem dX5_likesOf_122 : decode cX5_likesOf 122 = .ok (.iconst 2, 1) := by decide +kernel
theorem dX5_likesOf_123 : decode cX5_likesOf 123 = .ok (.iload_n 2, 1) := by decide +kernel
theorem dX5_likesOf_124 : decode cX5_likesOf 124 = .ok (.iload_n 1, 1) := by decide +kernel
theorem dX5_likesOf_125 : decode cX5_likesOf 125 = .ok (.invokevirtual 195, 3) := by decide +kernel
theorem dX5_likesOf_128 : decode cX5_likesOf 128 = .ok (.iload_n 3, 1) := by decide +kernel
theorem dX5_likesOf_129 : decode cX5_likesOf 129 = .ok (.isub, 1) := by decide +kernel
theorem dX5_likesOf_130 : decode cX5_likesOf 130 = .ok (.ireturn, 1) := by decide +kernel
theorem dX5_likesOf_131 : decode cX5_likesOf 131 = .ok (.iload 4, 2) := by decide +kernel
theorem dX5_likesOf_133 : decode cX5_likesOf 133 = .ok (.bipush 10, 2) := by decide +kernel
theorem dX5_likesOf_135 : decode cX5_likesOf 135 = .ok (.idiv, 1) := by decide +kernel
theorem dX5_likesOf_136 : decode cX5_likesOf 136 = .ok (.ireturn, 1) := by decide +kernel
theorem dX5_likesOf_137 : decode cX5_likesOf 137 = .ok (.iload_n 3, 1) := by decide +kernel
theorem dX5_likesOf_138 : decode cX5_likesOf 138 = .ok (.ireturn, 1) := by decide +kernel
def b_X5_likesOf_70 (x1 : Int32) (x2 : Int32) (x3 : Int32) (xs0 : Int32) (σ : GM) : Option (Int32 × GM) :=
  grd x1 6 (bnd (some (mA σ 0 x1.toNatClampNeg)) fun w2 => if w2 = (1 : Int32) then (bnd (f_X5_asksOf (2 : Int32) x2 x1 σ) fun q3 => some ((x3 - q3.1), q3.2)) else (if w2 = (2 : Int32) then (some (xs0, σ)) else (if w2 = (3 : Int32) then (bnd (f_X5_asksOf (2 : Int32) x2 x1 σ) fun q4 => some ((q4.1 - x3), q4.2)) else (if w2 = (4 : Int32) then (some ((xs0 / (10 : Int32)), σ)) else (some (x3, σ))))))
theorem vb_X5_likesOf_70 {g : Gt} {ad : Nat → Nat} (z : Zt) (x1 : Int32) (x2 : Int32) (x3 : Int32) (xs0 : Int32) (σ : GM) : V g (LM ad) 4 RX5 cX5_likesOf 5 (some .int) (wM g ad) iI z (b_X5_likesOf_70 x1 x2 x3 xs0 σ) σ 70 [(0, .ref (aMo ad)), (1, .int x1), (2, .int x2), (3, .int x3)] [.int xs0] := by
  unfold b_X5_likesOf_70
  refine v_istore (pc := 70) (lv' := [(4, .int xs0), (0, .ref (aMo ad)), (1, .int x1), (2, .int x2), (3, .int x3)]) (i := 4) dX5_likesOf_70 (by decide) rfl ?_
  refine v_aload_n (pc := 72) (i := 0) dX5_likesOf_72 rfl rfl ?_
  refine gX5_kind (pc := 73) q_755 dX5_likesOf_73 ?_
  refine v_iload_n (pc := 76) (i := 1) dX5_likesOf_76 rfl rfl ?_
  refine lM_kind (pc := 77) dX5_likesOf_77 ?_
  refine v_nmi (fun w2 => ?_)
  refine v_case (c := w2 = (1 : Int32)) (fun hx => ?_) (fun hc78_0 => ?_)
  · refine v_tin (pc := 78) (tgt := 108) (off := 30) hx dX5_likesOf_78 (by decide) (by decide) rfl rfl ?_
    refine v_iload_n (pc := 108) (i := 3) dX5_likesOf_108 rfl rfl ?_
    refine v_aload_n (pc := 109) (i := 0) dX5_likesOf_109 rfl rfl ?_
    refine v_iconst (pc := 110) dX5_likesOf_110 ic_2 ?_
    refine v_iload_n (pc := 111) (i := 2) dX5_likesOf_111 rfl rfl ?_
    refine v_iload_n (pc := 112) (i := 1) dX5_likesOf_112 rfl rfl ?_
    refine v_callVi (pc := 113) rcX5 (As := [.int (2 : Int32), .int x2, .int x1]) (rest := [.int x3]) (ct_X5_asksOf (2 : Int32) x2 x1) mi_X5_asksOf q_932 (by decide) rfl rfl (Nat.le_of_ble_eq_true rfl) dX5_likesOf_113 (fun q3 => ?_)
    refine v_isub (pc := 116) dX5_likesOf_116 ?_
    exact v_iret (pc := 117) dX5_likesOf_117
  refine v_case (c := w2 = (2 : Int32)) (fun hx => ?_) (fun hc78_1 => ?_)
  · refine v_tin (pc := 78) (tgt := 118) (off := 40) hx dX5_likesOf_78 (by decide) (by decide) rfl rfl ?_
    refine v_iload (pc := 118) (i := 4) dX5_likesOf_118 rfl ?_
    exact v_iret (pc := 120) dX5_likesOf_120
  refine v_case (c := w2 = (3 : Int32)) (fun hx => ?_) (fun hc78_2 => ?_)
  · refine v_tin (pc := 78) (tgt := 121) (off := 43) hx dX5_likesOf_78 (by decide) (by decide) rfl rfl ?_
    refine v_aload_n (pc := 121) (i := 0) dX5_likesOf_121 rfl rfl ?_
    refine v_iconst (pc := 122) dX5_likesOf_122 ic_2 ?_
    refine v_iload_n (pc := 123) (i := 2) dX5_likesOf_123 rfl rfl ?_
    refine v_iload_n (pc := 124) (i := 1) dX5_likesOf_124 rfl rfl ?_
    refine v_callVi (pc := 125) rcX5 (As := [.int (2 : Int32), .int x2, .int x1]) (rest := []) (ct_X5_asksOf (2 : Int32) x2 x1) mi_X5_asksOf q_932 (by decide) rfl rfl (Nat.le_of_ble_eq_true rfl) dX5_likesOf_125 (fun q4 => ?_)
    refine v_iload_n (pc := 128) (i := 3) dX5_likesOf_128 rfl rfl ?_
    refine v_isub (pc := 129) dX5_likesOf_129 ?_
    exact v_iret (pc := 130) dX5_likesOf_130
  refine v_case (c := w2 = (4 : Int32)) (fun hx => ?_) (fun hc78_3 => ?_)
  · refine v_tin (pc := 78) (tgt := 131) (off := 53) hx dX5_likesOf_78 (by decide) (by decide) rfl rfl ?_
    refine v_iload (pc := 131) (i := 4) dX5_likesOf_131 rfl ?_
    refine v_bipush (pc := 133) dX5_likesOf_133 bp_10 ?_
    refine v_idiv (pc := 135) dX5_likesOf_135 (by decide) ?_
    exact v_iret (pc := 136) dX5_likesOf_136
  refine v_tout (pc := 78) (tgt := 137) dX5_likesOf_78 (by have e0 := tsw_ne (a := 1) hc78_0 rfl; have e1 := tsw_ne (a := 2) hc78_1 rfl; have e2 := tsw_ne (a := 3) hc78_2 rfl; have e3 := tsw_ne (a := 4) hc78_3 rfl; omega) rfl ?_
  refine v_iload_n (pc := 137) (i := 3) dX5_likesOf_137 rfl rfl ?_
  exact v_iret (pc := 138) dX5_likesOf_138
def f_X5_likesOf (x1 : Int32) (x2 : Int32) (σ : GM) : Option (Int32 × GM) :=
  grd x1 6 (if (mA σ 0 x1.toNatClampNeg) ≠ (5 : Int32) then (bnd (f_X5_asksOf (0 : Int32) x2 x1 σ) fun q1 => grd x1 6 (if (x2 / (6 : Int32)) ≠ (rI (mA q1.2 1 x1.toNatClampNeg) (6 : Int32)) then (b_X5_likesOf_70 x1 x2 q1.1 q1.1 q1.2) else (b_X5_likesOf_70 x1 x2 q1.1 (q1.1 + (20 : Int32)) q1.2))) else (grd x1 6 (if x2 ≠ (rI ((4 : Int32) * (mA σ 1 x1.toNatClampNeg)) (36 : Int32)) then (bnd (f_X5_asksOf (2 : Int32) x2 x1 σ) fun q5 => some (q5.1, q5.2)) else (some ((99 : Int32), σ)))))
theorem vf_X5_likesOf {g : Gt} {ad : Nat → Nat} (z : Zt) (x1 : Int32) (x2 : Int32) (σ : GM) : V g (LM ad) 4 RX5 cX5_likesOf 5 (some .int) (wM g ad) iI z (f_X5_likesOf x1 x2 σ) σ 0 [(0, .ref (aMo ad)), (1, .int x1), (2, .int x2)] [] := by
  unfold f_X5_likesOf
  refine v_aload_n (pc := 0) (i := 0) dX5_likesOf_0 rfl rfl ?_
  refine gX5_kind (pc := 1) q_755 dX5_likesOf_1 ?_
  refine v_iload_n (pc := 4) (i := 1) dX5_likesOf_4 rfl rfl ?_
  refine lM_kind (pc := 5) dX5_likesOf_5 ?_
  refine v_iconst (pc := 6) dX5_likesOf_6 ic_5 ?_
  refine v_icmp_ne (pc := 7) (tgt := 38) dX5_likesOf_7 rfl ?_ ?_
  · refine v_aload_n (pc := 38) (i := 0) dX5_likesOf_38 rfl rfl ?_
    refine v_iconst (pc := 39) dX5_likesOf_39 ic_0 ?_
    refine v_iload_n (pc := 40) (i := 2) dX5_likesOf_40 rfl rfl ?_
    refine v_iload_n (pc := 41) (i := 1) dX5_likesOf_41 rfl rfl ?_
    refine v_callVi (pc := 42) rcX5 (As := [.int (0 : Int32), .int x2, .int x1]) (rest := []) (ct_X5_asksOf (0 : Int32) x2 x1) mi_X5_asksOf q_932 (by decide) rfl rfl (Nat.le_of_ble_eq_true rfl) dX5_likesOf_42 (fun q1 => ?_)
    refine v_istore_n (pc := 45) (lv' := [(3, .int q1.1), (0, .ref (aMo ad)), (1, .int x1), (2, .int x2)]) (i := 3) dX5_likesOf_45 rfl (by decide) rfl ?_
    refine v_iload_n (pc := 46) (i := 2) dX5_likesOf_46 rfl rfl ?_
    refine v_bipush (pc := 47) dX5_likesOf_47 bp_6 ?_
    refine v_idiv (pc := 49) dX5_likesOf_49 (by decide) ?_
    refine v_aload_n (pc := 50) (i := 0) dX5_likesOf_50 rfl rfl ?_
    refine gX5_moreOf (pc := 51) q_756 dX5_likesOf_51 ?_
    refine v_iload_n (pc := 54) (i := 1) dX5_likesOf_54 rfl rfl ?_
    refine lM_moreOf (pc := 55) dX5_likesOf_55 ?_
    refine v_bipush (pc := 56) dX5_likesOf_56 bp_6 ?_
    refine v_irem (pc := 58) dX5_likesOf_58 (by decide) ?_
    refine v_icmp_ne (pc := 59) (tgt := 69) dX5_likesOf_59 rfl ?_ ?_
    · refine v_iload_n (pc := 69) (i := 3) dX5_likesOf_69 rfl rfl ?_
      exact v_sub [1, 2, 3, 0] rfl (vb_X5_likesOf_70 z x1 x2 q1.1 q1.1 q1.2)
    · refine v_iload_n (pc := 62) (i := 3) dX5_likesOf_62 rfl rfl ?_
      refine v_bipush (pc := 63) dX5_likesOf_63 bp_20 ?_
      refine v_iadd (pc := 65) dX5_likesOf_65 ?_
      refine v_goto (pc := 66) (tgt := 70) dX5_likesOf_66 rfl ?_
      exact v_sub [1, 2, 3, 0] rfl (vb_X5_likesOf_70 z x1 x2 q1.1 (q1.1 + (20 : Int32)) q1.2)
  · refine v_iload_n (pc := 10) (i := 2) dX5_likesOf_10 rfl rfl ?_
    refine v_iconst (pc := 11) dX5_likesOf_11 ic_4 ?_
    refine v_aload_n (pc := 12) (i := 0) dX5_likesOf_12 rfl rfl ?_
    refine gX5_moreOf (pc := 13) q_756 dX5_likesOf_13 ?_
    refine v_iload_n (pc := 16) (i := 1) dX5_likesOf_16 rfl rfl ?_
    refine lM_moreOf (pc := 17) dX5_likesOf_17 ?_
    refine v_imul (pc := 18) dX5_likesOf_18 ?_
    refine v_bipush (pc := 19) dX5_likesOf_19 bp_36 ?_
    refine v_irem (pc := 21) dX5_likesOf_21 (by decide) ?_
    refine v_icmp_ne (pc := 22) (tgt := 30) dX5_likesOf_22 rfl ?_ ?_
    · refine v_aload_n (pc := 30) (i := 0) dX5_likesOf_30 rfl rfl ?_
      refine v_iconst (pc := 31) dX5_likesOf_31 ic_2 ?_
      refine v_iload_n (pc := 32) (i := 2) dX5_likesOf_32 rfl rfl ?_
      refine v_iload_n (pc := 33) (i := 1) dX5_likesOf_33 rfl rfl ?_
      refine v_callVi (pc := 34) rcX5 (As := [.int (2 : Int32), .int x2, .int x1]) (rest := []) (ct_X5_asksOf (2 : Int32) x2 x1) mi_X5_asksOf q_932 (by decide) rfl rfl (Nat.le_of_ble_eq_true rfl) dX5_likesOf_34 (fun q5 => ?_)
      exact v_iret (pc := 37) dX5_likesOf_37
    · refine v_bipush (pc := 25) dX5_likesOf_25 bp_99 ?_
      refine v_goto (pc := 27) (tgt := 37) dX5_likesOf_27 rfl ?_
      exact v_iret (pc := 37) dX5_likesOf_37
theorem ct_X5_likesOf {g : Gt} {ad : Nat → Nat} (x1 : Int32) (x2 : Int32) : CT g (LM ad) yX5_likesOf cX5_likesOf 5 (some .int) 4 [.ref (aMo ad), .int x1, .int x2] iI (wM g ad) (f_X5_likesOf x1 x2) :=
  ct_of_V (own := RX5) (lv0 := [(0, .ref (aMo ad)), (1, .int x1), (2, .int x2)]) (by decide +kernel) rfl (Nat.le_of_ble_eq_true rfl) rfl (fun z σ => vf_X5_likesOf z x1 x2 σ)
-- LighthouseLiedToModel.besideOf
theorem dX5_besideOf_0 : decode cX5_besideOf 0 = .ok (.iload_n 1, 1) := by decide +kernel
theorem dX5_besideOf_1 : decode cX5_besideOf 1 = .ok (.tableswitch 73 0 2 #[27, 43, 58], 27) := by decide +kernel
theorem dX5_besideOf_28 : decode cX5_besideOf 28 = .ok (.iload_n 0, 1) := by decide +kernel
theorem dX5_besideOf_29 : decode cX5_besideOf 29 = .ok (.bipush 6, 2) := by decide +kernel
theorem dX5_besideOf_31 : decode cX5_besideOf 31 = .ok (.irem, 1) := by decide +kernel
theorem dX5_besideOf_32 : decode cX5_besideOf 32 = .ok (.iconst 5, 1) := by decide +kernel
theorem dX5_besideOf_33 : decode cX5_besideOf 33 = .ok (.if_icmp .ge 9, 3) := by decide +kernel
theorem dX5_besideOf_36 : decode cX5_besideOf 36 = .ok (.iload_n 0, 1) := by decide +kernel
theorem dX5_besideOf_37 : decode cX5_besideOf 37 = .ok (.iconst 1, 1) := by decide +kernel
theorem dX5_besideOf_38 : decode cX5_besideOf 38 = .ok (.iadd, 1) := by decide +kernel
theorem dX5_besideOf_39 : decode cX5_besideOf 39 = .ok (.goto 4, 3) := by decide +kernel
theorem dX5_besideOf_42 : decode cX5_besideOf 42 = .ok (.iconst (-1), 1) := by decide +kernel
theorem dX5_besideOf_43 : decode cX5_besideOf 43 = .ok (.ireturn, 1) := by decide +kernel
theorem dX5_besideOf_44 : decode cX5_besideOf 44 = .ok (.iload_n 0, 1) := by decide +kernel
theorem dX5_besideOf_45 : decode cX5_besideOf 45 = .ok (.bipush 6, 2) := by decide +kernel
theorem dX5_besideOf_47 : decode cX5_besideOf 47 = .ok (.irem, 1) := by decide +kernel
theorem dX5_besideOf_48 : decode cX5_besideOf 48 = .ok (.ifCond .le 9, 3) := by decide +kernel
theorem dX5_besideOf_51 : decode cX5_besideOf 51 = .ok (.iload_n 0, 1) := by decide +kernel
theorem dX5_besideOf_52 : decode cX5_besideOf 52 = .ok (.iconst 1, 1) := by decide +kernel
theorem dX5_besideOf_53 : decode cX5_besideOf 53 = .ok (.isub, 1) := by decide +kernel
theorem dX5_besideOf_54 : decode cX5_besideOf 54 = .ok (.goto 4, 3) := by decide +kernel
theorem dX5_besideOf_57 : decode cX5_besideOf 57 = .ok (.iconst (-1), 1) := by decide +kernel
theorem dX5_besideOf_58 : decode cX5_besideOf 58 = .ok (.ireturn, 1) := by decide +kernel
theorem dX5_besideOf_59 : decode cX5_besideOf 59 = .ok (.iload_n 0, 1) := by decide +kernel
theorem dX5_besideOf_60 : decode cX5_besideOf 60 = .ok (.bipush 30, 2) := by decide +kernel
theorem dX5_besideOf_62 : decode cX5_besideOf 62 = .ok (.if_icmp .ge 10, 3) := by decide +kernel
theorem dX5_besideOf_65 : decode cX5_besideOf 65 = .ok (.iload_n 0, 1) := by decide +kernel
theorem dX5_besideOf_66 : decode cX5_besideOf 66 = .ok (.bipush 6, 2) := by decide +kernel
theorem dX5_besideOf_68 : decode cX5_besideOf 68 = .ok (.iadd, 1) := by decide +kernel
theorem dX5_besideOf_69 : decode cX5_besideOf 69 = .ok (.goto 4, 3) := by decide +kernel
theorem dX5_besideOf_72 : decode cX5_besideOf 72 = .ok (.iconst (-1), 1) := by decide +kernel
theorem dX5_besideOf_73 : decode cX5_besideOf 73 = .ok (.ireturn, 1) := by decide +kernel
theorem dX5_besideOf_74 : decode cX5_besideOf 74 = .ok (.iload_n 0, 1) := by decide +kernel
theorem dX5_besideOf_75 : decode cX5_besideOf 75 = .ok (.iconst 5, 1) := by decide +kernel
theorem dX5_besideOf_76 : decode cX5_besideOf 76 = .ok (.if_icmp .le 10, 3) := by decide +kernel
theorem dX5_besideOf_79 : decode cX5_besideOf 79 = .ok (.iload_n 0, 1) := by decide +kernel
theorem dX5_besideOf_80 : decode cX5_besideOf 80 = .ok (.bipush 6, 2) := by decide +kernel
theorem dX5_besideOf_82 : decode cX5_besideOf 82 = .ok (.isub, 1) := by decide +kernel
theorem dX5_besideOf_83 : decode cX5_besideOf 83 = .ok (.goto 4, 3) := by decide +kernel
theorem dX5_besideOf_86 : decode cX5_besideOf 86 = .ok (.iconst (-1), 1) := by decide +kernel
theorem dX5_besideOf_87 : decode cX5_besideOf 87 = .ok (.ireturn, 1) := by decide +kernel
def f_X5_besideOf (x0 : Int32) (x1 : Int32) (σ : GM) : Option (Int32 × GM) :=
  if x1 = (0 : Int32) then (if (5 : Int32) ≤ (rI x0 (6 : Int32)) then (some ((-1 : Int32), σ)) else (some ((x0 + (1 : Int32)), σ))) else (if x1 = (1 : Int32) then (if (rI x0 (6 : Int32)) ≤ 0 then (some ((-1 : Int32), σ)) else (some ((x0 - (1 : Int32)), σ))) else (if x1 = (2 : Int32) then (if (30 : Int32) ≤ x0 then (some ((-1 : Int32), σ)) else (some ((x0 + (6 : Int32)), σ))) else (if x0 ≤ (5 : Int32) then (some ((-1 : Int32), σ)) else (some ((x0 - (6 : Int32)), σ)))))
theorem vf_X5_besideOf {g : Gt} {ad : Nat → Nat} (z : Zt) (x0 : Int32) (x1 : Int32) (σ : GM) : V g (LM ad) 1 RX5 cX5_besideOf 2 (some .int) (wM g ad) iI z (f_X5_besideOf x0 x1 σ) σ 0 [(0, .int x0), (1, .int x1)] [] := by
  unfold f_X5_besideOf
  refine v_iload_n (pc := 0) (i := 1) dX5_besideOf_0 rfl rfl ?_
  refine v_case (c := x1 = (0 : Int32)) (fun hx => ?_) (fun hc1_0 => ?_)
  · refine v_tin (pc := 1) (tgt := 28) (off := 27) hx dX5_besideOf_1 (by decide) (by decide) rfl rfl ?_
    refine v_iload_n (pc := 28) (i := 0) dX5_besideOf_28 rfl rfl ?_
    refine v_bipush (pc := 29) dX5_besideOf_29 bp_6 ?_
    refine v_irem (pc := 31) dX5_besideOf_31 (by decide) ?_
    refine v_iconst (pc := 32) dX5_besideOf_32 ic_5 ?_
    refine v_icmp_ge (pc := 33) (tgt := 42) dX5_besideOf_33 rfl ?_ ?_
    · refine v_iconst (pc := 42) dX5_besideOf_42 ic_m1 ?_
      exact v_iret (pc := 43) dX5_besideOf_43
    · refine v_iload_n (pc := 36) (i := 0) dX5_besideOf_36 rfl rfl ?_
      refine v_iconst (pc := 37) dX5_besideOf_37 ic_1 ?_
      refine v_iadd (pc := 38) dX5_besideOf_38 ?_
      refine v_goto (pc := 39) (tgt := 43) dX5_besideOf_39 rfl ?_
      exact v_iret (pc := 43) dX5_besideOf_43
  refine v_case (c := x1 = (1 : Int32)) (fun hx => ?_) (fun hc1_1 => ?_)
  · refine v_tin (pc := 1) (tgt := 44) (off := 43) hx dX5_besideOf_1 (by decide) (by decide) rfl rfl ?_
    refine v_iload_n (pc := 44) (i := 0) dX5_besideOf_44 rfl rfl ?_
    refine v_bipush (pc := 45) dX5_besideOf_45 bp_6 ?_
    refine v_irem (pc := 47) dX5_besideOf_47 (by decide) ?_
    refine v_if_le (pc := 48) (tgt := 57) dX5_besideOf_48 rfl ?_ ?_
    · refine v_iconst (pc := 57) dX5_besideOf_57 ic_m1 ?_
      exact v_iret (pc := 58) dX5_besideOf_58
    · refine v_iload_n (pc := 51) (i := 0) dX5_besideOf_51 rfl rfl ?_
      refine v_iconst (pc := 52) dX5_besideOf_52 ic_1 ?_
      refine v_isub (pc := 53) dX5_besideOf_53 ?_
      refine v_goto (pc := 54) (tgt := 58) dX5_besideOf_54 rfl ?_
      exact v_iret (pc := 58) dX5_besideOf_58
  refine v_case (c := x1 = (2 : Int32)) (fun hx => ?_) (fun hc1_2 => ?_)
  · refine v_tin (pc := 1) (tgt := 59) (off := 58) hx dX5_besideOf_1 (by decide) (by decide) rfl rfl ?_
    refine v_iload_n (pc := 59) (i := 0) dX5_besideOf_59 rfl rfl ?_
    refine v_bipush (pc := 60) dX5_besideOf_60 bp_30 ?_
    refine v_icmp_ge (pc := 62) (tgt := 72) dX5_besideOf_62 rfl ?_ ?_
    · refine v_iconst (pc := 72) dX5_besideOf_72 ic_m1 ?_
      exact v_iret (pc := 73) dX5_besideOf_73
    · refine v_iload_n (pc := 65) (i := 0) dX5_besideOf_65 rfl rfl ?_
      refine v_bipush (pc := 66) dX5_besideOf_66 bp_6 ?_
      refine v_iadd (pc := 68) dX5_besideOf_68 ?_
      refine v_goto (pc := 69) (tgt := 73) dX5_besideOf_69 rfl ?_
      exact v_iret (pc := 73) dX5_besideOf_73
  refine v_tout (pc := 1) (tgt := 74) dX5_besideOf_1 (by have e0 := tsw_ne (a := 0) hc1_0 rfl; have e1 := tsw_ne (a := 1) hc1_1 rfl; have e2 := tsw_ne (a := 2) hc1_2 rfl; omega) rfl ?_
  refine v_iload_n (pc := 74) (i := 0) dX5_besideOf_74 rfl rfl ?_
  refine v_iconst (pc := 75) dX5_besideOf_75 ic_5 ?_
  refine v_icmp_le (pc := 76) (tgt := 86) dX5_besideOf_76 rfl ?_ ?_
  · refine v_iconst (pc := 86) dX5_besideOf_86 ic_m1 ?_
    exact v_iret (pc := 87) dX5_besideOf_87
  · refine v_iload_n (pc := 79) (i := 0) dX5_besideOf_79 rfl rfl ?_
    refine v_bipush (pc := 80) dX5_besideOf_80 bp_6 ?_
    refine v_isub (pc := 82) dX5_besideOf_82 ?_
    refine v_goto (pc := 83) (tgt := 87) dX5_besideOf_83 rfl ?_
    exact v_iret (pc := 87) dX5_besideOf_87
theorem ct_X5_besideOf {g : Gt} {ad : Nat → Nat} (x0 : Int32) (x1 : Int32) : CT g (LM ad) yX5_besideOf cX5_besideOf 2 (some .int) 1 [.int x0, .int x1] iI (wM g ad) (f_X5_besideOf x0 x1) :=
  ct_of_V (own := RX5) (lv0 := [(0, .int x0), (1, .int x1)]) (by decide +kernel) rfl (Nat.le_of_ble_eq_true rfl) rfl (fun z σ => vf_X5_besideOf z x0 x1 σ)
-- LighthouseLiedToModel.goesTo
theorem dX5_goesTo_0 : decode cX5_goesTo 0 = .ok (.aload_n 0, 1) := by decide +kernel
theorem dX5_goesTo_1 : decode cX5_goesTo 1 = .ok (.getfield 16, 3) := by decide +kernel
theorem dX5_goesTo_4 : decode cX5_goesTo 4 = .ok (.iload_n 1, 1) := by decide +kernel
theorem dX5_goesTo_5 : decode cX5_goesTo 5 = .ok (.iaload, 1) := by decide +kernel
theorem dX5_goesTo_6 : decode cX5_goesTo 6 = .ok (.istore_n 2, 1) := by decide +kernel
theorem dX5_goesTo_7 : decode cX5_goesTo 7 = .ok (.aload_n 0, 1) := by decide +kernel
theorem dX5_goesTo_8 : decode cX5_goesTo 8 = .ok (.iload_n 1, 1) := by decide +kernel
theorem dX5_goesTo_9 : decode cX5_goesTo 9 = .ok (.iload_n 2, 1) := by decide +kernel
theorem dX5_goesTo_10 : decode cX5_goesTo 10 = .ok (.invokevirtual 198, 3) := by decide +kernel
theorem dX5_goesTo_13 : decode cX5_goesTo 13 = .ok (.istore_n 3, 1) := by decide +kernel
theorem dX5_goesTo_14 : decode cX5_goesTo 14 = .ok (.iconst 0, 1) := by decide +kernel
theorem dX5_goesTo_15 : decode cX5_goesTo 15 = .ok (.istore 4, 2) := by decide +kernel
theorem dX5_goesTo_17 : decode cX5_goesTo 17 = .ok (.iload 4, 2) := by decide +kernel
theorem dX5_goesTo_19 : decode cX5_goesTo 19 = .ok (.iconst 4, 1) := by decide +kernel
theorem dX5_goesTo_20 : decode cX5_goesTo 20 = .ok (.if_icmp .ge 63, 3) := by decide +kernel
theorem dX5_goesTo_23 : decode cX5_goesTo 23 = .ok (.aload_n 0, 1) := by decide +kernel
theorem dX5_goesTo_24 : decode cX5_goesTo 24 = .ok (.getfield 16, 3) := by decide +kernel
theorem dX5_goesTo_27 : decode cX5_goesTo 27 = .ok (.iload_n 1, 1) := by decide +kernel
theorem dX5_goesTo_28 : decode cX5_goesTo 28 = .ok (.iaload, 1) := by decide +kernel
theorem dX5_goesTo_29 : decode cX5_goesTo 29 = .ok (.iload 4, 2) := by decide +kernel
theorem dX5_goesTo_31 : decode cX5_goesTo 31 = .ok (.invokestatic 201, 3) := by decide +kernel
theorem dX5_goesTo_34 : decode cX5_goesTo 34 = .ok (.istore 5, 2) := by decide +kernel
theorem dX5_goesTo_36 : decode cX5_goesTo 36 = .ok (.iload 5, 2) := by decide +kernel
theorem dX5_goesTo_38 : decode cX5_goesTo 38 = .ok (.iconst (-1), 1) := by decide +kernel
theorem dX5_goesTo_39 : decode cX5_goesTo 39 = .ok (.if_icmp .eq 38, 3) := by decide +kernel
theorem dX5_goesTo_42 : decode cX5_goesTo 42 = .ok (.aload_n 0, 1) := by decide +kernel
theorem dX5_goesTo_43 : decode cX5_goesTo 43 = .ok (.iload_n 1, 1) := by decide +kernel
theorem dX5_goesTo_44 : decode cX5_goesTo 44 = .ok (.iload 5, 2) := by decide +kernel
theorem dX5_goesTo_46 : decode cX5_goesTo 46 = .ok (.invokevirtual 198, 3) := by decide +kernel
theorem dX5_goesTo_49 : decode cX5_goesTo 49 = .ok (.istore 6, 2) := by decide +kernel
theorem dX5_goesTo_51 : decode cX5_goesTo 51 = .ok (.iload 6, 2) := by decide +kernel
theorem dX5_goesTo_53 : decode cX5_goesTo 53 = .ok (.iload_n 3, 1) := by decide +kernel
theorem dX5_goesTo_54 : decode cX5_goesTo 54 = .ok (.if_icmp .le 8, 3) := by decide +kernel
theorem dX5_goesTo_57 : decode cX5_goesTo 57 = .ok (.iload 5, 2) := by decide +kernel
theorem dX5_goesTo_59 : decode cX5_goesTo 59 = .ok (.goto 4, 3) := by decide +kernel
theorem dX5_goesTo_62 : decode cX5_goesTo 62 = .ok (.iload_n 2, 1) := by decide +kernel
theorem dX5_goesTo_63 : decode cX5_goesTo 63 = .ok (.istore_n 2, 1) := by decide +kernel
theorem dX5_goesTo_64 : decode cX5_goesTo 64 = .ok (.iload 6, 2) := by decide +kernel
theorem dX5_goesTo_66 : decode cX5_goesTo 66 = .ok (.iload_n 3, 1) := by decide +kernel
theorem dX5_goesTo_67 : decode cX5_goesTo 67 = .ok (.if_icmp .le 8, 3) := by decide +kernel
theorem dX5_goesTo_70 : decode cX5_goesTo 70 = .ok (.iload 6, 2) := by decide +kernel
theorem dX5_goesTo_72 : decode cX5_goesTo 72 = .ok (.goto 4, 3) := by decide +kernel
theorem dX5_goesTo_75 : decode cX5_goesTo 75 = .ok (.iload_n 3, 1) := by decide +kernel
theorem dX5_goesTo_76 : decode cX5_goesTo 76 = .ok (.istore_n 3, 1) := by decide +kernel
theorem dX5_goesTo_77 : decode cX5_goesTo 77 = .ok (.iinc 4 1, 3) := by decide +kernel
theorem dX5_goesTo_80 : decode cX5_goesTo 80 = .ok (.goto (-63), 3) := by decide +kernel
theorem dX5_goesTo_83 : decode cX5_goesTo 83 = .ok (.iload_n 2, 1) := by decide +kernel
theorem dX5_goesTo_84 : decode cX5_goesTo 84 = .ok (.ireturn, 1) := by decide +kernel
def b_X5_goesTo_63 (kc17 : Int32 → Int32 → Int32 → Int32 → GM → Option (Int32 × GM)) (x1 : Int32) (x3 : Int32) (x4 : Int32) (x6 : Int32) (xs0 : Int32) (σ : GM) : Option (Int32 × GM) :=
  if x6 ≤ x3 then (kc17 x1 xs0 x3 (x4 + (1 : Int32)) σ) else (kc17 x1 xs0 x6 (x4 + (1 : Int32)) σ)
theorem vb_X5_goesTo_63 {g : Gt} {ad : Nat → Nat} (z : Zt) (kc17 : Int32 → Int32 → Int32 → Int32 → GM → Option (Int32 × GM)) (hkc17 : ∀ (x1 : Int32) (x2 : Int32) (x3 : Int32) (x4 : Int32) (σ : GM), V g (LM ad) 5 RX5 cX5_goesTo 7 (some .int) (wM g ad) iI z (kc17 x1 x2 x3 x4 σ) σ 17 [(0, .ref (aMo ad)), (1, .int x1), (2, .int x2), (3, .int x3), (4, .int x4)] []) (x1 : Int32) (x3 : Int32) (x4 : Int32) (x6 : Int32) (xs0 : Int32) (σ : GM) : V g (LM ad) 5 RX5 cX5_goesTo 7 (some .int) (wM g ad) iI z (b_X5_goesTo_63 kc17 x1 x3 x4 x6 xs0 σ) σ 63 [(0, .ref (aMo ad)), (1, .int x1), (3, .int x3), (4, .int x4), (6, .int x6)] [.int xs0] := by
  unfold b_X5_goesTo_63
  refine v_istore_n (pc := 63) (lv' := [(2, .int xs0), (0, .ref (aMo ad)), (1, .int x1), (3, .int x3), (4, .int x4), (6, .int x6)]) (i := 2) dX5_goesTo_63 rfl (by decide) rfl ?_
  refine v_iload (pc := 64) (i := 6) dX5_goesTo_64 rfl ?_
  refine v_iload_n (pc := 66) (i := 3) dX5_goesTo_66 rfl rfl ?_
  refine v_icmp_le (pc := 67) (tgt := 75) dX5_goesTo_67 rfl ?_ ?_
  · refine v_iload_n (pc := 75) (i := 3) dX5_goesTo_75 rfl rfl ?_
    refine v_istore_n (pc := 76) (lv' := [(3, .int x3), (2, .int xs0), (0, .ref (aMo ad)), (1, .int x1), (4, .int x4), (6, .int x6)]) (i := 3) dX5_goesTo_76 rfl (by decide) rfl ?_
    refine v_iinc (pc := 77) (lv' := [(4, .int (x4 + (1 : Int32))), (3, .int x3), (2, .int xs0), (0, .ref (aMo ad)), (1, .int x1), (6, .int x6)]) (i := 4) dX5_goesTo_77 rfl ic_1 (by decide) rfl ?_
    refine v_goto (pc := 80) (tgt := 17) dX5_goesTo_80 rfl ?_
    exact v_sub [3, 4, 2, 1, 0] rfl (hkc17 x1 xs0 x3 (x4 + (1 : Int32)) σ)
  · refine v_iload (pc := 70) (i := 6) dX5_goesTo_70 rfl ?_
    refine v_goto (pc := 72) (tgt := 76) dX5_goesTo_72 rfl ?_
    refine v_istore_n (pc := 76) (lv' := [(3, .int x6), (2, .int xs0), (0, .ref (aMo ad)), (1, .int x1), (4, .int x4), (6, .int x6)]) (i := 3) dX5_goesTo_76 rfl (by decide) rfl ?_
    refine v_iinc (pc := 77) (lv' := [(4, .int (x4 + (1 : Int32))), (3, .int x6), (2, .int xs0), (0, .ref (aMo ad)), (1, .int x1), (6, .int x6)]) (i := 4) dX5_goesTo_77 rfl ic_1 (by decide) rfl ?_
    refine v_goto (pc := 80) (tgt := 17) dX5_goesTo_80 rfl ?_
    exact v_sub [3, 4, 2, 1, 0] rfl (hkc17 x1 xs0 x6 (x4 + (1 : Int32)) σ)
def b_X5_goesTo_17 (kc17 : Int32 → Int32 → Int32 → Int32 → GM → Option (Int32 × GM)) (x1 : Int32) (x2 : Int32) (x3 : Int32) (x4 : Int32) (σ : GM) : Option (Int32 × GM) :=
  if (4 : Int32) ≤ x4 then (some (x2, σ)) else (grd x1 6 (bnd (f_X5_besideOf (mA σ 2 x1.toNatClampNeg) x4 σ) fun q3 => if q3.1 = (-1 : Int32) then (kc17 x1 x2 x3 (x4 + (1 : Int32)) q3.2) else (bnd (f_X5_likesOf x1 q3.1 q3.2) fun q4 => if q4.1 ≤ x3 then (b_X5_goesTo_63 kc17 x1 x3 x4 q4.1 x2 q4.2) else (b_X5_goesTo_63 kc17 x1 x3 x4 q4.1 q3.1 q4.2))))
theorem vb_X5_goesTo_17 {g : Gt} {ad : Nat → Nat} (z : Zt) (kc17 : Int32 → Int32 → Int32 → Int32 → GM → Option (Int32 × GM)) (hkc17 : ∀ (x1 : Int32) (x2 : Int32) (x3 : Int32) (x4 : Int32) (σ : GM), V g (LM ad) 5 RX5 cX5_goesTo 7 (some .int) (wM g ad) iI z (kc17 x1 x2 x3 x4 σ) σ 17 [(0, .ref (aMo ad)), (1, .int x1), (2, .int x2), (3, .int x3), (4, .int x4)] []) (x1 : Int32) (x2 : Int32) (x3 : Int32) (x4 : Int32) (σ : GM) : V g (LM ad) 5 RX5 cX5_goesTo 7 (some .int) (wM g ad) iI z (b_X5_goesTo_17 kc17 x1 x2 x3 x4 σ) σ 17 [(0, .ref (aMo ad)), (1, .int x1), (2, .int x2), (3, .int x3), (4, .int x4)] [] := by
  unfold b_X5_goesTo_17
  refine v_iload (pc := 17) (i := 4) dX5_goesTo_17 rfl ?_
  refine v_iconst (pc := 19) dX5_goesTo_19 ic_4 ?_
  refine v_icmp_ge (pc := 20) (tgt := 83) dX5_goesTo_20 rfl ?_ ?_
  · refine v_iload_n (pc := 83) (i := 2) dX5_goesTo_83 rfl rfl ?_
    exact v_iret (pc := 84) dX5_goesTo_84
  · refine v_aload_n (pc := 23) (i := 0) dX5_goesTo_23 rfl rfl ?_
    refine gX5_onOf (pc := 24) q_757 dX5_goesTo_24 ?_
    refine v_iload_n (pc := 27) (i := 1) dX5_goesTo_27 rfl rfl ?_
    refine lM_onOf (pc := 28) dX5_goesTo_28 ?_
    refine v_iload (pc := 29) (i := 4) dX5_goesTo_29 rfl ?_
    refine v_callSi (pc := 31) (av := [.int (mA σ 2 x1.toNatClampNeg), .int x4]) (rest := []) (ct_X5_besideOf (mA σ 2 x1.toNatClampNeg) x4) mi_X5_besideOf q_963 (by decide) rfl rfl (Nat.le_of_ble_eq_true rfl) dX5_goesTo_31 (fun q3 => ?_)
    refine v_istore (pc := 34) (lv' := [(5, .int q3.1), (0, .ref (aMo ad)), (1, .int x1), (2, .int x2), (3, .int x3), (4, .int x4)]) (i := 5) dX5_goesTo_34 (by decide) rfl ?_
    refine v_iload (pc := 36) (i := 5) dX5_goesTo_36 rfl ?_
    refine v_iconst (pc := 38) dX5_goesTo_38 ic_m1 ?_
    refine v_icmp_eq (pc := 39) (tgt := 77) dX5_goesTo_39 rfl ?_ ?_
    · refine v_iinc (pc := 77) (lv' := [(4, .int (x4 + (1 : Int32))), (5, .int q3.1), (0, .ref (aMo ad)), (1, .int x1), (2, .int x2), (3, .int x3)]) (i := 4) dX5_goesTo_77 rfl ic_1 (by decide) rfl ?_
      refine v_goto (pc := 80) (tgt := 17) dX5_goesTo_80 rfl ?_
      exact v_sub [2, 3, 4, 5, 0] rfl (hkc17 x1 x2 x3 (x4 + (1 : Int32)) q3.2)
    · refine v_aload_n (pc := 42) (i := 0) dX5_goesTo_42 rfl rfl ?_
      refine v_iload_n (pc := 43) (i := 1) dX5_goesTo_43 rfl rfl ?_
      refine v_iload (pc := 44) (i := 5) dX5_goesTo_44 rfl ?_
      refine v_callVi (pc := 46) rcX5 (As := [.int x1, .int q3.1]) (rest := []) (ct_X5_likesOf x1 q3.1) mi_X5_likesOf q_959 (by decide) rfl rfl (Nat.le_of_ble_eq_true rfl) dX5_goesTo_46 (fun q4 => ?_)
      refine v_istore (pc := 49) (lv' := [(6, .int q4.1), (5, .int q3.1), (0, .ref (aMo ad)), (1, .int x1), (2, .int x2), (3, .int x3), (4, .int x4)]) (i := 6) dX5_goesTo_49 (by decide) rfl ?_
      refine v_iload (pc := 51) (i := 6) dX5_goesTo_51 rfl ?_
      refine v_iload_n (pc := 53) (i := 3) dX5_goesTo_53 rfl rfl ?_
      refine v_icmp_le (pc := 54) (tgt := 62) dX5_goesTo_54 rfl ?_ ?_
      · refine v_iload_n (pc := 62) (i := 2) dX5_goesTo_62 rfl rfl ?_
        exact v_sub [2, 3, 5, 6, 0] rfl (vb_X5_goesTo_63 z kc17 hkc17 x1 x3 x4 q4.1 x2 q4.2)
      · refine v_iload (pc := 57) (i := 5) dX5_goesTo_57 rfl ?_
        refine v_goto (pc := 59) (tgt := 63) dX5_goesTo_59 rfl ?_
        exact v_sub [2, 3, 5, 6, 0] rfl (vb_X5_goesTo_63 z kc17 hkc17 x1 x3 x4 q4.1 q3.1 q4.2)
def k_X5_goesTo_17 : Nat → Int32 → Int32 → Int32 → Int32 → GM → Option (Int32 × GM)
  | 0 => fun _ _ _ _ _ => none
  | n + 1 => b_X5_goesTo_17 (k_X5_goesTo_17 n)
theorem vk_X5_goesTo_17 {g : Gt} {ad : Nat → Nat} (z : Zt) : ∀ (n : Nat) (x1 : Int32) (x2 : Int32) (x3 : Int32) (x4 : Int32) (σ : GM), V g (LM ad) 5 RX5 cX5_goesTo 7 (some .int) (wM g ad) iI z (k_X5_goesTo_17 n x1 x2 x3 x4 σ) σ 17 [(0, .ref (aMo ad)), (1, .int x1), (2, .int x2), (3, .int x3), (4, .int x4)] [] := by
  intro n
  induction n with
  | zero => intros; exact v_eq rfl v_none
  | succ n ih =>
    intro x1 x2 x3 x4 σ
    exact v_eq rfl (vb_X5_goesTo_17 z _ ih x1 x2 x3 x4 σ)
def f_X5_goesTo (x1 : Int32) (σ : GM) : Option (Int32 × GM) :=
  grd x1 6 (bnd (some (mA σ 2 x1.toNatClampNeg)) fun w1 => bnd (f_X5_likesOf x1 w1 σ) fun q2 => k_X5_goesTo_17 FU x1 w1 q2.1 (0 : Int32) q2.2)
theorem vf_X5_goesTo {g : Gt} {ad : Nat → Nat} (z : Zt) (x1 : Int32) (σ : GM) : V g (LM ad) 5 RX5 cX5_goesTo 7 (some .int) (wM g ad) iI z (f_X5_goesTo x1 σ) σ 0 [(0, .ref (aMo ad)), (1, .int x1)] [] := by
  unfold f_X5_goesTo
  refine v_aload_n (pc := 0) (i := 0) dX5_goesTo_0 rfl rfl ?_
  refine gX5_onOf (pc := 1) q_757 dX5_goesTo_1 ?_
  refine v_iload_n (pc := 4) (i := 1) dX5_goesTo_4 rfl rfl ?_
  refine lM_onOf (pc := 5) dX5_goesTo_5 ?_
  refine v_nmi (fun w1 => ?_)
  refine v_istore_n (pc := 6) (lv' := [(2, .int w1), (0, .ref (aMo ad)), (1, .int x1)]) (i := 2) dX5_goesTo_6 rfl (by decide) rfl ?_
  refine v_aload_n (pc := 7) (i := 0) dX5_goesTo_7 rfl rfl ?_
  refine v_iload_n (pc := 8) (i := 1) dX5_goesTo_8 rfl rfl ?_
  refine v_iload_n (pc := 9) (i := 2) dX5_goesTo_9 rfl rfl ?_
  refine v_callVi (pc := 10) rcX5 (As := [.int x1, .int w1]) (rest := []) (ct_X5_likesOf x1 w1) mi_X5_likesOf q_959 (by decide) rfl rfl (Nat.le_of_ble_eq_true rfl) dX5_goesTo_10 (fun q2 => ?_)
  refine v_istore_n (pc := 13) (lv' := [(3, .int q2.1), (2, .int w1), (0, .ref (aMo ad)), (1, .int x1)]) (i := 3) dX5_goesTo_13 rfl (by decide) rfl ?_
  refine v_iconst (pc := 14) dX5_goesTo_14 ic_0 ?_
  refine v_istore (pc := 15) (lv' := [(4, .int (0 : Int32)), (3, .int q2.1), (2, .int w1), (0, .ref (aMo ad)), (1, .int x1)]) (i := 4) dX5_goesTo_15 (by decide) rfl ?_
  exact v_sub [3, 4, 2, 1, 0] rfl (vk_X5_goesTo_17 z FU x1 w1 q2.1 (0 : Int32) q2.2)
theorem ct_X5_goesTo {g : Gt} {ad : Nat → Nat} (x1 : Int32) : CT g (LM ad) yX5_goesTo cX5_goesTo 7 (some .int) 5 [.ref (aMo ad), .int x1] iI (wM g ad) (f_X5_goesTo x1) :=
  ct_of_V (own := RX5) (lv0 := [(0, .ref (aMo ad)), (1, .int x1)]) (by decide +kernel) rfl (Nat.le_of_ble_eq_true rfl) rfl (fun z σ => vf_X5_goesTo z x1 σ)
-- LighthouseLiedToModel.doesSink
theorem dX5_doesSink_0 : decode cX5_doesSink 0 = .ok (.aload_n 0, 1) := by decide +kernel
theorem dX5_doesSink_1 : decode cX5_doesSink 1 = .ok (.getfield 19, 3) := by decide +kernel
theorem dX5_doesSink_4 : decode cX5_doesSink 4 = .ok (.iload_n 1, 1) := by decide +kernel
theorem dX5_doesSink_5 : decode cX5_doesSink 5 = .ok (.iaload, 1) := by decide +kernel
theorem dX5_doesSink_6 : decode cX5_doesSink 6 = .ok (.aload_n 0, 1) := by decide +kernel
theorem dX5_doesSink_7 : decode cX5_doesSink 7 = .ok (.getfield 13, 3) := by decide +kernel
theorem dX5_doesSink_10 : decode cX5_doesSink 10 = .ok (.iload_n 1, 1) := by decide +kernel
theorem dX5_doesSink_11 : decode cX5_doesSink 11 = .ok (.iaload, 1) := by decide +kernel
theorem dX5_doesSink_12 : decode cX5_doesSink 12 = .ok (.if_icmp .le 7, 3) := by decide +kernel
theorem dX5_doesSink_15 : decode cX5_doesSink 15 = .ok (.iconst 1, 1) := by decide +kernel
theorem dX5_doesSink_16 : decode cX5_doesSink 16 = .ok (.goto 4, 3) := by decide +kernel
theorem dX5_doesSink_19 : decode cX5_doesSink 19 = .ok (.iconst 0, 1) := by decide +kernel
theorem dX5_doesSink_20 : decode cX5_doesSink 20 = .ok (.istore_n 2, 1) := by decide +kernel
theorem dX5_doesSink_21 : decode cX5_doesSink 21 = .ok (.aload_n 0, 1) := by decide +kernel
theorem dX5_doesSink_22 : decode cX5_doesSink 22 = .ok (.getfield 7, 3) := by decide +kernel
theorem dX5_doesSink_25 : decode cX5_doesSink 25 = .ok (.iload_n 1, 1) := by decide +kernel
theorem dX5_doesSink_26 : decode cX5_doesSink 26 = .ok (.iaload, 1) := by decide +kernel
theorem dX5_doesSink_27 : decode cX5_doesSink 27 = .ok (.tableswitch 52 2 5 #[29, 52, 31, 50], 29) := by decide +kernel
theorem dX5_doesSink_56 : decode cX5_doesSink 56 = .ok (.iload_n 2, 1) := by decide +kernel
theorem dX5_doesSink_57 : decode cX5_doesSink 57 = .ok (.ireturn, 1) := by decide +kernel
theorem dX5_doesSink_58 : decode cX5_doesSink 58 = .ok (.iload_n 2, 1) := by decide +kernel
theorem dX5_doesSink_59 : decode cX5_doesSink 59 = .ok (.ifCond .eq 16, 3) := by decide +kernel
theorem dX5_doesSink_62 : decode cX5_doesSink 62 = .ok (.aload_n 0, 1) := by decide +kernel
theorem dX5_doesSink_63 : decode cX5_doesSink 63 = .ok (.getfield 100, 3) := by decide +kernel
theorem dX5_doesSink_66 : decode cX5_doesSink 66 = .ok (.iconst 5, 1) := by decide +kernel
theorem dX5_doesSink_67 : decode cX5_doesSink 67 = .ok (.irem, 1) := by decide +kernel
theorem dX5_doesSink_68 : decode cX5_doesSink 68 = .ok (.ifCond .ne 7, 3) := by decide +kernel
theorem dX5_doesSink_71 : decode cX5_doesSink 71 = .ok (.iconst 1, 1) := by decide +kernel
theorem dX5_doesSink_72 : decode cX5_doesSink 72 = .ok (.goto 4, 3) := by decide +kernel
theorem dX5_doesSink_75 : decode cX5_doesSink 75 = .ok (.iconst 0, 1) := by decide +kernel
theorem dX5_doesSink_76 : decode cX5_doesSink 76 = .ok (.ireturn, 1) := by decide +kernel
theorem dX5_doesSink_77 : decode cX5_doesSink 77 = .ok (.iconst 0, 1) := by decide +kernel
theorem dX5_doesSink_78 : decode cX5_doesSink 78 = .ok (.ireturn, 1) := by decide +kernel
theorem dX5_doesSink_79 : decode cX5_doesSink 79 = .ok (.iconst 1, 1) := by decide +kernel
theorem dX5_doesSink_80 : decode cX5_doesSink 80 = .ok (.ireturn, 1) := by decide +kernel
def b_X5_doesSink_20 (x1 : Int32) (xs0 : Int32) (σ : GM) : Option (Int32 × GM) :=
  grd x1 6 (bnd (some (mA σ 0 x1.toNatClampNeg)) fun w1 => if w1 = (2 : Int32) then (if xs0 = 0 ∨ xs0 = 1 then some (xs0, σ) else none) else (if w1 = (3 : Int32) then (some ((1 : Int32), σ)) else (if w1 = (4 : Int32) then (if xs0 = 0 then (some ((0 : Int32), σ)) else (if (rI (mI σ 1) (5 : Int32)) ≠ 0 then (some ((0 : Int32), σ)) else (some ((1 : Int32), σ)))) else (if w1 = (5 : Int32) then (some ((0 : Int32), σ)) else (some ((1 : Int32), σ))))))
theorem vb_X5_doesSink_20 {g : Gt} {ad : Nat → Nat} (z : Zt) (x1 : Int32) (xs0 : Int32) (σ : GM) : V g (LM ad) 1 RX5 cX5_doesSink 3 (some .boolean) (wM g ad) iI z (b_X5_doesSink_20 x1 xs0 σ) σ 20 [(0, .ref (aMo ad)), (1, .int x1)] [.int xs0] := by
  unfold b_X5_doesSink_20
  refine v_istore_n (pc := 20) (lv' := [(2, .int xs0), (0, .ref (aMo ad)), (1, .int x1)]) (i := 2) dX5_doesSink_20 rfl (by decide) rfl ?_
  refine v_aload_n (pc := 21) (i := 0) dX5_doesSink_21 rfl rfl ?_
  refine gX5_kind (pc := 22) q_755 dX5_doesSink_22 ?_
  refine v_iload_n (pc := 25) (i := 1) dX5_doesSink_25 rfl rfl ?_
  refine lM_kind (pc := 26) dX5_doesSink_26 ?_
  refine v_nmi (fun w1 => ?_)
  refine v_case (c := w1 = (2 : Int32)) (fun hx => ?_) (fun hc27_0 => ?_)
  · refine v_tin (pc := 27) (tgt := 56) (off := 29) hx dX5_doesSink_27 (by decide) (by decide) rfl rfl ?_
    refine v_iload_n (pc := 56) (i := 2) dX5_doesSink_56 rfl rfl ?_
    exact v_zret (pc := 57) dX5_doesSink_57
  refine v_case (c := w1 = (3 : Int32)) (fun hx => ?_) (fun hc27_1 => ?_)
  · refine v_tin (pc := 27) (tgt := 79) (off := 52) hx dX5_doesSink_27 (by decide) (by decide) rfl rfl ?_
    refine v_iconst (pc := 79) dX5_doesSink_79 ic_1 ?_
    exact v_nret (pc := 80) rfl dX5_doesSink_80
  refine v_case (c := w1 = (4 : Int32)) (fun hx => ?_) (fun hc27_2 => ?_)
  · refine v_tin (pc := 27) (tgt := 58) (off := 31) hx dX5_doesSink_27 (by decide) (by decide) rfl rfl ?_
    refine v_iload_n (pc := 58) (i := 2) dX5_doesSink_58 rfl rfl ?_
    refine v_if_eq (pc := 59) (tgt := 75) dX5_doesSink_59 rfl ?_ ?_
    · refine v_iconst (pc := 75) dX5_doesSink_75 ic_0 ?_
      exact v_nret (pc := 76) rfl dX5_doesSink_76
    · refine v_aload_n (pc := 62) (i := 0) dX5_doesSink_62 rfl rfl ?_
      refine gX5_nights (pc := 63) q_762 dX5_doesSink_63 ?_
      refine v_iconst (pc := 66) dX5_doesSink_66 ic_5 ?_
      refine v_irem (pc := 67) dX5_doesSink_67 (by decide) ?_
      refine v_if_ne (pc := 68) (tgt := 75) dX5_doesSink_68 rfl ?_ ?_
      · refine v_iconst (pc := 75) dX5_doesSink_75 ic_0 ?_
        exact v_nret (pc := 76) rfl dX5_doesSink_76
      · refine v_iconst (pc := 71) dX5_doesSink_71 ic_1 ?_
        refine v_goto (pc := 72) (tgt := 76) dX5_doesSink_72 rfl ?_
        exact v_nret (pc := 76) rfl dX5_doesSink_76
  refine v_case (c := w1 = (5 : Int32)) (fun hx => ?_) (fun hc27_3 => ?_)
  · refine v_tin (pc := 27) (tgt := 77) (off := 50) hx dX5_doesSink_27 (by decide) (by decide) rfl rfl ?_
    refine v_iconst (pc := 77) dX5_doesSink_77 ic_0 ?_
    exact v_nret (pc := 78) rfl dX5_doesSink_78
  refine v_tout (pc := 27) (tgt := 79) dX5_doesSink_27 (by have e0 := tsw_ne (a := 2) hc27_0 rfl; have e1 := tsw_ne (a := 3) hc27_1 rfl; have e2 := tsw_ne (a := 4) hc27_2 rfl; have e3 := tsw_ne (a := 5) hc27_3 rfl; omega) rfl ?_
  refine v_iconst (pc := 79) dX5_doesSink_79 ic_1 ?_
  exact v_nret (pc := 80) rfl dX5_doesSink_80
def f_X5_doesSink (x1 : Int32) (σ : GM) : Option (Int32 × GM) :=
  grd x1 6 (grd x1 6 (if (mA σ 3 x1.toNatClampNeg) ≤ (mA σ 1 x1.toNatClampNeg) then (b_X5_doesSink_20 x1 (0 : Int32) σ) else (b_X5_doesSink_20 x1 (1 : Int32) σ)))
theorem vf_X5_doesSink {g : Gt} {ad : Nat → Nat} (z : Zt) (x1 : Int32) (σ : GM) : V g (LM ad) 1 RX5 cX5_doesSink 3 (some .boolean) (wM g ad) iI z (f_X5_doesSink x1 σ) σ 0 [(0, .ref (aMo ad)), (1, .int x1)] [] := by
  unfold f_X5_doesSink
  refine v_aload_n (pc := 0) (i := 0) dX5_doesSink_0 rfl rfl ?_
  refine gX5_draughtOf (pc := 1) q_758 dX5_doesSink_1 ?_
  refine v_iload_n (pc := 4) (i := 1) dX5_doesSink_4 rfl rfl ?_
  refine lM_draughtOf (pc := 5) dX5_doesSink_5 ?_
  refine v_aload_n (pc := 6) (i := 0) dX5_doesSink_6 rfl rfl ?_
  refine gX5_moreOf (pc := 7) q_756 dX5_doesSink_7 ?_
  refine v_iload_n (pc := 10) (i := 1) dX5_doesSink_10 rfl rfl ?_
  refine lM_moreOf (pc := 11) dX5_doesSink_11 ?_
  refine v_icmp_le (pc := 12) (tgt := 19) dX5_doesSink_12 rfl ?_ ?_
  · refine v_iconst (pc := 19) dX5_doesSink_19 ic_0 ?_
    exact v_sub [0, 1] rfl (vb_X5_doesSink_20 z x1 (0 : Int32) σ)
  · refine v_iconst (pc := 15) dX5_doesSink_15 ic_1 ?_
    refine v_goto (pc := 16) (tgt := 20) dX5_doesSink_16 rfl ?_
    exact v_sub [0, 1] rfl (vb_X5_doesSink_20 z x1 (1 : Int32) σ)
theorem ct_X5_doesSink {g : Gt} {ad : Nat → Nat} (x1 : Int32) : CT g (LM ad) yX5_doesSink cX5_doesSink 3 (some .boolean) 1 [.ref (aMo ad), .int x1] iI (wM g ad) (f_X5_doesSink x1) :=
  ct_of_V (own := RX5) (lv0 := [(0, .ref (aMo ad)), (1, .int x1)]) (by decide +kernel) rfl (Nat.le_of_ble_eq_true rfl) rfl (fun z σ => vf_X5_doesSink z x1 σ)
-- LighthouseLiedToModel.told
theorem dX5_told_0 : decode cX5_told 0 = .ok (.aload_n 0, 1) := by decide +kernel
theorem dX5_told_1 : decode cX5_told 1 = .ok (.iload_n 1, 1) := by decide +kernel
theorem dX5_told_2 : decode cX5_told 2 = .ok (.invokevirtual 192, 3) := by decide +kernel
theorem dX5_told_5 : decode cX5_told 5 = .ok (.ifCond .ne 6, 3) := by decide +kernel
theorem dX5_told_8 : decode cX5_told 8 = .ok (.bipush (-5), 2) := by decide +kernel
theorem dX5_told_10 : decode cX5_told 10 = .ok (.ireturn, 1) := by decide +kernel
theorem dX5_told_11 : decode cX5_told 11 = .ok (.iload_n 2, 1) := by decide +kernel
theorem dX5_told_12 : decode cX5_told 12 = .ok (.tableswitch 99 0 6 #[44, 51, 58, 65, 72, 79, 85], 44) := by decide +kernel
theorem dX5_told_56 : decode cX5_told 56 = .ok (.aload_n 0, 1) := by decide +kernel
theorem dX5_told_57 : decode cX5_told 57 = .ok (.getfield 16, 3) := by decide +kernel
theorem dX5_told_60 : decode cX5_told 60 = .ok (.iload_n 1, 1) := by decide +kernel
theorem dX5_told_61 : decode cX5_told 61 = .ok (.iaload, 1) := by decide +kernel
theorem dX5_told_62 : decode cX5_told 62 = .ok (.ireturn, 1) := by decide +kernel
theorem dX5_told_63 : decode cX5_told 63 = .ok (.aload_n 0, 1) := by decide +kernel
theorem dX5_told_64 : decode cX5_told 64 = .ok (.getfield 19, 3) := by decide +kernel
theorem dX5_told_67 : decode cX5_told 67 = .ok (.iload_n 1, 1) := by decide +kernel
theorem dX5_told_68 : decode cX5_told 68 = .ok (.iaload, 1) := by decide +kernel
theorem dX5_told_69 : decode cX5_told 69 = .ok (.ireturn, 1) := by decide +kernel
theorem dX5_told_70 : decode cX5_told 70 = .ok (.aload_n 0, 1) := by decide +kernel
theorem dX5_told_71 : decode cX5_told 71 = .ok (.getfield 7, 3) := by decide +kernel
theorem dX5_told_74 : decode cX5_told 74 = .ok (.iload_n 1, 1) := by decide +kernel
theorem dX5_told_75 : decode cX5_told 75 = .ok (.iaload, 1) := by decide +kernel
theorem dX5_told_76 : decode cX5_told 76 = .ok (.ireturn, 1) := by decide +kernel
theorem dX5_told_77 : decode cX5_told 77 = .ok (.aload_n 0, 1) := by decide +kernel
theorem dX5_told_78 : decode cX5_told 78 = .ok (.getfield 13, 3) := by decide +kernel
theorem dX5_told_81 : decode cX5_told 81 = .ok (.iload_n 1, 1) := by decide +kernel
theorem dX5_told_82 : decode cX5_told 82 = .ok (.iaload, 1) := by decide +kernel
theorem dX5_told_83 : decode cX5_told 83 = .ok (.ireturn, 1) := by decide +kernel
theorem dX5_told_84 : decode cX5_told 84 = .ok (.aload_n 0, 1) := by decide +kernel
theorem dX5_told_85 : decode cX5_told 85 = .ok (.getfield 22, 3) := by decide +kernel
theorem dX5_told_88 : decode cX5_told 88 = .ok (.iload_n 1, 1) := by decide +kernel
theorem dX5_told_89 : decode cX5_told 89 = .ok (.iaload, 1) := by decide +kernel
theorem dX5_told_90 : decode cX5_told 90 = .ok (.ireturn, 1) := by decide +kernel
theorem dX5_told_91 : decode cX5_told 91 = .ok (.aload_n 0, 1) := by decide +kernel
theorem dX5_told_92 : decode cX5_told 92 = .ok (.iload_n 1, 1) := by decide +kernel
theorem dX5_told_93 : decode cX5_told 93 = .ok (.invokevirtual 204, 3) := by decide +kernel
theorem dX5_told_96 : decode cX5_told 96 = .ok (.ireturn, 1) := by decide +kernel
theorem dX5_told_97 : decode cX5_told 97 = .ok (.aload_n 0, 1) := by decide +kernel
theorem dX5_told_98 : decode cX5_told 98 = .ok (.iload_n 1, 1) := by decide +kernel
theorem dX5_told_99 : decode cX5_told 99 = .ok (.invokevirtual 207, 3) := by decide +kernel
theorem dX5_told_102 : decode cX5_told 102 = .ok (.ifCond .eq 7, 3) := by decide +kernel
theorem dX5_told_105 : decode cX5_told 105 = .ok (.iconst 1, 1) := by decide +kernel
theorem dX5_told_106 : decode cX5_told 106 = .ok (.goto 4, 3) := by decide +kernel
theorem dX5_told_109 : decode cX5_told 109 = .ok (.iconst 0, 1) := by decide +kernel
theorem dX5_told_110 : decode cX5_told 110 = .ok (.ireturn, 1) := by decide +kernel
theorem dX5_told_111 : decode cX5_told 111 = .ok (.bipush (-7), 2) := by decide +kernel
theorem dX5_told_113 : decode cX5_told 113 = .ok (.ireturn, 1) := by decide +kernel
def f_X5_told (x1 : Int32) (x2 : Int32) (σ : GM) : Option (Int32 × GM) :=
  bnd (f_X5_isShip x1 σ) fun q1 => if q1.1 ≠ 0 then (if x2 = (0 : Int32) then (grd x1 6 (some ((mA q1.2 2 x1.toNatClampNeg), q1.2))) else (if x2 = (1 : Int32) then (grd x1 6 (some ((mA q1.2 3 x1.toNatClampNeg), q1.2))) else (if x2 = (2 : Int32) then (grd x1 6 (some ((mA q1.2 0 x1.toNatClampNeg), q1.2))) else (if x2 = (3 : Int32) then (grd x1 6 (some ((mA q1.2 1 x1.toNatClampNeg), q1.2))) else (if x2 = (4 : Int32) then (grd x1 6 (some ((mA q1.2 4 x1.toNatClampNeg), q1.2))) else (if x2 = (5 : Int32) then (bnd (f_X5_goesTo x1 q1.2) fun q2 => some (q2.1, q2.2)) else (if x2 = (6 : Int32) then (bnd (f_X5_doesSink x1 q1.2) fun q3 => if q3.1 = 0 then (some ((0 : Int32), q3.2)) else (some ((1 : Int32), q3.2))) else (some ((-7 : Int32), q1.2))))))))) else (some ((-5 : Int32), q1.2))
theorem vf_X5_told {g : Gt} {ad : Nat → Nat} (z : Zt) (x1 : Int32) (x2 : Int32) (σ : GM) : V g (LM ad) 6 RX5 cX5_told 3 (some .int) (wM g ad) iI z (f_X5_told x1 x2 σ) σ 0 [(0, .ref (aMo ad)), (1, .int x1), (2, .int x2)] [] := by
  unfold f_X5_told
  refine v_aload_n (pc := 0) (i := 0) dX5_told_0 rfl rfl ?_
  refine v_iload_n (pc := 1) (i := 1) dX5_told_1 rfl rfl ?_
  refine v_callVi (pc := 2) rcX5 (As := [.int x1]) (rest := []) (ct_X5_isShip x1) mi_X5_isShip q_928 (by decide) rfl rfl (Nat.le_of_ble_eq_true rfl) dX5_told_2 (fun q1 => ?_)
  refine v_if_ne (pc := 5) (tgt := 11) dX5_told_5 rfl ?_ ?_
  · refine v_iload_n (pc := 11) (i := 2) dX5_told_11 rfl rfl ?_
    refine v_case (c := x2 = (0 : Int32)) (fun hx => ?_) (fun hc12_0 => ?_)
    · refine v_tin (pc := 12) (tgt := 56) (off := 44) hx dX5_told_12 (by decide) (by decide) rfl rfl ?_
      refine v_aload_n (pc := 56) (i := 0) dX5_told_56 rfl rfl ?_
      refine gX5_onOf (pc := 57) q_757 dX5_told_57 ?_
      refine v_iload_n (pc := 60) (i := 1) dX5_told_60 rfl rfl ?_
      refine lM_onOf (pc := 61) dX5_told_61 ?_
      exact v_iret (pc := 62) dX5_told_62
    refine v_case (c := x2 = (1 : Int32)) (fun hx => ?_) (fun hc12_1 => ?_)
    · refine v_tin (pc := 12) (tgt := 63) (off := 51) hx dX5_told_12 (by decide) (by decide) rfl rfl ?_
      refine v_aload_n (pc := 63) (i := 0) dX5_told_63 rfl rfl ?_
      refine gX5_draughtOf (pc := 64) q_758 dX5_told_64 ?_
      refine v_iload_n (pc := 67) (i := 1) dX5_told_67 rfl rfl ?_
      refine lM_draughtOf (pc := 68) dX5_told_68 ?_
      exact v_iret (pc := 69) dX5_told_69
    refine v_case (c := x2 = (2 : Int32)) (fun hx => ?_) (fun hc12_2 => ?_)
    · refine v_tin (pc := 12) (tgt := 70) (off := 58) hx dX5_told_12 (by decide) (by decide) rfl rfl ?_
      refine v_aload_n (pc := 70) (i := 0) dX5_told_70 rfl rfl ?_
      refine gX5_kind (pc := 71) q_755 dX5_told_71 ?_
      refine v_iload_n (pc := 74) (i := 1) dX5_told_74 rfl rfl ?_
      refine lM_kind (pc := 75) dX5_told_75 ?_
      exact v_iret (pc := 76) dX5_told_76
    refine v_case (c := x2 = (3 : Int32)) (fun hx => ?_) (fun hc12_3 => ?_)
    · refine v_tin (pc := 12) (tgt := 77) (off := 65) hx dX5_told_12 (by decide) (by decide) rfl rfl ?_
      refine v_aload_n (pc := 77) (i := 0) dX5_told_77 rfl rfl ?_
      refine gX5_moreOf (pc := 78) q_756 dX5_told_78 ?_
      refine v_iload_n (pc := 81) (i := 1) dX5_told_81 rfl rfl ?_
      refine lM_moreOf (pc := 82) dX5_told_82 ?_
      exact v_iret (pc := 83) dX5_told_83
    refine v_case (c := x2 = (4 : Int32)) (fun hx => ?_) (fun hc12_4 => ?_)
    · refine v_tin (pc := 12) (tgt := 84) (off := 72) hx dX5_told_12 (by decide) (by decide) rfl rfl ?_
      refine v_aload_n (pc := 84) (i := 0) dX5_told_84 rfl rfl ?_
      refine gX5_lost (pc := 85) q_759 dX5_told_85 ?_
      refine v_iload_n (pc := 88) (i := 1) dX5_told_88 rfl rfl ?_
      refine lM_lost (pc := 89) dX5_told_89 ?_
      exact v_iret (pc := 90) dX5_told_90
    refine v_case (c := x2 = (5 : Int32)) (fun hx => ?_) (fun hc12_5 => ?_)
    · refine v_tin (pc := 12) (tgt := 91) (off := 79) hx dX5_told_12 (by decide) (by decide) rfl rfl ?_
      refine v_aload_n (pc := 91) (i := 0) dX5_told_91 rfl rfl ?_
      refine v_iload_n (pc := 92) (i := 1) dX5_told_92 rfl rfl ?_
      refine v_callVi (pc := 93) rcX5 (As := [.int x1]) (rest := []) (ct_X5_goesTo x1) mi_X5_goesTo q_955 (by decide) rfl rfl (Nat.le_of_ble_eq_true rfl) dX5_told_93 (fun q2 => ?_)
      exact v_iret (pc := 96) dX5_told_96
    refine v_case (c := x2 = (6 : Int32)) (fun hx => ?_) (fun hc12_6 => ?_)
    · refine v_tin (pc := 12) (tgt := 97) (off := 85) hx dX5_told_12 (by decide) (by decide) rfl rfl ?_
      refine v_aload_n (pc := 97) (i := 0) dX5_told_97 rfl rfl ?_
      refine v_iload_n (pc := 98) (i := 1) dX5_told_98 rfl rfl ?_
      refine v_callVi (pc := 99) rcX5 (As := [.int x1]) (rest := []) (ct_X5_doesSink x1) mi_X5_doesSink q_966 (by decide) rfl rfl (Nat.le_of_ble_eq_true rfl) dX5_told_99 (fun q3 => ?_)
      refine v_if_eq (pc := 102) (tgt := 109) dX5_told_102 rfl ?_ ?_
      · refine v_iconst (pc := 109) dX5_told_109 ic_0 ?_
        exact v_iret (pc := 110) dX5_told_110
      · refine v_iconst (pc := 105) dX5_told_105 ic_1 ?_
        refine v_goto (pc := 106) (tgt := 110) dX5_told_106 rfl ?_
        exact v_iret (pc := 110) dX5_told_110
    refine v_tout (pc := 12) (tgt := 111) dX5_told_12 (by have e0 := tsw_ne (a := 0) hc12_0 rfl; have e1 := tsw_ne (a := 1) hc12_1 rfl; have e2 := tsw_ne (a := 2) hc12_2 rfl; have e3 := tsw_ne (a := 3) hc12_3 rfl; have e4 := tsw_ne (a := 4) hc12_4 rfl; have e5 := tsw_ne (a := 5) hc12_5 rfl; have e6 := tsw_ne (a := 6) hc12_6 rfl; omega) rfl ?_
    refine v_bipush (pc := 111) dX5_told_111 bp_m7 ?_
    exact v_iret (pc := 113) dX5_told_113
  · refine v_bipush (pc := 8) dX5_told_8 bp_m5 ?_
    exact v_iret (pc := 10) dX5_told_10
theorem ct_X5_told {g : Gt} {ad : Nat → Nat} (x1 : Int32) (x2 : Int32) : CT g (LM ad) yX5_told cX5_told 3 (some .int) 6 [.ref (aMo ad), .int x1, .int x2] iI (wM g ad) (f_X5_told x1 x2) :=
  ct_of_V (own := RX5) (lv0 := [(0, .ref (aMo ad)), (1, .int x1), (2, .int x2)]) (by decide +kernel) rfl (Nat.le_of_ble_eq_true rfl) rfl (fun z σ => vf_X5_told z x1 x2 σ)
-- LighthouseLiedToModel.likes
theorem dX5_likes_0 : decode cX5_likes 0 = .ok (.aload_n 0, 1) := by decide +kernel
theorem dX5_likes_1 : decode cX5_likes 1 = .ok (.iload_n 1, 1) := by decide +kernel
theorem dX5_likes_2 : decode cX5_likes 2 = .ok (.invokevirtual 192, 3) := by decide +kernel
theorem dX5_likes_5 : decode cX5_likes 5 = .ok (.ifCond .eq 19, 3) := by decide +kernel
theorem dX5_likes_8 : decode cX5_likes 8 = .ok (.iload_n 2, 1) := by decide +kernel
theorem dX5_likes_9 : decode cX5_likes 9 = .ok (.invokestatic 115, 3) := by decide +kernel
theorem dX5_likes_12 : decode cX5_likes 12 = .ok (.ifCond .eq 12, 3) := by decide +kernel
theorem dX5_likes_15 : decode cX5_likes 15 = .ok (.aload_n 0, 1) := by decide +kernel
theorem dX5_likes_16 : decode cX5_likes 16 = .ok (.iload_n 1, 1) := by decide +kernel
theorem dX5_likes_17 : decode cX5_likes 17 = .ok (.iload_n 2, 1) := by decide +kernel
theorem dX5_likes_18 : decode cX5_likes 18 = .ok (.invokevirtual 198, 3) := by decide +kernel
theorem dX5_likes_21 : decode cX5_likes 21 = .ok (.goto 5, 3) := by decide +kernel
theorem dX5_likes_24 : decode cX5_likes 24 = .ok (.ldc 210, 2) := by decide +kernel
theorem dX5_likes_26 : decode cX5_likes 26 = .ok (.ireturn, 1) := by decide +kernel
def f_X5_likes (x1 : Int32) (x2 : Int32) (σ : GM) : Option (Int32 × GM) :=
  bnd (f_X5_isShip x1 σ) fun q1 => if q1.1 = 0 then (some ((-100000 : Int32), q1.2)) else (bnd (f_X5_isCell x2 q1.2) fun q2 => if q2.1 = 0 then (some ((-100000 : Int32), q2.2)) else (bnd (f_X5_likesOf x1 x2 q2.2) fun q3 => some (q3.1, q3.2)))
theorem vf_X5_likes {g : Gt} {ad : Nat → Nat} (z : Zt) (x1 : Int32) (x2 : Int32) (σ : GM) : V g (LM ad) 5 RX5 cX5_likes 3 (some .int) (wM g ad) iI z (f_X5_likes x1 x2 σ) σ 0 [(0, .ref (aMo ad)), (1, .int x1), (2, .int x2)] [] := by
  unfold f_X5_likes
  refine v_aload_n (pc := 0) (i := 0) dX5_likes_0 rfl rfl ?_
  refine v_iload_n (pc := 1) (i := 1) dX5_likes_1 rfl rfl ?_
  refine v_callVi (pc := 2) rcX5 (As := [.int x1]) (rest := []) (ct_X5_isShip x1) mi_X5_isShip q_928 (by decide) rfl rfl (Nat.le_of_ble_eq_true rfl) dX5_likes_2 (fun q1 => ?_)
  refine v_if_eq (pc := 5) (tgt := 24) dX5_likes_5 rfl ?_ ?_
  · refine v_ldc (pc := 24) dX5_likes_24 q_974 ?_
    exact v_iret (pc := 26) dX5_likes_26
  · refine v_iload_n (pc := 8) (i := 2) dX5_likes_8 rfl rfl ?_
    refine v_callSi (pc := 9) (av := [.int x2]) (rest := []) (ct_X5_isCell x2) mi_X5_isCell q_889 (by decide) rfl rfl (Nat.le_of_ble_eq_true rfl) dX5_likes_9 (fun q2 => ?_)
    refine v_if_eq (pc := 12) (tgt := 24) dX5_likes_12 rfl ?_ ?_
    · refine v_ldc (pc := 24) dX5_likes_24 q_974 ?_
      exact v_iret (pc := 26) dX5_likes_26
    · refine v_aload_n (pc := 15) (i := 0) dX5_likes_15 rfl rfl ?_
      refine v_iload_n (pc := 16) (i := 1) dX5_likes_16 rfl rfl ?_
      refine v_iload_n (pc := 17) (i := 2) dX5_likes_17 rfl rfl ?_
      refine v_callVi (pc := 18) rcX5 (As := [.int x1, .int x2]) (rest := []) (ct_X5_likesOf x1 x2) mi_X5_likesOf q_959 (by decide) rfl rfl (Nat.le_of_ble_eq_true rfl) dX5_likes_18 (fun q3 => ?_)
      refine v_goto (pc := 21) (tgt := 26) dX5_likes_21 rfl ?_
      exact v_iret (pc := 26) dX5_likes_26
theorem ct_X5_likes {g : Gt} {ad : Nat → Nat} (x1 : Int32) (x2 : Int32) : CT g (LM ad) yX5_likes cX5_likes 3 (some .int) 5 [.ref (aMo ad), .int x1, .int x2] iI (wM g ad) (f_X5_likes x1 x2) :=
  ct_of_V (own := RX5) (lv0 := [(0, .ref (aMo ad)), (1, .int x1), (2, .int x2)]) (by decide +kernel) rfl (Nat.le_of_ble_eq_true rfl) rfl (fun z σ => vf_X5_likes z x1 x2 σ)
-- LighthouseLiedToModel.teachesOf
theorem dX5_teachesOf_0 : decode cX5_teachesOf 0 = .ok (.aload_n 0, 1) := by decide +kernel
theorem dX5_teachesOf_1 : decode cX5_teachesOf 1 = .ok (.getfield 7, 3) := by decide +kernel
theorem dX5_teachesOf_4 : decode cX5_teachesOf 4 = .ok (.iload_n 1, 1) := by decide +kernel
theorem dX5_teachesOf_5 : decode cX5_teachesOf 5 = .ok (.iaload, 1) := by decide +kernel
theorem dX5_teachesOf_6 : decode cX5_teachesOf 6 = .ok (.iconst 1, 1) := by decide +kernel
theorem dX5_teachesOf_7 : decode cX5_teachesOf 7 = .ok (.if_icmp .ne 8, 3) := by decide +kernel
theorem dX5_teachesOf_10 : decode cX5_teachesOf 10 = .ok (.bipush 49, 2) := by decide +kernel
theorem dX5_teachesOf_12 : decode cX5_teachesOf 12 = .ok (.goto 19, 3) := by decide +kernel
theorem dX5_teachesOf_15 : decode cX5_teachesOf 15 = .ok (.aload_n 0, 1) := by decide +kernel
theorem dX5_teachesOf_16 : decode cX5_teachesOf 16 = .ok (.getfield 7, 3) := by decide +kernel
theorem dX5_teachesOf_19 : decode cX5_teachesOf 19 = .ok (.iload_n 1, 1) := by decide +kernel
theorem dX5_teachesOf_20 : decode cX5_teachesOf 20 = .ok (.iaload, 1) := by decide +kernel
theorem dX5_teachesOf_21 : decode cX5_teachesOf 21 = .ok (.iconst 3, 1) := by decide +kernel
theorem dX5_teachesOf_22 : decode cX5_teachesOf 22 = .ok (.if_icmp .ne 7, 3) := by decide +kernel
theorem dX5_teachesOf_25 : decode cX5_teachesOf 25 = .ok (.iconst 0, 1) := by decide +kernel
theorem dX5_teachesOf_26 : decode cX5_teachesOf 26 = .ok (.goto 5, 3) := by decide +kernel
theorem dX5_teachesOf_29 : decode cX5_teachesOf 29 = .ok (.bipush 99, 2) := by decide +kernel
theorem dX5_teachesOf_31 : decode cX5_teachesOf 31 = .ok (.ireturn, 1) := by decide +kernel
def f_X5_teachesOf (x1 : Int32) (σ : GM) : Option (Int32 × GM) :=
  grd x1 6 (if (mA σ 0 x1.toNatClampNeg) ≠ (1 : Int32) then (grd x1 6 (if (mA σ 0 x1.toNatClampNeg) ≠ (3 : Int32) then (some ((99 : Int32), σ)) else (some ((0 : Int32), σ)))) else (some ((49 : Int32), σ)))
theorem vf_X5_teachesOf {g : Gt} {ad : Nat → Nat} (z : Zt) (x1 : Int32) (σ : GM) : V g (LM ad) 1 RX5 cX5_teachesOf 2 (some .int) (wM g ad) iI z (f_X5_teachesOf x1 σ) σ 0 [(0, .ref (aMo ad)), (1, .int x1)] [] := by
  unfold f_X5_teachesOf
  refine v_aload_n (pc := 0) (i := 0) dX5_teachesOf_0 rfl rfl ?_
  refine gX5_kind (pc := 1) q_755 dX5_teachesOf_1 ?_
  refine v_iload_n (pc := 4) (i := 1) dX5_teachesOf_4 rfl rfl ?_
  refine lM_kind (pc := 5) dX5_teachesOf_5 ?_
  refine v_iconst (pc := 6) dX5_teachesOf_6 ic_1 ?_
  refine v_icmp_ne (pc := 7) (tgt := 15) dX5_teachesOf_7 rfl ?_ ?_
  · refine v_aload_n (pc := 15) (i := 0) dX5_teachesOf_15 rfl rfl ?_
    refine gX5_kind (pc := 16) q_755 dX5_teachesOf_16 ?_
    refine v_iload_n (pc := 19) (i := 1) dX5_teachesOf_19 rfl rfl ?_
    refine lM_kind (pc := 20) dX5_teachesOf_20 ?_
    refine v_iconst (pc := 21) dX5_teachesOf_21 ic_3 ?_
    refine v_icmp_ne (pc := 22) (tgt := 29) dX5_teachesOf_22 rfl ?_ ?_
    · refine v_bipush (pc := 29) dX5_teachesOf_29 bp_99 ?_
      exact v_iret (pc := 31) dX5_teachesOf_31
    · refine v_iconst (pc := 25) dX5_teachesOf_25 ic_0 ?_
      refine v_goto (pc := 26) (tgt := 31) dX5_teachesOf_26 rfl ?_
      exact v_iret (pc := 31) dX5_teachesOf_31
  · refine v_bipush (pc := 10) dX5_teachesOf_10 bp_49 ?_
    refine v_goto (pc := 12) (tgt := 31) dX5_teachesOf_12 rfl ?_
    exact v_iret (pc := 31) dX5_teachesOf_31
theorem ct_X5_teachesOf {g : Gt} {ad : Nat → Nat} (x1 : Int32) : CT g (LM ad) yX5_teachesOf cX5_teachesOf 2 (some .int) 1 [.ref (aMo ad), .int x1] iI (wM g ad) (f_X5_teachesOf x1) :=
  ct_of_V (own := RX5) (lv0 := [(0, .ref (aMo ad)), (1, .int x1)]) (by decide +kernel) rfl (Nat.le_of_ble_eq_true rfl) rfl (fun z σ => vf_X5_teachesOf z x1 σ)
-- LighthouseLiedToModel.sails
theorem dX5_sails_0 : decode cX5_sails 0 = .ok (.aload_n 0, 1) := by decide +kernel
theorem dX5_sails_1 : decode cX5_sails 1 = .ok (.iload_n 1, 1) := by decide +kernel
theorem dX5_sails_2 : decode cX5_sails 2 = .ok (.invokevirtual 204, 3) := by decide +kernel
theorem dX5_sails_5 : decode cX5_sails 5 = .ok (.istore_n 2, 1) := by decide +kernel
theorem dX5_sails_6 : decode cX5_sails 6 = .ok (.aload_n 0, 1) := by decide +kernel
theorem dX5_sails_7 : decode cX5_sails 7 = .ok (.getfield 16, 3) := by decide +kernel
theorem dX5_sails_10 : decode cX5_sails 10 = .ok (.iload_n 1, 1) := by decide +kernel
theorem dX5_sails_11 : decode cX5_sails 11 = .ok (.iload_n 2, 1) := by decide +kernel
theorem dX5_sails_12 : decode cX5_sails 12 = .ok (.iastore, 1) := by decide +kernel
theorem dX5_sails_13 : decode cX5_sails 13 = .ok (.aload_n 0, 1) := by decide +kernel
theorem dX5_sails_14 : decode cX5_sails 14 = .ok (.iload_n 2, 1) := by decide +kernel
theorem dX5_sails_15 : decode cX5_sails 15 = .ok (.invokevirtual 89, 3) := by decide +kernel
theorem dX5_sails_18 : decode cX5_sails 18 = .ok (.ifCond .eq 77, 3) := by decide +kernel
theorem dX5_sails_21 : decode cX5_sails 21 = .ok (.aload_n 0, 1) := by decide +kernel
theorem dX5_sails_22 : decode cX5_sails 22 = .ok (.iload_n 1, 1) := by decide +kernel
theorem dX5_sails_23 : decode cX5_sails 23 = .ok (.invokevirtual 207, 3) := by decide +kernel
theorem dX5_sails_26 : decode cX5_sails 26 = .ok (.ifCond .eq 69, 3) := by decide +kernel
theorem dX5_sails_29 : decode cX5_sails 29 = .ok (.aload_n 0, 1) := by decide +kernel
theorem dX5_sails_30 : decode cX5_sails 30 = .ok (.iload_n 1, 1) := by decide +kernel
theorem dX5_sails_31 : decode cX5_sails 31 = .ok (.invokevirtual 211, 3) := by decide +kernel
theorem dX5_sails_34 : decode cX5_sails 34 = .ok (.istore_n 3, 1) := by decide +kernel
theorem dX5_sails_35 : decode cX5_sails 35 = .ok (.aload_n 0, 1) := by decide +kernel
theorem dX5_sails_36 : decode cX5_sails 36 = .ok (.getfield 22, 3) := by decide +kernel
theorem dX5_sails_39 : decode cX5_sails 39 = .ok (.iload_n 1, 1) := by decide +kernel
theorem dX5_sails_40 : decode cX5_sails 40 = .ok (.iconst 1, 1) := by decide +kernel
theorem dX5_sails_41 : decode cX5_sails 41 = .ok (.iastore, 1) := by decide +kernel
theorem dX5_sails_42 : decode cX5_sails 42 = .ok (.aload_n 0, 1) := by decide +kernel
theorem dX5_sails_43 : decode cX5_sails 43 = .ok (.getfield 25, 3) := by decide +kernel
theorem dX5_sails_46 : decode cX5_sails 46 = .ok (.iload_n 2, 1) := by decide +kernel
theorem dX5_sails_47 : decode cX5_sails 47 = .ok (.iaload, 1) := by decide +kernel
theorem dX5_sails_48 : decode cX5_sails 48 = .ok (.bipush 50, 2) := by decide +kernel
theorem dX5_sails_50 : decode cX5_sails 50 = .ok (.if_icmp .ge 19, 3) := by decide +kernel
theorem dX5_sails_53 : decode cX5_sails 53 = .ok (.aload_n 0, 1) := by decide +kernel
theorem dX5_sails_54 : decode cX5_sails 54 = .ok (.aload_n 0, 1) := by decide +kernel
theorem dX5_sails_55 : decode cX5_sails 55 = .ok (.getfield 103, 3) := by decide +kernel
theorem dX5_sails_58 : decode cX5_sails 58 = .ok (.iconst 1, 1) := by decide +kernel
theorem dX5_sails_59 : decode cX5_sails 59 = .ok (.iadd, 1) := by decide +kernel
theorem dX5_sails_60 : decode cX5_sails 60 = .ok (.iconst 0, 1) := by decide +kernel
theorem dX5_sails_61 : decode cX5_sails 61 = .ok (.bipush 99, 2) := by decide +kernel
theorem dX5_sails_63 : decode cX5_sails 63 = .ok (.invokestatic 120, 3) := by decide +kernel
theorem dX5_sails_66 : decode cX5_sails 66 = .ok (.putfield 103, 3) := by decide +kernel
theorem dX5_sails_69 : decode cX5_sails 69 = .ok (.aload_n 0, 1) := by decide +kernel
theorem dX5_sails_70 : decode cX5_sails 70 = .ok (.getfield 25, 3) := by decide +kernel
theorem dX5_sails_73 : decode cX5_sails 73 = .ok (.iload_n 2, 1) := by decide +kernel
theorem dX5_sails_74 : decode cX5_sails 74 = .ok (.iload_n 3, 1) := by decide +kernel
theorem dX5_sails_75 : decode cX5_sails 75 = .ok (.aload_n 0, 1) := by decide +kernel
theorem dX5_sails_76 : decode cX5_sails 76 = .ok (.getfield 25, 3) := by decide +kernel
theorem dX5_sails_79 : decode cX5_sails 79 = .ok (.iload_n 2, 1) := by decide +kernel
theorem dX5_sails_80 : decode cX5_sails 80 = .ok (.iaload, 1) := by decide +kernel
theorem dX5_sails_81 : decode cX5_sails 81 = .ok (.if_icmp .le 7, 3) := by decide +kernel
theorem dX5_sails_84 : decode cX5_sails 84 = .ok (.iload_n 3, 1) := by decide +kernel
theorem dX5_sails_85 : decode cX5_sails 85 = .ok (.goto 9, 3) := by decide +kernel
theorem dX5_sails_88 : decode cX5_sails 88 = .ok (.aload_n 0, 1) := by decide +kernel
theorem dX5_sails_89 : decode cX5_sails 89 = .ok (.getfield 25, 3) := by decide +kernel
theorem dX5_sails_92 : decode cX5_sails 92 = .ok (.iload_n 2, 1) := by decide +kernel
theorem dX5_sails_93 : decode cX5_sails 93 = .ok (.iaload, 1) := by decide +kernel
theorem dX5_sails_94 : decode cX5_sails 94 = .ok (.iastore, 1) := by decide +kernel
theorem dX5_sails_95 : decode cX5_sails 95 = .ok (.return_, 1) := by decide +kernel
def b_X5_sails_69 (x2 : Int32) (x3 : Int32) (σ : GM) : Option (Unit × GM) :=
  grd x2 36 (if x3 ≤ (mA σ 5 x2.toNatClampNeg) then (grd x2 36 (grd x2 36 (bnd (some (tA σ 5 x2.toNatClampNeg (mA σ 5 x2.toNatClampNeg))) fun σ7 => some ((), σ7)))) else (grd x2 36 (bnd (some (tA σ 5 x2.toNatClampNeg x3)) fun σ8 => some ((), σ8))))
theorem vb_X5_sails_69 {g : Gt} {ad : Nat → Nat} (z : Zt) (x2 : Int32) (x3 : Int32) (σ : GM) : V g (LM ad) 6 RX5 cX5_sails 4 none (wM g ad) iU z (b_X5_sails_69 x2 x3 σ) σ 69 [(0, .ref (aMo ad)), (2, .int x2), (3, .int x3)] [] := by
  unfold b_X5_sails_69
  refine v_aload_n (pc := 69) (i := 0) dX5_sails_69 rfl rfl ?_
  refine gX5_beliefs (pc := 70) q_760 dX5_sails_70 ?_
  refine v_iload_n (pc := 73) (i := 2) dX5_sails_73 rfl rfl ?_
  refine v_iload_n (pc := 74) (i := 3) dX5_sails_74 rfl rfl ?_
  refine v_aload_n (pc := 75) (i := 0) dX5_sails_75 rfl rfl ?_
  refine gX5_beliefs (pc := 76) q_760 dX5_sails_76 ?_
  refine v_iload_n (pc := 79) (i := 2) dX5_sails_79 rfl rfl ?_
  refine lM_beliefs (pc := 80) dX5_sails_80 ?_
  refine v_icmp_le (pc := 81) (tgt := 88) dX5_sails_81 rfl ?_ ?_
  · refine v_aload_n (pc := 88) (i := 0) dX5_sails_88 rfl rfl ?_
    refine gX5_beliefs (pc := 89) q_760 dX5_sails_89 ?_
    refine v_iload_n (pc := 92) (i := 2) dX5_sails_92 rfl rfl ?_
    refine lM_beliefs (pc := 93) dX5_sails_93 ?_
    refine sM_beliefs (pc := 94) dX5_sails_94 ?_
    refine v_nms (fun σ7 => ?_)
    exact v_ret (pc := 95) dX5_sails_95
  · refine v_iload_n (pc := 84) (i := 3) dX5_sails_84 rfl rfl ?_
    refine v_goto (pc := 85) (tgt := 94) dX5_sails_85 rfl ?_
    refine sM_beliefs (pc := 94) dX5_sails_94 ?_
    refine v_nms (fun σ8 => ?_)
    exact v_ret (pc := 95) dX5_sails_95
def f_X5_sails (x1 : Int32) (σ : GM) : Option (Unit × GM) :=
  bnd (f_X5_goesTo x1 σ) fun q1 => grd x1 6 (bnd (some (tA q1.2 2 x1.toNatClampNeg q1.1)) fun σ2 => bnd (f_X5_hasRock q1.1 σ2) fun q3 => if q3.1 = 0 then (some ((), q3.2)) else (bnd (f_X5_doesSink x1 q3.2) fun q4 => if q4.1 = 0 then (some ((), q4.2)) else (bnd (f_X5_teachesOf x1 q4.2) fun q5 => grd x1 6 (bnd (some (tA q5.2 4 x1.toNatClampNeg (1 : Int32))) fun σ6 => grd q1.1 36 (if (50 : Int32) ≤ (mA σ6 5 q1.1.toNatClampNeg) then (b_X5_sails_69 q1.1 q5.1 σ6) else (bnd (f_X5_within ((mI σ6 2) + (1 : Int32)) (0 : Int32) (99 : Int32) σ6) fun q9 => bnd (some (tI q9.2 2 q9.1)) fun σ10 => b_X5_sails_69 q1.1 q5.1 σ10))))))
theorem vf_X5_sails {g : Gt} {ad : Nat → Nat} (z : Zt) (x1 : Int32) (σ : GM) : V g (LM ad) 6 RX5 cX5_sails 4 none (wM g ad) iU z (f_X5_sails x1 σ) σ 0 [(0, .ref (aMo ad)), (1, .int x1)] [] := by
  unfold f_X5_sails
  refine v_aload_n (pc := 0) (i := 0) dX5_sails_0 rfl rfl ?_
  refine v_iload_n (pc := 1) (i := 1) dX5_sails_1 rfl rfl ?_
  refine v_callVi (pc := 2) rcX5 (As := [.int x1]) (rest := []) (ct_X5_goesTo x1) mi_X5_goesTo q_955 (by decide) rfl rfl (Nat.le_of_ble_eq_true rfl) dX5_sails_2 (fun q1 => ?_)
  refine v_istore_n (pc := 5) (lv' := [(2, .int q1.1), (0, .ref (aMo ad)), (1, .int x1)]) (i := 2) dX5_sails_5 rfl (by decide) rfl ?_
  refine v_aload_n (pc := 6) (i := 0) dX5_sails_6 rfl rfl ?_
  refine gX5_onOf (pc := 7) q_757 dX5_sails_7 ?_
  refine v_iload_n (pc := 10) (i := 1) dX5_sails_10 rfl rfl ?_
  refine v_iload_n (pc := 11) (i := 2) dX5_sails_11 rfl rfl ?_
  refine sM_onOf (pc := 12) dX5_sails_12 ?_
  refine v_nms (fun σ2 => ?_)
  refine v_aload_n (pc := 13) (i := 0) dX5_sails_13 rfl rfl ?_
  refine v_iload_n (pc := 14) (i := 2) dX5_sails_14 rfl rfl ?_
  refine v_callVi (pc := 15) rcX5 (As := [.int q1.1]) (rest := []) (ct_X5_hasRock q1.1) mi_X5_hasRock q_881 (by decide) rfl rfl (Nat.le_of_ble_eq_true rfl) dX5_sails_15 (fun q3 => ?_)
  refine v_if_eq (pc := 18) (tgt := 95) dX5_sails_18 rfl ?_ ?_
  · exact v_ret (pc := 95) dX5_sails_95
  · refine v_aload_n (pc := 21) (i := 0) dX5_sails_21 rfl rfl ?_
    refine v_iload_n (pc := 22) (i := 1) dX5_sails_22 rfl rfl ?_
    refine v_callVi (pc := 23) rcX5 (As := [.int x1]) (rest := []) (ct_X5_doesSink x1) mi_X5_doesSink q_966 (by decide) rfl rfl (Nat.le_of_ble_eq_true rfl) dX5_sails_23 (fun q4 => ?_)
    refine v_if_eq (pc := 26) (tgt := 95) dX5_sails_26 rfl ?_ ?_
    · exact v_ret (pc := 95) dX5_sails_95
    · refine v_aload_n (pc := 29) (i := 0) dX5_sails_29 rfl rfl ?_
      refine v_iload_n (pc := 30) (i := 1) dX5_sails_30 rfl rfl ?_
      refine v_callVi (pc := 31) rcX5 (As := [.int x1]) (rest := []) (ct_X5_teachesOf x1) mi_X5_teachesOf q_987 (by decide) rfl rfl (Nat.le_of_ble_eq_true rfl) dX5_sails_31 (fun q5 => ?_)
      refine v_istore_n (pc := 34) (lv' := [(3, .int q5.1), (2, .int q1.1), (0, .ref (aMo ad)), (1, .int x1)]) (i := 3) dX5_sails_34 rfl (by decide) rfl ?_
      refine v_aload_n (pc := 35) (i := 0) dX5_sails_35 rfl rfl ?_
      refine gX5_lost (pc := 36) q_759 dX5_sails_36 ?_
      refine v_iload_n (pc := 39) (i := 1) dX5_sails_39 rfl rfl ?_
      refine v_iconst (pc := 40) dX5_sails_40 ic_1 ?_
      refine sM_lost (pc := 41) dX5_sails_41 ?_
      refine v_nms (fun σ6 => ?_)
      refine v_aload_n (pc := 42) (i := 0) dX5_sails_42 rfl rfl ?_
      refine gX5_beliefs (pc := 43) q_760 dX5_sails_43 ?_
      refine v_iload_n (pc := 46) (i := 2) dX5_sails_46 rfl rfl ?_
      refine lM_beliefs (pc := 47) dX5_sails_47 ?_
      refine v_bipush (pc := 48) dX5_sails_48 bp_50 ?_
      refine v_icmp_ge (pc := 50) (tgt := 69) dX5_sails_50 rfl ?_ ?_
      · exact v_sub [2, 1, 0] rfl (vb_X5_sails_69 z q1.1 q5.1 σ6)
      · refine v_aload_n (pc := 53) (i := 0) dX5_sails_53 rfl rfl ?_
        refine v_aload_n (pc := 54) (i := 0) dX5_sails_54 rfl rfl ?_
        refine gX5_doubt (pc := 55) q_763 dX5_sails_55 ?_
        refine v_iconst (pc := 58) dX5_sails_58 ic_1 ?_
        refine v_iadd (pc := 59) dX5_sails_59 ?_
        refine v_iconst (pc := 60) dX5_sails_60 ic_0 ?_
        refine v_bipush (pc := 61) dX5_sails_61 bp_99 ?_
        refine v_callSi (pc := 63) (av := [.int ((mI σ6 2) + (1 : Int32)), .int (0 : Int32), .int (99 : Int32)]) (rest := [.ref (aMo ad)]) (ct_X5_within ((mI σ6 2) + (1 : Int32)) (0 : Int32) (99 : Int32)) mi_X5_within q_901 (by decide) rfl rfl (Nat.le_of_ble_eq_true rfl) dX5_sails_63 (fun q9 => ?_)
        refine pX5_doubt (pc := 66) q_763 dX5_sails_66 ?_
        refine v_nms (fun σ10 => ?_)
        exact v_sub [2, 1, 0] rfl (vb_X5_sails_69 z q1.1 q5.1 σ10)
theorem ct_X5_sails {g : Gt} {ad : Nat → Nat} (x1 : Int32) : CT g (LM ad) yX5_sails cX5_sails 4 none 6 [.ref (aMo ad), .int x1] iU (wM g ad) (f_X5_sails x1) :=
  ct_of_V (own := RX5) (lv0 := [(0, .ref (aMo ad)), (1, .int x1)]) (by decide +kernel) rfl (Nat.le_of_ble_eq_true rfl) rfl (fun z σ => vf_X5_sails z x1 σ)
-- LighthouseLiedToModel.nightOf
theorem dX5_nightOf_0 : decode cX5_nightOf 0 = .ok (.aload_n 0, 1) := by decide +kernel
theorem dX5_nightOf_1 : decode cX5_nightOf 1 = .ok (.invokevirtual 93, 3) := by decide +kernel
theorem dX5_nightOf_4 : decode cX5_nightOf 4 = .ok (.istore_n 1, 1) := by decide +kernel
theorem dX5_nightOf_5 : decode cX5_nightOf 5 = .ok (.iconst 0, 1) := by decide +kernel
theorem dX5_nightOf_6 : decode cX5_nightOf 6 = .ok (.istore_n 2, 1) := by decide +kernel
theorem dX5_nightOf_7 : decode cX5_nightOf 7 = .ok (.iload_n 2, 1) := by decide +kernel
theorem dX5_nightOf_8 : decode cX5_nightOf 8 = .ok (.aload_n 0, 1) := by decide +kernel
theorem dX5_nightOf_9 : decode cX5_nightOf 9 = .ok (.getfield 82, 3) := by decide +kernel
theorem dX5_nightOf_12 : decode cX5_nightOf 12 = .ok (.if_icmp .ge 23, 3) := by decide +kernel
theorem dX5_nightOf_15 : decode cX5_nightOf 15 = .ok (.aload_n 0, 1) := by decide +kernel
theorem dX5_nightOf_16 : decode cX5_nightOf 16 = .ok (.getfield 22, 3) := by decide +kernel
theorem dX5_nightOf_19 : decode cX5_nightOf 19 = .ok (.iload_n 2, 1) := by decide +kernel
theorem dX5_nightOf_20 : decode cX5_nightOf 20 = .ok (.iaload, 1) := by decide +kernel
theorem dX5_nightOf_21 : decode cX5_nightOf 21 = .ok (.ifCond .ne 8, 3) := by decide +kernel
theorem dX5_nightOf_24 : decode cX5_nightOf 24 = .ok (.aload_n 0, 1) := by decide +kernel
theorem dX5_nightOf_25 : decode cX5_nightOf 25 = .ok (.iload_n 2, 1) := by decide +kernel
theorem dX5_nightOf_26 : decode cX5_nightOf 26 = .ok (.invokevirtual 214, 3) := by decide +kernel
theorem dX5_nightOf_29 : decode cX5_nightOf 29 = .ok (.iinc 2 1, 3) := by decide +kernel
theorem dX5_nightOf_32 : decode cX5_nightOf 32 = .ok (.goto (-25), 3) := by decide +kernel
theorem dX5_nightOf_35 : decode cX5_nightOf 35 = .ok (.iconst 0, 1) := by decide +kernel
theorem dX5_nightOf_36 : decode cX5_nightOf 36 = .ok (.istore_n 2, 1) := by decide +kernel
theorem dX5_nightOf_37 : decode cX5_nightOf 37 = .ok (.iload_n 2, 1) := by decide +kernel
theorem dX5_nightOf_38 : decode cX5_nightOf 38 = .ok (.bipush 36, 2) := by decide +kernel
theorem dX5_nightOf_40 : decode cX5_nightOf 40 = .ok (.if_icmp .ge 39, 3) := by decide +kernel
theorem dX5_nightOf_43 : decode cX5_nightOf 43 = .ok (.aload_n 0, 1) := by decide +kernel
theorem dX5_nightOf_44 : decode cX5_nightOf 44 = .ok (.getfield 25, 3) := by decide +kernel
theorem dX5_nightOf_47 : decode cX5_nightOf 47 = .ok (.iload_n 2, 1) := by decide +kernel
theorem dX5_nightOf_48 : decode cX5_nightOf 48 = .ok (.iaload, 1) := by decide +kernel
theorem dX5_nightOf_49 : decode cX5_nightOf 49 = .ok (.aload_n 0, 1) := by decide +kernel
theorem dX5_nightOf_50 : decode cX5_nightOf 50 = .ok (.iconst 1, 1) := by decide +kernel
theorem dX5_nightOf_51 : decode cX5_nightOf 51 = .ok (.iload_n 2, 1) := by decide +kernel
theorem dX5_nightOf_52 : decode cX5_nightOf 52 = .ok (.iconst (-1), 1) := by decide +kernel
theorem dX5_nightOf_53 : decode cX5_nightOf 53 = .ok (.invokevirtual 195, 3) := by decide +kernel
theorem dX5_nightOf_56 : decode cX5_nightOf 56 = .ok (.isub, 1) := by decide +kernel
theorem dX5_nightOf_57 : decode cX5_nightOf 57 = .ok (.istore_n 3, 1) := by decide +kernel
theorem dX5_nightOf_58 : decode cX5_nightOf 58 = .ok (.aload_n 0, 1) := by decide +kernel
theorem dX5_nightOf_59 : decode cX5_nightOf 59 = .ok (.getfield 25, 3) := by decide +kernel
theorem dX5_nightOf_62 : decode cX5_nightOf 62 = .ok (.iload_n 2, 1) := by decide +kernel
theorem dX5_nightOf_63 : decode cX5_nightOf 63 = .ok (.iload_n 3, 1) := by decide +kernel
theorem dX5_nightOf_64 : decode cX5_nightOf 64 = .ok (.ifCond .ge 7, 3) := by decide +kernel
theorem dX5_nightOf_67 : decode cX5_nightOf 67 = .ok (.iconst 0, 1) := by decide +kernel
theorem dX5_nightOf_68 : decode cX5_nightOf 68 = .ok (.goto 4, 3) := by decide +kernel
theorem dX5_nightOf_71 : decode cX5_nightOf 71 = .ok (.iload_n 3, 1) := by decide +kernel
theorem dX5_nightOf_72 : decode cX5_nightOf 72 = .ok (.iastore, 1) := by decide +kernel
theorem dX5_nightOf_73 : decode cX5_nightOf 73 = .ok (.iinc 2 1, 3) := by decide +kernel
theorem dX5_nightOf_76 : decode cX5_nightOf 76 = .ok (.goto (-39), 3) := by decide +kernel
theorem dX5_nightOf_79 : decode cX5_nightOf 79 = .ok (.aload_n 0, 1) := by decide +kernel
theorem dX5_nightOf_80 : decode cX5_nightOf 80 = .ok (.dup, 1) := by decide +kernel
theorem dX5_nightOf_81 : decode cX5_nightOf 81 = .ok (.getfield 100, 3) := by decide +kernel
theorem dX5_nightOf_84 : decode cX5_nightOf 84 = .ok (.iconst 1, 1) := by decide +kernel
theorem dX5_nightOf_85 : decode cX5_nightOf 85 = .ok (.iadd, 1) := by decide +kernel
theorem dX5_nightOf_86 : decode cX5_nightOf 86 = .ok (.putfield 100, 3) := by decide +kernel
theorem dX5_nightOf_89 : decode cX5_nightOf 89 = .ok (.iload_n 1, 1) := by decide +kernel
theorem dX5_nightOf_90 : decode cX5_nightOf 90 = .ok (.aload_n 0, 1) := by decide +kernel
theorem dX5_nightOf_91 : decode cX5_nightOf 91 = .ok (.invokevirtual 93, 3) := by decide +kernel
theorem dX5_nightOf_94 : decode cX5_nightOf 94 = .ok (.iconst (-1), 1) := by decide +kernel
theorem dX5_nightOf_95 : decode cX5_nightOf 95 = .ok (.ixor, 1) := by decide +kernel
theorem dX5_nightOf_96 : decode cX5_nightOf 96 = .ok (.iand, 1) := by decide +kernel
theorem dX5_nightOf_97 : decode cX5_nightOf 97 = .ok (.ireturn, 1) := by decide +kernel
def b_X5_nightOf_37 (kc37 : Int32 → Int32 → GM → Option (Int32 × GM)) (x1 : Int32) (x2 : Int32) (σ : GM) : Option (Int32 × GM) :=
  if (36 : Int32) ≤ x2 then (bnd (some (tI σ 1 ((mI σ 1) + (1 : Int32)))) fun σ2 => bnd (f_X5_afloat σ2) fun q3 => some ((x1 &&& (q3.1 ^^^ (-1 : Int32))), q3.2)) else (grd x2 36 (bnd (f_X5_asksOf (1 : Int32) x2 (-1 : Int32) σ) fun q4 => bnd (some ((mA σ 5 x2.toNatClampNeg) - q4.1)) fun w5 => if 0 ≤ w5 then (grd x2 36 (bnd (some (tA q4.2 5 x2.toNatClampNeg w5)) fun σ6 => kc37 x1 (x2 + (1 : Int32)) σ6)) else (grd x2 36 (bnd (some (tA q4.2 5 x2.toNatClampNeg (0 : Int32))) fun σ7 => kc37 x1 (x2 + (1 : Int32)) σ7))))
theorem vb_X5_nightOf_37 {g : Gt} {ad : Nat → Nat} (z : Zt) (kc37 : Int32 → Int32 → GM → Option (Int32 × GM)) (hkc37 : ∀ (x1 : Int32) (x2 : Int32) (σ : GM), V g (LM ad) 7 RX5 cX5_nightOf 4 (some .int) (wM g ad) iI z (kc37 x1 x2 σ) σ 37 [(0, .ref (aMo ad)), (1, .int x1), (2, .int x2)] []) (x1 : Int32) (x2 : Int32) (σ : GM) : V g (LM ad) 7 RX5 cX5_nightOf 4 (some .int) (wM g ad) iI z (b_X5_nightOf_37 kc37 x1 x2 σ) σ 37 [(0, .ref (aMo ad)), (1, .int x1), (2, .int x2)] [] := by
  unfold b_X5_nightOf_37
  refine v_iload_n (pc := 37) (i := 2) dX5_nightOf_37 rfl rfl ?_
  refine v_bipush (pc := 38) dX5_nightOf_38 bp_36 ?_
  refine v_icmp_ge (pc := 40) (tgt := 79) dX5_nightOf_40 rfl ?_ ?_
  · refine v_aload_n (pc := 79) (i := 0) dX5_nightOf_79 rfl rfl ?_
    refine v_dup (pc := 80) dX5_nightOf_80 rfl ?_
    refine gX5_nights (pc := 81) q_762 dX5_nightOf_81 ?_
    refine v_iconst (pc := 84) dX5_nightOf_84 ic_1 ?_
    refine v_iadd (pc := 85) dX5_nightOf_85 ?_
    refine pX5_nights (pc := 86) q_762 dX5_nightOf_86 ?_
    refine v_nms (fun σ2 => ?_)
    refine v_iload_n (pc := 89) (i := 1) dX5_nightOf_89 rfl rfl ?_
    refine v_aload_n (pc := 90) (i := 0) dX5_nightOf_90 rfl rfl ?_
    refine v_callVi (pc := 91) rcX5 (As := []) (rest := [.int x1]) (ct_X5_afloat) mi_X5_afloat q_870 (by decide) rfl rfl (Nat.le_of_ble_eq_true rfl) dX5_nightOf_91 (fun q3 => ?_)
    refine v_iconst (pc := 94) dX5_nightOf_94 ic_m1 ?_
    refine v_ixor (pc := 95) dX5_nightOf_95 ?_
    refine v_iand (pc := 96) dX5_nightOf_96 ?_
    exact v_iret (pc := 97) dX5_nightOf_97
  · refine v_aload_n (pc := 43) (i := 0) dX5_nightOf_43 rfl rfl ?_
    refine gX5_beliefs (pc := 44) q_760 dX5_nightOf_44 ?_
    refine v_iload_n (pc := 47) (i := 2) dX5_nightOf_47 rfl rfl ?_
    refine lM_beliefs (pc := 48) dX5_nightOf_48 ?_
    refine v_aload_n (pc := 49) (i := 0) dX5_nightOf_49 rfl rfl ?_
    refine v_iconst (pc := 50) dX5_nightOf_50 ic_1 ?_
    refine v_iload_n (pc := 51) (i := 2) dX5_nightOf_51 rfl rfl ?_
    refine v_iconst (pc := 52) dX5_nightOf_52 ic_m1 ?_
    refine v_callVi (pc := 53) rcX5 (As := [.int (1 : Int32), .int x2, .int (-1 : Int32)]) (rest := [.int (mA σ 5 x2.toNatClampNeg)]) (ct_X5_asksOf (1 : Int32) x2 (-1 : Int32)) mi_X5_asksOf q_932 (by decide) rfl rfl (Nat.le_of_ble_eq_true rfl) dX5_nightOf_53 (fun q4 => ?_)
    refine v_isub (pc := 56) dX5_nightOf_56 ?_
    refine v_nmi (fun w5 => ?_)
    refine v_istore_n (pc := 57) (lv' := [(3, .int w5), (0, .ref (aMo ad)), (1, .int x1), (2, .int x2)]) (i := 3) dX5_nightOf_57 rfl (by decide) rfl ?_
    refine v_aload_n (pc := 58) (i := 0) dX5_nightOf_58 rfl rfl ?_
    refine gX5_beliefs (pc := 59) q_760 dX5_nightOf_59 ?_
    refine v_iload_n (pc := 62) (i := 2) dX5_nightOf_62 rfl rfl ?_
    refine v_iload_n (pc := 63) (i := 3) dX5_nightOf_63 rfl rfl ?_
    refine v_if_ge (pc := 64) (tgt := 71) dX5_nightOf_64 rfl ?_ ?_
    · refine v_iload_n (pc := 71) (i := 3) dX5_nightOf_71 rfl rfl ?_
      refine sM_beliefs (pc := 72) dX5_nightOf_72 ?_
      refine v_nms (fun σ6 => ?_)
      refine v_iinc (pc := 73) (lv' := [(2, .int (x2 + (1 : Int32))), (3, .int w5), (0, .ref (aMo ad)), (1, .int x1)]) (i := 2) dX5_nightOf_73 rfl ic_1 (by decide) rfl ?_
      refine v_goto (pc := 76) (tgt := 37) dX5_nightOf_76 rfl ?_
      exact v_sub [2, 3, 0] rfl (hkc37 x1 (x2 + (1 : Int32)) σ6)
    · refine v_iconst (pc := 67) dX5_nightOf_67 ic_0 ?_
      refine v_goto (pc := 68) (tgt := 72) dX5_nightOf_68 rfl ?_
      refine sM_beliefs (pc := 72) dX5_nightOf_72 ?_
      refine v_nms (fun σ7 => ?_)
      refine v_iinc (pc := 73) (lv' := [(2, .int (x2 + (1 : Int32))), (3, .int w5), (0, .ref (aMo ad)), (1, .int x1)]) (i := 2) dX5_nightOf_73 rfl ic_1 (by decide) rfl ?_
      refine v_goto (pc := 76) (tgt := 37) dX5_nightOf_76 rfl ?_
      exact v_sub [2, 3, 0] rfl (hkc37 x1 (x2 + (1 : Int32)) σ7)
def k_X5_nightOf_37 : Nat → Int32 → Int32 → GM → Option (Int32 × GM)
  | 0 => fun _ _ _ => none
  | n + 1 => b_X5_nightOf_37 (k_X5_nightOf_37 n)
theorem vk_X5_nightOf_37 {g : Gt} {ad : Nat → Nat} (z : Zt) : ∀ (n : Nat) (x1 : Int32) (x2 : Int32) (σ : GM), V g (LM ad) 7 RX5 cX5_nightOf 4 (some .int) (wM g ad) iI z (k_X5_nightOf_37 n x1 x2 σ) σ 37 [(0, .ref (aMo ad)), (1, .int x1), (2, .int x2)] [] := by
  intro n
  induction n with
  | zero => intros; exact v_eq rfl v_none
  | succ n ih =>
    intro x1 x2 σ
    exact v_eq rfl (vb_X5_nightOf_37 z _ ih x1 x2 σ)
def b_X5_nightOf_7 (kc7 : Int32 → Int32 → GM → Option (Int32 × GM)) (x1 : Int32) (x2 : Int32) (σ : GM) : Option (Int32 × GM) :=
  if (mI σ 0) ≤ x2 then (k_X5_nightOf_37 FU x1 (0 : Int32) σ) else (grd x2 6 (if (mA σ 4 x2.toNatClampNeg) ≠ 0 then (kc7 x1 (x2 + (1 : Int32)) σ) else (bnd (f_X5_sails x2 σ) fun q8 => kc7 x1 (x2 + (1 : Int32)) q8.2)))
theorem vb_X5_nightOf_7 {g : Gt} {ad : Nat → Nat} (z : Zt) (kc7 : Int32 → Int32 → GM → Option (Int32 × GM)) (hkc7 : ∀ (x1 : Int32) (x2 : Int32) (σ : GM), V g (LM ad) 7 RX5 cX5_nightOf 4 (some .int) (wM g ad) iI z (kc7 x1 x2 σ) σ 7 [(0, .ref (aMo ad)), (1, .int x1), (2, .int x2)] []) (x1 : Int32) (x2 : Int32) (σ : GM) : V g (LM ad) 7 RX5 cX5_nightOf 4 (some .int) (wM g ad) iI z (b_X5_nightOf_7 kc7 x1 x2 σ) σ 7 [(0, .ref (aMo ad)), (1, .int x1), (2, .int x2)] [] := by
  unfold b_X5_nightOf_7
  refine v_iload_n (pc := 7) (i := 2) dX5_nightOf_7 rfl rfl ?_
  refine v_aload_n (pc := 8) (i := 0) dX5_nightOf_8 rfl rfl ?_
  refine gX5_ships (pc := 9) q_754 dX5_nightOf_9 ?_
  refine v_icmp_ge (pc := 12) (tgt := 35) dX5_nightOf_12 rfl ?_ ?_
  · refine v_iconst (pc := 35) dX5_nightOf_35 ic_0 ?_
    refine v_istore_n (pc := 36) (lv' := [(2, .int (0 : Int32)), (0, .ref (aMo ad)), (1, .int x1)]) (i := 2) dX5_nightOf_36 rfl (by decide) rfl ?_
    exact v_sub [1, 2, 0] rfl (vk_X5_nightOf_37 z FU x1 (0 : Int32) σ)
  · refine v_aload_n (pc := 15) (i := 0) dX5_nightOf_15 rfl rfl ?_
    refine gX5_lost (pc := 16) q_759 dX5_nightOf_16 ?_
    refine v_iload_n (pc := 19) (i := 2) dX5_nightOf_19 rfl rfl ?_
    refine lM_lost (pc := 20) dX5_nightOf_20 ?_
    refine v_if_ne (pc := 21) (tgt := 29) dX5_nightOf_21 rfl ?_ ?_
    · refine v_iinc (pc := 29) (lv' := [(2, .int (x2 + (1 : Int32))), (0, .ref (aMo ad)), (1, .int x1)]) (i := 2) dX5_nightOf_29 rfl ic_1 (by decide) rfl ?_
      refine v_goto (pc := 32) (tgt := 7) dX5_nightOf_32 rfl ?_
      exact v_sub [1, 2, 0] rfl (hkc7 x1 (x2 + (1 : Int32)) σ)
    · refine v_aload_n (pc := 24) (i := 0) dX5_nightOf_24 rfl rfl ?_
      refine v_iload_n (pc := 25) (i := 2) dX5_nightOf_25 rfl rfl ?_
      refine v_callVv (pc := 26) rcX5 (As := [.int x2]) (rest := []) (ct_X5_sails x2) mi_X5_sails q_983 (by decide) rfl rfl (Nat.le_of_ble_eq_true rfl) dX5_nightOf_26 (fun q8 => ?_)
      refine v_iinc (pc := 29) (lv' := [(2, .int (x2 + (1 : Int32))), (0, .ref (aMo ad)), (1, .int x1)]) (i := 2) dX5_nightOf_29 rfl ic_1 (by decide) rfl ?_
      refine v_goto (pc := 32) (tgt := 7) dX5_nightOf_32 rfl ?_
      exact v_sub [1, 2, 0] rfl (hkc7 x1 (x2 + (1 : Int32)) q8.2)
def k_X5_nightOf_7 : Nat → Int32 → Int32 → GM → Option (Int32 × GM)
  | 0 => fun _ _ _ => none
  | n + 1 => b_X5_nightOf_7 (k_X5_nightOf_7 n)
theorem vk_X5_nightOf_7 {g : Gt} {ad : Nat → Nat} (z : Zt) : ∀ (n : Nat) (x1 : Int32) (x2 : Int32) (σ : GM), V g (LM ad) 7 RX5 cX5_nightOf 4 (some .int) (wM g ad) iI z (k_X5_nightOf_7 n x1 x2 σ) σ 7 [(0, .ref (aMo ad)), (1, .int x1), (2, .int x2)] [] := by
  intro n
  induction n with
  | zero => intros; exact v_eq rfl v_none
  | succ n ih =>
    intro x1 x2 σ
    exact v_eq rfl (vb_X5_nightOf_7 z _ ih x1 x2 σ)
def f_X5_nightOf (σ : GM) : Option (Int32 × GM) :=
  bnd (f_X5_afloat σ) fun q1 => k_X5_nightOf_7 FU q1.1 (0 : Int32) q1.2
theorem vf_X5_nightOf {g : Gt} {ad : Nat → Nat} (z : Zt) (σ : GM) : V g (LM ad) 7 RX5 cX5_nightOf 4 (some .int) (wM g ad) iI z (f_X5_nightOf σ) σ 0 [(0, .ref (aMo ad))] [] := by
  unfold f_X5_nightOf
  refine v_aload_n (pc := 0) (i := 0) dX5_nightOf_0 rfl rfl ?_
  refine v_callVi (pc := 1) rcX5 (As := []) (rest := []) (ct_X5_afloat) mi_X5_afloat q_870 (by decide) rfl rfl (Nat.le_of_ble_eq_true rfl) dX5_nightOf_1 (fun q1 => ?_)
  refine v_istore_n (pc := 4) (lv' := [(1, .int q1.1), (0, .ref (aMo ad))]) (i := 1) dX5_nightOf_4 rfl (by decide) rfl ?_
  refine v_iconst (pc := 5) dX5_nightOf_5 ic_0 ?_
  refine v_istore_n (pc := 6) (lv' := [(2, .int (0 : Int32)), (1, .int q1.1), (0, .ref (aMo ad))]) (i := 2) dX5_nightOf_6 rfl (by decide) rfl ?_
  exact v_sub [2, 1, 0] rfl (vk_X5_nightOf_7 z FU q1.1 (0 : Int32) q1.2)
theorem ct_X5_nightOf {g : Gt} {ad : Nat → Nat} : CT g (LM ad) yX5_nightOf cX5_nightOf 4 (some .int) 7 [.ref (aMo ad)] iI (wM g ad) (f_X5_nightOf) :=
  ct_of_V (own := RX5) (lv0 := [(0, .ref (aMo ad))]) (by decide +kernel) rfl (Nat.le_of_ble_eq_true rfl) rfl (fun z σ => vf_X5_nightOf z σ)
-- LighthouseLiedToModel.night
theorem dX5_night_0 : decode cX5_night 0 = .ok (.aload_n 0, 1) := by decide +kernel
theorem dX5_night_1 : decode cX5_night 1 = .ok (.getfield 100, 3) := by decide +kernel
theorem dX5_night_4 : decode cX5_night 4 = .ok (.sipush 999, 3) := by decide +kernel
theorem dX5_night_7 : decode cX5_night 7 = .ok (.if_icmp .ne 8, 3) := by decide +kernel
theorem dX5_night_10 : decode cX5_night 10 = .ok (.bipush (-3), 2) := by decide +kernel
theorem dX5_night_12 : decode cX5_night 12 = .ok (.goto 7, 3) := by decide +kernel
theorem dX5_night_15 : decode cX5_night 15 = .ok (.aload_n 0, 1) := by decide +kernel
theorem dX5_night_16 : decode cX5_night 16 = .ok (.invokevirtual 217, 3) := by decide +kernel
theorem dX5_night_19 : decode cX5_night 19 = .ok (.ireturn, 1) := by decide +kernel
def f_X5_night (σ : GM) : Option (Int32 × GM) :=
  if (mI σ 1) ≠ (999 : Int32) then (bnd (f_X5_nightOf σ) fun q1 => some (q1.1, q1.2)) else (some ((-3 : Int32), σ))
theorem vf_X5_night {g : Gt} {ad : Nat → Nat} (z : Zt) (σ : GM) : V g (LM ad) 8 RX5 cX5_night 1 (some .int) (wM g ad) iI z (f_X5_night σ) σ 0 [(0, .ref (aMo ad))] [] := by
  unfold f_X5_night
  refine v_aload_n (pc := 0) (i := 0) dX5_night_0 rfl rfl ?_
  refine gX5_nights (pc := 1) q_762 dX5_night_1 ?_
  refine v_sipush (pc := 4) dX5_night_4 sp_999 ?_
  refine v_icmp_ne (pc := 7) (tgt := 15) dX5_night_7 rfl ?_ ?_
  · refine v_aload_n (pc := 15) (i := 0) dX5_night_15 rfl rfl ?_
    refine v_callVi (pc := 16) rcX5 (As := []) (rest := []) (ct_X5_nightOf) mi_X5_nightOf q_979 (by decide) rfl rfl (Nat.le_of_ble_eq_true rfl) dX5_night_16 (fun q1 => ?_)
    exact v_iret (pc := 19) dX5_night_19
  · refine v_bipush (pc := 10) dX5_night_10 bp_m3 ?_
    refine v_goto (pc := 12) (tgt := 19) dX5_night_12 rfl ?_
    exact v_iret (pc := 19) dX5_night_19
theorem ct_X5_night {g : Gt} {ad : Nat → Nat} : CT g (LM ad) yX5_night cX5_night 1 (some .int) 8 [.ref (aMo ad)] iI (wM g ad) (f_X5_night) :=
  ct_of_V (own := RX5) (lv0 := [(0, .ref (aMo ad))]) (by decide +kernel) rfl (Nat.le_of_ble_eq_true rfl) rfl (fun z σ => vf_X5_night z σ)
-- LighthouseLiedToModel.keeps
theorem dX5_keeps_0 : decode cX5_keeps 0 = .ok (.iconst 0, 1) := by decide +kernel
theorem dX5_keeps_1 : decode cX5_keeps 1 = .ok (.istore_n 1, 1) := by decide +kernel
theorem dX5_keeps_2 : decode cX5_keeps 2 = .ok (.iload_n 1, 1) := by decide +kernel
theorem dX5_keeps_3 : decode cX5_keeps 3 = .ok (.bipush 36, 2) := by decide +kernel
theorem dX5_keeps_5 : decode cX5_keeps 5 = .ok (.if_icmp .ge 21, 3) := by decide +kernel
theorem dX5_keeps_8 : decode cX5_keeps 8 = .ok (.aload_n 0, 1) := by decide +kernel
theorem dX5_keeps_9 : decode cX5_keeps 9 = .ok (.getfield 67, 3) := by decide +kernel
theorem dX5_keeps_12 : decode cX5_keeps 12 = .ok (.iload_n 1, 1) := by decide +kernel
theorem dX5_keeps_13 : decode cX5_keeps 13 = .ok (.aload_n 0, 1) := by decide +kernel
theorem dX5_keeps_14 : decode cX5_keeps 14 = .ok (.getfield 25, 3) := by decide +kernel
theorem dX5_keeps_17 : decode cX5_keeps 17 = .ok (.iload_n 1, 1) := by decide +kernel
theorem dX5_keeps_18 : decode cX5_keeps 18 = .ok (.iaload, 1) := by decide +kernel
theorem dX5_keeps_19 : decode cX5_keeps 19 = .ok (.iastore, 1) := by decide +kernel
theorem dX5_keeps_20 : decode cX5_keeps 20 = .ok (.iinc 1 1, 3) := by decide +kernel
theorem dX5_keeps_23 : decode cX5_keeps 23 = .ok (.goto (-21), 3) := by decide +kernel
theorem dX5_keeps_26 : decode cX5_keeps 26 = .ok (.iconst 0, 1) := by decide +kernel
theorem dX5_keeps_27 : decode cX5_keeps 27 = .ok (.istore_n 1, 1) := by decide +kernel
theorem dX5_keeps_28 : decode cX5_keeps 28 = .ok (.iload_n 1, 1) := by decide +kernel
theorem dX5_keeps_29 : decode cX5_keeps 29 = .ok (.bipush 6, 2) := by decide +kernel
theorem dX5_keeps_31 : decode cX5_keeps 31 = .ok (.if_icmp .ge 39, 3) := by decide +kernel
theorem dX5_keeps_34 : decode cX5_keeps 34 = .ok (.aload_n 0, 1) := by decide +kernel
theorem dX5_keeps_35 : decode cX5_keeps 35 = .ok (.getfield 67, 3) := by decide +kernel
theorem dX5_keeps_38 : decode cX5_keeps 38 = .ok (.bipush 36, 2) := by decide +kernel
theorem dX5_keeps_40 : decode cX5_keeps 40 = .ok (.iload_n 1, 1) := by decide +kernel
theorem dX5_keeps_41 : decode cX5_keeps 41 = .ok (.iadd, 1) := by decide +kernel
theorem dX5_keeps_42 : decode cX5_keeps 42 = .ok (.aload_n 0, 1) := by decide +kernel
theorem dX5_keeps_43 : decode cX5_keeps 43 = .ok (.getfield 16, 3) := by decide +kernel
theorem dX5_keeps_46 : decode cX5_keeps 46 = .ok (.iload_n 1, 1) := by decide +kernel
theorem dX5_keeps_47 : decode cX5_keeps 47 = .ok (.iaload, 1) := by decide +kernel
theorem dX5_keeps_48 : decode cX5_keeps 48 = .ok (.iastore, 1) := by decide +kernel
theorem dX5_keeps_49 : decode cX5_keeps 49 = .ok (.aload_n 0, 1) := by decide +kernel
theorem dX5_keeps_50 : decode cX5_keeps 50 = .ok (.getfield 67, 3) := by decide +kernel
theorem dX5_keeps_53 : decode cX5_keeps 53 = .ok (.bipush 42, 2) := by decide +kernel
theorem dX5_keeps_55 : decode cX5_keeps 55 = .ok (.iload_n 1, 1) := by decide +kernel
theorem dX5_keeps_56 : decode cX5_keeps 56 = .ok (.iadd, 1) := by decide +kernel
theorem dX5_keeps_57 : decode cX5_keeps 57 = .ok (.aload_n 0, 1) := by decide +kernel
theorem dX5_keeps_58 : decode cX5_keeps 58 = .ok (.getfield 22, 3) := by decide +kernel
theorem dX5_keeps_61 : decode cX5_keeps 61 = .ok (.iload_n 1, 1) := by decide +kernel
theorem dX5_keeps_62 : decode cX5_keeps 62 = .ok (.iaload, 1) := by decide +kernel
theorem dX5_keeps_63 : decode cX5_keeps 63 = .ok (.iastore, 1) := by decide +kernel
theorem dX5_keeps_64 : decode cX5_keeps 64 = .ok (.iinc 1 1, 3) := by decide +kernel
theorem dX5_keeps_67 : decode cX5_keeps 67 = .ok (.goto (-39), 3) := by decide +kernel
theorem dX5_keeps_70 : decode cX5_keeps 70 = .ok (.aload_n 0, 1) := by decide +kernel
theorem dX5_keeps_71 : decode cX5_keeps 71 = .ok (.getfield 67, 3) := by decide +kernel
theorem dX5_keeps_74 : decode cX5_keeps 74 = .ok (.bipush 48, 2) := by decide +kernel
theorem dX5_keeps_76 : decode cX5_keeps 76 = .ok (.aload_n 0, 1) := by decide +kernel
theorem dX5_keeps_77 : decode cX5_keeps 77 = .ok (.getfield 100, 3) := by decide +kernel
theorem dX5_keeps_80 : decode cX5_keeps 80 = .ok (.iastore, 1) := by decide +kernel
theorem dX5_keeps_81 : decode cX5_keeps 81 = .ok (.aload_n 0, 1) := by decide +kernel
theorem dX5_keeps_82 : decode cX5_keeps 82 = .ok (.getfield 67, 3) := by decide +kernel
theorem dX5_keeps_85 : decode cX5_keeps 85 = .ok (.bipush 49, 2) := by decide +kernel
theorem dX5_keeps_87 : decode cX5_keeps 87 = .ok (.aload_n 0, 1) := by decide +kernel
theorem dX5_keeps_88 : decode cX5_keeps 88 = .ok (.getfield 103, 3) := by decide +kernel
theorem dX5_keeps_91 : decode cX5_keeps 91 = .ok (.iastore, 1) := by decide +kernel
theorem dX5_keeps_92 : decode cX5_keeps 92 = .ok (.return_, 1) := by decide +kernel
def b_X5_keeps_28 (kc28 : Int32 → GM → Option (Unit × GM)) (x1 : Int32) (σ : GM) : Option (Unit × GM) :=
  if (6 : Int32) ≤ x1 then (grd (48 : Int32) 50 (bnd (some (tA σ 19 (48 : Int32).toNatClampNeg (mI σ 1))) fun σ1 => grd (49 : Int32) 50 (bnd (some (tA σ1 19 (49 : Int32).toNatClampNeg (mI σ1 2))) fun σ2 => some ((), σ2)))) else (grd x1 6 (grd ((36 : Int32) + x1) 50 (bnd (some (tA σ 19 ((36 : Int32) + x1).toNatClampNeg (mA σ 2 x1.toNatClampNeg))) fun σ3 => grd x1 6 (grd ((42 : Int32) + x1) 50 (bnd (some (tA σ3 19 ((42 : Int32) + x1).toNatClampNeg (mA σ3 4 x1.toNatClampNeg))) fun σ4 => kc28 (x1 + (1 : Int32)) σ4)))))
theorem vb_X5_keeps_28 {g : Gt} {ad : Nat → Nat} (z : Zt) (kc28 : Int32 → GM → Option (Unit × GM)) (hkc28 : ∀ (x1 : Int32) (σ : GM), V g (LM ad) 1 RX5 cX5_keeps 2 none (wM g ad) iU z (kc28 x1 σ) σ 28 [(0, .ref (aMo ad)), (1, .int x1)] []) (x1 : Int32) (σ : GM) : V g (LM ad) 1 RX5 cX5_keeps 2 none (wM g ad) iU z (b_X5_keeps_28 kc28 x1 σ) σ 28 [(0, .ref (aMo ad)), (1, .int x1)] [] := by
  unfold b_X5_keeps_28
  refine v_iload_n (pc := 28) (i := 1) dX5_keeps_28 rfl rfl ?_
  refine v_bipush (pc := 29) dX5_keeps_29 bp_6 ?_
  refine v_icmp_ge (pc := 31) (tgt := 70) dX5_keeps_31 rfl ?_ ?_
  · refine v_aload_n (pc := 70) (i := 0) dX5_keeps_70 rfl rfl ?_
    refine gX5_kept (pc := 71) q_789 dX5_keeps_71 ?_
    refine v_bipush (pc := 74) dX5_keeps_74 bp_48 ?_
    refine v_aload_n (pc := 76) (i := 0) dX5_keeps_76 rfl rfl ?_
    refine gX5_nights (pc := 77) q_762 dX5_keeps_77 ?_
    refine sM_kept (pc := 80) dX5_keeps_80 ?_
    refine v_nms (fun σ1 => ?_)
    refine v_aload_n (pc := 81) (i := 0) dX5_keeps_81 rfl rfl ?_
    refine gX5_kept (pc := 82) q_789 dX5_keeps_82 ?_
    refine v_bipush (pc := 85) dX5_keeps_85 bp_49 ?_
    refine v_aload_n (pc := 87) (i := 0) dX5_keeps_87 rfl rfl ?_
    refine gX5_doubt (pc := 88) q_763 dX5_keeps_88 ?_
    refine sM_kept (pc := 91) dX5_keeps_91 ?_
    refine v_nms (fun σ2 => ?_)
    exact v_ret (pc := 92) dX5_keeps_92
  · refine v_aload_n (pc := 34) (i := 0) dX5_keeps_34 rfl rfl ?_
    refine gX5_kept (pc := 35) q_789 dX5_keeps_35 ?_
    refine v_bipush (pc := 38) dX5_keeps_38 bp_36 ?_
    refine v_iload_n (pc := 40) (i := 1) dX5_keeps_40 rfl rfl ?_
    refine v_iadd (pc := 41) dX5_keeps_41 ?_
    refine v_aload_n (pc := 42) (i := 0) dX5_keeps_42 rfl rfl ?_
    refine gX5_onOf (pc := 43) q_757 dX5_keeps_43 ?_
    refine v_iload_n (pc := 46) (i := 1) dX5_keeps_46 rfl rfl ?_
    refine lM_onOf (pc := 47) dX5_keeps_47 ?_
    refine sM_kept (pc := 48) dX5_keeps_48 ?_
    refine v_nms (fun σ3 => ?_)
    refine v_aload_n (pc := 49) (i := 0) dX5_keeps_49 rfl rfl ?_
    refine gX5_kept (pc := 50) q_789 dX5_keeps_50 ?_
    refine v_bipush (pc := 53) dX5_keeps_53 bp_42 ?_
    refine v_iload_n (pc := 55) (i := 1) dX5_keeps_55 rfl rfl ?_
    refine v_iadd (pc := 56) dX5_keeps_56 ?_
    refine v_aload_n (pc := 57) (i := 0) dX5_keeps_57 rfl rfl ?_
    refine gX5_lost (pc := 58) q_759 dX5_keeps_58 ?_
    refine v_iload_n (pc := 61) (i := 1) dX5_keeps_61 rfl rfl ?_
    refine lM_lost (pc := 62) dX5_keeps_62 ?_
    refine sM_kept (pc := 63) dX5_keeps_63 ?_
    refine v_nms (fun σ4 => ?_)
    refine v_iinc (pc := 64) (lv' := [(1, .int (x1 + (1 : Int32))), (0, .ref (aMo ad))]) (i := 1) dX5_keeps_64 rfl ic_1 (by decide) rfl ?_
    refine v_goto (pc := 67) (tgt := 28) dX5_keeps_67 rfl ?_
    exact v_sub [1, 0] rfl (hkc28 (x1 + (1 : Int32)) σ4)
def k_X5_keeps_28 : Nat → Int32 → GM → Option (Unit × GM)
  | 0 => fun _ _ => none
  | n + 1 => b_X5_keeps_28 (k_X5_keeps_28 n)
theorem vk_X5_keeps_28 {g : Gt} {ad : Nat → Nat} (z : Zt) : ∀ (n : Nat) (x1 : Int32) (σ : GM), V g (LM ad) 1 RX5 cX5_keeps 2 none (wM g ad) iU z (k_X5_keeps_28 n x1 σ) σ 28 [(0, .ref (aMo ad)), (1, .int x1)] [] := by
  intro n
  induction n with
  | zero => intros; exact v_eq rfl v_none
  | succ n ih =>
    intro x1 σ
    exact v_eq rfl (vb_X5_keeps_28 z _ ih x1 σ)
def b_X5_keeps_2 (kc2 : Int32 → GM → Option (Unit × GM)) (x1 : Int32) (σ : GM) : Option (Unit × GM) :=
  if (36 : Int32) ≤ x1 then (k_X5_keeps_28 FU (0 : Int32) σ) else (grd x1 36 (grd x1 50 (bnd (some (tA σ 19 x1.toNatClampNeg (mA σ 5 x1.toNatClampNeg))) fun σ5 => kc2 (x1 + (1 : Int32)) σ5)))
theorem vb_X5_keeps_2 {g : Gt} {ad : Nat → Nat} (z : Zt) (kc2 : Int32 → GM → Option (Unit × GM)) (hkc2 : ∀ (x1 : Int32) (σ : GM), V g (LM ad) 1 RX5 cX5_keeps 2 none (wM g ad) iU z (kc2 x1 σ) σ 2 [(0, .ref (aMo ad)), (1, .int x1)] []) (x1 : Int32) (σ : GM) : V g (LM ad) 1 RX5 cX5_keeps 2 none (wM g ad) iU z (b_X5_keeps_2 kc2 x1 σ) σ 2 [(0, .ref (aMo ad)), (1, .int x1)] [] := by
  unfold b_X5_keeps_2
  refine v_iload_n (pc := 2) (i := 1) dX5_keeps_2 rfl rfl ?_
  refine v_bipush (pc := 3) dX5_keeps_3 bp_36 ?_
  refine v_icmp_ge (pc := 5) (tgt := 26) dX5_keeps_5 rfl ?_ ?_
  · refine v_iconst (pc := 26) dX5_keeps_26 ic_0 ?_
    refine v_istore_n (pc := 27) (lv' := [(1, .int (0 : Int32)), (0, .ref (aMo ad))]) (i := 1) dX5_keeps_27 rfl (by decide) rfl ?_
    exact v_sub [1, 0] rfl (vk_X5_keeps_28 z FU (0 : Int32) σ)
  · refine v_aload_n (pc := 8) (i := 0) dX5_keeps_8 rfl rfl ?_
    refine gX5_kept (pc := 9) q_789 dX5_keeps_9 ?_
    refine v_iload_n (pc := 12) (i := 1) dX5_keeps_12 rfl rfl ?_
    refine v_aload_n (pc := 13) (i := 0) dX5_keeps_13 rfl rfl ?_
    refine gX5_beliefs (pc := 14) q_760 dX5_keeps_14 ?_
    refine v_iload_n (pc := 17) (i := 1) dX5_keeps_17 rfl rfl ?_
    refine lM_beliefs (pc := 18) dX5_keeps_18 ?_
    refine sM_kept (pc := 19) dX5_keeps_19 ?_
    refine v_nms (fun σ5 => ?_)
    refine v_iinc (pc := 20) (lv' := [(1, .int (x1 + (1 : Int32))), (0, .ref (aMo ad))]) (i := 1) dX5_keeps_20 rfl ic_1 (by decide) rfl ?_
    refine v_goto (pc := 23) (tgt := 2) dX5_keeps_23 rfl ?_
    exact v_sub [1, 0] rfl (hkc2 (x1 + (1 : Int32)) σ5)
def k_X5_keeps_2 : Nat → Int32 → GM → Option (Unit × GM)
  | 0 => fun _ _ => none
  | n + 1 => b_X5_keeps_2 (k_X5_keeps_2 n)
theorem vk_X5_keeps_2 {g : Gt} {ad : Nat → Nat} (z : Zt) : ∀ (n : Nat) (x1 : Int32) (σ : GM), V g (LM ad) 1 RX5 cX5_keeps 2 none (wM g ad) iU z (k_X5_keeps_2 n x1 σ) σ 2 [(0, .ref (aMo ad)), (1, .int x1)] [] := by
  intro n
  induction n with
  | zero => intros; exact v_eq rfl v_none
  | succ n ih =>
    intro x1 σ
    exact v_eq rfl (vb_X5_keeps_2 z _ ih x1 σ)
def f_X5_keeps (σ : GM) : Option (Unit × GM) :=
  k_X5_keeps_2 FU (0 : Int32) σ
theorem vf_X5_keeps {g : Gt} {ad : Nat → Nat} (z : Zt) (σ : GM) : V g (LM ad) 1 RX5 cX5_keeps 2 none (wM g ad) iU z (f_X5_keeps σ) σ 0 [(0, .ref (aMo ad))] [] := by
  unfold f_X5_keeps
  refine v_iconst (pc := 0) dX5_keeps_0 ic_0 ?_
  refine v_istore_n (pc := 1) (lv' := [(1, .int (0 : Int32)), (0, .ref (aMo ad))]) (i := 1) dX5_keeps_1 rfl (by decide) rfl ?_
  exact v_sub [1, 0] rfl (vk_X5_keeps_2 z FU (0 : Int32) σ)
theorem ct_X5_keeps {g : Gt} {ad : Nat → Nat} : CT g (LM ad) yX5_keeps cX5_keeps 2 none 1 [.ref (aMo ad)] iU (wM g ad) (f_X5_keeps) :=
  ct_of_V (own := RX5) (lv0 := [(0, .ref (aMo ad))]) (by decide +kernel) rfl (Nat.le_of_ble_eq_true rfl) rfl (fun z σ => vf_X5_keeps z σ)
-- LighthouseLiedToModel.goes
theorem dX5_goes_0 : decode cX5_goes 0 = .ok (.iconst 0, 1) := by decide +kernel
theorem dX5_goes_1 : decode cX5_goes 1 = .ok (.istore_n 2, 1) := by decide +kernel
theorem dX5_goes_2 : decode cX5_goes 2 = .ok (.iconst 0, 1) := by decide +kernel
theorem dX5_goes_3 : decode cX5_goes 3 = .ok (.istore_n 3, 1) := by decide +kernel
theorem dX5_goes_4 : decode cX5_goes 4 = .ok (.iload_n 3, 1) := by decide +kernel
theorem dX5_goes_5 : decode cX5_goes 5 = .ok (.iload_n 1, 1) := by decide +kernel
theorem dX5_goes_6 : decode cX5_goes 6 = .ok (.if_icmp .ge 16, 3) := by decide +kernel
theorem dX5_goes_9 : decode cX5_goes 9 = .ok (.iload_n 2, 1) := by decide +kernel
theorem dX5_goes_10 : decode cX5_goes 10 = .ok (.aload_n 0, 1) := by decide +kernel
theorem dX5_goes_11 : decode cX5_goes 11 = .ok (.invokevirtual 217, 3) := by decide +kernel
theorem dX5_goes_14 : decode cX5_goes 14 = .ok (.ior, 1) := by decide +kernel
theorem dX5_goes_15 : decode cX5_goes 15 = .ok (.istore_n 2, 1) := by decide +kernel
theorem dX5_goes_16 : decode cX5_goes 16 = .ok (.iinc 3 1, 3) := by decide +kernel
theorem dX5_goes_19 : decode cX5_goes 19 = .ok (.goto (-15), 3) := by decide +kernel
theorem dX5_goes_22 : decode cX5_goes 22 = .ok (.iload_n 2, 1) := by decide +kernel
theorem dX5_goes_23 : decode cX5_goes 23 = .ok (.ireturn, 1) := by decide +kernel
def b_X5_goes_4 (kc4 : Int32 → Int32 → Int32 → GM → Option (Int32 × GM)) (x1 : Int32) (x2 : Int32) (x3 : Int32) (σ : GM) : Option (Int32 × GM) :=
  if x1 ≤ x3 then (some (x2, σ)) else (bnd (f_X5_nightOf σ) fun q1 => bnd (some (x2 ||| q1.1)) fun w2 => kc4 x1 w2 (x3 + (1 : Int32)) q1.2)
theorem vb_X5_goes_4 {g : Gt} {ad : Nat → Nat} (z : Zt) (kc4 : Int32 → Int32 → Int32 → GM → Option (Int32 × GM)) (hkc4 : ∀ (x1 : Int32) (x2 : Int32) (x3 : Int32) (σ : GM), V g (LM ad) 8 RX5 cX5_goes 4 (some .int) (wM g ad) iI z (kc4 x1 x2 x3 σ) σ 4 [(0, .ref (aMo ad)), (1, .int x1), (2, .int x2), (3, .int x3)] []) (x1 : Int32) (x2 : Int32) (x3 : Int32) (σ : GM) : V g (LM ad) 8 RX5 cX5_goes 4 (some .int) (wM g ad) iI z (b_X5_goes_4 kc4 x1 x2 x3 σ) σ 4 [(0, .ref (aMo ad)), (1, .int x1), (2, .int x2), (3, .int x3)] [] := by
  unfold b_X5_goes_4
  refine v_iload_n (pc := 4) (i := 3) dX5_goes_4 rfl rfl ?_
  refine v_iload_n (pc := 5) (i := 1) dX5_goes_5 rfl rfl ?_
  refine v_icmp_ge (pc := 6) (tgt := 22) dX5_goes_6 rfl ?_ ?_
  · refine v_iload_n (pc := 22) (i := 2) dX5_goes_22 rfl rfl ?_
    exact v_iret (pc := 23) dX5_goes_23
  · refine v_iload_n (pc := 9) (i := 2) dX5_goes_9 rfl rfl ?_
    refine v_aload_n (pc := 10) (i := 0) dX5_goes_10 rfl rfl ?_
    refine v_callVi (pc := 11) rcX5 (As := []) (rest := [.int x2]) (ct_X5_nightOf) mi_X5_nightOf q_979 (by decide) rfl rfl (Nat.le_of_ble_eq_true rfl) dX5_goes_11 (fun q1 => ?_)
    refine v_ior (pc := 14) dX5_goes_14 ?_
    refine v_nmi (fun w2 => ?_)
    refine v_istore_n (pc := 15) (lv' := [(2, .int w2), (0, .ref (aMo ad)), (1, .int x1), (3, .int x3)]) (i := 2) dX5_goes_15 rfl (by decide) rfl ?_
    refine v_iinc (pc := 16) (lv' := [(3, .int (x3 + (1 : Int32))), (2, .int w2), (0, .ref (aMo ad)), (1, .int x1)]) (i := 3) dX5_goes_16 rfl ic_1 (by decide) rfl ?_
    refine v_goto (pc := 19) (tgt := 4) dX5_goes_19 rfl ?_
    exact v_sub [2, 3, 1, 0] rfl (hkc4 x1 w2 (x3 + (1 : Int32)) q1.2)
def k_X5_goes_4 : Nat → Int32 → Int32 → Int32 → GM → Option (Int32 × GM)
  | 0 => fun _ _ _ _ => none
  | n + 1 => b_X5_goes_4 (k_X5_goes_4 n)
theorem vk_X5_goes_4 {g : Gt} {ad : Nat → Nat} (z : Zt) : ∀ (n : Nat) (x1 : Int32) (x2 : Int32) (x3 : Int32) (σ : GM), V g (LM ad) 8 RX5 cX5_goes 4 (some .int) (wM g ad) iI z (k_X5_goes_4 n x1 x2 x3 σ) σ 4 [(0, .ref (aMo ad)), (1, .int x1), (2, .int x2), (3, .int x3)] [] := by
  intro n
  induction n with
  | zero => intros; exact v_eq rfl v_none
  | succ n ih =>
    intro x1 x2 x3 σ
    exact v_eq rfl (vb_X5_goes_4 z _ ih x1 x2 x3 σ)
def f_X5_goes (x1 : Int32) (σ : GM) : Option (Int32 × GM) :=
  k_X5_goes_4 FU x1 (0 : Int32) (0 : Int32) σ
theorem vf_X5_goes {g : Gt} {ad : Nat → Nat} (z : Zt) (x1 : Int32) (σ : GM) : V g (LM ad) 8 RX5 cX5_goes 4 (some .int) (wM g ad) iI z (f_X5_goes x1 σ) σ 0 [(0, .ref (aMo ad)), (1, .int x1)] [] := by
  unfold f_X5_goes
  refine v_iconst (pc := 0) dX5_goes_0 ic_0 ?_
  refine v_istore_n (pc := 1) (lv' := [(2, .int (0 : Int32)), (0, .ref (aMo ad)), (1, .int x1)]) (i := 2) dX5_goes_1 rfl (by decide) rfl ?_
  refine v_iconst (pc := 2) dX5_goes_2 ic_0 ?_
  refine v_istore_n (pc := 3) (lv' := [(3, .int (0 : Int32)), (2, .int (0 : Int32)), (0, .ref (aMo ad)), (1, .int x1)]) (i := 3) dX5_goes_3 rfl (by decide) rfl ?_
  exact v_sub [2, 3, 1, 0] rfl (vk_X5_goes_4 z FU x1 (0 : Int32) (0 : Int32) σ)
theorem ct_X5_goes {g : Gt} {ad : Nat → Nat} (x1 : Int32) : CT g (LM ad) yX5_goes cX5_goes 4 (some .int) 8 [.ref (aMo ad), .int x1] iI (wM g ad) (f_X5_goes x1) :=
  ct_of_V (own := RX5) (lv0 := [(0, .ref (aMo ad)), (1, .int x1)]) (by decide +kernel) rfl (Nat.le_of_ble_eq_true rfl) rfl (fun z σ => vf_X5_goes z x1 σ)
-- LighthouseLiedToModel.beliefAll
theorem dX5_beliefAll_0 : decode cX5_beliefAll 0 = .ok (.iconst 0, 1) := by decide +kernel
theorem dX5_beliefAll_1 : decode cX5_beliefAll 1 = .ok (.istore_n 1, 1) := by decide +kernel
theorem dX5_beliefAll_2 : decode cX5_beliefAll 2 = .ok (.iconst 0, 1) := by decide +kernel
theorem dX5_beliefAll_3 : decode cX5_beliefAll 3 = .ok (.istore_n 2, 1) := by decide +kernel
theorem dX5_beliefAll_4 : decode cX5_beliefAll 4 = .ok (.iload_n 2, 1) := by decide +kernel
theorem dX5_beliefAll_5 : decode cX5_beliefAll 5 = .ok (.bipush 36, 2) := by decide +kernel
theorem dX5_beliefAll_7 : decode cX5_beliefAll 7 = .ok (.if_icmp .ge 18, 3) := by decide +kernel
theorem dX5_beliefAll_10 : decode cX5_beliefAll 10 = .ok (.iload_n 1, 1) := by decide +kernel
theorem dX5_beliefAll_11 : decode cX5_beliefAll 11 = .ok (.aload_n 0, 1) := by decide +kernel
theorem dX5_beliefAll_12 : decode cX5_beliefAll 12 = .ok (.getfield 25, 3) := by decide +kernel
theorem dX5_beliefAll_15 : decode cX5_beliefAll 15 = .ok (.iload_n 2, 1) := by decide +kernel
theorem dX5_beliefAll_16 : decode cX5_beliefAll 16 = .ok (.iaload, 1) := by decide +kernel
theorem dX5_beliefAll_17 : decode cX5_beliefAll 17 = .ok (.iadd, 1) := by decide +kernel
theorem dX5_beliefAll_18 : decode cX5_beliefAll 18 = .ok (.istore_n 1, 1) := by decide +kernel
theorem dX5_beliefAll_19 : decode cX5_beliefAll 19 = .ok (.iinc 2 1, 3) := by decide +kernel
theorem dX5_beliefAll_22 : decode cX5_beliefAll 22 = .ok (.goto (-18), 3) := by decide +kernel
theorem dX5_beliefAll_25 : decode cX5_beliefAll 25 = .ok (.iload_n 1, 1) := by decide +kernel
theorem dX5_beliefAll_26 : decode cX5_beliefAll 26 = .ok (.ireturn, 1) := by decide +kernel
def b_X5_beliefAll_4 (kc4 : Int32 → Int32 → GM → Option (Int32 × GM)) (x1 : Int32) (x2 : Int32) (σ : GM) : Option (Int32 × GM) :=
  if (36 : Int32) ≤ x2 then (some (x1, σ)) else (grd x2 36 (bnd (some (x1 + (mA σ 5 x2.toNatClampNeg))) fun w1 => kc4 w1 (x2 + (1 : Int32)) σ))
theorem vb_X5_beliefAll_4 {g : Gt} {ad : Nat → Nat} (z : Zt) (kc4 : Int32 → Int32 → GM → Option (Int32 × GM)) (hkc4 : ∀ (x1 : Int32) (x2 : Int32) (σ : GM), V g (LM ad) 1 RX5 cX5_beliefAll 3 (some .int) (wM g ad) iI z (kc4 x1 x2 σ) σ 4 [(0, .ref (aMo ad)), (1, .int x1), (2, .int x2)] []) (x1 : Int32) (x2 : Int32) (σ : GM) : V g (LM ad) 1 RX5 cX5_beliefAll 3 (some .int) (wM g ad) iI z (b_X5_beliefAll_4 kc4 x1 x2 σ) σ 4 [(0, .ref (aMo ad)), (1, .int x1), (2, .int x2)] [] := by
  unfold b_X5_beliefAll_4
  refine v_iload_n (pc := 4) (i := 2) dX5_beliefAll_4 rfl rfl ?_
  refine v_bipush (pc := 5) dX5_beliefAll_5 bp_36 ?_
  refine v_icmp_ge (pc := 7) (tgt := 25) dX5_beliefAll_7 rfl ?_ ?_
  · refine v_iload_n (pc := 25) (i := 1) dX5_beliefAll_25 rfl rfl ?_
    exact v_iret (pc := 26) dX5_beliefAll_26
  · refine v_iload_n (pc := 10) (i := 1) dX5_beliefAll_10 rfl rfl ?_
    refine v_aload_n (pc := 11) (i := 0) dX5_beliefAll_11 rfl rfl ?_
    refine gX5_beliefs (pc := 12) q_760 dX5_beliefAll_12 ?_
    refine v_iload_n (pc := 15) (i := 2) dX5_beliefAll_15 rfl rfl ?_
    refine lM_beliefs (pc := 16) dX5_beliefAll_16 ?_
    refine v_iadd (pc := 17) dX5_beliefAll_17 ?_
    refine v_nmi (fun w1 => ?_)
    refine v_istore_n (pc := 18) (lv' := [(1, .int w1), (0, .ref (aMo ad)), (2, .int x2)]) (i := 1) dX5_beliefAll_18 rfl (by decide) rfl ?_
    refine v_iinc (pc := 19) (lv' := [(2, .int (x2 + (1 : Int32))), (1, .int w1), (0, .ref (aMo ad))]) (i := 2) dX5_beliefAll_19 rfl ic_1 (by decide) rfl ?_
    refine v_goto (pc := 22) (tgt := 4) dX5_beliefAll_22 rfl ?_
    exact v_sub [2, 1, 0] rfl (hkc4 w1 (x2 + (1 : Int32)) σ)
def k_X5_beliefAll_4 : Nat → Int32 → Int32 → GM → Option (Int32 × GM)
  | 0 => fun _ _ _ => none
  | n + 1 => b_X5_beliefAll_4 (k_X5_beliefAll_4 n)
theorem vk_X5_beliefAll_4 {g : Gt} {ad : Nat → Nat} (z : Zt) : ∀ (n : Nat) (x1 : Int32) (x2 : Int32) (σ : GM), V g (LM ad) 1 RX5 cX5_beliefAll 3 (some .int) (wM g ad) iI z (k_X5_beliefAll_4 n x1 x2 σ) σ 4 [(0, .ref (aMo ad)), (1, .int x1), (2, .int x2)] [] := by
  intro n
  induction n with
  | zero => intros; exact v_eq rfl v_none
  | succ n ih =>
    intro x1 x2 σ
    exact v_eq rfl (vb_X5_beliefAll_4 z _ ih x1 x2 σ)
def f_X5_beliefAll (σ : GM) : Option (Int32 × GM) :=
  k_X5_beliefAll_4 FU (0 : Int32) (0 : Int32) σ
theorem vf_X5_beliefAll {g : Gt} {ad : Nat → Nat} (z : Zt) (σ : GM) : V g (LM ad) 1 RX5 cX5_beliefAll 3 (some .int) (wM g ad) iI z (f_X5_beliefAll σ) σ 0 [(0, .ref (aMo ad))] [] := by
  unfold f_X5_beliefAll
  refine v_iconst (pc := 0) dX5_beliefAll_0 ic_0 ?_
  refine v_istore_n (pc := 1) (lv' := [(1, .int (0 : Int32)), (0, .ref (aMo ad))]) (i := 1) dX5_beliefAll_1 rfl (by decide) rfl ?_
  refine v_iconst (pc := 2) dX5_beliefAll_2 ic_0 ?_
  refine v_istore_n (pc := 3) (lv' := [(2, .int (0 : Int32)), (1, .int (0 : Int32)), (0, .ref (aMo ad))]) (i := 2) dX5_beliefAll_3 rfl (by decide) rfl ?_
  exact v_sub [2, 1, 0] rfl (vk_X5_beliefAll_4 z FU (0 : Int32) (0 : Int32) σ)
theorem ct_X5_beliefAll {g : Gt} {ad : Nat → Nat} : CT g (LM ad) yX5_beliefAll cX5_beliefAll 3 (some .int) 1 [.ref (aMo ad)] iI (wM g ad) (f_X5_beliefAll) :=
  ct_of_V (own := RX5) (lv0 := [(0, .ref (aMo ad))]) (by decide +kernel) rfl (Nat.le_of_ble_eq_true rfl) rfl (fun z σ => vf_X5_beliefAll z σ)
-- LighthouseLiedToModel.toldBehind
theorem dX5_toldBehind_0 : decode cX5_toldBehind 0 = .ok (.iload_n 1, 1) := by decide +kernel
theorem dX5_toldBehind_1 : decode cX5_toldBehind 1 = .ok (.iconst 3, 1) := by decide +kernel
theorem dX5_toldBehind_2 : decode cX5_toldBehind 2 = .ok (.if_icmp .ge 31, 3) := by decide +kernel
theorem dX5_toldBehind_5 : decode cX5_toldBehind 5 = .ok (.iload_n 1, 1) := by decide +kernel
theorem dX5_toldBehind_6 : decode cX5_toldBehind 6 = .ok (.ifCond .ne 10, 3) := by decide +kernel
theorem dX5_toldBehind_9 : decode cX5_toldBehind 9 = .ok (.aload_n 0, 1) := by decide +kernel
theorem dX5_toldBehind_10 : decode cX5_toldBehind 10 = .ok (.invokevirtual 93, 3) := by decide +kernel
theorem dX5_toldBehind_13 : decode cX5_toldBehind 13 = .ok (.goto 19, 3) := by decide +kernel
theorem dX5_toldBehind_16 : decode cX5_toldBehind 16 = .ok (.iload_n 1, 1) := by decide +kernel
theorem dX5_toldBehind_17 : decode cX5_toldBehind 17 = .ok (.iconst 1, 1) := by decide +kernel
theorem dX5_toldBehind_18 : decode cX5_toldBehind 18 = .ok (.if_icmp .ne 10, 3) := by decide +kernel
theorem dX5_toldBehind_21 : decode cX5_toldBehind 21 = .ok (.aload_n 0, 1) := by decide +kernel
theorem dX5_toldBehind_22 : decode cX5_toldBehind 22 = .ok (.invokevirtual 220, 3) := by decide +kernel
theorem dX5_toldBehind_25 : decode cX5_toldBehind 25 = .ok (.goto 7, 3) := by decide +kernel
theorem dX5_toldBehind_28 : decode cX5_toldBehind 28 = .ok (.aload_n 0, 1) := by decide +kernel
theorem dX5_toldBehind_29 : decode cX5_toldBehind 29 = .ok (.getfield 103, 3) := by decide +kernel
theorem dX5_toldBehind_32 : decode cX5_toldBehind 32 = .ok (.ireturn, 1) := by decide +kernel
theorem dX5_toldBehind_33 : decode cX5_toldBehind 33 = .ok (.iload_n 1, 1) := by decide +kernel
theorem dX5_toldBehind_34 : decode cX5_toldBehind 34 = .ok (.bipush 20, 2) := by decide +kernel
theorem dX5_toldBehind_36 : decode cX5_toldBehind 36 = .ok (.if_icmp .ge 15, 3) := by decide +kernel
theorem dX5_toldBehind_39 : decode cX5_toldBehind 39 = .ok (.aload_n 0, 1) := by decide +kernel
theorem dX5_toldBehind_40 : decode cX5_toldBehind 40 = .ok (.getfield 16, 3) := by decide +kernel
theorem dX5_toldBehind_43 : decode cX5_toldBehind 43 = .ok (.iload_n 1, 1) := by decide +kernel
theorem dX5_toldBehind_44 : decode cX5_toldBehind 44 = .ok (.bipush 10, 2) := by decide +kernel
theorem dX5_toldBehind_46 : decode cX5_toldBehind 46 = .ok (.isub, 1) := by decide +kernel
theorem dX5_toldBehind_47 : decode cX5_toldBehind 47 = .ok (.iaload, 1) := by decide +kernel
theorem dX5_toldBehind_48 : decode cX5_toldBehind 48 = .ok (.goto 12, 3) := by decide +kernel
theorem dX5_toldBehind_51 : decode cX5_toldBehind 51 = .ok (.aload_n 0, 1) := by decide +kernel
theorem dX5_toldBehind_52 : decode cX5_toldBehind 52 = .ok (.getfield 25, 3) := by decide +kernel
theorem dX5_toldBehind_55 : decode cX5_toldBehind 55 = .ok (.iload_n 1, 1) := by decide +kernel
theorem dX5_toldBehind_56 : decode cX5_toldBehind 56 = .ok (.bipush 20, 2) := by decide +kernel
theorem dX5_toldBehind_58 : decode cX5_toldBehind 58 = .ok (.isub, 1) := by decide +kernel
theorem dX5_toldBehind_59 : decode cX5_toldBehind 59 = .ok (.iaload, 1) := by decide +kernel
theorem dX5_toldBehind_60 : decode cX5_toldBehind 60 = .ok (.ireturn, 1) := by decide +kernel
def f_X5_toldBehind (x1 : Int32) (σ : GM) : Option (Int32 × GM) :=
  if (3 : Int32) ≤ x1 then (if (20 : Int32) ≤ x1 then (grd (x1 - (20 : Int32)) 36 (some ((mA σ 5 (x1 - (20 : Int32)).toNatClampNeg), σ))) else (grd (x1 - (10 : Int32)) 6 (some ((mA σ 2 (x1 - (10 : Int32)).toNatClampNeg), σ)))) else (if x1 ≠ 0 then (if x1 ≠ (1 : Int32) then (some ((mI σ 2), σ)) else (bnd (f_X5_beliefAll σ) fun q1 => some (q1.1, q1.2))) else (bnd (f_X5_afloat σ) fun q2 => some (q2.1, q2.2)))
theorem vf_X5_toldBehind {g : Gt} {ad : Nat → Nat} (z : Zt) (x1 : Int32) (σ : GM) : V g (LM ad) 2 RX5 cX5_toldBehind 2 (some .int) (wM g ad) iI z (f_X5_toldBehind x1 σ) σ 0 [(0, .ref (aMo ad)), (1, .int x1)] [] := by
  unfold f_X5_toldBehind
  refine v_iload_n (pc := 0) (i := 1) dX5_toldBehind_0 rfl rfl ?_
  refine v_iconst (pc := 1) dX5_toldBehind_1 ic_3 ?_
  refine v_icmp_ge (pc := 2) (tgt := 33) dX5_toldBehind_2 rfl ?_ ?_
  · refine v_iload_n (pc := 33) (i := 1) dX5_toldBehind_33 rfl rfl ?_
    refine v_bipush (pc := 34) dX5_toldBehind_34 bp_20 ?_
    refine v_icmp_ge (pc := 36) (tgt := 51) dX5_toldBehind_36 rfl ?_ ?_
    · refine v_aload_n (pc := 51) (i := 0) dX5_toldBehind_51 rfl rfl ?_
      refine gX5_beliefs (pc := 52) q_760 dX5_toldBehind_52 ?_
      refine v_iload_n (pc := 55) (i := 1) dX5_toldBehind_55 rfl rfl ?_
      refine v_bipush (pc := 56) dX5_toldBehind_56 bp_20 ?_
      refine v_isub (pc := 58) dX5_toldBehind_58 ?_
      refine lM_beliefs (pc := 59) dX5_toldBehind_59 ?_
      exact v_iret (pc := 60) dX5_toldBehind_60
    · refine v_aload_n (pc := 39) (i := 0) dX5_toldBehind_39 rfl rfl ?_
      refine gX5_onOf (pc := 40) q_757 dX5_toldBehind_40 ?_
      refine v_iload_n (pc := 43) (i := 1) dX5_toldBehind_43 rfl rfl ?_
      refine v_bipush (pc := 44) dX5_toldBehind_44 bp_10 ?_
      refine v_isub (pc := 46) dX5_toldBehind_46 ?_
      refine lM_onOf (pc := 47) dX5_toldBehind_47 ?_
      refine v_goto (pc := 48) (tgt := 60) dX5_toldBehind_48 rfl ?_
      exact v_iret (pc := 60) dX5_toldBehind_60
  · refine v_iload_n (pc := 5) (i := 1) dX5_toldBehind_5 rfl rfl ?_
    refine v_if_ne (pc := 6) (tgt := 16) dX5_toldBehind_6 rfl ?_ ?_
    · refine v_iload_n (pc := 16) (i := 1) dX5_toldBehind_16 rfl rfl ?_
      refine v_iconst (pc := 17) dX5_toldBehind_17 ic_1 ?_
      refine v_icmp_ne (pc := 18) (tgt := 28) dX5_toldBehind_18 rfl ?_ ?_
      · refine v_aload_n (pc := 28) (i := 0) dX5_toldBehind_28 rfl rfl ?_
        refine gX5_doubt (pc := 29) q_763 dX5_toldBehind_29 ?_
        exact v_iret (pc := 32) dX5_toldBehind_32
      · refine v_aload_n (pc := 21) (i := 0) dX5_toldBehind_21 rfl rfl ?_
        refine v_callVi (pc := 22) rcX5 (As := []) (rest := []) (ct_X5_beliefAll) mi_X5_beliefAll q_1007 (by decide) rfl rfl (Nat.le_of_ble_eq_true rfl) dX5_toldBehind_22 (fun q1 => ?_)
        refine v_goto (pc := 25) (tgt := 32) dX5_toldBehind_25 rfl ?_
        exact v_iret (pc := 32) dX5_toldBehind_32
    · refine v_aload_n (pc := 9) (i := 0) dX5_toldBehind_9 rfl rfl ?_
      refine v_callVi (pc := 10) rcX5 (As := []) (rest := []) (ct_X5_afloat) mi_X5_afloat q_870 (by decide) rfl rfl (Nat.le_of_ble_eq_true rfl) dX5_toldBehind_10 (fun q2 => ?_)
      refine v_goto (pc := 13) (tgt := 32) dX5_toldBehind_13 rfl ?_
      exact v_iret (pc := 32) dX5_toldBehind_32
theorem ct_X5_toldBehind {g : Gt} {ad : Nat → Nat} (x1 : Int32) : CT g (LM ad) yX5_toldBehind cX5_toldBehind 2 (some .int) 2 [.ref (aMo ad), .int x1] iI (wM g ad) (f_X5_toldBehind x1) :=
  ct_of_V (own := RX5) (lv0 := [(0, .ref (aMo ad)), (1, .int x1)]) (by decide +kernel) rfl (Nat.le_of_ble_eq_true rfl) rfl (fun z σ => vf_X5_toldBehind z x1 σ)
-- LighthouseLiedToModel.lays
theorem dX5_lays_0 : decode cX5_lays 0 = .ok (.iconst 0, 1) := by decide +kernel
theorem dX5_lays_1 : decode cX5_lays 1 = .ok (.istore_n 1, 1) := by decide +kernel
theorem dX5_lays_2 : decode cX5_lays 2 = .ok (.iload_n 1, 1) := by decide +kernel
theorem dX5_lays_3 : decode cX5_lays 3 = .ok (.bipush 36, 2) := by decide +kernel
theorem dX5_lays_5 : decode cX5_lays 5 = .ok (.if_icmp .ge 21, 3) := by decide +kernel
theorem dX5_lays_8 : decode cX5_lays 8 = .ok (.aload_n 0, 1) := by decide +kernel
theorem dX5_lays_9 : decode cX5_lays 9 = .ok (.getfield 25, 3) := by decide +kernel
theorem dX5_lays_12 : decode cX5_lays 12 = .ok (.iload_n 1, 1) := by decide +kernel
theorem dX5_lays_13 : decode cX5_lays 13 = .ok (.aload_n 0, 1) := by decide +kernel
theorem dX5_lays_14 : decode cX5_lays 14 = .ok (.getfield 67, 3) := by decide +kernel
theorem dX5_lays_17 : decode cX5_lays 17 = .ok (.iload_n 1, 1) := by decide +kernel
theorem dX5_lays_18 : decode cX5_lays 18 = .ok (.iaload, 1) := by decide +kernel
theorem dX5_lays_19 : decode cX5_lays 19 = .ok (.iastore, 1) := by decide +kernel
theorem dX5_lays_20 : decode cX5_lays 20 = .ok (.iinc 1 1, 3) := by decide +kernel
theorem dX5_lays_23 : decode cX5_lays 23 = .ok (.goto (-21), 3) := by decide +kernel
theorem dX5_lays_26 : decode cX5_lays 26 = .ok (.iconst 0, 1) := by decide +kernel
theorem dX5_lays_27 : decode cX5_lays 27 = .ok (.istore_n 1, 1) := by decide +kernel
theorem dX5_lays_28 : decode cX5_lays 28 = .ok (.iload_n 1, 1) := by decide +kernel
theorem dX5_lays_29 : decode cX5_lays 29 = .ok (.bipush 6, 2) := by decide +kernel
theorem dX5_lays_31 : decode cX5_lays 31 = .ok (.if_icmp .ge 39, 3) := by decide +kernel
theorem dX5_lays_34 : decode cX5_lays 34 = .ok (.aload_n 0, 1) := by decide +kernel
theorem dX5_lays_35 : decode cX5_lays 35 = .ok (.getfield 16, 3) := by decide +kernel
theorem dX5_lays_38 : decode cX5_lays 38 = .ok (.iload_n 1, 1) := by decide +kernel
theorem dX5_lays_39 : decode cX5_lays 39 = .ok (.aload_n 0, 1) := by decide +kernel
theorem dX5_lays_40 : decode cX5_lays 40 = .ok (.getfield 67, 3) := by decide +kernel
theorem dX5_lays_43 : decode cX5_lays 43 = .ok (.bipush 36, 2) := by decide +kernel
theorem dX5_lays_45 : decode cX5_lays 45 = .ok (.iload_n 1, 1) := by decide +kernel
theorem dX5_lays_46 : decode cX5_lays 46 = .ok (.iadd, 1) := by decide +kernel
theorem dX5_lays_47 : decode cX5_lays 47 = .ok (.iaload, 1) := by decide +kernel
theorem dX5_lays_48 : decode cX5_lays 48 = .ok (.iastore, 1) := by decide +kernel
theorem dX5_lays_49 : decode cX5_lays 49 = .ok (.aload_n 0, 1) := by decide +kernel
theorem dX5_lays_50 : decode cX5_lays 50 = .ok (.getfield 22, 3) := by decide +kernel
theorem dX5_lays_53 : decode cX5_lays 53 = .ok (.iload_n 1, 1) := by decide +kernel
theorem dX5_lays_54 : decode cX5_lays 54 = .ok (.aload_n 0, 1) := by decide +kernel
theorem dX5_lays_55 : decode cX5_lays 55 = .ok (.getfield 67, 3) := by decide +kernel
theorem dX5_lays_58 : decode cX5_lays 58 = .ok (.bipush 42, 2) := by decide +kernel
theorem dX5_lays_60 : decode cX5_lays 60 = .ok (.iload_n 1, 1) := by decide +kernel
theorem dX5_lays_61 : decode cX5_lays 61 = .ok (.iadd, 1) := by decide +kernel
theorem dX5_lays_62 : decode cX5_lays 62 = .ok (.iaload, 1) := by decide +kernel
theorem dX5_lays_63 : decode cX5_lays 63 = .ok (.iastore, 1) := by decide +kernel
theorem dX5_lays_64 : decode cX5_lays 64 = .ok (.iinc 1 1, 3) := by decide +kernel
theorem dX5_lays_67 : decode cX5_lays 67 = .ok (.goto (-39), 3) := by decide +kernel
theorem dX5_lays_70 : decode cX5_lays 70 = .ok (.aload_n 0, 1) := by decide +kernel
theorem dX5_lays_71 : decode cX5_lays 71 = .ok (.aload_n 0, 1) := by decide +kernel
theorem dX5_lays_72 : decode cX5_lays 72 = .ok (.getfield 67, 3) := by decide +kernel
theorem dX5_lays_75 : decode cX5_lays 75 = .ok (.bipush 48, 2) := by decide +kernel
theorem dX5_lays_77 : decode cX5_lays 77 = .ok (.iaload, 1) := by decide +kernel
theorem dX5_lays_78 : decode cX5_lays 78 = .ok (.putfield 100, 3) := by decide +kernel
theorem dX5_lays_81 : decode cX5_lays 81 = .ok (.aload_n 0, 1) := by decide +kernel
theorem dX5_lays_82 : decode cX5_lays 82 = .ok (.aload_n 0, 1) := by decide +kernel
theorem dX5_lays_83 : decode cX5_lays 83 = .ok (.getfield 67, 3) := by decide +kernel
theorem dX5_lays_86 : decode cX5_lays 86 = .ok (.bipush 49, 2) := by decide +kernel
theorem dX5_lays_88 : decode cX5_lays 88 = .ok (.iaload, 1) := by decide +kernel
theorem dX5_lays_89 : decode cX5_lays 89 = .ok (.putfield 103, 3) := by decide +kernel
theorem dX5_lays_92 : decode cX5_lays 92 = .ok (.return_, 1) := by decide +kernel
def b_X5_lays_28 (kc28 : Int32 → GM → Option (Unit × GM)) (x1 : Int32) (σ : GM) : Option (Unit × GM) :=
  if (6 : Int32) ≤ x1 then (grd (48 : Int32) 50 (bnd (some (tI σ 1 (mA σ 19 (48 : Int32).toNatClampNeg))) fun σ1 => grd (49 : Int32) 50 (bnd (some (tI σ1 2 (mA σ1 19 (49 : Int32).toNatClampNeg))) fun σ2 => some ((), σ2)))) else (grd ((36 : Int32) + x1) 50 (grd x1 6 (bnd (some (tA σ 2 x1.toNatClampNeg (mA σ 19 ((36 : Int32) + x1).toNatClampNeg))) fun σ3 => grd ((42 : Int32) + x1) 50 (grd x1 6 (bnd (some (tA σ3 4 x1.toNatClampNeg (mA σ3 19 ((42 : Int32) + x1).toNatClampNeg))) fun σ4 => kc28 (x1 + (1 : Int32)) σ4)))))
theorem vb_X5_lays_28 {g : Gt} {ad : Nat → Nat} (z : Zt) (kc28 : Int32 → GM → Option (Unit × GM)) (hkc28 : ∀ (x1 : Int32) (σ : GM), V g (LM ad) 1 RX5 cX5_lays 2 none (wM g ad) iU z (kc28 x1 σ) σ 28 [(0, .ref (aMo ad)), (1, .int x1)] []) (x1 : Int32) (σ : GM) : V g (LM ad) 1 RX5 cX5_lays 2 none (wM g ad) iU z (b_X5_lays_28 kc28 x1 σ) σ 28 [(0, .ref (aMo ad)), (1, .int x1)] [] := by
  unfold b_X5_lays_28
  refine v_iload_n (pc := 28) (i := 1) dX5_lays_28 rfl rfl ?_
  refine v_bipush (pc := 29) dX5_lays_29 bp_6 ?_
  refine v_icmp_ge (pc := 31) (tgt := 70) dX5_lays_31 rfl ?_ ?_
  · refine v_aload_n (pc := 70) (i := 0) dX5_lays_70 rfl rfl ?_
    refine v_aload_n (pc := 71) (i := 0) dX5_lays_71 rfl rfl ?_
    refine gX5_kept (pc := 72) q_789 dX5_lays_72 ?_
    refine v_bipush (pc := 75) dX5_lays_75 bp_48 ?_
    refine lM_kept (pc := 77) dX5_lays_77 ?_
    refine pX5_nights (pc := 78) q_762 dX5_lays_78 ?_
    refine v_nms (fun σ1 => ?_)
    refine v_aload_n (pc := 81) (i := 0) dX5_lays_81 rfl rfl ?_
    refine v_aload_n (pc := 82) (i := 0) dX5_lays_82 rfl rfl ?_
    refine gX5_kept (pc := 83) q_789 dX5_lays_83 ?_
    refine v_bipush (pc := 86) dX5_lays_86 bp_49 ?_
    refine lM_kept (pc := 88) dX5_lays_88 ?_
    refine pX5_doubt (pc := 89) q_763 dX5_lays_89 ?_
    refine v_nms (fun σ2 => ?_)
    exact v_ret (pc := 92) dX5_lays_92
  · refine v_aload_n (pc := 34) (i := 0) dX5_lays_34 rfl rfl ?_
    refine gX5_onOf (pc := 35) q_757 dX5_lays_35 ?_
    refine v_iload_n (pc := 38) (i := 1) dX5_lays_38 rfl rfl ?_
    refine v_aload_n (pc := 39) (i := 0) dX5_lays_39 rfl rfl ?_
    refine gX5_kept (pc := 40) q_789 dX5_lays_40 ?_
    refine v_bipush (pc := 43) dX5_lays_43 bp_36 ?_
    refine v_iload_n (pc := 45) (i := 1) dX5_lays_45 rfl rfl ?_
    refine v_iadd (pc := 46) dX5_lays_46 ?_
    refine lM_kept (pc := 47) dX5_lays_47 ?_
    refine sM_onOf (pc := 48) dX5_lays_48 ?_
    refine v_nms (fun σ3 => ?_)
    refine v_aload_n (pc := 49) (i := 0) dX5_lays_49 rfl rfl ?_
    refine gX5_lost (pc := 50) q_759 dX5_lays_50 ?_
    refine v_iload_n (pc := 53) (i := 1) dX5_lays_53 rfl rfl ?_
    refine v_aload_n (pc := 54) (i := 0) dX5_lays_54 rfl rfl ?_
    refine gX5_kept (pc := 55) q_789 dX5_lays_55 ?_
    refine v_bipush (pc := 58) dX5_lays_58 bp_42 ?_
    refine v_iload_n (pc := 60) (i := 1) dX5_lays_60 rfl rfl ?_
    refine v_iadd (pc := 61) dX5_lays_61 ?_
    refine lM_kept (pc := 62) dX5_lays_62 ?_
    refine sM_lost (pc := 63) dX5_lays_63 ?_
    refine v_nms (fun σ4 => ?_)
    refine v_iinc (pc := 64) (lv' := [(1, .int (x1 + (1 : Int32))), (0, .ref (aMo ad))]) (i := 1) dX5_lays_64 rfl ic_1 (by decide) rfl ?_
    refine v_goto (pc := 67) (tgt := 28) dX5_lays_67 rfl ?_
    exact v_sub [1, 0] rfl (hkc28 (x1 + (1 : Int32)) σ4)
def k_X5_lays_28 : Nat → Int32 → GM → Option (Unit × GM)
  | 0 => fun _ _ => none
  | n + 1 => b_X5_lays_28 (k_X5_lays_28 n)
theorem vk_X5_lays_28 {g : Gt} {ad : Nat → Nat} (z : Zt) : ∀ (n : Nat) (x1 : Int32) (σ : GM), V g (LM ad) 1 RX5 cX5_lays 2 none (wM g ad) iU z (k_X5_lays_28 n x1 σ) σ 28 [(0, .ref (aMo ad)), (1, .int x1)] [] := by
  intro n
  induction n with
  | zero => intros; exact v_eq rfl v_none
  | succ n ih =>
    intro x1 σ
    exact v_eq rfl (vb_X5_lays_28 z _ ih x1 σ)
def b_X5_lays_2 (kc2 : Int32 → GM → Option (Unit × GM)) (x1 : Int32) (σ : GM) : Option (Unit × GM) :=
  if (36 : Int32) ≤ x1 then (k_X5_lays_28 FU (0 : Int32) σ) else (grd x1 50 (grd x1 36 (bnd (some (tA σ 5 x1.toNatClampNeg (mA σ 19 x1.toNatClampNeg))) fun σ5 => kc2 (x1 + (1 : Int32)) σ5)))
theorem vb_X5_lays_2 {g : Gt} {ad : Nat → Nat} (z : Zt) (kc2 : Int32 → GM → Option (Unit × GM)) (hkc2 : ∀ (x1 : Int32) (σ : GM), V g (LM ad) 1 RX5 cX5_lays 2 none (wM g ad) iU z (kc2 x1 σ) σ 2 [(0, .ref (aMo ad)), (1, .int x1)] []) (x1 : Int32) (σ : GM) : V g (LM ad) 1 RX5 cX5_lays 2 none (wM g ad) iU z (b_X5_lays_2 kc2 x1 σ) σ 2 [(0, .ref (aMo ad)), (1, .int x1)] [] := by
  unfold b_X5_lays_2
  refine v_iload_n (pc := 2) (i := 1) dX5_lays_2 rfl rfl ?_
  refine v_bipush (pc := 3) dX5_lays_3 bp_36 ?_
  refine v_icmp_ge (pc := 5) (tgt := 26) dX5_lays_5 rfl ?_ ?_
  · refine v_iconst (pc := 26) dX5_lays_26 ic_0 ?_
    refine v_istore_n (pc := 27) (lv' := [(1, .int (0 : Int32)), (0, .ref (aMo ad))]) (i := 1) dX5_lays_27 rfl (by decide) rfl ?_
    exact v_sub [1, 0] rfl (vk_X5_lays_28 z FU (0 : Int32) σ)
  · refine v_aload_n (pc := 8) (i := 0) dX5_lays_8 rfl rfl ?_
    refine gX5_beliefs (pc := 9) q_760 dX5_lays_9 ?_
    refine v_iload_n (pc := 12) (i := 1) dX5_lays_12 rfl rfl ?_
    refine v_aload_n (pc := 13) (i := 0) dX5_lays_13 rfl rfl ?_
    refine gX5_kept (pc := 14) q_789 dX5_lays_14 ?_
    refine v_iload_n (pc := 17) (i := 1) dX5_lays_17 rfl rfl ?_
    refine lM_kept (pc := 18) dX5_lays_18 ?_
    refine sM_beliefs (pc := 19) dX5_lays_19 ?_
    refine v_nms (fun σ5 => ?_)
    refine v_iinc (pc := 20) (lv' := [(1, .int (x1 + (1 : Int32))), (0, .ref (aMo ad))]) (i := 1) dX5_lays_20 rfl ic_1 (by decide) rfl ?_
    refine v_goto (pc := 23) (tgt := 2) dX5_lays_23 rfl ?_
    exact v_sub [1, 0] rfl (hkc2 (x1 + (1 : Int32)) σ5)
def k_X5_lays_2 : Nat → Int32 → GM → Option (Unit × GM)
  | 0 => fun _ _ => none
  | n + 1 => b_X5_lays_2 (k_X5_lays_2 n)
theorem vk_X5_lays_2 {g : Gt} {ad : Nat → Nat} (z : Zt) : ∀ (n : Nat) (x1 : Int32) (σ : GM), V g (LM ad) 1 RX5 cX5_lays 2 none (wM g ad) iU z (k_X5_lays_2 n x1 σ) σ 2 [(0, .ref (aMo ad)), (1, .int x1)] [] := by
  intro n
  induction n with
  | zero => intros; exact v_eq rfl v_none
  | succ n ih =>
    intro x1 σ
    exact v_eq rfl (vb_X5_lays_2 z _ ih x1 σ)
def f_X5_lays (σ : GM) : Option (Unit × GM) :=
  k_X5_lays_2 FU (0 : Int32) σ
theorem vf_X5_lays {g : Gt} {ad : Nat → Nat} (z : Zt) (σ : GM) : V g (LM ad) 1 RX5 cX5_lays 2 none (wM g ad) iU z (f_X5_lays σ) σ 0 [(0, .ref (aMo ad))] [] := by
  unfold f_X5_lays
  refine v_iconst (pc := 0) dX5_lays_0 ic_0 ?_
  refine v_istore_n (pc := 1) (lv' := [(1, .int (0 : Int32)), (0, .ref (aMo ad))]) (i := 1) dX5_lays_1 rfl (by decide) rfl ?_
  exact v_sub [1, 0] rfl (vk_X5_lays_2 z FU (0 : Int32) σ)
theorem ct_X5_lays {g : Gt} {ad : Nat → Nat} : CT g (LM ad) yX5_lays cX5_lays 2 none 1 [.ref (aMo ad)] iU (wM g ad) (f_X5_lays) :=
  ct_of_V (own := RX5) (lv0 := [(0, .ref (aMo ad))]) (by decide +kernel) rfl (Nat.le_of_ble_eq_true rfl) rfl (fun z σ => vf_X5_lays z σ)
-- LighthouseLiedToModel.run
theorem dX5_run_0 : decode cX5_run 0 = .ok (.iload_n 2, 1) := by decide +kernel
theorem dX5_run_1 : decode cX5_run 1 = .ok (.iconst 0, 1) := by decide +kernel
theorem dX5_run_2 : decode cX5_run 2 = .ok (.iconst 2, 1) := by decide +kernel
theorem dX5_run_3 : decode cX5_run 3 = .ok (.invokestatic 78, 3) := by decide +kernel
theorem dX5_run_6 : decode cX5_run 6 = .ok (.ifCond .ne 30, 3) := by decide +kernel
theorem dX5_run_9 : decode cX5_run 9 = .ok (.iload_n 2, 1) := by decide +kernel
theorem dX5_run_10 : decode cX5_run 10 = .ok (.bipush 10, 2) := by decide +kernel
theorem dX5_run_12 : decode cX5_run 12 = .ok (.bipush 9, 2) := by decide +kernel
theorem dX5_run_14 : decode cX5_run 14 = .ok (.aload_n 0, 1) := by decide +kernel
theorem dX5_run_15 : decode cX5_run 15 = .ok (.getfield 82, 3) := by decide +kernel
theorem dX5_run_18 : decode cX5_run 18 = .ok (.iadd, 1) := by decide +kernel
theorem dX5_run_19 : decode cX5_run 19 = .ok (.invokestatic 78, 3) := by decide +kernel
theorem dX5_run_22 : decode cX5_run 22 = .ok (.ifCond .ne 14, 3) := by decide +kernel
theorem dX5_run_25 : decode cX5_run 25 = .ok (.iload_n 2, 1) := by decide +kernel
theorem dX5_run_26 : decode cX5_run 26 = .ok (.bipush 20, 2) := by decide +kernel
theorem dX5_run_28 : decode cX5_run 28 = .ok (.bipush 55, 2) := by decide +kernel
theorem dX5_run_30 : decode cX5_run 30 = .ok (.invokestatic 78, 3) := by decide +kernel
theorem dX5_run_33 : decode cX5_run 33 = .ok (.ifCond .eq 7, 3) := by decide +kernel
theorem dX5_run_36 : decode cX5_run 36 = .ok (.iconst 1, 1) := by decide +kernel
theorem dX5_run_37 : decode cX5_run 37 = .ok (.goto 4, 3) := by decide +kernel
theorem dX5_run_40 : decode cX5_run 40 = .ok (.iconst 0, 1) := by decide +kernel
theorem dX5_run_41 : decode cX5_run 41 = .ok (.istore_n 3, 1) := by decide +kernel
theorem dX5_run_42 : decode cX5_run 42 = .ok (.iload_n 1, 1) := by decide +kernel
theorem dX5_run_43 : decode cX5_run 43 = .ok (.iconst 0, 1) := by decide +kernel
theorem dX5_run_44 : decode cX5_run 44 = .ok (.bipush 40, 2) := by decide +kernel
theorem dX5_run_46 : decode cX5_run 46 = .ok (.invokestatic 78, 3) := by decide +kernel
theorem dX5_run_49 : decode cX5_run 49 = .ok (.ifCond .eq 7, 3) := by decide +kernel
theorem dX5_run_52 : decode cX5_run 52 = .ok (.iload_n 3, 1) := by decide +kernel
theorem dX5_run_53 : decode cX5_run 53 = .ok (.ifCond .ne 6, 3) := by decide +kernel
theorem dX5_run_56 : decode cX5_run 56 = .ok (.bipush (-2), 2) := by decide +kernel
theorem dX5_run_58 : decode cX5_run 58 = .ok (.ireturn, 1) := by decide +kernel
theorem dX5_run_59 : decode cX5_run 59 = .ok (.aload_n 0, 1) := by decide +kernel
theorem dX5_run_60 : decode cX5_run 60 = .ok (.invokevirtual 223, 3) := by decide +kernel
theorem dX5_run_63 : decode cX5_run 63 = .ok (.aload_n 0, 1) := by decide +kernel
theorem dX5_run_64 : decode cX5_run 64 = .ok (.iload_n 1, 1) := by decide +kernel
theorem dX5_run_65 : decode cX5_run 65 = .ok (.invokevirtual 226, 3) := by decide +kernel
theorem dX5_run_68 : decode cX5_run 68 = .ok (.pop, 1) := by decide +kernel
theorem dX5_run_69 : decode cX5_run 69 = .ok (.aload_n 0, 1) := by decide +kernel
theorem dX5_run_70 : decode cX5_run 70 = .ok (.iload_n 2, 1) := by decide +kernel
theorem dX5_run_71 : decode cX5_run 71 = .ok (.invokevirtual 229, 3) := by decide +kernel
theorem dX5_run_74 : decode cX5_run 74 = .ok (.istore 4, 2) := by decide +kernel
theorem dX5_run_76 : decode cX5_run 76 = .ok (.aload_n 0, 1) := by decide +kernel
theorem dX5_run_77 : decode cX5_run 77 = .ok (.invokevirtual 232, 3) := by decide +kernel
theorem dX5_run_80 : decode cX5_run 80 = .ok (.iload 4, 2) := by decide +kernel
theorem dX5_run_82 : decode cX5_run 82 = .ok (.ireturn, 1) := by decide +kernel
def b_X5_run_41 (x1 : Int32) (x2 : Int32) (xs0 : Int32) (σ : GM) : Option (Int32 × GM) :=
  bnd (f_X5_in x1 (0 : Int32) (40 : Int32) σ) fun q2 => if q2.1 = 0 then (some ((-2 : Int32), q2.2)) else (if xs0 ≠ 0 then (bnd (f_X5_keeps q2.2) fun q3 => bnd (f_X5_goes x1 q3.2) fun q4 => bnd (f_X5_toldBehind x2 q4.2) fun q5 => bnd (f_X5_lays q5.2) fun q6 => some (q5.1, q6.2)) else (some ((-2 : Int32), q2.2)))
theorem vb_X5_run_41 {g : Gt} {ad : Nat → Nat} (z : Zt) (x1 : Int32) (x2 : Int32) (xs0 : Int32) (σ : GM) : V g (LM ad) 9 RX5 cX5_run 5 (some .int) (wM g ad) iI z (b_X5_run_41 x1 x2 xs0 σ) σ 41 [(0, .ref (aMo ad)), (1, .int x1), (2, .int x2)] [.int xs0] := by
  unfold b_X5_run_41
  refine v_istore_n (pc := 41) (lv' := [(3, .int xs0), (0, .ref (aMo ad)), (1, .int x1), (2, .int x2)]) (i := 3) dX5_run_41 rfl (by decide) rfl ?_
  refine v_iload_n (pc := 42) (i := 1) dX5_run_42 rfl rfl ?_
  refine v_iconst (pc := 43) dX5_run_43 ic_0 ?_
  refine v_bipush (pc := 44) dX5_run_44 bp_40 ?_
  refine v_callSi (pc := 46) (av := [.int x1, .int (0 : Int32), .int (40 : Int32)]) (rest := []) (ct_X5_in x1 (0 : Int32) (40 : Int32)) mi_X5_in q_715 (by decide) rfl rfl (Nat.le_of_ble_eq_true rfl) dX5_run_46 (fun q2 => ?_)
  refine v_if_eq (pc := 49) (tgt := 56) dX5_run_49 rfl ?_ ?_
  · refine v_bipush (pc := 56) dX5_run_56 bp_m2 ?_
    exact v_iret (pc := 58) dX5_run_58
  · refine v_iload_n (pc := 52) (i := 3) dX5_run_52 rfl rfl ?_
    refine v_if_ne (pc := 53) (tgt := 59) dX5_run_53 rfl ?_ ?_
    · refine v_aload_n (pc := 59) (i := 0) dX5_run_59 rfl rfl ?_
      refine v_callVv (pc := 60) rcX5 (As := []) (rest := []) (ct_X5_keeps) mi_X5_keeps q_995 (by decide) rfl rfl (Nat.le_of_ble_eq_true rfl) dX5_run_60 (fun q3 => ?_)
      refine v_aload_n (pc := 63) (i := 0) dX5_run_63 rfl rfl ?_
      refine v_iload_n (pc := 64) (i := 1) dX5_run_64 rfl rfl ?_
      refine v_callVi (pc := 65) rcX5 (As := [.int x1]) (rest := []) (ct_X5_goes x1) mi_X5_goes q_999 (by decide) rfl rfl (Nat.le_of_ble_eq_true rfl) dX5_run_65 (fun q4 => ?_)
      refine v_pop (pc := 68) dX5_run_68 rfl ?_
      refine v_aload_n (pc := 69) (i := 0) dX5_run_69 rfl rfl ?_
      refine v_iload_n (pc := 70) (i := 2) dX5_run_70 rfl rfl ?_
      refine v_callVi (pc := 71) rcX5 (As := [.int x2]) (rest := []) (ct_X5_toldBehind x2) mi_X5_toldBehind q_1003 (by decide) rfl rfl (Nat.le_of_ble_eq_true rfl) dX5_run_71 (fun q5 => ?_)
      refine v_istore (pc := 74) (lv' := [(4, .int q5.1), (3, .int xs0), (0, .ref (aMo ad)), (1, .int x1), (2, .int x2)]) (i := 4) dX5_run_74 (by decide) rfl ?_
      refine v_aload_n (pc := 76) (i := 0) dX5_run_76 rfl rfl ?_
      refine v_callVv (pc := 77) rcX5 (As := []) (rest := []) (ct_X5_lays) mi_X5_lays q_1011 (by decide) rfl rfl (Nat.le_of_ble_eq_true rfl) dX5_run_77 (fun q6 => ?_)
      refine v_iload (pc := 80) (i := 4) dX5_run_80 rfl ?_
      exact v_iret (pc := 82) dX5_run_82
    · refine v_bipush (pc := 56) dX5_run_56 bp_m2 ?_
      exact v_iret (pc := 58) dX5_run_58
def f_X5_run (x1 : Int32) (x2 : Int32) (σ : GM) : Option (Int32 × GM) :=
  bnd (f_X5_in x2 (0 : Int32) (2 : Int32) σ) fun q1 => if q1.1 ≠ 0 then (b_X5_run_41 x1 x2 (1 : Int32) q1.2) else (bnd (f_X5_in x2 (10 : Int32) ((9 : Int32) + (mI q1.2 0)) q1.2) fun q7 => if q7.1 ≠ 0 then (b_X5_run_41 x1 x2 (1 : Int32) q7.2) else (bnd (f_X5_in x2 (20 : Int32) (55 : Int32) q7.2) fun q8 => if q8.1 = 0 then (b_X5_run_41 x1 x2 (0 : Int32) q8.2) else (b_X5_run_41 x1 x2 (1 : Int32) q8.2)))
theorem vf_X5_run {g : Gt} {ad : Nat → Nat} (z : Zt) (x1 : Int32) (x2 : Int32) (σ : GM) : V g (LM ad) 9 RX5 cX5_run 5 (some .int) (wM g ad) iI z (f_X5_run x1 x2 σ) σ 0 [(0, .ref (aMo ad)), (1, .int x1), (2, .int x2)] [] := by
  unfold f_X5_run
  refine v_iload_n (pc := 0) (i := 2) dX5_run_0 rfl rfl ?_
  refine v_iconst (pc := 1) dX5_run_1 ic_0 ?_
  refine v_iconst (pc := 2) dX5_run_2 ic_2 ?_
  refine v_callSi (pc := 3) (av := [.int x2, .int (0 : Int32), .int (2 : Int32)]) (rest := []) (ct_X5_in x2 (0 : Int32) (2 : Int32)) mi_X5_in q_715 (by decide) rfl rfl (Nat.le_of_ble_eq_true rfl) dX5_run_3 (fun q1 => ?_)
  refine v_if_ne (pc := 6) (tgt := 36) dX5_run_6 rfl ?_ ?_
  · refine v_iconst (pc := 36) dX5_run_36 ic_1 ?_
    refine v_goto (pc := 37) (tgt := 41) dX5_run_37 rfl ?_
    exact v_sub [0, 1, 2] rfl (vb_X5_run_41 z x1 x2 (1 : Int32) q1.2)
  · refine v_iload_n (pc := 9) (i := 2) dX5_run_9 rfl rfl ?_
    refine v_bipush (pc := 10) dX5_run_10 bp_10 ?_
    refine v_bipush (pc := 12) dX5_run_12 bp_9 ?_
    refine v_aload_n (pc := 14) (i := 0) dX5_run_14 rfl rfl ?_
    refine gX5_ships (pc := 15) q_754 dX5_run_15 ?_
    refine v_iadd (pc := 18) dX5_run_18 ?_
    refine v_callSi (pc := 19) (av := [.int x2, .int (10 : Int32), .int ((9 : Int32) + (mI q1.2 0))]) (rest := []) (ct_X5_in x2 (10 : Int32) ((9 : Int32) + (mI q1.2 0))) mi_X5_in q_715 (by decide) rfl rfl (Nat.le_of_ble_eq_true rfl) dX5_run_19 (fun q7 => ?_)
    refine v_if_ne (pc := 22) (tgt := 36) dX5_run_22 rfl ?_ ?_
    · refine v_iconst (pc := 36) dX5_run_36 ic_1 ?_
      refine v_goto (pc := 37) (tgt := 41) dX5_run_37 rfl ?_
      exact v_sub [0, 1, 2] rfl (vb_X5_run_41 z x1 x2 (1 : Int32) q7.2)
    · refine v_iload_n (pc := 25) (i := 2) dX5_run_25 rfl rfl ?_
      refine v_bipush (pc := 26) dX5_run_26 bp_20 ?_
      refine v_bipush (pc := 28) dX5_run_28 bp_55 ?_
      refine v_callSi (pc := 30) (av := [.int x2, .int (20 : Int32), .int (55 : Int32)]) (rest := []) (ct_X5_in x2 (20 : Int32) (55 : Int32)) mi_X5_in q_715 (by decide) rfl rfl (Nat.le_of_ble_eq_true rfl) dX5_run_30 (fun q8 => ?_)
      refine v_if_eq (pc := 33) (tgt := 40) dX5_run_33 rfl ?_ ?_
      · refine v_iconst (pc := 40) dX5_run_40 ic_0 ?_
        exact v_sub [0, 1, 2] rfl (vb_X5_run_41 z x1 x2 (0 : Int32) q8.2)
      · refine v_iconst (pc := 36) dX5_run_36 ic_1 ?_
        refine v_goto (pc := 37) (tgt := 41) dX5_run_37 rfl ?_
        exact v_sub [0, 1, 2] rfl (vb_X5_run_41 z x1 x2 (1 : Int32) q8.2)
theorem ct_X5_run {g : Gt} {ad : Nat → Nat} (x1 : Int32) (x2 : Int32) : CT g (LM ad) yX5_run cX5_run 5 (some .int) 9 [.ref (aMo ad), .int x1, .int x2] iI (wM g ad) (f_X5_run x1 x2) :=
  ct_of_V (own := RX5) (lv0 := [(0, .ref (aMo ad)), (1, .int x1), (2, .int x2)]) (by decide +kernel) rfl (Nat.le_of_ble_eq_true rfl) rfl (fun z σ => vf_X5_run z x1 x2 σ)
-- LighthouseLiedToModel.lostBy
theorem dX5_lostBy_0 : decode cX5_lostBy 0 = .ok (.aload_n 0, 1) := by decide +kernel
theorem dX5_lostBy_1 : decode cX5_lostBy 1 = .ok (.iload_n 1, 1) := by decide +kernel
theorem dX5_lostBy_2 : decode cX5_lostBy 2 = .ok (.invokevirtual 192, 3) := by decide +kernel
theorem dX5_lostBy_5 : decode cX5_lostBy 5 = .ok (.ifCond .ne 6, 3) := by decide +kernel
theorem dX5_lostBy_8 : decode cX5_lostBy 8 = .ok (.bipush (-5), 2) := by decide +kernel
theorem dX5_lostBy_10 : decode cX5_lostBy 10 = .ok (.ireturn, 1) := by decide +kernel
theorem dX5_lostBy_11 : decode cX5_lostBy 11 = .ok (.iload_n 2, 1) := by decide +kernel
theorem dX5_lostBy_12 : decode cX5_lostBy 12 = .ok (.iconst 0, 1) := by decide +kernel
theorem dX5_lostBy_13 : decode cX5_lostBy 13 = .ok (.iconst 1, 1) := by decide +kernel
theorem dX5_lostBy_14 : decode cX5_lostBy 14 = .ok (.invokestatic 78, 3) := by decide +kernel
theorem dX5_lostBy_17 : decode cX5_lostBy 17 = .ok (.ifCond .ne 6, 3) := by decide +kernel
theorem dX5_lostBy_20 : decode cX5_lostBy 20 = .ok (.bipush (-7), 2) := by decide +kernel
theorem dX5_lostBy_22 : decode cX5_lostBy 22 = .ok (.ireturn, 1) := by decide +kernel
theorem dX5_lostBy_23 : decode cX5_lostBy 23 = .ok (.aload_n 0, 1) := by decide +kernel
theorem dX5_lostBy_24 : decode cX5_lostBy 24 = .ok (.getfield 22, 3) := by decide +kernel
theorem dX5_lostBy_27 : decode cX5_lostBy 27 = .ok (.iload_n 1, 1) := by decide +kernel
theorem dX5_lostBy_28 : decode cX5_lostBy 28 = .ok (.iaload, 1) := by decide +kernel
theorem dX5_lostBy_29 : decode cX5_lostBy 29 = .ok (.iconst 1, 1) := by decide +kernel
theorem dX5_lostBy_30 : decode cX5_lostBy 30 = .ok (.if_icmp .ne 6, 3) := by decide +kernel
theorem dX5_lostBy_33 : decode cX5_lostBy 33 = .ok (.bipush (-3), 2) := by decide +kernel
theorem dX5_lostBy_35 : decode cX5_lostBy 35 = .ok (.ireturn, 1) := by decide +kernel
theorem dX5_lostBy_36 : decode cX5_lostBy 36 = .ok (.iconst (-1), 1) := by decide +kernel
theorem dX5_lostBy_37 : decode cX5_lostBy 37 = .ok (.istore_n 3, 1) := by decide +kernel
theorem dX5_lostBy_38 : decode cX5_lostBy 38 = .ok (.iconst (-1), 1) := by decide +kernel
theorem dX5_lostBy_39 : decode cX5_lostBy 39 = .ok (.istore 4, 2) := by decide +kernel
theorem dX5_lostBy_41 : decode cX5_lostBy 41 = .ok (.aload_n 0, 1) := by decide +kernel
theorem dX5_lostBy_42 : decode cX5_lostBy 42 = .ok (.invokevirtual 223, 3) := by decide +kernel
theorem dX5_lostBy_45 : decode cX5_lostBy 45 = .ok (.iconst 1, 1) := by decide +kernel
theorem dX5_lostBy_46 : decode cX5_lostBy 46 = .ok (.istore 5, 2) := by decide +kernel
theorem dX5_lostBy_48 : decode cX5_lostBy 48 = .ok (.iload 5, 2) := by decide +kernel
theorem dX5_lostBy_50 : decode cX5_lostBy 50 = .ok (.bipush 40, 2) := by decide +kernel
theorem dX5_lostBy_52 : decode cX5_lostBy 52 = .ok (.if_icmp .gt 58, 3) := by decide +kernel
theorem dX5_lostBy_55 : decode cX5_lostBy 55 = .ok (.iload_n 3, 1) := by decide +kernel
theorem dX5_lostBy_56 : decode cX5_lostBy 56 = .ok (.iconst (-1), 1) := by decide +kernel
theorem dX5_lostBy_57 : decode cX5_lostBy 57 = .ok (.if_icmp .ne 53, 3) := by decide +kernel
theorem dX5_lostBy_60 : decode cX5_lostBy 60 = .ok (.aload_n 0, 1) := by decide +kernel
theorem dX5_lostBy_61 : decode cX5_lostBy 61 = .ok (.invokevirtual 217, 3) := by decide +kernel
theorem dX5_lostBy_64 : decode cX5_lostBy 64 = .ok (.pop, 1) := by decide +kernel
theorem dX5_lostBy_65 : decode cX5_lostBy 65 = .ok (.aload_n 0, 1) := by decide +kernel
theorem dX5_lostBy_66 : decode cX5_lostBy 66 = .ok (.getfield 22, 3) := by decide +kernel
theorem dX5_lostBy_69 : decode cX5_lostBy 69 = .ok (.iload_n 1, 1) := by decide +kernel
theorem dX5_lostBy_70 : decode cX5_lostBy 70 = .ok (.iaload, 1) := by decide +kernel
theorem dX5_lostBy_71 : decode cX5_lostBy 71 = .ok (.iconst 1, 1) := by decide +kernel
theorem dX5_lostBy_72 : decode cX5_lostBy 72 = .ok (.if_icmp .ne 8, 3) := by decide +kernel
theorem dX5_lostBy_75 : decode cX5_lostBy 75 = .ok (.iload 5, 2) := by decide +kernel
theorem dX5_lostBy_77 : decode cX5_lostBy 77 = .ok (.goto 4, 3) := by decide +kernel
theorem dX5_lostBy_80 : decode cX5_lostBy 80 = .ok (.iconst (-1), 1) := by decide +kernel
theorem dX5_lostBy_81 : decode cX5_lostBy 81 = .ok (.istore_n 3, 1) := by decide +kernel
theorem dX5_lostBy_82 : decode cX5_lostBy 82 = .ok (.aload_n 0, 1) := by decide +kernel
theorem dX5_lostBy_83 : decode cX5_lostBy 83 = .ok (.getfield 22, 3) := by decide +kernel
theorem dX5_lostBy_86 : decode cX5_lostBy 86 = .ok (.iload_n 1, 1) := by decide +kernel
theorem dX5_lostBy_87 : decode cX5_lostBy 87 = .ok (.iaload, 1) := by decide +kernel
theorem dX5_lostBy_88 : decode cX5_lostBy 88 = .ok (.iconst 1, 1) := by decide +kernel
theorem dX5_lostBy_89 : decode cX5_lostBy 89 = .ok (.if_icmp .ne 12, 3) := by decide +kernel
theorem dX5_lostBy_92 : decode cX5_lostBy 92 = .ok (.aload_n 0, 1) := by decide +kernel
theorem dX5_lostBy_93 : decode cX5_lostBy 93 = .ok (.getfield 16, 3) := by decide +kernel
theorem dX5_lostBy_96 : decode cX5_lostBy 96 = .ok (.iload_n 1, 1) := by decide +kernel
theorem dX5_lostBy_97 : decode cX5_lostBy 97 = .ok (.iaload, 1) := by decide +kernel
theorem dX5_lostBy_98 : decode cX5_lostBy 98 = .ok (.goto 4, 3) := by decide +kernel
theorem dX5_lostBy_101 : decode cX5_lostBy 101 = .ok (.iconst (-1), 1) := by decide +kernel
theorem dX5_lostBy_102 : decode cX5_lostBy 102 = .ok (.istore 4, 2) := by decide +kernel
theorem dX5_lostBy_104 : decode cX5_lostBy 104 = .ok (.iinc 5 1, 3) := by decide +kernel
theorem dX5_lostBy_107 : decode cX5_lostBy 107 = .ok (.goto (-59), 3) := by decide +kernel
theorem dX5_lostBy_110 : decode cX5_lostBy 110 = .ok (.aload_n 0, 1) := by decide +kernel
theorem dX5_lostBy_111 : decode cX5_lostBy 111 = .ok (.invokevirtual 232, 3) := by decide +kernel
theorem dX5_lostBy_114 : decode cX5_lostBy 114 = .ok (.iload_n 2, 1) := by decide +kernel
theorem dX5_lostBy_115 : decode cX5_lostBy 115 = .ok (.ifCond .ne 7, 3) := by decide +kernel
theorem dX5_lostBy_118 : decode cX5_lostBy 118 = .ok (.iload_n 3, 1) := by decide +kernel
theorem dX5_lostBy_119 : decode cX5_lostBy 119 = .ok (.goto 5, 3) := by decide +kernel
theorem dX5_lostBy_122 : decode cX5_lostBy 122 = .ok (.iload 4, 2) := by decide +kernel
theorem dX5_lostBy_124 : decode cX5_lostBy 124 = .ok (.ireturn, 1) := by decide +kernel
def b_X5_lostBy_110 (x2 : Int32) (x3 : Int32) (x4 : Int32) (σ : GM) : Option (Int32 × GM) :=
  bnd (f_X5_lays σ) fun q4 => if x2 ≠ 0 then (some (x4, q4.2)) else (some (x3, q4.2))
theorem vb_X5_lostBy_110 {g : Gt} {ad : Nat → Nat} (z : Zt) (x2 : Int32) (x3 : Int32) (x4 : Int32) (σ : GM) : V g (LM ad) 8 RX5 cX5_lostBy 6 (some .int) (wM g ad) iI z (b_X5_lostBy_110 x2 x3 x4 σ) σ 110 [(0, .ref (aMo ad)), (2, .int x2), (3, .int x3), (4, .int x4)] [] := by
  unfold b_X5_lostBy_110
  refine v_aload_n (pc := 110) (i := 0) dX5_lostBy_110 rfl rfl ?_
  refine v_callVv (pc := 111) rcX5 (As := []) (rest := []) (ct_X5_lays) mi_X5_lays q_1011 (by decide) rfl rfl (Nat.le_of_ble_eq_true rfl) dX5_lostBy_111 (fun q4 => ?_)
  refine v_iload_n (pc := 114) (i := 2) dX5_lostBy_114 rfl rfl ?_
  refine v_if_ne (pc := 115) (tgt := 122) dX5_lostBy_115 rfl ?_ ?_
  · refine v_iload (pc := 122) (i := 4) dX5_lostBy_122 rfl ?_
    exact v_iret (pc := 124) dX5_lostBy_124
  · refine v_iload_n (pc := 118) (i := 3) dX5_lostBy_118 rfl rfl ?_
    refine v_goto (pc := 119) (tgt := 124) dX5_lostBy_119 rfl ?_
    exact v_iret (pc := 124) dX5_lostBy_124
def b_X5_lostBy_81 (kc48 : Int32 → Int32 → Int32 → Int32 → Int32 → GM → Option (Int32 × GM)) (x1 : Int32) (x2 : Int32) (x5 : Int32) (xs0 : Int32) (σ : GM) : Option (Int32 × GM) :=
  grd x1 6 (if (mA σ 4 x1.toNatClampNeg) ≠ (1 : Int32) then (kc48 x1 x2 xs0 (-1 : Int32) (x5 + (1 : Int32)) σ) else (grd x1 6 (bnd (some (mA σ 2 x1.toNatClampNeg)) fun w6 => kc48 x1 x2 xs0 w6 (x5 + (1 : Int32)) σ)))
theorem vb_X5_lostBy_81 {g : Gt} {ad : Nat → Nat} (z : Zt) (kc48 : Int32 → Int32 → Int32 → Int32 → Int32 → GM → Option (Int32 × GM)) (hkc48 : ∀ (x1 : Int32) (x2 : Int32) (x3 : Int32) (x4 : Int32) (x5 : Int32) (σ : GM), V g (LM ad) 8 RX5 cX5_lostBy 6 (some .int) (wM g ad) iI z (kc48 x1 x2 x3 x4 x5 σ) σ 48 [(0, .ref (aMo ad)), (1, .int x1), (2, .int x2), (3, .int x3), (4, .int x4), (5, .int x5)] []) (x1 : Int32) (x2 : Int32) (x5 : Int32) (xs0 : Int32) (σ : GM) : V g (LM ad) 8 RX5 cX5_lostBy 6 (some .int) (wM g ad) iI z (b_X5_lostBy_81 kc48 x1 x2 x5 xs0 σ) σ 81 [(0, .ref (aMo ad)), (1, .int x1), (2, .int x2), (5, .int x5)] [.int xs0] := by
  unfold b_X5_lostBy_81
  refine v_istore_n (pc := 81) (lv' := [(3, .int xs0), (0, .ref (aMo ad)), (1, .int x1), (2, .int x2), (5, .int x5)]) (i := 3) dX5_lostBy_81 rfl (by decide) rfl ?_
  refine v_aload_n (pc := 82) (i := 0) dX5_lostBy_82 rfl rfl ?_
  refine gX5_lost (pc := 83) q_759 dX5_lostBy_83 ?_
  refine v_iload_n (pc := 86) (i := 1) dX5_lostBy_86 rfl rfl ?_
  refine lM_lost (pc := 87) dX5_lostBy_87 ?_
  refine v_iconst (pc := 88) dX5_lostBy_88 ic_1 ?_
  refine v_icmp_ne (pc := 89) (tgt := 101) dX5_lostBy_89 rfl ?_ ?_
  · refine v_iconst (pc := 101) dX5_lostBy_101 ic_m1 ?_
    refine v_istore (pc := 102) (lv' := [(4, .int (-1 : Int32)), (3, .int xs0), (0, .ref (aMo ad)), (1, .int x1), (2, .int x2), (5, .int x5)]) (i := 4) dX5_lostBy_102 (by decide) rfl ?_
    refine v_iinc (pc := 104) (lv' := [(5, .int (x5 + (1 : Int32))), (4, .int (-1 : Int32)), (3, .int xs0), (0, .ref (aMo ad)), (1, .int x1), (2, .int x2)]) (i := 5) dX5_lostBy_104 rfl ic_1 (by decide) rfl ?_
    refine v_goto (pc := 107) (tgt := 48) dX5_lostBy_107 rfl ?_
    exact v_sub [3, 4, 5, 2, 1, 0] rfl (hkc48 x1 x2 xs0 (-1 : Int32) (x5 + (1 : Int32)) σ)
  · refine v_aload_n (pc := 92) (i := 0) dX5_lostBy_92 rfl rfl ?_
    refine gX5_onOf (pc := 93) q_757 dX5_lostBy_93 ?_
    refine v_iload_n (pc := 96) (i := 1) dX5_lostBy_96 rfl rfl ?_
    refine lM_onOf (pc := 97) dX5_lostBy_97 ?_
    refine v_goto (pc := 98) (tgt := 102) dX5_lostBy_98 rfl ?_
    refine v_nmi (fun w6 => ?_)
    refine v_istore (pc := 102) (lv' := [(4, .int w6), (3, .int xs0), (0, .ref (aMo ad)), (1, .int x1), (2, .int x2), (5, .int x5)]) (i := 4) dX5_lostBy_102 (by decide) rfl ?_
    refine v_iinc (pc := 104) (lv' := [(5, .int (x5 + (1 : Int32))), (4, .int w6), (3, .int xs0), (0, .ref (aMo ad)), (1, .int x1), (2, .int x2)]) (i := 5) dX5_lostBy_104 rfl ic_1 (by decide) rfl ?_
    refine v_goto (pc := 107) (tgt := 48) dX5_lostBy_107 rfl ?_
    exact v_sub [3, 4, 5, 2, 1, 0] rfl (hkc48 x1 x2 xs0 w6 (x5 + (1 : Int32)) σ)
def b_X5_lostBy_48 (kc48 : Int32 → Int32 → Int32 → Int32 → Int32 → GM → Option (Int32 × GM)) (x1 : Int32) (x2 : Int32) (x3 : Int32) (x4 : Int32) (x5 : Int32) (σ : GM) : Option (Int32 × GM) :=
  if (40 : Int32) < x5 then (b_X5_lostBy_110 x2 x3 x4 σ) else (if x3 ≠ (-1 : Int32) then (b_X5_lostBy_110 x2 x3 x4 σ) else (bnd (f_X5_nightOf σ) fun q5 => grd x1 6 (if (mA q5.2 4 x1.toNatClampNeg) ≠ (1 : Int32) then (b_X5_lostBy_81 kc48 x1 x2 x5 (-1 : Int32) q5.2) else (b_X5_lostBy_81 kc48 x1 x2 x5 x5 q5.2))))
theorem vb_X5_lostBy_48 {g : Gt} {ad : Nat → Nat} (z : Zt) (kc48 : Int32 → Int32 → Int32 → Int32 → Int32 → GM → Option (Int32 × GM)) (hkc48 : ∀ (x1 : Int32) (x2 : Int32) (x3 : Int32) (x4 : Int32) (x5 : Int32) (σ : GM), V g (LM ad) 8 RX5 cX5_lostBy 6 (some .int) (wM g ad) iI z (kc48 x1 x2 x3 x4 x5 σ) σ 48 [(0, .ref (aMo ad)), (1, .int x1), (2, .int x2), (3, .int x3), (4, .int x4), (5, .int x5)] []) (x1 : Int32) (x2 : Int32) (x3 : Int32) (x4 : Int32) (x5 : Int32) (σ : GM) : V g (LM ad) 8 RX5 cX5_lostBy 6 (some .int) (wM g ad) iI z (b_X5_lostBy_48 kc48 x1 x2 x3 x4 x5 σ) σ 48 [(0, .ref (aMo ad)), (1, .int x1), (2, .int x2), (3, .int x3), (4, .int x4), (5, .int x5)] [] := by
  unfold b_X5_lostBy_48
  refine v_iload (pc := 48) (i := 5) dX5_lostBy_48 rfl ?_
  refine v_bipush (pc := 50) dX5_lostBy_50 bp_40 ?_
  refine v_icmp_gt (pc := 52) (tgt := 110) dX5_lostBy_52 rfl ?_ ?_
  · exact v_sub [0, 2, 3, 4] rfl (vb_X5_lostBy_110 z x2 x3 x4 σ)
  · refine v_iload_n (pc := 55) (i := 3) dX5_lostBy_55 rfl rfl ?_
    refine v_iconst (pc := 56) dX5_lostBy_56 ic_m1 ?_
    refine v_icmp_ne (pc := 57) (tgt := 110) dX5_lostBy_57 rfl ?_ ?_
    · exact v_sub [0, 2, 3, 4] rfl (vb_X5_lostBy_110 z x2 x3 x4 σ)
    · refine v_aload_n (pc := 60) (i := 0) dX5_lostBy_60 rfl rfl ?_
      refine v_callVi (pc := 61) rcX5 (As := []) (rest := []) (ct_X5_nightOf) mi_X5_nightOf q_979 (by decide) rfl rfl (Nat.le_of_ble_eq_true rfl) dX5_lostBy_61 (fun q5 => ?_)
      refine v_pop (pc := 64) dX5_lostBy_64 rfl ?_
      refine v_aload_n (pc := 65) (i := 0) dX5_lostBy_65 rfl rfl ?_
      refine gX5_lost (pc := 66) q_759 dX5_lostBy_66 ?_
      refine v_iload_n (pc := 69) (i := 1) dX5_lostBy_69 rfl rfl ?_
      refine lM_lost (pc := 70) dX5_lostBy_70 ?_
      refine v_iconst (pc := 71) dX5_lostBy_71 ic_1 ?_
      refine v_icmp_ne (pc := 72) (tgt := 80) dX5_lostBy_72 rfl ?_ ?_
      · refine v_iconst (pc := 80) dX5_lostBy_80 ic_m1 ?_
        exact v_sub [0, 1, 2, 5] rfl (vb_X5_lostBy_81 z kc48 hkc48 x1 x2 x5 (-1 : Int32) q5.2)
      · refine v_iload (pc := 75) (i := 5) dX5_lostBy_75 rfl ?_
        refine v_goto (pc := 77) (tgt := 81) dX5_lostBy_77 rfl ?_
        exact v_sub [0, 1, 2, 5] rfl (vb_X5_lostBy_81 z kc48 hkc48 x1 x2 x5 x5 q5.2)
def k_X5_lostBy_48 : Nat → Int32 → Int32 → Int32 → Int32 → Int32 → GM → Option (Int32 × GM)
  | 0 => fun _ _ _ _ _ _ => none
  | n + 1 => b_X5_lostBy_48 (k_X5_lostBy_48 n)
theorem vk_X5_lostBy_48 {g : Gt} {ad : Nat → Nat} (z : Zt) : ∀ (n : Nat) (x1 : Int32) (x2 : Int32) (x3 : Int32) (x4 : Int32) (x5 : Int32) (σ : GM), V g (LM ad) 8 RX5 cX5_lostBy 6 (some .int) (wM g ad) iI z (k_X5_lostBy_48 n x1 x2 x3 x4 x5 σ) σ 48 [(0, .ref (aMo ad)), (1, .int x1), (2, .int x2), (3, .int x3), (4, .int x4), (5, .int x5)] [] := by
  intro n
  induction n with
  | zero => intros; exact v_eq rfl v_none
  | succ n ih =>
    intro x1 x2 x3 x4 x5 σ
    exact v_eq rfl (vb_X5_lostBy_48 z _ ih x1 x2 x3 x4 x5 σ)
def f_X5_lostBy (x1 : Int32) (x2 : Int32) (σ : GM) : Option (Int32 × GM) :=
  bnd (f_X5_isShip x1 σ) fun q1 => if q1.1 ≠ 0 then (bnd (f_X5_in x2 (0 : Int32) (1 : Int32) q1.2) fun q2 => if q2.1 ≠ 0 then (grd x1 6 (if (mA q2.2 4 x1.toNatClampNeg) ≠ (1 : Int32) then (bnd (f_X5_keeps q2.2) fun q3 => k_X5_lostBy_48 FU x1 x2 (-1 : Int32) (-1 : Int32) (1 : Int32) q3.2) else (some ((-3 : Int32), q2.2)))) else (some ((-7 : Int32), q2.2))) else (some ((-5 : Int32), q1.2))
theorem vf_X5_lostBy {g : Gt} {ad : Nat → Nat} (z : Zt) (x1 : Int32) (x2 : Int32) (σ : GM) : V g (LM ad) 8 RX5 cX5_lostBy 6 (some .int) (wM g ad) iI z (f_X5_lostBy x1 x2 σ) σ 0 [(0, .ref (aMo ad)), (1, .int x1), (2, .int x2)] [] := by
  unfold f_X5_lostBy
  refine v_aload_n (pc := 0) (i := 0) dX5_lostBy_0 rfl rfl ?_
  refine v_iload_n (pc := 1) (i := 1) dX5_lostBy_1 rfl rfl ?_
  refine v_callVi (pc := 2) rcX5 (As := [.int x1]) (rest := []) (ct_X5_isShip x1) mi_X5_isShip q_928 (by decide) rfl rfl (Nat.le_of_ble_eq_true rfl) dX5_lostBy_2 (fun q1 => ?_)
  refine v_if_ne (pc := 5) (tgt := 11) dX5_lostBy_5 rfl ?_ ?_
  · refine v_iload_n (pc := 11) (i := 2) dX5_lostBy_11 rfl rfl ?_
    refine v_iconst (pc := 12) dX5_lostBy_12 ic_0 ?_
    refine v_iconst (pc := 13) dX5_lostBy_13 ic_1 ?_
    refine v_callSi (pc := 14) (av := [.int x2, .int (0 : Int32), .int (1 : Int32)]) (rest := []) (ct_X5_in x2 (0 : Int32) (1 : Int32)) mi_X5_in q_715 (by decide) rfl rfl (Nat.le_of_ble_eq_true rfl) dX5_lostBy_14 (fun q2 => ?_)
    refine v_if_ne (pc := 17) (tgt := 23) dX5_lostBy_17 rfl ?_ ?_
    · refine v_aload_n (pc := 23) (i := 0) dX5_lostBy_23 rfl rfl ?_
      refine gX5_lost (pc := 24) q_759 dX5_lostBy_24 ?_
      refine v_iload_n (pc := 27) (i := 1) dX5_lostBy_27 rfl rfl ?_
      refine lM_lost (pc := 28) dX5_lostBy_28 ?_
      refine v_iconst (pc := 29) dX5_lostBy_29 ic_1 ?_
      refine v_icmp_ne (pc := 30) (tgt := 36) dX5_lostBy_30 rfl ?_ ?_
      · refine v_iconst (pc := 36) dX5_lostBy_36 ic_m1 ?_
        refine v_istore_n (pc := 37) (lv' := [(3, .int (-1 : Int32)), (0, .ref (aMo ad)), (1, .int x1), (2, .int x2)]) (i := 3) dX5_lostBy_37 rfl (by decide) rfl ?_
        refine v_iconst (pc := 38) dX5_lostBy_38 ic_m1 ?_
        refine v_istore (pc := 39) (lv' := [(4, .int (-1 : Int32)), (3, .int (-1 : Int32)), (0, .ref (aMo ad)), (1, .int x1), (2, .int x2)]) (i := 4) dX5_lostBy_39 (by decide) rfl ?_
        refine v_aload_n (pc := 41) (i := 0) dX5_lostBy_41 rfl rfl ?_
        refine v_callVv (pc := 42) rcX5 (As := []) (rest := []) (ct_X5_keeps) mi_X5_keeps q_995 (by decide) rfl rfl (Nat.le_of_ble_eq_true rfl) dX5_lostBy_42 (fun q3 => ?_)
        refine v_iconst (pc := 45) dX5_lostBy_45 ic_1 ?_
        refine v_istore (pc := 46) (lv' := [(5, .int (1 : Int32)), (4, .int (-1 : Int32)), (3, .int (-1 : Int32)), (0, .ref (aMo ad)), (1, .int x1), (2, .int x2)]) (i := 5) dX5_lostBy_46 (by decide) rfl ?_
        exact v_sub [3, 4, 5, 2, 1, 0] rfl (vk_X5_lostBy_48 z FU x1 x2 (-1 : Int32) (-1 : Int32) (1 : Int32) q3.2)
      · refine v_bipush (pc := 33) dX5_lostBy_33 bp_m3 ?_
        exact v_iret (pc := 35) dX5_lostBy_35
    · refine v_bipush (pc := 20) dX5_lostBy_20 bp_m7 ?_
      exact v_iret (pc := 22) dX5_lostBy_22
  · refine v_bipush (pc := 8) dX5_lostBy_8 bp_m5 ?_
    exact v_iret (pc := 10) dX5_lostBy_10
theorem ct_X5_lostBy {g : Gt} {ad : Nat → Nat} (x1 : Int32) (x2 : Int32) : CT g (LM ad) yX5_lostBy cX5_lostBy 6 (some .int) 8 [.ref (aMo ad), .int x1, .int x2] iI (wM g ad) (f_X5_lostBy x1 x2) :=
  ct_of_V (own := RX5) (lv0 := [(0, .ref (aMo ad)), (1, .int x1), (2, .int x2)]) (by decide +kernel) rfl (Nat.le_of_ble_eq_true rfl) rfl (fun z σ => vf_X5_lostBy z x1 x2 σ)
-- LighthouseLiedToModel.track
theorem dX5_track_0 : decode cX5_track 0 = .ok (.aload_n 0, 1) := by decide +kernel
theorem dX5_track_1 : decode cX5_track 1 = .ok (.iload_n 1, 1) := by decide +kernel
theorem dX5_track_2 : decode cX5_track 2 = .ok (.invokevirtual 192, 3) := by decide +kernel
theorem dX5_track_5 : decode cX5_track 5 = .ok (.ifCond .eq 13, 3) := by decide +kernel
theorem dX5_track_8 : decode cX5_track 8 = .ok (.iload_n 2, 1) := by decide +kernel
theorem dX5_track_9 : decode cX5_track 9 = .ok (.iconst 0, 1) := by decide +kernel
theorem dX5_track_10 : decode cX5_track 10 = .ok (.bipush 40, 2) := by decide +kernel
theorem dX5_track_12 : decode cX5_track 12 = .ok (.invokestatic 78, 3) := by decide +kernel
theorem dX5_track_15 : decode cX5_track 15 = .ok (.ifCond .ne 7, 3) := by decide +kernel
theorem dX5_track_18 : decode cX5_track 18 = .ok (.ldc2_w 235, 3) := by decide +kernel
theorem dX5_track_21 : decode cX5_track 21 = .ok (.lreturn, 1) := by decide +kernel
theorem dX5_track_22 : decode cX5_track 22 = .ok (.lconst 1, 1) := by decide +kernel
theorem dX5_track_23 : decode cX5_track 23 = .ok (.aload_n 0, 1) := by decide +kernel
theorem dX5_track_24 : decode cX5_track 24 = .ok (.getfield 16, 3) := by decide +kernel
theorem dX5_track_27 : decode cX5_track 27 = .ok (.iload_n 1, 1) := by decide +kernel
theorem dX5_track_28 : decode cX5_track 28 = .ok (.iaload, 1) := by decide +kernel
theorem dX5_track_29 : decode cX5_track 29 = .ok (.lshl, 1) := by decide +kernel
theorem dX5_track_30 : decode cX5_track 30 = .ok (.lstore_n 3, 1) := by decide +kernel
theorem dX5_track_31 : decode cX5_track 31 = .ok (.aload_n 0, 1) := by decide +kernel
theorem dX5_track_32 : decode cX5_track 32 = .ok (.invokevirtual 223, 3) := by decide +kernel
theorem dX5_track_35 : decode cX5_track 35 = .ok (.iconst 0, 1) := by decide +kernel
theorem dX5_track_36 : decode cX5_track 36 = .ok (.istore 5, 2) := by decide +kernel
theorem dX5_track_38 : decode cX5_track 38 = .ok (.iload 5, 2) := by decide +kernel
theorem dX5_track_40 : decode cX5_track 40 = .ok (.iload_n 2, 1) := by decide +kernel
theorem dX5_track_41 : decode cX5_track 41 = .ok (.if_icmp .ge 25, 3) := by decide +kernel
theorem dX5_track_44 : decode cX5_track 44 = .ok (.aload_n 0, 1) := by decide +kernel
theorem dX5_track_45 : decode cX5_track 45 = .ok (.invokevirtual 217, 3) := by decide +kernel
theorem dX5_track_48 : decode cX5_track 48 = .ok (.pop, 1) := by decide +kernel
theorem dX5_track_49 : decode cX5_track 49 = .ok (.lload_n 3, 1) := by decide +kernel
theorem dX5_track_50 : decode cX5_track 50 = .ok (.lconst 1, 1) := by decide +kernel
theorem dX5_track_51 : decode cX5_track 51 = .ok (.aload_n 0, 1) := by decide +kernel
theorem dX5_track_52 : decode cX5_track 52 = .ok (.getfield 16, 3) := by decide +kernel
theorem dX5_track_55 : decode cX5_track 55 = .ok (.iload_n 1, 1) := by decide +kernel
theorem dX5_track_56 : decode cX5_track 56 = .ok (.iaload, 1) := by decide +kernel
theorem dX5_track_57 : decode cX5_track 57 = .ok (.lshl, 1) := by decide +kernel
theorem dX5_track_58 : decode cX5_track 58 = .ok (.lor, 1) := by decide +kernel
theorem dX5_track_59 : decode cX5_track 59 = .ok (.lstore_n 3, 1) := by decide +kernel
theorem dX5_track_60 : decode cX5_track 60 = .ok (.iinc 5 1, 3) := by decide +kernel
theorem dX5_track_63 : decode cX5_track 63 = .ok (.goto (-25), 3) := by decide +kernel
theorem dX5_track_66 : decode cX5_track 66 = .ok (.aload_n 0, 1) := by decide +kernel
theorem dX5_track_67 : decode cX5_track 67 = .ok (.invokevirtual 232, 3) := by decide +kernel
theorem dX5_track_70 : decode cX5_track 70 = .ok (.lload_n 3, 1) := by decide +kernel
theorem dX5_track_71 : decode cX5_track 71 = .ok (.lreturn, 1) := by decide +kernel
def b_X5_track_38 (kc38 : Int32 → Int32 → Int64 → Int32 → GM → Option (Int64 × GM)) (x1 : Int32) (x2 : Int32) (x3 : Int64) (x5 : Int32) (σ : GM) : Option (Int64 × GM) :=
  if x2 ≤ x5 then (bnd (f_X5_lays σ) fun q5 => some (x3, q5.2)) else (bnd (f_X5_nightOf σ) fun q6 => grd x1 6 (bnd (some (x3 ||| (slL (1 : Int64) (mA q6.2 2 x1.toNatClampNeg)))) fun w7 => kc38 x1 x2 w7 (x5 + (1 : Int32)) q6.2))
theorem vb_X5_track_38 {g : Gt} {ad : Nat → Nat} (z : Zt) (kc38 : Int32 → Int32 → Int64 → Int32 → GM → Option (Int64 × GM)) (hkc38 : ∀ (x1 : Int32) (x2 : Int32) (x3 : Int64) (x5 : Int32) (σ : GM), V g (LM ad) 8 RX5 cX5_track 6 (some .long) (wM g ad) iL z (kc38 x1 x2 x3 x5 σ) σ 38 [(0, .ref (aMo ad)), (1, .int x1), (2, .int x2), (3, .long x3), (5, .int x5)] []) (x1 : Int32) (x2 : Int32) (x3 : Int64) (x5 : Int32) (σ : GM) : V g (LM ad) 8 RX5 cX5_track 6 (some .long) (wM g ad) iL z (b_X5_track_38 kc38 x1 x2 x3 x5 σ) σ 38 [(0, .ref (aMo ad)), (1, .int x1), (2, .int x2), (3, .long x3), (5, .int x5)] [] := by
  unfold b_X5_track_38
  refine v_iload (pc := 38) (i := 5) dX5_track_38 rfl ?_
  refine v_iload_n (pc := 40) (i := 2) dX5_track_40 rfl rfl ?_
  refine v_icmp_ge (pc := 41) (tgt := 66) dX5_track_41 rfl ?_ ?_
  · refine v_aload_n (pc := 66) (i := 0) dX5_track_66 rfl rfl ?_
    refine v_callVv (pc := 67) rcX5 (As := []) (rest := []) (ct_X5_lays) mi_X5_lays q_1011 (by decide) rfl rfl (Nat.le_of_ble_eq_true rfl) dX5_track_67 (fun q5 => ?_)
    refine v_lload_n (pc := 70) (i := 3) dX5_track_70 rfl rfl ?_
    exact v_lret (pc := 71) dX5_track_71
  · refine v_aload_n (pc := 44) (i := 0) dX5_track_44 rfl rfl ?_
    refine v_callVi (pc := 45) rcX5 (As := []) (rest := []) (ct_X5_nightOf) mi_X5_nightOf q_979 (by decide) rfl rfl (Nat.le_of_ble_eq_true rfl) dX5_track_45 (fun q6 => ?_)
    refine v_pop (pc := 48) dX5_track_48 rfl ?_
    refine v_lload_n (pc := 49) (i := 3) dX5_track_49 rfl rfl ?_
    refine v_lconst (pc := 50) dX5_track_50 lc_1 ?_
    refine v_aload_n (pc := 51) (i := 0) dX5_track_51 rfl rfl ?_
    refine gX5_onOf (pc := 52) q_757 dX5_track_52 ?_
    refine v_iload_n (pc := 55) (i := 1) dX5_track_55 rfl rfl ?_
    refine lM_onOf (pc := 56) dX5_track_56 ?_
    refine v_lshl (pc := 57) dX5_track_57 ?_
    refine v_lor (pc := 58) dX5_track_58 ?_
    refine v_nml (fun w7 => ?_)
    refine v_lstore_n (pc := 59) (lv' := [(3, .long w7), (0, .ref (aMo ad)), (1, .int x1), (2, .int x2), (5, .int x5)]) (i := 3) dX5_track_59 rfl (by decide) rfl ?_
    refine v_iinc (pc := 60) (lv' := [(5, .int (x5 + (1 : Int32))), (3, .long w7), (0, .ref (aMo ad)), (1, .int x1), (2, .int x2)]) (i := 5) dX5_track_60 rfl ic_1 (by decide) rfl ?_
    refine v_goto (pc := 63) (tgt := 38) dX5_track_63 rfl ?_
    exact v_sub [2, 3, 4, 1, 0] rfl (hkc38 x1 x2 w7 (x5 + (1 : Int32)) q6.2)
def k_X5_track_38 : Nat → Int32 → Int32 → Int64 → Int32 → GM → Option (Int64 × GM)
  | 0 => fun _ _ _ _ _ => none
  | n + 1 => b_X5_track_38 (k_X5_track_38 n)
theorem vk_X5_track_38 {g : Gt} {ad : Nat → Nat} (z : Zt) : ∀ (n : Nat) (x1 : Int32) (x2 : Int32) (x3 : Int64) (x5 : Int32) (σ : GM), V g (LM ad) 8 RX5 cX5_track 6 (some .long) (wM g ad) iL z (k_X5_track_38 n x1 x2 x3 x5 σ) σ 38 [(0, .ref (aMo ad)), (1, .int x1), (2, .int x2), (3, .long x3), (5, .int x5)] [] := by
  intro n
  induction n with
  | zero => intros; exact v_eq rfl v_none
  | succ n ih =>
    intro x1 x2 x3 x5 σ
    exact v_eq rfl (vb_X5_track_38 z _ ih x1 x2 x3 x5 σ)
def f_X5_track (x1 : Int32) (x2 : Int32) (σ : GM) : Option (Int64 × GM) :=
  bnd (f_X5_isShip x1 σ) fun q1 => if q1.1 = 0 then (some ((-4611686018427387904 : Int64), q1.2)) else (bnd (f_X5_in x2 (0 : Int32) (40 : Int32) q1.2) fun q2 => if q2.1 ≠ 0 then (grd x1 6 (bnd (some (slL (1 : Int64) (mA q2.2 2 x1.toNatClampNeg))) fun w3 => bnd (f_X5_keeps q2.2) fun q4 => k_X5_track_38 FU x1 x2 w3 (0 : Int32) q4.2)) else (some ((-4611686018427387904 : Int64), q2.2)))
theorem vf_X5_track {g : Gt} {ad : Nat → Nat} (z : Zt) (x1 : Int32) (x2 : Int32) (σ : GM) : V g (LM ad) 8 RX5 cX5_track 6 (some .long) (wM g ad) iL z (f_X5_track x1 x2 σ) σ 0 [(0, .ref (aMo ad)), (1, .int x1), (2, .int x2)] [] := by
  unfold f_X5_track
  refine v_aload_n (pc := 0) (i := 0) dX5_track_0 rfl rfl ?_
  refine v_iload_n (pc := 1) (i := 1) dX5_track_1 rfl rfl ?_
  refine v_callVi (pc := 2) rcX5 (As := [.int x1]) (rest := []) (ct_X5_isShip x1) mi_X5_isShip q_928 (by decide) rfl rfl (Nat.le_of_ble_eq_true rfl) dX5_track_2 (fun q1 => ?_)
  refine v_if_eq (pc := 5) (tgt := 18) dX5_track_5 rfl ?_ ?_
  · refine v_ldc2 (pc := 18) dX5_track_18 q_1023 ?_
    exact v_lret (pc := 21) dX5_track_21
  · refine v_iload_n (pc := 8) (i := 2) dX5_track_8 rfl rfl ?_
    refine v_iconst (pc := 9) dX5_track_9 ic_0 ?_
    refine v_bipush (pc := 10) dX5_track_10 bp_40 ?_
    refine v_callSi (pc := 12) (av := [.int x2, .int (0 : Int32), .int (40 : Int32)]) (rest := []) (ct_X5_in x2 (0 : Int32) (40 : Int32)) mi_X5_in q_715 (by decide) rfl rfl (Nat.le_of_ble_eq_true rfl) dX5_track_12 (fun q2 => ?_)
    refine v_if_ne (pc := 15) (tgt := 22) dX5_track_15 rfl ?_ ?_
    · refine v_lconst (pc := 22) dX5_track_22 lc_1 ?_
      refine v_aload_n (pc := 23) (i := 0) dX5_track_23 rfl rfl ?_
      refine gX5_onOf (pc := 24) q_757 dX5_track_24 ?_
      refine v_iload_n (pc := 27) (i := 1) dX5_track_27 rfl rfl ?_
      refine lM_onOf (pc := 28) dX5_track_28 ?_
      refine v_lshl (pc := 29) dX5_track_29 ?_
      refine v_nml (fun w3 => ?_)
      refine v_lstore_n (pc := 30) (lv' := [(3, .long w3), (0, .ref (aMo ad)), (1, .int x1), (2, .int x2)]) (i := 3) dX5_track_30 rfl (by decide) rfl ?_
      refine v_aload_n (pc := 31) (i := 0) dX5_track_31 rfl rfl ?_
      refine v_callVv (pc := 32) rcX5 (As := []) (rest := []) (ct_X5_keeps) mi_X5_keeps q_995 (by decide) rfl rfl (Nat.le_of_ble_eq_true rfl) dX5_track_32 (fun q4 => ?_)
      refine v_iconst (pc := 35) dX5_track_35 ic_0 ?_
      refine v_istore (pc := 36) (lv' := [(5, .int (0 : Int32)), (3, .long w3), (0, .ref (aMo ad)), (1, .int x1), (2, .int x2)]) (i := 5) dX5_track_36 (by decide) rfl ?_
      exact v_sub [2, 3, 4, 1, 0] rfl (vk_X5_track_38 z FU x1 x2 w3 (0 : Int32) q4.2)
    · refine v_ldc2 (pc := 18) dX5_track_18 q_1023 ?_
      exact v_lret (pc := 21) dX5_track_21
theorem ct_X5_track {g : Gt} {ad : Nat → Nat} (x1 : Int32) (x2 : Int32) : CT g (LM ad) yX5_track cX5_track 6 (some .long) 8 [.ref (aMo ad), .int x1, .int x2] iL (wM g ad) (f_X5_track x1 x2) :=
  ct_of_V (own := RX5) (lv0 := [(0, .ref (aMo ad)), (1, .int x1), (2, .int x2)]) (by decide +kernel) rfl (Nat.le_of_ble_eq_true rfl) rfl (fun z σ => vf_X5_track z x1 x2 σ)
-- LighthouseLiedToModel.brightest
theorem dX5_brightest_0 : decode cX5_brightest 0 = .ok (.lconst 0, 1) := by decide +kernel
theorem dX5_brightest_1 : decode cX5_brightest 1 = .ok (.lstore_n 1, 1) := by decide +kernel
theorem dX5_brightest_2 : decode cX5_brightest 2 = .ok (.bipush (-100), 2) := by decide +kernel
theorem dX5_brightest_4 : decode cX5_brightest 4 = .ok (.istore_n 3, 1) := by decide +kernel
theorem dX5_brightest_5 : decode cX5_brightest 5 = .ok (.iconst 0, 1) := by decide +kernel
theorem dX5_brightest_6 : decode cX5_brightest 6 = .ok (.istore 4, 2) := by decide +kernel
theorem dX5_brightest_8 : decode cX5_brightest 8 = .ok (.iload 4, 2) := by decide +kernel
theorem dX5_brightest_10 : decode cX5_brightest 10 = .ok (.bipush 36, 2) := by decide +kernel
theorem dX5_brightest_12 : decode cX5_brightest 12 = .ok (.if_icmp .ge 62, 3) := by decide +kernel
theorem dX5_brightest_15 : decode cX5_brightest 15 = .ok (.aload_n 0, 1) := by decide +kernel
theorem dX5_brightest_16 : decode cX5_brightest 16 = .ok (.iconst 0, 1) := by decide +kernel
theorem dX5_brightest_17 : decode cX5_brightest 17 = .ok (.iload 4, 2) := by decide +kernel
theorem dX5_brightest_19 : decode cX5_brightest 19 = .ok (.iconst (-1), 1) := by decide +kernel
theorem dX5_brightest_20 : decode cX5_brightest 20 = .ok (.invokevirtual 195, 3) := by decide +kernel
theorem dX5_brightest_23 : decode cX5_brightest 23 = .ok (.istore 5, 2) := by decide +kernel
theorem dX5_brightest_25 : decode cX5_brightest 25 = .ok (.iload 5, 2) := by decide +kernel
theorem dX5_brightest_27 : decode cX5_brightest 27 = .ok (.iload_n 3, 1) := by decide +kernel
theorem dX5_brightest_28 : decode cX5_brightest 28 = .ok (.if_icmp .le 10, 3) := by decide +kernel
theorem dX5_brightest_31 : decode cX5_brightest 31 = .ok (.lconst 1, 1) := by decide +kernel
theorem dX5_brightest_32 : decode cX5_brightest 32 = .ok (.iload 4, 2) := by decide +kernel
theorem dX5_brightest_34 : decode cX5_brightest 34 = .ok (.lshl, 1) := by decide +kernel
theorem dX5_brightest_35 : decode cX5_brightest 35 = .ok (.goto 19, 3) := by decide +kernel
theorem dX5_brightest_38 : decode cX5_brightest 38 = .ok (.iload 5, 2) := by decide +kernel
theorem dX5_brightest_40 : decode cX5_brightest 40 = .ok (.iload_n 3, 1) := by decide +kernel
theorem dX5_brightest_41 : decode cX5_brightest 41 = .ok (.if_icmp .ne 12, 3) := by decide +kernel
theorem dX5_brightest_44 : decode cX5_brightest 44 = .ok (.lload_n 1, 1) := by decide +kernel
theorem dX5_brightest_45 : decode cX5_brightest 45 = .ok (.lconst 1, 1) := by decide +kernel
theorem dX5_brightest_46 : decode cX5_brightest 46 = .ok (.iload 4, 2) := by decide +kernel
theorem dX5_brightest_48 : decode cX5_brightest 48 = .ok (.lshl, 1) := by decide +kernel
theorem dX5_brightest_49 : decode cX5_brightest 49 = .ok (.lor, 1) := by decide +kernel
theorem dX5_brightest_50 : decode cX5_brightest 50 = .ok (.goto 4, 3) := by decide +kernel
theorem dX5_brightest_53 : decode cX5_brightest 53 = .ok (.lload_n 1, 1) := by decide +kernel
theorem dX5_brightest_54 : decode cX5_brightest 54 = .ok (.lstore_n 1, 1) := by decide +kernel
theorem dX5_brightest_55 : decode cX5_brightest 55 = .ok (.iload 5, 2) := by decide +kernel
theorem dX5_brightest_57 : decode cX5_brightest 57 = .ok (.iload_n 3, 1) := by decide +kernel
theorem dX5_brightest_58 : decode cX5_brightest 58 = .ok (.if_icmp .le 8, 3) := by decide +kernel
theorem dX5_brightest_61 : decode cX5_brightest 61 = .ok (.iload 5, 2) := by decide +kernel
theorem dX5_brightest_63 : decode cX5_brightest 63 = .ok (.goto 4, 3) := by decide +kernel
theorem dX5_brightest_66 : decode cX5_brightest 66 = .ok (.iload_n 3, 1) := by decide +kernel
theorem dX5_brightest_67 : decode cX5_brightest 67 = .ok (.istore_n 3, 1) := by decide +kernel
theorem dX5_brightest_68 : decode cX5_brightest 68 = .ok (.iinc 4 1, 3) := by decide +kernel
theorem dX5_brightest_71 : decode cX5_brightest 71 = .ok (.goto (-63), 3) := by decide +kernel
theorem dX5_brightest_74 : decode cX5_brightest 74 = .ok (.lload_n 1, 1) := by decide +kernel
theorem dX5_brightest_75 : decode cX5_brightest 75 = .ok (.lreturn, 1) := by decide +kernel
def b_X5_brightest_54 (kc8 : Int64 → Int32 → Int32 → GM → Option (Int64 × GM)) (x3 : Int32) (x4 : Int32) (x5 : Int32) (xs0 : Int64) (σ : GM) : Option (Int64 × GM) :=
  if x5 ≤ x3 then (kc8 xs0 x3 (x4 + (1 : Int32)) σ) else (kc8 xs0 x5 (x4 + (1 : Int32)) σ)
theorem vb_X5_brightest_54 {g : Gt} {ad : Nat → Nat} (z : Zt) (kc8 : Int64 → Int32 → Int32 → GM → Option (Int64 × GM)) (hkc8 : ∀ (x1 : Int64) (x3 : Int32) (x4 : Int32) (σ : GM), V g (LM ad) 4 RX5 cX5_brightest 6 (some .long) (wM g ad) iL z (kc8 x1 x3 x4 σ) σ 8 [(0, .ref (aMo ad)), (1, .long x1), (3, .int x3), (4, .int x4)] []) (x3 : Int32) (x4 : Int32) (x5 : Int32) (xs0 : Int64) (σ : GM) : V g (LM ad) 4 RX5 cX5_brightest 6 (some .long) (wM g ad) iL z (b_X5_brightest_54 kc8 x3 x4 x5 xs0 σ) σ 54 [(0, .ref (aMo ad)), (3, .int x3), (4, .int x4), (5, .int x5)] [.long xs0] := by
  unfold b_X5_brightest_54
  refine v_lstore_n (pc := 54) (lv' := [(1, .long xs0), (0, .ref (aMo ad)), (3, .int x3), (4, .int x4), (5, .int x5)]) (i := 1) dX5_brightest_54 rfl (by decide) rfl ?_
  refine v_iload (pc := 55) (i := 5) dX5_brightest_55 rfl ?_
  refine v_iload_n (pc := 57) (i := 3) dX5_brightest_57 rfl rfl ?_
  refine v_icmp_le (pc := 58) (tgt := 66) dX5_brightest_58 rfl ?_ ?_
  · refine v_iload_n (pc := 66) (i := 3) dX5_brightest_66 rfl rfl ?_
    refine v_istore_n (pc := 67) (lv' := [(3, .int x3), (1, .long xs0), (0, .ref (aMo ad)), (4, .int x4), (5, .int x5)]) (i := 3) dX5_brightest_67 rfl (by decide) rfl ?_
    refine v_iinc (pc := 68) (lv' := [(4, .int (x4 + (1 : Int32))), (3, .int x3), (1, .long xs0), (0, .ref (aMo ad)), (5, .int x5)]) (i := 4) dX5_brightest_68 rfl ic_1 (by decide) rfl ?_
    refine v_goto (pc := 71) (tgt := 8) dX5_brightest_71 rfl ?_
    exact v_sub [3, 2, 1, 0] rfl (hkc8 xs0 x3 (x4 + (1 : Int32)) σ)
  · refine v_iload (pc := 61) (i := 5) dX5_brightest_61 rfl ?_
    refine v_goto (pc := 63) (tgt := 67) dX5_brightest_63 rfl ?_
    refine v_istore_n (pc := 67) (lv' := [(3, .int x5), (1, .long xs0), (0, .ref (aMo ad)), (4, .int x4), (5, .int x5)]) (i := 3) dX5_brightest_67 rfl (by decide) rfl ?_
    refine v_iinc (pc := 68) (lv' := [(4, .int (x4 + (1 : Int32))), (3, .int x5), (1, .long xs0), (0, .ref (aMo ad)), (5, .int x5)]) (i := 4) dX5_brightest_68 rfl ic_1 (by decide) rfl ?_
    refine v_goto (pc := 71) (tgt := 8) dX5_brightest_71 rfl ?_
    exact v_sub [3, 2, 1, 0] rfl (hkc8 xs0 x5 (x4 + (1 : Int32)) σ)
def b_X5_brightest_8 (kc8 : Int64 → Int32 → Int32 → GM → Option (Int64 × GM)) (x1 : Int64) (x3 : Int32) (x4 : Int32) (σ : GM) : Option (Int64 × GM) :=
  if (36 : Int32) ≤ x4 then (some (x1, σ)) else (bnd (f_X5_asksOf (0 : Int32) x4 (-1 : Int32) σ) fun q1 => if q1.1 ≤ x3 then (if q1.1 ≠ x3 then (b_X5_brightest_54 kc8 x3 x4 q1.1 x1 q1.2) else (b_X5_brightest_54 kc8 x3 x4 q1.1 (x1 ||| (slL (1 : Int64) x4)) q1.2)) else (b_X5_brightest_54 kc8 x3 x4 q1.1 (slL (1 : Int64) x4) q1.2))
theorem vb_X5_brightest_8 {g : Gt} {ad : Nat → Nat} (z : Zt) (kc8 : Int64 → Int32 → Int32 → GM → Option (Int64 × GM)) (hkc8 : ∀ (x1 : Int64) (x3 : Int32) (x4 : Int32) (σ : GM), V g (LM ad) 4 RX5 cX5_brightest 6 (some .long) (wM g ad) iL z (kc8 x1 x3 x4 σ) σ 8 [(0, .ref (aMo ad)), (1, .long x1), (3, .int x3), (4, .int x4)] []) (x1 : Int64) (x3 : Int32) (x4 : Int32) (σ : GM) : V g (LM ad) 4 RX5 cX5_brightest 6 (some .long) (wM g ad) iL z (b_X5_brightest_8 kc8 x1 x3 x4 σ) σ 8 [(0, .ref (aMo ad)), (1, .long x1), (3, .int x3), (4, .int x4)] [] := by
  unfold b_X5_brightest_8
  refine v_iload (pc := 8) (i := 4) dX5_brightest_8 rfl ?_
  refine v_bipush (pc := 10) dX5_brightest_10 bp_36 ?_
  refine v_icmp_ge (pc := 12) (tgt := 74) dX5_brightest_12 rfl ?_ ?_
  · refine v_lload_n (pc := 74) (i := 1) dX5_brightest_74 rfl rfl ?_
    exact v_lret (pc := 75) dX5_brightest_75
  · refine v_aload_n (pc := 15) (i := 0) dX5_brightest_15 rfl rfl ?_
    refine v_iconst (pc := 16) dX5_brightest_16 ic_0 ?_
    refine v_iload (pc := 17) (i := 4) dX5_brightest_17 rfl ?_
    refine v_iconst (pc := 19) dX5_brightest_19 ic_m1 ?_
    refine v_callVi (pc := 20) rcX5 (As := [.int (0 : Int32), .int x4, .int (-1 : Int32)]) (rest := []) (ct_X5_asksOf (0 : Int32) x4 (-1 : Int32)) mi_X5_asksOf q_932 (by decide) rfl rfl (Nat.le_of_ble_eq_true rfl) dX5_brightest_20 (fun q1 => ?_)
    refine v_istore (pc := 23) (lv' := [(5, .int q1.1), (0, .ref (aMo ad)), (1, .long x1), (3, .int x3), (4, .int x4)]) (i := 5) dX5_brightest_23 (by decide) rfl ?_
    refine v_iload (pc := 25) (i := 5) dX5_brightest_25 rfl ?_
    refine v_iload_n (pc := 27) (i := 3) dX5_brightest_27 rfl rfl ?_
    refine v_icmp_le (pc := 28) (tgt := 38) dX5_brightest_28 rfl ?_ ?_
    · refine v_iload (pc := 38) (i := 5) dX5_brightest_38 rfl ?_
      refine v_iload_n (pc := 40) (i := 3) dX5_brightest_40 rfl rfl ?_
      refine v_icmp_ne (pc := 41) (tgt := 53) dX5_brightest_41 rfl ?_ ?_
      · refine v_lload_n (pc := 53) (i := 1) dX5_brightest_53 rfl rfl ?_
        exact v_sub [1, 3, 4, 0] rfl (vb_X5_brightest_54 z kc8 hkc8 x3 x4 q1.1 x1 q1.2)
      · refine v_lload_n (pc := 44) (i := 1) dX5_brightest_44 rfl rfl ?_
        refine v_lconst (pc := 45) dX5_brightest_45 lc_1 ?_
        refine v_iload (pc := 46) (i := 4) dX5_brightest_46 rfl ?_
        refine v_lshl (pc := 48) dX5_brightest_48 ?_
        refine v_lor (pc := 49) dX5_brightest_49 ?_
        refine v_goto (pc := 50) (tgt := 54) dX5_brightest_50 rfl ?_
        exact v_sub [1, 3, 4, 0] rfl (vb_X5_brightest_54 z kc8 hkc8 x3 x4 q1.1 (x1 ||| (slL (1 : Int64) x4)) q1.2)
    · refine v_lconst (pc := 31) dX5_brightest_31 lc_1 ?_
      refine v_iload (pc := 32) (i := 4) dX5_brightest_32 rfl ?_
      refine v_lshl (pc := 34) dX5_brightest_34 ?_
      refine v_goto (pc := 35) (tgt := 54) dX5_brightest_35 rfl ?_
      exact v_sub [1, 3, 4, 0] rfl (vb_X5_brightest_54 z kc8 hkc8 x3 x4 q1.1 (slL (1 : Int64) x4) q1.2)
def k_X5_brightest_8 : Nat → Int64 → Int32 → Int32 → GM → Option (Int64 × GM)
  | 0 => fun _ _ _ _ => none
  | n + 1 => b_X5_brightest_8 (k_X5_brightest_8 n)
theorem vk_X5_brightest_8 {g : Gt} {ad : Nat → Nat} (z : Zt) : ∀ (n : Nat) (x1 : Int64) (x3 : Int32) (x4 : Int32) (σ : GM), V g (LM ad) 4 RX5 cX5_brightest 6 (some .long) (wM g ad) iL z (k_X5_brightest_8 n x1 x3 x4 σ) σ 8 [(0, .ref (aMo ad)), (1, .long x1), (3, .int x3), (4, .int x4)] [] := by
  intro n
  induction n with
  | zero => intros; exact v_eq rfl v_none
  | succ n ih =>
    intro x1 x3 x4 σ
    exact v_eq rfl (vb_X5_brightest_8 z _ ih x1 x3 x4 σ)
def f_X5_brightest (σ : GM) : Option (Int64 × GM) :=
  k_X5_brightest_8 FU (0 : Int64) (-100 : Int32) (0 : Int32) σ
theorem vf_X5_brightest {g : Gt} {ad : Nat → Nat} (z : Zt) (σ : GM) : V g (LM ad) 4 RX5 cX5_brightest 6 (some .long) (wM g ad) iL z (f_X5_brightest σ) σ 0 [(0, .ref (aMo ad))] [] := by
  unfold f_X5_brightest
  refine v_lconst (pc := 0) dX5_brightest_0 lc_0 ?_
  refine v_lstore_n (pc := 1) (lv' := [(1, .long (0 : Int64)), (0, .ref (aMo ad))]) (i := 1) dX5_brightest_1 rfl (by decide) rfl ?_
  refine v_bipush (pc := 2) dX5_brightest_2 bp_m100 ?_
  refine v_istore_n (pc := 4) (lv' := [(3, .int (-100 : Int32)), (1, .long (0 : Int64)), (0, .ref (aMo ad))]) (i := 3) dX5_brightest_4 rfl (by decide) rfl ?_
  refine v_iconst (pc := 5) dX5_brightest_5 ic_0 ?_
  refine v_istore (pc := 6) (lv' := [(4, .int (0 : Int32)), (3, .int (-100 : Int32)), (1, .long (0 : Int64)), (0, .ref (aMo ad))]) (i := 4) dX5_brightest_6 (by decide) rfl ?_
  exact v_sub [3, 2, 1, 0] rfl (vk_X5_brightest_8 z FU (0 : Int64) (-100 : Int32) (0 : Int32) σ)
theorem ct_X5_brightest {g : Gt} {ad : Nat → Nat} : CT g (LM ad) yX5_brightest cX5_brightest 6 (some .long) 4 [.ref (aMo ad)] iL (wM g ad) (f_X5_brightest) :=
  ct_of_V (own := RX5) (lv0 := [(0, .ref (aMo ad))]) (by decide +kernel) rfl (Nat.le_of_ble_eq_true rfl) rfl (fun z σ => vf_X5_brightest z σ)
-- LighthouseLiedToModel.sea
theorem dX5_sea_0 : decode cX5_sea 0 = .ok (.iload_n 1, 1) := by decide +kernel
theorem dX5_sea_1 : decode cX5_sea 1 = .ok (.iconst 0, 1) := by decide +kernel
theorem dX5_sea_2 : decode cX5_sea 2 = .ok (.iconst 3, 1) := by decide +kernel
theorem dX5_sea_3 : decode cX5_sea 3 = .ok (.invokestatic 78, 3) := by decide +kernel
theorem dX5_sea_6 : decode cX5_sea 6 = .ok (.ifCond .ne 7, 3) := by decide +kernel
theorem dX5_sea_9 : decode cX5_sea 9 = .ok (.ldc2_w 235, 3) := by decide +kernel
theorem dX5_sea_12 : decode cX5_sea 12 = .ok (.lreturn, 1) := by decide +kernel
theorem dX5_sea_13 : decode cX5_sea 13 = .ok (.iload_n 1, 1) := by decide +kernel
theorem dX5_sea_14 : decode cX5_sea 14 = .ok (.iconst 2, 1) := by decide +kernel
theorem dX5_sea_15 : decode cX5_sea 15 = .ok (.if_icmp .ge 19, 3) := by decide +kernel
theorem dX5_sea_18 : decode cX5_sea 18 = .ok (.iload_n 1, 1) := by decide +kernel
theorem dX5_sea_19 : decode cX5_sea 19 = .ok (.ifCond .ne 10, 3) := by decide +kernel
theorem dX5_sea_22 : decode cX5_sea 22 = .ok (.aload_n 0, 1) := by decide +kernel
theorem dX5_sea_23 : decode cX5_sea 23 = .ok (.getfield 85, 3) := by decide +kernel
theorem dX5_sea_26 : decode cX5_sea 26 = .ok (.goto 7, 3) := by decide +kernel
theorem dX5_sea_29 : decode cX5_sea 29 = .ok (.aload_n 0, 1) := by decide +kernel
theorem dX5_sea_30 : decode cX5_sea 30 = .ok (.invokevirtual 237, 3) := by decide +kernel
theorem dX5_sea_33 : decode cX5_sea 33 = .ok (.lreturn, 1) := by decide +kernel
theorem dX5_sea_34 : decode cX5_sea 34 = .ok (.lconst 0, 1) := by decide +kernel
theorem dX5_sea_35 : decode cX5_sea 35 = .ok (.lstore_n 2, 1) := by decide +kernel
theorem dX5_sea_36 : decode cX5_sea 36 = .ok (.iconst 0, 1) := by decide +kernel
theorem dX5_sea_37 : decode cX5_sea 37 = .ok (.istore 4, 2) := by decide +kernel
theorem dX5_sea_39 : decode cX5_sea 39 = .ok (.iload 4, 2) := by decide +kernel
theorem dX5_sea_41 : decode cX5_sea 41 = .ok (.bipush 36, 2) := by decide +kernel
theorem dX5_sea_43 : decode cX5_sea 43 = .ok (.if_icmp .ge 87, 3) := by decide +kernel
theorem dX5_sea_46 : decode cX5_sea 46 = .ok (.iload_n 1, 1) := by decide +kernel
theorem dX5_sea_47 : decode cX5_sea 47 = .ok (.iconst 2, 1) := by decide +kernel
theorem dX5_sea_48 : decode cX5_sea 48 = .ok (.if_icmp .ne 32, 3) := by decide +kernel
theorem dX5_sea_51 : decode cX5_sea 51 = .ok (.aload_n 0, 1) := by decide +kernel
theorem dX5_sea_52 : decode cX5_sea 52 = .ok (.iload 4, 2) := by decide +kernel
theorem dX5_sea_54 : decode cX5_sea 54 = .ok (.invokevirtual 89, 3) := by decide +kernel
theorem dX5_sea_57 : decode cX5_sea 57 = .ok (.ifCond .ne 19, 3) := by decide +kernel
theorem dX5_sea_60 : decode cX5_sea 60 = .ok (.aload_n 0, 1) := by decide +kernel
theorem dX5_sea_61 : decode cX5_sea 61 = .ok (.getfield 25, 3) := by decide +kernel
theorem dX5_sea_64 : decode cX5_sea 64 = .ok (.iload 4, 2) := by decide +kernel
theorem dX5_sea_66 : decode cX5_sea 66 = .ok (.iaload, 1) := by decide +kernel
theorem dX5_sea_67 : decode cX5_sea 67 = .ok (.bipush 50, 2) := by decide +kernel
theorem dX5_sea_69 : decode cX5_sea 69 = .ok (.if_icmp .lt 7, 3) := by decide +kernel
theorem dX5_sea_72 : decode cX5_sea 72 = .ok (.iconst 1, 1) := by decide +kernel
theorem dX5_sea_73 : decode cX5_sea 73 = .ok (.goto 33, 3) := by decide +kernel
theorem dX5_sea_76 : decode cX5_sea 76 = .ok (.iconst 0, 1) := by decide +kernel
theorem dX5_sea_77 : decode cX5_sea 77 = .ok (.goto 29, 3) := by decide +kernel
theorem dX5_sea_80 : decode cX5_sea 80 = .ok (.aload_n 0, 1) := by decide +kernel
theorem dX5_sea_81 : decode cX5_sea 81 = .ok (.iload 4, 2) := by decide +kernel
theorem dX5_sea_83 : decode cX5_sea 83 = .ok (.invokevirtual 89, 3) := by decide +kernel
theorem dX5_sea_86 : decode cX5_sea 86 = .ok (.ifCond .eq 19, 3) := by decide +kernel
theorem dX5_sea_89 : decode cX5_sea 89 = .ok (.aload_n 0, 1) := by decide +kernel
theorem dX5_sea_90 : decode cX5_sea 90 = .ok (.getfield 25, 3) := by decide +kernel
theorem dX5_sea_93 : decode cX5_sea 93 = .ok (.iload 4, 2) := by decide +kernel
theorem dX5_sea_95 : decode cX5_sea 95 = .ok (.iaload, 1) := by decide +kernel
theorem dX5_sea_96 : decode cX5_sea 96 = .ok (.bipush 50, 2) := by decide +kernel
theorem dX5_sea_98 : decode cX5_sea 98 = .ok (.if_icmp .ge 7, 3) := by decide +kernel
theorem dX5_sea_101 : decode cX5_sea 101 = .ok (.iconst 1, 1) := by decide +kernel
theorem dX5_sea_102 : decode cX5_sea 102 = .ok (.goto 4, 3) := by decide +kernel
theorem dX5_sea_105 : decode cX5_sea 105 = .ok (.iconst 0, 1) := by decide +kernel
theorem dX5_sea_106 : decode cX5_sea 106 = .ok (.istore 5, 2) := by decide +kernel
theorem dX5_sea_108 : decode cX5_sea 108 = .ok (.lload_n 2, 1) := by decide +kernel
theorem dX5_sea_109 : decode cX5_sea 109 = .ok (.iload 5, 2) := by decide +kernel
theorem dX5_sea_111 : decode cX5_sea 111 = .ok (.ifCond .eq 10, 3) := by decide +kernel
theorem dX5_sea_114 : decode cX5_sea 114 = .ok (.lconst 1, 1) := by decide +kernel
theorem dX5_sea_115 : decode cX5_sea 115 = .ok (.iload 4, 2) := by decide +kernel
theorem dX5_sea_117 : decode cX5_sea 117 = .ok (.lshl, 1) := by decide +kernel
theorem dX5_sea_118 : decode cX5_sea 118 = .ok (.goto 4, 3) := by decide +kernel
theorem dX5_sea_121 : decode cX5_sea 121 = .ok (.lconst 0, 1) := by decide +kernel
theorem dX5_sea_122 : decode cX5_sea 122 = .ok (.lor, 1) := by decide +kernel
theorem dX5_sea_123 : decode cX5_sea 123 = .ok (.lstore_n 2, 1) := by decide +kernel
theorem dX5_sea_124 : decode cX5_sea 124 = .ok (.iinc 4 1, 3) := by decide +kernel
theorem dX5_sea_127 : decode cX5_sea 127 = .ok (.goto (-88), 3) := by decide +kernel
theorem dX5_sea_130 : decode cX5_sea 130 = .ok (.lload_n 2, 1) := by decide +kernel
theorem dX5_sea_131 : decode cX5_sea 131 = .ok (.lreturn, 1) := by decide +kernel
def b_X5_sea_106 (kc39 : Int32 → Int64 → Int32 → GM → Option (Int64 × GM)) (x1 : Int32) (x2 : Int64) (x4 : Int32) (xs0 : Int32) (σ : GM) : Option (Int64 × GM) :=
  if xs0 = 0 then (bnd (some (x2 ||| (0 : Int64))) fun w3 => kc39 x1 w3 (x4 + (1 : Int32)) σ) else (bnd (some (x2 ||| (slL (1 : Int64) x4))) fun w4 => kc39 x1 w4 (x4 + (1 : Int32)) σ)
theorem vb_X5_sea_106 {g : Gt} {ad : Nat → Nat} (z : Zt) (kc39 : Int32 → Int64 → Int32 → GM → Option (Int64 × GM)) (hkc39 : ∀ (x1 : Int32) (x2 : Int64) (x4 : Int32) (σ : GM), V g (LM ad) 5 RX5 cX5_sea 6 (some .long) (wM g ad) iL z (kc39 x1 x2 x4 σ) σ 39 [(0, .ref (aMo ad)), (1, .int x1), (2, .long x2), (4, .int x4)] []) (x1 : Int32) (x2 : Int64) (x4 : Int32) (xs0 : Int32) (σ : GM) : V g (LM ad) 5 RX5 cX5_sea 6 (some .long) (wM g ad) iL z (b_X5_sea_106 kc39 x1 x2 x4 xs0 σ) σ 106 [(0, .ref (aMo ad)), (1, .int x1), (2, .long x2), (4, .int x4)] [.int xs0] := by
  unfold b_X5_sea_106
  refine v_istore (pc := 106) (lv' := [(5, .int xs0), (0, .ref (aMo ad)), (1, .int x1), (2, .long x2), (4, .int x4)]) (i := 5) dX5_sea_106 (by decide) rfl ?_
  refine v_lload_n (pc := 108) (i := 2) dX5_sea_108 rfl rfl ?_
  refine v_iload (pc := 109) (i := 5) dX5_sea_109 rfl ?_
  refine v_if_eq (pc := 111) (tgt := 121) dX5_sea_111 rfl ?_ ?_
  · refine v_lconst (pc := 121) dX5_sea_121 lc_0 ?_
    refine v_lor (pc := 122) dX5_sea_122 ?_
    refine v_nml (fun w3 => ?_)
    refine v_lstore_n (pc := 123) (lv' := [(2, .long w3), (5, .int xs0), (0, .ref (aMo ad)), (1, .int x1), (4, .int x4)]) (i := 2) dX5_sea_123 rfl (by decide) rfl ?_
    refine v_iinc (pc := 124) (lv' := [(4, .int (x4 + (1 : Int32))), (2, .long w3), (5, .int xs0), (0, .ref (aMo ad)), (1, .int x1)]) (i := 4) dX5_sea_124 rfl ic_1 (by decide) rfl ?_
    refine v_goto (pc := 127) (tgt := 39) dX5_sea_127 rfl ?_
    exact v_sub [3, 4, 1, 0] rfl (hkc39 x1 w3 (x4 + (1 : Int32)) σ)
  · refine v_lconst (pc := 114) dX5_sea_114 lc_1 ?_
    refine v_iload (pc := 115) (i := 4) dX5_sea_115 rfl ?_
    refine v_lshl (pc := 117) dX5_sea_117 ?_
    refine v_goto (pc := 118) (tgt := 122) dX5_sea_118 rfl ?_
    refine v_lor (pc := 122) dX5_sea_122 ?_
    refine v_nml (fun w4 => ?_)
    refine v_lstore_n (pc := 123) (lv' := [(2, .long w4), (5, .int xs0), (0, .ref (aMo ad)), (1, .int x1), (4, .int x4)]) (i := 2) dX5_sea_123 rfl (by decide) rfl ?_
    refine v_iinc (pc := 124) (lv' := [(4, .int (x4 + (1 : Int32))), (2, .long w4), (5, .int xs0), (0, .ref (aMo ad)), (1, .int x1)]) (i := 4) dX5_sea_124 rfl ic_1 (by decide) rfl ?_
    refine v_goto (pc := 127) (tgt := 39) dX5_sea_127 rfl ?_
    exact v_sub [3, 4, 1, 0] rfl (hkc39 x1 w4 (x4 + (1 : Int32)) σ)
def b_X5_sea_39 (kc39 : Int32 → Int64 → Int32 → GM → Option (Int64 × GM)) (x1 : Int32) (x2 : Int64) (x4 : Int32) (σ : GM) : Option (Int64 × GM) :=
  if (36 : Int32) ≤ x4 then (some (x2, σ)) else (if x1 ≠ (2 : Int32) then (bnd (f_X5_hasRock x4 σ) fun q2 => if q2.1 = 0 then (b_X5_sea_106 kc39 x1 x2 x4 (0 : Int32) q2.2) else (grd x4 36 (if (50 : Int32) ≤ (mA q2.2 5 x4.toNatClampNeg) then (b_X5_sea_106 kc39 x1 x2 x4 (0 : Int32) q2.2) else (b_X5_sea_106 kc39 x1 x2 x4 (1 : Int32) q2.2)))) else (bnd (f_X5_hasRock x4 σ) fun q5 => if q5.1 ≠ 0 then (b_X5_sea_106 kc39 x1 x2 x4 (0 : Int32) q5.2) else (grd x4 36 (if (mA q5.2 5 x4.toNatClampNeg) < (50 : Int32) then (b_X5_sea_106 kc39 x1 x2 x4 (0 : Int32) q5.2) else (b_X5_sea_106 kc39 x1 x2 x4 (1 : Int32) q5.2)))))
theorem vb_X5_sea_39 {g : Gt} {ad : Nat → Nat} (z : Zt) (kc39 : Int32 → Int64 → Int32 → GM → Option (Int64 × GM)) (hkc39 : ∀ (x1 : Int32) (x2 : Int64) (x4 : Int32) (σ : GM), V g (LM ad) 5 RX5 cX5_sea 6 (some .long) (wM g ad) iL z (kc39 x1 x2 x4 σ) σ 39 [(0, .ref (aMo ad)), (1, .int x1), (2, .long x2), (4, .int x4)] []) (x1 : Int32) (x2 : Int64) (x4 : Int32) (σ : GM) : V g (LM ad) 5 RX5 cX5_sea 6 (some .long) (wM g ad) iL z (b_X5_sea_39 kc39 x1 x2 x4 σ) σ 39 [(0, .ref (aMo ad)), (1, .int x1), (2, .long x2), (4, .int x4)] [] := by
  unfold b_X5_sea_39
  refine v_iload (pc := 39) (i := 4) dX5_sea_39 rfl ?_
  refine v_bipush (pc := 41) dX5_sea_41 bp_36 ?_
  refine v_icmp_ge (pc := 43) (tgt := 130) dX5_sea_43 rfl ?_ ?_
  · refine v_lload_n (pc := 130) (i := 2) dX5_sea_130 rfl rfl ?_
    exact v_lret (pc := 131) dX5_sea_131
  · refine v_iload_n (pc := 46) (i := 1) dX5_sea_46 rfl rfl ?_
    refine v_iconst (pc := 47) dX5_sea_47 ic_2 ?_
    refine v_icmp_ne (pc := 48) (tgt := 80) dX5_sea_48 rfl ?_ ?_
    · refine v_aload_n (pc := 80) (i := 0) dX5_sea_80 rfl rfl ?_
      refine v_iload (pc := 81) (i := 4) dX5_sea_81 rfl ?_
      refine v_callVi (pc := 83) rcX5 (As := [.int x4]) (rest := []) (ct_X5_hasRock x4) mi_X5_hasRock q_881 (by decide) rfl rfl (Nat.le_of_ble_eq_true rfl) dX5_sea_83 (fun q2 => ?_)
      refine v_if_eq (pc := 86) (tgt := 105) dX5_sea_86 rfl ?_ ?_
      · refine v_iconst (pc := 105) dX5_sea_105 ic_0 ?_
        exact v_sub [0, 1, 2, 3] rfl (vb_X5_sea_106 z kc39 hkc39 x1 x2 x4 (0 : Int32) q2.2)
      · refine v_aload_n (pc := 89) (i := 0) dX5_sea_89 rfl rfl ?_
        refine gX5_beliefs (pc := 90) q_760 dX5_sea_90 ?_
        refine v_iload (pc := 93) (i := 4) dX5_sea_93 rfl ?_
        refine lM_beliefs (pc := 95) dX5_sea_95 ?_
        refine v_bipush (pc := 96) dX5_sea_96 bp_50 ?_
        refine v_icmp_ge (pc := 98) (tgt := 105) dX5_sea_98 rfl ?_ ?_
        · refine v_iconst (pc := 105) dX5_sea_105 ic_0 ?_
          exact v_sub [0, 1, 2, 3] rfl (vb_X5_sea_106 z kc39 hkc39 x1 x2 x4 (0 : Int32) q2.2)
        · refine v_iconst (pc := 101) dX5_sea_101 ic_1 ?_
          refine v_goto (pc := 102) (tgt := 106) dX5_sea_102 rfl ?_
          exact v_sub [0, 1, 2, 3] rfl (vb_X5_sea_106 z kc39 hkc39 x1 x2 x4 (1 : Int32) q2.2)
    · refine v_aload_n (pc := 51) (i := 0) dX5_sea_51 rfl rfl ?_
      refine v_iload (pc := 52) (i := 4) dX5_sea_52 rfl ?_
      refine v_callVi (pc := 54) rcX5 (As := [.int x4]) (rest := []) (ct_X5_hasRock x4) mi_X5_hasRock q_881 (by decide) rfl rfl (Nat.le_of_ble_eq_true rfl) dX5_sea_54 (fun q5 => ?_)
      refine v_if_ne (pc := 57) (tgt := 76) dX5_sea_57 rfl ?_ ?_
      · refine v_iconst (pc := 76) dX5_sea_76 ic_0 ?_
        refine v_goto (pc := 77) (tgt := 106) dX5_sea_77 rfl ?_
        exact v_sub [0, 1, 2, 3] rfl (vb_X5_sea_106 z kc39 hkc39 x1 x2 x4 (0 : Int32) q5.2)
      · refine v_aload_n (pc := 60) (i := 0) dX5_sea_60 rfl rfl ?_
        refine gX5_beliefs (pc := 61) q_760 dX5_sea_61 ?_
        refine v_iload (pc := 64) (i := 4) dX5_sea_64 rfl ?_
        refine lM_beliefs (pc := 66) dX5_sea_66 ?_
        refine v_bipush (pc := 67) dX5_sea_67 bp_50 ?_
        refine v_icmp_lt (pc := 69) (tgt := 76) dX5_sea_69 rfl ?_ ?_
        · refine v_iconst (pc := 76) dX5_sea_76 ic_0 ?_
          refine v_goto (pc := 77) (tgt := 106) dX5_sea_77 rfl ?_
          exact v_sub [0, 1, 2, 3] rfl (vb_X5_sea_106 z kc39 hkc39 x1 x2 x4 (0 : Int32) q5.2)
        · refine v_iconst (pc := 72) dX5_sea_72 ic_1 ?_
          refine v_goto (pc := 73) (tgt := 106) dX5_sea_73 rfl ?_
          exact v_sub [0, 1, 2, 3] rfl (vb_X5_sea_106 z kc39 hkc39 x1 x2 x4 (1 : Int32) q5.2)
def k_X5_sea_39 : Nat → Int32 → Int64 → Int32 → GM → Option (Int64 × GM)
  | 0 => fun _ _ _ _ => none
  | n + 1 => b_X5_sea_39 (k_X5_sea_39 n)
theorem vk_X5_sea_39 {g : Gt} {ad : Nat → Nat} (z : Zt) : ∀ (n : Nat) (x1 : Int32) (x2 : Int64) (x4 : Int32) (σ : GM), V g (LM ad) 5 RX5 cX5_sea 6 (some .long) (wM g ad) iL z (k_X5_sea_39 n x1 x2 x4 σ) σ 39 [(0, .ref (aMo ad)), (1, .int x1), (2, .long x2), (4, .int x4)] [] := by
  intro n
  induction n with
  | zero => intros; exact v_eq rfl v_none
  | succ n ih =>
    intro x1 x2 x4 σ
    exact v_eq rfl (vb_X5_sea_39 z _ ih x1 x2 x4 σ)
def f_X5_sea (x1 : Int32) (σ : GM) : Option (Int64 × GM) :=
  bnd (f_X5_in x1 (0 : Int32) (3 : Int32) σ) fun q1 => if q1.1 ≠ 0 then (if (2 : Int32) ≤ x1 then (k_X5_sea_39 FU x1 (0 : Int64) (0 : Int32) q1.2) else (if x1 ≠ 0 then (bnd (f_X5_brightest q1.2) fun q6 => some (q6.1, q6.2)) else (some ((mL q1.2 0), q1.2)))) else (some ((-4611686018427387904 : Int64), q1.2))
theorem vf_X5_sea {g : Gt} {ad : Nat → Nat} (z : Zt) (x1 : Int32) (σ : GM) : V g (LM ad) 5 RX5 cX5_sea 6 (some .long) (wM g ad) iL z (f_X5_sea x1 σ) σ 0 [(0, .ref (aMo ad)), (1, .int x1)] [] := by
  unfold f_X5_sea
  refine v_iload_n (pc := 0) (i := 1) dX5_sea_0 rfl rfl ?_
  refine v_iconst (pc := 1) dX5_sea_1 ic_0 ?_
  refine v_iconst (pc := 2) dX5_sea_2 ic_3 ?_
  refine v_callSi (pc := 3) (av := [.int x1, .int (0 : Int32), .int (3 : Int32)]) (rest := []) (ct_X5_in x1 (0 : Int32) (3 : Int32)) mi_X5_in q_715 (by decide) rfl rfl (Nat.le_of_ble_eq_true rfl) dX5_sea_3 (fun q1 => ?_)
  refine v_if_ne (pc := 6) (tgt := 13) dX5_sea_6 rfl ?_ ?_
  · refine v_iload_n (pc := 13) (i := 1) dX5_sea_13 rfl rfl ?_
    refine v_iconst (pc := 14) dX5_sea_14 ic_2 ?_
    refine v_icmp_ge (pc := 15) (tgt := 34) dX5_sea_15 rfl ?_ ?_
    · refine v_lconst (pc := 34) dX5_sea_34 lc_0 ?_
      refine v_lstore_n (pc := 35) (lv' := [(2, .long (0 : Int64)), (0, .ref (aMo ad)), (1, .int x1)]) (i := 2) dX5_sea_35 rfl (by decide) rfl ?_
      refine v_iconst (pc := 36) dX5_sea_36 ic_0 ?_
      refine v_istore (pc := 37) (lv' := [(4, .int (0 : Int32)), (2, .long (0 : Int64)), (0, .ref (aMo ad)), (1, .int x1)]) (i := 4) dX5_sea_37 (by decide) rfl ?_
      exact v_sub [2, 3, 1, 0] rfl (vk_X5_sea_39 z FU x1 (0 : Int64) (0 : Int32) q1.2)
    · refine v_iload_n (pc := 18) (i := 1) dX5_sea_18 rfl rfl ?_
      refine v_if_ne (pc := 19) (tgt := 29) dX5_sea_19 rfl ?_ ?_
      · refine v_aload_n (pc := 29) (i := 0) dX5_sea_29 rfl rfl ?_
        refine v_callVl (pc := 30) rcX5 (As := []) (rest := []) (ct_X5_brightest) mi_X5_brightest q_1028 (by decide) rfl rfl (Nat.le_of_ble_eq_true rfl) dX5_sea_30 (fun q6 => ?_)
        exact v_lret (pc := 33) dX5_sea_33
      · refine v_aload_n (pc := 22) (i := 0) dX5_sea_22 rfl rfl ?_
        refine gX5_rocks (pc := 23) q_761 dX5_sea_23 ?_
        refine v_goto (pc := 26) (tgt := 33) dX5_sea_26 rfl ?_
        exact v_lret (pc := 33) dX5_sea_33
  · refine v_ldc2 (pc := 9) dX5_sea_9 q_1023 ?_
    exact v_lret (pc := 12) dX5_sea_12
theorem ct_X5_sea {g : Gt} {ad : Nat → Nat} (x1 : Int32) : CT g (LM ad) yX5_sea cX5_sea 6 (some .long) 5 [.ref (aMo ad), .int x1] iL (wM g ad) (f_X5_sea x1) :=
  ct_of_V (own := RX5) (lv0 := [(0, .ref (aMo ad)), (1, .int x1)]) (by decide +kernel) rfl (Nat.le_of_ble_eq_true rfl) rfl (fun z σ => vf_X5_sea z x1 σ)
-- LighthouseLiedToModel.lostNow
theorem dX5_lostNow_0 : decode cX5_lostNow 0 = .ok (.aload_n 0, 1) := by decide +kernel
theorem dX5_lostNow_1 : decode cX5_lostNow 1 = .ok (.invokevirtual 223, 3) := by decide +kernel
theorem dX5_lostNow_4 : decode cX5_lostNow 4 = .ok (.aload_n 0, 1) := by decide +kernel
theorem dX5_lostNow_5 : decode cX5_lostNow 5 = .ok (.iload_n 1, 1) := by decide +kernel
theorem dX5_lostNow_6 : decode cX5_lostNow 6 = .ok (.invokevirtual 226, 3) := by decide +kernel
theorem dX5_lostNow_9 : decode cX5_lostNow 9 = .ok (.invokestatic 96, 3) := by decide +kernel
theorem dX5_lostNow_12 : decode cX5_lostNow 12 = .ok (.istore_n 2, 1) := by decide +kernel
theorem dX5_lostNow_13 : decode cX5_lostNow 13 = .ok (.aload_n 0, 1) := by decide +kernel
theorem dX5_lostNow_14 : decode cX5_lostNow 14 = .ok (.invokevirtual 232, 3) := by decide +kernel
theorem dX5_lostNow_17 : decode cX5_lostNow 17 = .ok (.iload_n 2, 1) := by decide +kernel
theorem dX5_lostNow_18 : decode cX5_lostNow 18 = .ok (.ireturn, 1) := by decide +kernel
def f_X5_lostNow (x1 : Int32) (σ : GM) : Option (Int32 × GM) :=
  bnd (f_X5_keeps σ) fun q1 => bnd (f_X5_goes x1 q1.2) fun q2 => bnd (f_X5_ones q2.1 q2.2) fun q3 => bnd (f_X5_lays q3.2) fun q4 => some (q3.1, q4.2)
theorem vf_X5_lostNow {g : Gt} {ad : Nat → Nat} (z : Zt) (x1 : Int32) (σ : GM) : V g (LM ad) 9 RX5 cX5_lostNow 3 (some .int) (wM g ad) iI z (f_X5_lostNow x1 σ) σ 0 [(0, .ref (aMo ad)), (1, .int x1)] [] := by
  unfold f_X5_lostNow
  refine v_aload_n (pc := 0) (i := 0) dX5_lostNow_0 rfl rfl ?_
  refine v_callVv (pc := 1) rcX5 (As := []) (rest := []) (ct_X5_keeps) mi_X5_keeps q_995 (by decide) rfl rfl (Nat.le_of_ble_eq_true rfl) dX5_lostNow_1 (fun q1 => ?_)
  refine v_aload_n (pc := 4) (i := 0) dX5_lostNow_4 rfl rfl ?_
  refine v_iload_n (pc := 5) (i := 1) dX5_lostNow_5 rfl rfl ?_
  refine v_callVi (pc := 6) rcX5 (As := [.int x1]) (rest := []) (ct_X5_goes x1) mi_X5_goes q_999 (by decide) rfl rfl (Nat.le_of_ble_eq_true rfl) dX5_lostNow_6 (fun q2 => ?_)
  refine v_callSi (pc := 9) (av := [.int q2.1]) (rest := []) (ct_X5_ones q2.1) mi_X5_ones q_874 (by decide) rfl rfl (Nat.le_of_ble_eq_true rfl) dX5_lostNow_9 (fun q3 => ?_)
  refine v_istore_n (pc := 12) (lv' := [(2, .int q3.1), (0, .ref (aMo ad)), (1, .int x1)]) (i := 2) dX5_lostNow_12 rfl (by decide) rfl ?_
  refine v_aload_n (pc := 13) (i := 0) dX5_lostNow_13 rfl rfl ?_
  refine v_callVv (pc := 14) rcX5 (As := []) (rest := []) (ct_X5_lays) mi_X5_lays q_1011 (by decide) rfl rfl (Nat.le_of_ble_eq_true rfl) dX5_lostNow_14 (fun q4 => ?_)
  refine v_iload_n (pc := 17) (i := 2) dX5_lostNow_17 rfl rfl ?_
  exact v_iret (pc := 18) dX5_lostNow_18
theorem ct_X5_lostNow {g : Gt} {ad : Nat → Nat} (x1 : Int32) : CT g (LM ad) yX5_lostNow cX5_lostNow 3 (some .int) 9 [.ref (aMo ad), .int x1] iI (wM g ad) (f_X5_lostNow x1) :=
  ct_of_V (own := RX5) (lv0 := [(0, .ref (aMo ad)), (1, .int x1)]) (by decide +kernel) rfl (Nat.le_of_ble_eq_true rfl) rfl (fun z σ => vf_X5_lostNow z x1 σ)
-- LighthouseLiedToModel.lie
theorem dX5_lie_0 : decode cX5_lie 0 = .ok (.iload_n 1, 1) := by decide +kernel
theorem dX5_lie_1 : decode cX5_lie 1 = .ok (.bipush (-99), 2) := by decide +kernel
theorem dX5_lie_3 : decode cX5_lie 3 = .ok (.bipush 99, 2) := by decide +kernel
theorem dX5_lie_5 : decode cX5_lie 5 = .ok (.invokestatic 78, 3) := by decide +kernel
theorem dX5_lie_8 : decode cX5_lie 8 = .ok (.ifCond .eq 22, 3) := by decide +kernel
theorem dX5_lie_11 : decode cX5_lie 11 = .ok (.iload_n 2, 1) := by decide +kernel
theorem dX5_lie_12 : decode cX5_lie 12 = .ok (.iconst 0, 1) := by decide +kernel
theorem dX5_lie_13 : decode cX5_lie 13 = .ok (.bipush 20, 2) := by decide +kernel
theorem dX5_lie_15 : decode cX5_lie 15 = .ok (.invokestatic 78, 3) := by decide +kernel
theorem dX5_lie_18 : decode cX5_lie 18 = .ok (.ifCond .eq 12, 3) := by decide +kernel
theorem dX5_lie_21 : decode cX5_lie 21 = .ok (.iload_n 3, 1) := by decide +kernel
theorem dX5_lie_22 : decode cX5_lie 22 = .ok (.iconst 0, 1) := by decide +kernel
theorem dX5_lie_23 : decode cX5_lie 23 = .ok (.iconst 1, 1) := by decide +kernel
theorem dX5_lie_24 : decode cX5_lie 24 = .ok (.invokestatic 78, 3) := by decide +kernel
theorem dX5_lie_27 : decode cX5_lie 27 = .ok (.ifCond .ne 6, 3) := by decide +kernel
theorem dX5_lie_30 : decode cX5_lie 30 = .ok (.bipush (-2), 2) := by decide +kernel
theorem dX5_lie_32 : decode cX5_lie 32 = .ok (.ireturn, 1) := by decide +kernel
theorem dX5_lie_33 : decode cX5_lie 33 = .ok (.iconst (-1), 1) := by decide +kernel
theorem dX5_lie_34 : decode cX5_lie 34 = .ok (.istore 4, 2) := by decide +kernel
theorem dX5_lie_36 : decode cX5_lie 36 = .ok (.aload_n 0, 1) := by decide +kernel
theorem dX5_lie_37 : decode cX5_lie 37 = .ok (.iload_n 2, 1) := by decide +kernel
theorem dX5_lie_38 : decode cX5_lie 38 = .ok (.invokevirtual 241, 3) := by decide +kernel
theorem dX5_lie_41 : decode cX5_lie 41 = .ok (.istore 5, 2) := by decide +kernel
theorem dX5_lie_43 : decode cX5_lie 43 = .ok (.iconst 0, 1) := by decide +kernel
theorem dX5_lie_44 : decode cX5_lie 44 = .ok (.istore 6, 2) := by decide +kernel
theorem dX5_lie_46 : decode cX5_lie 46 = .ok (.iload 6, 2) := by decide +kernel
theorem dX5_lie_48 : decode cX5_lie 48 = .ok (.bipush 36, 2) := by decide +kernel
theorem dX5_lie_50 : decode cX5_lie 50 = .ok (.if_icmp .ge 66, 3) := by decide +kernel
theorem dX5_lie_53 : decode cX5_lie 53 = .ok (.aload_n 0, 1) := by decide +kernel
theorem dX5_lie_54 : decode cX5_lie 54 = .ok (.invokevirtual 223, 3) := by decide +kernel
theorem dX5_lie_57 : decode cX5_lie 57 = .ok (.aload_n 0, 1) := by decide +kernel
theorem dX5_lie_58 : decode cX5_lie 58 = .ok (.iload 6, 2) := by decide +kernel
theorem dX5_lie_60 : decode cX5_lie 60 = .ok (.iload_n 1, 1) := by decide +kernel
theorem dX5_lie_61 : decode cX5_lie 61 = .ok (.invokevirtual 124, 3) := by decide +kernel
theorem dX5_lie_64 : decode cX5_lie 64 = .ok (.aload_n 0, 1) := by decide +kernel
theorem dX5_lie_65 : decode cX5_lie 65 = .ok (.iload_n 2, 1) := by decide +kernel
theorem dX5_lie_66 : decode cX5_lie 66 = .ok (.invokevirtual 226, 3) := by decide +kernel
theorem dX5_lie_69 : decode cX5_lie 69 = .ok (.invokestatic 96, 3) := by decide +kernel
theorem dX5_lie_72 : decode cX5_lie 72 = .ok (.istore 7, 2) := by decide +kernel
theorem dX5_lie_74 : decode cX5_lie 74 = .ok (.aload_n 0, 1) := by decide +kernel
theorem dX5_lie_75 : decode cX5_lie 75 = .ok (.invokevirtual 232, 3) := by decide +kernel
theorem dX5_lie_78 : decode cX5_lie 78 = .ok (.iload 7, 2) := by decide +kernel
theorem dX5_lie_80 : decode cX5_lie 80 = .ok (.iload 5, 2) := by decide +kernel
theorem dX5_lie_82 : decode cX5_lie 82 = .ok (.if_icmp .ge 8, 3) := by decide +kernel
theorem dX5_lie_85 : decode cX5_lie 85 = .ok (.iload 6, 2) := by decide +kernel
theorem dX5_lie_87 : decode cX5_lie 87 = .ok (.goto 5, 3) := by decide +kernel
theorem dX5_lie_90 : decode cX5_lie 90 = .ok (.iload 4, 2) := by decide +kernel
theorem dX5_lie_92 : decode cX5_lie 92 = .ok (.istore 4, 2) := by decide +kernel
theorem dX5_lie_94 : decode cX5_lie 94 = .ok (.iload 7, 2) := by decide +kernel
theorem dX5_lie_96 : decode cX5_lie 96 = .ok (.iload 5, 2) := by decide +kernel
theorem dX5_lie_98 : decode cX5_lie 98 = .ok (.if_icmp .ge 8, 3) := by decide +kernel
theorem dX5_lie_101 : decode cX5_lie 101 = .ok (.iload 7, 2) := by decide +kernel
theorem dX5_lie_103 : decode cX5_lie 103 = .ok (.goto 5, 3) := by decide +kernel
theorem dX5_lie_106 : decode cX5_lie 106 = .ok (.iload 5, 2) := by decide +kernel
theorem dX5_lie_108 : decode cX5_lie 108 = .ok (.istore 5, 2) := by decide +kernel
theorem dX5_lie_110 : decode cX5_lie 110 = .ok (.iinc 6 1, 3) := by decide +kernel
theorem dX5_lie_113 : decode cX5_lie 113 = .ok (.goto (-67), 3) := by decide +kernel
theorem dX5_lie_116 : decode cX5_lie 116 = .ok (.iload_n 3, 1) := by decide +kernel
theorem dX5_lie_117 : decode cX5_lie 117 = .ok (.ifCond .ne 8, 3) := by decide +kernel
theorem dX5_lie_120 : decode cX5_lie 120 = .ok (.iload 4, 2) := by decide +kernel
theorem dX5_lie_122 : decode cX5_lie 122 = .ok (.goto 5, 3) := by decide +kernel
theorem dX5_lie_125 : decode cX5_lie 125 = .ok (.iload 5, 2) := by decide +kernel
theorem dX5_lie_127 : decode cX5_lie 127 = .ok (.ireturn, 1) := by decide +kernel
def b_X5_lie_92 (kc46 : Int32 → Int32 → Int32 → Int32 → Int32 → Int32 → GM → Option (Int32 × GM)) (x1 : Int32) (x2 : Int32) (x3 : Int32) (x5 : Int32) (x6 : Int32) (x7 : Int32) (xs0 : Int32) (σ : GM) : Option (Int32 × GM) :=
  if x5 ≤ x7 then (kc46 x1 x2 x3 xs0 x5 (x6 + (1 : Int32)) σ) else (kc46 x1 x2 x3 xs0 x7 (x6 + (1 : Int32)) σ)
theorem vb_X5_lie_92 {g : Gt} {ad : Nat → Nat} (z : Zt) (kc46 : Int32 → Int32 → Int32 → Int32 → Int32 → Int32 → GM → Option (Int32 × GM)) (hkc46 : ∀ (x1 : Int32) (x2 : Int32) (x3 : Int32) (x4 : Int32) (x5 : Int32) (x6 : Int32) (σ : GM), V g (LM ad) 10 RX5 cX5_lie 8 (some .int) (wM g ad) iI z (kc46 x1 x2 x3 x4 x5 x6 σ) σ 46 [(0, .ref (aMo ad)), (1, .int x1), (2, .int x2), (3, .int x3), (4, .int x4), (5, .int x5), (6, .int x6)] []) (x1 : Int32) (x2 : Int32) (x3 : Int32) (x5 : Int32) (x6 : Int32) (x7 : Int32) (xs0 : Int32) (σ : GM) : V g (LM ad) 10 RX5 cX5_lie 8 (some .int) (wM g ad) iI z (b_X5_lie_92 kc46 x1 x2 x3 x5 x6 x7 xs0 σ) σ 92 [(0, .ref (aMo ad)), (1, .int x1), (2, .int x2), (3, .int x3), (5, .int x5), (6, .int x6), (7, .int x7)] [.int xs0] := by
  unfold b_X5_lie_92
  refine v_istore (pc := 92) (lv' := [(4, .int xs0), (0, .ref (aMo ad)), (1, .int x1), (2, .int x2), (3, .int x3), (5, .int x5), (6, .int x6), (7, .int x7)]) (i := 4) dX5_lie_92 (by decide) rfl ?_
  refine v_iload (pc := 94) (i := 7) dX5_lie_94 rfl ?_
  refine v_iload (pc := 96) (i := 5) dX5_lie_96 rfl ?_
  refine v_icmp_ge (pc := 98) (tgt := 106) dX5_lie_98 rfl ?_ ?_
  · refine v_iload (pc := 106) (i := 5) dX5_lie_106 rfl ?_
    refine v_istore (pc := 108) (lv' := [(5, .int x5), (4, .int xs0), (0, .ref (aMo ad)), (1, .int x1), (2, .int x2), (3, .int x3), (6, .int x6), (7, .int x7)]) (i := 5) dX5_lie_108 (by decide) rfl ?_
    refine v_iinc (pc := 110) (lv' := [(6, .int (x6 + (1 : Int32))), (5, .int x5), (4, .int xs0), (0, .ref (aMo ad)), (1, .int x1), (2, .int x2), (3, .int x3), (7, .int x7)]) (i := 6) dX5_lie_110 rfl ic_1 (by decide) rfl ?_
    refine v_goto (pc := 113) (tgt := 46) dX5_lie_113 rfl ?_
    exact v_sub [3, 4, 5, 6, 2, 1, 0] rfl (hkc46 x1 x2 x3 xs0 x5 (x6 + (1 : Int32)) σ)
  · refine v_iload (pc := 101) (i := 7) dX5_lie_101 rfl ?_
    refine v_goto (pc := 103) (tgt := 108) dX5_lie_103 rfl ?_
    refine v_istore (pc := 108) (lv' := [(5, .int x7), (4, .int xs0), (0, .ref (aMo ad)), (1, .int x1), (2, .int x2), (3, .int x3), (6, .int x6), (7, .int x7)]) (i := 5) dX5_lie_108 (by decide) rfl ?_
    refine v_iinc (pc := 110) (lv' := [(6, .int (x6 + (1 : Int32))), (5, .int x7), (4, .int xs0), (0, .ref (aMo ad)), (1, .int x1), (2, .int x2), (3, .int x3), (7, .int x7)]) (i := 6) dX5_lie_110 rfl ic_1 (by decide) rfl ?_
    refine v_goto (pc := 113) (tgt := 46) dX5_lie_113 rfl ?_
    exact v_sub [3, 4, 5, 6, 2, 1, 0] rfl (hkc46 x1 x2 x3 xs0 x7 (x6 + (1 : Int32)) σ)
def b_X5_lie_46 (kc46 : Int32 → Int32 → Int32 → Int32 → Int32 → Int32 → GM → Option (Int32 × GM)) (x1 : Int32) (x2 : Int32) (x3 : Int32) (x4 : Int32) (x5 : Int32) (x6 : Int32) (σ : GM) : Option (Int32 × GM) :=
  if (36 : Int32) ≤ x6 then (if x3 ≠ 0 then (some (x5, σ)) else (some (x4, σ))) else (bnd (f_X5_keeps σ) fun q5 => bnd (f_X5_isToldOf x6 x1 q5.2) fun q6 => bnd (f_X5_goes x2 q6.2) fun q7 => bnd (f_X5_ones q7.1 q7.2) fun q8 => bnd (f_X5_lays q8.2) fun q9 => if x5 ≤ q8.1 then (b_X5_lie_92 kc46 x1 x2 x3 x5 x6 q8.1 x4 q9.2) else (b_X5_lie_92 kc46 x1 x2 x3 x5 x6 q8.1 x6 q9.2))
theorem vb_X5_lie_46 {g : Gt} {ad : Nat → Nat} (z : Zt) (kc46 : Int32 → Int32 → Int32 → Int32 → Int32 → Int32 → GM → Option (Int32 × GM)) (hkc46 : ∀ (x1 : Int32) (x2 : Int32) (x3 : Int32) (x4 : Int32) (x5 : Int32) (x6 : Int32) (σ : GM), V g (LM ad) 10 RX5 cX5_lie 8 (some .int) (wM g ad) iI z (kc46 x1 x2 x3 x4 x5 x6 σ) σ 46 [(0, .ref (aMo ad)), (1, .int x1), (2, .int x2), (3, .int x3), (4, .int x4), (5, .int x5), (6, .int x6)] []) (x1 : Int32) (x2 : Int32) (x3 : Int32) (x4 : Int32) (x5 : Int32) (x6 : Int32) (σ : GM) : V g (LM ad) 10 RX5 cX5_lie 8 (some .int) (wM g ad) iI z (b_X5_lie_46 kc46 x1 x2 x3 x4 x5 x6 σ) σ 46 [(0, .ref (aMo ad)), (1, .int x1), (2, .int x2), (3, .int x3), (4, .int x4), (5, .int x5), (6, .int x6)] [] := by
  unfold b_X5_lie_46
  refine v_iload (pc := 46) (i := 6) dX5_lie_46 rfl ?_
  refine v_bipush (pc := 48) dX5_lie_48 bp_36 ?_
  refine v_icmp_ge (pc := 50) (tgt := 116) dX5_lie_50 rfl ?_ ?_
  · refine v_iload_n (pc := 116) (i := 3) dX5_lie_116 rfl rfl ?_
    refine v_if_ne (pc := 117) (tgt := 125) dX5_lie_117 rfl ?_ ?_
    · refine v_iload (pc := 125) (i := 5) dX5_lie_125 rfl ?_
      exact v_iret (pc := 127) dX5_lie_127
    · refine v_iload (pc := 120) (i := 4) dX5_lie_120 rfl ?_
      refine v_goto (pc := 122) (tgt := 127) dX5_lie_122 rfl ?_
      exact v_iret (pc := 127) dX5_lie_127
  · refine v_aload_n (pc := 53) (i := 0) dX5_lie_53 rfl rfl ?_
    refine v_callVv (pc := 54) rcX5 (As := []) (rest := []) (ct_X5_keeps) mi_X5_keeps q_995 (by decide) rfl rfl (Nat.le_of_ble_eq_true rfl) dX5_lie_54 (fun q5 => ?_)
    refine v_aload_n (pc := 57) (i := 0) dX5_lie_57 rfl rfl ?_
    refine v_iload (pc := 58) (i := 6) dX5_lie_58 rfl ?_
    refine v_iload_n (pc := 60) (i := 1) dX5_lie_60 rfl rfl ?_
    refine v_callVv (pc := 61) rcX5 (As := [.int x6, .int x1]) (rest := []) (ct_X5_isToldOf x6 x1) mi_X5_isToldOf q_897 (by decide) rfl rfl (Nat.le_of_ble_eq_true rfl) dX5_lie_61 (fun q6 => ?_)
    refine v_aload_n (pc := 64) (i := 0) dX5_lie_64 rfl rfl ?_
    refine v_iload_n (pc := 65) (i := 2) dX5_lie_65 rfl rfl ?_
    refine v_callVi (pc := 66) rcX5 (As := [.int x2]) (rest := []) (ct_X5_goes x2) mi_X5_goes q_999 (by decide) rfl rfl (Nat.le_of_ble_eq_true rfl) dX5_lie_66 (fun q7 => ?_)
    refine v_callSi (pc := 69) (av := [.int q7.1]) (rest := []) (ct_X5_ones q7.1) mi_X5_ones q_874 (by decide) rfl rfl (Nat.le_of_ble_eq_true rfl) dX5_lie_69 (fun q8 => ?_)
    refine v_istore (pc := 72) (lv' := [(7, .int q8.1), (0, .ref (aMo ad)), (1, .int x1), (2, .int x2), (3, .int x3), (4, .int x4), (5, .int x5), (6, .int x6)]) (i := 7) dX5_lie_72 (by decide) rfl ?_
    refine v_aload_n (pc := 74) (i := 0) dX5_lie_74 rfl rfl ?_
    refine v_callVv (pc := 75) rcX5 (As := []) (rest := []) (ct_X5_lays) mi_X5_lays q_1011 (by decide) rfl rfl (Nat.le_of_ble_eq_true rfl) dX5_lie_75 (fun q9 => ?_)
    refine v_iload (pc := 78) (i := 7) dX5_lie_78 rfl ?_
    refine v_iload (pc := 80) (i := 5) dX5_lie_80 rfl ?_
    refine v_icmp_ge (pc := 82) (tgt := 90) dX5_lie_82 rfl ?_ ?_
    · refine v_iload (pc := 90) (i := 4) dX5_lie_90 rfl ?_
      exact v_sub [1, 2, 3, 4, 6, 7, 0] rfl (vb_X5_lie_92 z kc46 hkc46 x1 x2 x3 x5 x6 q8.1 x4 q9.2)
    · refine v_iload (pc := 85) (i := 6) dX5_lie_85 rfl ?_
      refine v_goto (pc := 87) (tgt := 92) dX5_lie_87 rfl ?_
      exact v_sub [1, 2, 3, 4, 6, 7, 0] rfl (vb_X5_lie_92 z kc46 hkc46 x1 x2 x3 x5 x6 q8.1 x6 q9.2)
def k_X5_lie_46 : Nat → Int32 → Int32 → Int32 → Int32 → Int32 → Int32 → GM → Option (Int32 × GM)
  | 0 => fun _ _ _ _ _ _ _ => none
  | n + 1 => b_X5_lie_46 (k_X5_lie_46 n)
theorem vk_X5_lie_46 {g : Gt} {ad : Nat → Nat} (z : Zt) : ∀ (n : Nat) (x1 : Int32) (x2 : Int32) (x3 : Int32) (x4 : Int32) (x5 : Int32) (x6 : Int32) (σ : GM), V g (LM ad) 10 RX5 cX5_lie 8 (some .int) (wM g ad) iI z (k_X5_lie_46 n x1 x2 x3 x4 x5 x6 σ) σ 46 [(0, .ref (aMo ad)), (1, .int x1), (2, .int x2), (3, .int x3), (4, .int x4), (5, .int x5), (6, .int x6)] [] := by
  intro n
  induction n with
  | zero => intros; exact v_eq rfl v_none
  | succ n ih =>
    intro x1 x2 x3 x4 x5 x6 σ
    exact v_eq rfl (vb_X5_lie_46 z _ ih x1 x2 x3 x4 x5 x6 σ)
def f_X5_lie (x1 : Int32) (x2 : Int32) (x3 : Int32) (σ : GM) : Option (Int32 × GM) :=
  bnd (f_X5_in x1 (-99 : Int32) (99 : Int32) σ) fun q1 => if q1.1 = 0 then (some ((-2 : Int32), q1.2)) else (bnd (f_X5_in x2 (0 : Int32) (20 : Int32) q1.2) fun q2 => if q2.1 = 0 then (some ((-2 : Int32), q2.2)) else (bnd (f_X5_in x3 (0 : Int32) (1 : Int32) q2.2) fun q3 => if q3.1 ≠ 0 then (bnd (f_X5_lostNow x2 q3.2) fun q4 => k_X5_lie_46 FU x1 x2 x3 (-1 : Int32) q4.1 (0 : Int32) q4.2) else (some ((-2 : Int32), q3.2))))
theorem vf_X5_lie {g : Gt} {ad : Nat → Nat} (z : Zt) (x1 : Int32) (x2 : Int32) (x3 : Int32) (σ : GM) : V g (LM ad) 10 RX5 cX5_lie 8 (some .int) (wM g ad) iI z (f_X5_lie x1 x2 x3 σ) σ 0 [(0, .ref (aMo ad)), (1, .int x1), (2, .int x2), (3, .int x3)] [] := by
  unfold f_X5_lie
  refine v_iload_n (pc := 0) (i := 1) dX5_lie_0 rfl rfl ?_
  refine v_bipush (pc := 1) dX5_lie_1 bp_m99 ?_
  refine v_bipush (pc := 3) dX5_lie_3 bp_99 ?_
  refine v_callSi (pc := 5) (av := [.int x1, .int (-99 : Int32), .int (99 : Int32)]) (rest := []) (ct_X5_in x1 (-99 : Int32) (99 : Int32)) mi_X5_in q_715 (by decide) rfl rfl (Nat.le_of_ble_eq_true rfl) dX5_lie_5 (fun q1 => ?_)
  refine v_if_eq (pc := 8) (tgt := 30) dX5_lie_8 rfl ?_ ?_
  · refine v_bipush (pc := 30) dX5_lie_30 bp_m2 ?_
    exact v_iret (pc := 32) dX5_lie_32
  · refine v_iload_n (pc := 11) (i := 2) dX5_lie_11 rfl rfl ?_
    refine v_iconst (pc := 12) dX5_lie_12 ic_0 ?_
    refine v_bipush (pc := 13) dX5_lie_13 bp_20 ?_
    refine v_callSi (pc := 15) (av := [.int x2, .int (0 : Int32), .int (20 : Int32)]) (rest := []) (ct_X5_in x2 (0 : Int32) (20 : Int32)) mi_X5_in q_715 (by decide) rfl rfl (Nat.le_of_ble_eq_true rfl) dX5_lie_15 (fun q2 => ?_)
    refine v_if_eq (pc := 18) (tgt := 30) dX5_lie_18 rfl ?_ ?_
    · refine v_bipush (pc := 30) dX5_lie_30 bp_m2 ?_
      exact v_iret (pc := 32) dX5_lie_32
    · refine v_iload_n (pc := 21) (i := 3) dX5_lie_21 rfl rfl ?_
      refine v_iconst (pc := 22) dX5_lie_22 ic_0 ?_
      refine v_iconst (pc := 23) dX5_lie_23 ic_1 ?_
      refine v_callSi (pc := 24) (av := [.int x3, .int (0 : Int32), .int (1 : Int32)]) (rest := []) (ct_X5_in x3 (0 : Int32) (1 : Int32)) mi_X5_in q_715 (by decide) rfl rfl (Nat.le_of_ble_eq_true rfl) dX5_lie_24 (fun q3 => ?_)
      refine v_if_ne (pc := 27) (tgt := 33) dX5_lie_27 rfl ?_ ?_
      · refine v_iconst (pc := 33) dX5_lie_33 ic_m1 ?_
        refine v_istore (pc := 34) (lv' := [(4, .int (-1 : Int32)), (0, .ref (aMo ad)), (1, .int x1), (2, .int x2), (3, .int x3)]) (i := 4) dX5_lie_34 (by decide) rfl ?_
        refine v_aload_n (pc := 36) (i := 0) dX5_lie_36 rfl rfl ?_
        refine v_iload_n (pc := 37) (i := 2) dX5_lie_37 rfl rfl ?_
        refine v_callVi (pc := 38) rcX5 (As := [.int x2]) (rest := []) (ct_X5_lostNow x2) mi_X5_lostNow q_1036 (by decide) rfl rfl (Nat.le_of_ble_eq_true rfl) dX5_lie_38 (fun q4 => ?_)
        refine v_istore (pc := 41) (lv' := [(5, .int q4.1), (4, .int (-1 : Int32)), (0, .ref (aMo ad)), (1, .int x1), (2, .int x2), (3, .int x3)]) (i := 5) dX5_lie_41 (by decide) rfl ?_
        refine v_iconst (pc := 43) dX5_lie_43 ic_0 ?_
        refine v_istore (pc := 44) (lv' := [(6, .int (0 : Int32)), (5, .int q4.1), (4, .int (-1 : Int32)), (0, .ref (aMo ad)), (1, .int x1), (2, .int x2), (3, .int x3)]) (i := 6) dX5_lie_44 (by decide) rfl ?_
        exact v_sub [3, 4, 5, 6, 2, 1, 0] rfl (vk_X5_lie_46 z FU x1 x2 x3 (-1 : Int32) q4.1 (0 : Int32) q4.2)
      · refine v_bipush (pc := 30) dX5_lie_30 bp_m2 ?_
        exact v_iret (pc := 32) dX5_lie_32
theorem ct_X5_lie {g : Gt} {ad : Nat → Nat} (x1 : Int32) (x2 : Int32) (x3 : Int32) : CT g (LM ad) yX5_lie cX5_lie 8 (some .int) 10 [.ref (aMo ad), .int x1, .int x2, .int x3] iI (wM g ad) (f_X5_lie x1 x2 x3) :=
  ct_of_V (own := RX5) (lv0 := [(0, .ref (aMo ad)), (1, .int x1), (2, .int x2), (3, .int x3)]) (by decide +kernel) rfl (Nat.le_of_ble_eq_true rfl) rfl (fun z σ => vf_X5_lie z x1 x2 x3 σ)
-- LighthouseLiedToModel.blow
theorem dX5_blow_0 : decode cX5_blow 0 = .ok (.iload_n 1, 1) := by decide +kernel
theorem dX5_blow_1 : decode cX5_blow 1 = .ok (.iconst 0, 1) := by decide +kernel
theorem dX5_blow_2 : decode cX5_blow 2 = .ok (.bipush 20, 2) := by decide +kernel
theorem dX5_blow_4 : decode cX5_blow 4 = .ok (.invokestatic 78, 3) := by decide +kernel
theorem dX5_blow_7 : decode cX5_blow 7 = .ok (.ifCond .eq 12, 3) := by decide +kernel
theorem dX5_blow_10 : decode cX5_blow 10 = .ok (.iload_n 2, 1) := by decide +kernel
theorem dX5_blow_11 : decode cX5_blow 11 = .ok (.iconst 0, 1) := by decide +kernel
theorem dX5_blow_12 : decode cX5_blow 12 = .ok (.iconst 1, 1) := by decide +kernel
theorem dX5_blow_13 : decode cX5_blow 13 = .ok (.invokestatic 78, 3) := by decide +kernel
theorem dX5_blow_16 : decode cX5_blow 16 = .ok (.ifCond .ne 6, 3) := by decide +kernel
theorem dX5_blow_19 : decode cX5_blow 19 = .ok (.bipush (-2), 2) := by decide +kernel
theorem dX5_blow_21 : decode cX5_blow 21 = .ok (.ireturn, 1) := by decide +kernel
theorem dX5_blow_22 : decode cX5_blow 22 = .ok (.aload_n 0, 1) := by decide +kernel
theorem dX5_blow_23 : decode cX5_blow 23 = .ok (.getfield 85, 3) := by decide +kernel
theorem dX5_blow_26 : decode cX5_blow 26 = .ok (.lstore_n 3, 1) := by decide +kernel
theorem dX5_blow_27 : decode cX5_blow 27 = .ok (.iconst (-1), 1) := by decide +kernel
theorem dX5_blow_28 : decode cX5_blow 28 = .ok (.istore 5, 2) := by decide +kernel
theorem dX5_blow_30 : decode cX5_blow 30 = .ok (.aload_n 0, 1) := by decide +kernel
theorem dX5_blow_31 : decode cX5_blow 31 = .ok (.iload_n 1, 1) := by decide +kernel
theorem dX5_blow_32 : decode cX5_blow 32 = .ok (.invokevirtual 241, 3) := by decide +kernel
theorem dX5_blow_35 : decode cX5_blow 35 = .ok (.istore 6, 2) := by decide +kernel
theorem dX5_blow_37 : decode cX5_blow 37 = .ok (.iconst 0, 1) := by decide +kernel
theorem dX5_blow_38 : decode cX5_blow 38 = .ok (.istore 7, 2) := by decide +kernel
theorem dX5_blow_40 : decode cX5_blow 40 = .ok (.iload 7, 2) := by decide +kernel
theorem dX5_blow_42 : decode cX5_blow 42 = .ok (.bipush 36, 2) := by decide +kernel
theorem dX5_blow_44 : decode cX5_blow 44 = .ok (.if_icmp .ge 73, 3) := by decide +kernel
theorem dX5_blow_47 : decode cX5_blow 47 = .ok (.lload_n 3, 1) := by decide +kernel
theorem dX5_blow_48 : decode cX5_blow 48 = .ok (.iload 7, 2) := by decide +kernel
theorem dX5_blow_50 : decode cX5_blow 50 = .ok (.lshr, 1) := by decide +kernel
theorem dX5_blow_51 : decode cX5_blow 51 = .ok (.lconst 1, 1) := by decide +kernel
theorem dX5_blow_52 : decode cX5_blow 52 = .ok (.land, 1) := by decide +kernel
theorem dX5_blow_53 : decode cX5_blow 53 = .ok (.lconst 1, 1) := by decide +kernel
theorem dX5_blow_54 : decode cX5_blow 54 = .ok (.lcmp, 1) := by decide +kernel
theorem dX5_blow_55 : decode cX5_blow 55 = .ok (.ifCond .ne 56, 3) := by decide +kernel
theorem dX5_blow_58 : decode cX5_blow 58 = .ok (.aload_n 0, 1) := by decide +kernel
theorem dX5_blow_59 : decode cX5_blow 59 = .ok (.lload_n 3, 1) := by decide +kernel
theorem dX5_blow_60 : decode cX5_blow 60 = .ok (.lconst 1, 1) := by decide +kernel
theorem dX5_blow_61 : decode cX5_blow 61 = .ok (.iload 7, 2) := by decide +kernel
theorem dX5_blow_63 : decode cX5_blow 63 = .ok (.lshl, 1) := by decide +kernel
theorem dX5_blow_64 : decode cX5_blow 64 = .ok (.ldc2_w 118, 3) := by decide +kernel
theorem dX5_blow_67 : decode cX5_blow 67 = .ok (.lxor, 1) := by decide +kernel
theorem dX5_blow_68 : decode cX5_blow 68 = .ok (.land, 1) := by decide +kernel
theorem dX5_blow_69 : decode cX5_blow 69 = .ok (.putfield 85, 3) := by decide +kernel
theorem dX5_blow_72 : decode cX5_blow 72 = .ok (.aload_n 0, 1) := by decide +kernel
theorem dX5_blow_73 : decode cX5_blow 73 = .ok (.iload_n 1, 1) := by decide +kernel
theorem dX5_blow_74 : decode cX5_blow 74 = .ok (.invokevirtual 241, 3) := by decide +kernel
theorem dX5_blow_77 : decode cX5_blow 77 = .ok (.istore 8, 2) := by decide +kernel
theorem dX5_blow_79 : decode cX5_blow 79 = .ok (.iload 8, 2) := by decide +kernel
theorem dX5_blow_81 : decode cX5_blow 81 = .ok (.iload 6, 2) := by decide +kernel
theorem dX5_blow_83 : decode cX5_blow 83 = .ok (.if_icmp .ge 8, 3) := by decide +kernel
theorem dX5_blow_86 : decode cX5_blow 86 = .ok (.iload 7, 2) := by decide +kernel
theorem dX5_blow_88 : decode cX5_blow 88 = .ok (.goto 5, 3) := by decide +kernel
theorem dX5_blow_91 : decode cX5_blow 91 = .ok (.iload 5, 2) := by decide +kernel
theorem dX5_blow_93 : decode cX5_blow 93 = .ok (.istore 5, 2) := by decide +kernel
theorem dX5_blow_95 : decode cX5_blow 95 = .ok (.iload 8, 2) := by decide +kernel
theorem dX5_blow_97 : decode cX5_blow 97 = .ok (.iload 6, 2) := by decide +kernel
theorem dX5_blow_99 : decode cX5_blow 99 = .ok (.if_icmp .ge 8, 3) := by decide +kernel
theorem dX5_blow_102 : decode cX5_blow 102 = .ok (.iload 8, 2) := by decide +kernel
theorem dX5_blow_104 : decode cX5_blow 104 = .ok (.goto 5, 3) := by decide +kernel
theorem dX5_blow_107 : decode cX5_blow 107 = .ok (.iload 6, 2) := by decide +kernel
theorem dX5_blow_109 : decode cX5_blow 109 = .ok (.istore 6, 2) := by decide +kernel
theorem dX5_blow_111 : decode cX5_blow 111 = .ok (.iinc 7 1, 3) := by decide +kernel
theorem dX5_blow_114 : decode cX5_blow 114 = .ok (.goto (-74), 3) := by decide +kernel
theorem dX5_blow_117 : decode cX5_blow 117 = .ok (.aload_n 0, 1) := by decide +kernel
theorem dX5_blow_118 : decode cX5_blow 118 = .ok (.lload_n 3, 1) := by decide +kernel
theorem dX5_blow_119 : decode cX5_blow 119 = .ok (.putfield 85, 3) := by decide +kernel
theorem dX5_blow_122 : decode cX5_blow 122 = .ok (.iload_n 2, 1) := by decide +kernel
theorem dX5_blow_123 : decode cX5_blow 123 = .ok (.ifCond .ne 8, 3) := by decide +kernel
theorem dX5_blow_126 : decode cX5_blow 126 = .ok (.iload 5, 2) := by decide +kernel
theorem dX5_blow_128 : decode cX5_blow 128 = .ok (.goto 5, 3) := by decide +kernel
theorem dX5_blow_131 : decode cX5_blow 131 = .ok (.iload 6, 2) := by decide +kernel
theorem dX5_blow_133 : decode cX5_blow 133 = .ok (.ireturn, 1) := by decide +kernel
def b_X5_blow_93 (kc40 : Int32 → Int32 → Int64 → Int32 → Int32 → Int32 → GM → Option (Int32 × GM)) (x1 : Int32) (x2 : Int32) (x3 : Int64) (x6 : Int32) (x7 : Int32) (x8 : Int32) (xs0 : Int32) (σ : GM) : Option (Int32 × GM) :=
  if x6 ≤ x8 then (kc40 x1 x2 x3 xs0 x6 (x7 + (1 : Int32)) σ) else (kc40 x1 x2 x3 xs0 x8 (x7 + (1 : Int32)) σ)
theorem vb_X5_blow_93 {g : Gt} {ad : Nat → Nat} (z : Zt) (kc40 : Int32 → Int32 → Int64 → Int32 → Int32 → Int32 → GM → Option (Int32 × GM)) (hkc40 : ∀ (x1 : Int32) (x2 : Int32) (x3 : Int64) (x5 : Int32) (x6 : Int32) (x7 : Int32) (σ : GM), V g (LM ad) 10 RX5 cX5_blow 9 (some .int) (wM g ad) iI z (kc40 x1 x2 x3 x5 x6 x7 σ) σ 40 [(0, .ref (aMo ad)), (1, .int x1), (2, .int x2), (3, .long x3), (5, .int x5), (6, .int x6), (7, .int x7)] []) (x1 : Int32) (x2 : Int32) (x3 : Int64) (x6 : Int32) (x7 : Int32) (x8 : Int32) (xs0 : Int32) (σ : GM) : V g (LM ad) 10 RX5 cX5_blow 9 (some .int) (wM g ad) iI z (b_X5_blow_93 kc40 x1 x2 x3 x6 x7 x8 xs0 σ) σ 93 [(0, .ref (aMo ad)), (1, .int x1), (2, .int x2), (3, .long x3), (6, .int x6), (7, .int x7), (8, .int x8)] [.int xs0] := by
  unfold b_X5_blow_93
  refine v_istore (pc := 93) (lv' := [(5, .int xs0), (0, .ref (aMo ad)), (1, .int x1), (2, .int x2), (3, .long x3), (6, .int x6), (7, .int x7), (8, .int x8)]) (i := 5) dX5_blow_93 (by decide) rfl ?_
  refine v_iload (pc := 95) (i := 8) dX5_blow_95 rfl ?_
  refine v_iload (pc := 97) (i := 6) dX5_blow_97 rfl ?_
  refine v_icmp_ge (pc := 99) (tgt := 107) dX5_blow_99 rfl ?_ ?_
  · refine v_iload (pc := 107) (i := 6) dX5_blow_107 rfl ?_
    refine v_istore (pc := 109) (lv' := [(6, .int x6), (5, .int xs0), (0, .ref (aMo ad)), (1, .int x1), (2, .int x2), (3, .long x3), (7, .int x7), (8, .int x8)]) (i := 6) dX5_blow_109 (by decide) rfl ?_
    refine v_iinc (pc := 111) (lv' := [(7, .int (x7 + (1 : Int32))), (6, .int x6), (5, .int xs0), (0, .ref (aMo ad)), (1, .int x1), (2, .int x2), (3, .long x3), (8, .int x8)]) (i := 7) dX5_blow_111 rfl ic_1 (by decide) rfl ?_
    refine v_goto (pc := 114) (tgt := 40) dX5_blow_114 rfl ?_
    exact v_sub [3, 4, 5, 6, 2, 1, 0] rfl (hkc40 x1 x2 x3 xs0 x6 (x7 + (1 : Int32)) σ)
  · refine v_iload (pc := 102) (i := 8) dX5_blow_102 rfl ?_
    refine v_goto (pc := 104) (tgt := 109) dX5_blow_104 rfl ?_
    refine v_istore (pc := 109) (lv' := [(6, .int x8), (5, .int xs0), (0, .ref (aMo ad)), (1, .int x1), (2, .int x2), (3, .long x3), (7, .int x7), (8, .int x8)]) (i := 6) dX5_blow_109 (by decide) rfl ?_
    refine v_iinc (pc := 111) (lv' := [(7, .int (x7 + (1 : Int32))), (6, .int x8), (5, .int xs0), (0, .ref (aMo ad)), (1, .int x1), (2, .int x2), (3, .long x3), (8, .int x8)]) (i := 7) dX5_blow_111 rfl ic_1 (by decide) rfl ?_
    refine v_goto (pc := 114) (tgt := 40) dX5_blow_114 rfl ?_
    exact v_sub [3, 4, 5, 6, 2, 1, 0] rfl (hkc40 x1 x2 x3 xs0 x8 (x7 + (1 : Int32)) σ)
def b_X5_blow_40 (kc40 : Int32 → Int32 → Int64 → Int32 → Int32 → Int32 → GM → Option (Int32 × GM)) (x1 : Int32) (x2 : Int32) (x3 : Int64) (x5 : Int32) (x6 : Int32) (x7 : Int32) (σ : GM) : Option (Int32 × GM) :=
  if (36 : Int32) ≤ x7 then (bnd (some (tL σ 0 x3)) fun σ5 => if x2 ≠ 0 then (some (x6, σ5)) else (some (x5, σ5))) else (if (lg_cmp ((srL x3 x7) &&& (1 : Int64)) (1 : Int64)) ≠ 0 then (kc40 x1 x2 x3 x5 x6 (x7 + (1 : Int32)) σ) else (bnd (some (tL σ 0 (x3 &&& ((slL (1 : Int64) x7) ^^^ (-1 : Int64))))) fun σ6 => bnd (f_X5_lostNow x1 σ6) fun q7 => if x6 ≤ q7.1 then (b_X5_blow_93 kc40 x1 x2 x3 x6 x7 q7.1 x5 q7.2) else (b_X5_blow_93 kc40 x1 x2 x3 x6 x7 q7.1 x7 q7.2)))
theorem vb_X5_blow_40 {g : Gt} {ad : Nat → Nat} (z : Zt) (kc40 : Int32 → Int32 → Int64 → Int32 → Int32 → Int32 → GM → Option (Int32 × GM)) (hkc40 : ∀ (x1 : Int32) (x2 : Int32) (x3 : Int64) (x5 : Int32) (x6 : Int32) (x7 : Int32) (σ : GM), V g (LM ad) 10 RX5 cX5_blow 9 (some .int) (wM g ad) iI z (kc40 x1 x2 x3 x5 x6 x7 σ) σ 40 [(0, .ref (aMo ad)), (1, .int x1), (2, .int x2), (3, .long x3), (5, .int x5), (6, .int x6), (7, .int x7)] []) (x1 : Int32) (x2 : Int32) (x3 : Int64) (x5 : Int32) (x6 : Int32) (x7 : Int32) (σ : GM) : V g (LM ad) 10 RX5 cX5_blow 9 (some .int) (wM g ad) iI z (b_X5_blow_40 kc40 x1 x2 x3 x5 x6 x7 σ) σ 40 [(0, .ref (aMo ad)), (1, .int x1), (2, .int x2), (3, .long x3), (5, .int x5), (6, .int x6), (7, .int x7)] [] := by
  unfold b_X5_blow_40
  refine v_iload (pc := 40) (i := 7) dX5_blow_40 rfl ?_
  refine v_bipush (pc := 42) dX5_blow_42 bp_36 ?_
  refine v_icmp_ge (pc := 44) (tgt := 117) dX5_blow_44 rfl ?_ ?_
  · refine v_aload_n (pc := 117) (i := 0) dX5_blow_117 rfl rfl ?_
    refine v_lload_n (pc := 118) (i := 3) dX5_blow_118 rfl rfl ?_
    refine pX5_rocks (pc := 119) q_761 dX5_blow_119 ?_
    refine v_nms (fun σ5 => ?_)
    refine v_iload_n (pc := 122) (i := 2) dX5_blow_122 rfl rfl ?_
    refine v_if_ne (pc := 123) (tgt := 131) dX5_blow_123 rfl ?_ ?_
    · refine v_iload (pc := 131) (i := 6) dX5_blow_131 rfl ?_
      exact v_iret (pc := 133) dX5_blow_133
    · refine v_iload (pc := 126) (i := 5) dX5_blow_126 rfl ?_
      refine v_goto (pc := 128) (tgt := 133) dX5_blow_128 rfl ?_
      exact v_iret (pc := 133) dX5_blow_133
  · refine v_lload_n (pc := 47) (i := 3) dX5_blow_47 rfl rfl ?_
    refine v_iload (pc := 48) (i := 7) dX5_blow_48 rfl ?_
    refine v_lshr (pc := 50) dX5_blow_50 ?_
    refine v_lconst (pc := 51) dX5_blow_51 lc_1 ?_
    refine v_land (pc := 52) dX5_blow_52 ?_
    refine v_lconst (pc := 53) dX5_blow_53 lc_1 ?_
    refine v_lcmp (pc := 54) dX5_blow_54 ?_
    refine v_if_ne (pc := 55) (tgt := 111) dX5_blow_55 rfl ?_ ?_
    · refine v_iinc (pc := 111) (lv' := [(7, .int (x7 + (1 : Int32))), (0, .ref (aMo ad)), (1, .int x1), (2, .int x2), (3, .long x3), (5, .int x5), (6, .int x6)]) (i := 7) dX5_blow_111 rfl ic_1 (by decide) rfl ?_
      refine v_goto (pc := 114) (tgt := 40) dX5_blow_114 rfl ?_
      exact v_sub [1, 2, 3, 4, 5, 6, 0] rfl (hkc40 x1 x2 x3 x5 x6 (x7 + (1 : Int32)) σ)
    · refine v_aload_n (pc := 58) (i := 0) dX5_blow_58 rfl rfl ?_
      refine v_lload_n (pc := 59) (i := 3) dX5_blow_59 rfl rfl ?_
      refine v_lconst (pc := 60) dX5_blow_60 lc_1 ?_
      refine v_iload (pc := 61) (i := 7) dX5_blow_61 rfl ?_
      refine v_lshl (pc := 63) dX5_blow_63 ?_
      refine v_ldc2 (pc := 64) dX5_blow_64 q_892 ?_
      refine v_lxor (pc := 67) dX5_blow_67 ?_
      refine v_land (pc := 68) dX5_blow_68 ?_
      refine pX5_rocks (pc := 69) q_761 dX5_blow_69 ?_
      refine v_nms (fun σ6 => ?_)
      refine v_aload_n (pc := 72) (i := 0) dX5_blow_72 rfl rfl ?_
      refine v_iload_n (pc := 73) (i := 1) dX5_blow_73 rfl rfl ?_
      refine v_callVi (pc := 74) rcX5 (As := [.int x1]) (rest := []) (ct_X5_lostNow x1) mi_X5_lostNow q_1036 (by decide) rfl rfl (Nat.le_of_ble_eq_true rfl) dX5_blow_74 (fun q7 => ?_)
      refine v_istore (pc := 77) (lv' := [(8, .int q7.1), (0, .ref (aMo ad)), (1, .int x1), (2, .int x2), (3, .long x3), (5, .int x5), (6, .int x6), (7, .int x7)]) (i := 8) dX5_blow_77 (by decide) rfl ?_
      refine v_iload (pc := 79) (i := 8) dX5_blow_79 rfl ?_
      refine v_iload (pc := 81) (i := 6) dX5_blow_81 rfl ?_
      refine v_icmp_ge (pc := 83) (tgt := 91) dX5_blow_83 rfl ?_ ?_
      · refine v_iload (pc := 91) (i := 5) dX5_blow_91 rfl ?_
        exact v_sub [1, 2, 3, 4, 6, 7, 0] rfl (vb_X5_blow_93 z kc40 hkc40 x1 x2 x3 x6 x7 q7.1 x5 q7.2)
      · refine v_iload (pc := 86) (i := 7) dX5_blow_86 rfl ?_
        refine v_goto (pc := 88) (tgt := 93) dX5_blow_88 rfl ?_
        exact v_sub [1, 2, 3, 4, 6, 7, 0] rfl (vb_X5_blow_93 z kc40 hkc40 x1 x2 x3 x6 x7 q7.1 x7 q7.2)
def k_X5_blow_40 : Nat → Int32 → Int32 → Int64 → Int32 → Int32 → Int32 → GM → Option (Int32 × GM)
  | 0 => fun _ _ _ _ _ _ _ => none
  | n + 1 => b_X5_blow_40 (k_X5_blow_40 n)
theorem vk_X5_blow_40 {g : Gt} {ad : Nat → Nat} (z : Zt) : ∀ (n : Nat) (x1 : Int32) (x2 : Int32) (x3 : Int64) (x5 : Int32) (x6 : Int32) (x7 : Int32) (σ : GM), V g (LM ad) 10 RX5 cX5_blow 9 (some .int) (wM g ad) iI z (k_X5_blow_40 n x1 x2 x3 x5 x6 x7 σ) σ 40 [(0, .ref (aMo ad)), (1, .int x1), (2, .int x2), (3, .long x3), (5, .int x5), (6, .int x6), (7, .int x7)] [] := by
  intro n
  induction n with
  | zero => intros; exact v_eq rfl v_none
  | succ n ih =>
    intro x1 x2 x3 x5 x6 x7 σ
    exact v_eq rfl (vb_X5_blow_40 z _ ih x1 x2 x3 x5 x6 x7 σ)
def f_X5_blow (x1 : Int32) (x2 : Int32) (σ : GM) : Option (Int32 × GM) :=
  bnd (f_X5_in x1 (0 : Int32) (20 : Int32) σ) fun q1 => if q1.1 = 0 then (some ((-2 : Int32), q1.2)) else (bnd (f_X5_in x2 (0 : Int32) (1 : Int32) q1.2) fun q2 => if q2.1 ≠ 0 then (bnd (some (mL q2.2 0)) fun w3 => bnd (f_X5_lostNow x1 q2.2) fun q4 => k_X5_blow_40 FU x1 x2 w3 (-1 : Int32) q4.1 (0 : Int32) q4.2) else (some ((-2 : Int32), q2.2)))
theorem vf_X5_blow {g : Gt} {ad : Nat → Nat} (z : Zt) (x1 : Int32) (x2 : Int32) (σ : GM) : V g (LM ad) 10 RX5 cX5_blow 9 (some .int) (wM g ad) iI z (f_X5_blow x1 x2 σ) σ 0 [(0, .ref (aMo ad)), (1, .int x1), (2, .int x2)] [] := by
  unfold f_X5_blow
  refine v_iload_n (pc := 0) (i := 1) dX5_blow_0 rfl rfl ?_
  refine v_iconst (pc := 1) dX5_blow_1 ic_0 ?_
  refine v_bipush (pc := 2) dX5_blow_2 bp_20 ?_
  refine v_callSi (pc := 4) (av := [.int x1, .int (0 : Int32), .int (20 : Int32)]) (rest := []) (ct_X5_in x1 (0 : Int32) (20 : Int32)) mi_X5_in q_715 (by decide) rfl rfl (Nat.le_of_ble_eq_true rfl) dX5_blow_4 (fun q1 => ?_)
  refine v_if_eq (pc := 7) (tgt := 19) dX5_blow_7 rfl ?_ ?_
  · refine v_bipush (pc := 19) dX5_blow_19 bp_m2 ?_
    exact v_iret (pc := 21) dX5_blow_21
  · refine v_iload_n (pc := 10) (i := 2) dX5_blow_10 rfl rfl ?_
    refine v_iconst (pc := 11) dX5_blow_11 ic_0 ?_
    refine v_iconst (pc := 12) dX5_blow_12 ic_1 ?_
    refine v_callSi (pc := 13) (av := [.int x2, .int (0 : Int32), .int (1 : Int32)]) (rest := []) (ct_X5_in x2 (0 : Int32) (1 : Int32)) mi_X5_in q_715 (by decide) rfl rfl (Nat.le_of_ble_eq_true rfl) dX5_blow_13 (fun q2 => ?_)
    refine v_if_ne (pc := 16) (tgt := 22) dX5_blow_16 rfl ?_ ?_
    · refine v_aload_n (pc := 22) (i := 0) dX5_blow_22 rfl rfl ?_
      refine gX5_rocks (pc := 23) q_761 dX5_blow_23 ?_
      refine v_nml (fun w3 => ?_)
      refine v_lstore_n (pc := 26) (lv' := [(3, .long w3), (0, .ref (aMo ad)), (1, .int x1), (2, .int x2)]) (i := 3) dX5_blow_26 rfl (by decide) rfl ?_
      refine v_iconst (pc := 27) dX5_blow_27 ic_m1 ?_
      refine v_istore (pc := 28) (lv' := [(5, .int (-1 : Int32)), (3, .long w3), (0, .ref (aMo ad)), (1, .int x1), (2, .int x2)]) (i := 5) dX5_blow_28 (by decide) rfl ?_
      refine v_aload_n (pc := 30) (i := 0) dX5_blow_30 rfl rfl ?_
      refine v_iload_n (pc := 31) (i := 1) dX5_blow_31 rfl rfl ?_
      refine v_callVi (pc := 32) rcX5 (As := [.int x1]) (rest := []) (ct_X5_lostNow x1) mi_X5_lostNow q_1036 (by decide) rfl rfl (Nat.le_of_ble_eq_true rfl) dX5_blow_32 (fun q4 => ?_)
      refine v_istore (pc := 35) (lv' := [(6, .int q4.1), (5, .int (-1 : Int32)), (3, .long w3), (0, .ref (aMo ad)), (1, .int x1), (2, .int x2)]) (i := 6) dX5_blow_35 (by decide) rfl ?_
      refine v_iconst (pc := 37) dX5_blow_37 ic_0 ?_
      refine v_istore (pc := 38) (lv' := [(7, .int (0 : Int32)), (6, .int q4.1), (5, .int (-1 : Int32)), (3, .long w3), (0, .ref (aMo ad)), (1, .int x1), (2, .int x2)]) (i := 7) dX5_blow_38 (by decide) rfl ?_
      exact v_sub [4, 5, 6, 3, 2, 1, 0] rfl (vk_X5_blow_40 z FU x1 x2 w3 (-1 : Int32) q4.1 (0 : Int32) q4.2)
    · refine v_bipush (pc := 19) dX5_blow_19 bp_m2 ?_
      exact v_iret (pc := 21) dX5_blow_21
theorem ct_X5_blow {g : Gt} {ad : Nat → Nat} (x1 : Int32) (x2 : Int32) : CT g (LM ad) yX5_blow cX5_blow 9 (some .int) 10 [.ref (aMo ad), .int x1, .int x2] iI (wM g ad) (f_X5_blow x1 x2) :=
  ct_of_V (own := RX5) (lv0 := [(0, .ref (aMo ad)), (1, .int x1), (2, .int x2)]) (by decide +kernel) rfl (Nat.le_of_ble_eq_true rfl) rfl (fun z σ => vf_X5_blow z x1 x2 σ)
-- LighthouseLiedToModel.safe
theorem dX5_safe_0 : decode cX5_safe 0 = .ok (.aload_n 0, 1) := by decide +kernel
theorem dX5_safe_1 : decode cX5_safe 1 = .ok (.iload_n 1, 1) := by decide +kernel
theorem dX5_safe_2 : decode cX5_safe 2 = .ok (.invokevirtual 192, 3) := by decide +kernel
theorem dX5_safe_5 : decode cX5_safe 5 = .ok (.ifCond .eq 13, 3) := by decide +kernel
theorem dX5_safe_8 : decode cX5_safe 8 = .ok (.iload_n 2, 1) := by decide +kernel
theorem dX5_safe_9 : decode cX5_safe 9 = .ok (.iconst 0, 1) := by decide +kernel
theorem dX5_safe_10 : decode cX5_safe 10 = .ok (.bipush 20, 2) := by decide +kernel
theorem dX5_safe_12 : decode cX5_safe 12 = .ok (.invokestatic 78, 3) := by decide +kernel
theorem dX5_safe_15 : decode cX5_safe 15 = .ok (.ifCond .ne 7, 3) := by decide +kernel
theorem dX5_safe_18 : decode cX5_safe 18 = .ok (.ldc2_w 235, 3) := by decide +kernel
theorem dX5_safe_21 : decode cX5_safe 21 = .ok (.lreturn, 1) := by decide +kernel
theorem dX5_safe_22 : decode cX5_safe 22 = .ok (.aload_n 0, 1) := by decide +kernel
theorem dX5_safe_23 : decode cX5_safe 23 = .ok (.getfield 22, 3) := by decide +kernel
theorem dX5_safe_26 : decode cX5_safe 26 = .ok (.iload_n 1, 1) := by decide +kernel
theorem dX5_safe_27 : decode cX5_safe 27 = .ok (.iaload, 1) := by decide +kernel
theorem dX5_safe_28 : decode cX5_safe 28 = .ok (.iconst 1, 1) := by decide +kernel
theorem dX5_safe_29 : decode cX5_safe 29 = .ok (.if_icmp .ne 7, 3) := by decide +kernel
theorem dX5_safe_32 : decode cX5_safe 32 = .ok (.ldc2_w 235, 3) := by decide +kernel
theorem dX5_safe_35 : decode cX5_safe 35 = .ok (.lreturn, 1) := by decide +kernel
theorem dX5_safe_36 : decode cX5_safe 36 = .ok (.aload_n 0, 1) := by decide +kernel
theorem dX5_safe_37 : decode cX5_safe 37 = .ok (.getfield 16, 3) := by decide +kernel
theorem dX5_safe_40 : decode cX5_safe 40 = .ok (.iload_n 1, 1) := by decide +kernel
theorem dX5_safe_41 : decode cX5_safe 41 = .ok (.iaload, 1) := by decide +kernel
theorem dX5_safe_42 : decode cX5_safe 42 = .ok (.istore_n 3, 1) := by decide +kernel
theorem dX5_safe_43 : decode cX5_safe 43 = .ok (.lconst 0, 1) := by decide +kernel
theorem dX5_safe_44 : decode cX5_safe 44 = .ok (.lstore 4, 2) := by decide +kernel
theorem dX5_safe_46 : decode cX5_safe 46 = .ok (.iconst 0, 1) := by decide +kernel
theorem dX5_safe_47 : decode cX5_safe 47 = .ok (.istore 6, 2) := by decide +kernel
theorem dX5_safe_49 : decode cX5_safe 49 = .ok (.iload 6, 2) := by decide +kernel
theorem dX5_safe_51 : decode cX5_safe 51 = .ok (.bipush 36, 2) := by decide +kernel
theorem dX5_safe_53 : decode cX5_safe 53 = .ok (.if_icmp .ge 53, 3) := by decide +kernel
theorem dX5_safe_56 : decode cX5_safe 56 = .ok (.aload_n 0, 1) := by decide +kernel
theorem dX5_safe_57 : decode cX5_safe 57 = .ok (.getfield 16, 3) := by decide +kernel
theorem dX5_safe_60 : decode cX5_safe 60 = .ok (.iload_n 1, 1) := by decide +kernel
theorem dX5_safe_61 : decode cX5_safe 61 = .ok (.iload 6, 2) := by decide +kernel
theorem dX5_safe_63 : decode cX5_safe 63 = .ok (.iastore, 1) := by decide +kernel
theorem dX5_safe_64 : decode cX5_safe 64 = .ok (.aload_n 0, 1) := by decide +kernel
theorem dX5_safe_65 : decode cX5_safe 65 = .ok (.invokevirtual 223, 3) := by decide +kernel
theorem dX5_safe_68 : decode cX5_safe 68 = .ok (.aload_n 0, 1) := by decide +kernel
theorem dX5_safe_69 : decode cX5_safe 69 = .ok (.iload_n 2, 1) := by decide +kernel
theorem dX5_safe_70 : decode cX5_safe 70 = .ok (.invokevirtual 226, 3) := by decide +kernel
theorem dX5_safe_73 : decode cX5_safe 73 = .ok (.pop, 1) := by decide +kernel
theorem dX5_safe_74 : decode cX5_safe 74 = .ok (.lload 4, 2) := by decide +kernel
theorem dX5_safe_76 : decode cX5_safe 76 = .ok (.aload_n 0, 1) := by decide +kernel
theorem dX5_safe_77 : decode cX5_safe 77 = .ok (.getfield 22, 3) := by decide +kernel
theorem dX5_safe_80 : decode cX5_safe 80 = .ok (.iload_n 1, 1) := by decide +kernel
theorem dX5_safe_81 : decode cX5_safe 81 = .ok (.iaload, 1) := by decide +kernel
theorem dX5_safe_82 : decode cX5_safe 82 = .ok (.ifCond .ne 10, 3) := by decide +kernel
theorem dX5_safe_85 : decode cX5_safe 85 = .ok (.lconst 1, 1) := by decide +kernel
theorem dX5_safe_86 : decode cX5_safe 86 = .ok (.iload 6, 2) := by decide +kernel
theorem dX5_safe_88 : decode cX5_safe 88 = .ok (.lshl, 1) := by decide +kernel
theorem dX5_safe_89 : decode cX5_safe 89 = .ok (.goto 4, 3) := by decide +kernel
theorem dX5_safe_92 : decode cX5_safe 92 = .ok (.lconst 0, 1) := by decide +kernel
theorem dX5_safe_93 : decode cX5_safe 93 = .ok (.lor, 1) := by decide +kernel
theorem dX5_safe_94 : decode cX5_safe 94 = .ok (.lstore 4, 2) := by decide +kernel
theorem dX5_safe_96 : decode cX5_safe 96 = .ok (.aload_n 0, 1) := by decide +kernel
theorem dX5_safe_97 : decode cX5_safe 97 = .ok (.invokevirtual 232, 3) := by decide +kernel
theorem dX5_safe_100 : decode cX5_safe 100 = .ok (.iinc 6 1, 3) := by decide +kernel
theorem dX5_safe_103 : decode cX5_safe 103 = .ok (.goto (-54), 3) := by decide +kernel
theorem dX5_safe_106 : decode cX5_safe 106 = .ok (.aload_n 0, 1) := by decide +kernel
theorem dX5_safe_107 : decode cX5_safe 107 = .ok (.getfield 16, 3) := by decide +kernel
theorem dX5_safe_110 : decode cX5_safe 110 = .ok (.iload_n 1, 1) := by decide +kernel
theorem dX5_safe_111 : decode cX5_safe 111 = .ok (.iload_n 3, 1) := by decide +kernel
theorem dX5_safe_112 : decode cX5_safe 112 = .ok (.iastore, 1) := by decide +kernel
theorem dX5_safe_113 : decode cX5_safe 113 = .ok (.lload 4, 2) := by decide +kernel
theorem dX5_safe_115 : decode cX5_safe 115 = .ok (.lreturn, 1) := by decide +kernel
def b_X5_safe_93 (kc49 : Int32 → Int32 → Int32 → Int64 → Int32 → GM → Option (Int64 × GM)) (x1 : Int32) (x2 : Int32) (x3 : Int32) (x6 : Int32) (xs0 : Int64) (xs1 : Int64) (σ : GM) : Option (Int64 × GM) :=
  bnd (some (xs1 ||| xs0)) fun w8 => bnd (f_X5_lays σ) fun q9 => kc49 x1 x2 x3 w8 (x6 + (1 : Int32)) q9.2
theorem vb_X5_safe_93 {g : Gt} {ad : Nat → Nat} (z : Zt) (kc49 : Int32 → Int32 → Int32 → Int64 → Int32 → GM → Option (Int64 × GM)) (hkc49 : ∀ (x1 : Int32) (x2 : Int32) (x3 : Int32) (x4 : Int64) (x6 : Int32) (σ : GM), V g (LM ad) 9 RX5 cX5_safe 7 (some .long) (wM g ad) iL z (kc49 x1 x2 x3 x4 x6 σ) σ 49 [(0, .ref (aMo ad)), (1, .int x1), (2, .int x2), (3, .int x3), (4, .long x4), (6, .int x6)] []) (x1 : Int32) (x2 : Int32) (x3 : Int32) (x6 : Int32) (xs0 : Int64) (xs1 : Int64) (σ : GM) : V g (LM ad) 9 RX5 cX5_safe 7 (some .long) (wM g ad) iL z (b_X5_safe_93 kc49 x1 x2 x3 x6 xs0 xs1 σ) σ 93 [(0, .ref (aMo ad)), (1, .int x1), (2, .int x2), (3, .int x3), (6, .int x6)] [.long xs0, .long xs1] := by
  unfold b_X5_safe_93
  refine v_lor (pc := 93) dX5_safe_93 ?_
  refine v_nml (fun w8 => ?_)
  refine v_lstore (pc := 94) (lv' := [(4, .long w8), (0, .ref (aMo ad)), (1, .int x1), (2, .int x2), (3, .int x3), (6, .int x6)]) (i := 4) dX5_safe_94 (by decide) rfl ?_
  refine v_aload_n (pc := 96) (i := 0) dX5_safe_96 rfl rfl ?_
  refine v_callVv (pc := 97) rcX5 (As := []) (rest := []) (ct_X5_lays) mi_X5_lays q_1011 (by decide) rfl rfl (Nat.le_of_ble_eq_true rfl) dX5_safe_97 (fun q9 => ?_)
  refine v_iinc (pc := 100) (lv' := [(6, .int (x6 + (1 : Int32))), (4, .long w8), (0, .ref (aMo ad)), (1, .int x1), (2, .int x2), (3, .int x3)]) (i := 6) dX5_safe_100 rfl ic_1 (by decide) rfl ?_
  refine v_goto (pc := 103) (tgt := 49) dX5_safe_103 rfl ?_
  exact v_sub [2, 3, 4, 5, 1, 0] rfl (hkc49 x1 x2 x3 w8 (x6 + (1 : Int32)) q9.2)
def b_X5_safe_49 (kc49 : Int32 → Int32 → Int32 → Int64 → Int32 → GM → Option (Int64 × GM)) (x1 : Int32) (x2 : Int32) (x3 : Int32) (x4 : Int64) (x6 : Int32) (σ : GM) : Option (Int64 × GM) :=
  if (36 : Int32) ≤ x6 then (grd x1 6 (bnd (some (tA σ 2 x1.toNatClampNeg x3)) fun σ4 => some (x4, σ4))) else (grd x1 6 (bnd (some (tA σ 2 x1.toNatClampNeg x6)) fun σ5 => bnd (f_X5_keeps σ5) fun q6 => bnd (f_X5_goes x2 q6.2) fun q7 => grd x1 6 (if (mA q7.2 4 x1.toNatClampNeg) ≠ 0 then (b_X5_safe_93 kc49 x1 x2 x3 x6 (0 : Int64) x4 q7.2) else (b_X5_safe_93 kc49 x1 x2 x3 x6 (slL (1 : Int64) x6) x4 q7.2))))
theorem vb_X5_safe_49 {g : Gt} {ad : Nat → Nat} (z : Zt) (kc49 : Int32 → Int32 → Int32 → Int64 → Int32 → GM → Option (Int64 × GM)) (hkc49 : ∀ (x1 : Int32) (x2 : Int32) (x3 : Int32) (x4 : Int64) (x6 : Int32) (σ : GM), V g (LM ad) 9 RX5 cX5_safe 7 (some .long) (wM g ad) iL z (kc49 x1 x2 x3 x4 x6 σ) σ 49 [(0, .ref (aMo ad)), (1, .int x1), (2, .int x2), (3, .int x3), (4, .long x4), (6, .int x6)] []) (x1 : Int32) (x2 : Int32) (x3 : Int32) (x4 : Int64) (x6 : Int32) (σ : GM) : V g (LM ad) 9 RX5 cX5_safe 7 (some .long) (wM g ad) iL z (b_X5_safe_49 kc49 x1 x2 x3 x4 x6 σ) σ 49 [(0, .ref (aMo ad)), (1, .int x1), (2, .int x2), (3, .int x3), (4, .long x4), (6, .int x6)] [] := by
  unfold b_X5_safe_49
  refine v_iload (pc := 49) (i := 6) dX5_safe_49 rfl ?_
  refine v_bipush (pc := 51) dX5_safe_51 bp_36 ?_
  refine v_icmp_ge (pc := 53) (tgt := 106) dX5_safe_53 rfl ?_ ?_
  · refine v_aload_n (pc := 106) (i := 0) dX5_safe_106 rfl rfl ?_
    refine gX5_onOf (pc := 107) q_757 dX5_safe_107 ?_
    refine v_iload_n (pc := 110) (i := 1) dX5_safe_110 rfl rfl ?_
    refine v_iload_n (pc := 111) (i := 3) dX5_safe_111 rfl rfl ?_
    refine sM_onOf (pc := 112) dX5_safe_112 ?_
    refine v_nms (fun σ4 => ?_)
    refine v_lload (pc := 113) (i := 4) dX5_safe_113 rfl ?_
    exact v_lret (pc := 115) dX5_safe_115
  · refine v_aload_n (pc := 56) (i := 0) dX5_safe_56 rfl rfl ?_
    refine gX5_onOf (pc := 57) q_757 dX5_safe_57 ?_
    refine v_iload_n (pc := 60) (i := 1) dX5_safe_60 rfl rfl ?_
    refine v_iload (pc := 61) (i := 6) dX5_safe_61 rfl ?_
    refine sM_onOf (pc := 63) dX5_safe_63 ?_
    refine v_nms (fun σ5 => ?_)
    refine v_aload_n (pc := 64) (i := 0) dX5_safe_64 rfl rfl ?_
    refine v_callVv (pc := 65) rcX5 (As := []) (rest := []) (ct_X5_keeps) mi_X5_keeps q_995 (by decide) rfl rfl (Nat.le_of_ble_eq_true rfl) dX5_safe_65 (fun q6 => ?_)
    refine v_aload_n (pc := 68) (i := 0) dX5_safe_68 rfl rfl ?_
    refine v_iload_n (pc := 69) (i := 2) dX5_safe_69 rfl rfl ?_
    refine v_callVi (pc := 70) rcX5 (As := [.int x2]) (rest := []) (ct_X5_goes x2) mi_X5_goes q_999 (by decide) rfl rfl (Nat.le_of_ble_eq_true rfl) dX5_safe_70 (fun q7 => ?_)
    refine v_pop (pc := 73) dX5_safe_73 rfl ?_
    refine v_lload (pc := 74) (i := 4) dX5_safe_74 rfl ?_
    refine v_aload_n (pc := 76) (i := 0) dX5_safe_76 rfl rfl ?_
    refine gX5_lost (pc := 77) q_759 dX5_safe_77 ?_
    refine v_iload_n (pc := 80) (i := 1) dX5_safe_80 rfl rfl ?_
    refine lM_lost (pc := 81) dX5_safe_81 ?_
    refine v_if_ne (pc := 82) (tgt := 92) dX5_safe_82 rfl ?_ ?_
    · refine v_lconst (pc := 92) dX5_safe_92 lc_0 ?_
      exact v_sub [0, 1, 2, 3, 5] rfl (vb_X5_safe_93 z kc49 hkc49 x1 x2 x3 x6 (0 : Int64) x4 q7.2)
    · refine v_lconst (pc := 85) dX5_safe_85 lc_1 ?_
      refine v_iload (pc := 86) (i := 6) dX5_safe_86 rfl ?_
      refine v_lshl (pc := 88) dX5_safe_88 ?_
      refine v_goto (pc := 89) (tgt := 93) dX5_safe_89 rfl ?_
      exact v_sub [0, 1, 2, 3, 5] rfl (vb_X5_safe_93 z kc49 hkc49 x1 x2 x3 x6 (slL (1 : Int64) x6) x4 q7.2)
def k_X5_safe_49 : Nat → Int32 → Int32 → Int32 → Int64 → Int32 → GM → Option (Int64 × GM)
  | 0 => fun _ _ _ _ _ _ => none
  | n + 1 => b_X5_safe_49 (k_X5_safe_49 n)
theorem vk_X5_safe_49 {g : Gt} {ad : Nat → Nat} (z : Zt) : ∀ (n : Nat) (x1 : Int32) (x2 : Int32) (x3 : Int32) (x4 : Int64) (x6 : Int32) (σ : GM), V g (LM ad) 9 RX5 cX5_safe 7 (some .long) (wM g ad) iL z (k_X5_safe_49 n x1 x2 x3 x4 x6 σ) σ 49 [(0, .ref (aMo ad)), (1, .int x1), (2, .int x2), (3, .int x3), (4, .long x4), (6, .int x6)] [] := by
  intro n
  induction n with
  | zero => intros; exact v_eq rfl v_none
  | succ n ih =>
    intro x1 x2 x3 x4 x6 σ
    exact v_eq rfl (vb_X5_safe_49 z _ ih x1 x2 x3 x4 x6 σ)
def f_X5_safe (x1 : Int32) (x2 : Int32) (σ : GM) : Option (Int64 × GM) :=
  bnd (f_X5_isShip x1 σ) fun q1 => if q1.1 = 0 then (some ((-4611686018427387904 : Int64), q1.2)) else (bnd (f_X5_in x2 (0 : Int32) (20 : Int32) q1.2) fun q2 => if q2.1 ≠ 0 then (grd x1 6 (if (mA q2.2 4 x1.toNatClampNeg) ≠ (1 : Int32) then (grd x1 6 (bnd (some (mA q2.2 2 x1.toNatClampNeg)) fun w3 => k_X5_safe_49 FU x1 x2 w3 (0 : Int64) (0 : Int32) q2.2)) else (some ((-4611686018427387904 : Int64), q2.2)))) else (some ((-4611686018427387904 : Int64), q2.2)))
theorem vf_X5_safe {g : Gt} {ad : Nat → Nat} (z : Zt) (x1 : Int32) (x2 : Int32) (σ : GM) : V g (LM ad) 9 RX5 cX5_safe 7 (some .long) (wM g ad) iL z (f_X5_safe x1 x2 σ) σ 0 [(0, .ref (aMo ad)), (1, .int x1), (2, .int x2)] [] := by
  unfold f_X5_safe
  refine v_aload_n (pc := 0) (i := 0) dX5_safe_0 rfl rfl ?_
  refine v_iload_n (pc := 1) (i := 1) dX5_safe_1 rfl rfl ?_
  refine v_callVi (pc := 2) rcX5 (As := [.int x1]) (rest := []) (ct_X5_isShip x1) mi_X5_isShip q_928 (by decide) rfl rfl (Nat.le_of_ble_eq_true rfl) dX5_safe_2 (fun q1 => ?_)
  refine v_if_eq (pc := 5) (tgt := 18) dX5_safe_5 rfl ?_ ?_
  · refine v_ldc2 (pc := 18) dX5_safe_18 q_1023 ?_
    exact v_lret (pc := 21) dX5_safe_21
  · refine v_iload_n (pc := 8) (i := 2) dX5_safe_8 rfl rfl ?_
    refine v_iconst (pc := 9) dX5_safe_9 ic_0 ?_
    refine v_bipush (pc := 10) dX5_safe_10 bp_20 ?_
    refine v_callSi (pc := 12) (av := [.int x2, .int (0 : Int32), .int (20 : Int32)]) (rest := []) (ct_X5_in x2 (0 : Int32) (20 : Int32)) mi_X5_in q_715 (by decide) rfl rfl (Nat.le_of_ble_eq_true rfl) dX5_safe_12 (fun q2 => ?_)
    refine v_if_ne (pc := 15) (tgt := 22) dX5_safe_15 rfl ?_ ?_
    · refine v_aload_n (pc := 22) (i := 0) dX5_safe_22 rfl rfl ?_
      refine gX5_lost (pc := 23) q_759 dX5_safe_23 ?_
      refine v_iload_n (pc := 26) (i := 1) dX5_safe_26 rfl rfl ?_
      refine lM_lost (pc := 27) dX5_safe_27 ?_
      refine v_iconst (pc := 28) dX5_safe_28 ic_1 ?_
      refine v_icmp_ne (pc := 29) (tgt := 36) dX5_safe_29 rfl ?_ ?_
      · refine v_aload_n (pc := 36) (i := 0) dX5_safe_36 rfl rfl ?_
        refine gX5_onOf (pc := 37) q_757 dX5_safe_37 ?_
        refine v_iload_n (pc := 40) (i := 1) dX5_safe_40 rfl rfl ?_
        refine lM_onOf (pc := 41) dX5_safe_41 ?_
        refine v_nmi (fun w3 => ?_)
        refine v_istore_n (pc := 42) (lv' := [(3, .int w3), (0, .ref (aMo ad)), (1, .int x1), (2, .int x2)]) (i := 3) dX5_safe_42 rfl (by decide) rfl ?_
        refine v_lconst (pc := 43) dX5_safe_43 lc_0 ?_
        refine v_lstore (pc := 44) (lv' := [(4, .long (0 : Int64)), (3, .int w3), (0, .ref (aMo ad)), (1, .int x1), (2, .int x2)]) (i := 4) dX5_safe_44 (by decide) rfl ?_
        refine v_iconst (pc := 46) dX5_safe_46 ic_0 ?_
        refine v_istore (pc := 47) (lv' := [(6, .int (0 : Int32)), (4, .long (0 : Int64)), (3, .int w3), (0, .ref (aMo ad)), (1, .int x1), (2, .int x2)]) (i := 6) dX5_safe_47 (by decide) rfl ?_
        exact v_sub [3, 4, 5, 2, 1, 0] rfl (vk_X5_safe_49 z FU x1 x2 w3 (0 : Int64) (0 : Int32) q2.2)
      · refine v_ldc2 (pc := 32) dX5_safe_32 q_1023 ?_
        exact v_lret (pc := 35) dX5_safe_35
    · refine v_ldc2 (pc := 18) dX5_safe_18 q_1023 ?_
      exact v_lret (pc := 21) dX5_safe_21
theorem ct_X5_safe {g : Gt} {ad : Nat → Nat} (x1 : Int32) (x2 : Int32) : CT g (LM ad) yX5_safe cX5_safe 7 (some .long) 9 [.ref (aMo ad), .int x1, .int x2] iL (wM g ad) (f_X5_safe x1 x2) :=
  ct_of_V (own := RX5) (lv0 := [(0, .ref (aMo ad)), (1, .int x1), (2, .int x2)]) (by decide +kernel) rfl (Nat.le_of_ble_eq_true rfl) rfl (fun z σ => vf_X5_safe z x1 x2 σ)
-- LighthouseLiedToModel.trust
theorem dX5_trust_0 : decode cX5_trust 0 = .ok (.iload_n 1, 1) := by decide +kernel
theorem dX5_trust_1 : decode cX5_trust 1 = .ok (.invokestatic 115, 3) := by decide +kernel
theorem dX5_trust_4 : decode cX5_trust 4 = .ok (.ifCond .ne 6, 3) := by decide +kernel
theorem dX5_trust_7 : decode cX5_trust 7 = .ok (.bipush (-5), 2) := by decide +kernel
theorem dX5_trust_9 : decode cX5_trust 9 = .ok (.ireturn, 1) := by decide +kernel
theorem dX5_trust_10 : decode cX5_trust 10 = .ok (.iload_n 2, 1) := by decide +kernel
theorem dX5_trust_11 : decode cX5_trust 11 = .ok (.bipush (-99), 2) := by decide +kernel
theorem dX5_trust_13 : decode cX5_trust 13 = .ok (.bipush 99, 2) := by decide +kernel
theorem dX5_trust_15 : decode cX5_trust 15 = .ok (.invokestatic 78, 3) := by decide +kernel
theorem dX5_trust_18 : decode cX5_trust 18 = .ok (.ifCond .eq 13, 3) := by decide +kernel
theorem dX5_trust_21 : decode cX5_trust 21 = .ok (.iload_n 3, 1) := by decide +kernel
theorem dX5_trust_22 : decode cX5_trust 22 = .ok (.iconst 0, 1) := by decide +kernel
theorem dX5_trust_23 : decode cX5_trust 23 = .ok (.bipush 10, 2) := by decide +kernel
theorem dX5_trust_25 : decode cX5_trust 25 = .ok (.invokestatic 78, 3) := by decide +kernel
theorem dX5_trust_28 : decode cX5_trust 28 = .ok (.ifCond .ne 6, 3) := by decide +kernel
theorem dX5_trust_31 : decode cX5_trust 31 = .ok (.bipush (-7), 2) := by decide +kernel
theorem dX5_trust_33 : decode cX5_trust 33 = .ok (.ireturn, 1) := by decide +kernel
theorem dX5_trust_34 : decode cX5_trust 34 = .ok (.iconst (-1), 1) := by decide +kernel
theorem dX5_trust_35 : decode cX5_trust 35 = .ok (.istore 4, 2) := by decide +kernel
theorem dX5_trust_37 : decode cX5_trust 37 = .ok (.iconst 0, 1) := by decide +kernel
theorem dX5_trust_38 : decode cX5_trust 38 = .ok (.istore 5, 2) := by decide +kernel
theorem dX5_trust_40 : decode cX5_trust 40 = .ok (.iload 5, 2) := by decide +kernel
theorem dX5_trust_42 : decode cX5_trust 42 = .ok (.bipush 90, 2) := by decide +kernel
theorem dX5_trust_44 : decode cX5_trust 44 = .ok (.if_icmp .gt 51, 3) := by decide +kernel
theorem dX5_trust_47 : decode cX5_trust 47 = .ok (.iload 4, 2) := by decide +kernel
theorem dX5_trust_49 : decode cX5_trust 49 = .ok (.iconst (-1), 1) := by decide +kernel
theorem dX5_trust_50 : decode cX5_trust 50 = .ok (.if_icmp .ne 45, 3) := by decide +kernel
theorem dX5_trust_53 : decode cX5_trust 53 = .ok (.aload_n 0, 1) := by decide +kernel
theorem dX5_trust_54 : decode cX5_trust 54 = .ok (.invokevirtual 223, 3) := by decide +kernel
theorem dX5_trust_57 : decode cX5_trust 57 = .ok (.aload_n 0, 1) := by decide +kernel
theorem dX5_trust_58 : decode cX5_trust 58 = .ok (.iload 5, 2) := by decide +kernel
theorem dX5_trust_60 : decode cX5_trust 60 = .ok (.putfield 103, 3) := by decide +kernel
theorem dX5_trust_63 : decode cX5_trust 63 = .ok (.aload_n 0, 1) := by decide +kernel
theorem dX5_trust_64 : decode cX5_trust 64 = .ok (.iload_n 1, 1) := by decide +kernel
theorem dX5_trust_65 : decode cX5_trust 65 = .ok (.iload_n 2, 1) := by decide +kernel
theorem dX5_trust_66 : decode cX5_trust 66 = .ok (.invokevirtual 124, 3) := by decide +kernel
theorem dX5_trust_69 : decode cX5_trust 69 = .ok (.aload_n 0, 1) := by decide +kernel
theorem dX5_trust_70 : decode cX5_trust 70 = .ok (.iload_n 3, 1) := by decide +kernel
theorem dX5_trust_71 : decode cX5_trust 71 = .ok (.invokevirtual 226, 3) := by decide +kernel
theorem dX5_trust_74 : decode cX5_trust 74 = .ok (.ifCond .ne 8, 3) := by decide +kernel
theorem dX5_trust_77 : decode cX5_trust 77 = .ok (.iload 5, 2) := by decide +kernel
theorem dX5_trust_79 : decode cX5_trust 79 = .ok (.goto 4, 3) := by decide +kernel
theorem dX5_trust_82 : decode cX5_trust 82 = .ok (.iconst (-1), 1) := by decide +kernel
theorem dX5_trust_83 : decode cX5_trust 83 = .ok (.istore 4, 2) := by decide +kernel
theorem dX5_trust_85 : decode cX5_trust 85 = .ok (.aload_n 0, 1) := by decide +kernel
theorem dX5_trust_86 : decode cX5_trust 86 = .ok (.invokevirtual 232, 3) := by decide +kernel
theorem dX5_trust_89 : decode cX5_trust 89 = .ok (.iinc 5 10, 3) := by decide +kernel
theorem dX5_trust_92 : decode cX5_trust 92 = .ok (.goto (-52), 3) := by decide +kernel
theorem dX5_trust_95 : decode cX5_trust 95 = .ok (.iload 4, 2) := by decide +kernel
theorem dX5_trust_97 : decode cX5_trust 97 = .ok (.ireturn, 1) := by decide +kernel
def b_X5_trust_83 (kc40 : Int32 → Int32 → Int32 → Int32 → Int32 → GM → Option (Int32 × GM)) (x1 : Int32) (x2 : Int32) (x3 : Int32) (x5 : Int32) (xs0 : Int32) (σ : GM) : Option (Int32 × GM) :=
  bnd (f_X5_lays σ) fun q8 => kc40 x1 x2 x3 xs0 (x5 + (10 : Int32)) q8.2
theorem vb_X5_trust_83 {g : Gt} {ad : Nat → Nat} (z : Zt) (kc40 : Int32 → Int32 → Int32 → Int32 → Int32 → GM → Option (Int32 × GM)) (hkc40 : ∀ (x1 : Int32) (x2 : Int32) (x3 : Int32) (x4 : Int32) (x5 : Int32) (σ : GM), V g (LM ad) 9 RX5 cX5_trust 6 (some .int) (wM g ad) iI z (kc40 x1 x2 x3 x4 x5 σ) σ 40 [(0, .ref (aMo ad)), (1, .int x1), (2, .int x2), (3, .int x3), (4, .int x4), (5, .int x5)] []) (x1 : Int32) (x2 : Int32) (x3 : Int32) (x5 : Int32) (xs0 : Int32) (σ : GM) : V g (LM ad) 9 RX5 cX5_trust 6 (some .int) (wM g ad) iI z (b_X5_trust_83 kc40 x1 x2 x3 x5 xs0 σ) σ 83 [(0, .ref (aMo ad)), (1, .int x1), (2, .int x2), (3, .int x3), (5, .int x5)] [.int xs0] := by
  unfold b_X5_trust_83
  refine v_istore (pc := 83) (lv' := [(4, .int xs0), (0, .ref (aMo ad)), (1, .int x1), (2, .int x2), (3, .int x3), (5, .int x5)]) (i := 4) dX5_trust_83 (by decide) rfl ?_
  refine v_aload_n (pc := 85) (i := 0) dX5_trust_85 rfl rfl ?_
  refine v_callVv (pc := 86) rcX5 (As := []) (rest := []) (ct_X5_lays) mi_X5_lays q_1011 (by decide) rfl rfl (Nat.le_of_ble_eq_true rfl) dX5_trust_86 (fun q8 => ?_)
  refine v_iinc (pc := 89) (lv' := [(5, .int (x5 + (10 : Int32))), (4, .int xs0), (0, .ref (aMo ad)), (1, .int x1), (2, .int x2), (3, .int x3)]) (i := 5) dX5_trust_89 rfl ic_10 (by decide) rfl ?_
  refine v_goto (pc := 92) (tgt := 40) dX5_trust_92 rfl ?_
  exact v_sub [2, 3, 4, 5, 1, 0] rfl (hkc40 x1 x2 x3 xs0 (x5 + (10 : Int32)) q8.2)
def b_X5_trust_40 (kc40 : Int32 → Int32 → Int32 → Int32 → Int32 → GM → Option (Int32 × GM)) (x1 : Int32) (x2 : Int32) (x3 : Int32) (x4 : Int32) (x5 : Int32) (σ : GM) : Option (Int32 × GM) :=
  if (90 : Int32) < x5 then (some (x4, σ)) else (if x4 ≠ (-1 : Int32) then (some (x4, σ)) else (bnd (f_X5_keeps σ) fun q4 => bnd (some (tI q4.2 2 x5)) fun σ5 => bnd (f_X5_isToldOf x1 x2 σ5) fun q6 => bnd (f_X5_goes x3 q6.2) fun q7 => if q7.1 ≠ 0 then (b_X5_trust_83 kc40 x1 x2 x3 x5 (-1 : Int32) q7.2) else (b_X5_trust_83 kc40 x1 x2 x3 x5 x5 q7.2)))
theorem vb_X5_trust_40 {g : Gt} {ad : Nat → Nat} (z : Zt) (kc40 : Int32 → Int32 → Int32 → Int32 → Int32 → GM → Option (Int32 × GM)) (hkc40 : ∀ (x1 : Int32) (x2 : Int32) (x3 : Int32) (x4 : Int32) (x5 : Int32) (σ : GM), V g (LM ad) 9 RX5 cX5_trust 6 (some .int) (wM g ad) iI z (kc40 x1 x2 x3 x4 x5 σ) σ 40 [(0, .ref (aMo ad)), (1, .int x1), (2, .int x2), (3, .int x3), (4, .int x4), (5, .int x5)] []) (x1 : Int32) (x2 : Int32) (x3 : Int32) (x4 : Int32) (x5 : Int32) (σ : GM) : V g (LM ad) 9 RX5 cX5_trust 6 (some .int) (wM g ad) iI z (b_X5_trust_40 kc40 x1 x2 x3 x4 x5 σ) σ 40 [(0, .ref (aMo ad)), (1, .int x1), (2, .int x2), (3, .int x3), (4, .int x4), (5, .int x5)] [] := by
  unfold b_X5_trust_40
  refine v_iload (pc := 40) (i := 5) dX5_trust_40 rfl ?_
  refine v_bipush (pc := 42) dX5_trust_42 bp_90 ?_
  refine v_icmp_gt (pc := 44) (tgt := 95) dX5_trust_44 rfl ?_ ?_
  · refine v_iload (pc := 95) (i := 4) dX5_trust_95 rfl ?_
    exact v_iret (pc := 97) dX5_trust_97
  · refine v_iload (pc := 47) (i := 4) dX5_trust_47 rfl ?_
    refine v_iconst (pc := 49) dX5_trust_49 ic_m1 ?_
    refine v_icmp_ne (pc := 50) (tgt := 95) dX5_trust_50 rfl ?_ ?_
    · refine v_iload (pc := 95) (i := 4) dX5_trust_95 rfl ?_
      exact v_iret (pc := 97) dX5_trust_97
    · refine v_aload_n (pc := 53) (i := 0) dX5_trust_53 rfl rfl ?_
      refine v_callVv (pc := 54) rcX5 (As := []) (rest := []) (ct_X5_keeps) mi_X5_keeps q_995 (by decide) rfl rfl (Nat.le_of_ble_eq_true rfl) dX5_trust_54 (fun q4 => ?_)
      refine v_aload_n (pc := 57) (i := 0) dX5_trust_57 rfl rfl ?_
      refine v_iload (pc := 58) (i := 5) dX5_trust_58 rfl ?_
      refine pX5_doubt (pc := 60) q_763 dX5_trust_60 ?_
      refine v_nms (fun σ5 => ?_)
      refine v_aload_n (pc := 63) (i := 0) dX5_trust_63 rfl rfl ?_
      refine v_iload_n (pc := 64) (i := 1) dX5_trust_64 rfl rfl ?_
      refine v_iload_n (pc := 65) (i := 2) dX5_trust_65 rfl rfl ?_
      refine v_callVv (pc := 66) rcX5 (As := [.int x1, .int x2]) (rest := []) (ct_X5_isToldOf x1 x2) mi_X5_isToldOf q_897 (by decide) rfl rfl (Nat.le_of_ble_eq_true rfl) dX5_trust_66 (fun q6 => ?_)
      refine v_aload_n (pc := 69) (i := 0) dX5_trust_69 rfl rfl ?_
      refine v_iload_n (pc := 70) (i := 3) dX5_trust_70 rfl rfl ?_
      refine v_callVi (pc := 71) rcX5 (As := [.int x3]) (rest := []) (ct_X5_goes x3) mi_X5_goes q_999 (by decide) rfl rfl (Nat.le_of_ble_eq_true rfl) dX5_trust_71 (fun q7 => ?_)
      refine v_if_ne (pc := 74) (tgt := 82) dX5_trust_74 rfl ?_ ?_
      · refine v_iconst (pc := 82) dX5_trust_82 ic_m1 ?_
        exact v_sub [0, 1, 2, 3, 5] rfl (vb_X5_trust_83 z kc40 hkc40 x1 x2 x3 x5 (-1 : Int32) q7.2)
      · refine v_iload (pc := 77) (i := 5) dX5_trust_77 rfl ?_
        refine v_goto (pc := 79) (tgt := 83) dX5_trust_79 rfl ?_
        exact v_sub [0, 1, 2, 3, 5] rfl (vb_X5_trust_83 z kc40 hkc40 x1 x2 x3 x5 x5 q7.2)
def k_X5_trust_40 : Nat → Int32 → Int32 → Int32 → Int32 → Int32 → GM → Option (Int32 × GM)
  | 0 => fun _ _ _ _ _ _ => none
  | n + 1 => b_X5_trust_40 (k_X5_trust_40 n)
theorem vk_X5_trust_40 {g : Gt} {ad : Nat → Nat} (z : Zt) : ∀ (n : Nat) (x1 : Int32) (x2 : Int32) (x3 : Int32) (x4 : Int32) (x5 : Int32) (σ : GM), V g (LM ad) 9 RX5 cX5_trust 6 (some .int) (wM g ad) iI z (k_X5_trust_40 n x1 x2 x3 x4 x5 σ) σ 40 [(0, .ref (aMo ad)), (1, .int x1), (2, .int x2), (3, .int x3), (4, .int x4), (5, .int x5)] [] := by
  intro n
  induction n with
  | zero => intros; exact v_eq rfl v_none
  | succ n ih =>
    intro x1 x2 x3 x4 x5 σ
    exact v_eq rfl (vb_X5_trust_40 z _ ih x1 x2 x3 x4 x5 σ)
def f_X5_trust (x1 : Int32) (x2 : Int32) (x3 : Int32) (σ : GM) : Option (Int32 × GM) :=
  bnd (f_X5_isCell x1 σ) fun q1 => if q1.1 ≠ 0 then (bnd (f_X5_in x2 (-99 : Int32) (99 : Int32) q1.2) fun q2 => if q2.1 = 0 then (some ((-7 : Int32), q2.2)) else (bnd (f_X5_in x3 (0 : Int32) (10 : Int32) q2.2) fun q3 => if q3.1 ≠ 0 then (k_X5_trust_40 FU x1 x2 x3 (-1 : Int32) (0 : Int32) q3.2) else (some ((-7 : Int32), q3.2)))) else (some ((-5 : Int32), q1.2))
theorem vf_X5_trust {g : Gt} {ad : Nat → Nat} (z : Zt) (x1 : Int32) (x2 : Int32) (x3 : Int32) (σ : GM) : V g (LM ad) 9 RX5 cX5_trust 6 (some .int) (wM g ad) iI z (f_X5_trust x1 x2 x3 σ) σ 0 [(0, .ref (aMo ad)), (1, .int x1), (2, .int x2), (3, .int x3)] [] := by
  unfold f_X5_trust
  refine v_iload_n (pc := 0) (i := 1) dX5_trust_0 rfl rfl ?_
  refine v_callSi (pc := 1) (av := [.int x1]) (rest := []) (ct_X5_isCell x1) mi_X5_isCell q_889 (by decide) rfl rfl (Nat.le_of_ble_eq_true rfl) dX5_trust_1 (fun q1 => ?_)
  refine v_if_ne (pc := 4) (tgt := 10) dX5_trust_4 rfl ?_ ?_
  · refine v_iload_n (pc := 10) (i := 2) dX5_trust_10 rfl rfl ?_
    refine v_bipush (pc := 11) dX5_trust_11 bp_m99 ?_
    refine v_bipush (pc := 13) dX5_trust_13 bp_99 ?_
    refine v_callSi (pc := 15) (av := [.int x2, .int (-99 : Int32), .int (99 : Int32)]) (rest := []) (ct_X5_in x2 (-99 : Int32) (99 : Int32)) mi_X5_in q_715 (by decide) rfl rfl (Nat.le_of_ble_eq_true rfl) dX5_trust_15 (fun q2 => ?_)
    refine v_if_eq (pc := 18) (tgt := 31) dX5_trust_18 rfl ?_ ?_
    · refine v_bipush (pc := 31) dX5_trust_31 bp_m7 ?_
      exact v_iret (pc := 33) dX5_trust_33
    · refine v_iload_n (pc := 21) (i := 3) dX5_trust_21 rfl rfl ?_
      refine v_iconst (pc := 22) dX5_trust_22 ic_0 ?_
      refine v_bipush (pc := 23) dX5_trust_23 bp_10 ?_
      refine v_callSi (pc := 25) (av := [.int x3, .int (0 : Int32), .int (10 : Int32)]) (rest := []) (ct_X5_in x3 (0 : Int32) (10 : Int32)) mi_X5_in q_715 (by decide) rfl rfl (Nat.le_of_ble_eq_true rfl) dX5_trust_25 (fun q3 => ?_)
      refine v_if_ne (pc := 28) (tgt := 34) dX5_trust_28 rfl ?_ ?_
      · refine v_iconst (pc := 34) dX5_trust_34 ic_m1 ?_
        refine v_istore (pc := 35) (lv' := [(4, .int (-1 : Int32)), (0, .ref (aMo ad)), (1, .int x1), (2, .int x2), (3, .int x3)]) (i := 4) dX5_trust_35 (by decide) rfl ?_
        refine v_iconst (pc := 37) dX5_trust_37 ic_0 ?_
        refine v_istore (pc := 38) (lv' := [(5, .int (0 : Int32)), (4, .int (-1 : Int32)), (0, .ref (aMo ad)), (1, .int x1), (2, .int x2), (3, .int x3)]) (i := 5) dX5_trust_38 (by decide) rfl ?_
        exact v_sub [2, 3, 4, 5, 1, 0] rfl (vk_X5_trust_40 z FU x1 x2 x3 (-1 : Int32) (0 : Int32) q3.2)
      · refine v_bipush (pc := 31) dX5_trust_31 bp_m7 ?_
        exact v_iret (pc := 33) dX5_trust_33
  · refine v_bipush (pc := 7) dX5_trust_7 bp_m5 ?_
    exact v_iret (pc := 9) dX5_trust_9
theorem ct_X5_trust {g : Gt} {ad : Nat → Nat} (x1 : Int32) (x2 : Int32) (x3 : Int32) : CT g (LM ad) yX5_trust cX5_trust 6 (some .int) 9 [.ref (aMo ad), .int x1, .int x2, .int x3] iI (wM g ad) (f_X5_trust x1 x2 x3) :=
  ct_of_V (own := RX5) (lv0 := [(0, .ref (aMo ad)), (1, .int x1), (2, .int x2), (3, .int x3)]) (by decide +kernel) rfl (Nat.le_of_ble_eq_true rfl) rfl (fun z σ => vf_X5_trust z x1 x2 x3 σ)
-- LighthouseLiedToModel.lowest
theorem dX5_lowest_0 : decode cX5_lowest 0 = .ok (.lload_n 0, 1) := by decide +kernel
theorem dX5_lowest_1 : decode cX5_lowest 1 = .ok (.lconst 0, 1) := by decide +kernel
theorem dX5_lowest_2 : decode cX5_lowest 2 = .ok (.lcmp, 1) := by decide +kernel
theorem dX5_lowest_3 : decode cX5_lowest 3 = .ok (.ifCond .ne 7, 3) := by decide +kernel
theorem dX5_lowest_6 : decode cX5_lowest 6 = .ok (.iload 4, 2) := by decide +kernel
theorem dX5_lowest_8 : decode cX5_lowest 8 = .ok (.i2l, 1) := by decide +kernel
theorem dX5_lowest_9 : decode cX5_lowest 9 = .ok (.lreturn, 1) := by decide +kernel
theorem dX5_lowest_10 : decode cX5_lowest 10 = .ok (.lload_n 0, 1) := by decide +kernel
theorem dX5_lowest_11 : decode cX5_lowest 11 = .ok (.lstore 5, 2) := by decide +kernel
theorem dX5_lowest_13 : decode cX5_lowest 13 = .ok (.lload_n 2, 1) := by decide +kernel
theorem dX5_lowest_14 : decode cX5_lowest 14 = .ok (.lstore 7, 2) := by decide +kernel
theorem dX5_lowest_16 : decode cX5_lowest 16 = .ok (.lload 7, 2) := by decide +kernel
theorem dX5_lowest_18 : decode cX5_lowest 18 = .ok (.lconst 0, 1) := by decide +kernel
theorem dX5_lowest_19 : decode cX5_lowest 19 = .ok (.lcmp, 1) := by decide +kernel
theorem dX5_lowest_20 : decode cX5_lowest 20 = .ok (.ifCond .eq 21, 3) := by decide +kernel
theorem dX5_lowest_23 : decode cX5_lowest 23 = .ok (.lload 5, 2) := by decide +kernel
theorem dX5_lowest_25 : decode cX5_lowest 25 = .ok (.lload 7, 2) := by decide +kernel
theorem dX5_lowest_27 : decode cX5_lowest 27 = .ok (.lrem, 1) := by decide +kernel
theorem dX5_lowest_28 : decode cX5_lowest 28 = .ok (.lstore 9, 2) := by decide +kernel
theorem dX5_lowest_30 : decode cX5_lowest 30 = .ok (.lload 7, 2) := by decide +kernel
theorem dX5_lowest_32 : decode cX5_lowest 32 = .ok (.lstore 5, 2) := by decide +kernel
theorem dX5_lowest_34 : decode cX5_lowest 34 = .ok (.lload 9, 2) := by decide +kernel
theorem dX5_lowest_36 : decode cX5_lowest 36 = .ok (.lstore 7, 2) := by decide +kernel
theorem dX5_lowest_38 : decode cX5_lowest 38 = .ok (.goto (-22), 3) := by decide +kernel
theorem dX5_lowest_41 : decode cX5_lowest 41 = .ok (.iload 4, 2) := by decide +kernel
theorem dX5_lowest_43 : decode cX5_lowest 43 = .ok (.ifCond .ne 7, 3) := by decide +kernel
theorem dX5_lowest_46 : decode cX5_lowest 46 = .ok (.lload_n 0, 1) := by decide +kernel
theorem dX5_lowest_47 : decode cX5_lowest 47 = .ok (.goto 4, 3) := by decide +kernel
theorem dX5_lowest_50 : decode cX5_lowest 50 = .ok (.lload_n 2, 1) := by decide +kernel
theorem dX5_lowest_51 : decode cX5_lowest 51 = .ok (.lload 5, 2) := by decide +kernel
theorem dX5_lowest_53 : decode cX5_lowest 53 = .ok (.ldiv, 1) := by decide +kernel
theorem dX5_lowest_54 : decode cX5_lowest 54 = .ok (.lreturn, 1) := by decide +kernel
def b_X5_lowest_16 (kc16 : Int64 → Int64 → Int32 → Int64 → Int64 → GM → Option (Int64 × GM)) (x0 : Int64) (x2 : Int64) (x4 : Int32) (x5 : Int64) (x7 : Int64) (σ : GM) : Option (Int64 × GM) :=
  if (lg_cmp x7 (0 : Int64)) = 0 then (if x4 ≠ 0 then (if ¬ x5 = 0 then (some ((x2 / x5), σ)) else none) else (if ¬ x5 = 0 then (some ((x0 / x5), σ)) else none)) else (if ¬ x7 = 0 then (bnd (some (rL x5 x7)) fun w1 => kc16 x0 x2 x4 x7 w1 σ) else none)
theorem vb_X5_lowest_16 {g : Gt} {ad : Nat → Nat} (z : Zt) (kc16 : Int64 → Int64 → Int32 → Int64 → Int64 → GM → Option (Int64 × GM)) (hkc16 : ∀ (x0 : Int64) (x2 : Int64) (x4 : Int32) (x5 : Int64) (x7 : Int64) (σ : GM), V g (LM ad) 1 RX5 cX5_lowest 11 (some .long) (wM g ad) iL z (kc16 x0 x2 x4 x5 x7 σ) σ 16 [(0, .long x0), (2, .long x2), (4, .int x4), (5, .long x5), (7, .long x7)] []) (x0 : Int64) (x2 : Int64) (x4 : Int32) (x5 : Int64) (x7 : Int64) (σ : GM) : V g (LM ad) 1 RX5 cX5_lowest 11 (some .long) (wM g ad) iL z (b_X5_lowest_16 kc16 x0 x2 x4 x5 x7 σ) σ 16 [(0, .long x0), (2, .long x2), (4, .int x4), (5, .long x5), (7, .long x7)] [] := by
  unfold b_X5_lowest_16
  refine v_lload (pc := 16) (i := 7) dX5_lowest_16 rfl ?_
  refine v_lconst (pc := 18) dX5_lowest_18 lc_0 ?_
  refine v_lcmp (pc := 19) dX5_lowest_19 ?_
  refine v_if_eq (pc := 20) (tgt := 41) dX5_lowest_20 rfl ?_ ?_
  · refine v_iload (pc := 41) (i := 4) dX5_lowest_41 rfl ?_
    refine v_if_ne (pc := 43) (tgt := 50) dX5_lowest_43 rfl ?_ ?_
    · refine v_lload_n (pc := 50) (i := 2) dX5_lowest_50 rfl rfl ?_
      refine v_lload (pc := 51) (i := 5) dX5_lowest_51 rfl ?_
      refine v_ldivG (pc := 53) dX5_lowest_53 ?_
      exact v_lret (pc := 54) dX5_lowest_54
    · refine v_lload_n (pc := 46) (i := 0) dX5_lowest_46 rfl rfl ?_
      refine v_goto (pc := 47) (tgt := 51) dX5_lowest_47 rfl ?_
      refine v_lload (pc := 51) (i := 5) dX5_lowest_51 rfl ?_
      refine v_ldivG (pc := 53) dX5_lowest_53 ?_
      exact v_lret (pc := 54) dX5_lowest_54
  · refine v_lload (pc := 23) (i := 5) dX5_lowest_23 rfl ?_
    refine v_lload (pc := 25) (i := 7) dX5_lowest_25 rfl ?_
    refine v_lremG (pc := 27) dX5_lowest_27 ?_
    refine v_nml (fun w1 => ?_)
    refine v_lstore (pc := 28) (lv' := [(9, .long w1), (0, .long x0), (2, .long x2), (4, .int x4), (5, .long x5), (7, .long x7)]) (i := 9) dX5_lowest_28 (by decide) rfl ?_
    refine v_lload (pc := 30) (i := 7) dX5_lowest_30 rfl ?_
    refine v_lstore (pc := 32) (lv' := [(5, .long x7), (9, .long w1), (0, .long x0), (2, .long x2), (4, .int x4), (7, .long x7)]) (i := 5) dX5_lowest_32 (by decide) rfl ?_
    refine v_lload (pc := 34) (i := 9) dX5_lowest_34 rfl ?_
    refine v_lstore (pc := 36) (lv' := [(7, .long w1), (5, .long x7), (9, .long w1), (0, .long x0), (2, .long x2), (4, .int x4)]) (i := 7) dX5_lowest_36 (by decide) rfl ?_
    refine v_goto (pc := 38) (tgt := 16) dX5_lowest_38 rfl ?_
    exact v_sub [3, 4, 5, 1, 0] rfl (hkc16 x0 x2 x4 x7 w1 σ)
def k_X5_lowest_16 : Nat → Int64 → Int64 → Int32 → Int64 → Int64 → GM → Option (Int64 × GM)
  | 0 => fun _ _ _ _ _ _ => none
  | n + 1 => b_X5_lowest_16 (k_X5_lowest_16 n)
theorem vk_X5_lowest_16 {g : Gt} {ad : Nat → Nat} (z : Zt) : ∀ (n : Nat) (x0 : Int64) (x2 : Int64) (x4 : Int32) (x5 : Int64) (x7 : Int64) (σ : GM), V g (LM ad) 1 RX5 cX5_lowest 11 (some .long) (wM g ad) iL z (k_X5_lowest_16 n x0 x2 x4 x5 x7 σ) σ 16 [(0, .long x0), (2, .long x2), (4, .int x4), (5, .long x5), (7, .long x7)] [] := by
  intro n
  induction n with
  | zero => intros; exact v_eq rfl v_none
  | succ n ih =>
    intro x0 x2 x4 x5 x7 σ
    exact v_eq rfl (vb_X5_lowest_16 z _ ih x0 x2 x4 x5 x7 σ)
def f_X5_lowest (x0 : Int64) (x2 : Int64) (x4 : Int32) (σ : GM) : Option (Int64 × GM) :=
  if (lg_cmp x0 (0 : Int64)) ≠ 0 then (k_X5_lowest_16 FU x0 x2 x4 x0 x2 σ) else (some (x4.toInt64, σ))
theorem vf_X5_lowest {g : Gt} {ad : Nat → Nat} (z : Zt) (x0 : Int64) (x2 : Int64) (x4 : Int32) (σ : GM) : V g (LM ad) 1 RX5 cX5_lowest 11 (some .long) (wM g ad) iL z (f_X5_lowest x0 x2 x4 σ) σ 0 [(0, .long x0), (2, .long x2), (4, .int x4)] [] := by
  unfold f_X5_lowest
  refine v_lload_n (pc := 0) (i := 0) dX5_lowest_0 rfl rfl ?_
  refine v_lconst (pc := 1) dX5_lowest_1 lc_0 ?_
  refine v_lcmp (pc := 2) dX5_lowest_2 ?_
  refine v_if_ne (pc := 3) (tgt := 10) dX5_lowest_3 rfl ?_ ?_
  · refine v_lload_n (pc := 10) (i := 0) dX5_lowest_10 rfl rfl ?_
    refine v_lstore (pc := 11) (lv' := [(5, .long x0), (0, .long x0), (2, .long x2), (4, .int x4)]) (i := 5) dX5_lowest_11 (by decide) rfl ?_
    refine v_lload_n (pc := 13) (i := 2) dX5_lowest_13 rfl rfl ?_
    refine v_lstore (pc := 14) (lv' := [(7, .long x2), (5, .long x0), (0, .long x0), (2, .long x2), (4, .int x4)]) (i := 7) dX5_lowest_14 (by decide) rfl ?_
    exact v_sub [2, 3, 4, 1, 0] rfl (vk_X5_lowest_16 z FU x0 x2 x4 x0 x2 σ)
  · refine v_iload (pc := 6) (i := 4) dX5_lowest_6 rfl ?_
    refine v_i2l (pc := 8) dX5_lowest_8 ?_
    exact v_lret (pc := 9) dX5_lowest_9
theorem ct_X5_lowest {g : Gt} {ad : Nat → Nat} (x0 : Int64) (x2 : Int64) (x4 : Int32) : CT g (LM ad) yX5_lowest cX5_lowest 11 (some .long) 1 [.long x0, .long x2, .int x4] iL (wM g ad) (f_X5_lowest x0 x2 x4) :=
  ct_of_V (own := RX5) (lv0 := [(0, .long x0), (2, .long x2), (4, .int x4)]) (by decide +kernel) rfl (Nat.le_of_ble_eq_true rfl) rfl (fun z σ => vf_X5_lowest z x0 x2 x4 σ)
-- LighthouseLiedToModel.truth
theorem dX5_truth_0 : decode cX5_truth 0 = .ok (.aload_n 0, 1) := by decide +kernel
theorem dX5_truth_1 : decode cX5_truth 1 = .ok (.invokevirtual 220, 3) := by decide +kernel
theorem dX5_truth_4 : decode cX5_truth 4 = .ok (.istore_n 2, 1) := by decide +kernel
theorem dX5_truth_5 : decode cX5_truth 5 = .ok (.iload_n 1, 1) := by decide +kernel
theorem dX5_truth_6 : decode cX5_truth 6 = .ok (.iconst 0, 1) := by decide +kernel
theorem dX5_truth_7 : decode cX5_truth 7 = .ok (.iconst 1, 1) := by decide +kernel
theorem dX5_truth_8 : decode cX5_truth 8 = .ok (.invokestatic 78, 3) := by decide +kernel
theorem dX5_truth_11 : decode cX5_truth 11 = .ok (.ifCond .eq 7, 3) := by decide +kernel
theorem dX5_truth_14 : decode cX5_truth 14 = .ok (.iload_n 2, 1) := by decide +kernel
theorem dX5_truth_15 : decode cX5_truth 15 = .ok (.ifCond .ne 7, 3) := by decide +kernel
theorem dX5_truth_18 : decode cX5_truth 18 = .ok (.ldc2_w 235, 3) := by decide +kernel
theorem dX5_truth_21 : decode cX5_truth 21 = .ok (.lreturn, 1) := by decide +kernel
theorem dX5_truth_22 : decode cX5_truth 22 = .ok (.iconst 0, 1) := by decide +kernel
theorem dX5_truth_23 : decode cX5_truth 23 = .ok (.istore_n 3, 1) := by decide +kernel
theorem dX5_truth_24 : decode cX5_truth 24 = .ok (.iconst 0, 1) := by decide +kernel
theorem dX5_truth_25 : decode cX5_truth 25 = .ok (.istore 4, 2) := by decide +kernel
theorem dX5_truth_27 : decode cX5_truth 27 = .ok (.iload 4, 2) := by decide +kernel
theorem dX5_truth_29 : decode cX5_truth 29 = .ok (.bipush 36, 2) := by decide +kernel
theorem dX5_truth_31 : decode cX5_truth 31 = .ok (.if_icmp .ge 32, 3) := by decide +kernel
theorem dX5_truth_34 : decode cX5_truth 34 = .ok (.iload_n 3, 1) := by decide +kernel
theorem dX5_truth_35 : decode cX5_truth 35 = .ok (.aload_n 0, 1) := by decide +kernel
theorem dX5_truth_36 : decode cX5_truth 36 = .ok (.iload 4, 2) := by decide +kernel
theorem dX5_truth_38 : decode cX5_truth 38 = .ok (.invokevirtual 89, 3) := by decide +kernel
theorem dX5_truth_41 : decode cX5_truth 41 = .ok (.ifCond .eq 13, 3) := by decide +kernel
theorem dX5_truth_44 : decode cX5_truth 44 = .ok (.aload_n 0, 1) := by decide +kernel
theorem dX5_truth_45 : decode cX5_truth 45 = .ok (.getfield 25, 3) := by decide +kernel
theorem dX5_truth_48 : decode cX5_truth 48 = .ok (.iload 4, 2) := by decide +kernel
theorem dX5_truth_50 : decode cX5_truth 50 = .ok (.iaload, 1) := by decide +kernel
theorem dX5_truth_51 : decode cX5_truth 51 = .ok (.goto 4, 3) := by decide +kernel
theorem dX5_truth_54 : decode cX5_truth 54 = .ok (.iconst 0, 1) := by decide +kernel
theorem dX5_truth_55 : decode cX5_truth 55 = .ok (.iadd, 1) := by decide +kernel
theorem dX5_truth_56 : decode cX5_truth 56 = .ok (.istore_n 3, 1) := by decide +kernel
theorem dX5_truth_57 : decode cX5_truth 57 = .ok (.iinc 4 1, 3) := by decide +kernel
theorem dX5_truth_60 : decode cX5_truth 60 = .ok (.goto (-33), 3) := by decide +kernel
theorem dX5_truth_63 : decode cX5_truth 63 = .ok (.iload_n 3, 1) := by decide +kernel
theorem dX5_truth_64 : decode cX5_truth 64 = .ok (.i2l, 1) := by decide +kernel
theorem dX5_truth_65 : decode cX5_truth 65 = .ok (.iload_n 2, 1) := by decide +kernel
theorem dX5_truth_66 : decode cX5_truth 66 = .ok (.i2l, 1) := by decide +kernel
theorem dX5_truth_67 : decode cX5_truth 67 = .ok (.iload_n 1, 1) := by decide +kernel
theorem dX5_truth_68 : decode cX5_truth 68 = .ok (.invokestatic 244, 3) := by decide +kernel
theorem dX5_truth_71 : decode cX5_truth 71 = .ok (.lreturn, 1) := by decide +kernel
def b_X5_truth_27 (kc27 : Int32 → Int32 → Int32 → Int32 → GM → Option (Int64 × GM)) (x1 : Int32) (x2 : Int32) (x3 : Int32) (x4 : Int32) (σ : GM) : Option (Int64 × GM) :=
  if (36 : Int32) ≤ x4 then (bnd (f_X5_lowest x3.toInt64 x2.toInt64 x1 σ) fun q3 => some (q3.1, q3.2)) else (bnd (f_X5_hasRock x4 σ) fun q4 => if q4.1 = 0 then (bnd (some (x3 + (0 : Int32))) fun w5 => kc27 x1 x2 w5 (x4 + (1 : Int32)) q4.2) else (grd x4 36 (bnd (some (x3 + (mA q4.2 5 x4.toNatClampNeg))) fun w6 => kc27 x1 x2 w6 (x4 + (1 : Int32)) q4.2)))
theorem vb_X5_truth_27 {g : Gt} {ad : Nat → Nat} (z : Zt) (kc27 : Int32 → Int32 → Int32 → Int32 → GM → Option (Int64 × GM)) (hkc27 : ∀ (x1 : Int32) (x2 : Int32) (x3 : Int32) (x4 : Int32) (σ : GM), V g (LM ad) 2 RX5 cX5_truth 5 (some .long) (wM g ad) iL z (kc27 x1 x2 x3 x4 σ) σ 27 [(0, .ref (aMo ad)), (1, .int x1), (2, .int x2), (3, .int x3), (4, .int x4)] []) (x1 : Int32) (x2 : Int32) (x3 : Int32) (x4 : Int32) (σ : GM) : V g (LM ad) 2 RX5 cX5_truth 5 (some .long) (wM g ad) iL z (b_X5_truth_27 kc27 x1 x2 x3 x4 σ) σ 27 [(0, .ref (aMo ad)), (1, .int x1), (2, .int x2), (3, .int x3), (4, .int x4)] [] := by
  unfold b_X5_truth_27
  refine v_iload (pc := 27) (i := 4) dX5_truth_27 rfl ?_
  refine v_bipush (pc := 29) dX5_truth_29 bp_36 ?_
  refine v_icmp_ge (pc := 31) (tgt := 63) dX5_truth_31 rfl ?_ ?_
  · refine v_iload_n (pc := 63) (i := 3) dX5_truth_63 rfl rfl ?_
    refine v_i2l (pc := 64) dX5_truth_64 ?_
    refine v_iload_n (pc := 65) (i := 2) dX5_truth_65 rfl rfl ?_
    refine v_i2l (pc := 66) dX5_truth_66 ?_
    refine v_iload_n (pc := 67) (i := 1) dX5_truth_67 rfl rfl ?_
    refine v_callSl (pc := 68) (av := [.long x3.toInt64, .long x2.toInt64, .int x1]) (rest := []) (ct_X5_lowest x3.toInt64 x2.toInt64 x1) mi_X5_lowest q_1056 (by decide) rfl rfl (Nat.le_of_ble_eq_true rfl) dX5_truth_68 (fun q3 => ?_)
    exact v_lret (pc := 71) dX5_truth_71
  · refine v_iload_n (pc := 34) (i := 3) dX5_truth_34 rfl rfl ?_
    refine v_aload_n (pc := 35) (i := 0) dX5_truth_35 rfl rfl ?_
    refine v_iload (pc := 36) (i := 4) dX5_truth_36 rfl ?_
    refine v_callVi (pc := 38) rcX5 (As := [.int x4]) (rest := [.int x3]) (ct_X5_hasRock x4) mi_X5_hasRock q_881 (by decide) rfl rfl (Nat.le_of_ble_eq_true rfl) dX5_truth_38 (fun q4 => ?_)
    refine v_if_eq (pc := 41) (tgt := 54) dX5_truth_41 rfl ?_ ?_
    · refine v_iconst (pc := 54) dX5_truth_54 ic_0 ?_
      refine v_iadd (pc := 55) dX5_truth_55 ?_
      refine v_nmi (fun w5 => ?_)
      refine v_istore_n (pc := 56) (lv' := [(3, .int w5), (0, .ref (aMo ad)), (1, .int x1), (2, .int x2), (4, .int x4)]) (i := 3) dX5_truth_56 rfl (by decide) rfl ?_
      refine v_iinc (pc := 57) (lv' := [(4, .int (x4 + (1 : Int32))), (3, .int w5), (0, .ref (aMo ad)), (1, .int x1), (2, .int x2)]) (i := 4) dX5_truth_57 rfl ic_1 (by decide) rfl ?_
      refine v_goto (pc := 60) (tgt := 27) dX5_truth_60 rfl ?_
      exact v_sub [2, 3, 4, 1, 0] rfl (hkc27 x1 x2 w5 (x4 + (1 : Int32)) q4.2)
    · refine v_aload_n (pc := 44) (i := 0) dX5_truth_44 rfl rfl ?_
      refine gX5_beliefs (pc := 45) q_760 dX5_truth_45 ?_
      refine v_iload (pc := 48) (i := 4) dX5_truth_48 rfl ?_
      refine lM_beliefs (pc := 50) dX5_truth_50 ?_
      refine v_goto (pc := 51) (tgt := 55) dX5_truth_51 rfl ?_
      refine v_iadd (pc := 55) dX5_truth_55 ?_
      refine v_nmi (fun w6 => ?_)
      refine v_istore_n (pc := 56) (lv' := [(3, .int w6), (0, .ref (aMo ad)), (1, .int x1), (2, .int x2), (4, .int x4)]) (i := 3) dX5_truth_56 rfl (by decide) rfl ?_
      refine v_iinc (pc := 57) (lv' := [(4, .int (x4 + (1 : Int32))), (3, .int w6), (0, .ref (aMo ad)), (1, .int x1), (2, .int x2)]) (i := 4) dX5_truth_57 rfl ic_1 (by decide) rfl ?_
      refine v_goto (pc := 60) (tgt := 27) dX5_truth_60 rfl ?_
      exact v_sub [2, 3, 4, 1, 0] rfl (hkc27 x1 x2 w6 (x4 + (1 : Int32)) q4.2)
def k_X5_truth_27 : Nat → Int32 → Int32 → Int32 → Int32 → GM → Option (Int64 × GM)
  | 0 => fun _ _ _ _ _ => none
  | n + 1 => b_X5_truth_27 (k_X5_truth_27 n)
theorem vk_X5_truth_27 {g : Gt} {ad : Nat → Nat} (z : Zt) : ∀ (n : Nat) (x1 : Int32) (x2 : Int32) (x3 : Int32) (x4 : Int32) (σ : GM), V g (LM ad) 2 RX5 cX5_truth 5 (some .long) (wM g ad) iL z (k_X5_truth_27 n x1 x2 x3 x4 σ) σ 27 [(0, .ref (aMo ad)), (1, .int x1), (2, .int x2), (3, .int x3), (4, .int x4)] [] := by
  intro n
  induction n with
  | zero => intros; exact v_eq rfl v_none
  | succ n ih =>
    intro x1 x2 x3 x4 σ
    exact v_eq rfl (vb_X5_truth_27 z _ ih x1 x2 x3 x4 σ)
def f_X5_truth (x1 : Int32) (σ : GM) : Option (Int64 × GM) :=
  bnd (f_X5_beliefAll σ) fun q1 => bnd (f_X5_in x1 (0 : Int32) (1 : Int32) q1.2) fun q2 => if q2.1 = 0 then (some ((-4611686018427387904 : Int64), q2.2)) else (if q1.1 ≠ 0 then (k_X5_truth_27 FU x1 q1.1 (0 : Int32) (0 : Int32) q2.2) else (some ((-4611686018427387904 : Int64), q2.2)))
theorem vf_X5_truth {g : Gt} {ad : Nat → Nat} (z : Zt) (x1 : Int32) (σ : GM) : V g (LM ad) 2 RX5 cX5_truth 5 (some .long) (wM g ad) iL z (f_X5_truth x1 σ) σ 0 [(0, .ref (aMo ad)), (1, .int x1)] [] := by
  unfold f_X5_truth
  refine v_aload_n (pc := 0) (i := 0) dX5_truth_0 rfl rfl ?_
  refine v_callVi (pc := 1) rcX5 (As := []) (rest := []) (ct_X5_beliefAll) mi_X5_beliefAll q_1007 (by decide) rfl rfl (Nat.le_of_ble_eq_true rfl) dX5_truth_1 (fun q1 => ?_)
  refine v_istore_n (pc := 4) (lv' := [(2, .int q1.1), (0, .ref (aMo ad)), (1, .int x1)]) (i := 2) dX5_truth_4 rfl (by decide) rfl ?_
  refine v_iload_n (pc := 5) (i := 1) dX5_truth_5 rfl rfl ?_
  refine v_iconst (pc := 6) dX5_truth_6 ic_0 ?_
  refine v_iconst (pc := 7) dX5_truth_7 ic_1 ?_
  refine v_callSi (pc := 8) (av := [.int x1, .int (0 : Int32), .int (1 : Int32)]) (rest := []) (ct_X5_in x1 (0 : Int32) (1 : Int32)) mi_X5_in q_715 (by decide) rfl rfl (Nat.le_of_ble_eq_true rfl) dX5_truth_8 (fun q2 => ?_)
  refine v_if_eq (pc := 11) (tgt := 18) dX5_truth_11 rfl ?_ ?_
  · refine v_ldc2 (pc := 18) dX5_truth_18 q_1023 ?_
    exact v_lret (pc := 21) dX5_truth_21
  · refine v_iload_n (pc := 14) (i := 2) dX5_truth_14 rfl rfl ?_
    refine v_if_ne (pc := 15) (tgt := 22) dX5_truth_15 rfl ?_ ?_
    · refine v_iconst (pc := 22) dX5_truth_22 ic_0 ?_
      refine v_istore_n (pc := 23) (lv' := [(3, .int (0 : Int32)), (2, .int q1.1), (0, .ref (aMo ad)), (1, .int x1)]) (i := 3) dX5_truth_23 rfl (by decide) rfl ?_
      refine v_iconst (pc := 24) dX5_truth_24 ic_0 ?_
      refine v_istore (pc := 25) (lv' := [(4, .int (0 : Int32)), (3, .int (0 : Int32)), (2, .int q1.1), (0, .ref (aMo ad)), (1, .int x1)]) (i := 4) dX5_truth_25 (by decide) rfl ?_
      exact v_sub [3, 4, 2, 1, 0] rfl (vk_X5_truth_27 z FU x1 q1.1 (0 : Int32) (0 : Int32) q2.2)
    · refine v_ldc2 (pc := 18) dX5_truth_18 q_1023 ?_
      exact v_lret (pc := 21) dX5_truth_21
theorem ct_X5_truth {g : Gt} {ad : Nat → Nat} (x1 : Int32) : CT g (LM ad) yX5_truth cX5_truth 5 (some .long) 2 [.ref (aMo ad), .int x1] iL (wM g ad) (f_X5_truth x1) :=
  ct_of_V (own := RX5) (lv0 := [(0, .ref (aMo ad)), (1, .int x1)]) (by decide +kernel) rfl (Nat.le_of_ble_eq_true rfl) rfl (fun z σ => vf_X5_truth z x1 σ)
-- LighthouseLiedToModel.sheetWrong
theorem dX5_sheetWrong_0 : decode cX5_sheetWrong 0 = .ok (.iload_n 1, 1) := by decide +kernel
theorem dX5_sheetWrong_1 : decode cX5_sheetWrong 1 = .ok (.iconst 0, 1) := by decide +kernel
theorem dX5_sheetWrong_2 : decode cX5_sheetWrong 2 = .ok (.iconst 3, 1) := by decide +kernel
theorem dX5_sheetWrong_3 : decode cX5_sheetWrong 3 = .ok (.invokestatic 78, 3) := by decide +kernel
theorem dX5_sheetWrong_6 : decode cX5_sheetWrong 6 = .ok (.ifCond .ne 6, 3) := by decide +kernel
theorem dX5_sheetWrong_9 : decode cX5_sheetWrong 9 = .ok (.bipush (-2), 2) := by decide +kernel
theorem dX5_sheetWrong_11 : decode cX5_sheetWrong 11 = .ok (.ireturn, 1) := by decide +kernel
theorem dX5_sheetWrong_12 : decode cX5_sheetWrong 12 = .ok (.aload_n 0, 1) := by decide +kernel
theorem dX5_sheetWrong_13 : decode cX5_sheetWrong 13 = .ok (.getfield 43, 3) := by decide +kernel
theorem dX5_sheetWrong_16 : decode cX5_sheetWrong 16 = .ok (.iload_n 1, 1) := by decide +kernel
theorem dX5_sheetWrong_17 : decode cX5_sheetWrong 17 = .ok (.iaload, 1) := by decide +kernel
theorem dX5_sheetWrong_18 : decode cX5_sheetWrong 18 = .ok (.iconst (-1), 1) := by decide +kernel
theorem dX5_sheetWrong_19 : decode cX5_sheetWrong 19 = .ok (.if_icmp .ne 6, 3) := by decide +kernel
theorem dX5_sheetWrong_22 : decode cX5_sheetWrong 22 = .ok (.bipush (-11), 2) := by decide +kernel
theorem dX5_sheetWrong_24 : decode cX5_sheetWrong 24 = .ok (.ireturn, 1) := by decide +kernel
theorem dX5_sheetWrong_25 : decode cX5_sheetWrong 25 = .ok (.aload_n 0, 1) := by decide +kernel
theorem dX5_sheetWrong_26 : decode cX5_sheetWrong 26 = .ok (.getfield 46, 3) := by decide +kernel
theorem dX5_sheetWrong_29 : decode cX5_sheetWrong 29 = .ok (.iload_n 1, 1) := by decide +kernel
theorem dX5_sheetWrong_30 : decode cX5_sheetWrong 30 = .ok (.iaload, 1) := by decide +kernel
theorem dX5_sheetWrong_31 : decode cX5_sheetWrong 31 = .ok (.bipush 20, 2) := by decide +kernel
theorem dX5_sheetWrong_33 : decode cX5_sheetWrong 33 = .ok (.if_icmp .le 8, 3) := by decide +kernel
theorem dX5_sheetWrong_36 : decode cX5_sheetWrong 36 = .ok (.bipush (-2), 2) := by decide +kernel
theorem dX5_sheetWrong_38 : decode cX5_sheetWrong 38 = .ok (.goto 4, 3) := by decide +kernel
theorem dX5_sheetWrong_41 : decode cX5_sheetWrong 41 = .ok (.iconst 0, 1) := by decide +kernel
theorem dX5_sheetWrong_42 : decode cX5_sheetWrong 42 = .ok (.ireturn, 1) := by decide +kernel
def f_X5_sheetWrong (x1 : Int32) (σ : GM) : Option (Int32 × GM) :=
  bnd (f_X5_in x1 (0 : Int32) (3 : Int32) σ) fun q1 => if q1.1 ≠ 0 then (grd x1 4 (if (mA q1.2 11 x1.toNatClampNeg) ≠ (-1 : Int32) then (grd x1 4 (if (mA q1.2 12 x1.toNatClampNeg) ≤ (20 : Int32) then (some ((0 : Int32), q1.2)) else (some ((-2 : Int32), q1.2)))) else (some ((-11 : Int32), q1.2)))) else (some ((-2 : Int32), q1.2))
theorem vf_X5_sheetWrong {g : Gt} {ad : Nat → Nat} (z : Zt) (x1 : Int32) (σ : GM) : V g (LM ad) 2 RX5 cX5_sheetWrong 2 (some .int) (wM g ad) iI z (f_X5_sheetWrong x1 σ) σ 0 [(0, .ref (aMo ad)), (1, .int x1)] [] := by
  unfold f_X5_sheetWrong
  refine v_iload_n (pc := 0) (i := 1) dX5_sheetWrong_0 rfl rfl ?_
  refine v_iconst (pc := 1) dX5_sheetWrong_1 ic_0 ?_
  refine v_iconst (pc := 2) dX5_sheetWrong_2 ic_3 ?_
  refine v_callSi (pc := 3) (av := [.int x1, .int (0 : Int32), .int (3 : Int32)]) (rest := []) (ct_X5_in x1 (0 : Int32) (3 : Int32)) mi_X5_in q_715 (by decide) rfl rfl (Nat.le_of_ble_eq_true rfl) dX5_sheetWrong_3 (fun q1 => ?_)
  refine v_if_ne (pc := 6) (tgt := 12) dX5_sheetWrong_6 rfl ?_ ?_
  · refine v_aload_n (pc := 12) (i := 0) dX5_sheetWrong_12 rfl rfl ?_
    refine gX5_sheetSort (pc := 13) q_774 dX5_sheetWrong_13 ?_
    refine v_iload_n (pc := 16) (i := 1) dX5_sheetWrong_16 rfl rfl ?_
    refine lM_sheetSort (pc := 17) dX5_sheetWrong_17 ?_
    refine v_iconst (pc := 18) dX5_sheetWrong_18 ic_m1 ?_
    refine v_icmp_ne (pc := 19) (tgt := 25) dX5_sheetWrong_19 rfl ?_ ?_
    · refine v_aload_n (pc := 25) (i := 0) dX5_sheetWrong_25 rfl rfl ?_
      refine gX5_sheetSize (pc := 26) q_775 dX5_sheetWrong_26 ?_
      refine v_iload_n (pc := 29) (i := 1) dX5_sheetWrong_29 rfl rfl ?_
      refine lM_sheetSize (pc := 30) dX5_sheetWrong_30 ?_
      refine v_bipush (pc := 31) dX5_sheetWrong_31 bp_20 ?_
      refine v_icmp_le (pc := 33) (tgt := 41) dX5_sheetWrong_33 rfl ?_ ?_
      · refine v_iconst (pc := 41) dX5_sheetWrong_41 ic_0 ?_
        exact v_iret (pc := 42) dX5_sheetWrong_42
      · refine v_bipush (pc := 36) dX5_sheetWrong_36 bp_m2 ?_
        refine v_goto (pc := 38) (tgt := 42) dX5_sheetWrong_38 rfl ?_
        exact v_iret (pc := 42) dX5_sheetWrong_42
    · refine v_bipush (pc := 22) dX5_sheetWrong_22 bp_m11 ?_
      exact v_iret (pc := 24) dX5_sheetWrong_24
  · refine v_bipush (pc := 9) dX5_sheetWrong_9 bp_m2 ?_
    exact v_iret (pc := 11) dX5_sheetWrong_11
theorem ct_X5_sheetWrong {g : Gt} {ad : Nat → Nat} (x1 : Int32) : CT g (LM ad) yX5_sheetWrong cX5_sheetWrong 2 (some .int) 2 [.ref (aMo ad), .int x1] iI (wM g ad) (f_X5_sheetWrong x1) :=
  ct_of_V (own := RX5) (lv0 := [(0, .ref (aMo ad)), (1, .int x1)]) (by decide +kernel) rfl (Nat.le_of_ble_eq_true rfl) rfl (fun z σ => vf_X5_sheetWrong z x1 σ)
-- LighthouseLiedToModel.toldWrong
theorem dX5_toldWrong_0 : decode cX5_toldWrong 0 = .ok (.aload_n 0, 1) := by decide +kernel
theorem dX5_toldWrong_1 : decode cX5_toldWrong 1 = .ok (.iload_n 1, 1) := by decide +kernel
theorem dX5_toldWrong_2 : decode cX5_toldWrong 2 = .ok (.invokevirtual 248, 3) := by decide +kernel
theorem dX5_toldWrong_5 : decode cX5_toldWrong 5 = .ok (.istore_n 3, 1) := by decide +kernel
theorem dX5_toldWrong_6 : decode cX5_toldWrong 6 = .ok (.iload_n 3, 1) := by decide +kernel
theorem dX5_toldWrong_7 : decode cX5_toldWrong 7 = .ok (.ifCond .eq 7, 3) := by decide +kernel
theorem dX5_toldWrong_10 : decode cX5_toldWrong 10 = .ok (.iload_n 3, 1) := by decide +kernel
theorem dX5_toldWrong_11 : decode cX5_toldWrong 11 = .ok (.goto 17, 3) := by decide +kernel
theorem dX5_toldWrong_14 : decode cX5_toldWrong 14 = .ok (.aload_n 0, 1) := by decide +kernel
theorem dX5_toldWrong_15 : decode cX5_toldWrong 15 = .ok (.iload_n 2, 1) := by decide +kernel
theorem dX5_toldWrong_16 : decode cX5_toldWrong 16 = .ok (.invokevirtual 192, 3) := by decide +kernel
theorem dX5_toldWrong_19 : decode cX5_toldWrong 19 = .ok (.ifCond .eq 7, 3) := by decide +kernel
theorem dX5_toldWrong_22 : decode cX5_toldWrong 22 = .ok (.iconst 0, 1) := by decide +kernel
theorem dX5_toldWrong_23 : decode cX5_toldWrong 23 = .ok (.goto 5, 3) := by decide +kernel
theorem dX5_toldWrong_26 : decode cX5_toldWrong 26 = .ok (.bipush (-5), 2) := by decide +kernel
theorem dX5_toldWrong_28 : decode cX5_toldWrong 28 = .ok (.ireturn, 1) := by decide +kernel
def f_X5_toldWrong (x1 : Int32) (x2 : Int32) (σ : GM) : Option (Int32 × GM) :=
  bnd (f_X5_sheetWrong x1 σ) fun q1 => if q1.1 = 0 then (bnd (f_X5_isShip x2 q1.2) fun q2 => if q2.1 = 0 then (some ((-5 : Int32), q2.2)) else (some ((0 : Int32), q2.2))) else (some (q1.1, q1.2))
theorem vf_X5_toldWrong {g : Gt} {ad : Nat → Nat} (z : Zt) (x1 : Int32) (x2 : Int32) (σ : GM) : V g (LM ad) 3 RX5 cX5_toldWrong 4 (some .int) (wM g ad) iI z (f_X5_toldWrong x1 x2 σ) σ 0 [(0, .ref (aMo ad)), (1, .int x1), (2, .int x2)] [] := by
  unfold f_X5_toldWrong
  refine v_aload_n (pc := 0) (i := 0) dX5_toldWrong_0 rfl rfl ?_
  refine v_iload_n (pc := 1) (i := 1) dX5_toldWrong_1 rfl rfl ?_
  refine v_callVi (pc := 2) rcX5 (As := [.int x1]) (rest := []) (ct_X5_sheetWrong x1) mi_X5_sheetWrong q_1067 (by decide) rfl rfl (Nat.le_of_ble_eq_true rfl) dX5_toldWrong_2 (fun q1 => ?_)
  refine v_istore_n (pc := 5) (lv' := [(3, .int q1.1), (0, .ref (aMo ad)), (1, .int x1), (2, .int x2)]) (i := 3) dX5_toldWrong_5 rfl (by decide) rfl ?_
  refine v_iload_n (pc := 6) (i := 3) dX5_toldWrong_6 rfl rfl ?_
  refine v_if_eq (pc := 7) (tgt := 14) dX5_toldWrong_7 rfl ?_ ?_
  · refine v_aload_n (pc := 14) (i := 0) dX5_toldWrong_14 rfl rfl ?_
    refine v_iload_n (pc := 15) (i := 2) dX5_toldWrong_15 rfl rfl ?_
    refine v_callVi (pc := 16) rcX5 (As := [.int x2]) (rest := []) (ct_X5_isShip x2) mi_X5_isShip q_928 (by decide) rfl rfl (Nat.le_of_ble_eq_true rfl) dX5_toldWrong_16 (fun q2 => ?_)
    refine v_if_eq (pc := 19) (tgt := 26) dX5_toldWrong_19 rfl ?_ ?_
    · refine v_bipush (pc := 26) dX5_toldWrong_26 bp_m5 ?_
      exact v_iret (pc := 28) dX5_toldWrong_28
    · refine v_iconst (pc := 22) dX5_toldWrong_22 ic_0 ?_
      refine v_goto (pc := 23) (tgt := 28) dX5_toldWrong_23 rfl ?_
      exact v_iret (pc := 28) dX5_toldWrong_28
  · refine v_iload_n (pc := 10) (i := 3) dX5_toldWrong_10 rfl rfl ?_
    refine v_goto (pc := 11) (tgt := 28) dX5_toldWrong_11 rfl ?_
    exact v_iret (pc := 28) dX5_toldWrong_28
theorem ct_X5_toldWrong {g : Gt} {ad : Nat → Nat} (x1 : Int32) (x2 : Int32) : CT g (LM ad) yX5_toldWrong cX5_toldWrong 4 (some .int) 3 [.ref (aMo ad), .int x1, .int x2] iI (wM g ad) (f_X5_toldWrong x1 x2) :=
  ct_of_V (own := RX5) (lv0 := [(0, .ref (aMo ad)), (1, .int x1), (2, .int x2)]) (by decide +kernel) rfl (Nat.le_of_ble_eq_true rfl) rfl (fun z σ => vf_X5_toldWrong z x1 x2 σ)
-- LighthouseLiedToModel.unlike
theorem dX5_unlike_0 : decode cX5_unlike 0 = .ok (.iconst (-1), 1) := by decide +kernel
theorem dX5_unlike_1 : decode cX5_unlike 1 = .ok (.istore_n 3, 1) := by decide +kernel
theorem dX5_unlike_2 : decode cX5_unlike 2 = .ok (.aload_n 0, 1) := by decide +kernel
theorem dX5_unlike_3 : decode cX5_unlike 3 = .ok (.invokevirtual 223, 3) := by decide +kernel
theorem dX5_unlike_6 : decode cX5_unlike 6 = .ok (.iconst 0, 1) := by decide +kernel
theorem dX5_unlike_7 : decode cX5_unlike 7 = .ok (.istore 4, 2) := by decide +kernel
theorem dX5_unlike_9 : decode cX5_unlike 9 = .ok (.iload 4, 2) := by decide +kernel
theorem dX5_unlike_11 : decode cX5_unlike 11 = .ok (.aload_n 0, 1) := by decide +kernel
theorem dX5_unlike_12 : decode cX5_unlike 12 = .ok (.getfield 46, 3) := by decide +kernel
theorem dX5_unlike_15 : decode cX5_unlike 15 = .ok (.iload_n 1, 1) := by decide +kernel
theorem dX5_unlike_16 : decode cX5_unlike 16 = .ok (.iaload, 1) := by decide +kernel
theorem dX5_unlike_17 : decode cX5_unlike 17 = .ok (.if_icmp .ge 47, 3) := by decide +kernel
theorem dX5_unlike_20 : decode cX5_unlike 20 = .ok (.iload_n 3, 1) := by decide +kernel
theorem dX5_unlike_21 : decode cX5_unlike 21 = .ok (.iconst (-1), 1) := by decide +kernel
theorem dX5_unlike_22 : decode cX5_unlike 22 = .ok (.if_icmp .ne 42, 3) := by decide +kernel
theorem dX5_unlike_25 : decode cX5_unlike 25 = .ok (.aload_n 0, 1) := by decide +kernel
theorem dX5_unlike_26 : decode cX5_unlike 26 = .ok (.invokevirtual 217, 3) := by decide +kernel
theorem dX5_unlike_29 : decode cX5_unlike 29 = .ok (.pop, 1) := by decide +kernel
theorem dX5_unlike_30 : decode cX5_unlike 30 = .ok (.aload_n 0, 1) := by decide +kernel
theorem dX5_unlike_31 : decode cX5_unlike 31 = .ok (.getfield 49, 3) := by decide +kernel
theorem dX5_unlike_34 : decode cX5_unlike 34 = .ok (.bipush 40, 2) := by decide +kernel
theorem dX5_unlike_36 : decode cX5_unlike 36 = .ok (.iload_n 1, 1) := by decide +kernel
theorem dX5_unlike_37 : decode cX5_unlike 37 = .ok (.imul, 1) := by decide +kernel
theorem dX5_unlike_38 : decode cX5_unlike 38 = .ok (.iload 4, 2) := by decide +kernel
theorem dX5_unlike_40 : decode cX5_unlike 40 = .ok (.iadd, 1) := by decide +kernel
theorem dX5_unlike_41 : decode cX5_unlike 41 = .ok (.iaload, 1) := by decide +kernel
theorem dX5_unlike_42 : decode cX5_unlike 42 = .ok (.aload_n 0, 1) := by decide +kernel
theorem dX5_unlike_43 : decode cX5_unlike 43 = .ok (.getfield 16, 3) := by decide +kernel
theorem dX5_unlike_46 : decode cX5_unlike 46 = .ok (.iload_n 2, 1) := by decide +kernel
theorem dX5_unlike_47 : decode cX5_unlike 47 = .ok (.iaload, 1) := by decide +kernel
theorem dX5_unlike_48 : decode cX5_unlike 48 = .ok (.if_icmp .ne 7, 3) := by decide +kernel
theorem dX5_unlike_51 : decode cX5_unlike 51 = .ok (.iconst (-1), 1) := by decide +kernel
theorem dX5_unlike_52 : decode cX5_unlike 52 = .ok (.goto 5, 3) := by decide +kernel
theorem dX5_unlike_55 : decode cX5_unlike 55 = .ok (.iload 4, 2) := by decide +kernel
theorem dX5_unlike_57 : decode cX5_unlike 57 = .ok (.istore_n 3, 1) := by decide +kernel
theorem dX5_unlike_58 : decode cX5_unlike 58 = .ok (.iinc 4 1, 3) := by decide +kernel
theorem dX5_unlike_61 : decode cX5_unlike 61 = .ok (.goto (-52), 3) := by decide +kernel
theorem dX5_unlike_64 : decode cX5_unlike 64 = .ok (.aload_n 0, 1) := by decide +kernel
theorem dX5_unlike_65 : decode cX5_unlike 65 = .ok (.invokevirtual 232, 3) := by decide +kernel
theorem dX5_unlike_68 : decode cX5_unlike 68 = .ok (.iload_n 3, 1) := by decide +kernel
theorem dX5_unlike_69 : decode cX5_unlike 69 = .ok (.ireturn, 1) := by decide +kernel
def b_X5_unlike_9 (kc9 : Int32 → Int32 → Int32 → Int32 → GM → Option (Int32 × GM)) (x1 : Int32) (x2 : Int32) (x3 : Int32) (x4 : Int32) (σ : GM) : Option (Int32 × GM) :=
  grd x1 4 (if (mA σ 12 x1.toNatClampNeg) ≤ x4 then (bnd (f_X5_lays σ) fun q2 => some (x3, q2.2)) else (if x3 ≠ (-1 : Int32) then (bnd (f_X5_lays σ) fun q3 => some (x3, q3.2)) else (bnd (f_X5_nightOf σ) fun q4 => grd (((40 : Int32) * x1) + x4) 160 (grd x2 6 (if (mA q4.2 13 (((40 : Int32) * x1) + x4).toNatClampNeg) ≠ (mA q4.2 2 x2.toNatClampNeg) then (kc9 x1 x2 x4 (x4 + (1 : Int32)) q4.2) else (kc9 x1 x2 (-1 : Int32) (x4 + (1 : Int32)) q4.2))))))
theorem vb_X5_unlike_9 {g : Gt} {ad : Nat → Nat} (z : Zt) (kc9 : Int32 → Int32 → Int32 → Int32 → GM → Option (Int32 × GM)) (hkc9 : ∀ (x1 : Int32) (x2 : Int32) (x3 : Int32) (x4 : Int32) (σ : GM), V g (LM ad) 8 RX5 cX5_unlike 5 (some .int) (wM g ad) iI z (kc9 x1 x2 x3 x4 σ) σ 9 [(0, .ref (aMo ad)), (1, .int x1), (2, .int x2), (3, .int x3), (4, .int x4)] []) (x1 : Int32) (x2 : Int32) (x3 : Int32) (x4 : Int32) (σ : GM) : V g (LM ad) 8 RX5 cX5_unlike 5 (some .int) (wM g ad) iI z (b_X5_unlike_9 kc9 x1 x2 x3 x4 σ) σ 9 [(0, .ref (aMo ad)), (1, .int x1), (2, .int x2), (3, .int x3), (4, .int x4)] [] := by
  unfold b_X5_unlike_9
  refine v_iload (pc := 9) (i := 4) dX5_unlike_9 rfl ?_
  refine v_aload_n (pc := 11) (i := 0) dX5_unlike_11 rfl rfl ?_
  refine gX5_sheetSize (pc := 12) q_775 dX5_unlike_12 ?_
  refine v_iload_n (pc := 15) (i := 1) dX5_unlike_15 rfl rfl ?_
  refine lM_sheetSize (pc := 16) dX5_unlike_16 ?_
  refine v_icmp_ge (pc := 17) (tgt := 64) dX5_unlike_17 rfl ?_ ?_
  · refine v_aload_n (pc := 64) (i := 0) dX5_unlike_64 rfl rfl ?_
    refine v_callVv (pc := 65) rcX5 (As := []) (rest := []) (ct_X5_lays) mi_X5_lays q_1011 (by decide) rfl rfl (Nat.le_of_ble_eq_true rfl) dX5_unlike_65 (fun q2 => ?_)
    refine v_iload_n (pc := 68) (i := 3) dX5_unlike_68 rfl rfl ?_
    exact v_iret (pc := 69) dX5_unlike_69
  · refine v_iload_n (pc := 20) (i := 3) dX5_unlike_20 rfl rfl ?_
    refine v_iconst (pc := 21) dX5_unlike_21 ic_m1 ?_
    refine v_icmp_ne (pc := 22) (tgt := 64) dX5_unlike_22 rfl ?_ ?_
    · refine v_aload_n (pc := 64) (i := 0) dX5_unlike_64 rfl rfl ?_
      refine v_callVv (pc := 65) rcX5 (As := []) (rest := []) (ct_X5_lays) mi_X5_lays q_1011 (by decide) rfl rfl (Nat.le_of_ble_eq_true rfl) dX5_unlike_65 (fun q3 => ?_)
      refine v_iload_n (pc := 68) (i := 3) dX5_unlike_68 rfl rfl ?_
      exact v_iret (pc := 69) dX5_unlike_69
    · refine v_aload_n (pc := 25) (i := 0) dX5_unlike_25 rfl rfl ?_
      refine v_callVi (pc := 26) rcX5 (As := []) (rest := []) (ct_X5_nightOf) mi_X5_nightOf q_979 (by decide) rfl rfl (Nat.le_of_ble_eq_true rfl) dX5_unlike_26 (fun q4 => ?_)
      refine v_pop (pc := 29) dX5_unlike_29 rfl ?_
      refine v_aload_n (pc := 30) (i := 0) dX5_unlike_30 rfl rfl ?_
      refine gX5_cells (pc := 31) q_776 dX5_unlike_31 ?_
      refine v_bipush (pc := 34) dX5_unlike_34 bp_40 ?_
      refine v_iload_n (pc := 36) (i := 1) dX5_unlike_36 rfl rfl ?_
      refine v_imul (pc := 37) dX5_unlike_37 ?_
      refine v_iload (pc := 38) (i := 4) dX5_unlike_38 rfl ?_
      refine v_iadd (pc := 40) dX5_unlike_40 ?_
      refine lM_cells (pc := 41) dX5_unlike_41 ?_
      refine v_aload_n (pc := 42) (i := 0) dX5_unlike_42 rfl rfl ?_
      refine gX5_onOf (pc := 43) q_757 dX5_unlike_43 ?_
      refine v_iload_n (pc := 46) (i := 2) dX5_unlike_46 rfl rfl ?_
      refine lM_onOf (pc := 47) dX5_unlike_47 ?_
      refine v_icmp_ne (pc := 48) (tgt := 55) dX5_unlike_48 rfl ?_ ?_
      · refine v_iload (pc := 55) (i := 4) dX5_unlike_55 rfl ?_
        refine v_istore_n (pc := 57) (lv' := [(3, .int x4), (0, .ref (aMo ad)), (1, .int x1), (2, .int x2), (4, .int x4)]) (i := 3) dX5_unlike_57 rfl (by decide) rfl ?_
        refine v_iinc (pc := 58) (lv' := [(4, .int (x4 + (1 : Int32))), (3, .int x4), (0, .ref (aMo ad)), (1, .int x1), (2, .int x2)]) (i := 4) dX5_unlike_58 rfl ic_1 (by decide) rfl ?_
        refine v_goto (pc := 61) (tgt := 9) dX5_unlike_61 rfl ?_
        exact v_sub [2, 3, 4, 1, 0] rfl (hkc9 x1 x2 x4 (x4 + (1 : Int32)) q4.2)
      · refine v_iconst (pc := 51) dX5_unlike_51 ic_m1 ?_
        refine v_goto (pc := 52) (tgt := 57) dX5_unlike_52 rfl ?_
        refine v_istore_n (pc := 57) (lv' := [(3, .int (-1 : Int32)), (0, .ref (aMo ad)), (1, .int x1), (2, .int x2), (4, .int x4)]) (i := 3) dX5_unlike_57 rfl (by decide) rfl ?_
        refine v_iinc (pc := 58) (lv' := [(4, .int (x4 + (1 : Int32))), (3, .int (-1 : Int32)), (0, .ref (aMo ad)), (1, .int x1), (2, .int x2)]) (i := 4) dX5_unlike_58 rfl ic_1 (by decide) rfl ?_
        refine v_goto (pc := 61) (tgt := 9) dX5_unlike_61 rfl ?_
        exact v_sub [2, 3, 4, 1, 0] rfl (hkc9 x1 x2 (-1 : Int32) (x4 + (1 : Int32)) q4.2)
def k_X5_unlike_9 : Nat → Int32 → Int32 → Int32 → Int32 → GM → Option (Int32 × GM)
  | 0 => fun _ _ _ _ _ => none
  | n + 1 => b_X5_unlike_9 (k_X5_unlike_9 n)
theorem vk_X5_unlike_9 {g : Gt} {ad : Nat → Nat} (z : Zt) : ∀ (n : Nat) (x1 : Int32) (x2 : Int32) (x3 : Int32) (x4 : Int32) (σ : GM), V g (LM ad) 8 RX5 cX5_unlike 5 (some .int) (wM g ad) iI z (k_X5_unlike_9 n x1 x2 x3 x4 σ) σ 9 [(0, .ref (aMo ad)), (1, .int x1), (2, .int x2), (3, .int x3), (4, .int x4)] [] := by
  intro n
  induction n with
  | zero => intros; exact v_eq rfl v_none
  | succ n ih =>
    intro x1 x2 x3 x4 σ
    exact v_eq rfl (vb_X5_unlike_9 z _ ih x1 x2 x3 x4 σ)
def f_X5_unlike (x1 : Int32) (x2 : Int32) (σ : GM) : Option (Int32 × GM) :=
  bnd (f_X5_keeps σ) fun q1 => k_X5_unlike_9 FU x1 x2 (-1 : Int32) (0 : Int32) q1.2
theorem vf_X5_unlike {g : Gt} {ad : Nat → Nat} (z : Zt) (x1 : Int32) (x2 : Int32) (σ : GM) : V g (LM ad) 8 RX5 cX5_unlike 5 (some .int) (wM g ad) iI z (f_X5_unlike x1 x2 σ) σ 0 [(0, .ref (aMo ad)), (1, .int x1), (2, .int x2)] [] := by
  unfold f_X5_unlike
  refine v_iconst (pc := 0) dX5_unlike_0 ic_m1 ?_
  refine v_istore_n (pc := 1) (lv' := [(3, .int (-1 : Int32)), (0, .ref (aMo ad)), (1, .int x1), (2, .int x2)]) (i := 3) dX5_unlike_1 rfl (by decide) rfl ?_
  refine v_aload_n (pc := 2) (i := 0) dX5_unlike_2 rfl rfl ?_
  refine v_callVv (pc := 3) rcX5 (As := []) (rest := []) (ct_X5_keeps) mi_X5_keeps q_995 (by decide) rfl rfl (Nat.le_of_ble_eq_true rfl) dX5_unlike_3 (fun q1 => ?_)
  refine v_iconst (pc := 6) dX5_unlike_6 ic_0 ?_
  refine v_istore (pc := 7) (lv' := [(4, .int (0 : Int32)), (3, .int (-1 : Int32)), (0, .ref (aMo ad)), (1, .int x1), (2, .int x2)]) (i := 4) dX5_unlike_7 (by decide) rfl ?_
  exact v_sub [2, 3, 4, 1, 0] rfl (vk_X5_unlike_9 z FU x1 x2 (-1 : Int32) (0 : Int32) q1.2)
theorem ct_X5_unlike {g : Gt} {ad : Nat → Nat} (x1 : Int32) (x2 : Int32) : CT g (LM ad) yX5_unlike cX5_unlike 5 (some .int) 8 [.ref (aMo ad), .int x1, .int x2] iI (wM g ad) (f_X5_unlike x1 x2) :=
  ct_of_V (own := RX5) (lv0 := [(0, .ref (aMo ad)), (1, .int x1), (2, .int x2)]) (by decide +kernel) rfl (Nat.le_of_ble_eq_true rfl) rfl (fun z σ => vf_X5_unlike z x1 x2 σ)
-- LighthouseLiedToModel.judge
theorem dX5_judge_0 : decode cX5_judge 0 = .ok (.aload_n 0, 1) := by decide +kernel
theorem dX5_judge_1 : decode cX5_judge 1 = .ok (.iload_n 1, 1) := by decide +kernel
theorem dX5_judge_2 : decode cX5_judge 2 = .ok (.iload_n 2, 1) := by decide +kernel
theorem dX5_judge_3 : decode cX5_judge 3 = .ok (.invokevirtual 251, 3) := by decide +kernel
theorem dX5_judge_6 : decode cX5_judge 6 = .ok (.istore_n 3, 1) := by decide +kernel
theorem dX5_judge_7 : decode cX5_judge 7 = .ok (.iload_n 3, 1) := by decide +kernel
theorem dX5_judge_8 : decode cX5_judge 8 = .ok (.ifCond .ne 12, 3) := by decide +kernel
theorem dX5_judge_11 : decode cX5_judge 11 = .ok (.aload_n 0, 1) := by decide +kernel
theorem dX5_judge_12 : decode cX5_judge 12 = .ok (.iload_n 1, 1) := by decide +kernel
theorem dX5_judge_13 : decode cX5_judge 13 = .ok (.iload_n 2, 1) := by decide +kernel
theorem dX5_judge_14 : decode cX5_judge 14 = .ok (.invokevirtual 254, 3) := by decide +kernel
theorem dX5_judge_17 : decode cX5_judge 17 = .ok (.goto 4, 3) := by decide +kernel
theorem dX5_judge_20 : decode cX5_judge 20 = .ok (.iload_n 3, 1) := by decide +kernel
theorem dX5_judge_21 : decode cX5_judge 21 = .ok (.ireturn, 1) := by decide +kernel
def f_X5_judge (x1 : Int32) (x2 : Int32) (σ : GM) : Option (Int32 × GM) :=
  bnd (f_X5_toldWrong x1 x2 σ) fun q1 => if q1.1 ≠ 0 then (some (q1.1, q1.2)) else (bnd (f_X5_unlike x1 x2 q1.2) fun q2 => some (q2.1, q2.2))
theorem vf_X5_judge {g : Gt} {ad : Nat → Nat} (z : Zt) (x1 : Int32) (x2 : Int32) (σ : GM) : V g (LM ad) 9 RX5 cX5_judge 4 (some .int) (wM g ad) iI z (f_X5_judge x1 x2 σ) σ 0 [(0, .ref (aMo ad)), (1, .int x1), (2, .int x2)] [] := by
  unfold f_X5_judge
  refine v_aload_n (pc := 0) (i := 0) dX5_judge_0 rfl rfl ?_
  refine v_iload_n (pc := 1) (i := 1) dX5_judge_1 rfl rfl ?_
  refine v_iload_n (pc := 2) (i := 2) dX5_judge_2 rfl rfl ?_
  refine v_callVi (pc := 3) rcX5 (As := [.int x1, .int x2]) (rest := []) (ct_X5_toldWrong x1 x2) mi_X5_toldWrong q_1063 (by decide) rfl rfl (Nat.le_of_ble_eq_true rfl) dX5_judge_3 (fun q1 => ?_)
  refine v_istore_n (pc := 6) (lv' := [(3, .int q1.1), (0, .ref (aMo ad)), (1, .int x1), (2, .int x2)]) (i := 3) dX5_judge_6 rfl (by decide) rfl ?_
  refine v_iload_n (pc := 7) (i := 3) dX5_judge_7 rfl rfl ?_
  refine v_if_ne (pc := 8) (tgt := 20) dX5_judge_8 rfl ?_ ?_
  · refine v_iload_n (pc := 20) (i := 3) dX5_judge_20 rfl rfl ?_
    exact v_iret (pc := 21) dX5_judge_21
  · refine v_aload_n (pc := 11) (i := 0) dX5_judge_11 rfl rfl ?_
    refine v_iload_n (pc := 12) (i := 1) dX5_judge_12 rfl rfl ?_
    refine v_iload_n (pc := 13) (i := 2) dX5_judge_13 rfl rfl ?_
    refine v_callVi (pc := 14) rcX5 (As := [.int x1, .int x2]) (rest := []) (ct_X5_unlike x1 x2) mi_X5_unlike q_1071 (by decide) rfl rfl (Nat.le_of_ble_eq_true rfl) dX5_judge_14 (fun q2 => ?_)
    refine v_goto (pc := 17) (tgt := 21) dX5_judge_17 rfl ?_
    exact v_iret (pc := 21) dX5_judge_21
theorem ct_X5_judge {g : Gt} {ad : Nat → Nat} (x1 : Int32) (x2 : Int32) : CT g (LM ad) yX5_judge cX5_judge 4 (some .int) 9 [.ref (aMo ad), .int x1, .int x2] iI (wM g ad) (f_X5_judge x1 x2) :=
  ct_of_V (own := RX5) (lv0 := [(0, .ref (aMo ad)), (1, .int x1), (2, .int x2)]) (by decide +kernel) rfl (Nat.le_of_ble_eq_true rfl) rfl (fun z σ => vf_X5_judge z x1 x2 σ)
-- LighthouseLiedToModel.kinds
theorem dX5_kinds_0 : decode cX5_kinds 0 = .ok (.aload_n 0, 1) := by decide +kernel
theorem dX5_kinds_1 : decode cX5_kinds 1 = .ok (.iload_n 1, 1) := by decide +kernel
theorem dX5_kinds_2 : decode cX5_kinds 2 = .ok (.iload_n 2, 1) := by decide +kernel
theorem dX5_kinds_3 : decode cX5_kinds 3 = .ok (.invokevirtual 251, 3) := by decide +kernel
theorem dX5_kinds_6 : decode cX5_kinds 6 = .ok (.istore 4, 2) := by decide +kernel
theorem dX5_kinds_8 : decode cX5_kinds 8 = .ok (.iload 4, 2) := by decide +kernel
theorem dX5_kinds_10 : decode cX5_kinds 10 = .ok (.ifCond .eq 6, 3) := by decide +kernel
theorem dX5_kinds_13 : decode cX5_kinds 13 = .ok (.iload 4, 2) := by decide +kernel
theorem dX5_kinds_15 : decode cX5_kinds 15 = .ok (.ireturn, 1) := by decide +kernel
theorem dX5_kinds_16 : decode cX5_kinds 16 = .ok (.iload_n 3, 1) := by decide +kernel
theorem dX5_kinds_17 : decode cX5_kinds 17 = .ok (.iconst 0, 1) := by decide +kernel
theorem dX5_kinds_18 : decode cX5_kinds 18 = .ok (.iconst 1, 1) := by decide +kernel
theorem dX5_kinds_19 : decode cX5_kinds 19 = .ok (.invokestatic 78, 3) := by decide +kernel
theorem dX5_kinds_22 : decode cX5_kinds 22 = .ok (.ifCond .ne 6, 3) := by decide +kernel
theorem dX5_kinds_25 : decode cX5_kinds 25 = .ok (.bipush (-7), 2) := by decide +kernel
theorem dX5_kinds_27 : decode cX5_kinds 27 = .ok (.ireturn, 1) := by decide +kernel
theorem dX5_kinds_28 : decode cX5_kinds 28 = .ok (.aload_n 0, 1) := by decide +kernel
theorem dX5_kinds_29 : decode cX5_kinds 29 = .ok (.getfield 7, 3) := by decide +kernel
theorem dX5_kinds_32 : decode cX5_kinds 32 = .ok (.iload_n 2, 1) := by decide +kernel
theorem dX5_kinds_33 : decode cX5_kinds 33 = .ok (.iaload, 1) := by decide +kernel
theorem dX5_kinds_34 : decode cX5_kinds 34 = .ok (.istore 5, 2) := by decide +kernel
theorem dX5_kinds_36 : decode cX5_kinds 36 = .ok (.aload_n 0, 1) := by decide +kernel
theorem dX5_kinds_37 : decode cX5_kinds 37 = .ok (.getfield 13, 3) := by decide +kernel
theorem dX5_kinds_40 : decode cX5_kinds 40 = .ok (.iload_n 2, 1) := by decide +kernel
theorem dX5_kinds_41 : decode cX5_kinds 41 = .ok (.iaload, 1) := by decide +kernel
theorem dX5_kinds_42 : decode cX5_kinds 42 = .ok (.istore 6, 2) := by decide +kernel
theorem dX5_kinds_44 : decode cX5_kinds 44 = .ok (.iconst 0, 1) := by decide +kernel
theorem dX5_kinds_45 : decode cX5_kinds 45 = .ok (.istore 7, 2) := by decide +kernel
theorem dX5_kinds_47 : decode cX5_kinds 47 = .ok (.iconst 0, 1) := by decide +kernel
theorem dX5_kinds_48 : decode cX5_kinds 48 = .ok (.istore 8, 2) := by decide +kernel
theorem dX5_kinds_50 : decode cX5_kinds 50 = .ok (.iload 8, 2) := by decide +kernel
theorem dX5_kinds_52 : decode cX5_kinds 52 = .ok (.iload_n 3, 1) := by decide +kernel
theorem dX5_kinds_53 : decode cX5_kinds 53 = .ok (.ifCond .ne 8, 3) := by decide +kernel
theorem dX5_kinds_56 : decode cX5_kinds 56 = .ok (.bipush 6, 2) := by decide +kernel
theorem dX5_kinds_58 : decode cX5_kinds 58 = .ok (.goto 5, 3) := by decide +kernel
theorem dX5_kinds_61 : decode cX5_kinds 61 = .ok (.bipush 10, 2) := by decide +kernel
theorem dX5_kinds_63 : decode cX5_kinds 63 = .ok (.if_icmp .ge 67, 3) := by decide +kernel
theorem dX5_kinds_66 : decode cX5_kinds 66 = .ok (.aload_n 0, 1) := by decide +kernel
theorem dX5_kinds_67 : decode cX5_kinds 67 = .ok (.getfield 7, 3) := by decide +kernel
theorem dX5_kinds_70 : decode cX5_kinds 70 = .ok (.iload_n 2, 1) := by decide +kernel
theorem dX5_kinds_71 : decode cX5_kinds 71 = .ok (.iload_n 3, 1) := by decide +kernel
theorem dX5_kinds_72 : decode cX5_kinds 72 = .ok (.ifCond .ne 8, 3) := by decide +kernel
theorem dX5_kinds_75 : decode cX5_kinds 75 = .ok (.iload 8, 2) := by decide +kernel
theorem dX5_kinds_77 : decode cX5_kinds 77 = .ok (.goto 5, 3) := by decide +kernel
theorem dX5_kinds_80 : decode cX5_kinds 80 = .ok (.iload 5, 2) := by decide +kernel
theorem dX5_kinds_82 : decode cX5_kinds 82 = .ok (.iastore, 1) := by decide +kernel
theorem dX5_kinds_83 : decode cX5_kinds 83 = .ok (.aload_n 0, 1) := by decide +kernel
theorem dX5_kinds_84 : decode cX5_kinds 84 = .ok (.getfield 13, 3) := by decide +kernel
theorem dX5_kinds_87 : decode cX5_kinds 87 = .ok (.iload_n 2, 1) := by decide +kernel
theorem dX5_kinds_88 : decode cX5_kinds 88 = .ok (.iload_n 3, 1) := by decide +kernel
theorem dX5_kinds_89 : decode cX5_kinds 89 = .ok (.iconst 1, 1) := by decide +kernel
theorem dX5_kinds_90 : decode cX5_kinds 90 = .ok (.if_icmp .ne 8, 3) := by decide +kernel
theorem dX5_kinds_93 : decode cX5_kinds 93 = .ok (.iload 8, 2) := by decide +kernel
theorem dX5_kinds_95 : decode cX5_kinds 95 = .ok (.goto 5, 3) := by decide +kernel
theorem dX5_kinds_98 : decode cX5_kinds 98 = .ok (.iload 6, 2) := by decide +kernel
theorem dX5_kinds_100 : decode cX5_kinds 100 = .ok (.iastore, 1) := by decide +kernel
theorem dX5_kinds_101 : decode cX5_kinds 101 = .ok (.iload 7, 2) := by decide +kernel
theorem dX5_kinds_103 : decode cX5_kinds 103 = .ok (.aload_n 0, 1) := by decide +kernel
theorem dX5_kinds_104 : decode cX5_kinds 104 = .ok (.iload_n 1, 1) := by decide +kernel
theorem dX5_kinds_105 : decode cX5_kinds 105 = .ok (.iload_n 2, 1) := by decide +kernel
theorem dX5_kinds_106 : decode cX5_kinds 106 = .ok (.invokevirtual 254, 3) := by decide +kernel
theorem dX5_kinds_109 : decode cX5_kinds 109 = .ok (.iconst (-1), 1) := by decide +kernel
theorem dX5_kinds_110 : decode cX5_kinds 110 = .ok (.if_icmp .ne 10, 3) := by decide +kernel
theorem dX5_kinds_113 : decode cX5_kinds 113 = .ok (.iconst 1, 1) := by decide +kernel
theorem dX5_kinds_114 : decode cX5_kinds 114 = .ok (.iload 8, 2) := by decide +kernel
theorem dX5_kinds_116 : decode cX5_kinds 116 = .ok (.ishl, 1) := by decide +kernel
theorem dX5_kinds_117 : decode cX5_kinds 117 = .ok (.goto 4, 3) := by decide +kernel
theorem dX5_kinds_120 : decode cX5_kinds 120 = .ok (.iconst 0, 1) := by decide +kernel
theorem dX5_kinds_121 : decode cX5_kinds 121 = .ok (.ior, 1) := by decide +kernel
theorem dX5_kinds_122 : decode cX5_kinds 122 = .ok (.istore 7, 2) := by decide +kernel
theorem dX5_kinds_124 : decode cX5_kinds 124 = .ok (.iinc 8 1, 3) := by decide +kernel
theorem dX5_kinds_127 : decode cX5_kinds 127 = .ok (.goto (-77), 3) := by decide +kernel
theorem dX5_kinds_130 : decode cX5_kinds 130 = .ok (.aload_n 0, 1) := by decide +kernel
theorem dX5_kinds_131 : decode cX5_kinds 131 = .ok (.getfield 7, 3) := by decide +kernel
theorem dX5_kinds_134 : decode cX5_kinds 134 = .ok (.iload_n 2, 1) := by decide +kernel
theorem dX5_kinds_135 : decode cX5_kinds 135 = .ok (.iload 5, 2) := by decide +kernel
theorem dX5_kinds_137 : decode cX5_kinds 137 = .ok (.iastore, 1) := by decide +kernel
theorem dX5_kinds_138 : decode cX5_kinds 138 = .ok (.aload_n 0, 1) := by decide +kernel
theorem dX5_kinds_139 : decode cX5_kinds 139 = .ok (.getfield 13, 3) := by decide +kernel
theorem dX5_kinds_142 : decode cX5_kinds 142 = .ok (.iload_n 2, 1) := by decide +kernel
theorem dX5_kinds_143 : decode cX5_kinds 143 = .ok (.iload 6, 2) := by decide +kernel
theorem dX5_kinds_145 : decode cX5_kinds 145 = .ok (.iastore, 1) := by decide +kernel
theorem dX5_kinds_146 : decode cX5_kinds 146 = .ok (.iload 7, 2) := by decide +kernel
theorem dX5_kinds_148 : decode cX5_kinds 148 = .ok (.ireturn, 1) := by decide +kernel
def b_X5_kinds_100 (kc50 : Int32 → Int32 → Int32 → Int32 → Int32 → Int32 → Int32 → GM → Option (Int32 × GM)) (x1 : Int32) (x2 : Int32) (x3 : Int32) (x5 : Int32) (x6 : Int32) (x7 : Int32) (x8 : Int32) (xs0 : Int32) (xs1 : Int32) (σ : GM) : Option (Int32 × GM) :=
  grd xs1 6 (bnd (some (tA σ 1 xs1.toNatClampNeg xs0)) fun σ8 => bnd (f_X5_unlike x1 x2 σ8) fun q9 => if q9.1 ≠ (-1 : Int32) then (bnd (some (x7 ||| (0 : Int32))) fun w10 => kc50 x1 x2 x3 x5 x6 w10 (x8 + (1 : Int32)) q9.2) else (bnd (some (x7 ||| (slI (1 : Int32) x8))) fun w11 => kc50 x1 x2 x3 x5 x6 w11 (x8 + (1 : Int32)) q9.2))
theorem vb_X5_kinds_100 {g : Gt} {ad : Nat → Nat} (z : Zt) (kc50 : Int32 → Int32 → Int32 → Int32 → Int32 → Int32 → Int32 → GM → Option (Int32 × GM)) (hkc50 : ∀ (x1 : Int32) (x2 : Int32) (x3 : Int32) (x5 : Int32) (x6 : Int32) (x7 : Int32) (x8 : Int32) (σ : GM), V g (LM ad) 9 RX5 cX5_kinds 9 (some .int) (wM g ad) iI z (kc50 x1 x2 x3 x5 x6 x7 x8 σ) σ 50 [(0, .ref (aMo ad)), (1, .int x1), (2, .int x2), (3, .int x3), (5, .int x5), (6, .int x6), (7, .int x7), (8, .int x8)] []) (x1 : Int32) (x2 : Int32) (x3 : Int32) (x5 : Int32) (x6 : Int32) (x7 : Int32) (x8 : Int32) (xs0 : Int32) (xs1 : Int32) (σ : GM) : V g (LM ad) 9 RX5 cX5_kinds 9 (some .int) (wM g ad) iI z (b_X5_kinds_100 kc50 x1 x2 x3 x5 x6 x7 x8 xs0 xs1 σ) σ 100 [(0, .ref (aMo ad)), (1, .int x1), (2, .int x2), (3, .int x3), (5, .int x5), (6, .int x6), (7, .int x7), (8, .int x8)] [.int xs0, .int xs1, .ref (aMoA ad 1)] := by
  unfold b_X5_kinds_100
  refine sM_moreOf (pc := 100) dX5_kinds_100 ?_
  refine v_nms (fun σ8 => ?_)
  refine v_iload (pc := 101) (i := 7) dX5_kinds_101 rfl ?_
  refine v_aload_n (pc := 103) (i := 0) dX5_kinds_103 rfl rfl ?_
  refine v_iload_n (pc := 104) (i := 1) dX5_kinds_104 rfl rfl ?_
  refine v_iload_n (pc := 105) (i := 2) dX5_kinds_105 rfl rfl ?_
  refine v_callVi (pc := 106) rcX5 (As := [.int x1, .int x2]) (rest := [.int x7]) (ct_X5_unlike x1 x2) mi_X5_unlike q_1071 (by decide) rfl rfl (Nat.le_of_ble_eq_true rfl) dX5_kinds_106 (fun q9 => ?_)
  refine v_iconst (pc := 109) dX5_kinds_109 ic_m1 ?_
  refine v_icmp_ne (pc := 110) (tgt := 120) dX5_kinds_110 rfl ?_ ?_
  · refine v_iconst (pc := 120) dX5_kinds_120 ic_0 ?_
    refine v_ior (pc := 121) dX5_kinds_121 ?_
    refine v_nmi (fun w10 => ?_)
    refine v_istore (pc := 122) (lv' := [(7, .int w10), (0, .ref (aMo ad)), (1, .int x1), (2, .int x2), (3, .int x3), (5, .int x5), (6, .int x6), (8, .int x8)]) (i := 7) dX5_kinds_122 (by decide) rfl ?_
    refine v_iinc (pc := 124) (lv' := [(8, .int (x8 + (1 : Int32))), (7, .int w10), (0, .ref (aMo ad)), (1, .int x1), (2, .int x2), (3, .int x3), (5, .int x5), (6, .int x6)]) (i := 8) dX5_kinds_124 rfl ic_1 (by decide) rfl ?_
    refine v_goto (pc := 127) (tgt := 50) dX5_kinds_127 rfl ?_
    exact v_sub [2, 3, 4, 5, 6, 7, 1, 0] rfl (hkc50 x1 x2 x3 x5 x6 w10 (x8 + (1 : Int32)) q9.2)
  · refine v_iconst (pc := 113) dX5_kinds_113 ic_1 ?_
    refine v_iload (pc := 114) (i := 8) dX5_kinds_114 rfl ?_
    refine v_ishl (pc := 116) dX5_kinds_116 ?_
    refine v_goto (pc := 117) (tgt := 121) dX5_kinds_117 rfl ?_
    refine v_ior (pc := 121) dX5_kinds_121 ?_
    refine v_nmi (fun w11 => ?_)
    refine v_istore (pc := 122) (lv' := [(7, .int w11), (0, .ref (aMo ad)), (1, .int x1), (2, .int x2), (3, .int x3), (5, .int x5), (6, .int x6), (8, .int x8)]) (i := 7) dX5_kinds_122 (by decide) rfl ?_
    refine v_iinc (pc := 124) (lv' := [(8, .int (x8 + (1 : Int32))), (7, .int w11), (0, .ref (aMo ad)), (1, .int x1), (2, .int x2), (3, .int x3), (5, .int x5), (6, .int x6)]) (i := 8) dX5_kinds_124 rfl ic_1 (by decide) rfl ?_
    refine v_goto (pc := 127) (tgt := 50) dX5_kinds_127 rfl ?_
    exact v_sub [2, 3, 4, 5, 6, 7, 1, 0] rfl (hkc50 x1 x2 x3 x5 x6 w11 (x8 + (1 : Int32)) q9.2)
def b_X5_kinds_82 (kc50 : Int32 → Int32 → Int32 → Int32 → Int32 → Int32 → Int32 → GM → Option (Int32 × GM)) (x1 : Int32) (x2 : Int32) (x3 : Int32) (x5 : Int32) (x6 : Int32) (x7 : Int32) (x8 : Int32) (xs0 : Int32) (xs1 : Int32) (σ : GM) : Option (Int32 × GM) :=
  grd xs1 6 (bnd (some (tA σ 0 xs1.toNatClampNeg xs0)) fun σ7 => if x3 ≠ (1 : Int32) then (b_X5_kinds_100 kc50 x1 x2 x3 x5 x6 x7 x8 x6 x2 σ7) else (b_X5_kinds_100 kc50 x1 x2 x3 x5 x6 x7 x8 x8 x2 σ7))
theorem vb_X5_kinds_82 {g : Gt} {ad : Nat → Nat} (z : Zt) (kc50 : Int32 → Int32 → Int32 → Int32 → Int32 → Int32 → Int32 → GM → Option (Int32 × GM)) (hkc50 : ∀ (x1 : Int32) (x2 : Int32) (x3 : Int32) (x5 : Int32) (x6 : Int32) (x7 : Int32) (x8 : Int32) (σ : GM), V g (LM ad) 9 RX5 cX5_kinds 9 (some .int) (wM g ad) iI z (kc50 x1 x2 x3 x5 x6 x7 x8 σ) σ 50 [(0, .ref (aMo ad)), (1, .int x1), (2, .int x2), (3, .int x3), (5, .int x5), (6, .int x6), (7, .int x7), (8, .int x8)] []) (x1 : Int32) (x2 : Int32) (x3 : Int32) (x5 : Int32) (x6 : Int32) (x7 : Int32) (x8 : Int32) (xs0 : Int32) (xs1 : Int32) (σ : GM) : V g (LM ad) 9 RX5 cX5_kinds 9 (some .int) (wM g ad) iI z (b_X5_kinds_82 kc50 x1 x2 x3 x5 x6 x7 x8 xs0 xs1 σ) σ 82 [(0, .ref (aMo ad)), (1, .int x1), (2, .int x2), (3, .int x3), (5, .int x5), (6, .int x6), (7, .int x7), (8, .int x8)] [.int xs0, .int xs1, .ref (aMoA ad 0)] := by
  unfold b_X5_kinds_82
  refine sM_kind (pc := 82) dX5_kinds_82 ?_
  refine v_nms (fun σ7 => ?_)
  refine v_aload_n (pc := 83) (i := 0) dX5_kinds_83 rfl rfl ?_
  refine gX5_moreOf (pc := 84) q_756 dX5_kinds_84 ?_
  refine v_iload_n (pc := 87) (i := 2) dX5_kinds_87 rfl rfl ?_
  refine v_iload_n (pc := 88) (i := 3) dX5_kinds_88 rfl rfl ?_
  refine v_iconst (pc := 89) dX5_kinds_89 ic_1 ?_
  refine v_icmp_ne (pc := 90) (tgt := 98) dX5_kinds_90 rfl ?_ ?_
  · refine v_iload (pc := 98) (i := 6) dX5_kinds_98 rfl ?_
    exact v_sub [0, 1, 2, 3, 4, 5, 6, 7] rfl (vb_X5_kinds_100 z kc50 hkc50 x1 x2 x3 x5 x6 x7 x8 x6 x2 σ7)
  · refine v_iload (pc := 93) (i := 8) dX5_kinds_93 rfl ?_
    refine v_goto (pc := 95) (tgt := 100) dX5_kinds_95 rfl ?_
    exact v_sub [0, 1, 2, 3, 4, 5, 6, 7] rfl (vb_X5_kinds_100 z kc50 hkc50 x1 x2 x3 x5 x6 x7 x8 x8 x2 σ7)
def b_X5_kinds_63 (kc50 : Int32 → Int32 → Int32 → Int32 → Int32 → Int32 → Int32 → GM → Option (Int32 × GM)) (x1 : Int32) (x2 : Int32) (x3 : Int32) (x5 : Int32) (x6 : Int32) (x7 : Int32) (x8 : Int32) (xs0 : Int32) (xs1 : Int32) (σ : GM) : Option (Int32 × GM) :=
  if xs0 ≤ xs1 then (grd x2 6 (bnd (some (tA σ 0 x2.toNatClampNeg x5)) fun σ5 => grd x2 6 (bnd (some (tA σ5 1 x2.toNatClampNeg x6)) fun σ6 => some (x7, σ6)))) else (if x3 ≠ 0 then (b_X5_kinds_82 kc50 x1 x2 x3 x5 x6 x7 x8 x5 x2 σ) else (b_X5_kinds_82 kc50 x1 x2 x3 x5 x6 x7 x8 x8 x2 σ))
theorem vb_X5_kinds_63 {g : Gt} {ad : Nat → Nat} (z : Zt) (kc50 : Int32 → Int32 → Int32 → Int32 → Int32 → Int32 → Int32 → GM → Option (Int32 × GM)) (hkc50 : ∀ (x1 : Int32) (x2 : Int32) (x3 : Int32) (x5 : Int32) (x6 : Int32) (x7 : Int32) (x8 : Int32) (σ : GM), V g (LM ad) 9 RX5 cX5_kinds 9 (some .int) (wM g ad) iI z (kc50 x1 x2 x3 x5 x6 x7 x8 σ) σ 50 [(0, .ref (aMo ad)), (1, .int x1), (2, .int x2), (3, .int x3), (5, .int x5), (6, .int x6), (7, .int x7), (8, .int x8)] []) (x1 : Int32) (x2 : Int32) (x3 : Int32) (x5 : Int32) (x6 : Int32) (x7 : Int32) (x8 : Int32) (xs0 : Int32) (xs1 : Int32) (σ : GM) : V g (LM ad) 9 RX5 cX5_kinds 9 (some .int) (wM g ad) iI z (b_X5_kinds_63 kc50 x1 x2 x3 x5 x6 x7 x8 xs0 xs1 σ) σ 63 [(0, .ref (aMo ad)), (1, .int x1), (2, .int x2), (3, .int x3), (5, .int x5), (6, .int x6), (7, .int x7), (8, .int x8)] [.int xs0, .int xs1] := by
  unfold b_X5_kinds_63
  refine v_icmp_ge (pc := 63) (tgt := 130) dX5_kinds_63 rfl ?_ ?_
  · refine v_aload_n (pc := 130) (i := 0) dX5_kinds_130 rfl rfl ?_
    refine gX5_kind (pc := 131) q_755 dX5_kinds_131 ?_
    refine v_iload_n (pc := 134) (i := 2) dX5_kinds_134 rfl rfl ?_
    refine v_iload (pc := 135) (i := 5) dX5_kinds_135 rfl ?_
    refine sM_kind (pc := 137) dX5_kinds_137 ?_
    refine v_nms (fun σ5 => ?_)
    refine v_aload_n (pc := 138) (i := 0) dX5_kinds_138 rfl rfl ?_
    refine gX5_moreOf (pc := 139) q_756 dX5_kinds_139 ?_
    refine v_iload_n (pc := 142) (i := 2) dX5_kinds_142 rfl rfl ?_
    refine v_iload (pc := 143) (i := 6) dX5_kinds_143 rfl ?_
    refine sM_moreOf (pc := 145) dX5_kinds_145 ?_
    refine v_nms (fun σ6 => ?_)
    refine v_iload (pc := 146) (i := 7) dX5_kinds_146 rfl ?_
    exact v_iret (pc := 148) dX5_kinds_148
  · refine v_aload_n (pc := 66) (i := 0) dX5_kinds_66 rfl rfl ?_
    refine gX5_kind (pc := 67) q_755 dX5_kinds_67 ?_
    refine v_iload_n (pc := 70) (i := 2) dX5_kinds_70 rfl rfl ?_
    refine v_iload_n (pc := 71) (i := 3) dX5_kinds_71 rfl rfl ?_
    refine v_if_ne (pc := 72) (tgt := 80) dX5_kinds_72 rfl ?_ ?_
    · refine v_iload (pc := 80) (i := 5) dX5_kinds_80 rfl ?_
      exact v_sub [0, 1, 2, 3, 4, 5, 6, 7] rfl (vb_X5_kinds_82 z kc50 hkc50 x1 x2 x3 x5 x6 x7 x8 x5 x2 σ)
    · refine v_iload (pc := 75) (i := 8) dX5_kinds_75 rfl ?_
      refine v_goto (pc := 77) (tgt := 82) dX5_kinds_77 rfl ?_
      exact v_sub [0, 1, 2, 3, 4, 5, 6, 7] rfl (vb_X5_kinds_82 z kc50 hkc50 x1 x2 x3 x5 x6 x7 x8 x8 x2 σ)
def b_X5_kinds_50 (kc50 : Int32 → Int32 → Int32 → Int32 → Int32 → Int32 → Int32 → GM → Option (Int32 × GM)) (x1 : Int32) (x2 : Int32) (x3 : Int32) (x5 : Int32) (x6 : Int32) (x7 : Int32) (x8 : Int32) (σ : GM) : Option (Int32 × GM) :=
  if x3 ≠ 0 then (b_X5_kinds_63 kc50 x1 x2 x3 x5 x6 x7 x8 (10 : Int32) x8 σ) else (b_X5_kinds_63 kc50 x1 x2 x3 x5 x6 x7 x8 (6 : Int32) x8 σ)
theorem vb_X5_kinds_50 {g : Gt} {ad : Nat → Nat} (z : Zt) (kc50 : Int32 → Int32 → Int32 → Int32 → Int32 → Int32 → Int32 → GM → Option (Int32 × GM)) (hkc50 : ∀ (x1 : Int32) (x2 : Int32) (x3 : Int32) (x5 : Int32) (x6 : Int32) (x7 : Int32) (x8 : Int32) (σ : GM), V g (LM ad) 9 RX5 cX5_kinds 9 (some .int) (wM g ad) iI z (kc50 x1 x2 x3 x5 x6 x7 x8 σ) σ 50 [(0, .ref (aMo ad)), (1, .int x1), (2, .int x2), (3, .int x3), (5, .int x5), (6, .int x6), (7, .int x7), (8, .int x8)] []) (x1 : Int32) (x2 : Int32) (x3 : Int32) (x5 : Int32) (x6 : Int32) (x7 : Int32) (x8 : Int32) (σ : GM) : V g (LM ad) 9 RX5 cX5_kinds 9 (some .int) (wM g ad) iI z (b_X5_kinds_50 kc50 x1 x2 x3 x5 x6 x7 x8 σ) σ 50 [(0, .ref (aMo ad)), (1, .int x1), (2, .int x2), (3, .int x3), (5, .int x5), (6, .int x6), (7, .int x7), (8, .int x8)] [] := by
  unfold b_X5_kinds_50
  refine v_iload (pc := 50) (i := 8) dX5_kinds_50 rfl ?_
  refine v_iload_n (pc := 52) (i := 3) dX5_kinds_52 rfl rfl ?_
  refine v_if_ne (pc := 53) (tgt := 61) dX5_kinds_53 rfl ?_ ?_
  · refine v_bipush (pc := 61) dX5_kinds_61 bp_10 ?_
    exact v_sub [0, 1, 2, 3, 4, 5, 6, 7] rfl (vb_X5_kinds_63 z kc50 hkc50 x1 x2 x3 x5 x6 x7 x8 (10 : Int32) x8 σ)
  · refine v_bipush (pc := 56) dX5_kinds_56 bp_6 ?_
    refine v_goto (pc := 58) (tgt := 63) dX5_kinds_58 rfl ?_
    exact v_sub [0, 1, 2, 3, 4, 5, 6, 7] rfl (vb_X5_kinds_63 z kc50 hkc50 x1 x2 x3 x5 x6 x7 x8 (6 : Int32) x8 σ)
def k_X5_kinds_50 : Nat → Int32 → Int32 → Int32 → Int32 → Int32 → Int32 → Int32 → GM → Option (Int32 × GM)
  | 0 => fun _ _ _ _ _ _ _ _ => none
  | n + 1 => b_X5_kinds_50 (k_X5_kinds_50 n)
theorem vk_X5_kinds_50 {g : Gt} {ad : Nat → Nat} (z : Zt) : ∀ (n : Nat) (x1 : Int32) (x2 : Int32) (x3 : Int32) (x5 : Int32) (x6 : Int32) (x7 : Int32) (x8 : Int32) (σ : GM), V g (LM ad) 9 RX5 cX5_kinds 9 (some .int) (wM g ad) iI z (k_X5_kinds_50 n x1 x2 x3 x5 x6 x7 x8 σ) σ 50 [(0, .ref (aMo ad)), (1, .int x1), (2, .int x2), (3, .int x3), (5, .int x5), (6, .int x6), (7, .int x7), (8, .int x8)] [] := by
  intro n
  induction n with
  | zero => intros; exact v_eq rfl v_none
  | succ n ih =>
    intro x1 x2 x3 x5 x6 x7 x8 σ
    exact v_eq rfl (vb_X5_kinds_50 z _ ih x1 x2 x3 x5 x6 x7 x8 σ)
def f_X5_kinds (x1 : Int32) (x2 : Int32) (x3 : Int32) (σ : GM) : Option (Int32 × GM) :=
  bnd (f_X5_toldWrong x1 x2 σ) fun q1 => if q1.1 = 0 then (bnd (f_X5_in x3 (0 : Int32) (1 : Int32) q1.2) fun q2 => if q2.1 ≠ 0 then (grd x2 6 (bnd (some (mA q2.2 0 x2.toNatClampNeg)) fun w3 => grd x2 6 (bnd (some (mA q2.2 1 x2.toNatClampNeg)) fun w4 => k_X5_kinds_50 FU x1 x2 x3 w3 w4 (0 : Int32) (0 : Int32) q2.2))) else (some ((-7 : Int32), q2.2))) else (some (q1.1, q1.2))
theorem vf_X5_kinds {g : Gt} {ad : Nat → Nat} (z : Zt) (x1 : Int32) (x2 : Int32) (x3 : Int32) (σ : GM) : V g (LM ad) 9 RX5 cX5_kinds 9 (some .int) (wM g ad) iI z (f_X5_kinds x1 x2 x3 σ) σ 0 [(0, .ref (aMo ad)), (1, .int x1), (2, .int x2), (3, .int x3)] [] := by
  unfold f_X5_kinds
  refine v_aload_n (pc := 0) (i := 0) dX5_kinds_0 rfl rfl ?_
  refine v_iload_n (pc := 1) (i := 1) dX5_kinds_1 rfl rfl ?_
  refine v_iload_n (pc := 2) (i := 2) dX5_kinds_2 rfl rfl ?_
  refine v_callVi (pc := 3) rcX5 (As := [.int x1, .int x2]) (rest := []) (ct_X5_toldWrong x1 x2) mi_X5_toldWrong q_1063 (by decide) rfl rfl (Nat.le_of_ble_eq_true rfl) dX5_kinds_3 (fun q1 => ?_)
  refine v_istore (pc := 6) (lv' := [(4, .int q1.1), (0, .ref (aMo ad)), (1, .int x1), (2, .int x2), (3, .int x3)]) (i := 4) dX5_kinds_6 (by decide) rfl ?_
  refine v_iload (pc := 8) (i := 4) dX5_kinds_8 rfl ?_
  refine v_if_eq (pc := 10) (tgt := 16) dX5_kinds_10 rfl ?_ ?_
  · refine v_iload_n (pc := 16) (i := 3) dX5_kinds_16 rfl rfl ?_
    refine v_iconst (pc := 17) dX5_kinds_17 ic_0 ?_
    refine v_iconst (pc := 18) dX5_kinds_18 ic_1 ?_
    refine v_callSi (pc := 19) (av := [.int x3, .int (0 : Int32), .int (1 : Int32)]) (rest := []) (ct_X5_in x3 (0 : Int32) (1 : Int32)) mi_X5_in q_715 (by decide) rfl rfl (Nat.le_of_ble_eq_true rfl) dX5_kinds_19 (fun q2 => ?_)
    refine v_if_ne (pc := 22) (tgt := 28) dX5_kinds_22 rfl ?_ ?_
    · refine v_aload_n (pc := 28) (i := 0) dX5_kinds_28 rfl rfl ?_
      refine gX5_kind (pc := 29) q_755 dX5_kinds_29 ?_
      refine v_iload_n (pc := 32) (i := 2) dX5_kinds_32 rfl rfl ?_
      refine lM_kind (pc := 33) dX5_kinds_33 ?_
      refine v_nmi (fun w3 => ?_)
      refine v_istore (pc := 34) (lv' := [(5, .int w3), (4, .int q1.1), (0, .ref (aMo ad)), (1, .int x1), (2, .int x2), (3, .int x3)]) (i := 5) dX5_kinds_34 (by decide) rfl ?_
      refine v_aload_n (pc := 36) (i := 0) dX5_kinds_36 rfl rfl ?_
      refine gX5_moreOf (pc := 37) q_756 dX5_kinds_37 ?_
      refine v_iload_n (pc := 40) (i := 2) dX5_kinds_40 rfl rfl ?_
      refine lM_moreOf (pc := 41) dX5_kinds_41 ?_
      refine v_nmi (fun w4 => ?_)
      refine v_istore (pc := 42) (lv' := [(6, .int w4), (5, .int w3), (4, .int q1.1), (0, .ref (aMo ad)), (1, .int x1), (2, .int x2), (3, .int x3)]) (i := 6) dX5_kinds_42 (by decide) rfl ?_
      refine v_iconst (pc := 44) dX5_kinds_44 ic_0 ?_
      refine v_istore (pc := 45) (lv' := [(7, .int (0 : Int32)), (6, .int w4), (5, .int w3), (4, .int q1.1), (0, .ref (aMo ad)), (1, .int x1), (2, .int x2), (3, .int x3)]) (i := 7) dX5_kinds_45 (by decide) rfl ?_
      refine v_iconst (pc := 47) dX5_kinds_47 ic_0 ?_
      refine v_istore (pc := 48) (lv' := [(8, .int (0 : Int32)), (7, .int (0 : Int32)), (6, .int w4), (5, .int w3), (4, .int q1.1), (0, .ref (aMo ad)), (1, .int x1), (2, .int x2), (3, .int x3)]) (i := 8) dX5_kinds_48 (by decide) rfl ?_
      exact v_sub [5, 6, 7, 8, 3, 2, 1, 0] rfl (vk_X5_kinds_50 z FU x1 x2 x3 w3 w4 (0 : Int32) (0 : Int32) q2.2)
    · refine v_bipush (pc := 25) dX5_kinds_25 bp_m7 ?_
      exact v_iret (pc := 27) dX5_kinds_27
  · refine v_iload (pc := 13) (i := 4) dX5_kinds_13 rfl ?_
    exact v_iret (pc := 15) dX5_kinds_15
theorem ct_X5_kinds {g : Gt} {ad : Nat → Nat} (x1 : Int32) (x2 : Int32) (x3 : Int32) : CT g (LM ad) yX5_kinds cX5_kinds 9 (some .int) 9 [.ref (aMo ad), .int x1, .int x2, .int x3] iI (wM g ad) (f_X5_kinds x1 x2 x3) :=
  ct_of_V (own := RX5) (lv0 := [(0, .ref (aMo ad)), (1, .int x1), (2, .int x2), (3, .int x3)]) (by decide +kernel) rfl (Nat.le_of_ble_eq_true rfl) rfl (fun z σ => vf_X5_kinds z x1 x2 x3 σ)
-- LighthouseLiedToModel.places
theorem dX5_places_0 : decode cX5_places 0 = .ok (.aload_n 0, 1) := by decide +kernel
theorem dX5_places_1 : decode cX5_places 1 = .ok (.iload_n 1, 1) := by decide +kernel
theorem dX5_places_2 : decode cX5_places 2 = .ok (.iload_n 2, 1) := by decide +kernel
theorem dX5_places_3 : decode cX5_places 3 = .ok (.invokevirtual 251, 3) := by decide +kernel
theorem dX5_places_6 : decode cX5_places 6 = .ok (.ifCond .eq 7, 3) := by decide +kernel
theorem dX5_places_9 : decode cX5_places 9 = .ok (.ldc2_w 235, 3) := by decide +kernel
theorem dX5_places_12 : decode cX5_places 12 = .ok (.lreturn, 1) := by decide +kernel
theorem dX5_places_13 : decode cX5_places 13 = .ok (.aload_n 0, 1) := by decide +kernel
theorem dX5_places_14 : decode cX5_places 14 = .ok (.getfield 16, 3) := by decide +kernel
theorem dX5_places_17 : decode cX5_places 17 = .ok (.iload_n 2, 1) := by decide +kernel
theorem dX5_places_18 : decode cX5_places 18 = .ok (.iaload, 1) := by decide +kernel
theorem dX5_places_19 : decode cX5_places 19 = .ok (.istore_n 3, 1) := by decide +kernel
theorem dX5_places_20 : decode cX5_places 20 = .ok (.lconst 0, 1) := by decide +kernel
theorem dX5_places_21 : decode cX5_places 21 = .ok (.lstore 4, 2) := by decide +kernel
theorem dX5_places_23 : decode cX5_places 23 = .ok (.iconst 0, 1) := by decide +kernel
theorem dX5_places_24 : decode cX5_places 24 = .ok (.istore 6, 2) := by decide +kernel
theorem dX5_places_26 : decode cX5_places 26 = .ok (.iload 6, 2) := by decide +kernel
theorem dX5_places_28 : decode cX5_places 28 = .ok (.bipush 36, 2) := by decide +kernel
theorem dX5_places_30 : decode cX5_places 30 = .ok (.if_icmp .ge 40, 3) := by decide +kernel
theorem dX5_places_33 : decode cX5_places 33 = .ok (.aload_n 0, 1) := by decide +kernel
theorem dX5_places_34 : decode cX5_places 34 = .ok (.getfield 16, 3) := by decide +kernel
theorem dX5_places_37 : decode cX5_places 37 = .ok (.iload_n 2, 1) := by decide +kernel
theorem dX5_places_38 : decode cX5_places 38 = .ok (.iload 6, 2) := by decide +kernel
theorem dX5_places_40 : decode cX5_places 40 = .ok (.iastore, 1) := by decide +kernel
theorem dX5_places_41 : decode cX5_places 41 = .ok (.lload 4, 2) := by decide +kernel
theorem dX5_places_43 : decode cX5_places 43 = .ok (.aload_n 0, 1) := by decide +kernel
theorem dX5_places_44 : decode cX5_places 44 = .ok (.iload_n 1, 1) := by decide +kernel
theorem dX5_places_45 : decode cX5_places 45 = .ok (.iload_n 2, 1) := by decide +kernel
theorem dX5_places_46 : decode cX5_places 46 = .ok (.invokevirtual 254, 3) := by decide +kernel
theorem dX5_places_49 : decode cX5_places 49 = .ok (.iconst (-1), 1) := by decide +kernel
theorem dX5_places_50 : decode cX5_places 50 = .ok (.if_icmp .ne 10, 3) := by decide +kernel
theorem dX5_places_53 : decode cX5_places 53 = .ok (.lconst 1, 1) := by decide +kernel
theorem dX5_places_54 : decode cX5_places 54 = .ok (.iload 6, 2) := by decide +kernel
theorem dX5_places_56 : decode cX5_places 56 = .ok (.lshl, 1) := by decide +kernel
theorem dX5_places_57 : decode cX5_places 57 = .ok (.goto 4, 3) := by decide +kernel
theorem dX5_places_60 : decode cX5_places 60 = .ok (.lconst 0, 1) := by decide +kernel
theorem dX5_places_61 : decode cX5_places 61 = .ok (.lor, 1) := by decide +kernel
theorem dX5_places_62 : decode cX5_places 62 = .ok (.lstore 4, 2) := by decide +kernel
theorem dX5_places_64 : decode cX5_places 64 = .ok (.iinc 6 1, 3) := by decide +kernel
theorem dX5_places_67 : decode cX5_places 67 = .ok (.goto (-41), 3) := by decide +kernel
theorem dX5_places_70 : decode cX5_places 70 = .ok (.aload_n 0, 1) := by decide +kernel
theorem dX5_places_71 : decode cX5_places 71 = .ok (.getfield 16, 3) := by decide +kernel
theorem dX5_places_74 : decode cX5_places 74 = .ok (.iload_n 2, 1) := by decide +kernel
theorem dX5_places_75 : decode cX5_places 75 = .ok (.iload_n 3, 1) := by decide +kernel
theorem dX5_places_76 : decode cX5_places 76 = .ok (.iastore, 1) := by decide +kernel
theorem dX5_places_77 : decode cX5_places 77 = .ok (.lload 4, 2) := by decide +kernel
theorem dX5_places_79 : decode cX5_places 79 = .ok (.lreturn, 1) := by decide +kernel
def b_X5_places_26 (kc26 : Int32 → Int32 → Int32 → Int64 → Int32 → GM → Option (Int64 × GM)) (x1 : Int32) (x2 : Int32) (x3 : Int32) (x4 : Int64) (x6 : Int32) (σ : GM) : Option (Int64 × GM) :=
  if (36 : Int32) ≤ x6 then (grd x2 6 (bnd (some (tA σ 2 x2.toNatClampNeg x3)) fun σ3 => some (x4, σ3))) else (grd x2 6 (bnd (some (tA σ 2 x2.toNatClampNeg x6)) fun σ4 => bnd (f_X5_unlike x1 x2 σ4) fun q5 => if q5.1 ≠ (-1 : Int32) then (bnd (some (x4 ||| (0 : Int64))) fun w6 => kc26 x1 x2 x3 w6 (x6 + (1 : Int32)) q5.2) else (bnd (some (x4 ||| (slL (1 : Int64) x6))) fun w7 => kc26 x1 x2 x3 w7 (x6 + (1 : Int32)) q5.2)))
theorem vb_X5_places_26 {g : Gt} {ad : Nat → Nat} (z : Zt) (kc26 : Int32 → Int32 → Int32 → Int64 → Int32 → GM → Option (Int64 × GM)) (hkc26 : ∀ (x1 : Int32) (x2 : Int32) (x3 : Int32) (x4 : Int64) (x6 : Int32) (σ : GM), V g (LM ad) 9 RX5 cX5_places 7 (some .long) (wM g ad) iL z (kc26 x1 x2 x3 x4 x6 σ) σ 26 [(0, .ref (aMo ad)), (1, .int x1), (2, .int x2), (3, .int x3), (4, .long x4), (6, .int x6)] []) (x1 : Int32) (x2 : Int32) (x3 : Int32) (x4 : Int64) (x6 : Int32) (σ : GM) : V g (LM ad) 9 RX5 cX5_places 7 (some .long) (wM g ad) iL z (b_X5_places_26 kc26 x1 x2 x3 x4 x6 σ) σ 26 [(0, .ref (aMo ad)), (1, .int x1), (2, .int x2), (3, .int x3), (4, .long x4), (6, .int x6)] [] := by
  unfold b_X5_places_26
  refine v_iload (pc := 26) (i := 6) dX5_places_26 rfl ?_
  refine v_bipush (pc := 28) dX5_places_28 bp_36 ?_
  refine v_icmp_ge (pc := 30) (tgt := 70) dX5_places_30 rfl ?_ ?_
  · refine v_aload_n (pc := 70) (i := 0) dX5_places_70 rfl rfl ?_
    refine gX5_onOf (pc := 71) q_757 dX5_places_71 ?_
    refine v_iload_n (pc := 74) (i := 2) dX5_places_74 rfl rfl ?_
    refine v_iload_n (pc := 75) (i := 3) dX5_places_75 rfl rfl ?_
    refine sM_onOf (pc := 76) dX5_places_76 ?_
    refine v_nms (fun σ3 => ?_)
    refine v_lload (pc := 77) (i := 4) dX5_places_77 rfl ?_
    exact v_lret (pc := 79) dX5_places_79
  · refine v_aload_n (pc := 33) (i := 0) dX5_places_33 rfl rfl ?_
    refine gX5_onOf (pc := 34) q_757 dX5_places_34 ?_
    refine v_iload_n (pc := 37) (i := 2) dX5_places_37 rfl rfl ?_
    refine v_iload (pc := 38) (i := 6) dX5_places_38 rfl ?_
    refine sM_onOf (pc := 40) dX5_places_40 ?_
    refine v_nms (fun σ4 => ?_)
    refine v_lload (pc := 41) (i := 4) dX5_places_41 rfl ?_
    refine v_aload_n (pc := 43) (i := 0) dX5_places_43 rfl rfl ?_
    refine v_iload_n (pc := 44) (i := 1) dX5_places_44 rfl rfl ?_
    refine v_iload_n (pc := 45) (i := 2) dX5_places_45 rfl rfl ?_
    refine v_callVi (pc := 46) rcX5 (As := [.int x1, .int x2]) (rest := [.long x4]) (ct_X5_unlike x1 x2) mi_X5_unlike q_1071 (by decide) rfl rfl (Nat.le_of_ble_eq_true rfl) dX5_places_46 (fun q5 => ?_)
    refine v_iconst (pc := 49) dX5_places_49 ic_m1 ?_
    refine v_icmp_ne (pc := 50) (tgt := 60) dX5_places_50 rfl ?_ ?_
    · refine v_lconst (pc := 60) dX5_places_60 lc_0 ?_
      refine v_lor (pc := 61) dX5_places_61 ?_
      refine v_nml (fun w6 => ?_)
      refine v_lstore (pc := 62) (lv' := [(4, .long w6), (0, .ref (aMo ad)), (1, .int x1), (2, .int x2), (3, .int x3), (6, .int x6)]) (i := 4) dX5_places_62 (by decide) rfl ?_
      refine v_iinc (pc := 64) (lv' := [(6, .int (x6 + (1 : Int32))), (4, .long w6), (0, .ref (aMo ad)), (1, .int x1), (2, .int x2), (3, .int x3)]) (i := 6) dX5_places_64 rfl ic_1 (by decide) rfl ?_
      refine v_goto (pc := 67) (tgt := 26) dX5_places_67 rfl ?_
      exact v_sub [2, 3, 4, 5, 1, 0] rfl (hkc26 x1 x2 x3 w6 (x6 + (1 : Int32)) q5.2)
    · refine v_lconst (pc := 53) dX5_places_53 lc_1 ?_
      refine v_iload (pc := 54) (i := 6) dX5_places_54 rfl ?_
      refine v_lshl (pc := 56) dX5_places_56 ?_
      refine v_goto (pc := 57) (tgt := 61) dX5_places_57 rfl ?_
      refine v_lor (pc := 61) dX5_places_61 ?_
      refine v_nml (fun w7 => ?_)
      refine v_lstore (pc := 62) (lv' := [(4, .long w7), (0, .ref (aMo ad)), (1, .int x1), (2, .int x2), (3, .int x3), (6, .int x6)]) (i := 4) dX5_places_62 (by decide) rfl ?_
      refine v_iinc (pc := 64) (lv' := [(6, .int (x6 + (1 : Int32))), (4, .long w7), (0, .ref (aMo ad)), (1, .int x1), (2, .int x2), (3, .int x3)]) (i := 6) dX5_places_64 rfl ic_1 (by decide) rfl ?_
      refine v_goto (pc := 67) (tgt := 26) dX5_places_67 rfl ?_
      exact v_sub [2, 3, 4, 5, 1, 0] rfl (hkc26 x1 x2 x3 w7 (x6 + (1 : Int32)) q5.2)
def k_X5_places_26 : Nat → Int32 → Int32 → Int32 → Int64 → Int32 → GM → Option (Int64 × GM)
  | 0 => fun _ _ _ _ _ _ => none
  | n + 1 => b_X5_places_26 (k_X5_places_26 n)
theorem vk_X5_places_26 {g : Gt} {ad : Nat → Nat} (z : Zt) : ∀ (n : Nat) (x1 : Int32) (x2 : Int32) (x3 : Int32) (x4 : Int64) (x6 : Int32) (σ : GM), V g (LM ad) 9 RX5 cX5_places 7 (some .long) (wM g ad) iL z (k_X5_places_26 n x1 x2 x3 x4 x6 σ) σ 26 [(0, .ref (aMo ad)), (1, .int x1), (2, .int x2), (3, .int x3), (4, .long x4), (6, .int x6)] [] := by
  intro n
  induction n with
  | zero => intros; exact v_eq rfl v_none
  | succ n ih =>
    intro x1 x2 x3 x4 x6 σ
    exact v_eq rfl (vb_X5_places_26 z _ ih x1 x2 x3 x4 x6 σ)
def f_X5_places (x1 : Int32) (x2 : Int32) (σ : GM) : Option (Int64 × GM) :=
  bnd (f_X5_toldWrong x1 x2 σ) fun q1 => if q1.1 = 0 then (grd x2 6 (bnd (some (mA q1.2 2 x2.toNatClampNeg)) fun w2 => k_X5_places_26 FU x1 x2 w2 (0 : Int64) (0 : Int32) q1.2)) else (some ((-4611686018427387904 : Int64), q1.2))
theorem vf_X5_places {g : Gt} {ad : Nat → Nat} (z : Zt) (x1 : Int32) (x2 : Int32) (σ : GM) : V g (LM ad) 9 RX5 cX5_places 7 (some .long) (wM g ad) iL z (f_X5_places x1 x2 σ) σ 0 [(0, .ref (aMo ad)), (1, .int x1), (2, .int x2)] [] := by
  unfold f_X5_places
  refine v_aload_n (pc := 0) (i := 0) dX5_places_0 rfl rfl ?_
  refine v_iload_n (pc := 1) (i := 1) dX5_places_1 rfl rfl ?_
  refine v_iload_n (pc := 2) (i := 2) dX5_places_2 rfl rfl ?_
  refine v_callVi (pc := 3) rcX5 (As := [.int x1, .int x2]) (rest := []) (ct_X5_toldWrong x1 x2) mi_X5_toldWrong q_1063 (by decide) rfl rfl (Nat.le_of_ble_eq_true rfl) dX5_places_3 (fun q1 => ?_)
  refine v_if_eq (pc := 6) (tgt := 13) dX5_places_6 rfl ?_ ?_
  · refine v_aload_n (pc := 13) (i := 0) dX5_places_13 rfl rfl ?_
    refine gX5_onOf (pc := 14) q_757 dX5_places_14 ?_
    refine v_iload_n (pc := 17) (i := 2) dX5_places_17 rfl rfl ?_
    refine lM_onOf (pc := 18) dX5_places_18 ?_
    refine v_nmi (fun w2 => ?_)
    refine v_istore_n (pc := 19) (lv' := [(3, .int w2), (0, .ref (aMo ad)), (1, .int x1), (2, .int x2)]) (i := 3) dX5_places_19 rfl (by decide) rfl ?_
    refine v_lconst (pc := 20) dX5_places_20 lc_0 ?_
    refine v_lstore (pc := 21) (lv' := [(4, .long (0 : Int64)), (3, .int w2), (0, .ref (aMo ad)), (1, .int x1), (2, .int x2)]) (i := 4) dX5_places_21 (by decide) rfl ?_
    refine v_iconst (pc := 23) dX5_places_23 ic_0 ?_
    refine v_istore (pc := 24) (lv' := [(6, .int (0 : Int32)), (4, .long (0 : Int64)), (3, .int w2), (0, .ref (aMo ad)), (1, .int x1), (2, .int x2)]) (i := 6) dX5_places_24 (by decide) rfl ?_
    exact v_sub [3, 4, 5, 2, 1, 0] rfl (vk_X5_places_26 z FU x1 x2 w2 (0 : Int64) (0 : Int32) q1.2)
  · refine v_ldc2 (pc := 9) dX5_places_9 q_1023 ?_
    exact v_lret (pc := 12) dX5_places_12
theorem ct_X5_places {g : Gt} {ad : Nat → Nat} (x1 : Int32) (x2 : Int32) : CT g (LM ad) yX5_places cX5_places 7 (some .long) 9 [.ref (aMo ad), .int x1, .int x2] iL (wM g ad) (f_X5_places x1 x2) :=
  ct_of_V (own := RX5) (lv0 := [(0, .ref (aMo ad)), (1, .int x1), (2, .int x2)]) (by decide +kernel) rfl (Nat.le_of_ble_eq_true rfl) rfl (fun z σ => vf_X5_places z x1 x2 σ)
-- LighthouseLiedToModel.draughts
theorem dX5_draughts_0 : decode cX5_draughts 0 = .ok (.aload_n 0, 1) := by decide +kernel
theorem dX5_draughts_1 : decode cX5_draughts 1 = .ok (.iload_n 1, 1) := by decide +kernel
theorem dX5_draughts_2 : decode cX5_draughts 2 = .ok (.iload_n 2, 1) := by decide +kernel
theorem dX5_draughts_3 : decode cX5_draughts 3 = .ok (.invokevirtual 251, 3) := by decide +kernel
theorem dX5_draughts_6 : decode cX5_draughts 6 = .ok (.istore 4, 2) := by decide +kernel
theorem dX5_draughts_8 : decode cX5_draughts 8 = .ok (.iload 4, 2) := by decide +kernel
theorem dX5_draughts_10 : decode cX5_draughts 10 = .ok (.ifCond .eq 6, 3) := by decide +kernel
theorem dX5_draughts_13 : decode cX5_draughts 13 = .ok (.iload 4, 2) := by decide +kernel
theorem dX5_draughts_15 : decode cX5_draughts 15 = .ok (.ireturn, 1) := by decide +kernel
theorem dX5_draughts_16 : decode cX5_draughts 16 = .ok (.iload_n 3, 1) := by decide +kernel
theorem dX5_draughts_17 : decode cX5_draughts 17 = .ok (.iconst 0, 1) := by decide +kernel
theorem dX5_draughts_18 : decode cX5_draughts 18 = .ok (.iconst 1, 1) := by decide +kernel
theorem dX5_draughts_19 : decode cX5_draughts 19 = .ok (.invokestatic 78, 3) := by decide +kernel
theorem dX5_draughts_22 : decode cX5_draughts 22 = .ok (.ifCond .ne 6, 3) := by decide +kernel
theorem dX5_draughts_25 : decode cX5_draughts 25 = .ok (.bipush (-7), 2) := by decide +kernel
theorem dX5_draughts_27 : decode cX5_draughts 27 = .ok (.ireturn, 1) := by decide +kernel
theorem dX5_draughts_28 : decode cX5_draughts 28 = .ok (.aload_n 0, 1) := by decide +kernel
theorem dX5_draughts_29 : decode cX5_draughts 29 = .ok (.getfield 19, 3) := by decide +kernel
theorem dX5_draughts_32 : decode cX5_draughts 32 = .ok (.iload_n 2, 1) := by decide +kernel
theorem dX5_draughts_33 : decode cX5_draughts 33 = .ok (.iaload, 1) := by decide +kernel
theorem dX5_draughts_34 : decode cX5_draughts 34 = .ok (.istore 5, 2) := by decide +kernel
theorem dX5_draughts_36 : decode cX5_draughts 36 = .ok (.iconst 0, 1) := by decide +kernel
theorem dX5_draughts_37 : decode cX5_draughts 37 = .ok (.istore 6, 2) := by decide +kernel
theorem dX5_draughts_39 : decode cX5_draughts 39 = .ok (.iconst (-1), 1) := by decide +kernel
theorem dX5_draughts_40 : decode cX5_draughts 40 = .ok (.istore 7, 2) := by decide +kernel
theorem dX5_draughts_42 : decode cX5_draughts 42 = .ok (.iconst 0, 1) := by decide +kernel
theorem dX5_draughts_43 : decode cX5_draughts 43 = .ok (.istore 8, 2) := by decide +kernel
theorem dX5_draughts_45 : decode cX5_draughts 45 = .ok (.iload 8, 2) := by decide +kernel
theorem dX5_draughts_47 : decode cX5_draughts 47 = .ok (.bipush 99, 2) := by decide +kernel
theorem dX5_draughts_49 : decode cX5_draughts 49 = .ok (.if_icmp .gt 69, 3) := by decide +kernel
theorem dX5_draughts_52 : decode cX5_draughts 52 = .ok (.aload_n 0, 1) := by decide +kernel
theorem dX5_draughts_53 : decode cX5_draughts 53 = .ok (.getfield 19, 3) := by decide +kernel
theorem dX5_draughts_56 : decode cX5_draughts 56 = .ok (.iload_n 2, 1) := by decide +kernel
theorem dX5_draughts_57 : decode cX5_draughts 57 = .ok (.iload 8, 2) := by decide +kernel
theorem dX5_draughts_59 : decode cX5_draughts 59 = .ok (.iastore, 1) := by decide +kernel
theorem dX5_draughts_60 : decode cX5_draughts 60 = .ok (.aload_n 0, 1) := by decide +kernel
theorem dX5_draughts_61 : decode cX5_draughts 61 = .ok (.iload_n 1, 1) := by decide +kernel
theorem dX5_draughts_62 : decode cX5_draughts 62 = .ok (.iload_n 2, 1) := by decide +kernel
theorem dX5_draughts_63 : decode cX5_draughts 63 = .ok (.invokevirtual 254, 3) := by decide +kernel
theorem dX5_draughts_66 : decode cX5_draughts 66 = .ok (.iconst (-1), 1) := by decide +kernel
theorem dX5_draughts_67 : decode cX5_draughts 67 = .ok (.if_icmp .ne 7, 3) := by decide +kernel
theorem dX5_draughts_70 : decode cX5_draughts 70 = .ok (.iconst 1, 1) := by decide +kernel
theorem dX5_draughts_71 : decode cX5_draughts 71 = .ok (.goto 4, 3) := by decide +kernel
theorem dX5_draughts_74 : decode cX5_draughts 74 = .ok (.iconst 0, 1) := by decide +kernel
theorem dX5_draughts_75 : decode cX5_draughts 75 = .ok (.istore 9, 2) := by decide +kernel
theorem dX5_draughts_77 : decode cX5_draughts 77 = .ok (.iload 6, 2) := by decide +kernel
theorem dX5_draughts_79 : decode cX5_draughts 79 = .ok (.iload 9, 2) := by decide +kernel
theorem dX5_draughts_81 : decode cX5_draughts 81 = .ok (.ifCond .eq 7, 3) := by decide +kernel
theorem dX5_draughts_84 : decode cX5_draughts 84 = .ok (.iconst 1, 1) := by decide +kernel
theorem dX5_draughts_85 : decode cX5_draughts 85 = .ok (.goto 4, 3) := by decide +kernel
theorem dX5_draughts_88 : decode cX5_draughts 88 = .ok (.iconst 0, 1) := by decide +kernel
theorem dX5_draughts_89 : decode cX5_draughts 89 = .ok (.iadd, 1) := by decide +kernel
theorem dX5_draughts_90 : decode cX5_draughts 90 = .ok (.istore 6, 2) := by decide +kernel
theorem dX5_draughts_92 : decode cX5_draughts 92 = .ok (.iload 9, 2) := by decide +kernel
theorem dX5_draughts_94 : decode cX5_draughts 94 = .ok (.ifCond .eq 14, 3) := by decide +kernel
theorem dX5_draughts_97 : decode cX5_draughts 97 = .ok (.iload 7, 2) := by decide +kernel
theorem dX5_draughts_99 : decode cX5_draughts 99 = .ok (.iconst (-1), 1) := by decide +kernel
theorem dX5_draughts_100 : decode cX5_draughts 100 = .ok (.if_icmp .ne 8, 3) := by decide +kernel
theorem dX5_draughts_103 : decode cX5_draughts 103 = .ok (.iload 8, 2) := by decide +kernel
theorem dX5_draughts_105 : decode cX5_draughts 105 = .ok (.goto 5, 3) := by decide +kernel
theorem dX5_draughts_108 : decode cX5_draughts 108 = .ok (.iload 7, 2) := by decide +kernel
theorem dX5_draughts_110 : decode cX5_draughts 110 = .ok (.istore 7, 2) := by decide +kernel
theorem dX5_draughts_112 : decode cX5_draughts 112 = .ok (.iinc 8 1, 3) := by decide +kernel
theorem dX5_draughts_115 : decode cX5_draughts 115 = .ok (.goto (-70), 3) := by decide +kernel
theorem dX5_draughts_118 : decode cX5_draughts 118 = .ok (.aload_n 0, 1) := by decide +kernel
theorem dX5_draughts_119 : decode cX5_draughts 119 = .ok (.getfield 19, 3) := by decide +kernel
theorem dX5_draughts_122 : decode cX5_draughts 122 = .ok (.iload_n 2, 1) := by decide +kernel
theorem dX5_draughts_123 : decode cX5_draughts 123 = .ok (.iload 5, 2) := by decide +kernel
theorem dX5_draughts_125 : decode cX5_draughts 125 = .ok (.iastore, 1) := by decide +kernel
theorem dX5_draughts_126 : decode cX5_draughts 126 = .ok (.iload_n 3, 1) := by decide +kernel
theorem dX5_draughts_127 : decode cX5_draughts 127 = .ok (.ifCond .ne 8, 3) := by decide +kernel
theorem dX5_draughts_130 : decode cX5_draughts 130 = .ok (.iload 6, 2) := by decide +kernel
theorem dX5_draughts_132 : decode cX5_draughts 132 = .ok (.goto 5, 3) := by decide +kernel
theorem dX5_draughts_135 : decode cX5_draughts 135 = .ok (.iload 7, 2) := by decide +kernel
theorem dX5_draughts_137 : decode cX5_draughts 137 = .ok (.ireturn, 1) := by decide +kernel
def b_X5_draughts_89 (kc45 : Int32 → Int32 → Int32 → Int32 → Int32 → Int32 → Int32 → GM → Option (Int32 × GM)) (x1 : Int32) (x2 : Int32) (x3 : Int32) (x5 : Int32) (x7 : Int32) (x8 : Int32) (x9 : Int32) (xs0 : Int32) (xs1 : Int32) (σ : GM) : Option (Int32 × GM) :=
  bnd (some (xs1 + xs0)) fun w7 => if x9 = 0 then (kc45 x1 x2 x3 x5 w7 x7 (x8 + (1 : Int32)) σ) else (if x7 ≠ (-1 : Int32) then (kc45 x1 x2 x3 x5 w7 x7 (x8 + (1 : Int32)) σ) else (kc45 x1 x2 x3 x5 w7 x8 (x8 + (1 : Int32)) σ))
theorem vb_X5_draughts_89 {g : Gt} {ad : Nat → Nat} (z : Zt) (kc45 : Int32 → Int32 → Int32 → Int32 → Int32 → Int32 → Int32 → GM → Option (Int32 × GM)) (hkc45 : ∀ (x1 : Int32) (x2 : Int32) (x3 : Int32) (x5 : Int32) (x6 : Int32) (x7 : Int32) (x8 : Int32) (σ : GM), V g (LM ad) 9 RX5 cX5_draughts 10 (some .int) (wM g ad) iI z (kc45 x1 x2 x3 x5 x6 x7 x8 σ) σ 45 [(0, .ref (aMo ad)), (1, .int x1), (2, .int x2), (3, .int x3), (5, .int x5), (6, .int x6), (7, .int x7), (8, .int x8)] []) (x1 : Int32) (x2 : Int32) (x3 : Int32) (x5 : Int32) (x7 : Int32) (x8 : Int32) (x9 : Int32) (xs0 : Int32) (xs1 : Int32) (σ : GM) : V g (LM ad) 9 RX5 cX5_draughts 10 (some .int) (wM g ad) iI z (b_X5_draughts_89 kc45 x1 x2 x3 x5 x7 x8 x9 xs0 xs1 σ) σ 89 [(0, .ref (aMo ad)), (1, .int x1), (2, .int x2), (3, .int x3), (5, .int x5), (7, .int x7), (8, .int x8), (9, .int x9)] [.int xs0, .int xs1] := by
  unfold b_X5_draughts_89
  refine v_iadd (pc := 89) dX5_draughts_89 ?_
  refine v_nmi (fun w7 => ?_)
  refine v_istore (pc := 90) (lv' := [(6, .int w7), (0, .ref (aMo ad)), (1, .int x1), (2, .int x2), (3, .int x3), (5, .int x5), (7, .int x7), (8, .int x8), (9, .int x9)]) (i := 6) dX5_draughts_90 (by decide) rfl ?_
  refine v_iload (pc := 92) (i := 9) dX5_draughts_92 rfl ?_
  refine v_if_eq (pc := 94) (tgt := 108) dX5_draughts_94 rfl ?_ ?_
  · refine v_iload (pc := 108) (i := 7) dX5_draughts_108 rfl ?_
    refine v_istore (pc := 110) (lv' := [(7, .int x7), (6, .int w7), (0, .ref (aMo ad)), (1, .int x1), (2, .int x2), (3, .int x3), (5, .int x5), (8, .int x8), (9, .int x9)]) (i := 7) dX5_draughts_110 (by decide) rfl ?_
    refine v_iinc (pc := 112) (lv' := [(8, .int (x8 + (1 : Int32))), (7, .int x7), (6, .int w7), (0, .ref (aMo ad)), (1, .int x1), (2, .int x2), (3, .int x3), (5, .int x5), (9, .int x9)]) (i := 8) dX5_draughts_112 rfl ic_1 (by decide) rfl ?_
    refine v_goto (pc := 115) (tgt := 45) dX5_draughts_115 rfl ?_
    exact v_sub [3, 4, 5, 6, 7, 2, 1, 0] rfl (hkc45 x1 x2 x3 x5 w7 x7 (x8 + (1 : Int32)) σ)
  · refine v_iload (pc := 97) (i := 7) dX5_draughts_97 rfl ?_
    refine v_iconst (pc := 99) dX5_draughts_99 ic_m1 ?_
    refine v_icmp_ne (pc := 100) (tgt := 108) dX5_draughts_100 rfl ?_ ?_
    · refine v_iload (pc := 108) (i := 7) dX5_draughts_108 rfl ?_
      refine v_istore (pc := 110) (lv' := [(7, .int x7), (6, .int w7), (0, .ref (aMo ad)), (1, .int x1), (2, .int x2), (3, .int x3), (5, .int x5), (8, .int x8), (9, .int x9)]) (i := 7) dX5_draughts_110 (by decide) rfl ?_
      refine v_iinc (pc := 112) (lv' := [(8, .int (x8 + (1 : Int32))), (7, .int x7), (6, .int w7), (0, .ref (aMo ad)), (1, .int x1), (2, .int x2), (3, .int x3), (5, .int x5), (9, .int x9)]) (i := 8) dX5_draughts_112 rfl ic_1 (by decide) rfl ?_
      refine v_goto (pc := 115) (tgt := 45) dX5_draughts_115 rfl ?_
      exact v_sub [3, 4, 5, 6, 7, 2, 1, 0] rfl (hkc45 x1 x2 x3 x5 w7 x7 (x8 + (1 : Int32)) σ)
    · refine v_iload (pc := 103) (i := 8) dX5_draughts_103 rfl ?_
      refine v_goto (pc := 105) (tgt := 110) dX5_draughts_105 rfl ?_
      refine v_istore (pc := 110) (lv' := [(7, .int x8), (6, .int w7), (0, .ref (aMo ad)), (1, .int x1), (2, .int x2), (3, .int x3), (5, .int x5), (8, .int x8), (9, .int x9)]) (i := 7) dX5_draughts_110 (by decide) rfl ?_
      refine v_iinc (pc := 112) (lv' := [(8, .int (x8 + (1 : Int32))), (7, .int x8), (6, .int w7), (0, .ref (aMo ad)), (1, .int x1), (2, .int x2), (3, .int x3), (5, .int x5), (9, .int x9)]) (i := 8) dX5_draughts_112 rfl ic_1 (by decide) rfl ?_
      refine v_goto (pc := 115) (tgt := 45) dX5_draughts_115 rfl ?_
      exact v_sub [3, 4, 5, 6, 7, 2, 1, 0] rfl (hkc45 x1 x2 x3 x5 w7 x8 (x8 + (1 : Int32)) σ)
def b_X5_draughts_75 (kc45 : Int32 → Int32 → Int32 → Int32 → Int32 → Int32 → Int32 → GM → Option (Int32 × GM)) (x1 : Int32) (x2 : Int32) (x3 : Int32) (x5 : Int32) (x6 : Int32) (x7 : Int32) (x8 : Int32) (xs0 : Int32) (σ : GM) : Option (Int32 × GM) :=
  if xs0 = 0 then (b_X5_draughts_89 kc45 x1 x2 x3 x5 x7 x8 xs0 (0 : Int32) x6 σ) else (b_X5_draughts_89 kc45 x1 x2 x3 x5 x7 x8 xs0 (1 : Int32) x6 σ)
theorem vb_X5_draughts_75 {g : Gt} {ad : Nat → Nat} (z : Zt) (kc45 : Int32 → Int32 → Int32 → Int32 → Int32 → Int32 → Int32 → GM → Option (Int32 × GM)) (hkc45 : ∀ (x1 : Int32) (x2 : Int32) (x3 : Int32) (x5 : Int32) (x6 : Int32) (x7 : Int32) (x8 : Int32) (σ : GM), V g (LM ad) 9 RX5 cX5_draughts 10 (some .int) (wM g ad) iI z (kc45 x1 x2 x3 x5 x6 x7 x8 σ) σ 45 [(0, .ref (aMo ad)), (1, .int x1), (2, .int x2), (3, .int x3), (5, .int x5), (6, .int x6), (7, .int x7), (8, .int x8)] []) (x1 : Int32) (x2 : Int32) (x3 : Int32) (x5 : Int32) (x6 : Int32) (x7 : Int32) (x8 : Int32) (xs0 : Int32) (σ : GM) : V g (LM ad) 9 RX5 cX5_draughts 10 (some .int) (wM g ad) iI z (b_X5_draughts_75 kc45 x1 x2 x3 x5 x6 x7 x8 xs0 σ) σ 75 [(0, .ref (aMo ad)), (1, .int x1), (2, .int x2), (3, .int x3), (5, .int x5), (6, .int x6), (7, .int x7), (8, .int x8)] [.int xs0] := by
  unfold b_X5_draughts_75
  refine v_istore (pc := 75) (lv' := [(9, .int xs0), (0, .ref (aMo ad)), (1, .int x1), (2, .int x2), (3, .int x3), (5, .int x5), (6, .int x6), (7, .int x7), (8, .int x8)]) (i := 9) dX5_draughts_75 (by decide) rfl ?_
  refine v_iload (pc := 77) (i := 6) dX5_draughts_77 rfl ?_
  refine v_iload (pc := 79) (i := 9) dX5_draughts_79 rfl ?_
  refine v_if_eq (pc := 81) (tgt := 88) dX5_draughts_81 rfl ?_ ?_
  · refine v_iconst (pc := 88) dX5_draughts_88 ic_0 ?_
    exact v_sub [1, 2, 3, 4, 5, 7, 8, 0] rfl (vb_X5_draughts_89 z kc45 hkc45 x1 x2 x3 x5 x7 x8 xs0 (0 : Int32) x6 σ)
  · refine v_iconst (pc := 84) dX5_draughts_84 ic_1 ?_
    refine v_goto (pc := 85) (tgt := 89) dX5_draughts_85 rfl ?_
    exact v_sub [1, 2, 3, 4, 5, 7, 8, 0] rfl (vb_X5_draughts_89 z kc45 hkc45 x1 x2 x3 x5 x7 x8 xs0 (1 : Int32) x6 σ)
def b_X5_draughts_45 (kc45 : Int32 → Int32 → Int32 → Int32 → Int32 → Int32 → Int32 → GM → Option (Int32 × GM)) (x1 : Int32) (x2 : Int32) (x3 : Int32) (x5 : Int32) (x6 : Int32) (x7 : Int32) (x8 : Int32) (σ : GM) : Option (Int32 × GM) :=
  if (99 : Int32) < x8 then (grd x2 6 (bnd (some (tA σ 3 x2.toNatClampNeg x5)) fun σ4 => if x3 ≠ 0 then (some (x7, σ4)) else (some (x6, σ4)))) else (grd x2 6 (bnd (some (tA σ 3 x2.toNatClampNeg x8)) fun σ5 => bnd (f_X5_unlike x1 x2 σ5) fun q6 => if q6.1 ≠ (-1 : Int32) then (b_X5_draughts_75 kc45 x1 x2 x3 x5 x6 x7 x8 (0 : Int32) q6.2) else (b_X5_draughts_75 kc45 x1 x2 x3 x5 x6 x7 x8 (1 : Int32) q6.2)))
theorem vb_X5_draughts_45 {g : Gt} {ad : Nat → Nat} (z : Zt) (kc45 : Int32 → Int32 → Int32 → Int32 → Int32 → Int32 → Int32 → GM → Option (Int32 × GM)) (hkc45 : ∀ (x1 : Int32) (x2 : Int32) (x3 : Int32) (x5 : Int32) (x6 : Int32) (x7 : Int32) (x8 : Int32) (σ : GM), V g (LM ad) 9 RX5 cX5_draughts 10 (some .int) (wM g ad) iI z (kc45 x1 x2 x3 x5 x6 x7 x8 σ) σ 45 [(0, .ref (aMo ad)), (1, .int x1), (2, .int x2), (3, .int x3), (5, .int x5), (6, .int x6), (7, .int x7), (8, .int x8)] []) (x1 : Int32) (x2 : Int32) (x3 : Int32) (x5 : Int32) (x6 : Int32) (x7 : Int32) (x8 : Int32) (σ : GM) : V g (LM ad) 9 RX5 cX5_draughts 10 (some .int) (wM g ad) iI z (b_X5_draughts_45 kc45 x1 x2 x3 x5 x6 x7 x8 σ) σ 45 [(0, .ref (aMo ad)), (1, .int x1), (2, .int x2), (3, .int x3), (5, .int x5), (6, .int x6), (7, .int x7), (8, .int x8)] [] := by
  unfold b_X5_draughts_45
  refine v_iload (pc := 45) (i := 8) dX5_draughts_45 rfl ?_
  refine v_bipush (pc := 47) dX5_draughts_47 bp_99 ?_
  refine v_icmp_gt (pc := 49) (tgt := 118) dX5_draughts_49 rfl ?_ ?_
  · refine v_aload_n (pc := 118) (i := 0) dX5_draughts_118 rfl rfl ?_
    refine gX5_draughtOf (pc := 119) q_758 dX5_draughts_119 ?_
    refine v_iload_n (pc := 122) (i := 2) dX5_draughts_122 rfl rfl ?_
    refine v_iload (pc := 123) (i := 5) dX5_draughts_123 rfl ?_
    refine sM_draughtOf (pc := 125) dX5_draughts_125 ?_
    refine v_nms (fun σ4 => ?_)
    refine v_iload_n (pc := 126) (i := 3) dX5_draughts_126 rfl rfl ?_
    refine v_if_ne (pc := 127) (tgt := 135) dX5_draughts_127 rfl ?_ ?_
    · refine v_iload (pc := 135) (i := 7) dX5_draughts_135 rfl ?_
      exact v_iret (pc := 137) dX5_draughts_137
    · refine v_iload (pc := 130) (i := 6) dX5_draughts_130 rfl ?_
      refine v_goto (pc := 132) (tgt := 137) dX5_draughts_132 rfl ?_
      exact v_iret (pc := 137) dX5_draughts_137
  · refine v_aload_n (pc := 52) (i := 0) dX5_draughts_52 rfl rfl ?_
    refine gX5_draughtOf (pc := 53) q_758 dX5_draughts_53 ?_
    refine v_iload_n (pc := 56) (i := 2) dX5_draughts_56 rfl rfl ?_
    refine v_iload (pc := 57) (i := 8) dX5_draughts_57 rfl ?_
    refine sM_draughtOf (pc := 59) dX5_draughts_59 ?_
    refine v_nms (fun σ5 => ?_)
    refine v_aload_n (pc := 60) (i := 0) dX5_draughts_60 rfl rfl ?_
    refine v_iload_n (pc := 61) (i := 1) dX5_draughts_61 rfl rfl ?_
    refine v_iload_n (pc := 62) (i := 2) dX5_draughts_62 rfl rfl ?_
    refine v_callVi (pc := 63) rcX5 (As := [.int x1, .int x2]) (rest := []) (ct_X5_unlike x1 x2) mi_X5_unlike q_1071 (by decide) rfl rfl (Nat.le_of_ble_eq_true rfl) dX5_draughts_63 (fun q6 => ?_)
    refine v_iconst (pc := 66) dX5_draughts_66 ic_m1 ?_
    refine v_icmp_ne (pc := 67) (tgt := 74) dX5_draughts_67 rfl ?_ ?_
    · refine v_iconst (pc := 74) dX5_draughts_74 ic_0 ?_
      exact v_sub [0, 1, 2, 3, 4, 5, 6, 7] rfl (vb_X5_draughts_75 z kc45 hkc45 x1 x2 x3 x5 x6 x7 x8 (0 : Int32) q6.2)
    · refine v_iconst (pc := 70) dX5_draughts_70 ic_1 ?_
      refine v_goto (pc := 71) (tgt := 75) dX5_draughts_71 rfl ?_
      exact v_sub [0, 1, 2, 3, 4, 5, 6, 7] rfl (vb_X5_draughts_75 z kc45 hkc45 x1 x2 x3 x5 x6 x7 x8 (1 : Int32) q6.2)
def k_X5_draughts_45 : Nat → Int32 → Int32 → Int32 → Int32 → Int32 → Int32 → Int32 → GM → Option (Int32 × GM)
  | 0 => fun _ _ _ _ _ _ _ _ => none
  | n + 1 => b_X5_draughts_45 (k_X5_draughts_45 n)
theorem vk_X5_draughts_45 {g : Gt} {ad : Nat → Nat} (z : Zt) : ∀ (n : Nat) (x1 : Int32) (x2 : Int32) (x3 : Int32) (x5 : Int32) (x6 : Int32) (x7 : Int32) (x8 : Int32) (σ : GM), V g (LM ad) 9 RX5 cX5_draughts 10 (some .int) (wM g ad) iI z (k_X5_draughts_45 n x1 x2 x3 x5 x6 x7 x8 σ) σ 45 [(0, .ref (aMo ad)), (1, .int x1), (2, .int x2), (3, .int x3), (5, .int x5), (6, .int x6), (7, .int x7), (8, .int x8)] [] := by
  intro n
  induction n with
  | zero => intros; exact v_eq rfl v_none
  | succ n ih =>
    intro x1 x2 x3 x5 x6 x7 x8 σ
    exact v_eq rfl (vb_X5_draughts_45 z _ ih x1 x2 x3 x5 x6 x7 x8 σ)
def f_X5_draughts (x1 : Int32) (x2 : Int32) (x3 : Int32) (σ : GM) : Option (Int32 × GM) :=
  bnd (f_X5_toldWrong x1 x2 σ) fun q1 => if q1.1 = 0 then (bnd (f_X5_in x3 (0 : Int32) (1 : Int32) q1.2) fun q2 => if q2.1 ≠ 0 then (grd x2 6 (bnd (some (mA q2.2 3 x2.toNatClampNeg)) fun w3 => k_X5_draughts_45 FU x1 x2 x3 w3 (0 : Int32) (-1 : Int32) (0 : Int32) q2.2)) else (some ((-7 : Int32), q2.2))) else (some (q1.1, q1.2))
theorem vf_X5_draughts {g : Gt} {ad : Nat → Nat} (z : Zt) (x1 : Int32) (x2 : Int32) (x3 : Int32) (σ : GM) : V g (LM ad) 9 RX5 cX5_draughts 10 (some .int) (wM g ad) iI z (f_X5_draughts x1 x2 x3 σ) σ 0 [(0, .ref (aMo ad)), (1, .int x1), (2, .int x2), (3, .int x3)] [] := by
  unfold f_X5_draughts
  refine v_aload_n (pc := 0) (i := 0) dX5_draughts_0 rfl rfl ?_
  refine v_iload_n (pc := 1) (i := 1) dX5_draughts_1 rfl rfl ?_
  refine v_iload_n (pc := 2) (i := 2) dX5_draughts_2 rfl rfl ?_
  refine v_callVi (pc := 3) rcX5 (As := [.int x1, .int x2]) (rest := []) (ct_X5_toldWrong x1 x2) mi_X5_toldWrong q_1063 (by decide) rfl rfl (Nat.le_of_ble_eq_true rfl) dX5_draughts_3 (fun q1 => ?_)
  refine v_istore (pc := 6) (lv' := [(4, .int q1.1), (0, .ref (aMo ad)), (1, .int x1), (2, .int x2), (3, .int x3)]) (i := 4) dX5_draughts_6 (by decide) rfl ?_
  refine v_iload (pc := 8) (i := 4) dX5_draughts_8 rfl ?_
  refine v_if_eq (pc := 10) (tgt := 16) dX5_draughts_10 rfl ?_ ?_
  · refine v_iload_n (pc := 16) (i := 3) dX5_draughts_16 rfl rfl ?_
    refine v_iconst (pc := 17) dX5_draughts_17 ic_0 ?_
    refine v_iconst (pc := 18) dX5_draughts_18 ic_1 ?_
    refine v_callSi (pc := 19) (av := [.int x3, .int (0 : Int32), .int (1 : Int32)]) (rest := []) (ct_X5_in x3 (0 : Int32) (1 : Int32)) mi_X5_in q_715 (by decide) rfl rfl (Nat.le_of_ble_eq_true rfl) dX5_draughts_19 (fun q2 => ?_)
    refine v_if_ne (pc := 22) (tgt := 28) dX5_draughts_22 rfl ?_ ?_
    · refine v_aload_n (pc := 28) (i := 0) dX5_draughts_28 rfl rfl ?_
      refine gX5_draughtOf (pc := 29) q_758 dX5_draughts_29 ?_
      refine v_iload_n (pc := 32) (i := 2) dX5_draughts_32 rfl rfl ?_
      refine lM_draughtOf (pc := 33) dX5_draughts_33 ?_
      refine v_nmi (fun w3 => ?_)
      refine v_istore (pc := 34) (lv' := [(5, .int w3), (4, .int q1.1), (0, .ref (aMo ad)), (1, .int x1), (2, .int x2), (3, .int x3)]) (i := 5) dX5_draughts_34 (by decide) rfl ?_
      refine v_iconst (pc := 36) dX5_draughts_36 ic_0 ?_
      refine v_istore (pc := 37) (lv' := [(6, .int (0 : Int32)), (5, .int w3), (4, .int q1.1), (0, .ref (aMo ad)), (1, .int x1), (2, .int x2), (3, .int x3)]) (i := 6) dX5_draughts_37 (by decide) rfl ?_
      refine v_iconst (pc := 39) dX5_draughts_39 ic_m1 ?_
      refine v_istore (pc := 40) (lv' := [(7, .int (-1 : Int32)), (6, .int (0 : Int32)), (5, .int w3), (4, .int q1.1), (0, .ref (aMo ad)), (1, .int x1), (2, .int x2), (3, .int x3)]) (i := 7) dX5_draughts_40 (by decide) rfl ?_
      refine v_iconst (pc := 42) dX5_draughts_42 ic_0 ?_
      refine v_istore (pc := 43) (lv' := [(8, .int (0 : Int32)), (7, .int (-1 : Int32)), (6, .int (0 : Int32)), (5, .int w3), (4, .int q1.1), (0, .ref (aMo ad)), (1, .int x1), (2, .int x2), (3, .int x3)]) (i := 8) dX5_draughts_43 (by decide) rfl ?_
      exact v_sub [5, 6, 7, 8, 3, 2, 1, 0] rfl (vk_X5_draughts_45 z FU x1 x2 x3 w3 (0 : Int32) (-1 : Int32) (0 : Int32) q2.2)
    · refine v_bipush (pc := 25) dX5_draughts_25 bp_m7 ?_
      exact v_iret (pc := 27) dX5_draughts_27
  · refine v_iload (pc := 13) (i := 4) dX5_draughts_13 rfl ?_
    exact v_iret (pc := 15) dX5_draughts_15
theorem ct_X5_draughts {g : Gt} {ad : Nat → Nat} (x1 : Int32) (x2 : Int32) (x3 : Int32) : CT g (LM ad) yX5_draughts cX5_draughts 10 (some .int) 9 [.ref (aMo ad), .int x1, .int x2, .int x3] iI (wM g ad) (f_X5_draughts x1 x2 x3) :=
  ct_of_V (own := RX5) (lv0 := [(0, .ref (aMo ad)), (1, .int x1), (2, .int x2), (3, .int x3)]) (by decide +kernel) rfl (Nat.le_of_ble_eq_true rfl) rfl (fun z σ => vf_X5_draughts z x1 x2 x3 σ)
-- LighthouseLiedToModel.whose
theorem dX5_whose_0 : decode cX5_whose 0 = .ok (.aload_n 0, 1) := by decide +kernel
theorem dX5_whose_1 : decode cX5_whose 1 = .ok (.iload_n 1, 1) := by decide +kernel
theorem dX5_whose_2 : decode cX5_whose 2 = .ok (.invokevirtual 248, 3) := by decide +kernel
theorem dX5_whose_5 : decode cX5_whose 5 = .ok (.istore_n 2, 1) := by decide +kernel
theorem dX5_whose_6 : decode cX5_whose 6 = .ok (.iload_n 2, 1) := by decide +kernel
theorem dX5_whose_7 : decode cX5_whose 7 = .ok (.ifCond .eq 5, 3) := by decide +kernel
theorem dX5_whose_10 : decode cX5_whose 10 = .ok (.iload_n 2, 1) := by decide +kernel
theorem dX5_whose_11 : decode cX5_whose 11 = .ok (.ireturn, 1) := by decide +kernel
theorem dX5_whose_12 : decode cX5_whose 12 = .ok (.iconst 0, 1) := by decide +kernel
theorem dX5_whose_13 : decode cX5_whose 13 = .ok (.istore_n 3, 1) := by decide +kernel
theorem dX5_whose_14 : decode cX5_whose 14 = .ok (.iconst 0, 1) := by decide +kernel
theorem dX5_whose_15 : decode cX5_whose 15 = .ok (.istore 4, 2) := by decide +kernel
theorem dX5_whose_17 : decode cX5_whose 17 = .ok (.iload 4, 2) := by decide +kernel
theorem dX5_whose_19 : decode cX5_whose 19 = .ok (.aload_n 0, 1) := by decide +kernel
theorem dX5_whose_20 : decode cX5_whose 20 = .ok (.getfield 82, 3) := by decide +kernel
theorem dX5_whose_23 : decode cX5_whose 23 = .ok (.if_icmp .ge 31, 3) := by decide +kernel
theorem dX5_whose_26 : decode cX5_whose 26 = .ok (.iload_n 3, 1) := by decide +kernel
theorem dX5_whose_27 : decode cX5_whose 27 = .ok (.aload_n 0, 1) := by decide +kernel
theorem dX5_whose_28 : decode cX5_whose 28 = .ok (.iload_n 1, 1) := by decide +kernel
theorem dX5_whose_29 : decode cX5_whose 29 = .ok (.iload 4, 2) := by decide +kernel
theorem dX5_whose_31 : decode cX5_whose 31 = .ok (.invokevirtual 254, 3) := by decide +kernel
theorem dX5_whose_34 : decode cX5_whose 34 = .ok (.iconst (-1), 1) := by decide +kernel
theorem dX5_whose_35 : decode cX5_whose 35 = .ok (.if_icmp .ne 10, 3) := by decide +kernel
theorem dX5_whose_38 : decode cX5_whose 38 = .ok (.iconst 1, 1) := by decide +kernel
theorem dX5_whose_39 : decode cX5_whose 39 = .ok (.iload 4, 2) := by decide +kernel
theorem dX5_whose_41 : decode cX5_whose 41 = .ok (.ishl, 1) := by decide +kernel
theorem dX5_whose_42 : decode cX5_whose 42 = .ok (.goto 4, 3) := by decide +kernel
theorem dX5_whose_45 : decode cX5_whose 45 = .ok (.iconst 0, 1) := by decide +kernel
theorem dX5_whose_46 : decode cX5_whose 46 = .ok (.ior, 1) := by decide +kernel
theorem dX5_whose_47 : decode cX5_whose 47 = .ok (.istore_n 3, 1) := by decide +kernel
theorem dX5_whose_48 : decode cX5_whose 48 = .ok (.iinc 4 1, 3) := by decide +kernel
theorem dX5_whose_51 : decode cX5_whose 51 = .ok (.goto (-34), 3) := by decide +kernel
theorem dX5_whose_54 : decode cX5_whose 54 = .ok (.iload_n 3, 1) := by decide +kernel
theorem dX5_whose_55 : decode cX5_whose 55 = .ok (.ireturn, 1) := by decide +kernel
def b_X5_whose_17 (kc17 : Int32 → Int32 → Int32 → GM → Option (Int32 × GM)) (x1 : Int32) (x3 : Int32) (x4 : Int32) (σ : GM) : Option (Int32 × GM) :=
  if (mI σ 0) ≤ x4 then (some (x3, σ)) else (bnd (f_X5_unlike x1 x4 σ) fun q2 => if q2.1 ≠ (-1 : Int32) then (bnd (some (x3 ||| (0 : Int32))) fun w3 => kc17 x1 w3 (x4 + (1 : Int32)) q2.2) else (bnd (some (x3 ||| (slI (1 : Int32) x4))) fun w4 => kc17 x1 w4 (x4 + (1 : Int32)) q2.2))
theorem vb_X5_whose_17 {g : Gt} {ad : Nat → Nat} (z : Zt) (kc17 : Int32 → Int32 → Int32 → GM → Option (Int32 × GM)) (hkc17 : ∀ (x1 : Int32) (x3 : Int32) (x4 : Int32) (σ : GM), V g (LM ad) 9 RX5 cX5_whose 5 (some .int) (wM g ad) iI z (kc17 x1 x3 x4 σ) σ 17 [(0, .ref (aMo ad)), (1, .int x1), (3, .int x3), (4, .int x4)] []) (x1 : Int32) (x3 : Int32) (x4 : Int32) (σ : GM) : V g (LM ad) 9 RX5 cX5_whose 5 (some .int) (wM g ad) iI z (b_X5_whose_17 kc17 x1 x3 x4 σ) σ 17 [(0, .ref (aMo ad)), (1, .int x1), (3, .int x3), (4, .int x4)] [] := by
  unfold b_X5_whose_17
  refine v_iload (pc := 17) (i := 4) dX5_whose_17 rfl ?_
  refine v_aload_n (pc := 19) (i := 0) dX5_whose_19 rfl rfl ?_
  refine gX5_ships (pc := 20) q_754 dX5_whose_20 ?_
  refine v_icmp_ge (pc := 23) (tgt := 54) dX5_whose_23 rfl ?_ ?_
  · refine v_iload_n (pc := 54) (i := 3) dX5_whose_54 rfl rfl ?_
    exact v_iret (pc := 55) dX5_whose_55
  · refine v_iload_n (pc := 26) (i := 3) dX5_whose_26 rfl rfl ?_
    refine v_aload_n (pc := 27) (i := 0) dX5_whose_27 rfl rfl ?_
    refine v_iload_n (pc := 28) (i := 1) dX5_whose_28 rfl rfl ?_
    refine v_iload (pc := 29) (i := 4) dX5_whose_29 rfl ?_
    refine v_callVi (pc := 31) rcX5 (As := [.int x1, .int x4]) (rest := [.int x3]) (ct_X5_unlike x1 x4) mi_X5_unlike q_1071 (by decide) rfl rfl (Nat.le_of_ble_eq_true rfl) dX5_whose_31 (fun q2 => ?_)
    refine v_iconst (pc := 34) dX5_whose_34 ic_m1 ?_
    refine v_icmp_ne (pc := 35) (tgt := 45) dX5_whose_35 rfl ?_ ?_
    · refine v_iconst (pc := 45) dX5_whose_45 ic_0 ?_
      refine v_ior (pc := 46) dX5_whose_46 ?_
      refine v_nmi (fun w3 => ?_)
      refine v_istore_n (pc := 47) (lv' := [(3, .int w3), (0, .ref (aMo ad)), (1, .int x1), (4, .int x4)]) (i := 3) dX5_whose_47 rfl (by decide) rfl ?_
      refine v_iinc (pc := 48) (lv' := [(4, .int (x4 + (1 : Int32))), (3, .int w3), (0, .ref (aMo ad)), (1, .int x1)]) (i := 4) dX5_whose_48 rfl ic_1 (by decide) rfl ?_
      refine v_goto (pc := 51) (tgt := 17) dX5_whose_51 rfl ?_
      exact v_sub [2, 3, 1, 0] rfl (hkc17 x1 w3 (x4 + (1 : Int32)) q2.2)
    · refine v_iconst (pc := 38) dX5_whose_38 ic_1 ?_
      refine v_iload (pc := 39) (i := 4) dX5_whose_39 rfl ?_
      refine v_ishl (pc := 41) dX5_whose_41 ?_
      refine v_goto (pc := 42) (tgt := 46) dX5_whose_42 rfl ?_
      refine v_ior (pc := 46) dX5_whose_46 ?_
      refine v_nmi (fun w4 => ?_)
      refine v_istore_n (pc := 47) (lv' := [(3, .int w4), (0, .ref (aMo ad)), (1, .int x1), (4, .int x4)]) (i := 3) dX5_whose_47 rfl (by decide) rfl ?_
      refine v_iinc (pc := 48) (lv' := [(4, .int (x4 + (1 : Int32))), (3, .int w4), (0, .ref (aMo ad)), (1, .int x1)]) (i := 4) dX5_whose_48 rfl ic_1 (by decide) rfl ?_
      refine v_goto (pc := 51) (tgt := 17) dX5_whose_51 rfl ?_
      exact v_sub [2, 3, 1, 0] rfl (hkc17 x1 w4 (x4 + (1 : Int32)) q2.2)
def k_X5_whose_17 : Nat → Int32 → Int32 → Int32 → GM → Option (Int32 × GM)
  | 0 => fun _ _ _ _ => none
  | n + 1 => b_X5_whose_17 (k_X5_whose_17 n)
theorem vk_X5_whose_17 {g : Gt} {ad : Nat → Nat} (z : Zt) : ∀ (n : Nat) (x1 : Int32) (x3 : Int32) (x4 : Int32) (σ : GM), V g (LM ad) 9 RX5 cX5_whose 5 (some .int) (wM g ad) iI z (k_X5_whose_17 n x1 x3 x4 σ) σ 17 [(0, .ref (aMo ad)), (1, .int x1), (3, .int x3), (4, .int x4)] [] := by
  intro n
  induction n with
  | zero => intros; exact v_eq rfl v_none
  | succ n ih =>
    intro x1 x3 x4 σ
    exact v_eq rfl (vb_X5_whose_17 z _ ih x1 x3 x4 σ)
def f_X5_whose (x1 : Int32) (σ : GM) : Option (Int32 × GM) :=
  bnd (f_X5_sheetWrong x1 σ) fun q1 => if q1.1 = 0 then (k_X5_whose_17 FU x1 (0 : Int32) (0 : Int32) q1.2) else (some (q1.1, q1.2))
theorem vf_X5_whose {g : Gt} {ad : Nat → Nat} (z : Zt) (x1 : Int32) (σ : GM) : V g (LM ad) 9 RX5 cX5_whose 5 (some .int) (wM g ad) iI z (f_X5_whose x1 σ) σ 0 [(0, .ref (aMo ad)), (1, .int x1)] [] := by
  unfold f_X5_whose
  refine v_aload_n (pc := 0) (i := 0) dX5_whose_0 rfl rfl ?_
  refine v_iload_n (pc := 1) (i := 1) dX5_whose_1 rfl rfl ?_
  refine v_callVi (pc := 2) rcX5 (As := [.int x1]) (rest := []) (ct_X5_sheetWrong x1) mi_X5_sheetWrong q_1067 (by decide) rfl rfl (Nat.le_of_ble_eq_true rfl) dX5_whose_2 (fun q1 => ?_)
  refine v_istore_n (pc := 5) (lv' := [(2, .int q1.1), (0, .ref (aMo ad)), (1, .int x1)]) (i := 2) dX5_whose_5 rfl (by decide) rfl ?_
  refine v_iload_n (pc := 6) (i := 2) dX5_whose_6 rfl rfl ?_
  refine v_if_eq (pc := 7) (tgt := 12) dX5_whose_7 rfl ?_ ?_
  · refine v_iconst (pc := 12) dX5_whose_12 ic_0 ?_
    refine v_istore_n (pc := 13) (lv' := [(3, .int (0 : Int32)), (2, .int q1.1), (0, .ref (aMo ad)), (1, .int x1)]) (i := 3) dX5_whose_13 rfl (by decide) rfl ?_
    refine v_iconst (pc := 14) dX5_whose_14 ic_0 ?_
    refine v_istore (pc := 15) (lv' := [(4, .int (0 : Int32)), (3, .int (0 : Int32)), (2, .int q1.1), (0, .ref (aMo ad)), (1, .int x1)]) (i := 4) dX5_whose_15 (by decide) rfl ?_
    exact v_sub [3, 4, 1, 0] rfl (vk_X5_whose_17 z FU x1 (0 : Int32) (0 : Int32) q1.2)
  · refine v_iload_n (pc := 10) (i := 2) dX5_whose_10 rfl rfl ?_
    exact v_iret (pc := 11) dX5_whose_11
theorem ct_X5_whose {g : Gt} {ad : Nat → Nat} (x1 : Int32) : CT g (LM ad) yX5_whose cX5_whose 5 (some .int) 9 [.ref (aMo ad), .int x1] iI (wM g ad) (f_X5_whose x1) :=
  ct_of_V (own := RX5) (lv0 := [(0, .ref (aMo ad)), (1, .int x1)]) (by decide +kernel) rfl (Nat.le_of_ble_eq_true rfl) rfl (fun z σ => vf_X5_whose z x1 σ)
-- LighthouseLiedToModel.laws
theorem dX5_laws_0 : decode cX5_laws 0 = .ok (.aload_n 0, 1) := by decide +kernel
theorem dX5_laws_1 : decode cX5_laws 1 = .ok (.iload_n 1, 1) := by decide +kernel
theorem dX5_laws_2 : decode cX5_laws 2 = .ok (.iload_n 2, 1) := by decide +kernel
theorem dX5_laws_3 : decode cX5_laws 3 = .ok (.invokevirtual 251, 3) := by decide +kernel
theorem dX5_laws_6 : decode cX5_laws 6 = .ok (.istore_n 3, 1) := by decide +kernel
theorem dX5_laws_7 : decode cX5_laws 7 = .ok (.iload_n 3, 1) := by decide +kernel
theorem dX5_laws_8 : decode cX5_laws 8 = .ok (.ifCond .eq 5, 3) := by decide +kernel
theorem dX5_laws_11 : decode cX5_laws 11 = .ok (.iload_n 3, 1) := by decide +kernel
theorem dX5_laws_12 : decode cX5_laws 12 = .ok (.ireturn, 1) := by decide +kernel
theorem dX5_laws_13 : decode cX5_laws 13 = .ok (.aload_n 0, 1) := by decide +kernel
theorem dX5_laws_14 : decode cX5_laws 14 = .ok (.getfield 112, 3) := by decide +kernel
theorem dX5_laws_17 : decode cX5_laws 17 = .ok (.istore 4, 2) := by decide +kernel
theorem dX5_laws_19 : decode cX5_laws 19 = .ok (.iconst 0, 1) := by decide +kernel
theorem dX5_laws_20 : decode cX5_laws 20 = .ok (.istore 5, 2) := by decide +kernel
theorem dX5_laws_22 : decode cX5_laws 22 = .ok (.iconst 0, 1) := by decide +kernel
theorem dX5_laws_23 : decode cX5_laws 23 = .ok (.istore 6, 2) := by decide +kernel
theorem dX5_laws_25 : decode cX5_laws 25 = .ok (.iload 6, 2) := by decide +kernel
theorem dX5_laws_27 : decode cX5_laws 27 = .ok (.aload_n 0, 1) := by decide +kernel
theorem dX5_laws_28 : decode cX5_laws 28 = .ok (.getfield 109, 3) := by decide +kernel
theorem dX5_laws_31 : decode cX5_laws 31 = .ok (.if_icmp .ge 38, 3) := by decide +kernel
theorem dX5_laws_34 : decode cX5_laws 34 = .ok (.aload_n 0, 1) := by decide +kernel
theorem dX5_laws_35 : decode cX5_laws 35 = .ok (.iload 6, 2) := by decide +kernel
theorem dX5_laws_37 : decode cX5_laws 37 = .ok (.putfield 112, 3) := by decide +kernel
theorem dX5_laws_40 : decode cX5_laws 40 = .ok (.iload 5, 2) := by decide +kernel
theorem dX5_laws_42 : decode cX5_laws 42 = .ok (.aload_n 0, 1) := by decide +kernel
theorem dX5_laws_43 : decode cX5_laws 43 = .ok (.iload_n 1, 1) := by decide +kernel
theorem dX5_laws_44 : decode cX5_laws 44 = .ok (.iload_n 2, 1) := by decide +kernel
theorem dX5_laws_45 : decode cX5_laws 45 = .ok (.invokevirtual 254, 3) := by decide +kernel
theorem dX5_laws_48 : decode cX5_laws 48 = .ok (.iconst (-1), 1) := by decide +kernel
theorem dX5_laws_49 : decode cX5_laws 49 = .ok (.if_icmp .ne 10, 3) := by decide +kernel
theorem dX5_laws_52 : decode cX5_laws 52 = .ok (.iconst 1, 1) := by decide +kernel
theorem dX5_laws_53 : decode cX5_laws 53 = .ok (.iload 6, 2) := by decide +kernel
theorem dX5_laws_55 : decode cX5_laws 55 = .ok (.ishl, 1) := by decide +kernel
theorem dX5_laws_56 : decode cX5_laws 56 = .ok (.goto 4, 3) := by decide +kernel
theorem dX5_laws_59 : decode cX5_laws 59 = .ok (.iconst 0, 1) := by decide +kernel
theorem dX5_laws_60 : decode cX5_laws 60 = .ok (.ior, 1) := by decide +kernel
theorem dX5_laws_61 : decode cX5_laws 61 = .ok (.istore 5, 2) := by decide +kernel
theorem dX5_laws_63 : decode cX5_laws 63 = .ok (.iinc 6 1, 3) := by decide +kernel
theorem dX5_laws_66 : decode cX5_laws 66 = .ok (.goto (-41), 3) := by decide +kernel
theorem dX5_laws_69 : decode cX5_laws 69 = .ok (.aload_n 0, 1) := by decide +kernel
theorem dX5_laws_70 : decode cX5_laws 70 = .ok (.iload 4, 2) := by decide +kernel
theorem dX5_laws_72 : decode cX5_laws 72 = .ok (.putfield 112, 3) := by decide +kernel
theorem dX5_laws_75 : decode cX5_laws 75 = .ok (.iload 5, 2) := by decide +kernel
theorem dX5_laws_77 : decode cX5_laws 77 = .ok (.ireturn, 1) := by decide +kernel
def b_X5_laws_25 (kc25 : Int32 → Int32 → Int32 → Int32 → Int32 → GM → Option (Int32 × GM)) (x1 : Int32) (x2 : Int32) (x4 : Int32) (x5 : Int32) (x6 : Int32) (σ : GM) : Option (Int32 × GM) :=
  if (mI σ 4) ≤ x6 then (bnd (some (tI σ 5 x4)) fun σ3 => some (x5, σ3)) else (bnd (some (tI σ 5 x6)) fun σ4 => bnd (f_X5_unlike x1 x2 σ4) fun q5 => if q5.1 ≠ (-1 : Int32) then (bnd (some (x5 ||| (0 : Int32))) fun w6 => kc25 x1 x2 x4 w6 (x6 + (1 : Int32)) q5.2) else (bnd (some (x5 ||| (slI (1 : Int32) x6))) fun w7 => kc25 x1 x2 x4 w7 (x6 + (1 : Int32)) q5.2))
theorem vb_X5_laws_25 {g : Gt} {ad : Nat → Nat} (z : Zt) (kc25 : Int32 → Int32 → Int32 → Int32 → Int32 → GM → Option (Int32 × GM)) (hkc25 : ∀ (x1 : Int32) (x2 : Int32) (x4 : Int32) (x5 : Int32) (x6 : Int32) (σ : GM), V g (LM ad) 9 RX5 cX5_laws 7 (some .int) (wM g ad) iI z (kc25 x1 x2 x4 x5 x6 σ) σ 25 [(0, .ref (aMo ad)), (1, .int x1), (2, .int x2), (4, .int x4), (5, .int x5), (6, .int x6)] []) (x1 : Int32) (x2 : Int32) (x4 : Int32) (x5 : Int32) (x6 : Int32) (σ : GM) : V g (LM ad) 9 RX5 cX5_laws 7 (some .int) (wM g ad) iI z (b_X5_laws_25 kc25 x1 x2 x4 x5 x6 σ) σ 25 [(0, .ref (aMo ad)), (1, .int x1), (2, .int x2), (4, .int x4), (5, .int x5), (6, .int x6)] [] := by
  unfold b_X5_laws_25
  refine v_iload (pc := 25) (i := 6) dX5_laws_25 rfl ?_
  refine v_aload_n (pc := 27) (i := 0) dX5_laws_27 rfl rfl ?_
  refine gX5_texts (pc := 28) q_768 dX5_laws_28 ?_
  refine v_icmp_ge (pc := 31) (tgt := 69) dX5_laws_31 rfl ?_ ?_
  · refine v_aload_n (pc := 69) (i := 0) dX5_laws_69 rfl rfl ?_
    refine v_iload (pc := 70) (i := 4) dX5_laws_70 rfl ?_
    refine pX5_rule (pc := 72) q_769 dX5_laws_72 ?_
    refine v_nms (fun σ3 => ?_)
    refine v_iload (pc := 75) (i := 5) dX5_laws_75 rfl ?_
    exact v_iret (pc := 77) dX5_laws_77
  · refine v_aload_n (pc := 34) (i := 0) dX5_laws_34 rfl rfl ?_
    refine v_iload (pc := 35) (i := 6) dX5_laws_35 rfl ?_
    refine pX5_rule (pc := 37) q_769 dX5_laws_37 ?_
    refine v_nms (fun σ4 => ?_)
    refine v_iload (pc := 40) (i := 5) dX5_laws_40 rfl ?_
    refine v_aload_n (pc := 42) (i := 0) dX5_laws_42 rfl rfl ?_
    refine v_iload_n (pc := 43) (i := 1) dX5_laws_43 rfl rfl ?_
    refine v_iload_n (pc := 44) (i := 2) dX5_laws_44 rfl rfl ?_
    refine v_callVi (pc := 45) rcX5 (As := [.int x1, .int x2]) (rest := [.int x5]) (ct_X5_unlike x1 x2) mi_X5_unlike q_1071 (by decide) rfl rfl (Nat.le_of_ble_eq_true rfl) dX5_laws_45 (fun q5 => ?_)
    refine v_iconst (pc := 48) dX5_laws_48 ic_m1 ?_
    refine v_icmp_ne (pc := 49) (tgt := 59) dX5_laws_49 rfl ?_ ?_
    · refine v_iconst (pc := 59) dX5_laws_59 ic_0 ?_
      refine v_ior (pc := 60) dX5_laws_60 ?_
      refine v_nmi (fun w6 => ?_)
      refine v_istore (pc := 61) (lv' := [(5, .int w6), (0, .ref (aMo ad)), (1, .int x1), (2, .int x2), (4, .int x4), (6, .int x6)]) (i := 5) dX5_laws_61 (by decide) rfl ?_
      refine v_iinc (pc := 63) (lv' := [(6, .int (x6 + (1 : Int32))), (5, .int w6), (0, .ref (aMo ad)), (1, .int x1), (2, .int x2), (4, .int x4)]) (i := 6) dX5_laws_63 rfl ic_1 (by decide) rfl ?_
      refine v_goto (pc := 66) (tgt := 25) dX5_laws_66 rfl ?_
      exact v_sub [2, 3, 4, 5, 1, 0] rfl (hkc25 x1 x2 x4 w6 (x6 + (1 : Int32)) q5.2)
    · refine v_iconst (pc := 52) dX5_laws_52 ic_1 ?_
      refine v_iload (pc := 53) (i := 6) dX5_laws_53 rfl ?_
      refine v_ishl (pc := 55) dX5_laws_55 ?_
      refine v_goto (pc := 56) (tgt := 60) dX5_laws_56 rfl ?_
      refine v_ior (pc := 60) dX5_laws_60 ?_
      refine v_nmi (fun w7 => ?_)
      refine v_istore (pc := 61) (lv' := [(5, .int w7), (0, .ref (aMo ad)), (1, .int x1), (2, .int x2), (4, .int x4), (6, .int x6)]) (i := 5) dX5_laws_61 (by decide) rfl ?_
      refine v_iinc (pc := 63) (lv' := [(6, .int (x6 + (1 : Int32))), (5, .int w7), (0, .ref (aMo ad)), (1, .int x1), (2, .int x2), (4, .int x4)]) (i := 6) dX5_laws_63 rfl ic_1 (by decide) rfl ?_
      refine v_goto (pc := 66) (tgt := 25) dX5_laws_66 rfl ?_
      exact v_sub [2, 3, 4, 5, 1, 0] rfl (hkc25 x1 x2 x4 w7 (x6 + (1 : Int32)) q5.2)
def k_X5_laws_25 : Nat → Int32 → Int32 → Int32 → Int32 → Int32 → GM → Option (Int32 × GM)
  | 0 => fun _ _ _ _ _ _ => none
  | n + 1 => b_X5_laws_25 (k_X5_laws_25 n)
theorem vk_X5_laws_25 {g : Gt} {ad : Nat → Nat} (z : Zt) : ∀ (n : Nat) (x1 : Int32) (x2 : Int32) (x4 : Int32) (x5 : Int32) (x6 : Int32) (σ : GM), V g (LM ad) 9 RX5 cX5_laws 7 (some .int) (wM g ad) iI z (k_X5_laws_25 n x1 x2 x4 x5 x6 σ) σ 25 [(0, .ref (aMo ad)), (1, .int x1), (2, .int x2), (4, .int x4), (5, .int x5), (6, .int x6)] [] := by
  intro n
  induction n with
  | zero => intros; exact v_eq rfl v_none
  | succ n ih =>
    intro x1 x2 x4 x5 x6 σ
    exact v_eq rfl (vb_X5_laws_25 z _ ih x1 x2 x4 x5 x6 σ)
def f_X5_laws (x1 : Int32) (x2 : Int32) (σ : GM) : Option (Int32 × GM) :=
  bnd (f_X5_toldWrong x1 x2 σ) fun q1 => if q1.1 = 0 then (bnd (some (mI q1.2 5)) fun w2 => k_X5_laws_25 FU x1 x2 w2 (0 : Int32) (0 : Int32) q1.2) else (some (q1.1, q1.2))
theorem vf_X5_laws {g : Gt} {ad : Nat → Nat} (z : Zt) (x1 : Int32) (x2 : Int32) (σ : GM) : V g (LM ad) 9 RX5 cX5_laws 7 (some .int) (wM g ad) iI z (f_X5_laws x1 x2 σ) σ 0 [(0, .ref (aMo ad)), (1, .int x1), (2, .int x2)] [] := by
  unfold f_X5_laws
  refine v_aload_n (pc := 0) (i := 0) dX5_laws_0 rfl rfl ?_
  refine v_iload_n (pc := 1) (i := 1) dX5_laws_1 rfl rfl ?_
  refine v_iload_n (pc := 2) (i := 2) dX5_laws_2 rfl rfl ?_
  refine v_callVi (pc := 3) rcX5 (As := [.int x1, .int x2]) (rest := []) (ct_X5_toldWrong x1 x2) mi_X5_toldWrong q_1063 (by decide) rfl rfl (Nat.le_of_ble_eq_true rfl) dX5_laws_3 (fun q1 => ?_)
  refine v_istore_n (pc := 6) (lv' := [(3, .int q1.1), (0, .ref (aMo ad)), (1, .int x1), (2, .int x2)]) (i := 3) dX5_laws_6 rfl (by decide) rfl ?_
  refine v_iload_n (pc := 7) (i := 3) dX5_laws_7 rfl rfl ?_
  refine v_if_eq (pc := 8) (tgt := 13) dX5_laws_8 rfl ?_ ?_
  · refine v_aload_n (pc := 13) (i := 0) dX5_laws_13 rfl rfl ?_
    refine gX5_rule (pc := 14) q_769 dX5_laws_14 ?_
    refine v_nmi (fun w2 => ?_)
    refine v_istore (pc := 17) (lv' := [(4, .int w2), (3, .int q1.1), (0, .ref (aMo ad)), (1, .int x1), (2, .int x2)]) (i := 4) dX5_laws_17 (by decide) rfl ?_
    refine v_iconst (pc := 19) dX5_laws_19 ic_0 ?_
    refine v_istore (pc := 20) (lv' := [(5, .int (0 : Int32)), (4, .int w2), (3, .int q1.1), (0, .ref (aMo ad)), (1, .int x1), (2, .int x2)]) (i := 5) dX5_laws_20 (by decide) rfl ?_
    refine v_iconst (pc := 22) dX5_laws_22 ic_0 ?_
    refine v_istore (pc := 23) (lv' := [(6, .int (0 : Int32)), (5, .int (0 : Int32)), (4, .int w2), (3, .int q1.1), (0, .ref (aMo ad)), (1, .int x1), (2, .int x2)]) (i := 6) dX5_laws_23 (by decide) rfl ?_
    exact v_sub [4, 5, 6, 2, 1, 0] rfl (vk_X5_laws_25 z FU x1 x2 w2 (0 : Int32) (0 : Int32) q1.2)
  · refine v_iload_n (pc := 11) (i := 3) dX5_laws_11 rfl rfl ?_
    exact v_iret (pc := 12) dX5_laws_12
theorem ct_X5_laws {g : Gt} {ad : Nat → Nat} (x1 : Int32) (x2 : Int32) : CT g (LM ad) yX5_laws cX5_laws 7 (some .int) 9 [.ref (aMo ad), .int x1, .int x2] iI (wM g ad) (f_X5_laws x1 x2) :=
  ct_of_V (own := RX5) (lv0 := [(0, .ref (aMo ad)), (1, .int x1), (2, .int x2)]) (by decide +kernel) rfl (Nat.le_of_ble_eq_true rfl) rfl (fun z σ => vf_X5_laws z x1 x2 σ)
-- LighthouseLiedToModel.film
theorem dX5_film_0 : decode cX5_film 0 = .ok (.iload_n 1, 1) := by decide +kernel
theorem dX5_film_1 : decode cX5_film 1 = .ok (.iconst 0, 1) := by decide +kernel
theorem dX5_film_2 : decode cX5_film 2 = .ok (.iconst 3, 1) := by decide +kernel
theorem dX5_film_3 : decode cX5_film 3 = .ok (.invokestatic 78, 3) := by decide +kernel
theorem dX5_film_6 : decode cX5_film 6 = .ok (.ifCond .ne 6, 3) := by decide +kernel
theorem dX5_film_9 : decode cX5_film 9 = .ok (.bipush (-2), 2) := by decide +kernel
theorem dX5_film_11 : decode cX5_film 11 = .ok (.ireturn, 1) := by decide +kernel
theorem dX5_film_12 : decode cX5_film 12 = .ok (.aload_n 0, 1) := by decide +kernel
theorem dX5_film_13 : decode cX5_film 13 = .ok (.iload_n 2, 1) := by decide +kernel
theorem dX5_film_14 : decode cX5_film 14 = .ok (.invokevirtual 192, 3) := by decide +kernel
theorem dX5_film_17 : decode cX5_film 17 = .ok (.ifCond .ne 6, 3) := by decide +kernel
theorem dX5_film_20 : decode cX5_film 20 = .ok (.bipush (-5), 2) := by decide +kernel
theorem dX5_film_22 : decode cX5_film 22 = .ok (.ireturn, 1) := by decide +kernel
theorem dX5_film_23 : decode cX5_film 23 = .ok (.iload_n 3, 1) := by decide +kernel
theorem dX5_film_24 : decode cX5_film 24 = .ok (.iconst 0, 1) := by decide +kernel
theorem dX5_film_25 : decode cX5_film 25 = .ok (.bipush 20, 2) := by decide +kernel
theorem dX5_film_27 : decode cX5_film 27 = .ok (.invokestatic 78, 3) := by decide +kernel
theorem dX5_film_30 : decode cX5_film 30 = .ok (.ifCond .ne 6, 3) := by decide +kernel
theorem dX5_film_33 : decode cX5_film 33 = .ok (.bipush (-7), 2) := by decide +kernel
theorem dX5_film_35 : decode cX5_film 35 = .ok (.ireturn, 1) := by decide +kernel
theorem dX5_film_36 : decode cX5_film 36 = .ok (.aload_n 0, 1) := by decide +kernel
theorem dX5_film_37 : decode cX5_film 37 = .ok (.getfield 43, 3) := by decide +kernel
theorem dX5_film_40 : decode cX5_film 40 = .ok (.iload_n 1, 1) := by decide +kernel
theorem dX5_film_41 : decode cX5_film 41 = .ok (.iconst 0, 1) := by decide +kernel
theorem dX5_film_42 : decode cX5_film 42 = .ok (.iastore, 1) := by decide +kernel
theorem dX5_film_43 : decode cX5_film 43 = .ok (.aload_n 0, 1) := by decide +kernel
theorem dX5_film_44 : decode cX5_film 44 = .ok (.getfield 46, 3) := by decide +kernel
theorem dX5_film_47 : decode cX5_film 47 = .ok (.iload_n 1, 1) := by decide +kernel
theorem dX5_film_48 : decode cX5_film 48 = .ok (.iload_n 3, 1) := by decide +kernel
theorem dX5_film_49 : decode cX5_film 49 = .ok (.iastore, 1) := by decide +kernel
theorem dX5_film_50 : decode cX5_film 50 = .ok (.aload_n 0, 1) := by decide +kernel
theorem dX5_film_51 : decode cX5_film 51 = .ok (.invokevirtual 223, 3) := by decide +kernel
theorem dX5_film_54 : decode cX5_film 54 = .ok (.iconst 0, 1) := by decide +kernel
theorem dX5_film_55 : decode cX5_film 55 = .ok (.istore 4, 2) := by decide +kernel
theorem dX5_film_57 : decode cX5_film 57 = .ok (.iload 4, 2) := by decide +kernel
theorem dX5_film_59 : decode cX5_film 59 = .ok (.bipush 40, 2) := by decide +kernel
theorem dX5_film_61 : decode cX5_film 61 = .ok (.if_icmp .ge 51, 3) := by decide +kernel
theorem dX5_film_64 : decode cX5_film 64 = .ok (.aload_n 0, 1) := by decide +kernel
theorem dX5_film_65 : decode cX5_film 65 = .ok (.getfield 49, 3) := by decide +kernel
theorem dX5_film_68 : decode cX5_film 68 = .ok (.bipush 40, 2) := by decide +kernel
theorem dX5_film_70 : decode cX5_film 70 = .ok (.iload_n 1, 1) := by decide +kernel
theorem dX5_film_71 : decode cX5_film 71 = .ok (.imul, 1) := by decide +kernel
theorem dX5_film_72 : decode cX5_film 72 = .ok (.iload 4, 2) := by decide +kernel
theorem dX5_film_74 : decode cX5_film 74 = .ok (.iadd, 1) := by decide +kernel
theorem dX5_film_75 : decode cX5_film 75 = .ok (.iconst 0, 1) := by decide +kernel
theorem dX5_film_76 : decode cX5_film 76 = .ok (.iastore, 1) := by decide +kernel
theorem dX5_film_77 : decode cX5_film 77 = .ok (.iload 4, 2) := by decide +kernel
theorem dX5_film_79 : decode cX5_film 79 = .ok (.iload_n 3, 1) := by decide +kernel
theorem dX5_film_80 : decode cX5_film 80 = .ok (.if_icmp .ge 26, 3) := by decide +kernel
theorem dX5_film_83 : decode cX5_film 83 = .ok (.aload_n 0, 1) := by decide +kernel
theorem dX5_film_84 : decode cX5_film 84 = .ok (.invokevirtual 217, 3) := by decide +kernel
theorem dX5_film_87 : decode cX5_film 87 = .ok (.pop, 1) := by decide +kernel
theorem dX5_film_88 : decode cX5_film 88 = .ok (.aload_n 0, 1) := by decide +kernel
theorem dX5_film_89 : decode cX5_film 89 = .ok (.getfield 49, 3) := by decide +kernel
theorem dX5_film_92 : decode cX5_film 92 = .ok (.bipush 40, 2) := by decide +kernel
theorem dX5_film_94 : decode cX5_film 94 = .ok (.iload_n 1, 1) := by decide +kernel
theorem dX5_film_95 : decode cX5_film 95 = .ok (.imul, 1) := by decide +kernel
theorem dX5_film_96 : decode cX5_film 96 = .ok (.iload 4, 2) := by decide +kernel
theorem dX5_film_98 : decode cX5_film 98 = .ok (.iadd, 1) := by decide +kernel
theorem dX5_film_99 : decode cX5_film 99 = .ok (.aload_n 0, 1) := by decide +kernel
theorem dX5_film_100 : decode cX5_film 100 = .ok (.getfield 16, 3) := by decide +kernel
theorem dX5_film_103 : decode cX5_film 103 = .ok (.iload_n 2, 1) := by decide +kernel
theorem dX5_film_104 : decode cX5_film 104 = .ok (.iaload, 1) := by decide +kernel
theorem dX5_film_105 : decode cX5_film 105 = .ok (.iastore, 1) := by decide +kernel
theorem dX5_film_106 : decode cX5_film 106 = .ok (.iinc 4 1, 3) := by decide +kernel
theorem dX5_film_109 : decode cX5_film 109 = .ok (.goto (-52), 3) := by decide +kernel
theorem dX5_film_112 : decode cX5_film 112 = .ok (.aload_n 0, 1) := by decide +kernel
theorem dX5_film_113 : decode cX5_film 113 = .ok (.invokevirtual 232, 3) := by decide +kernel
theorem dX5_film_116 : decode cX5_film 116 = .ok (.iload_n 3, 1) := by decide +kernel
theorem dX5_film_117 : decode cX5_film 117 = .ok (.ireturn, 1) := by decide +kernel
def b_X5_film_57 (kc57 : Int32 → Int32 → Int32 → Int32 → GM → Option (Int32 × GM)) (x1 : Int32) (x2 : Int32) (x3 : Int32) (x4 : Int32) (σ : GM) : Option (Int32 × GM) :=
  if (40 : Int32) ≤ x4 then (bnd (f_X5_lays σ) fun q7 => some (x3, q7.2)) else (grd (((40 : Int32) * x1) + x4) 160 (bnd (some (tA σ 13 (((40 : Int32) * x1) + x4).toNatClampNeg (0 : Int32))) fun σ8 => if x3 ≤ x4 then (kc57 x1 x2 x3 (x4 + (1 : Int32)) σ8) else (bnd (f_X5_nightOf σ8) fun q9 => grd x2 6 (grd (((40 : Int32) * x1) + x4) 160 (bnd (some (tA q9.2 13 (((40 : Int32) * x1) + x4).toNatClampNeg (mA q9.2 2 x2.toNatClampNeg))) fun σ10 => kc57 x1 x2 x3 (x4 + (1 : Int32)) σ10)))))
theorem vb_X5_film_57 {g : Gt} {ad : Nat → Nat} (z : Zt) (kc57 : Int32 → Int32 → Int32 → Int32 → GM → Option (Int32 × GM)) (hkc57 : ∀ (x1 : Int32) (x2 : Int32) (x3 : Int32) (x4 : Int32) (σ : GM), V g (LM ad) 8 RX5 cX5_film 5 (some .int) (wM g ad) iI z (kc57 x1 x2 x3 x4 σ) σ 57 [(0, .ref (aMo ad)), (1, .int x1), (2, .int x2), (3, .int x3), (4, .int x4)] []) (x1 : Int32) (x2 : Int32) (x3 : Int32) (x4 : Int32) (σ : GM) : V g (LM ad) 8 RX5 cX5_film 5 (some .int) (wM g ad) iI z (b_X5_film_57 kc57 x1 x2 x3 x4 σ) σ 57 [(0, .ref (aMo ad)), (1, .int x1), (2, .int x2), (3, .int x3), (4, .int x4)] [] := by
  unfold b_X5_film_57
  refine v_iload (pc := 57) (i := 4) dX5_film_57 rfl ?_
  refine v_bipush (pc := 59) dX5_film_59 bp_40 ?_
  refine v_icmp_ge (pc := 61) (tgt := 112) dX5_film_61 rfl ?_ ?_
  · refine v_aload_n (pc := 112) (i := 0) dX5_film_112 rfl rfl ?_
    refine v_callVv (pc := 113) rcX5 (As := []) (rest := []) (ct_X5_lays) mi_X5_lays q_1011 (by decide) rfl rfl (Nat.le_of_ble_eq_true rfl) dX5_film_113 (fun q7 => ?_)
    refine v_iload_n (pc := 116) (i := 3) dX5_film_116 rfl rfl ?_
    exact v_iret (pc := 117) dX5_film_117
  · refine v_aload_n (pc := 64) (i := 0) dX5_film_64 rfl rfl ?_
    refine gX5_cells (pc := 65) q_776 dX5_film_65 ?_
    refine v_bipush (pc := 68) dX5_film_68 bp_40 ?_
    refine v_iload_n (pc := 70) (i := 1) dX5_film_70 rfl rfl ?_
    refine v_imul (pc := 71) dX5_film_71 ?_
    refine v_iload (pc := 72) (i := 4) dX5_film_72 rfl ?_
    refine v_iadd (pc := 74) dX5_film_74 ?_
    refine v_iconst (pc := 75) dX5_film_75 ic_0 ?_
    refine sM_cells (pc := 76) dX5_film_76 ?_
    refine v_nms (fun σ8 => ?_)
    refine v_iload (pc := 77) (i := 4) dX5_film_77 rfl ?_
    refine v_iload_n (pc := 79) (i := 3) dX5_film_79 rfl rfl ?_
    refine v_icmp_ge (pc := 80) (tgt := 106) dX5_film_80 rfl ?_ ?_
    · refine v_iinc (pc := 106) (lv' := [(4, .int (x4 + (1 : Int32))), (0, .ref (aMo ad)), (1, .int x1), (2, .int x2), (3, .int x3)]) (i := 4) dX5_film_106 rfl ic_1 (by decide) rfl ?_
      refine v_goto (pc := 109) (tgt := 57) dX5_film_109 rfl ?_
      exact v_sub [1, 2, 3, 4, 0] rfl (hkc57 x1 x2 x3 (x4 + (1 : Int32)) σ8)
    · refine v_aload_n (pc := 83) (i := 0) dX5_film_83 rfl rfl ?_
      refine v_callVi (pc := 84) rcX5 (As := []) (rest := []) (ct_X5_nightOf) mi_X5_nightOf q_979 (by decide) rfl rfl (Nat.le_of_ble_eq_true rfl) dX5_film_84 (fun q9 => ?_)
      refine v_pop (pc := 87) dX5_film_87 rfl ?_
      refine v_aload_n (pc := 88) (i := 0) dX5_film_88 rfl rfl ?_
      refine gX5_cells (pc := 89) q_776 dX5_film_89 ?_
      refine v_bipush (pc := 92) dX5_film_92 bp_40 ?_
      refine v_iload_n (pc := 94) (i := 1) dX5_film_94 rfl rfl ?_
      refine v_imul (pc := 95) dX5_film_95 ?_
      refine v_iload (pc := 96) (i := 4) dX5_film_96 rfl ?_
      refine v_iadd (pc := 98) dX5_film_98 ?_
      refine v_aload_n (pc := 99) (i := 0) dX5_film_99 rfl rfl ?_
      refine gX5_onOf (pc := 100) q_757 dX5_film_100 ?_
      refine v_iload_n (pc := 103) (i := 2) dX5_film_103 rfl rfl ?_
      refine lM_onOf (pc := 104) dX5_film_104 ?_
      refine sM_cells (pc := 105) dX5_film_105 ?_
      refine v_nms (fun σ10 => ?_)
      refine v_iinc (pc := 106) (lv' := [(4, .int (x4 + (1 : Int32))), (0, .ref (aMo ad)), (1, .int x1), (2, .int x2), (3, .int x3)]) (i := 4) dX5_film_106 rfl ic_1 (by decide) rfl ?_
      refine v_goto (pc := 109) (tgt := 57) dX5_film_109 rfl ?_
      exact v_sub [1, 2, 3, 4, 0] rfl (hkc57 x1 x2 x3 (x4 + (1 : Int32)) σ10)
def k_X5_film_57 : Nat → Int32 → Int32 → Int32 → Int32 → GM → Option (Int32 × GM)
  | 0 => fun _ _ _ _ _ => none
  | n + 1 => b_X5_film_57 (k_X5_film_57 n)
theorem vk_X5_film_57 {g : Gt} {ad : Nat → Nat} (z : Zt) : ∀ (n : Nat) (x1 : Int32) (x2 : Int32) (x3 : Int32) (x4 : Int32) (σ : GM), V g (LM ad) 8 RX5 cX5_film 5 (some .int) (wM g ad) iI z (k_X5_film_57 n x1 x2 x3 x4 σ) σ 57 [(0, .ref (aMo ad)), (1, .int x1), (2, .int x2), (3, .int x3), (4, .int x4)] [] := by
  intro n
  induction n with
  | zero => intros; exact v_eq rfl v_none
  | succ n ih =>
    intro x1 x2 x3 x4 σ
    exact v_eq rfl (vb_X5_film_57 z _ ih x1 x2 x3 x4 σ)
def f_X5_film (x1 : Int32) (x2 : Int32) (x3 : Int32) (σ : GM) : Option (Int32 × GM) :=
  bnd (f_X5_in x1 (0 : Int32) (3 : Int32) σ) fun q1 => if q1.1 ≠ 0 then (bnd (f_X5_isShip x2 q1.2) fun q2 => if q2.1 ≠ 0 then (bnd (f_X5_in x3 (0 : Int32) (20 : Int32) q2.2) fun q3 => if q3.1 ≠ 0 then (grd x1 4 (bnd (some (tA q3.2 11 x1.toNatClampNeg (0 : Int32))) fun σ4 => grd x1 4 (bnd (some (tA σ4 12 x1.toNatClampNeg x3)) fun σ5 => bnd (f_X5_keeps σ5) fun q6 => k_X5_film_57 FU x1 x2 x3 (0 : Int32) q6.2))) else (some ((-7 : Int32), q3.2))) else (some ((-5 : Int32), q2.2))) else (some ((-2 : Int32), q1.2))
theorem vf_X5_film {g : Gt} {ad : Nat → Nat} (z : Zt) (x1 : Int32) (x2 : Int32) (x3 : Int32) (σ : GM) : V g (LM ad) 8 RX5 cX5_film 5 (some .int) (wM g ad) iI z (f_X5_film x1 x2 x3 σ) σ 0 [(0, .ref (aMo ad)), (1, .int x1), (2, .int x2), (3, .int x3)] [] := by
  unfold f_X5_film
  refine v_iload_n (pc := 0) (i := 1) dX5_film_0 rfl rfl ?_
  refine v_iconst (pc := 1) dX5_film_1 ic_0 ?_
  refine v_iconst (pc := 2) dX5_film_2 ic_3 ?_
  refine v_callSi (pc := 3) (av := [.int x1, .int (0 : Int32), .int (3 : Int32)]) (rest := []) (ct_X5_in x1 (0 : Int32) (3 : Int32)) mi_X5_in q_715 (by decide) rfl rfl (Nat.le_of_ble_eq_true rfl) dX5_film_3 (fun q1 => ?_)
  refine v_if_ne (pc := 6) (tgt := 12) dX5_film_6 rfl ?_ ?_
  · refine v_aload_n (pc := 12) (i := 0) dX5_film_12 rfl rfl ?_
    refine v_iload_n (pc := 13) (i := 2) dX5_film_13 rfl rfl ?_
    refine v_callVi (pc := 14) rcX5 (As := [.int x2]) (rest := []) (ct_X5_isShip x2) mi_X5_isShip q_928 (by decide) rfl rfl (Nat.le_of_ble_eq_true rfl) dX5_film_14 (fun q2 => ?_)
    refine v_if_ne (pc := 17) (tgt := 23) dX5_film_17 rfl ?_ ?_
    · refine v_iload_n (pc := 23) (i := 3) dX5_film_23 rfl rfl ?_
      refine v_iconst (pc := 24) dX5_film_24 ic_0 ?_
      refine v_bipush (pc := 25) dX5_film_25 bp_20 ?_
      refine v_callSi (pc := 27) (av := [.int x3, .int (0 : Int32), .int (20 : Int32)]) (rest := []) (ct_X5_in x3 (0 : Int32) (20 : Int32)) mi_X5_in q_715 (by decide) rfl rfl (Nat.le_of_ble_eq_true rfl) dX5_film_27 (fun q3 => ?_)
      refine v_if_ne (pc := 30) (tgt := 36) dX5_film_30 rfl ?_ ?_
      · refine v_aload_n (pc := 36) (i := 0) dX5_film_36 rfl rfl ?_
        refine gX5_sheetSort (pc := 37) q_774 dX5_film_37 ?_
        refine v_iload_n (pc := 40) (i := 1) dX5_film_40 rfl rfl ?_
        refine v_iconst (pc := 41) dX5_film_41 ic_0 ?_
        refine sM_sheetSort (pc := 42) dX5_film_42 ?_
        refine v_nms (fun σ4 => ?_)
        refine v_aload_n (pc := 43) (i := 0) dX5_film_43 rfl rfl ?_
        refine gX5_sheetSize (pc := 44) q_775 dX5_film_44 ?_
        refine v_iload_n (pc := 47) (i := 1) dX5_film_47 rfl rfl ?_
        refine v_iload_n (pc := 48) (i := 3) dX5_film_48 rfl rfl ?_
        refine sM_sheetSize (pc := 49) dX5_film_49 ?_
        refine v_nms (fun σ5 => ?_)
        refine v_aload_n (pc := 50) (i := 0) dX5_film_50 rfl rfl ?_
        refine v_callVv (pc := 51) rcX5 (As := []) (rest := []) (ct_X5_keeps) mi_X5_keeps q_995 (by decide) rfl rfl (Nat.le_of_ble_eq_true rfl) dX5_film_51 (fun q6 => ?_)
        refine v_iconst (pc := 54) dX5_film_54 ic_0 ?_
        refine v_istore (pc := 55) (lv' := [(4, .int (0 : Int32)), (0, .ref (aMo ad)), (1, .int x1), (2, .int x2), (3, .int x3)]) (i := 4) dX5_film_55 (by decide) rfl ?_
        exact v_sub [1, 2, 3, 4, 0] rfl (vk_X5_film_57 z FU x1 x2 x3 (0 : Int32) q6.2)
      · refine v_bipush (pc := 33) dX5_film_33 bp_m7 ?_
        exact v_iret (pc := 35) dX5_film_35
    · refine v_bipush (pc := 20) dX5_film_20 bp_m5 ?_
      exact v_iret (pc := 22) dX5_film_22
  · refine v_bipush (pc := 9) dX5_film_9 bp_m2 ?_
    exact v_iret (pc := 11) dX5_film_11
theorem ct_X5_film {g : Gt} {ad : Nat → Nat} (x1 : Int32) (x2 : Int32) (x3 : Int32) : CT g (LM ad) yX5_film cX5_film 5 (some .int) 8 [.ref (aMo ad), .int x1, .int x2, .int x3] iI (wM g ad) (f_X5_film x1 x2 x3) :=
  ct_of_V (own := RX5) (lv0 := [(0, .ref (aMo ad)), (1, .int x1), (2, .int x2), (3, .int x3)]) (by decide +kernel) rfl (Nat.le_of_ble_eq_true rfl) rfl (fun z σ => vf_X5_film z x1 x2 x3 σ)
-- LighthouseLiedToModel.tales
theorem dX5_tales_0 : decode cX5_tales 0 = .ok (.iload_n 1, 1) := by decide +kernel
theorem dX5_tales_1 : decode cX5_tales 1 = .ok (.i2l, 1) := by decide +kernel
theorem dX5_tales_2 : decode cX5_tales 2 = .ok (.lconst 1, 1) := by decide +kernel
theorem dX5_tales_3 : decode cX5_tales 3 = .ok (.ladd, 1) := by decide +kernel
theorem dX5_tales_4 : decode cX5_tales 4 = .ok (.lstore_n 3, 1) := by decide +kernel
theorem dX5_tales_5 : decode cX5_tales 5 = .ok (.iconst 0, 1) := by decide +kernel
theorem dX5_tales_6 : decode cX5_tales 6 = .ok (.istore 5, 2) := by decide +kernel
theorem dX5_tales_8 : decode cX5_tales 8 = .ok (.aload_n 0, 1) := by decide +kernel
theorem dX5_tales_9 : decode cX5_tales 9 = .ok (.invokevirtual 223, 3) := by decide +kernel
theorem dX5_tales_12 : decode cX5_tales 12 = .ok (.iconst 0, 1) := by decide +kernel
theorem dX5_tales_13 : decode cX5_tales 13 = .ok (.istore 6, 2) := by decide +kernel
theorem dX5_tales_15 : decode cX5_tales 15 = .ok (.iload 6, 2) := by decide +kernel
theorem dX5_tales_17 : decode cX5_tales 17 = .ok (.bipush 6, 2) := by decide +kernel
theorem dX5_tales_19 : decode cX5_tales 19 = .ok (.if_icmp .ge 45, 3) := by decide +kernel
theorem dX5_tales_22 : decode cX5_tales 22 = .ok (.lload_n 3, 1) := by decide +kernel
theorem dX5_tales_23 : decode cX5_tales 23 = .ok (.ldc2_w 257, 3) := by decide +kernel
theorem dX5_tales_26 : decode cX5_tales 26 = .ok (.lmul, 1) := by decide +kernel
theorem dX5_tales_27 : decode cX5_tales 27 = .ok (.ldc2_w 259, 3) := by decide +kernel
theorem dX5_tales_30 : decode cX5_tales 30 = .ok (.lrem, 1) := by decide +kernel
theorem dX5_tales_31 : decode cX5_tales 31 = .ok (.lstore_n 3, 1) := by decide +kernel
theorem dX5_tales_32 : decode cX5_tales 32 = .ok (.aload_n 0, 1) := by decide +kernel
theorem dX5_tales_33 : decode cX5_tales 33 = .ok (.lload_n 3, 1) := by decide +kernel
theorem dX5_tales_34 : decode cX5_tales 34 = .ok (.ldc2_w 261, 3) := by decide +kernel
theorem dX5_tales_37 : decode cX5_tales 37 = .ok (.lrem, 1) := by decide +kernel
theorem dX5_tales_38 : decode cX5_tales 38 = .ok (.l2i, 1) := by decide +kernel
theorem dX5_tales_39 : decode cX5_tales 39 = .ok (.iconst 0, 1) := by decide +kernel
theorem dX5_tales_40 : decode cX5_tales 40 = .ok (.bipush 35, 2) := by decide +kernel
theorem dX5_tales_42 : decode cX5_tales 42 = .ok (.invokestatic 120, 3) := by decide +kernel
theorem dX5_tales_45 : decode cX5_tales 45 = .ok (.iload_n 2, 1) := by decide +kernel
theorem dX5_tales_46 : decode cX5_tales 46 = .ok (.invokevirtual 124, 3) := by decide +kernel
theorem dX5_tales_49 : decode cX5_tales 49 = .ok (.iload 5, 2) := by decide +kernel
theorem dX5_tales_51 : decode cX5_tales 51 = .ok (.aload_n 0, 1) := by decide +kernel
theorem dX5_tales_52 : decode cX5_tales 52 = .ok (.invokevirtual 217, 3) := by decide +kernel
theorem dX5_tales_55 : decode cX5_tales 55 = .ok (.ior, 1) := by decide +kernel
theorem dX5_tales_56 : decode cX5_tales 56 = .ok (.istore 5, 2) := by decide +kernel
theorem dX5_tales_58 : decode cX5_tales 58 = .ok (.iinc 6 1, 3) := by decide +kernel
theorem dX5_tales_61 : decode cX5_tales 61 = .ok (.goto (-46), 3) := by decide +kernel
theorem dX5_tales_64 : decode cX5_tales 64 = .ok (.aload_n 0, 1) := by decide +kernel
theorem dX5_tales_65 : decode cX5_tales 65 = .ok (.aload_n 0, 1) := by decide +kernel
theorem dX5_tales_66 : decode cX5_tales 66 = .ok (.invokevirtual 93, 3) := by decide +kernel
theorem dX5_tales_69 : decode cX5_tales 69 = .ok (.putfield 263, 3) := by decide +kernel
theorem dX5_tales_72 : decode cX5_tales 72 = .ok (.aload_n 0, 1) := by decide +kernel
theorem dX5_tales_73 : decode cX5_tales 73 = .ok (.invokevirtual 232, 3) := by decide +kernel
theorem dX5_tales_76 : decode cX5_tales 76 = .ok (.iload 5, 2) := by decide +kernel
theorem dX5_tales_78 : decode cX5_tales 78 = .ok (.invokestatic 96, 3) := by decide +kernel
theorem dX5_tales_81 : decode cX5_tales 81 = .ok (.ireturn, 1) := by decide +kernel
def b_X5_tales_15 (kc15 : Int32 → Int64 → Int32 → Int32 → GM → Option (Int32 × GM)) (x2 : Int32) (x3 : Int64) (x5 : Int32) (x6 : Int32) (σ : GM) : Option (Int32 × GM) :=
  if (6 : Int32) ≤ x6 then (bnd (f_X5_afloat σ) fun q3 => bnd (some (tI q3.2 14 q3.1)) fun σ4 => bnd (f_X5_lays σ4) fun q5 => bnd (f_X5_ones x5 q5.2) fun q6 => some (q6.1, q6.2)) else (bnd (some (rL (x3 * (48271 : Int64)) (2147483647 : Int64))) fun w7 => bnd (f_X5_within (rL w7 (36 : Int64)).toInt32 (0 : Int32) (35 : Int32) σ) fun q8 => bnd (f_X5_isToldOf q8.1 x2 q8.2) fun q9 => bnd (f_X5_nightOf q9.2) fun q10 => bnd (some (x5 ||| q10.1)) fun w11 => kc15 x2 w7 w11 (x6 + (1 : Int32)) q10.2)
theorem vb_X5_tales_15 {g : Gt} {ad : Nat → Nat} (z : Zt) (kc15 : Int32 → Int64 → Int32 → Int32 → GM → Option (Int32 × GM)) (hkc15 : ∀ (x2 : Int32) (x3 : Int64) (x5 : Int32) (x6 : Int32) (σ : GM), V g (LM ad) 8 RX5 cX5_tales 7 (some .int) (wM g ad) iI z (kc15 x2 x3 x5 x6 σ) σ 15 [(0, .ref (aMo ad)), (2, .int x2), (3, .long x3), (5, .int x5), (6, .int x6)] []) (x2 : Int32) (x3 : Int64) (x5 : Int32) (x6 : Int32) (σ : GM) : V g (LM ad) 8 RX5 cX5_tales 7 (some .int) (wM g ad) iI z (b_X5_tales_15 kc15 x2 x3 x5 x6 σ) σ 15 [(0, .ref (aMo ad)), (2, .int x2), (3, .long x3), (5, .int x5), (6, .int x6)] [] := by
  unfold b_X5_tales_15
  refine v_iload (pc := 15) (i := 6) dX5_tales_15 rfl ?_
  refine v_bipush (pc := 17) dX5_tales_17 bp_6 ?_
  refine v_icmp_ge (pc := 19) (tgt := 64) dX5_tales_19 rfl ?_ ?_
  · refine v_aload_n (pc := 64) (i := 0) dX5_tales_64 rfl rfl ?_
    refine v_aload_n (pc := 65) (i := 0) dX5_tales_65 rfl rfl ?_
    refine v_callVi (pc := 66) rcX5 (As := []) (rest := [.ref (aMo ad)]) (ct_X5_afloat) mi_X5_afloat q_870 (by decide) rfl rfl (Nat.le_of_ble_eq_true rfl) dX5_tales_66 (fun q3 => ?_)
    refine pX5_afloatThen (pc := 69) q_790 dX5_tales_69 ?_
    refine v_nms (fun σ4 => ?_)
    refine v_aload_n (pc := 72) (i := 0) dX5_tales_72 rfl rfl ?_
    refine v_callVv (pc := 73) rcX5 (As := []) (rest := []) (ct_X5_lays) mi_X5_lays q_1011 (by decide) rfl rfl (Nat.le_of_ble_eq_true rfl) dX5_tales_73 (fun q5 => ?_)
    refine v_iload (pc := 76) (i := 5) dX5_tales_76 rfl ?_
    refine v_callSi (pc := 78) (av := [.int x5]) (rest := []) (ct_X5_ones x5) mi_X5_ones q_874 (by decide) rfl rfl (Nat.le_of_ble_eq_true rfl) dX5_tales_78 (fun q6 => ?_)
    exact v_iret (pc := 81) dX5_tales_81
  · refine v_lload_n (pc := 22) (i := 3) dX5_tales_22 rfl rfl ?_
    refine v_ldc2 (pc := 23) dX5_tales_23 q_1108 ?_
    refine v_lmul (pc := 26) dX5_tales_26 ?_
    refine v_ldc2 (pc := 27) dX5_tales_27 q_1109 ?_
    refine v_lrem (pc := 30) dX5_tales_30 (by decide) ?_
    refine v_nml (fun w7 => ?_)
    refine v_lstore_n (pc := 31) (lv' := [(3, .long w7), (0, .ref (aMo ad)), (2, .int x2), (5, .int x5), (6, .int x6)]) (i := 3) dX5_tales_31 rfl (by decide) rfl ?_
    refine v_aload_n (pc := 32) (i := 0) dX5_tales_32 rfl rfl ?_
    refine v_lload_n (pc := 33) (i := 3) dX5_tales_33 rfl rfl ?_
    refine v_ldc2 (pc := 34) dX5_tales_34 q_1110 ?_
    refine v_lrem (pc := 37) dX5_tales_37 (by decide) ?_
    refine v_l2i (pc := 38) dX5_tales_38 ?_
    refine v_iconst (pc := 39) dX5_tales_39 ic_0 ?_
    refine v_bipush (pc := 40) dX5_tales_40 bp_35 ?_
    refine v_callSi (pc := 42) (av := [.int (rL w7 (36 : Int64)).toInt32, .int (0 : Int32), .int (35 : Int32)]) (rest := [.ref (aMo ad)]) (ct_X5_within (rL w7 (36 : Int64)).toInt32 (0 : Int32) (35 : Int32)) mi_X5_within q_901 (by decide) rfl rfl (Nat.le_of_ble_eq_true rfl) dX5_tales_42 (fun q8 => ?_)
    refine v_iload_n (pc := 45) (i := 2) dX5_tales_45 rfl rfl ?_
    refine v_callVv (pc := 46) rcX5 (As := [.int q8.1, .int x2]) (rest := []) (ct_X5_isToldOf q8.1 x2) mi_X5_isToldOf q_897 (by decide) rfl rfl (Nat.le_of_ble_eq_true rfl) dX5_tales_46 (fun q9 => ?_)
    refine v_iload (pc := 49) (i := 5) dX5_tales_49 rfl ?_
    refine v_aload_n (pc := 51) (i := 0) dX5_tales_51 rfl rfl ?_
    refine v_callVi (pc := 52) rcX5 (As := []) (rest := [.int x5]) (ct_X5_nightOf) mi_X5_nightOf q_979 (by decide) rfl rfl (Nat.le_of_ble_eq_true rfl) dX5_tales_52 (fun q10 => ?_)
    refine v_ior (pc := 55) dX5_tales_55 ?_
    refine v_nmi (fun w11 => ?_)
    refine v_istore (pc := 56) (lv' := [(5, .int w11), (3, .long w7), (0, .ref (aMo ad)), (2, .int x2), (6, .int x6)]) (i := 5) dX5_tales_56 (by decide) rfl ?_
    refine v_iinc (pc := 58) (lv' := [(6, .int (x6 + (1 : Int32))), (5, .int w11), (3, .long w7), (0, .ref (aMo ad)), (2, .int x2)]) (i := 6) dX5_tales_58 rfl ic_1 (by decide) rfl ?_
    refine v_goto (pc := 61) (tgt := 15) dX5_tales_61 rfl ?_
    exact v_sub [3, 4, 2, 1, 0] rfl (hkc15 x2 w7 w11 (x6 + (1 : Int32)) q10.2)
def k_X5_tales_15 : Nat → Int32 → Int64 → Int32 → Int32 → GM → Option (Int32 × GM)
  | 0 => fun _ _ _ _ _ => none
  | n + 1 => b_X5_tales_15 (k_X5_tales_15 n)
theorem vk_X5_tales_15 {g : Gt} {ad : Nat → Nat} (z : Zt) : ∀ (n : Nat) (x2 : Int32) (x3 : Int64) (x5 : Int32) (x6 : Int32) (σ : GM), V g (LM ad) 8 RX5 cX5_tales 7 (some .int) (wM g ad) iI z (k_X5_tales_15 n x2 x3 x5 x6 σ) σ 15 [(0, .ref (aMo ad)), (2, .int x2), (3, .long x3), (5, .int x5), (6, .int x6)] [] := by
  intro n
  induction n with
  | zero => intros; exact v_eq rfl v_none
  | succ n ih =>
    intro x2 x3 x5 x6 σ
    exact v_eq rfl (vb_X5_tales_15 z _ ih x2 x3 x5 x6 σ)
def f_X5_tales (x1 : Int32) (x2 : Int32) (σ : GM) : Option (Int32 × GM) :=
  bnd (some (x1.toInt64 + (1 : Int64))) fun w1 => bnd (f_X5_keeps σ) fun q2 => k_X5_tales_15 FU x2 w1 (0 : Int32) (0 : Int32) q2.2
theorem vf_X5_tales {g : Gt} {ad : Nat → Nat} (z : Zt) (x1 : Int32) (x2 : Int32) (σ : GM) : V g (LM ad) 8 RX5 cX5_tales 7 (some .int) (wM g ad) iI z (f_X5_tales x1 x2 σ) σ 0 [(0, .ref (aMo ad)), (1, .int x1), (2, .int x2)] [] := by
  unfold f_X5_tales
  refine v_iload_n (pc := 0) (i := 1) dX5_tales_0 rfl rfl ?_
  refine v_i2l (pc := 1) dX5_tales_1 ?_
  refine v_lconst (pc := 2) dX5_tales_2 lc_1 ?_
  refine v_ladd (pc := 3) dX5_tales_3 ?_
  refine v_nml (fun w1 => ?_)
  refine v_lstore_n (pc := 4) (lv' := [(3, .long w1), (0, .ref (aMo ad)), (1, .int x1), (2, .int x2)]) (i := 3) dX5_tales_4 rfl (by decide) rfl ?_
  refine v_iconst (pc := 5) dX5_tales_5 ic_0 ?_
  refine v_istore (pc := 6) (lv' := [(5, .int (0 : Int32)), (3, .long w1), (0, .ref (aMo ad)), (1, .int x1), (2, .int x2)]) (i := 5) dX5_tales_6 (by decide) rfl ?_
  refine v_aload_n (pc := 8) (i := 0) dX5_tales_8 rfl rfl ?_
  refine v_callVv (pc := 9) rcX5 (As := []) (rest := []) (ct_X5_keeps) mi_X5_keeps q_995 (by decide) rfl rfl (Nat.le_of_ble_eq_true rfl) dX5_tales_9 (fun q2 => ?_)
  refine v_iconst (pc := 12) dX5_tales_12 ic_0 ?_
  refine v_istore (pc := 13) (lv' := [(6, .int (0 : Int32)), (5, .int (0 : Int32)), (3, .long w1), (0, .ref (aMo ad)), (1, .int x1), (2, .int x2)]) (i := 6) dX5_tales_13 (by decide) rfl ?_
  exact v_sub [3, 5, 2, 1, 0] rfl (vk_X5_tales_15 z FU x2 w1 (0 : Int32) (0 : Int32) q2.2)
theorem ct_X5_tales {g : Gt} {ad : Nat → Nat} (x1 : Int32) (x2 : Int32) : CT g (LM ad) yX5_tales cX5_tales 7 (some .int) 8 [.ref (aMo ad), .int x1, .int x2] iI (wM g ad) (f_X5_tales x1 x2) :=
  ct_of_V (own := RX5) (lv0 := [(0, .ref (aMo ad)), (1, .int x1), (2, .int x2)]) (by decide +kernel) rfl (Nat.le_of_ble_eq_true rfl) rfl (fun z σ => vf_X5_tales z x1 x2 σ)
-- LighthouseLiedToModel.drawn
theorem dX5_drawn_0 : decode cX5_drawn 0 = .ok (.iload_n 1, 1) := by decide +kernel
theorem dX5_drawn_1 : decode cX5_drawn 1 = .ok (.iconst 0, 1) := by decide +kernel
theorem dX5_drawn_2 : decode cX5_drawn 2 = .ok (.ldc_w 266, 3) := by decide +kernel
theorem dX5_drawn_5 : decode cX5_drawn 5 = .ok (.invokestatic 78, 3) := by decide +kernel
theorem dX5_drawn_8 : decode cX5_drawn 8 = .ok (.ifCond .eq 23, 3) := by decide +kernel
theorem dX5_drawn_11 : decode cX5_drawn 11 = .ok (.iload_n 2, 1) := by decide +kernel
theorem dX5_drawn_12 : decode cX5_drawn 12 = .ok (.bipush (-99), 2) := by decide +kernel
theorem dX5_drawn_14 : decode cX5_drawn 14 = .ok (.bipush 99, 2) := by decide +kernel
theorem dX5_drawn_16 : decode cX5_drawn 16 = .ok (.invokestatic 78, 3) := by decide +kernel
theorem dX5_drawn_19 : decode cX5_drawn 19 = .ok (.ifCond .eq 12, 3) := by decide +kernel
theorem dX5_drawn_22 : decode cX5_drawn 22 = .ok (.iload_n 3, 1) := by decide +kernel
theorem dX5_drawn_23 : decode cX5_drawn 23 = .ok (.iconst 0, 1) := by decide +kernel
theorem dX5_drawn_24 : decode cX5_drawn 24 = .ok (.iconst 1, 1) := by decide +kernel
theorem dX5_drawn_25 : decode cX5_drawn 25 = .ok (.invokestatic 78, 3) := by decide +kernel
theorem dX5_drawn_28 : decode cX5_drawn 28 = .ok (.ifCond .ne 6, 3) := by decide +kernel
theorem dX5_drawn_31 : decode cX5_drawn 31 = .ok (.bipush (-2), 2) := by decide +kernel
theorem dX5_drawn_33 : decode cX5_drawn 33 = .ok (.ireturn, 1) := by decide +kernel
theorem dX5_drawn_34 : decode cX5_drawn 34 = .ok (.aload_n 0, 1) := by decide +kernel
theorem dX5_drawn_35 : decode cX5_drawn 35 = .ok (.iload_n 1, 1) := by decide +kernel
theorem dX5_drawn_36 : decode cX5_drawn 36 = .ok (.iload_n 2, 1) := by decide +kernel
theorem dX5_drawn_37 : decode cX5_drawn 37 = .ok (.invokevirtual 267, 3) := by decide +kernel
theorem dX5_drawn_40 : decode cX5_drawn 40 = .ok (.istore 4, 2) := by decide +kernel
theorem dX5_drawn_42 : decode cX5_drawn 42 = .ok (.iload_n 3, 1) := by decide +kernel
theorem dX5_drawn_43 : decode cX5_drawn 43 = .ok (.ifCond .ne 8, 3) := by decide +kernel
theorem dX5_drawn_46 : decode cX5_drawn 46 = .ok (.iload 4, 2) := by decide +kernel
theorem dX5_drawn_48 : decode cX5_drawn 48 = .ok (.goto 7, 3) := by decide +kernel
theorem dX5_drawn_51 : decode cX5_drawn 51 = .ok (.aload_n 0, 1) := by decide +kernel
theorem dX5_drawn_52 : decode cX5_drawn 52 = .ok (.getfield 263, 3) := by decide +kernel
theorem dX5_drawn_55 : decode cX5_drawn 55 = .ok (.ireturn, 1) := by decide +kernel
def f_X5_drawn (x1 : Int32) (x2 : Int32) (x3 : Int32) (σ : GM) : Option (Int32 × GM) :=
  bnd (f_X5_in x1 (0 : Int32) (99999 : Int32) σ) fun q1 => if q1.1 = 0 then (some ((-2 : Int32), q1.2)) else (bnd (f_X5_in x2 (-99 : Int32) (99 : Int32) q1.2) fun q2 => if q2.1 = 0 then (some ((-2 : Int32), q2.2)) else (bnd (f_X5_in x3 (0 : Int32) (1 : Int32) q2.2) fun q3 => if q3.1 ≠ 0 then (bnd (f_X5_tales x1 x2 q3.2) fun q4 => if x3 ≠ 0 then (some ((mI q4.2 14), q4.2)) else (some (q4.1, q4.2))) else (some ((-2 : Int32), q3.2))))
theorem vf_X5_drawn {g : Gt} {ad : Nat → Nat} (z : Zt) (x1 : Int32) (x2 : Int32) (x3 : Int32) (σ : GM) : V g (LM ad) 9 RX5 cX5_drawn 5 (some .int) (wM g ad) iI z (f_X5_drawn x1 x2 x3 σ) σ 0 [(0, .ref (aMo ad)), (1, .int x1), (2, .int x2), (3, .int x3)] [] := by
  unfold f_X5_drawn
  refine v_iload_n (pc := 0) (i := 1) dX5_drawn_0 rfl rfl ?_
  refine v_iconst (pc := 1) dX5_drawn_1 ic_0 ?_
  refine v_ldcw (pc := 2) dX5_drawn_2 q_1103 ?_
  refine v_callSi (pc := 5) (av := [.int x1, .int (0 : Int32), .int (99999 : Int32)]) (rest := []) (ct_X5_in x1 (0 : Int32) (99999 : Int32)) mi_X5_in q_715 (by decide) rfl rfl (Nat.le_of_ble_eq_true rfl) dX5_drawn_5 (fun q1 => ?_)
  refine v_if_eq (pc := 8) (tgt := 31) dX5_drawn_8 rfl ?_ ?_
  · refine v_bipush (pc := 31) dX5_drawn_31 bp_m2 ?_
    exact v_iret (pc := 33) dX5_drawn_33
  · refine v_iload_n (pc := 11) (i := 2) dX5_drawn_11 rfl rfl ?_
    refine v_bipush (pc := 12) dX5_drawn_12 bp_m99 ?_
    refine v_bipush (pc := 14) dX5_drawn_14 bp_99 ?_
    refine v_callSi (pc := 16) (av := [.int x2, .int (-99 : Int32), .int (99 : Int32)]) (rest := []) (ct_X5_in x2 (-99 : Int32) (99 : Int32)) mi_X5_in q_715 (by decide) rfl rfl (Nat.le_of_ble_eq_true rfl) dX5_drawn_16 (fun q2 => ?_)
    refine v_if_eq (pc := 19) (tgt := 31) dX5_drawn_19 rfl ?_ ?_
    · refine v_bipush (pc := 31) dX5_drawn_31 bp_m2 ?_
      exact v_iret (pc := 33) dX5_drawn_33
    · refine v_iload_n (pc := 22) (i := 3) dX5_drawn_22 rfl rfl ?_
      refine v_iconst (pc := 23) dX5_drawn_23 ic_0 ?_
      refine v_iconst (pc := 24) dX5_drawn_24 ic_1 ?_
      refine v_callSi (pc := 25) (av := [.int x3, .int (0 : Int32), .int (1 : Int32)]) (rest := []) (ct_X5_in x3 (0 : Int32) (1 : Int32)) mi_X5_in q_715 (by decide) rfl rfl (Nat.le_of_ble_eq_true rfl) dX5_drawn_25 (fun q3 => ?_)
      refine v_if_ne (pc := 28) (tgt := 34) dX5_drawn_28 rfl ?_ ?_
      · refine v_aload_n (pc := 34) (i := 0) dX5_drawn_34 rfl rfl ?_
        refine v_iload_n (pc := 35) (i := 1) dX5_drawn_35 rfl rfl ?_
        refine v_iload_n (pc := 36) (i := 2) dX5_drawn_36 rfl rfl ?_
        refine v_callVi (pc := 37) rcX5 (As := [.int x1, .int x2]) (rest := []) (ct_X5_tales x1 x2) mi_X5_tales q_1104 (by decide) rfl rfl (Nat.le_of_ble_eq_true rfl) dX5_drawn_37 (fun q4 => ?_)
        refine v_istore (pc := 40) (lv' := [(4, .int q4.1), (0, .ref (aMo ad)), (1, .int x1), (2, .int x2), (3, .int x3)]) (i := 4) dX5_drawn_40 (by decide) rfl ?_
        refine v_iload_n (pc := 42) (i := 3) dX5_drawn_42 rfl rfl ?_
        refine v_if_ne (pc := 43) (tgt := 51) dX5_drawn_43 rfl ?_ ?_
        · refine v_aload_n (pc := 51) (i := 0) dX5_drawn_51 rfl rfl ?_
          refine gX5_afloatThen (pc := 52) q_790 dX5_drawn_52 ?_
          exact v_iret (pc := 55) dX5_drawn_55
        · refine v_iload (pc := 46) (i := 4) dX5_drawn_46 rfl ?_
          refine v_goto (pc := 48) (tgt := 55) dX5_drawn_48 rfl ?_
          exact v_iret (pc := 55) dX5_drawn_55
      · refine v_bipush (pc := 31) dX5_drawn_31 bp_m2 ?_
        exact v_iret (pc := 33) dX5_drawn_33
theorem ct_X5_drawn {g : Gt} {ad : Nat → Nat} (x1 : Int32) (x2 : Int32) (x3 : Int32) : CT g (LM ad) yX5_drawn cX5_drawn 5 (some .int) 9 [.ref (aMo ad), .int x1, .int x2, .int x3] iI (wM g ad) (f_X5_drawn x1 x2 x3) :=
  ct_of_V (own := RX5) (lv0 := [(0, .ref (aMo ad)), (1, .int x1), (2, .int x2), (3, .int x3)]) (by decide +kernel) rfl (Nat.le_of_ble_eq_true rfl) rfl (fun z σ => vf_X5_drawn z x1 x2 x3 σ)
-- LighthouseLiedToModel.odds
theorem dX5_odds_0 : decode cX5_odds 0 = .ok (.iload_n 1, 1) := by decide +kernel
theorem dX5_odds_1 : decode cX5_odds 1 = .ok (.iconst 0, 1) := by decide +kernel
theorem dX5_odds_2 : decode cX5_odds 2 = .ok (.ldc_w 266, 3) := by decide +kernel
theorem dX5_odds_5 : decode cX5_odds 5 = .ok (.invokestatic 78, 3) := by decide +kernel
theorem dX5_odds_8 : decode cX5_odds 8 = .ok (.ifCond .eq 28, 3) := by decide +kernel
theorem dX5_odds_11 : decode cX5_odds 11 = .ok (.iload_n 2, 1) := by decide +kernel
theorem dX5_odds_12 : decode cX5_odds 12 = .ok (.iconst 1, 1) := by decide +kernel
theorem dX5_odds_13 : decode cX5_odds 13 = .ok (.bipush 40, 2) := by decide +kernel
theorem dX5_odds_15 : decode cX5_odds 15 = .ok (.invokestatic 78, 3) := by decide +kernel
theorem dX5_odds_18 : decode cX5_odds 18 = .ok (.ifCond .eq 18, 3) := by decide +kernel
theorem dX5_odds_21 : decode cX5_odds 21 = .ok (.iload_n 3, 1) := by decide +kernel
theorem dX5_odds_22 : decode cX5_odds 22 = .ok (.bipush (-99), 2) := by decide +kernel
theorem dX5_odds_24 : decode cX5_odds 24 = .ok (.bipush 99, 2) := by decide +kernel
theorem dX5_odds_26 : decode cX5_odds 26 = .ok (.invokestatic 78, 3) := by decide +kernel
theorem dX5_odds_29 : decode cX5_odds 29 = .ok (.ifCond .eq 7, 3) := by decide +kernel
theorem dX5_odds_32 : decode cX5_odds 32 = .ok (.iconst 1, 1) := by decide +kernel
theorem dX5_odds_33 : decode cX5_odds 33 = .ok (.goto 4, 3) := by decide +kernel
theorem dX5_odds_36 : decode cX5_odds 36 = .ok (.iconst 0, 1) := by decide +kernel
theorem dX5_odds_37 : decode cX5_odds 37 = .ok (.istore 6, 2) := by decide +kernel
theorem dX5_odds_39 : decode cX5_odds 39 = .ok (.iload 6, 2) := by decide +kernel
theorem dX5_odds_41 : decode cX5_odds 41 = .ok (.ifCond .eq 24, 3) := by decide +kernel
theorem dX5_odds_44 : decode cX5_odds 44 = .ok (.iload 4, 2) := by decide +kernel
theorem dX5_odds_46 : decode cX5_odds 46 = .ok (.iconst 0, 1) := by decide +kernel
theorem dX5_odds_47 : decode cX5_odds 47 = .ok (.bipush 6, 2) := by decide +kernel
theorem dX5_odds_49 : decode cX5_odds 49 = .ok (.invokestatic 78, 3) := by decide +kernel
theorem dX5_odds_52 : decode cX5_odds 52 = .ok (.ifCond .eq 13, 3) := by decide +kernel
theorem dX5_odds_55 : decode cX5_odds 55 = .ok (.iload 5, 2) := by decide +kernel
theorem dX5_odds_57 : decode cX5_odds 57 = .ok (.iconst 0, 1) := by decide +kernel
theorem dX5_odds_58 : decode cX5_odds 58 = .ok (.iconst 1, 1) := by decide +kernel
theorem dX5_odds_59 : decode cX5_odds 59 = .ok (.invokestatic 78, 3) := by decide +kernel
theorem dX5_odds_62 : decode cX5_odds 62 = .ok (.ifCond .ne 7, 3) := by decide +kernel
theorem dX5_odds_65 : decode cX5_odds 65 = .ok (.ldc2_w 235, 3) := by decide +kernel
theorem dX5_odds_68 : decode cX5_odds 68 = .ok (.lreturn, 1) := by decide +kernel
theorem dX5_odds_69 : decode cX5_odds 69 = .ok (.lconst 0, 1) := by decide +kernel
theorem dX5_odds_70 : decode cX5_odds 70 = .ok (.lstore 7, 2) := by decide +kernel
theorem dX5_odds_72 : decode cX5_odds 72 = .ok (.iconst 0, 1) := by decide +kernel
theorem dX5_odds_73 : decode cX5_odds 73 = .ok (.istore 9, 2) := by decide +kernel
theorem dX5_odds_75 : decode cX5_odds 75 = .ok (.iload 9, 2) := by decide +kernel
theorem dX5_odds_77 : decode cX5_odds 77 = .ok (.iload_n 2, 1) := by decide +kernel
theorem dX5_odds_78 : decode cX5_odds 78 = .ok (.if_icmp .ge 33, 3) := by decide +kernel
theorem dX5_odds_81 : decode cX5_odds 81 = .ok (.lload 7, 2) := by decide +kernel
theorem dX5_odds_83 : decode cX5_odds 83 = .ok (.aload_n 0, 1) := by decide +kernel
theorem dX5_odds_84 : decode cX5_odds 84 = .ok (.iload_n 1, 1) := by decide +kernel
theorem dX5_odds_85 : decode cX5_odds 85 = .ok (.iload 9, 2) := by decide +kernel
theorem dX5_odds_87 : decode cX5_odds 87 = .ok (.iadd, 1) := by decide +kernel
theorem dX5_odds_88 : decode cX5_odds 88 = .ok (.iload_n 3, 1) := by decide +kernel
theorem dX5_odds_89 : decode cX5_odds 89 = .ok (.invokevirtual 267, 3) := by decide +kernel
theorem dX5_odds_92 : decode cX5_odds 92 = .ok (.iload 4, 2) := by decide +kernel
theorem dX5_odds_94 : decode cX5_odds 94 = .ok (.if_icmp .gt 7, 3) := by decide +kernel
theorem dX5_odds_97 : decode cX5_odds 97 = .ok (.lconst 1, 1) := by decide +kernel
theorem dX5_odds_98 : decode cX5_odds 98 = .ok (.goto 4, 3) := by decide +kernel
theorem dX5_odds_101 : decode cX5_odds 101 = .ok (.lconst 0, 1) := by decide +kernel
theorem dX5_odds_102 : decode cX5_odds 102 = .ok (.ladd, 1) := by decide +kernel
theorem dX5_odds_103 : decode cX5_odds 103 = .ok (.lstore 7, 2) := by decide +kernel
theorem dX5_odds_105 : decode cX5_odds 105 = .ok (.iinc 9 1, 3) := by decide +kernel
theorem dX5_odds_108 : decode cX5_odds 108 = .ok (.goto (-33), 3) := by decide +kernel
theorem dX5_odds_111 : decode cX5_odds 111 = .ok (.lload 7, 2) := by decide +kernel
theorem dX5_odds_113 : decode cX5_odds 113 = .ok (.iload_n 2, 1) := by decide +kernel
theorem dX5_odds_114 : decode cX5_odds 114 = .ok (.i2l, 1) := by decide +kernel
theorem dX5_odds_115 : decode cX5_odds 115 = .ok (.iload 5, 2) := by decide +kernel
theorem dX5_odds_117 : decode cX5_odds 117 = .ok (.invokestatic 244, 3) := by decide +kernel
theorem dX5_odds_120 : decode cX5_odds 120 = .ok (.lreturn, 1) := by decide +kernel
def b_X5_odds_75 (kc75 : Int32 → Int32 → Int32 → Int32 → Int32 → Int64 → Int32 → GM → Option (Int64 × GM)) (x1 : Int32) (x2 : Int32) (x3 : Int32) (x4 : Int32) (x5 : Int32) (x7 : Int64) (x9 : Int32) (σ : GM) : Option (Int64 × GM) :=
  if x2 ≤ x9 then (bnd (f_X5_lowest x7 x2.toInt64 x5 σ) fun q4 => some (q4.1, q4.2)) else (bnd (f_X5_tales (x1 + x9) x3 σ) fun q5 => if x4 < q5.1 then (bnd (some (x7 + (0 : Int64))) fun w6 => kc75 x1 x2 x3 x4 x5 w6 (x9 + (1 : Int32)) q5.2) else (bnd (some (x7 + (1 : Int64))) fun w7 => kc75 x1 x2 x3 x4 x5 w7 (x9 + (1 : Int32)) q5.2))
theorem vb_X5_odds_75 {g : Gt} {ad : Nat → Nat} (z : Zt) (kc75 : Int32 → Int32 → Int32 → Int32 → Int32 → Int64 → Int32 → GM → Option (Int64 × GM)) (hkc75 : ∀ (x1 : Int32) (x2 : Int32) (x3 : Int32) (x4 : Int32) (x5 : Int32) (x7 : Int64) (x9 : Int32) (σ : GM), V g (LM ad) 9 RX5 cX5_odds 10 (some .long) (wM g ad) iL z (kc75 x1 x2 x3 x4 x5 x7 x9 σ) σ 75 [(0, .ref (aMo ad)), (1, .int x1), (2, .int x2), (3, .int x3), (4, .int x4), (5, .int x5), (7, .long x7), (9, .int x9)] []) (x1 : Int32) (x2 : Int32) (x3 : Int32) (x4 : Int32) (x5 : Int32) (x7 : Int64) (x9 : Int32) (σ : GM) : V g (LM ad) 9 RX5 cX5_odds 10 (some .long) (wM g ad) iL z (b_X5_odds_75 kc75 x1 x2 x3 x4 x5 x7 x9 σ) σ 75 [(0, .ref (aMo ad)), (1, .int x1), (2, .int x2), (3, .int x3), (4, .int x4), (5, .int x5), (7, .long x7), (9, .int x9)] [] := by
  unfold b_X5_odds_75
  refine v_iload (pc := 75) (i := 9) dX5_odds_75 rfl ?_
  refine v_iload_n (pc := 77) (i := 2) dX5_odds_77 rfl rfl ?_
  refine v_icmp_ge (pc := 78) (tgt := 111) dX5_odds_78 rfl ?_ ?_
  · refine v_lload (pc := 111) (i := 7) dX5_odds_111 rfl ?_
    refine v_iload_n (pc := 113) (i := 2) dX5_odds_113 rfl rfl ?_
    refine v_i2l (pc := 114) dX5_odds_114 ?_
    refine v_iload (pc := 115) (i := 5) dX5_odds_115 rfl ?_
    refine v_callSl (pc := 117) (av := [.long x7, .long x2.toInt64, .int x5]) (rest := []) (ct_X5_lowest x7 x2.toInt64 x5) mi_X5_lowest q_1056 (by decide) rfl rfl (Nat.le_of_ble_eq_true rfl) dX5_odds_117 (fun q4 => ?_)
    exact v_lret (pc := 120) dX5_odds_120
  · refine v_lload (pc := 81) (i := 7) dX5_odds_81 rfl ?_
    refine v_aload_n (pc := 83) (i := 0) dX5_odds_83 rfl rfl ?_
    refine v_iload_n (pc := 84) (i := 1) dX5_odds_84 rfl rfl ?_
    refine v_iload (pc := 85) (i := 9) dX5_odds_85 rfl ?_
    refine v_iadd (pc := 87) dX5_odds_87 ?_
    refine v_iload_n (pc := 88) (i := 3) dX5_odds_88 rfl rfl ?_
    refine v_callVi (pc := 89) rcX5 (As := [.int (x1 + x9), .int x3]) (rest := [.long x7]) (ct_X5_tales (x1 + x9) x3) mi_X5_tales q_1104 (by decide) rfl rfl (Nat.le_of_ble_eq_true rfl) dX5_odds_89 (fun q5 => ?_)
    refine v_iload (pc := 92) (i := 4) dX5_odds_92 rfl ?_
    refine v_icmp_gt (pc := 94) (tgt := 101) dX5_odds_94 rfl ?_ ?_
    · refine v_lconst (pc := 101) dX5_odds_101 lc_0 ?_
      refine v_ladd (pc := 102) dX5_odds_102 ?_
      refine v_nml (fun w6 => ?_)
      refine v_lstore (pc := 103) (lv' := [(7, .long w6), (0, .ref (aMo ad)), (1, .int x1), (2, .int x2), (3, .int x3), (4, .int x4), (5, .int x5), (9, .int x9)]) (i := 7) dX5_odds_103 (by decide) rfl ?_
      refine v_iinc (pc := 105) (lv' := [(9, .int (x9 + (1 : Int32))), (7, .long w6), (0, .ref (aMo ad)), (1, .int x1), (2, .int x2), (3, .int x3), (4, .int x4), (5, .int x5)]) (i := 9) dX5_odds_105 rfl ic_1 (by decide) rfl ?_
      refine v_goto (pc := 108) (tgt := 75) dX5_odds_108 rfl ?_
      exact v_sub [2, 3, 4, 5, 6, 7, 1, 0] rfl (hkc75 x1 x2 x3 x4 x5 w6 (x9 + (1 : Int32)) q5.2)
    · refine v_lconst (pc := 97) dX5_odds_97 lc_1 ?_
      refine v_goto (pc := 98) (tgt := 102) dX5_odds_98 rfl ?_
      refine v_ladd (pc := 102) dX5_odds_102 ?_
      refine v_nml (fun w7 => ?_)
      refine v_lstore (pc := 103) (lv' := [(7, .long w7), (0, .ref (aMo ad)), (1, .int x1), (2, .int x2), (3, .int x3), (4, .int x4), (5, .int x5), (9, .int x9)]) (i := 7) dX5_odds_103 (by decide) rfl ?_
      refine v_iinc (pc := 105) (lv' := [(9, .int (x9 + (1 : Int32))), (7, .long w7), (0, .ref (aMo ad)), (1, .int x1), (2, .int x2), (3, .int x3), (4, .int x4), (5, .int x5)]) (i := 9) dX5_odds_105 rfl ic_1 (by decide) rfl ?_
      refine v_goto (pc := 108) (tgt := 75) dX5_odds_108 rfl ?_
      exact v_sub [2, 3, 4, 5, 6, 7, 1, 0] rfl (hkc75 x1 x2 x3 x4 x5 w7 (x9 + (1 : Int32)) q5.2)
def k_X5_odds_75 : Nat → Int32 → Int32 → Int32 → Int32 → Int32 → Int64 → Int32 → GM → Option (Int64 × GM)
  | 0 => fun _ _ _ _ _ _ _ _ => none
  | n + 1 => b_X5_odds_75 (k_X5_odds_75 n)
theorem vk_X5_odds_75 {g : Gt} {ad : Nat → Nat} (z : Zt) : ∀ (n : Nat) (x1 : Int32) (x2 : Int32) (x3 : Int32) (x4 : Int32) (x5 : Int32) (x7 : Int64) (x9 : Int32) (σ : GM), V g (LM ad) 9 RX5 cX5_odds 10 (some .long) (wM g ad) iL z (k_X5_odds_75 n x1 x2 x3 x4 x5 x7 x9 σ) σ 75 [(0, .ref (aMo ad)), (1, .int x1), (2, .int x2), (3, .int x3), (4, .int x4), (5, .int x5), (7, .long x7), (9, .int x9)] [] := by
  intro n
  induction n with
  | zero => intros; exact v_eq rfl v_none
  | succ n ih =>
    intro x1 x2 x3 x4 x5 x7 x9 σ
    exact v_eq rfl (vb_X5_odds_75 z _ ih x1 x2 x3 x4 x5 x7 x9 σ)
def b_X5_odds_37 (x1 : Int32) (x2 : Int32) (x3 : Int32) (x4 : Int32) (x5 : Int32) (xs0 : Int32) (σ : GM) : Option (Int64 × GM) :=
  if xs0 = 0 then (some ((-4611686018427387904 : Int64), σ)) else (bnd (f_X5_in x4 (0 : Int32) (6 : Int32) σ) fun q2 => if q2.1 = 0 then (some ((-4611686018427387904 : Int64), q2.2)) else (bnd (f_X5_in x5 (0 : Int32) (1 : Int32) q2.2) fun q3 => if q3.1 ≠ 0 then (k_X5_odds_75 FU x1 x2 x3 x4 x5 (0 : Int64) (0 : Int32) q3.2) else (some ((-4611686018427387904 : Int64), q3.2))))
theorem vb_X5_odds_37 {g : Gt} {ad : Nat → Nat} (z : Zt) (x1 : Int32) (x2 : Int32) (x3 : Int32) (x4 : Int32) (x5 : Int32) (xs0 : Int32) (σ : GM) : V g (LM ad) 9 RX5 cX5_odds 10 (some .long) (wM g ad) iL z (b_X5_odds_37 x1 x2 x3 x4 x5 xs0 σ) σ 37 [(0, .ref (aMo ad)), (1, .int x1), (2, .int x2), (3, .int x3), (4, .int x4), (5, .int x5)] [.int xs0] := by
  unfold b_X5_odds_37
  refine v_istore (pc := 37) (lv' := [(6, .int xs0), (0, .ref (aMo ad)), (1, .int x1), (2, .int x2), (3, .int x3), (4, .int x4), (5, .int x5)]) (i := 6) dX5_odds_37 (by decide) rfl ?_
  refine v_iload (pc := 39) (i := 6) dX5_odds_39 rfl ?_
  refine v_if_eq (pc := 41) (tgt := 65) dX5_odds_41 rfl ?_ ?_
  · refine v_ldc2 (pc := 65) dX5_odds_65 q_1023 ?_
    exact v_lret (pc := 68) dX5_odds_68
  · refine v_iload (pc := 44) (i := 4) dX5_odds_44 rfl ?_
    refine v_iconst (pc := 46) dX5_odds_46 ic_0 ?_
    refine v_bipush (pc := 47) dX5_odds_47 bp_6 ?_
    refine v_callSi (pc := 49) (av := [.int x4, .int (0 : Int32), .int (6 : Int32)]) (rest := []) (ct_X5_in x4 (0 : Int32) (6 : Int32)) mi_X5_in q_715 (by decide) rfl rfl (Nat.le_of_ble_eq_true rfl) dX5_odds_49 (fun q2 => ?_)
    refine v_if_eq (pc := 52) (tgt := 65) dX5_odds_52 rfl ?_ ?_
    · refine v_ldc2 (pc := 65) dX5_odds_65 q_1023 ?_
      exact v_lret (pc := 68) dX5_odds_68
    · refine v_iload (pc := 55) (i := 5) dX5_odds_55 rfl ?_
      refine v_iconst (pc := 57) dX5_odds_57 ic_0 ?_
      refine v_iconst (pc := 58) dX5_odds_58 ic_1 ?_
      refine v_callSi (pc := 59) (av := [.int x5, .int (0 : Int32), .int (1 : Int32)]) (rest := []) (ct_X5_in x5 (0 : Int32) (1 : Int32)) mi_X5_in q_715 (by decide) rfl rfl (Nat.le_of_ble_eq_true rfl) dX5_odds_59 (fun q3 => ?_)
      refine v_if_ne (pc := 62) (tgt := 69) dX5_odds_62 rfl ?_ ?_
      · refine v_lconst (pc := 69) dX5_odds_69 lc_0 ?_
        refine v_lstore (pc := 70) (lv' := [(7, .long (0 : Int64)), (6, .int xs0), (0, .ref (aMo ad)), (1, .int x1), (2, .int x2), (3, .int x3), (4, .int x4), (5, .int x5)]) (i := 7) dX5_odds_70 (by decide) rfl ?_
        refine v_iconst (pc := 72) dX5_odds_72 ic_0 ?_
        refine v_istore (pc := 73) (lv' := [(9, .int (0 : Int32)), (7, .long (0 : Int64)), (6, .int xs0), (0, .ref (aMo ad)), (1, .int x1), (2, .int x2), (3, .int x3), (4, .int x4), (5, .int x5)]) (i := 9) dX5_odds_73 (by decide) rfl ?_
        exact v_sub [3, 4, 5, 6, 7, 8, 1, 0] rfl (vk_X5_odds_75 z FU x1 x2 x3 x4 x5 (0 : Int64) (0 : Int32) q3.2)
      · refine v_ldc2 (pc := 65) dX5_odds_65 q_1023 ?_
        exact v_lret (pc := 68) dX5_odds_68
def f_X5_odds (x1 : Int32) (x2 : Int32) (x3 : Int32) (x4 : Int32) (x5 : Int32) (σ : GM) : Option (Int64 × GM) :=
  bnd (f_X5_in x1 (0 : Int32) (99999 : Int32) σ) fun q1 => if q1.1 = 0 then (b_X5_odds_37 x1 x2 x3 x4 x5 (0 : Int32) q1.2) else (bnd (f_X5_in x2 (1 : Int32) (40 : Int32) q1.2) fun q8 => if q8.1 = 0 then (b_X5_odds_37 x1 x2 x3 x4 x5 (0 : Int32) q8.2) else (bnd (f_X5_in x3 (-99 : Int32) (99 : Int32) q8.2) fun q9 => if q9.1 = 0 then (b_X5_odds_37 x1 x2 x3 x4 x5 (0 : Int32) q9.2) else (b_X5_odds_37 x1 x2 x3 x4 x5 (1 : Int32) q9.2)))
theorem vf_X5_odds {g : Gt} {ad : Nat → Nat} (z : Zt) (x1 : Int32) (x2 : Int32) (x3 : Int32) (x4 : Int32) (x5 : Int32) (σ : GM) : V g (LM ad) 9 RX5 cX5_odds 10 (some .long) (wM g ad) iL z (f_X5_odds x1 x2 x3 x4 x5 σ) σ 0 [(0, .ref (aMo ad)), (1, .int x1), (2, .int x2), (3, .int x3), (4, .int x4), (5, .int x5)] [] := by
  unfold f_X5_odds
  refine v_iload_n (pc := 0) (i := 1) dX5_odds_0 rfl rfl ?_
  refine v_iconst (pc := 1) dX5_odds_1 ic_0 ?_
  refine v_ldcw (pc := 2) dX5_odds_2 q_1103 ?_
  refine v_callSi (pc := 5) (av := [.int x1, .int (0 : Int32), .int (99999 : Int32)]) (rest := []) (ct_X5_in x1 (0 : Int32) (99999 : Int32)) mi_X5_in q_715 (by decide) rfl rfl (Nat.le_of_ble_eq_true rfl) dX5_odds_5 (fun q1 => ?_)
  refine v_if_eq (pc := 8) (tgt := 36) dX5_odds_8 rfl ?_ ?_
  · refine v_iconst (pc := 36) dX5_odds_36 ic_0 ?_
    exact v_sub [0, 1, 2, 3, 4, 5] rfl (vb_X5_odds_37 z x1 x2 x3 x4 x5 (0 : Int32) q1.2)
  · refine v_iload_n (pc := 11) (i := 2) dX5_odds_11 rfl rfl ?_
    refine v_iconst (pc := 12) dX5_odds_12 ic_1 ?_
    refine v_bipush (pc := 13) dX5_odds_13 bp_40 ?_
    refine v_callSi (pc := 15) (av := [.int x2, .int (1 : Int32), .int (40 : Int32)]) (rest := []) (ct_X5_in x2 (1 : Int32) (40 : Int32)) mi_X5_in q_715 (by decide) rfl rfl (Nat.le_of_ble_eq_true rfl) dX5_odds_15 (fun q8 => ?_)
    refine v_if_eq (pc := 18) (tgt := 36) dX5_odds_18 rfl ?_ ?_
    · refine v_iconst (pc := 36) dX5_odds_36 ic_0 ?_
      exact v_sub [0, 1, 2, 3, 4, 5] rfl (vb_X5_odds_37 z x1 x2 x3 x4 x5 (0 : Int32) q8.2)
    · refine v_iload_n (pc := 21) (i := 3) dX5_odds_21 rfl rfl ?_
      refine v_bipush (pc := 22) dX5_odds_22 bp_m99 ?_
      refine v_bipush (pc := 24) dX5_odds_24 bp_99 ?_
      refine v_callSi (pc := 26) (av := [.int x3, .int (-99 : Int32), .int (99 : Int32)]) (rest := []) (ct_X5_in x3 (-99 : Int32) (99 : Int32)) mi_X5_in q_715 (by decide) rfl rfl (Nat.le_of_ble_eq_true rfl) dX5_odds_26 (fun q9 => ?_)
      refine v_if_eq (pc := 29) (tgt := 36) dX5_odds_29 rfl ?_ ?_
      · refine v_iconst (pc := 36) dX5_odds_36 ic_0 ?_
        exact v_sub [0, 1, 2, 3, 4, 5] rfl (vb_X5_odds_37 z x1 x2 x3 x4 x5 (0 : Int32) q9.2)
      · refine v_iconst (pc := 32) dX5_odds_32 ic_1 ?_
        refine v_goto (pc := 33) (tgt := 37) dX5_odds_33 rfl ?_
        exact v_sub [0, 1, 2, 3, 4, 5] rfl (vb_X5_odds_37 z x1 x2 x3 x4 x5 (1 : Int32) q9.2)
theorem ct_X5_odds {g : Gt} {ad : Nat → Nat} (x1 : Int32) (x2 : Int32) (x3 : Int32) (x4 : Int32) (x5 : Int32) : CT g (LM ad) yX5_odds cX5_odds 10 (some .long) 9 [.ref (aMo ad), .int x1, .int x2, .int x3, .int x4, .int x5] iL (wM g ad) (f_X5_odds x1 x2 x3 x4 x5) :=
  ct_of_V (own := RX5) (lv0 := [(0, .ref (aMo ad)), (1, .int x1), (2, .int x2), (3, .int x3), (4, .int x4), (5, .int x5)]) (by decide +kernel) rfl (Nat.le_of_ble_eq_true rfl) rfl (fun z σ => vf_X5_odds z x1 x2 x3 x4 x5 σ)
-- LighthouseLiedToModel.image
theorem dX5_image_0 : decode cX5_image 0 = .ok (.aload_n 0, 1) := by decide +kernel
theorem dX5_image_1 : decode cX5_image 1 = .ok (.iconst 1, 1) := by decide +kernel
theorem dX5_image_2 : decode cX5_image 2 = .ok (.putfield 270, 3) := by decide +kernel
theorem dX5_image_5 : decode cX5_image 5 = .ok (.iconst 0, 1) := by decide +kernel
theorem dX5_image_6 : decode cX5_image 6 = .ok (.istore_n 1, 1) := by decide +kernel
theorem dX5_image_7 : decode cX5_image 7 = .ok (.iload_n 1, 1) := by decide +kernel
theorem dX5_image_8 : decode cX5_image 8 = .ok (.bipush 36, 2) := by decide +kernel
theorem dX5_image_10 : decode cX5_image 10 = .ok (.if_icmp .ge 21, 3) := by decide +kernel
theorem dX5_image_13 : decode cX5_image 13 = .ok (.aload_n 0, 1) := by decide +kernel
theorem dX5_image_14 : decode cX5_image 14 = .ok (.getfield 37, 3) := by decide +kernel
theorem dX5_image_17 : decode cX5_image 17 = .ok (.iload_n 1, 1) := by decide +kernel
theorem dX5_image_18 : decode cX5_image 18 = .ok (.aload_n 0, 1) := by decide +kernel
theorem dX5_image_19 : decode cX5_image 19 = .ok (.getfield 25, 3) := by decide +kernel
theorem dX5_image_22 : decode cX5_image 22 = .ok (.iload_n 1, 1) := by decide +kernel
theorem dX5_image_23 : decode cX5_image 23 = .ok (.iaload, 1) := by decide +kernel
theorem dX5_image_24 : decode cX5_image 24 = .ok (.iastore, 1) := by decide +kernel
theorem dX5_image_25 : decode cX5_image 25 = .ok (.iinc 1 1, 3) := by decide +kernel
theorem dX5_image_28 : decode cX5_image 28 = .ok (.goto (-21), 3) := by decide +kernel
theorem dX5_image_31 : decode cX5_image 31 = .ok (.iconst 0, 1) := by decide +kernel
theorem dX5_image_32 : decode cX5_image 32 = .ok (.istore_n 1, 1) := by decide +kernel
theorem dX5_image_33 : decode cX5_image 33 = .ok (.iload_n 1, 1) := by decide +kernel
theorem dX5_image_34 : decode cX5_image 34 = .ok (.bipush 6, 2) := by decide +kernel
theorem dX5_image_36 : decode cX5_image 36 = .ok (.if_icmp .ge 54, 3) := by decide +kernel
theorem dX5_image_39 : decode cX5_image 39 = .ok (.aload_n 0, 1) := by decide +kernel
theorem dX5_image_40 : decode cX5_image 40 = .ok (.getfield 37, 3) := by decide +kernel
theorem dX5_image_43 : decode cX5_image 43 = .ok (.bipush 36, 2) := by decide +kernel
theorem dX5_image_45 : decode cX5_image 45 = .ok (.iload_n 1, 1) := by decide +kernel
theorem dX5_image_46 : decode cX5_image 46 = .ok (.iadd, 1) := by decide +kernel
theorem dX5_image_47 : decode cX5_image 47 = .ok (.aload_n 0, 1) := by decide +kernel
theorem dX5_image_48 : decode cX5_image 48 = .ok (.getfield 16, 3) := by decide +kernel
theorem dX5_image_51 : decode cX5_image 51 = .ok (.iload_n 1, 1) := by decide +kernel
theorem dX5_image_52 : decode cX5_image 52 = .ok (.iaload, 1) := by decide +kernel
theorem dX5_image_53 : decode cX5_image 53 = .ok (.iastore, 1) := by decide +kernel
theorem dX5_image_54 : decode cX5_image 54 = .ok (.aload_n 0, 1) := by decide +kernel
theorem dX5_image_55 : decode cX5_image 55 = .ok (.getfield 37, 3) := by decide +kernel
theorem dX5_image_58 : decode cX5_image 58 = .ok (.bipush 42, 2) := by decide +kernel
theorem dX5_image_60 : decode cX5_image 60 = .ok (.iload_n 1, 1) := by decide +kernel
theorem dX5_image_61 : decode cX5_image 61 = .ok (.iadd, 1) := by decide +kernel
theorem dX5_image_62 : decode cX5_image 62 = .ok (.aload_n 0, 1) := by decide +kernel
theorem dX5_image_63 : decode cX5_image 63 = .ok (.getfield 22, 3) := by decide +kernel
theorem dX5_image_66 : decode cX5_image 66 = .ok (.iload_n 1, 1) := by decide +kernel
theorem dX5_image_67 : decode cX5_image 67 = .ok (.iaload, 1) := by decide +kernel
theorem dX5_image_68 : decode cX5_image 68 = .ok (.iastore, 1) := by decide +kernel
theorem dX5_image_69 : decode cX5_image 69 = .ok (.aload_n 0, 1) := by decide +kernel
theorem dX5_image_70 : decode cX5_image 70 = .ok (.getfield 37, 3) := by decide +kernel
theorem dX5_image_73 : decode cX5_image 73 = .ok (.bipush 48, 2) := by decide +kernel
theorem dX5_image_75 : decode cX5_image 75 = .ok (.iload_n 1, 1) := by decide +kernel
theorem dX5_image_76 : decode cX5_image 76 = .ok (.iadd, 1) := by decide +kernel
theorem dX5_image_77 : decode cX5_image 77 = .ok (.aload_n 0, 1) := by decide +kernel
theorem dX5_image_78 : decode cX5_image 78 = .ok (.getfield 19, 3) := by decide +kernel
theorem dX5_image_81 : decode cX5_image 81 = .ok (.iload_n 1, 1) := by decide +kernel
theorem dX5_image_82 : decode cX5_image 82 = .ok (.iaload, 1) := by decide +kernel
theorem dX5_image_83 : decode cX5_image 83 = .ok (.iastore, 1) := by decide +kernel
theorem dX5_image_84 : decode cX5_image 84 = .ok (.iinc 1 1, 3) := by decide +kernel
theorem dX5_image_87 : decode cX5_image 87 = .ok (.goto (-54), 3) := by decide +kernel
theorem dX5_image_90 : decode cX5_image 90 = .ok (.aload_n 0, 1) := by decide +kernel
theorem dX5_image_91 : decode cX5_image 91 = .ok (.aload_n 0, 1) := by decide +kernel
theorem dX5_image_92 : decode cX5_image 92 = .ok (.getfield 85, 3) := by decide +kernel
theorem dX5_image_95 : decode cX5_image 95 = .ok (.putfield 274, 3) := by decide +kernel
theorem dX5_image_98 : decode cX5_image 98 = .ok (.aload_n 0, 1) := by decide +kernel
theorem dX5_image_99 : decode cX5_image 99 = .ok (.getfield 40, 3) := by decide +kernel
theorem dX5_image_102 : decode cX5_image 102 = .ok (.iconst 0, 1) := by decide +kernel
theorem dX5_image_103 : decode cX5_image 103 = .ok (.aload_n 0, 1) := by decide +kernel
theorem dX5_image_104 : decode cX5_image 104 = .ok (.getfield 82, 3) := by decide +kernel
theorem dX5_image_107 : decode cX5_image 107 = .ok (.iastore, 1) := by decide +kernel
theorem dX5_image_108 : decode cX5_image 108 = .ok (.aload_n 0, 1) := by decide +kernel
theorem dX5_image_109 : decode cX5_image 109 = .ok (.getfield 40, 3) := by decide +kernel
theorem dX5_image_112 : decode cX5_image 112 = .ok (.iconst 1, 1) := by decide +kernel
theorem dX5_image_113 : decode cX5_image 113 = .ok (.aload_n 0, 1) := by decide +kernel
theorem dX5_image_114 : decode cX5_image 114 = .ok (.getfield 100, 3) := by decide +kernel
theorem dX5_image_117 : decode cX5_image 117 = .ok (.iastore, 1) := by decide +kernel
theorem dX5_image_118 : decode cX5_image 118 = .ok (.aload_n 0, 1) := by decide +kernel
theorem dX5_image_119 : decode cX5_image 119 = .ok (.getfield 40, 3) := by decide +kernel
theorem dX5_image_122 : decode cX5_image 122 = .ok (.iconst 2, 1) := by decide +kernel
theorem dX5_image_123 : decode cX5_image 123 = .ok (.aload_n 0, 1) := by decide +kernel
theorem dX5_image_124 : decode cX5_image 124 = .ok (.getfield 103, 3) := by decide +kernel
theorem dX5_image_127 : decode cX5_image 127 = .ok (.iastore, 1) := by decide +kernel
theorem dX5_image_128 : decode cX5_image 128 = .ok (.aload_n 0, 1) := by decide +kernel
theorem dX5_image_129 : decode cX5_image 129 = .ok (.getfield 40, 3) := by decide +kernel
theorem dX5_image_132 : decode cX5_image 132 = .ok (.iconst 3, 1) := by decide +kernel
theorem dX5_image_133 : decode cX5_image 133 = .ok (.aload_n 0, 1) := by decide +kernel
theorem dX5_image_134 : decode cX5_image 134 = .ok (.getfield 112, 3) := by decide +kernel
theorem dX5_image_137 : decode cX5_image 137 = .ok (.iastore, 1) := by decide +kernel
theorem dX5_image_138 : decode cX5_image 138 = .ok (.aload_n 0, 1) := by decide +kernel
theorem dX5_image_139 : decode cX5_image 139 = .ok (.getfield 82, 3) := by decide +kernel
theorem dX5_image_142 : decode cX5_image 142 = .ok (.ireturn, 1) := by decide +kernel
def b_X5_image_33 (kc33 : Int32 → GM → Option (Int32 × GM)) (x1 : Int32) (σ : GM) : Option (Int32 × GM) :=
  if (6 : Int32) ≤ x1 then (bnd (some (tL σ 1 (mL σ 0))) fun σ2 => grd (0 : Int32) 4 (bnd (some (tA σ2 10 (0 : Int32).toNatClampNeg (mI σ2 0))) fun σ3 => grd (1 : Int32) 4 (bnd (some (tA σ3 10 (1 : Int32).toNatClampNeg (mI σ3 1))) fun σ4 => grd (2 : Int32) 4 (bnd (some (tA σ4 10 (2 : Int32).toNatClampNeg (mI σ4 2))) fun σ5 => grd (3 : Int32) 4 (bnd (some (tA σ5 10 (3 : Int32).toNatClampNeg (mI σ5 5))) fun σ6 => some ((mI σ6 0), σ6)))))) else (grd x1 6 (grd ((36 : Int32) + x1) 54 (bnd (some (tA σ 9 ((36 : Int32) + x1).toNatClampNeg (mA σ 2 x1.toNatClampNeg))) fun σ7 => grd x1 6 (grd ((42 : Int32) + x1) 54 (bnd (some (tA σ7 9 ((42 : Int32) + x1).toNatClampNeg (mA σ7 4 x1.toNatClampNeg))) fun σ8 => grd x1 6 (grd ((48 : Int32) + x1) 54 (bnd (some (tA σ8 9 ((48 : Int32) + x1).toNatClampNeg (mA σ8 3 x1.toNatClampNeg))) fun σ9 => kc33 (x1 + (1 : Int32)) σ9)))))))
theorem vb_X5_image_33 {g : Gt} {ad : Nat → Nat} (z : Zt) (kc33 : Int32 → GM → Option (Int32 × GM)) (hkc33 : ∀ (x1 : Int32) (σ : GM), V g (LM ad) 1 RX5 cX5_image 2 (some .int) (wM g ad) iI z (kc33 x1 σ) σ 33 [(0, .ref (aMo ad)), (1, .int x1)] []) (x1 : Int32) (σ : GM) : V g (LM ad) 1 RX5 cX5_image 2 (some .int) (wM g ad) iI z (b_X5_image_33 kc33 x1 σ) σ 33 [(0, .ref (aMo ad)), (1, .int x1)] [] := by
  unfold b_X5_image_33
  refine v_iload_n (pc := 33) (i := 1) dX5_image_33 rfl rfl ?_
  refine v_bipush (pc := 34) dX5_image_34 bp_6 ?_
  refine v_icmp_ge (pc := 36) (tgt := 90) dX5_image_36 rfl ?_ ?_
  · refine v_aload_n (pc := 90) (i := 0) dX5_image_90 rfl rfl ?_
    refine v_aload_n (pc := 91) (i := 0) dX5_image_91 rfl rfl ?_
    refine gX5_rocks (pc := 92) q_761 dX5_image_92 ?_
    refine pX5_imageRocks (pc := 95) q_773 dX5_image_95 ?_
    refine v_nms (fun σ2 => ?_)
    refine v_aload_n (pc := 98) (i := 0) dX5_image_98 rfl rfl ?_
    refine gX5_imageHeld (pc := 99) q_772 dX5_image_99 ?_
    refine v_iconst (pc := 102) dX5_image_102 ic_0 ?_
    refine v_aload_n (pc := 103) (i := 0) dX5_image_103 rfl rfl ?_
    refine gX5_ships (pc := 104) q_754 dX5_image_104 ?_
    refine sM_imageHeld (pc := 107) dX5_image_107 ?_
    refine v_nms (fun σ3 => ?_)
    refine v_aload_n (pc := 108) (i := 0) dX5_image_108 rfl rfl ?_
    refine gX5_imageHeld (pc := 109) q_772 dX5_image_109 ?_
    refine v_iconst (pc := 112) dX5_image_112 ic_1 ?_
    refine v_aload_n (pc := 113) (i := 0) dX5_image_113 rfl rfl ?_
    refine gX5_nights (pc := 114) q_762 dX5_image_114 ?_
    refine sM_imageHeld (pc := 117) dX5_image_117 ?_
    refine v_nms (fun σ4 => ?_)
    refine v_aload_n (pc := 118) (i := 0) dX5_image_118 rfl rfl ?_
    refine gX5_imageHeld (pc := 119) q_772 dX5_image_119 ?_
    refine v_iconst (pc := 122) dX5_image_122 ic_2 ?_
    refine v_aload_n (pc := 123) (i := 0) dX5_image_123 rfl rfl ?_
    refine gX5_doubt (pc := 124) q_763 dX5_image_124 ?_
    refine sM_imageHeld (pc := 127) dX5_image_127 ?_
    refine v_nms (fun σ5 => ?_)
    refine v_aload_n (pc := 128) (i := 0) dX5_image_128 rfl rfl ?_
    refine gX5_imageHeld (pc := 129) q_772 dX5_image_129 ?_
    refine v_iconst (pc := 132) dX5_image_132 ic_3 ?_
    refine v_aload_n (pc := 133) (i := 0) dX5_image_133 rfl rfl ?_
    refine gX5_rule (pc := 134) q_769 dX5_image_134 ?_
    refine sM_imageHeld (pc := 137) dX5_image_137 ?_
    refine v_nms (fun σ6 => ?_)
    refine v_aload_n (pc := 138) (i := 0) dX5_image_138 rfl rfl ?_
    refine gX5_ships (pc := 139) q_754 dX5_image_139 ?_
    exact v_iret (pc := 142) dX5_image_142
  · refine v_aload_n (pc := 39) (i := 0) dX5_image_39 rfl rfl ?_
    refine gX5_imageRows (pc := 40) q_771 dX5_image_40 ?_
    refine v_bipush (pc := 43) dX5_image_43 bp_36 ?_
    refine v_iload_n (pc := 45) (i := 1) dX5_image_45 rfl rfl ?_
    refine v_iadd (pc := 46) dX5_image_46 ?_
    refine v_aload_n (pc := 47) (i := 0) dX5_image_47 rfl rfl ?_
    refine gX5_onOf (pc := 48) q_757 dX5_image_48 ?_
    refine v_iload_n (pc := 51) (i := 1) dX5_image_51 rfl rfl ?_
    refine lM_onOf (pc := 52) dX5_image_52 ?_
    refine sM_imageRows (pc := 53) dX5_image_53 ?_
    refine v_nms (fun σ7 => ?_)
    refine v_aload_n (pc := 54) (i := 0) dX5_image_54 rfl rfl ?_
    refine gX5_imageRows (pc := 55) q_771 dX5_image_55 ?_
    refine v_bipush (pc := 58) dX5_image_58 bp_42 ?_
    refine v_iload_n (pc := 60) (i := 1) dX5_image_60 rfl rfl ?_
    refine v_iadd (pc := 61) dX5_image_61 ?_
    refine v_aload_n (pc := 62) (i := 0) dX5_image_62 rfl rfl ?_
    refine gX5_lost (pc := 63) q_759 dX5_image_63 ?_
    refine v_iload_n (pc := 66) (i := 1) dX5_image_66 rfl rfl ?_
    refine lM_lost (pc := 67) dX5_image_67 ?_
    refine sM_imageRows (pc := 68) dX5_image_68 ?_
    refine v_nms (fun σ8 => ?_)
    refine v_aload_n (pc := 69) (i := 0) dX5_image_69 rfl rfl ?_
    refine gX5_imageRows (pc := 70) q_771 dX5_image_70 ?_
    refine v_bipush (pc := 73) dX5_image_73 bp_48 ?_
    refine v_iload_n (pc := 75) (i := 1) dX5_image_75 rfl rfl ?_
    refine v_iadd (pc := 76) dX5_image_76 ?_
    refine v_aload_n (pc := 77) (i := 0) dX5_image_77 rfl rfl ?_
    refine gX5_draughtOf (pc := 78) q_758 dX5_image_78 ?_
    refine v_iload_n (pc := 81) (i := 1) dX5_image_81 rfl rfl ?_
    refine lM_draughtOf (pc := 82) dX5_image_82 ?_
    refine sM_imageRows (pc := 83) dX5_image_83 ?_
    refine v_nms (fun σ9 => ?_)
    refine v_iinc (pc := 84) (lv' := [(1, .int (x1 + (1 : Int32))), (0, .ref (aMo ad))]) (i := 1) dX5_image_84 rfl ic_1 (by decide) rfl ?_
    refine v_goto (pc := 87) (tgt := 33) dX5_image_87 rfl ?_
    exact v_sub [1, 0] rfl (hkc33 (x1 + (1 : Int32)) σ9)
def k_X5_image_33 : Nat → Int32 → GM → Option (Int32 × GM)
  | 0 => fun _ _ => none
  | n + 1 => b_X5_image_33 (k_X5_image_33 n)
theorem vk_X5_image_33 {g : Gt} {ad : Nat → Nat} (z : Zt) : ∀ (n : Nat) (x1 : Int32) (σ : GM), V g (LM ad) 1 RX5 cX5_image 2 (some .int) (wM g ad) iI z (k_X5_image_33 n x1 σ) σ 33 [(0, .ref (aMo ad)), (1, .int x1)] [] := by
  intro n
  induction n with
  | zero => intros; exact v_eq rfl v_none
  | succ n ih =>
    intro x1 σ
    exact v_eq rfl (vb_X5_image_33 z _ ih x1 σ)
def b_X5_image_7 (kc7 : Int32 → GM → Option (Int32 × GM)) (x1 : Int32) (σ : GM) : Option (Int32 × GM) :=
  if (36 : Int32) ≤ x1 then (k_X5_image_33 FU (0 : Int32) σ) else (grd x1 36 (grd x1 54 (bnd (some (tA σ 9 x1.toNatClampNeg (mA σ 5 x1.toNatClampNeg))) fun σ10 => kc7 (x1 + (1 : Int32)) σ10)))
theorem vb_X5_image_7 {g : Gt} {ad : Nat → Nat} (z : Zt) (kc7 : Int32 → GM → Option (Int32 × GM)) (hkc7 : ∀ (x1 : Int32) (σ : GM), V g (LM ad) 1 RX5 cX5_image 2 (some .int) (wM g ad) iI z (kc7 x1 σ) σ 7 [(0, .ref (aMo ad)), (1, .int x1)] []) (x1 : Int32) (σ : GM) : V g (LM ad) 1 RX5 cX5_image 2 (some .int) (wM g ad) iI z (b_X5_image_7 kc7 x1 σ) σ 7 [(0, .ref (aMo ad)), (1, .int x1)] [] := by
  unfold b_X5_image_7
  refine v_iload_n (pc := 7) (i := 1) dX5_image_7 rfl rfl ?_
  refine v_bipush (pc := 8) dX5_image_8 bp_36 ?_
  refine v_icmp_ge (pc := 10) (tgt := 31) dX5_image_10 rfl ?_ ?_
  · refine v_iconst (pc := 31) dX5_image_31 ic_0 ?_
    refine v_istore_n (pc := 32) (lv' := [(1, .int (0 : Int32)), (0, .ref (aMo ad))]) (i := 1) dX5_image_32 rfl (by decide) rfl ?_
    exact v_sub [1, 0] rfl (vk_X5_image_33 z FU (0 : Int32) σ)
  · refine v_aload_n (pc := 13) (i := 0) dX5_image_13 rfl rfl ?_
    refine gX5_imageRows (pc := 14) q_771 dX5_image_14 ?_
    refine v_iload_n (pc := 17) (i := 1) dX5_image_17 rfl rfl ?_
    refine v_aload_n (pc := 18) (i := 0) dX5_image_18 rfl rfl ?_
    refine gX5_beliefs (pc := 19) q_760 dX5_image_19 ?_
    refine v_iload_n (pc := 22) (i := 1) dX5_image_22 rfl rfl ?_
    refine lM_beliefs (pc := 23) dX5_image_23 ?_
    refine sM_imageRows (pc := 24) dX5_image_24 ?_
    refine v_nms (fun σ10 => ?_)
    refine v_iinc (pc := 25) (lv' := [(1, .int (x1 + (1 : Int32))), (0, .ref (aMo ad))]) (i := 1) dX5_image_25 rfl ic_1 (by decide) rfl ?_
    refine v_goto (pc := 28) (tgt := 7) dX5_image_28 rfl ?_
    exact v_sub [1, 0] rfl (hkc7 (x1 + (1 : Int32)) σ10)
def k_X5_image_7 : Nat → Int32 → GM → Option (Int32 × GM)
  | 0 => fun _ _ => none
  | n + 1 => b_X5_image_7 (k_X5_image_7 n)
theorem vk_X5_image_7 {g : Gt} {ad : Nat → Nat} (z : Zt) : ∀ (n : Nat) (x1 : Int32) (σ : GM), V g (LM ad) 1 RX5 cX5_image 2 (some .int) (wM g ad) iI z (k_X5_image_7 n x1 σ) σ 7 [(0, .ref (aMo ad)), (1, .int x1)] [] := by
  intro n
  induction n with
  | zero => intros; exact v_eq rfl v_none
  | succ n ih =>
    intro x1 σ
    exact v_eq rfl (vb_X5_image_7 z _ ih x1 σ)
def f_X5_image (σ : GM) : Option (Int32 × GM) :=
  bnd (some (tI σ 6 (1 : Int32))) fun σ1 => k_X5_image_7 FU (0 : Int32) σ1
theorem vf_X5_image {g : Gt} {ad : Nat → Nat} (z : Zt) (σ : GM) : V g (LM ad) 1 RX5 cX5_image 2 (some .int) (wM g ad) iI z (f_X5_image σ) σ 0 [(0, .ref (aMo ad))] [] := by
  unfold f_X5_image
  refine v_aload_n (pc := 0) (i := 0) dX5_image_0 rfl rfl ?_
  refine v_iconst (pc := 1) dX5_image_1 ic_1 ?_
  refine pX5_hasImage (pc := 2) rfl rfl q_770 dX5_image_2 ?_
  refine v_nms (fun σ1 => ?_)
  refine v_iconst (pc := 5) dX5_image_5 ic_0 ?_
  refine v_istore_n (pc := 6) (lv' := [(1, .int (0 : Int32)), (0, .ref (aMo ad))]) (i := 1) dX5_image_6 rfl (by decide) rfl ?_
  exact v_sub [1, 0] rfl (vk_X5_image_7 z FU (0 : Int32) σ1)
theorem ct_X5_image {g : Gt} {ad : Nat → Nat} : CT g (LM ad) yX5_image cX5_image 2 (some .int) 1 [.ref (aMo ad)] iI (wM g ad) (f_X5_image) :=
  ct_of_V (own := RX5) (lv0 := [(0, .ref (aMo ad))]) (by decide +kernel) rfl (Nat.le_of_ble_eq_true rfl) rfl (fun z σ => vf_X5_image z σ)
-- LighthouseLiedToModel.back
theorem dX5_back_0 : decode cX5_back 0 = .ok (.aload_n 0, 1) := by decide +kernel
theorem dX5_back_1 : decode cX5_back 1 = .ok (.getfield 270, 3) := by decide +kernel
theorem dX5_back_4 : decode cX5_back 4 = .ok (.ifCond .ne 6, 3) := by decide +kernel
theorem dX5_back_7 : decode cX5_back 7 = .ok (.bipush (-3), 2) := by decide +kernel
theorem dX5_back_9 : decode cX5_back 9 = .ok (.ireturn, 1) := by decide +kernel
theorem dX5_back_10 : decode cX5_back 10 = .ok (.iconst 0, 1) := by decide +kernel
theorem dX5_back_11 : decode cX5_back 11 = .ok (.istore_n 1, 1) := by decide +kernel
theorem dX5_back_12 : decode cX5_back 12 = .ok (.iload_n 1, 1) := by decide +kernel
theorem dX5_back_13 : decode cX5_back 13 = .ok (.bipush 36, 2) := by decide +kernel
theorem dX5_back_15 : decode cX5_back 15 = .ok (.if_icmp .ge 21, 3) := by decide +kernel
theorem dX5_back_18 : decode cX5_back 18 = .ok (.aload_n 0, 1) := by decide +kernel
theorem dX5_back_19 : decode cX5_back 19 = .ok (.getfield 25, 3) := by decide +kernel
theorem dX5_back_22 : decode cX5_back 22 = .ok (.iload_n 1, 1) := by decide +kernel
theorem dX5_back_23 : decode cX5_back 23 = .ok (.aload_n 0, 1) := by decide +kernel
theorem dX5_back_24 : decode cX5_back 24 = .ok (.getfield 37, 3) := by decide +kernel
theorem dX5_back_27 : decode cX5_back 27 = .ok (.iload_n 1, 1) := by decide +kernel
theorem dX5_back_28 : decode cX5_back 28 = .ok (.iaload, 1) := by decide +kernel
theorem dX5_back_29 : decode cX5_back 29 = .ok (.iastore, 1) := by decide +kernel
theorem dX5_back_30 : decode cX5_back 30 = .ok (.iinc 1 1, 3) := by decide +kernel
theorem dX5_back_33 : decode cX5_back 33 = .ok (.goto (-21), 3) := by decide +kernel
theorem dX5_back_36 : decode cX5_back 36 = .ok (.iconst 0, 1) := by decide +kernel
theorem dX5_back_37 : decode cX5_back 37 = .ok (.istore_n 1, 1) := by decide +kernel
theorem dX5_back_38 : decode cX5_back 38 = .ok (.iload_n 1, 1) := by decide +kernel
theorem dX5_back_39 : decode cX5_back 39 = .ok (.bipush 6, 2) := by decide +kernel
theorem dX5_back_41 : decode cX5_back 41 = .ok (.if_icmp .ge 54, 3) := by decide +kernel
theorem dX5_back_44 : decode cX5_back 44 = .ok (.aload_n 0, 1) := by decide +kernel
theorem dX5_back_45 : decode cX5_back 45 = .ok (.getfield 16, 3) := by decide +kernel
theorem dX5_back_48 : decode cX5_back 48 = .ok (.iload_n 1, 1) := by decide +kernel
theorem dX5_back_49 : decode cX5_back 49 = .ok (.aload_n 0, 1) := by decide +kernel
theorem dX5_back_50 : decode cX5_back 50 = .ok (.getfield 37, 3) := by decide +kernel
theorem dX5_back_53 : decode cX5_back 53 = .ok (.bipush 36, 2) := by decide +kernel
theorem dX5_back_55 : decode cX5_back 55 = .ok (.iload_n 1, 1) := by decide +kernel
theorem dX5_back_56 : decode cX5_back 56 = .ok (.iadd, 1) := by decide +kernel
theorem dX5_back_57 : decode cX5_back 57 = .ok (.iaload, 1) := by decide +kernel
theorem dX5_back_58 : decode cX5_back 58 = .ok (.iastore, 1) := by decide +kernel
theorem dX5_back_59 : decode cX5_back 59 = .ok (.aload_n 0, 1) := by decide +kernel
theorem dX5_back_60 : decode cX5_back 60 = .ok (.getfield 22, 3) := by decide +kernel
theorem dX5_back_63 : decode cX5_back 63 = .ok (.iload_n 1, 1) := by decide +kernel
theorem dX5_back_64 : decode cX5_back 64 = .ok (.aload_n 0, 1) := by decide +kernel
theorem dX5_back_65 : decode cX5_back 65 = .ok (.getfield 37, 3) := by decide +kernel
theorem dX5_back_68 : decode cX5_back 68 = .ok (.bipush 42, 2) := by decide +kernel
theorem dX5_back_70 : decode cX5_back 70 = .ok (.iload_n 1, 1) := by decide +kernel
theorem dX5_back_71 : decode cX5_back 71 = .ok (.iadd, 1) := by decide +kernel
theorem dX5_back_72 : decode cX5_back 72 = .ok (.iaload, 1) := by decide +kernel
theorem dX5_back_73 : decode cX5_back 73 = .ok (.iastore, 1) := by decide +kernel
theorem dX5_back_74 : decode cX5_back 74 = .ok (.aload_n 0, 1) := by decide +kernel
theorem dX5_back_75 : decode cX5_back 75 = .ok (.getfield 19, 3) := by decide +kernel
theorem dX5_back_78 : decode cX5_back 78 = .ok (.iload_n 1, 1) := by decide +kernel
theorem dX5_back_79 : decode cX5_back 79 = .ok (.aload_n 0, 1) := by decide +kernel
theorem dX5_back_80 : decode cX5_back 80 = .ok (.getfield 37, 3) := by decide +kernel
theorem dX5_back_83 : decode cX5_back 83 = .ok (.bipush 48, 2) := by decide +kernel
theorem dX5_back_85 : decode cX5_back 85 = .ok (.iload_n 1, 1) := by decide +kernel
theorem dX5_back_86 : decode cX5_back 86 = .ok (.iadd, 1) := by decide +kernel
theorem dX5_back_87 : decode cX5_back 87 = .ok (.iaload, 1) := by decide +kernel
theorem dX5_back_88 : decode cX5_back 88 = .ok (.iastore, 1) := by decide +kernel
theorem dX5_back_89 : decode cX5_back 89 = .ok (.iinc 1 1, 3) := by decide +kernel
theorem dX5_back_92 : decode cX5_back 92 = .ok (.goto (-54), 3) := by decide +kernel
theorem dX5_back_95 : decode cX5_back 95 = .ok (.aload_n 0, 1) := by decide +kernel
theorem dX5_back_96 : decode cX5_back 96 = .ok (.aload_n 0, 1) := by decide +kernel
theorem dX5_back_97 : decode cX5_back 97 = .ok (.getfield 274, 3) := by decide +kernel
theorem dX5_back_100 : decode cX5_back 100 = .ok (.putfield 85, 3) := by decide +kernel
theorem dX5_back_103 : decode cX5_back 103 = .ok (.aload_n 0, 1) := by decide +kernel
theorem dX5_back_104 : decode cX5_back 104 = .ok (.aload_n 0, 1) := by decide +kernel
theorem dX5_back_105 : decode cX5_back 105 = .ok (.getfield 40, 3) := by decide +kernel
theorem dX5_back_108 : decode cX5_back 108 = .ok (.iconst 0, 1) := by decide +kernel
theorem dX5_back_109 : decode cX5_back 109 = .ok (.iaload, 1) := by decide +kernel
theorem dX5_back_110 : decode cX5_back 110 = .ok (.putfield 82, 3) := by decide +kernel
theorem dX5_back_113 : decode cX5_back 113 = .ok (.aload_n 0, 1) := by decide +kernel
theorem dX5_back_114 : decode cX5_back 114 = .ok (.aload_n 0, 1) := by decide +kernel
theorem dX5_back_115 : decode cX5_back 115 = .ok (.getfield 40, 3) := by decide +kernel
theorem dX5_back_118 : decode cX5_back 118 = .ok (.iconst 1, 1) := by decide +kernel
theorem dX5_back_119 : decode cX5_back 119 = .ok (.iaload, 1) := by decide +kernel
theorem dX5_back_120 : decode cX5_back 120 = .ok (.putfield 100, 3) := by decide +kernel
theorem dX5_back_123 : decode cX5_back 123 = .ok (.aload_n 0, 1) := by decide +kernel
theorem dX5_back_124 : decode cX5_back 124 = .ok (.aload_n 0, 1) := by decide +kernel
theorem dX5_back_125 : decode cX5_back 125 = .ok (.getfield 40, 3) := by decide +kernel
theorem dX5_back_128 : decode cX5_back 128 = .ok (.iconst 2, 1) := by decide +kernel
theorem dX5_back_129 : decode cX5_back 129 = .ok (.iaload, 1) := by decide +kernel
theorem dX5_back_130 : decode cX5_back 130 = .ok (.putfield 103, 3) := by decide +kernel
theorem dX5_back_133 : decode cX5_back 133 = .ok (.aload_n 0, 1) := by decide +kernel
theorem dX5_back_134 : decode cX5_back 134 = .ok (.aload_n 0, 1) := by decide +kernel
theorem dX5_back_135 : decode cX5_back 135 = .ok (.getfield 40, 3) := by decide +kernel
theorem dX5_back_138 : decode cX5_back 138 = .ok (.iconst 3, 1) := by decide +kernel
theorem dX5_back_139 : decode cX5_back 139 = .ok (.iaload, 1) := by decide +kernel
theorem dX5_back_140 : decode cX5_back 140 = .ok (.putfield 112, 3) := by decide +kernel
theorem dX5_back_143 : decode cX5_back 143 = .ok (.aload_n 0, 1) := by decide +kernel
theorem dX5_back_144 : decode cX5_back 144 = .ok (.getfield 82, 3) := by decide +kernel
theorem dX5_back_147 : decode cX5_back 147 = .ok (.ireturn, 1) := by decide +kernel
def b_X5_back_38 (kc38 : Int32 → GM → Option (Int32 × GM)) (x1 : Int32) (σ : GM) : Option (Int32 × GM) :=
  if (6 : Int32) ≤ x1 then (bnd (some (tL σ 0 (mL σ 1))) fun σ1 => grd (0 : Int32) 4 (bnd (some (tI σ1 0 (mA σ1 10 (0 : Int32).toNatClampNeg))) fun σ2 => grd (1 : Int32) 4 (bnd (some (tI σ2 1 (mA σ2 10 (1 : Int32).toNatClampNeg))) fun σ3 => grd (2 : Int32) 4 (bnd (some (tI σ3 2 (mA σ3 10 (2 : Int32).toNatClampNeg))) fun σ4 => grd (3 : Int32) 4 (bnd (some (tI σ4 5 (mA σ4 10 (3 : Int32).toNatClampNeg))) fun σ5 => some ((mI σ5 0), σ5)))))) else (grd ((36 : Int32) + x1) 54 (grd x1 6 (bnd (some (tA σ 2 x1.toNatClampNeg (mA σ 9 ((36 : Int32) + x1).toNatClampNeg))) fun σ6 => grd ((42 : Int32) + x1) 54 (grd x1 6 (bnd (some (tA σ6 4 x1.toNatClampNeg (mA σ6 9 ((42 : Int32) + x1).toNatClampNeg))) fun σ7 => grd ((48 : Int32) + x1) 54 (grd x1 6 (bnd (some (tA σ7 3 x1.toNatClampNeg (mA σ7 9 ((48 : Int32) + x1).toNatClampNeg))) fun σ8 => kc38 (x1 + (1 : Int32)) σ8)))))))
theorem vb_X5_back_38 {g : Gt} {ad : Nat → Nat} (z : Zt) (kc38 : Int32 → GM → Option (Int32 × GM)) (hkc38 : ∀ (x1 : Int32) (σ : GM), V g (LM ad) 1 RX5 cX5_back 2 (some .int) (wM g ad) iI z (kc38 x1 σ) σ 38 [(0, .ref (aMo ad)), (1, .int x1)] []) (x1 : Int32) (σ : GM) : V g (LM ad) 1 RX5 cX5_back 2 (some .int) (wM g ad) iI z (b_X5_back_38 kc38 x1 σ) σ 38 [(0, .ref (aMo ad)), (1, .int x1)] [] := by
  unfold b_X5_back_38
  refine v_iload_n (pc := 38) (i := 1) dX5_back_38 rfl rfl ?_
  refine v_bipush (pc := 39) dX5_back_39 bp_6 ?_
  refine v_icmp_ge (pc := 41) (tgt := 95) dX5_back_41 rfl ?_ ?_
  · refine v_aload_n (pc := 95) (i := 0) dX5_back_95 rfl rfl ?_
    refine v_aload_n (pc := 96) (i := 0) dX5_back_96 rfl rfl ?_
    refine gX5_imageRocks (pc := 97) q_773 dX5_back_97 ?_
    refine pX5_rocks (pc := 100) q_761 dX5_back_100 ?_
    refine v_nms (fun σ1 => ?_)
    refine v_aload_n (pc := 103) (i := 0) dX5_back_103 rfl rfl ?_
    refine v_aload_n (pc := 104) (i := 0) dX5_back_104 rfl rfl ?_
    refine gX5_imageHeld (pc := 105) q_772 dX5_back_105 ?_
    refine v_iconst (pc := 108) dX5_back_108 ic_0 ?_
    refine lM_imageHeld (pc := 109) dX5_back_109 ?_
    refine pX5_ships (pc := 110) q_754 dX5_back_110 ?_
    refine v_nms (fun σ2 => ?_)
    refine v_aload_n (pc := 113) (i := 0) dX5_back_113 rfl rfl ?_
    refine v_aload_n (pc := 114) (i := 0) dX5_back_114 rfl rfl ?_
    refine gX5_imageHeld (pc := 115) q_772 dX5_back_115 ?_
    refine v_iconst (pc := 118) dX5_back_118 ic_1 ?_
    refine lM_imageHeld (pc := 119) dX5_back_119 ?_
    refine pX5_nights (pc := 120) q_762 dX5_back_120 ?_
    refine v_nms (fun σ3 => ?_)
    refine v_aload_n (pc := 123) (i := 0) dX5_back_123 rfl rfl ?_
    refine v_aload_n (pc := 124) (i := 0) dX5_back_124 rfl rfl ?_
    refine gX5_imageHeld (pc := 125) q_772 dX5_back_125 ?_
    refine v_iconst (pc := 128) dX5_back_128 ic_2 ?_
    refine lM_imageHeld (pc := 129) dX5_back_129 ?_
    refine pX5_doubt (pc := 130) q_763 dX5_back_130 ?_
    refine v_nms (fun σ4 => ?_)
    refine v_aload_n (pc := 133) (i := 0) dX5_back_133 rfl rfl ?_
    refine v_aload_n (pc := 134) (i := 0) dX5_back_134 rfl rfl ?_
    refine gX5_imageHeld (pc := 135) q_772 dX5_back_135 ?_
    refine v_iconst (pc := 138) dX5_back_138 ic_3 ?_
    refine lM_imageHeld (pc := 139) dX5_back_139 ?_
    refine pX5_rule (pc := 140) q_769 dX5_back_140 ?_
    refine v_nms (fun σ5 => ?_)
    refine v_aload_n (pc := 143) (i := 0) dX5_back_143 rfl rfl ?_
    refine gX5_ships (pc := 144) q_754 dX5_back_144 ?_
    exact v_iret (pc := 147) dX5_back_147
  · refine v_aload_n (pc := 44) (i := 0) dX5_back_44 rfl rfl ?_
    refine gX5_onOf (pc := 45) q_757 dX5_back_45 ?_
    refine v_iload_n (pc := 48) (i := 1) dX5_back_48 rfl rfl ?_
    refine v_aload_n (pc := 49) (i := 0) dX5_back_49 rfl rfl ?_
    refine gX5_imageRows (pc := 50) q_771 dX5_back_50 ?_
    refine v_bipush (pc := 53) dX5_back_53 bp_36 ?_
    refine v_iload_n (pc := 55) (i := 1) dX5_back_55 rfl rfl ?_
    refine v_iadd (pc := 56) dX5_back_56 ?_
    refine lM_imageRows (pc := 57) dX5_back_57 ?_
    refine sM_onOf (pc := 58) dX5_back_58 ?_
    refine v_nms (fun σ6 => ?_)
    refine v_aload_n (pc := 59) (i := 0) dX5_back_59 rfl rfl ?_
    refine gX5_lost (pc := 60) q_759 dX5_back_60 ?_
    refine v_iload_n (pc := 63) (i := 1) dX5_back_63 rfl rfl ?_
    refine v_aload_n (pc := 64) (i := 0) dX5_back_64 rfl rfl ?_
    refine gX5_imageRows (pc := 65) q_771 dX5_back_65 ?_
    refine v_bipush (pc := 68) dX5_back_68 bp_42 ?_
    refine v_iload_n (pc := 70) (i := 1) dX5_back_70 rfl rfl ?_
    refine v_iadd (pc := 71) dX5_back_71 ?_
    refine lM_imageRows (pc := 72) dX5_back_72 ?_
    refine sM_lost (pc := 73) dX5_back_73 ?_
    refine v_nms (fun σ7 => ?_)
    refine v_aload_n (pc := 74) (i := 0) dX5_back_74 rfl rfl ?_
    refine gX5_draughtOf (pc := 75) q_758 dX5_back_75 ?_
    refine v_iload_n (pc := 78) (i := 1) dX5_back_78 rfl rfl ?_
    refine v_aload_n (pc := 79) (i := 0) dX5_back_79 rfl rfl ?_
    refine gX5_imageRows (pc := 80) q_771 dX5_back_80 ?_
    refine v_bipush (pc := 83) dX5_back_83 bp_48 ?_
    refine v_iload_n (pc := 85) (i := 1) dX5_back_85 rfl rfl ?_
    refine v_iadd (pc := 86) dX5_back_86 ?_
    refine lM_imageRows (pc := 87) dX5_back_87 ?_
    refine sM_draughtOf (pc := 88) dX5_back_88 ?_
    refine v_nms (fun σ8 => ?_)
    refine v_iinc (pc := 89) (lv' := [(1, .int (x1 + (1 : Int32))), (0, .ref (aMo ad))]) (i := 1) dX5_back_89 rfl ic_1 (by decide) rfl ?_
    refine v_goto (pc := 92) (tgt := 38) dX5_back_92 rfl ?_
    exact v_sub [1, 0] rfl (hkc38 (x1 + (1 : Int32)) σ8)
def k_X5_back_38 : Nat → Int32 → GM → Option (Int32 × GM)
  | 0 => fun _ _ => none
  | n + 1 => b_X5_back_38 (k_X5_back_38 n)
theorem vk_X5_back_38 {g : Gt} {ad : Nat → Nat} (z : Zt) : ∀ (n : Nat) (x1 : Int32) (σ : GM), V g (LM ad) 1 RX5 cX5_back 2 (some .int) (wM g ad) iI z (k_X5_back_38 n x1 σ) σ 38 [(0, .ref (aMo ad)), (1, .int x1)] [] := by
  intro n
  induction n with
  | zero => intros; exact v_eq rfl v_none
  | succ n ih =>
    intro x1 σ
    exact v_eq rfl (vb_X5_back_38 z _ ih x1 σ)
def b_X5_back_12 (kc12 : Int32 → GM → Option (Int32 × GM)) (x1 : Int32) (σ : GM) : Option (Int32 × GM) :=
  if (36 : Int32) ≤ x1 then (k_X5_back_38 FU (0 : Int32) σ) else (grd x1 54 (grd x1 36 (bnd (some (tA σ 5 x1.toNatClampNeg (mA σ 9 x1.toNatClampNeg))) fun σ9 => kc12 (x1 + (1 : Int32)) σ9)))
theorem vb_X5_back_12 {g : Gt} {ad : Nat → Nat} (z : Zt) (kc12 : Int32 → GM → Option (Int32 × GM)) (hkc12 : ∀ (x1 : Int32) (σ : GM), V g (LM ad) 1 RX5 cX5_back 2 (some .int) (wM g ad) iI z (kc12 x1 σ) σ 12 [(0, .ref (aMo ad)), (1, .int x1)] []) (x1 : Int32) (σ : GM) : V g (LM ad) 1 RX5 cX5_back 2 (some .int) (wM g ad) iI z (b_X5_back_12 kc12 x1 σ) σ 12 [(0, .ref (aMo ad)), (1, .int x1)] [] := by
  unfold b_X5_back_12
  refine v_iload_n (pc := 12) (i := 1) dX5_back_12 rfl rfl ?_
  refine v_bipush (pc := 13) dX5_back_13 bp_36 ?_
  refine v_icmp_ge (pc := 15) (tgt := 36) dX5_back_15 rfl ?_ ?_
  · refine v_iconst (pc := 36) dX5_back_36 ic_0 ?_
    refine v_istore_n (pc := 37) (lv' := [(1, .int (0 : Int32)), (0, .ref (aMo ad))]) (i := 1) dX5_back_37 rfl (by decide) rfl ?_
    exact v_sub [1, 0] rfl (vk_X5_back_38 z FU (0 : Int32) σ)
  · refine v_aload_n (pc := 18) (i := 0) dX5_back_18 rfl rfl ?_
    refine gX5_beliefs (pc := 19) q_760 dX5_back_19 ?_
    refine v_iload_n (pc := 22) (i := 1) dX5_back_22 rfl rfl ?_
    refine v_aload_n (pc := 23) (i := 0) dX5_back_23 rfl rfl ?_
    refine gX5_imageRows (pc := 24) q_771 dX5_back_24 ?_
    refine v_iload_n (pc := 27) (i := 1) dX5_back_27 rfl rfl ?_
    refine lM_imageRows (pc := 28) dX5_back_28 ?_
    refine sM_beliefs (pc := 29) dX5_back_29 ?_
    refine v_nms (fun σ9 => ?_)
    refine v_iinc (pc := 30) (lv' := [(1, .int (x1 + (1 : Int32))), (0, .ref (aMo ad))]) (i := 1) dX5_back_30 rfl ic_1 (by decide) rfl ?_
    refine v_goto (pc := 33) (tgt := 12) dX5_back_33 rfl ?_
    exact v_sub [1, 0] rfl (hkc12 (x1 + (1 : Int32)) σ9)
def k_X5_back_12 : Nat → Int32 → GM → Option (Int32 × GM)
  | 0 => fun _ _ => none
  | n + 1 => b_X5_back_12 (k_X5_back_12 n)
theorem vk_X5_back_12 {g : Gt} {ad : Nat → Nat} (z : Zt) : ∀ (n : Nat) (x1 : Int32) (σ : GM), V g (LM ad) 1 RX5 cX5_back 2 (some .int) (wM g ad) iI z (k_X5_back_12 n x1 σ) σ 12 [(0, .ref (aMo ad)), (1, .int x1)] [] := by
  intro n
  induction n with
  | zero => intros; exact v_eq rfl v_none
  | succ n ih =>
    intro x1 σ
    exact v_eq rfl (vb_X5_back_12 z _ ih x1 σ)
def f_X5_back (σ : GM) : Option (Int32 × GM) :=
  if (mI σ 6) ≠ 0 then (k_X5_back_12 FU (0 : Int32) σ) else (some ((-3 : Int32), σ))
theorem vf_X5_back {g : Gt} {ad : Nat → Nat} (z : Zt) (σ : GM) : V g (LM ad) 1 RX5 cX5_back 2 (some .int) (wM g ad) iI z (f_X5_back σ) σ 0 [(0, .ref (aMo ad))] [] := by
  unfold f_X5_back
  refine v_aload_n (pc := 0) (i := 0) dX5_back_0 rfl rfl ?_
  refine gX5_hasImage (pc := 1) q_770 dX5_back_1 ?_
  refine v_if_ne (pc := 4) (tgt := 10) dX5_back_4 rfl ?_ ?_
  · refine v_iconst (pc := 10) dX5_back_10 ic_0 ?_
    refine v_istore_n (pc := 11) (lv' := [(1, .int (0 : Int32)), (0, .ref (aMo ad))]) (i := 1) dX5_back_11 rfl (by decide) rfl ?_
    exact v_sub [1, 0] rfl (vk_X5_back_12 z FU (0 : Int32) σ)
  · refine v_bipush (pc := 7) dX5_back_7 bp_m3 ?_
    exact v_iret (pc := 9) dX5_back_9
theorem ct_X5_back {g : Gt} {ad : Nat → Nat} : CT g (LM ad) yX5_back cX5_back 2 (some .int) 1 [.ref (aMo ad)] iI (wM g ad) (f_X5_back) :=
  ct_of_V (own := RX5) (lv0 := [(0, .ref (aMo ad))]) (by decide +kernel) rfl (Nat.le_of_ble_eq_true rfl) rfl (fun z σ => vf_X5_back z σ)
-- LighthouseLiedToModel.sheet
theorem dX5_sheet_0 : decode cX5_sheet 0 = .ok (.iload_n 1, 1) := by decide +kernel
theorem dX5_sheet_1 : decode cX5_sheet 1 = .ok (.iconst 0, 1) := by decide +kernel
theorem dX5_sheet_2 : decode cX5_sheet 2 = .ok (.iconst 3, 1) := by decide +kernel
theorem dX5_sheet_3 : decode cX5_sheet 3 = .ok (.invokestatic 78, 3) := by decide +kernel
theorem dX5_sheet_6 : decode cX5_sheet 6 = .ok (.ifCond .eq 23, 3) := by decide +kernel
theorem dX5_sheet_9 : decode cX5_sheet 9 = .ok (.iload_n 2, 1) := by decide +kernel
theorem dX5_sheet_10 : decode cX5_sheet 10 = .ok (.iconst (-1), 1) := by decide +kernel
theorem dX5_sheet_11 : decode cX5_sheet 11 = .ok (.iconst 2, 1) := by decide +kernel
theorem dX5_sheet_12 : decode cX5_sheet 12 = .ok (.invokestatic 78, 3) := by decide +kernel
theorem dX5_sheet_15 : decode cX5_sheet 15 = .ok (.ifCond .eq 14, 3) := by decide +kernel
theorem dX5_sheet_18 : decode cX5_sheet 18 = .ok (.iload_n 2, 1) := by decide +kernel
theorem dX5_sheet_19 : decode cX5_sheet 19 = .ok (.iconst (-1), 1) := by decide +kernel
theorem dX5_sheet_20 : decode cX5_sheet 20 = .ok (.if_icmp .eq 12, 3) := by decide +kernel
theorem dX5_sheet_23 : decode cX5_sheet 23 = .ok (.iload_n 3, 1) := by decide +kernel
theorem dX5_sheet_24 : decode cX5_sheet 24 = .ok (.bipush 40, 2) := by decide +kernel
theorem dX5_sheet_26 : decode cX5_sheet 26 = .ok (.if_icmp .le 6, 3) := by decide +kernel
theorem dX5_sheet_29 : decode cX5_sheet 29 = .ok (.bipush (-2), 2) := by decide +kernel
theorem dX5_sheet_31 : decode cX5_sheet 31 = .ok (.ireturn, 1) := by decide +kernel
theorem dX5_sheet_32 : decode cX5_sheet 32 = .ok (.iload_n 2, 1) := by decide +kernel
theorem dX5_sheet_33 : decode cX5_sheet 33 = .ok (.iconst (-1), 1) := by decide +kernel
theorem dX5_sheet_34 : decode cX5_sheet 34 = .ok (.if_icmp .eq 10, 3) := by decide +kernel
theorem dX5_sheet_37 : decode cX5_sheet 37 = .ok (.iload_n 3, 1) := by decide +kernel
theorem dX5_sheet_38 : decode cX5_sheet 38 = .ok (.ifCond .ge 6, 3) := by decide +kernel
theorem dX5_sheet_41 : decode cX5_sheet 41 = .ok (.bipush (-14), 2) := by decide +kernel
theorem dX5_sheet_43 : decode cX5_sheet 43 = .ok (.ireturn, 1) := by decide +kernel
theorem dX5_sheet_44 : decode cX5_sheet 44 = .ok (.aload_n 0, 1) := by decide +kernel
theorem dX5_sheet_45 : decode cX5_sheet 45 = .ok (.getfield 43, 3) := by decide +kernel
theorem dX5_sheet_48 : decode cX5_sheet 48 = .ok (.iload_n 1, 1) := by decide +kernel
theorem dX5_sheet_49 : decode cX5_sheet 49 = .ok (.iload_n 2, 1) := by decide +kernel
theorem dX5_sheet_50 : decode cX5_sheet 50 = .ok (.iastore, 1) := by decide +kernel
theorem dX5_sheet_51 : decode cX5_sheet 51 = .ok (.aload_n 0, 1) := by decide +kernel
theorem dX5_sheet_52 : decode cX5_sheet 52 = .ok (.getfield 46, 3) := by decide +kernel
theorem dX5_sheet_55 : decode cX5_sheet 55 = .ok (.iload_n 1, 1) := by decide +kernel
theorem dX5_sheet_56 : decode cX5_sheet 56 = .ok (.iload_n 2, 1) := by decide +kernel
theorem dX5_sheet_57 : decode cX5_sheet 57 = .ok (.iconst (-1), 1) := by decide +kernel
theorem dX5_sheet_58 : decode cX5_sheet 58 = .ok (.if_icmp .ne 7, 3) := by decide +kernel
theorem dX5_sheet_61 : decode cX5_sheet 61 = .ok (.iconst 0, 1) := by decide +kernel
theorem dX5_sheet_62 : decode cX5_sheet 62 = .ok (.goto 4, 3) := by decide +kernel
theorem dX5_sheet_65 : decode cX5_sheet 65 = .ok (.iload_n 3, 1) := by decide +kernel
theorem dX5_sheet_66 : decode cX5_sheet 66 = .ok (.iastore, 1) := by decide +kernel
theorem dX5_sheet_67 : decode cX5_sheet 67 = .ok (.iconst 0, 1) := by decide +kernel
theorem dX5_sheet_68 : decode cX5_sheet 68 = .ok (.istore 4, 2) := by decide +kernel
theorem dX5_sheet_70 : decode cX5_sheet 70 = .ok (.iload 4, 2) := by decide +kernel
theorem dX5_sheet_72 : decode cX5_sheet 72 = .ok (.bipush 40, 2) := by decide +kernel
theorem dX5_sheet_74 : decode cX5_sheet 74 = .ok (.if_icmp .ge 22, 3) := by decide +kernel
theorem dX5_sheet_77 : decode cX5_sheet 77 = .ok (.aload_n 0, 1) := by decide +kernel
theorem dX5_sheet_78 : decode cX5_sheet 78 = .ok (.getfield 49, 3) := by decide +kernel
theorem dX5_sheet_81 : decode cX5_sheet 81 = .ok (.bipush 40, 2) := by decide +kernel
theorem dX5_sheet_83 : decode cX5_sheet 83 = .ok (.iload_n 1, 1) := by decide +kernel
theorem dX5_sheet_84 : decode cX5_sheet 84 = .ok (.imul, 1) := by decide +kernel
theorem dX5_sheet_85 : decode cX5_sheet 85 = .ok (.iload 4, 2) := by decide +kernel
theorem dX5_sheet_87 : decode cX5_sheet 87 = .ok (.iadd, 1) := by decide +kernel
theorem dX5_sheet_88 : decode cX5_sheet 88 = .ok (.iconst 0, 1) := by decide +kernel
theorem dX5_sheet_89 : decode cX5_sheet 89 = .ok (.iastore, 1) := by decide +kernel
theorem dX5_sheet_90 : decode cX5_sheet 90 = .ok (.iinc 4 1, 3) := by decide +kernel
theorem dX5_sheet_93 : decode cX5_sheet 93 = .ok (.goto (-23), 3) := by decide +kernel
theorem dX5_sheet_96 : decode cX5_sheet 96 = .ok (.iconst 1, 1) := by decide +kernel
theorem dX5_sheet_97 : decode cX5_sheet 97 = .ok (.ireturn, 1) := by decide +kernel
def b_X5_sheet_70 (kc70 : Int32 → Int32 → GM → Option (Int32 × GM)) (x1 : Int32) (x4 : Int32) (σ : GM) : Option (Int32 × GM) :=
  if (40 : Int32) ≤ x4 then (some ((1 : Int32), σ)) else (grd (((40 : Int32) * x1) + x4) 160 (bnd (some (tA σ 13 (((40 : Int32) * x1) + x4).toNatClampNeg (0 : Int32))) fun σ5 => kc70 x1 (x4 + (1 : Int32)) σ5))
theorem vb_X5_sheet_70 {g : Gt} {ad : Nat → Nat} (z : Zt) (kc70 : Int32 → Int32 → GM → Option (Int32 × GM)) (hkc70 : ∀ (x1 : Int32) (x4 : Int32) (σ : GM), V g (LM ad) 2 RX5 cX5_sheet 5 (some .int) (wM g ad) iI z (kc70 x1 x4 σ) σ 70 [(0, .ref (aMo ad)), (1, .int x1), (4, .int x4)] []) (x1 : Int32) (x4 : Int32) (σ : GM) : V g (LM ad) 2 RX5 cX5_sheet 5 (some .int) (wM g ad) iI z (b_X5_sheet_70 kc70 x1 x4 σ) σ 70 [(0, .ref (aMo ad)), (1, .int x1), (4, .int x4)] [] := by
  unfold b_X5_sheet_70
  refine v_iload (pc := 70) (i := 4) dX5_sheet_70 rfl ?_
  refine v_bipush (pc := 72) dX5_sheet_72 bp_40 ?_
  refine v_icmp_ge (pc := 74) (tgt := 96) dX5_sheet_74 rfl ?_ ?_
  · refine v_iconst (pc := 96) dX5_sheet_96 ic_1 ?_
    exact v_iret (pc := 97) dX5_sheet_97
  · refine v_aload_n (pc := 77) (i := 0) dX5_sheet_77 rfl rfl ?_
    refine gX5_cells (pc := 78) q_776 dX5_sheet_78 ?_
    refine v_bipush (pc := 81) dX5_sheet_81 bp_40 ?_
    refine v_iload_n (pc := 83) (i := 1) dX5_sheet_83 rfl rfl ?_
    refine v_imul (pc := 84) dX5_sheet_84 ?_
    refine v_iload (pc := 85) (i := 4) dX5_sheet_85 rfl ?_
    refine v_iadd (pc := 87) dX5_sheet_87 ?_
    refine v_iconst (pc := 88) dX5_sheet_88 ic_0 ?_
    refine sM_cells (pc := 89) dX5_sheet_89 ?_
    refine v_nms (fun σ5 => ?_)
    refine v_iinc (pc := 90) (lv' := [(4, .int (x4 + (1 : Int32))), (0, .ref (aMo ad)), (1, .int x1)]) (i := 4) dX5_sheet_90 rfl ic_1 (by decide) rfl ?_
    refine v_goto (pc := 93) (tgt := 70) dX5_sheet_93 rfl ?_
    exact v_sub [1, 2, 0] rfl (hkc70 x1 (x4 + (1 : Int32)) σ5)
def k_X5_sheet_70 : Nat → Int32 → Int32 → GM → Option (Int32 × GM)
  | 0 => fun _ _ _ => none
  | n + 1 => b_X5_sheet_70 (k_X5_sheet_70 n)
theorem vk_X5_sheet_70 {g : Gt} {ad : Nat → Nat} (z : Zt) : ∀ (n : Nat) (x1 : Int32) (x4 : Int32) (σ : GM), V g (LM ad) 2 RX5 cX5_sheet 5 (some .int) (wM g ad) iI z (k_X5_sheet_70 n x1 x4 σ) σ 70 [(0, .ref (aMo ad)), (1, .int x1), (4, .int x4)] [] := by
  intro n
  induction n with
  | zero => intros; exact v_eq rfl v_none
  | succ n ih =>
    intro x1 x4 σ
    exact v_eq rfl (vb_X5_sheet_70 z _ ih x1 x4 σ)
def b_X5_sheet_44 (x1 : Int32) (x2 : Int32) (x3 : Int32) (σ : GM) : Option (Int32 × GM) :=
  grd x1 4 (bnd (some (tA σ 11 x1.toNatClampNeg x2)) fun σ3 => if x2 ≠ (-1 : Int32) then (grd x1 4 (bnd (some (tA σ3 12 x1.toNatClampNeg x3)) fun σ4 => k_X5_sheet_70 FU x1 (0 : Int32) σ4)) else (grd x1 4 (bnd (some (tA σ3 12 x1.toNatClampNeg (0 : Int32))) fun σ6 => k_X5_sheet_70 FU x1 (0 : Int32) σ6)))
theorem vb_X5_sheet_44 {g : Gt} {ad : Nat → Nat} (z : Zt) (x1 : Int32) (x2 : Int32) (x3 : Int32) (σ : GM) : V g (LM ad) 2 RX5 cX5_sheet 5 (some .int) (wM g ad) iI z (b_X5_sheet_44 x1 x2 x3 σ) σ 44 [(0, .ref (aMo ad)), (1, .int x1), (2, .int x2), (3, .int x3)] [] := by
  unfold b_X5_sheet_44
  refine v_aload_n (pc := 44) (i := 0) dX5_sheet_44 rfl rfl ?_
  refine gX5_sheetSort (pc := 45) q_774 dX5_sheet_45 ?_
  refine v_iload_n (pc := 48) (i := 1) dX5_sheet_48 rfl rfl ?_
  refine v_iload_n (pc := 49) (i := 2) dX5_sheet_49 rfl rfl ?_
  refine sM_sheetSort (pc := 50) dX5_sheet_50 ?_
  refine v_nms (fun σ3 => ?_)
  refine v_aload_n (pc := 51) (i := 0) dX5_sheet_51 rfl rfl ?_
  refine gX5_sheetSize (pc := 52) q_775 dX5_sheet_52 ?_
  refine v_iload_n (pc := 55) (i := 1) dX5_sheet_55 rfl rfl ?_
  refine v_iload_n (pc := 56) (i := 2) dX5_sheet_56 rfl rfl ?_
  refine v_iconst (pc := 57) dX5_sheet_57 ic_m1 ?_
  refine v_icmp_ne (pc := 58) (tgt := 65) dX5_sheet_58 rfl ?_ ?_
  · refine v_iload_n (pc := 65) (i := 3) dX5_sheet_65 rfl rfl ?_
    refine sM_sheetSize (pc := 66) dX5_sheet_66 ?_
    refine v_nms (fun σ4 => ?_)
    refine v_iconst (pc := 67) dX5_sheet_67 ic_0 ?_
    refine v_istore (pc := 68) (lv' := [(4, .int (0 : Int32)), (0, .ref (aMo ad)), (1, .int x1), (2, .int x2), (3, .int x3)]) (i := 4) dX5_sheet_68 (by decide) rfl ?_
    exact v_sub [1, 2, 0] rfl (vk_X5_sheet_70 z FU x1 (0 : Int32) σ4)
  · refine v_iconst (pc := 61) dX5_sheet_61 ic_0 ?_
    refine v_goto (pc := 62) (tgt := 66) dX5_sheet_62 rfl ?_
    refine sM_sheetSize (pc := 66) dX5_sheet_66 ?_
    refine v_nms (fun σ6 => ?_)
    refine v_iconst (pc := 67) dX5_sheet_67 ic_0 ?_
    refine v_istore (pc := 68) (lv' := [(4, .int (0 : Int32)), (0, .ref (aMo ad)), (1, .int x1), (2, .int x2), (3, .int x3)]) (i := 4) dX5_sheet_68 (by decide) rfl ?_
    exact v_sub [1, 2, 0] rfl (vk_X5_sheet_70 z FU x1 (0 : Int32) σ6)
def b_X5_sheet_32 (x1 : Int32) (x2 : Int32) (x3 : Int32) (σ : GM) : Option (Int32 × GM) :=
  if x2 = (-1 : Int32) then (b_X5_sheet_44 x1 x2 x3 σ) else (if 0 ≤ x3 then (b_X5_sheet_44 x1 x2 x3 σ) else (some ((-14 : Int32), σ)))
theorem vb_X5_sheet_32 {g : Gt} {ad : Nat → Nat} (z : Zt) (x1 : Int32) (x2 : Int32) (x3 : Int32) (σ : GM) : V g (LM ad) 2 RX5 cX5_sheet 5 (some .int) (wM g ad) iI z (b_X5_sheet_32 x1 x2 x3 σ) σ 32 [(0, .ref (aMo ad)), (1, .int x1), (2, .int x2), (3, .int x3)] [] := by
  unfold b_X5_sheet_32
  refine v_iload_n (pc := 32) (i := 2) dX5_sheet_32 rfl rfl ?_
  refine v_iconst (pc := 33) dX5_sheet_33 ic_m1 ?_
  refine v_icmp_eq (pc := 34) (tgt := 44) dX5_sheet_34 rfl ?_ ?_
  · exact v_sub [0, 1, 2, 3] rfl (vb_X5_sheet_44 z x1 x2 x3 σ)
  · refine v_iload_n (pc := 37) (i := 3) dX5_sheet_37 rfl rfl ?_
    refine v_if_ge (pc := 38) (tgt := 44) dX5_sheet_38 rfl ?_ ?_
    · exact v_sub [0, 1, 2, 3] rfl (vb_X5_sheet_44 z x1 x2 x3 σ)
    · refine v_bipush (pc := 41) dX5_sheet_41 bp_m14 ?_
      exact v_iret (pc := 43) dX5_sheet_43
def f_X5_sheet (x1 : Int32) (x2 : Int32) (x3 : Int32) (σ : GM) : Option (Int32 × GM) :=
  bnd (f_X5_in x1 (0 : Int32) (3 : Int32) σ) fun q1 => if q1.1 = 0 then (some ((-2 : Int32), q1.2)) else (bnd (f_X5_in x2 (-1 : Int32) (2 : Int32) q1.2) fun q2 => if q2.1 = 0 then (some ((-2 : Int32), q2.2)) else (if x2 = (-1 : Int32) then (b_X5_sheet_32 x1 x2 x3 q2.2) else (if x3 ≤ (40 : Int32) then (b_X5_sheet_32 x1 x2 x3 q2.2) else (some ((-2 : Int32), q2.2)))))
theorem vf_X5_sheet {g : Gt} {ad : Nat → Nat} (z : Zt) (x1 : Int32) (x2 : Int32) (x3 : Int32) (σ : GM) : V g (LM ad) 2 RX5 cX5_sheet 5 (some .int) (wM g ad) iI z (f_X5_sheet x1 x2 x3 σ) σ 0 [(0, .ref (aMo ad)), (1, .int x1), (2, .int x2), (3, .int x3)] [] := by
  unfold f_X5_sheet
  refine v_iload_n (pc := 0) (i := 1) dX5_sheet_0 rfl rfl ?_
  refine v_iconst (pc := 1) dX5_sheet_1 ic_0 ?_
  refine v_iconst (pc := 2) dX5_sheet_2 ic_3 ?_
  refine v_callSi (pc := 3) (av := [.int x1, .int (0 : Int32), .int (3 : Int32)]) (rest := []) (ct_X5_in x1 (0 : Int32) (3 : Int32)) mi_X5_in q_715 (by decide) rfl rfl (Nat.le_of_ble_eq_true rfl) dX5_sheet_3 (fun q1 => ?_)
  refine v_if_eq (pc := 6) (tgt := 29) dX5_sheet_6 rfl ?_ ?_
  · refine v_bipush (pc := 29) dX5_sheet_29 bp_m2 ?_
    exact v_iret (pc := 31) dX5_sheet_31
  · refine v_iload_n (pc := 9) (i := 2) dX5_sheet_9 rfl rfl ?_
    refine v_iconst (pc := 10) dX5_sheet_10 ic_m1 ?_
    refine v_iconst (pc := 11) dX5_sheet_11 ic_2 ?_
    refine v_callSi (pc := 12) (av := [.int x2, .int (-1 : Int32), .int (2 : Int32)]) (rest := []) (ct_X5_in x2 (-1 : Int32) (2 : Int32)) mi_X5_in q_715 (by decide) rfl rfl (Nat.le_of_ble_eq_true rfl) dX5_sheet_12 (fun q2 => ?_)
    refine v_if_eq (pc := 15) (tgt := 29) dX5_sheet_15 rfl ?_ ?_
    · refine v_bipush (pc := 29) dX5_sheet_29 bp_m2 ?_
      exact v_iret (pc := 31) dX5_sheet_31
    · refine v_iload_n (pc := 18) (i := 2) dX5_sheet_18 rfl rfl ?_
      refine v_iconst (pc := 19) dX5_sheet_19 ic_m1 ?_
      refine v_icmp_eq (pc := 20) (tgt := 32) dX5_sheet_20 rfl ?_ ?_
      · exact v_sub [0, 1, 2, 3] rfl (vb_X5_sheet_32 z x1 x2 x3 q2.2)
      · refine v_iload_n (pc := 23) (i := 3) dX5_sheet_23 rfl rfl ?_
        refine v_bipush (pc := 24) dX5_sheet_24 bp_40 ?_
        refine v_icmp_le (pc := 26) (tgt := 32) dX5_sheet_26 rfl ?_ ?_
        · exact v_sub [0, 1, 2, 3] rfl (vb_X5_sheet_32 z x1 x2 x3 q2.2)
        · refine v_bipush (pc := 29) dX5_sheet_29 bp_m2 ?_
          exact v_iret (pc := 31) dX5_sheet_31
theorem ct_X5_sheet {g : Gt} {ad : Nat → Nat} (x1 : Int32) (x2 : Int32) (x3 : Int32) : CT g (LM ad) yX5_sheet cX5_sheet 5 (some .int) 2 [.ref (aMo ad), .int x1, .int x2, .int x3] iI (wM g ad) (f_X5_sheet x1 x2 x3) :=
  ct_of_V (own := RX5) (lv0 := [(0, .ref (aMo ad)), (1, .int x1), (2, .int x2), (3, .int x3)]) (by decide +kernel) rfl (Nat.le_of_ble_eq_true rfl) rfl (fun z σ => vf_X5_sheet z x1 x2 x3 σ)
-- LighthouseLiedToModel.cell
theorem dX5_cell_0 : decode cX5_cell 0 = .ok (.iload_n 1, 1) := by decide +kernel
theorem dX5_cell_1 : decode cX5_cell 1 = .ok (.iconst 0, 1) := by decide +kernel
theorem dX5_cell_2 : decode cX5_cell 2 = .ok (.iconst 3, 1) := by decide +kernel
theorem dX5_cell_3 : decode cX5_cell 3 = .ok (.invokestatic 78, 3) := by decide +kernel
theorem dX5_cell_6 : decode cX5_cell 6 = .ok (.ifCond .ne 6, 3) := by decide +kernel
theorem dX5_cell_9 : decode cX5_cell 9 = .ok (.bipush (-2), 2) := by decide +kernel
theorem dX5_cell_11 : decode cX5_cell 11 = .ok (.ireturn, 1) := by decide +kernel
theorem dX5_cell_12 : decode cX5_cell 12 = .ok (.aload_n 0, 1) := by decide +kernel
theorem dX5_cell_13 : decode cX5_cell 13 = .ok (.getfield 43, 3) := by decide +kernel
theorem dX5_cell_16 : decode cX5_cell 16 = .ok (.iload_n 1, 1) := by decide +kernel
theorem dX5_cell_17 : decode cX5_cell 17 = .ok (.iaload, 1) := by decide +kernel
theorem dX5_cell_18 : decode cX5_cell 18 = .ok (.iconst (-1), 1) := by decide +kernel
theorem dX5_cell_19 : decode cX5_cell 19 = .ok (.if_icmp .ne 6, 3) := by decide +kernel
theorem dX5_cell_22 : decode cX5_cell 22 = .ok (.bipush (-11), 2) := by decide +kernel
theorem dX5_cell_24 : decode cX5_cell 24 = .ok (.ireturn, 1) := by decide +kernel
theorem dX5_cell_25 : decode cX5_cell 25 = .ok (.iload_n 2, 1) := by decide +kernel
theorem dX5_cell_26 : decode cX5_cell 26 = .ok (.iconst 0, 1) := by decide +kernel
theorem dX5_cell_27 : decode cX5_cell 27 = .ok (.aload_n 0, 1) := by decide +kernel
theorem dX5_cell_28 : decode cX5_cell 28 = .ok (.getfield 46, 3) := by decide +kernel
theorem dX5_cell_31 : decode cX5_cell 31 = .ok (.iload_n 1, 1) := by decide +kernel
theorem dX5_cell_32 : decode cX5_cell 32 = .ok (.iaload, 1) := by decide +kernel
theorem dX5_cell_33 : decode cX5_cell 33 = .ok (.iconst 1, 1) := by decide +kernel
theorem dX5_cell_34 : decode cX5_cell 34 = .ok (.isub, 1) := by decide +kernel
theorem dX5_cell_35 : decode cX5_cell 35 = .ok (.invokestatic 78, 3) := by decide +kernel
theorem dX5_cell_38 : decode cX5_cell 38 = .ok (.ifCond .ne 6, 3) := by decide +kernel
theorem dX5_cell_41 : decode cX5_cell 41 = .ok (.bipush (-12), 2) := by decide +kernel
theorem dX5_cell_43 : decode cX5_cell 43 = .ok (.ireturn, 1) := by decide +kernel
theorem dX5_cell_44 : decode cX5_cell 44 = .ok (.aload_n 0, 1) := by decide +kernel
theorem dX5_cell_45 : decode cX5_cell 45 = .ok (.getfield 49, 3) := by decide +kernel
theorem dX5_cell_48 : decode cX5_cell 48 = .ok (.bipush 40, 2) := by decide +kernel
theorem dX5_cell_50 : decode cX5_cell 50 = .ok (.iload_n 1, 1) := by decide +kernel
theorem dX5_cell_51 : decode cX5_cell 51 = .ok (.imul, 1) := by decide +kernel
theorem dX5_cell_52 : decode cX5_cell 52 = .ok (.iload_n 2, 1) := by decide +kernel
theorem dX5_cell_53 : decode cX5_cell 53 = .ok (.iadd, 1) := by decide +kernel
theorem dX5_cell_54 : decode cX5_cell 54 = .ok (.aload_n 0, 1) := by decide +kernel
theorem dX5_cell_55 : decode cX5_cell 55 = .ok (.getfield 43, 3) := by decide +kernel
theorem dX5_cell_58 : decode cX5_cell 58 = .ok (.iload_n 1, 1) := by decide +kernel
theorem dX5_cell_59 : decode cX5_cell 59 = .ok (.iaload, 1) := by decide +kernel
theorem dX5_cell_60 : decode cX5_cell 60 = .ok (.ifCond .ne 8, 3) := by decide +kernel
theorem dX5_cell_63 : decode cX5_cell 63 = .ok (.iload_n 3, 1) := by decide +kernel
theorem dX5_cell_64 : decode cX5_cell 64 = .ok (.i2b, 1) := by decide +kernel
theorem dX5_cell_65 : decode cX5_cell 65 = .ok (.goto 19, 3) := by decide +kernel
theorem dX5_cell_68 : decode cX5_cell 68 = .ok (.aload_n 0, 1) := by decide +kernel
theorem dX5_cell_69 : decode cX5_cell 69 = .ok (.getfield 43, 3) := by decide +kernel
theorem dX5_cell_72 : decode cX5_cell 72 = .ok (.iload_n 1, 1) := by decide +kernel
theorem dX5_cell_73 : decode cX5_cell 73 = .ok (.iaload, 1) := by decide +kernel
theorem dX5_cell_74 : decode cX5_cell 74 = .ok (.iconst 1, 1) := by decide +kernel
theorem dX5_cell_75 : decode cX5_cell 75 = .ok (.if_icmp .ne 8, 3) := by decide +kernel
theorem dX5_cell_78 : decode cX5_cell 78 = .ok (.iload_n 3, 1) := by decide +kernel
theorem dX5_cell_79 : decode cX5_cell 79 = .ok (.i2s, 1) := by decide +kernel
theorem dX5_cell_80 : decode cX5_cell 80 = .ok (.goto 4, 3) := by decide +kernel
theorem dX5_cell_83 : decode cX5_cell 83 = .ok (.iload_n 3, 1) := by decide +kernel
theorem dX5_cell_84 : decode cX5_cell 84 = .ok (.iastore, 1) := by decide +kernel
theorem dX5_cell_85 : decode cX5_cell 85 = .ok (.iconst 1, 1) := by decide +kernel
theorem dX5_cell_86 : decode cX5_cell 86 = .ok (.ireturn, 1) := by decide +kernel
def f_X5_cell (x1 : Int32) (x2 : Int32) (x3 : Int32) (σ : GM) : Option (Int32 × GM) :=
  bnd (f_X5_in x1 (0 : Int32) (3 : Int32) σ) fun q1 => if q1.1 ≠ 0 then (grd x1 4 (if (mA q1.2 11 x1.toNatClampNeg) ≠ (-1 : Int32) then (grd x1 4 (bnd (f_X5_in x2 (0 : Int32) ((mA q1.2 12 x1.toNatClampNeg) - (1 : Int32)) q1.2) fun q2 => if q2.1 ≠ 0 then (grd x1 4 (if (mA q2.2 11 x1.toNatClampNeg) ≠ 0 then (grd x1 4 (if (mA q2.2 11 x1.toNatClampNeg) ≠ (1 : Int32) then (grd (((40 : Int32) * x1) + x2) 160 (bnd (some (tA q2.2 13 (((40 : Int32) * x1) + x2).toNatClampNeg x3)) fun σ3 => some ((1 : Int32), σ3))) else (grd (((40 : Int32) * x1) + x2) 160 (bnd (some (tA q2.2 13 (((40 : Int32) * x1) + x2).toNatClampNeg x3.toInt16.toInt32)) fun σ4 => some ((1 : Int32), σ4))))) else (grd (((40 : Int32) * x1) + x2) 160 (bnd (some (tA q2.2 13 (((40 : Int32) * x1) + x2).toNatClampNeg x3.toInt8.toInt32)) fun σ5 => some ((1 : Int32), σ5))))) else (some ((-12 : Int32), q2.2)))) else (some ((-11 : Int32), q1.2)))) else (some ((-2 : Int32), q1.2))
theorem vf_X5_cell {g : Gt} {ad : Nat → Nat} (z : Zt) (x1 : Int32) (x2 : Int32) (x3 : Int32) (σ : GM) : V g (LM ad) 2 RX5 cX5_cell 4 (some .int) (wM g ad) iI z (f_X5_cell x1 x2 x3 σ) σ 0 [(0, .ref (aMo ad)), (1, .int x1), (2, .int x2), (3, .int x3)] [] := by
  unfold f_X5_cell
  refine v_iload_n (pc := 0) (i := 1) dX5_cell_0 rfl rfl ?_
  refine v_iconst (pc := 1) dX5_cell_1 ic_0 ?_
  refine v_iconst (pc := 2) dX5_cell_2 ic_3 ?_
  refine v_callSi (pc := 3) (av := [.int x1, .int (0 : Int32), .int (3 : Int32)]) (rest := []) (ct_X5_in x1 (0 : Int32) (3 : Int32)) mi_X5_in q_715 (by decide) rfl rfl (Nat.le_of_ble_eq_true rfl) dX5_cell_3 (fun q1 => ?_)
  refine v_if_ne (pc := 6) (tgt := 12) dX5_cell_6 rfl ?_ ?_
  · refine v_aload_n (pc := 12) (i := 0) dX5_cell_12 rfl rfl ?_
    refine gX5_sheetSort (pc := 13) q_774 dX5_cell_13 ?_
    refine v_iload_n (pc := 16) (i := 1) dX5_cell_16 rfl rfl ?_
    refine lM_sheetSort (pc := 17) dX5_cell_17 ?_
    refine v_iconst (pc := 18) dX5_cell_18 ic_m1 ?_
    refine v_icmp_ne (pc := 19) (tgt := 25) dX5_cell_19 rfl ?_ ?_
    · refine v_iload_n (pc := 25) (i := 2) dX5_cell_25 rfl rfl ?_
      refine v_iconst (pc := 26) dX5_cell_26 ic_0 ?_
      refine v_aload_n (pc := 27) (i := 0) dX5_cell_27 rfl rfl ?_
      refine gX5_sheetSize (pc := 28) q_775 dX5_cell_28 ?_
      refine v_iload_n (pc := 31) (i := 1) dX5_cell_31 rfl rfl ?_
      refine lM_sheetSize (pc := 32) dX5_cell_32 ?_
      refine v_iconst (pc := 33) dX5_cell_33 ic_1 ?_
      refine v_isub (pc := 34) dX5_cell_34 ?_
      refine v_callSi (pc := 35) (av := [.int x2, .int (0 : Int32), .int ((mA q1.2 12 x1.toNatClampNeg) - (1 : Int32))]) (rest := []) (ct_X5_in x2 (0 : Int32) ((mA q1.2 12 x1.toNatClampNeg) - (1 : Int32))) mi_X5_in q_715 (by decide) rfl rfl (Nat.le_of_ble_eq_true rfl) dX5_cell_35 (fun q2 => ?_)
      refine v_if_ne (pc := 38) (tgt := 44) dX5_cell_38 rfl ?_ ?_
      · refine v_aload_n (pc := 44) (i := 0) dX5_cell_44 rfl rfl ?_
        refine gX5_cells (pc := 45) q_776 dX5_cell_45 ?_
        refine v_bipush (pc := 48) dX5_cell_48 bp_40 ?_
        refine v_iload_n (pc := 50) (i := 1) dX5_cell_50 rfl rfl ?_
        refine v_imul (pc := 51) dX5_cell_51 ?_
        refine v_iload_n (pc := 52) (i := 2) dX5_cell_52 rfl rfl ?_
        refine v_iadd (pc := 53) dX5_cell_53 ?_
        refine v_aload_n (pc := 54) (i := 0) dX5_cell_54 rfl rfl ?_
        refine gX5_sheetSort (pc := 55) q_774 dX5_cell_55 ?_
        refine v_iload_n (pc := 58) (i := 1) dX5_cell_58 rfl rfl ?_
        refine lM_sheetSort (pc := 59) dX5_cell_59 ?_
        refine v_if_ne (pc := 60) (tgt := 68) dX5_cell_60 rfl ?_ ?_
        · refine v_aload_n (pc := 68) (i := 0) dX5_cell_68 rfl rfl ?_
          refine gX5_sheetSort (pc := 69) q_774 dX5_cell_69 ?_
          refine v_iload_n (pc := 72) (i := 1) dX5_cell_72 rfl rfl ?_
          refine lM_sheetSort (pc := 73) dX5_cell_73 ?_
          refine v_iconst (pc := 74) dX5_cell_74 ic_1 ?_
          refine v_icmp_ne (pc := 75) (tgt := 83) dX5_cell_75 rfl ?_ ?_
          · refine v_iload_n (pc := 83) (i := 3) dX5_cell_83 rfl rfl ?_
            refine sM_cells (pc := 84) dX5_cell_84 ?_
            refine v_nms (fun σ3 => ?_)
            refine v_iconst (pc := 85) dX5_cell_85 ic_1 ?_
            exact v_iret (pc := 86) dX5_cell_86
          · refine v_iload_n (pc := 78) (i := 3) dX5_cell_78 rfl rfl ?_
            refine v_i2s (pc := 79) dX5_cell_79 ?_
            refine v_goto (pc := 80) (tgt := 84) dX5_cell_80 rfl ?_
            refine sM_cells (pc := 84) dX5_cell_84 ?_
            refine v_nms (fun σ4 => ?_)
            refine v_iconst (pc := 85) dX5_cell_85 ic_1 ?_
            exact v_iret (pc := 86) dX5_cell_86
        · refine v_iload_n (pc := 63) (i := 3) dX5_cell_63 rfl rfl ?_
          refine v_i2b (pc := 64) dX5_cell_64 ?_
          refine v_goto (pc := 65) (tgt := 84) dX5_cell_65 rfl ?_
          refine sM_cells (pc := 84) dX5_cell_84 ?_
          refine v_nms (fun σ5 => ?_)
          refine v_iconst (pc := 85) dX5_cell_85 ic_1 ?_
          exact v_iret (pc := 86) dX5_cell_86
      · refine v_bipush (pc := 41) dX5_cell_41 bp_m12 ?_
        exact v_iret (pc := 43) dX5_cell_43
    · refine v_bipush (pc := 22) dX5_cell_22 bp_m11 ?_
      exact v_iret (pc := 24) dX5_cell_24
  · refine v_bipush (pc := 9) dX5_cell_9 bp_m2 ?_
    exact v_iret (pc := 11) dX5_cell_11
theorem ct_X5_cell {g : Gt} {ad : Nat → Nat} (x1 : Int32) (x2 : Int32) (x3 : Int32) : CT g (LM ad) yX5_cell cX5_cell 4 (some .int) 2 [.ref (aMo ad), .int x1, .int x2, .int x3] iI (wM g ad) (f_X5_cell x1 x2 x3) :=
  ct_of_V (own := RX5) (lv0 := [(0, .ref (aMo ad)), (1, .int x1), (2, .int x2), (3, .int x3)]) (by decide +kernel) rfl (Nat.le_of_ble_eq_true rfl) rfl (fun z σ => vf_X5_cell z x1 x2 x3 σ)
-- LighthouseLiedToModel.copy
theorem dX5_copy_0 : decode cX5_copy 0 = .ok (.iload_n 1, 1) := by decide +kernel
theorem dX5_copy_1 : decode cX5_copy 1 = .ok (.iconst 0, 1) := by decide +kernel
theorem dX5_copy_2 : decode cX5_copy 2 = .ok (.iconst 3, 1) := by decide +kernel
theorem dX5_copy_3 : decode cX5_copy 3 = .ok (.invokestatic 78, 3) := by decide +kernel
theorem dX5_copy_6 : decode cX5_copy 6 = .ok (.ifCond .eq 12, 3) := by decide +kernel
theorem dX5_copy_9 : decode cX5_copy 9 = .ok (.iload_n 3, 1) := by decide +kernel
theorem dX5_copy_10 : decode cX5_copy 10 = .ok (.iconst 0, 1) := by decide +kernel
theorem dX5_copy_11 : decode cX5_copy 11 = .ok (.iconst 3, 1) := by decide +kernel
theorem dX5_copy_12 : decode cX5_copy 12 = .ok (.invokestatic 78, 3) := by decide +kernel
theorem dX5_copy_15 : decode cX5_copy 15 = .ok (.ifCond .ne 6, 3) := by decide +kernel
theorem dX5_copy_18 : decode cX5_copy 18 = .ok (.bipush (-2), 2) := by decide +kernel
theorem dX5_copy_20 : decode cX5_copy 20 = .ok (.ireturn, 1) := by decide +kernel
theorem dX5_copy_21 : decode cX5_copy 21 = .ok (.aload_n 0, 1) := by decide +kernel
theorem dX5_copy_22 : decode cX5_copy 22 = .ok (.getfield 43, 3) := by decide +kernel
theorem dX5_copy_25 : decode cX5_copy 25 = .ok (.iload_n 1, 1) := by decide +kernel
theorem dX5_copy_26 : decode cX5_copy 26 = .ok (.iaload, 1) := by decide +kernel
theorem dX5_copy_27 : decode cX5_copy 27 = .ok (.iconst (-1), 1) := by decide +kernel
theorem dX5_copy_28 : decode cX5_copy 28 = .ok (.if_icmp .eq 13, 3) := by decide +kernel
theorem dX5_copy_31 : decode cX5_copy 31 = .ok (.aload_n 0, 1) := by decide +kernel
theorem dX5_copy_32 : decode cX5_copy 32 = .ok (.getfield 43, 3) := by decide +kernel
theorem dX5_copy_35 : decode cX5_copy 35 = .ok (.iload_n 3, 1) := by decide +kernel
theorem dX5_copy_36 : decode cX5_copy 36 = .ok (.iaload, 1) := by decide +kernel
theorem dX5_copy_37 : decode cX5_copy 37 = .ok (.iconst (-1), 1) := by decide +kernel
theorem dX5_copy_38 : decode cX5_copy 38 = .ok (.if_icmp .ne 6, 3) := by decide +kernel
theorem dX5_copy_41 : decode cX5_copy 41 = .ok (.bipush (-11), 2) := by decide +kernel
theorem dX5_copy_43 : decode cX5_copy 43 = .ok (.ireturn, 1) := by decide +kernel
theorem dX5_copy_44 : decode cX5_copy 44 = .ok (.aload_n 0, 1) := by decide +kernel
theorem dX5_copy_45 : decode cX5_copy 45 = .ok (.getfield 43, 3) := by decide +kernel
theorem dX5_copy_48 : decode cX5_copy 48 = .ok (.iload_n 1, 1) := by decide +kernel
theorem dX5_copy_49 : decode cX5_copy 49 = .ok (.iaload, 1) := by decide +kernel
theorem dX5_copy_50 : decode cX5_copy 50 = .ok (.aload_n 0, 1) := by decide +kernel
theorem dX5_copy_51 : decode cX5_copy 51 = .ok (.getfield 43, 3) := by decide +kernel
theorem dX5_copy_54 : decode cX5_copy 54 = .ok (.iload_n 3, 1) := by decide +kernel
theorem dX5_copy_55 : decode cX5_copy 55 = .ok (.iaload, 1) := by decide +kernel
theorem dX5_copy_56 : decode cX5_copy 56 = .ok (.if_icmp .eq 6, 3) := by decide +kernel
theorem dX5_copy_59 : decode cX5_copy 59 = .ok (.bipush (-13), 2) := by decide +kernel
theorem dX5_copy_61 : decode cX5_copy 61 = .ok (.ireturn, 1) := by decide +kernel
theorem dX5_copy_62 : decode cX5_copy 62 = .ok (.iload 5, 2) := by decide +kernel
theorem dX5_copy_64 : decode cX5_copy 64 = .ok (.ifCond .lt 60, 3) := by decide +kernel
theorem dX5_copy_67 : decode cX5_copy 67 = .ok (.iload_n 2, 1) := by decide +kernel
theorem dX5_copy_68 : decode cX5_copy 68 = .ok (.ifCond .lt 56, 3) := by decide +kernel
theorem dX5_copy_71 : decode cX5_copy 71 = .ok (.iload 4, 2) := by decide +kernel
theorem dX5_copy_73 : decode cX5_copy 73 = .ok (.ifCond .lt 51, 3) := by decide +kernel
theorem dX5_copy_76 : decode cX5_copy 76 = .ok (.iload_n 2, 1) := by decide +kernel
theorem dX5_copy_77 : decode cX5_copy 77 = .ok (.aload_n 0, 1) := by decide +kernel
theorem dX5_copy_78 : decode cX5_copy 78 = .ok (.getfield 46, 3) := by decide +kernel
theorem dX5_copy_81 : decode cX5_copy 81 = .ok (.iload_n 1, 1) := by decide +kernel
theorem dX5_copy_82 : decode cX5_copy 82 = .ok (.iaload, 1) := by decide +kernel
theorem dX5_copy_83 : decode cX5_copy 83 = .ok (.if_icmp .gt 41, 3) := by decide +kernel
theorem dX5_copy_86 : decode cX5_copy 86 = .ok (.iload 4, 2) := by decide +kernel
theorem dX5_copy_88 : decode cX5_copy 88 = .ok (.aload_n 0, 1) := by decide +kernel
theorem dX5_copy_89 : decode cX5_copy 89 = .ok (.getfield 46, 3) := by decide +kernel
theorem dX5_copy_92 : decode cX5_copy 92 = .ok (.iload_n 3, 1) := by decide +kernel
theorem dX5_copy_93 : decode cX5_copy 93 = .ok (.iaload, 1) := by decide +kernel
theorem dX5_copy_94 : decode cX5_copy 94 = .ok (.if_icmp .gt 30, 3) := by decide +kernel
theorem dX5_copy_97 : decode cX5_copy 97 = .ok (.iload 5, 2) := by decide +kernel
theorem dX5_copy_99 : decode cX5_copy 99 = .ok (.aload_n 0, 1) := by decide +kernel
theorem dX5_copy_100 : decode cX5_copy 100 = .ok (.getfield 46, 3) := by decide +kernel
theorem dX5_copy_103 : decode cX5_copy 103 = .ok (.iload_n 1, 1) := by decide +kernel
theorem dX5_copy_104 : decode cX5_copy 104 = .ok (.iaload, 1) := by decide +kernel
theorem dX5_copy_105 : decode cX5_copy 105 = .ok (.iload_n 2, 1) := by decide +kernel
theorem dX5_copy_106 : decode cX5_copy 106 = .ok (.isub, 1) := by decide +kernel
theorem dX5_copy_107 : decode cX5_copy 107 = .ok (.if_icmp .gt 17, 3) := by decide +kernel
theorem dX5_copy_110 : decode cX5_copy 110 = .ok (.iload 5, 2) := by decide +kernel
theorem dX5_copy_112 : decode cX5_copy 112 = .ok (.aload_n 0, 1) := by decide +kernel
theorem dX5_copy_113 : decode cX5_copy 113 = .ok (.getfield 46, 3) := by decide +kernel
theorem dX5_copy_116 : decode cX5_copy 116 = .ok (.iload_n 3, 1) := by decide +kernel
theorem dX5_copy_117 : decode cX5_copy 117 = .ok (.iaload, 1) := by decide +kernel
theorem dX5_copy_118 : decode cX5_copy 118 = .ok (.iload 4, 2) := by decide +kernel
theorem dX5_copy_120 : decode cX5_copy 120 = .ok (.isub, 1) := by decide +kernel
theorem dX5_copy_121 : decode cX5_copy 121 = .ok (.if_icmp .le 6, 3) := by decide +kernel
theorem dX5_copy_124 : decode cX5_copy 124 = .ok (.bipush (-12), 2) := by decide +kernel
theorem dX5_copy_126 : decode cX5_copy 126 = .ok (.ireturn, 1) := by decide +kernel
theorem dX5_copy_127 : decode cX5_copy 127 = .ok (.bipush 40, 2) := by decide +kernel
theorem dX5_copy_129 : decode cX5_copy 129 = .ok (.iload_n 1, 1) := by decide +kernel
theorem dX5_copy_130 : decode cX5_copy 130 = .ok (.imul, 1) := by decide +kernel
theorem dX5_copy_131 : decode cX5_copy 131 = .ok (.iload_n 2, 1) := by decide +kernel
theorem dX5_copy_132 : decode cX5_copy 132 = .ok (.iadd, 1) := by decide +kernel
theorem dX5_copy_133 : decode cX5_copy 133 = .ok (.istore 6, 2) := by decide +kernel
theorem dX5_copy_135 : decode cX5_copy 135 = .ok (.bipush 40, 2) := by decide +kernel
theorem dX5_copy_137 : decode cX5_copy 137 = .ok (.iload_n 3, 1) := by decide +kernel
theorem dX5_copy_138 : decode cX5_copy 138 = .ok (.imul, 1) := by decide +kernel
theorem dX5_copy_139 : decode cX5_copy 139 = .ok (.iload 4, 2) := by decide +kernel
theorem dX5_copy_141 : decode cX5_copy 141 = .ok (.iadd, 1) := by decide +kernel
theorem dX5_copy_142 : decode cX5_copy 142 = .ok (.istore 7, 2) := by decide +kernel
theorem dX5_copy_144 : decode cX5_copy 144 = .ok (.iconst 0, 1) := by decide +kernel
theorem dX5_copy_145 : decode cX5_copy 145 = .ok (.istore 8, 2) := by decide +kernel
theorem dX5_copy_147 : decode cX5_copy 147 = .ok (.iload 8, 2) := by decide +kernel
theorem dX5_copy_149 : decode cX5_copy 149 = .ok (.iload 5, 2) := by decide +kernel
theorem dX5_copy_151 : decode cX5_copy 151 = .ok (.if_icmp .ge 50, 3) := by decide +kernel
theorem dX5_copy_154 : decode cX5_copy 154 = .ok (.iload 6, 2) := by decide +kernel
theorem dX5_copy_156 : decode cX5_copy 156 = .ok (.iload 7, 2) := by decide +kernel
theorem dX5_copy_158 : decode cX5_copy 158 = .ok (.if_icmp .ge 13, 3) := by decide +kernel
theorem dX5_copy_161 : decode cX5_copy 161 = .ok (.iload 5, 2) := by decide +kernel
theorem dX5_copy_163 : decode cX5_copy 163 = .ok (.iconst 1, 1) := by decide +kernel
theorem dX5_copy_164 : decode cX5_copy 164 = .ok (.isub, 1) := by decide +kernel
theorem dX5_copy_165 : decode cX5_copy 165 = .ok (.iload 8, 2) := by decide +kernel
theorem dX5_copy_167 : decode cX5_copy 167 = .ok (.isub, 1) := by decide +kernel
theorem dX5_copy_168 : decode cX5_copy 168 = .ok (.goto 5, 3) := by decide +kernel
theorem dX5_copy_171 : decode cX5_copy 171 = .ok (.iload 8, 2) := by decide +kernel
theorem dX5_copy_173 : decode cX5_copy 173 = .ok (.istore 9, 2) := by decide +kernel
theorem dX5_copy_175 : decode cX5_copy 175 = .ok (.aload_n 0, 1) := by decide +kernel
theorem dX5_copy_176 : decode cX5_copy 176 = .ok (.getfield 49, 3) := by decide +kernel
theorem dX5_copy_179 : decode cX5_copy 179 = .ok (.iload 7, 2) := by decide +kernel
theorem dX5_copy_181 : decode cX5_copy 181 = .ok (.iload 9, 2) := by decide +kernel
theorem dX5_copy_183 : decode cX5_copy 183 = .ok (.iadd, 1) := by decide +kernel
theorem dX5_copy_184 : decode cX5_copy 184 = .ok (.aload_n 0, 1) := by decide +kernel
theorem dX5_copy_185 : decode cX5_copy 185 = .ok (.getfield 49, 3) := by decide +kernel
theorem dX5_copy_188 : decode cX5_copy 188 = .ok (.iload 6, 2) := by decide +kernel
theorem dX5_copy_190 : decode cX5_copy 190 = .ok (.iload 9, 2) := by decide +kernel
theorem dX5_copy_192 : decode cX5_copy 192 = .ok (.iadd, 1) := by decide +kernel
theorem dX5_copy_193 : decode cX5_copy 193 = .ok (.iaload, 1) := by decide +kernel
theorem dX5_copy_194 : decode cX5_copy 194 = .ok (.iastore, 1) := by decide +kernel
theorem dX5_copy_195 : decode cX5_copy 195 = .ok (.iinc 8 1, 3) := by decide +kernel
theorem dX5_copy_198 : decode cX5_copy 198 = .ok (.goto (-51), 3) := by decide +kernel
theorem dX5_copy_201 : decode cX5_copy 201 = .ok (.iload 5, 2) := by decide +kernel
theorem dX5_copy_203 : decode cX5_copy 203 = .ok (.ireturn, 1) := by decide +kernel
def b_X5_copy_173 (kc147 : Int32 → Int32 → Int32 → Int32 → GM → Option (Int32 × GM)) (x5 : Int32) (x6 : Int32) (x7 : Int32) (x8 : Int32) (xs0 : Int32) (σ : GM) : Option (Int32 × GM) :=
  grd (x6 + xs0) 160 (grd (x7 + xs0) 160 (bnd (some (tA σ 13 (x7 + xs0).toNatClampNeg (mA σ 13 (x6 + xs0).toNatClampNeg))) fun σ5 => kc147 x5 x6 x7 (x8 + (1 : Int32)) σ5))
theorem vb_X5_copy_173 {g : Gt} {ad : Nat → Nat} (z : Zt) (kc147 : Int32 → Int32 → Int32 → Int32 → GM → Option (Int32 × GM)) (hkc147 : ∀ (x5 : Int32) (x6 : Int32) (x7 : Int32) (x8 : Int32) (σ : GM), V g (LM ad) 2 RX5 cX5_copy 10 (some .int) (wM g ad) iI z (kc147 x5 x6 x7 x8 σ) σ 147 [(0, .ref (aMo ad)), (5, .int x5), (6, .int x6), (7, .int x7), (8, .int x8)] []) (x5 : Int32) (x6 : Int32) (x7 : Int32) (x8 : Int32) (xs0 : Int32) (σ : GM) : V g (LM ad) 2 RX5 cX5_copy 10 (some .int) (wM g ad) iI z (b_X5_copy_173 kc147 x5 x6 x7 x8 xs0 σ) σ 173 [(0, .ref (aMo ad)), (5, .int x5), (6, .int x6), (7, .int x7), (8, .int x8)] [.int xs0] := by
  unfold b_X5_copy_173
  refine v_istore (pc := 173) (lv' := [(9, .int xs0), (0, .ref (aMo ad)), (5, .int x5), (6, .int x6), (7, .int x7), (8, .int x8)]) (i := 9) dX5_copy_173 (by decide) rfl ?_
  refine v_aload_n (pc := 175) (i := 0) dX5_copy_175 rfl rfl ?_
  refine gX5_cells (pc := 176) q_776 dX5_copy_176 ?_
  refine v_iload (pc := 179) (i := 7) dX5_copy_179 rfl ?_
  refine v_iload (pc := 181) (i := 9) dX5_copy_181 rfl ?_
  refine v_iadd (pc := 183) dX5_copy_183 ?_
  refine v_aload_n (pc := 184) (i := 0) dX5_copy_184 rfl rfl ?_
  refine gX5_cells (pc := 185) q_776 dX5_copy_185 ?_
  refine v_iload (pc := 188) (i := 6) dX5_copy_188 rfl ?_
  refine v_iload (pc := 190) (i := 9) dX5_copy_190 rfl ?_
  refine v_iadd (pc := 192) dX5_copy_192 ?_
  refine lM_cells (pc := 193) dX5_copy_193 ?_
  refine sM_cells (pc := 194) dX5_copy_194 ?_
  refine v_nms (fun σ5 => ?_)
  refine v_iinc (pc := 195) (lv' := [(8, .int (x8 + (1 : Int32))), (9, .int xs0), (0, .ref (aMo ad)), (5, .int x5), (6, .int x6), (7, .int x7)]) (i := 8) dX5_copy_195 rfl ic_1 (by decide) rfl ?_
  refine v_goto (pc := 198) (tgt := 147) dX5_copy_198 rfl ?_
  exact v_sub [2, 3, 4, 5, 0] rfl (hkc147 x5 x6 x7 (x8 + (1 : Int32)) σ5)
def b_X5_copy_147 (kc147 : Int32 → Int32 → Int32 → Int32 → GM → Option (Int32 × GM)) (x5 : Int32) (x6 : Int32) (x7 : Int32) (x8 : Int32) (σ : GM) : Option (Int32 × GM) :=
  if x5 ≤ x8 then (some (x5, σ)) else (if x7 ≤ x6 then (b_X5_copy_173 kc147 x5 x6 x7 x8 x8 σ) else (b_X5_copy_173 kc147 x5 x6 x7 x8 ((x5 - (1 : Int32)) - x8) σ))
theorem vb_X5_copy_147 {g : Gt} {ad : Nat → Nat} (z : Zt) (kc147 : Int32 → Int32 → Int32 → Int32 → GM → Option (Int32 × GM)) (hkc147 : ∀ (x5 : Int32) (x6 : Int32) (x7 : Int32) (x8 : Int32) (σ : GM), V g (LM ad) 2 RX5 cX5_copy 10 (some .int) (wM g ad) iI z (kc147 x5 x6 x7 x8 σ) σ 147 [(0, .ref (aMo ad)), (5, .int x5), (6, .int x6), (7, .int x7), (8, .int x8)] []) (x5 : Int32) (x6 : Int32) (x7 : Int32) (x8 : Int32) (σ : GM) : V g (LM ad) 2 RX5 cX5_copy 10 (some .int) (wM g ad) iI z (b_X5_copy_147 kc147 x5 x6 x7 x8 σ) σ 147 [(0, .ref (aMo ad)), (5, .int x5), (6, .int x6), (7, .int x7), (8, .int x8)] [] := by
  unfold b_X5_copy_147
  refine v_iload (pc := 147) (i := 8) dX5_copy_147 rfl ?_
  refine v_iload (pc := 149) (i := 5) dX5_copy_149 rfl ?_
  refine v_icmp_ge (pc := 151) (tgt := 201) dX5_copy_151 rfl ?_ ?_
  · refine v_iload (pc := 201) (i := 5) dX5_copy_201 rfl ?_
    exact v_iret (pc := 203) dX5_copy_203
  · refine v_iload (pc := 154) (i := 6) dX5_copy_154 rfl ?_
    refine v_iload (pc := 156) (i := 7) dX5_copy_156 rfl ?_
    refine v_icmp_ge (pc := 158) (tgt := 171) dX5_copy_158 rfl ?_ ?_
    · refine v_iload (pc := 171) (i := 8) dX5_copy_171 rfl ?_
      exact v_sub [0, 1, 2, 3, 4] rfl (vb_X5_copy_173 z kc147 hkc147 x5 x6 x7 x8 x8 σ)
    · refine v_iload (pc := 161) (i := 5) dX5_copy_161 rfl ?_
      refine v_iconst (pc := 163) dX5_copy_163 ic_1 ?_
      refine v_isub (pc := 164) dX5_copy_164 ?_
      refine v_iload (pc := 165) (i := 8) dX5_copy_165 rfl ?_
      refine v_isub (pc := 167) dX5_copy_167 ?_
      refine v_goto (pc := 168) (tgt := 173) dX5_copy_168 rfl ?_
      exact v_sub [0, 1, 2, 3, 4] rfl (vb_X5_copy_173 z kc147 hkc147 x5 x6 x7 x8 ((x5 - (1 : Int32)) - x8) σ)
def k_X5_copy_147 : Nat → Int32 → Int32 → Int32 → Int32 → GM → Option (Int32 × GM)
  | 0 => fun _ _ _ _ _ => none
  | n + 1 => b_X5_copy_147 (k_X5_copy_147 n)
theorem vk_X5_copy_147 {g : Gt} {ad : Nat → Nat} (z : Zt) : ∀ (n : Nat) (x5 : Int32) (x6 : Int32) (x7 : Int32) (x8 : Int32) (σ : GM), V g (LM ad) 2 RX5 cX5_copy 10 (some .int) (wM g ad) iI z (k_X5_copy_147 n x5 x6 x7 x8 σ) σ 147 [(0, .ref (aMo ad)), (5, .int x5), (6, .int x6), (7, .int x7), (8, .int x8)] [] := by
  intro n
  induction n with
  | zero => intros; exact v_eq rfl v_none
  | succ n ih =>
    intro x5 x6 x7 x8 σ
    exact v_eq rfl (vb_X5_copy_147 z _ ih x5 x6 x7 x8 σ)
def f_X5_copy (x1 : Int32) (x2 : Int32) (x3 : Int32) (x4 : Int32) (x5 : Int32) (σ : GM) : Option (Int32 × GM) :=
  bnd (f_X5_in x1 (0 : Int32) (3 : Int32) σ) fun q1 => if q1.1 = 0 then (some ((-2 : Int32), q1.2)) else (bnd (f_X5_in x3 (0 : Int32) (3 : Int32) q1.2) fun q2 => if q2.1 ≠ 0 then (grd x1 4 (if (mA q2.2 11 x1.toNatClampNeg) = (-1 : Int32) then (some ((-11 : Int32), q2.2)) else (grd x3 4 (if (mA q2.2 11 x3.toNatClampNeg) ≠ (-1 : Int32) then (grd x1 4 (grd x3 4 (if (mA q2.2 11 x1.toNatClampNeg) = (mA q2.2 11 x3.toNatClampNeg) then (if x5 < 0 then (some ((-12 : Int32), q2.2)) else (if x2 < 0 then (some ((-12 : Int32), q2.2)) else (if x4 < 0 then (some ((-12 : Int32), q2.2)) else (grd x1 4 (if (mA q2.2 12 x1.toNatClampNeg) < x2 then (some ((-12 : Int32), q2.2)) else (grd x3 4 (if (mA q2.2 12 x3.toNatClampNeg) < x4 then (some ((-12 : Int32), q2.2)) else (grd x1 4 (if ((mA q2.2 12 x1.toNatClampNeg) - x2) < x5 then (some ((-12 : Int32), q2.2)) else (grd x3 4 (if x5 ≤ ((mA q2.2 12 x3.toNatClampNeg) - x4) then (bnd (some (((40 : Int32) * x1) + x2)) fun w3 => bnd (some (((40 : Int32) * x3) + x4)) fun w4 => k_X5_copy_147 FU x5 w3 w4 (0 : Int32) q2.2) else (some ((-12 : Int32), q2.2))))))))))))) else (some ((-13 : Int32), q2.2))))) else (some ((-11 : Int32), q2.2)))))) else (some ((-2 : Int32), q2.2)))
theorem vf_X5_copy {g : Gt} {ad : Nat → Nat} (z : Zt) (x1 : Int32) (x2 : Int32) (x3 : Int32) (x4 : Int32) (x5 : Int32) (σ : GM) : V g (LM ad) 2 RX5 cX5_copy 10 (some .int) (wM g ad) iI z (f_X5_copy x1 x2 x3 x4 x5 σ) σ 0 [(0, .ref (aMo ad)), (1, .int x1), (2, .int x2), (3, .int x3), (4, .int x4), (5, .int x5)] [] := by
  unfold f_X5_copy
  refine v_iload_n (pc := 0) (i := 1) dX5_copy_0 rfl rfl ?_
  refine v_iconst (pc := 1) dX5_copy_1 ic_0 ?_
  refine v_iconst (pc := 2) dX5_copy_2 ic_3 ?_
  refine v_callSi (pc := 3) (av := [.int x1, .int (0 : Int32), .int (3 : Int32)]) (rest := []) (ct_X5_in x1 (0 : Int32) (3 : Int32)) mi_X5_in q_715 (by decide) rfl rfl (Nat.le_of_ble_eq_true rfl) dX5_copy_3 (fun q1 => ?_)
  refine v_if_eq (pc := 6) (tgt := 18) dX5_copy_6 rfl ?_ ?_
  · refine v_bipush (pc := 18) dX5_copy_18 bp_m2 ?_
    exact v_iret (pc := 20) dX5_copy_20
  · refine v_iload_n (pc := 9) (i := 3) dX5_copy_9 rfl rfl ?_
    refine v_iconst (pc := 10) dX5_copy_10 ic_0 ?_
    refine v_iconst (pc := 11) dX5_copy_11 ic_3 ?_
    refine v_callSi (pc := 12) (av := [.int x3, .int (0 : Int32), .int (3 : Int32)]) (rest := []) (ct_X5_in x3 (0 : Int32) (3 : Int32)) mi_X5_in q_715 (by decide) rfl rfl (Nat.le_of_ble_eq_true rfl) dX5_copy_12 (fun q2 => ?_)
    refine v_if_ne (pc := 15) (tgt := 21) dX5_copy_15 rfl ?_ ?_
    · refine v_aload_n (pc := 21) (i := 0) dX5_copy_21 rfl rfl ?_
      refine gX5_sheetSort (pc := 22) q_774 dX5_copy_22 ?_
      refine v_iload_n (pc := 25) (i := 1) dX5_copy_25 rfl rfl ?_
      refine lM_sheetSort (pc := 26) dX5_copy_26 ?_
      refine v_iconst (pc := 27) dX5_copy_27 ic_m1 ?_
      refine v_icmp_eq (pc := 28) (tgt := 41) dX5_copy_28 rfl ?_ ?_
      · refine v_bipush (pc := 41) dX5_copy_41 bp_m11 ?_
        exact v_iret (pc := 43) dX5_copy_43
      · refine v_aload_n (pc := 31) (i := 0) dX5_copy_31 rfl rfl ?_
        refine gX5_sheetSort (pc := 32) q_774 dX5_copy_32 ?_
        refine v_iload_n (pc := 35) (i := 3) dX5_copy_35 rfl rfl ?_
        refine lM_sheetSort (pc := 36) dX5_copy_36 ?_
        refine v_iconst (pc := 37) dX5_copy_37 ic_m1 ?_
        refine v_icmp_ne (pc := 38) (tgt := 44) dX5_copy_38 rfl ?_ ?_
        · refine v_aload_n (pc := 44) (i := 0) dX5_copy_44 rfl rfl ?_
          refine gX5_sheetSort (pc := 45) q_774 dX5_copy_45 ?_
          refine v_iload_n (pc := 48) (i := 1) dX5_copy_48 rfl rfl ?_
          refine lM_sheetSort (pc := 49) dX5_copy_49 ?_
          refine v_aload_n (pc := 50) (i := 0) dX5_copy_50 rfl rfl ?_
          refine gX5_sheetSort (pc := 51) q_774 dX5_copy_51 ?_
          refine v_iload_n (pc := 54) (i := 3) dX5_copy_54 rfl rfl ?_
          refine lM_sheetSort (pc := 55) dX5_copy_55 ?_
          refine v_icmp_eq (pc := 56) (tgt := 62) dX5_copy_56 rfl ?_ ?_
          · refine v_iload (pc := 62) (i := 5) dX5_copy_62 rfl ?_
            refine v_if_lt (pc := 64) (tgt := 124) dX5_copy_64 rfl ?_ ?_
            · refine v_bipush (pc := 124) dX5_copy_124 bp_m12 ?_
              exact v_iret (pc := 126) dX5_copy_126
            · refine v_iload_n (pc := 67) (i := 2) dX5_copy_67 rfl rfl ?_
              refine v_if_lt (pc := 68) (tgt := 124) dX5_copy_68 rfl ?_ ?_
              · refine v_bipush (pc := 124) dX5_copy_124 bp_m12 ?_
                exact v_iret (pc := 126) dX5_copy_126
              · refine v_iload (pc := 71) (i := 4) dX5_copy_71 rfl ?_
                refine v_if_lt (pc := 73) (tgt := 124) dX5_copy_73 rfl ?_ ?_
                · refine v_bipush (pc := 124) dX5_copy_124 bp_m12 ?_
                  exact v_iret (pc := 126) dX5_copy_126
                · refine v_iload_n (pc := 76) (i := 2) dX5_copy_76 rfl rfl ?_
                  refine v_aload_n (pc := 77) (i := 0) dX5_copy_77 rfl rfl ?_
                  refine gX5_sheetSize (pc := 78) q_775 dX5_copy_78 ?_
                  refine v_iload_n (pc := 81) (i := 1) dX5_copy_81 rfl rfl ?_
                  refine lM_sheetSize (pc := 82) dX5_copy_82 ?_
                  refine v_icmp_gt (pc := 83) (tgt := 124) dX5_copy_83 rfl ?_ ?_
                  · refine v_bipush (pc := 124) dX5_copy_124 bp_m12 ?_
                    exact v_iret (pc := 126) dX5_copy_126
                  · refine v_iload (pc := 86) (i := 4) dX5_copy_86 rfl ?_
                    refine v_aload_n (pc := 88) (i := 0) dX5_copy_88 rfl rfl ?_
                    refine gX5_sheetSize (pc := 89) q_775 dX5_copy_89 ?_
                    refine v_iload_n (pc := 92) (i := 3) dX5_copy_92 rfl rfl ?_
                    refine lM_sheetSize (pc := 93) dX5_copy_93 ?_
                    refine v_icmp_gt (pc := 94) (tgt := 124) dX5_copy_94 rfl ?_ ?_
                    · refine v_bipush (pc := 124) dX5_copy_124 bp_m12 ?_
                      exact v_iret (pc := 126) dX5_copy_126
                    · refine v_iload (pc := 97) (i := 5) dX5_copy_97 rfl ?_
                      refine v_aload_n (pc := 99) (i := 0) dX5_copy_99 rfl rfl ?_
                      refine gX5_sheetSize (pc := 100) q_775 dX5_copy_100 ?_
                      refine v_iload_n (pc := 103) (i := 1) dX5_copy_103 rfl rfl ?_
                      refine lM_sheetSize (pc := 104) dX5_copy_104 ?_
                      refine v_iload_n (pc := 105) (i := 2) dX5_copy_105 rfl rfl ?_
                      refine v_isub (pc := 106) dX5_copy_106 ?_
                      refine v_icmp_gt (pc := 107) (tgt := 124) dX5_copy_107 rfl ?_ ?_
                      · refine v_bipush (pc := 124) dX5_copy_124 bp_m12 ?_
                        exact v_iret (pc := 126) dX5_copy_126
                      · refine v_iload (pc := 110) (i := 5) dX5_copy_110 rfl ?_
                        refine v_aload_n (pc := 112) (i := 0) dX5_copy_112 rfl rfl ?_
                        refine gX5_sheetSize (pc := 113) q_775 dX5_copy_113 ?_
                        refine v_iload_n (pc := 116) (i := 3) dX5_copy_116 rfl rfl ?_
                        refine lM_sheetSize (pc := 117) dX5_copy_117 ?_
                        refine v_iload (pc := 118) (i := 4) dX5_copy_118 rfl ?_
                        refine v_isub (pc := 120) dX5_copy_120 ?_
                        refine v_icmp_le (pc := 121) (tgt := 127) dX5_copy_121 rfl ?_ ?_
                        · refine v_bipush (pc := 127) dX5_copy_127 bp_40 ?_
                          refine v_iload_n (pc := 129) (i := 1) dX5_copy_129 rfl rfl ?_
                          refine v_imul (pc := 130) dX5_copy_130 ?_
                          refine v_iload_n (pc := 131) (i := 2) dX5_copy_131 rfl rfl ?_
                          refine v_iadd (pc := 132) dX5_copy_132 ?_
                          refine v_nmi (fun w3 => ?_)
                          refine v_istore (pc := 133) (lv' := [(6, .int w3), (0, .ref (aMo ad)), (1, .int x1), (2, .int x2), (3, .int x3), (4, .int x4), (5, .int x5)]) (i := 6) dX5_copy_133 (by decide) rfl ?_
                          refine v_bipush (pc := 135) dX5_copy_135 bp_40 ?_
                          refine v_iload_n (pc := 137) (i := 3) dX5_copy_137 rfl rfl ?_
                          refine v_imul (pc := 138) dX5_copy_138 ?_
                          refine v_iload (pc := 139) (i := 4) dX5_copy_139 rfl ?_
                          refine v_iadd (pc := 141) dX5_copy_141 ?_
                          refine v_nmi (fun w4 => ?_)
                          refine v_istore (pc := 142) (lv' := [(7, .int w4), (6, .int w3), (0, .ref (aMo ad)), (1, .int x1), (2, .int x2), (3, .int x3), (4, .int x4), (5, .int x5)]) (i := 7) dX5_copy_142 (by decide) rfl ?_
                          refine v_iconst (pc := 144) dX5_copy_144 ic_0 ?_
                          refine v_istore (pc := 145) (lv' := [(8, .int (0 : Int32)), (7, .int w4), (6, .int w3), (0, .ref (aMo ad)), (1, .int x1), (2, .int x2), (3, .int x3), (4, .int x4), (5, .int x5)]) (i := 8) dX5_copy_145 (by decide) rfl ?_
                          exact v_sub [3, 8, 2, 1, 0] rfl (vk_X5_copy_147 z FU x5 w3 w4 (0 : Int32) q2.2)
                        · refine v_bipush (pc := 124) dX5_copy_124 bp_m12 ?_
                          exact v_iret (pc := 126) dX5_copy_126
          · refine v_bipush (pc := 59) dX5_copy_59 bp_m13 ?_
            exact v_iret (pc := 61) dX5_copy_61
        · refine v_bipush (pc := 41) dX5_copy_41 bp_m11 ?_
          exact v_iret (pc := 43) dX5_copy_43
    · refine v_bipush (pc := 18) dX5_copy_18 bp_m2 ?_
      exact v_iret (pc := 20) dX5_copy_20
theorem ct_X5_copy {g : Gt} {ad : Nat → Nat} (x1 : Int32) (x2 : Int32) (x3 : Int32) (x4 : Int32) (x5 : Int32) : CT g (LM ad) yX5_copy cX5_copy 10 (some .int) 2 [.ref (aMo ad), .int x1, .int x2, .int x3, .int x4, .int x5] iI (wM g ad) (f_X5_copy x1 x2 x3 x4 x5) :=
  ct_of_V (own := RX5) (lv0 := [(0, .ref (aMo ad)), (1, .int x1), (2, .int x2), (3, .int x3), (4, .int x4), (5, .int x5)]) (by decide +kernel) rfl (Nat.le_of_ble_eq_true rfl) rfl (fun z σ => vf_X5_copy z x1 x2 x3 x4 x5 σ)
-- LighthouseLiedToModel.shipsBy
theorem dX5_shipsBy_0 : decode cX5_shipsBy 0 = .ok (.iload_n 1, 1) := by decide +kernel
theorem dX5_shipsBy_1 : decode cX5_shipsBy 1 = .ok (.iconst 0, 1) := by decide +kernel
theorem dX5_shipsBy_2 : decode cX5_shipsBy 2 = .ok (.iconst 3, 1) := by decide +kernel
theorem dX5_shipsBy_3 : decode cX5_shipsBy 3 = .ok (.invokestatic 78, 3) := by decide +kernel
theorem dX5_shipsBy_6 : decode cX5_shipsBy 6 = .ok (.ifCond .eq 23, 3) := by decide +kernel
theorem dX5_shipsBy_9 : decode cX5_shipsBy 9 = .ok (.iload_n 2, 1) := by decide +kernel
theorem dX5_shipsBy_10 : decode cX5_shipsBy 10 = .ok (.iconst 0, 1) := by decide +kernel
theorem dX5_shipsBy_11 : decode cX5_shipsBy 11 = .ok (.iconst 2, 1) := by decide +kernel
theorem dX5_shipsBy_12 : decode cX5_shipsBy 12 = .ok (.invokestatic 78, 3) := by decide +kernel
theorem dX5_shipsBy_15 : decode cX5_shipsBy 15 = .ok (.ifCond .eq 14, 3) := by decide +kernel
theorem dX5_shipsBy_18 : decode cX5_shipsBy 18 = .ok (.iload 4, 2) := by decide +kernel
theorem dX5_shipsBy_20 : decode cX5_shipsBy 20 = .ok (.iconst 0, 1) := by decide +kernel
theorem dX5_shipsBy_21 : decode cX5_shipsBy 21 = .ok (.bipush 6, 2) := by decide +kernel
theorem dX5_shipsBy_23 : decode cX5_shipsBy 23 = .ok (.invokestatic 78, 3) := by decide +kernel
theorem dX5_shipsBy_26 : decode cX5_shipsBy 26 = .ok (.ifCond .ne 6, 3) := by decide +kernel
theorem dX5_shipsBy_29 : decode cX5_shipsBy 29 = .ok (.bipush (-2), 2) := by decide +kernel
theorem dX5_shipsBy_31 : decode cX5_shipsBy 31 = .ok (.ireturn, 1) := by decide +kernel
theorem dX5_shipsBy_32 : decode cX5_shipsBy 32 = .ok (.aload_n 0, 1) := by decide +kernel
theorem dX5_shipsBy_33 : decode cX5_shipsBy 33 = .ok (.getfield 43, 3) := by decide +kernel
theorem dX5_shipsBy_36 : decode cX5_shipsBy 36 = .ok (.iload_n 1, 1) := by decide +kernel
theorem dX5_shipsBy_37 : decode cX5_shipsBy 37 = .ok (.iaload, 1) := by decide +kernel
theorem dX5_shipsBy_38 : decode cX5_shipsBy 38 = .ok (.iconst (-1), 1) := by decide +kernel
theorem dX5_shipsBy_39 : decode cX5_shipsBy 39 = .ok (.if_icmp .ne 6, 3) := by decide +kernel
theorem dX5_shipsBy_42 : decode cX5_shipsBy 42 = .ok (.bipush (-11), 2) := by decide +kernel
theorem dX5_shipsBy_44 : decode cX5_shipsBy 44 = .ok (.ireturn, 1) := by decide +kernel
theorem dX5_shipsBy_45 : decode cX5_shipsBy 45 = .ok (.aload_n 0, 1) := by decide +kernel
theorem dX5_shipsBy_46 : decode cX5_shipsBy 46 = .ok (.getfield 43, 3) := by decide +kernel
theorem dX5_shipsBy_49 : decode cX5_shipsBy 49 = .ok (.iload_n 1, 1) := by decide +kernel
theorem dX5_shipsBy_50 : decode cX5_shipsBy 50 = .ok (.iaload, 1) := by decide +kernel
theorem dX5_shipsBy_51 : decode cX5_shipsBy 51 = .ok (.iload_n 2, 1) := by decide +kernel
theorem dX5_shipsBy_52 : decode cX5_shipsBy 52 = .ok (.if_icmp .eq 6, 3) := by decide +kernel
theorem dX5_shipsBy_55 : decode cX5_shipsBy 55 = .ok (.bipush (-13), 2) := by decide +kernel
theorem dX5_shipsBy_57 : decode cX5_shipsBy 57 = .ok (.ireturn, 1) := by decide +kernel
theorem dX5_shipsBy_58 : decode cX5_shipsBy 58 = .ok (.iconst 0, 1) := by decide +kernel
theorem dX5_shipsBy_59 : decode cX5_shipsBy 59 = .ok (.istore 5, 2) := by decide +kernel
theorem dX5_shipsBy_61 : decode cX5_shipsBy 61 = .ok (.iconst 0, 1) := by decide +kernel
theorem dX5_shipsBy_62 : decode cX5_shipsBy 62 = .ok (.istore 6, 2) := by decide +kernel
theorem dX5_shipsBy_64 : decode cX5_shipsBy 64 = .ok (.iload 6, 2) := by decide +kernel
theorem dX5_shipsBy_66 : decode cX5_shipsBy 66 = .ok (.iload 4, 2) := by decide +kernel
theorem dX5_shipsBy_68 : decode cX5_shipsBy 68 = .ok (.if_icmp .ge 85, 3) := by decide +kernel
theorem dX5_shipsBy_71 : decode cX5_shipsBy 71 = .ok (.iload_n 3, 1) := by decide +kernel
theorem dX5_shipsBy_72 : decode cX5_shipsBy 72 = .ok (.iconst 2, 1) := by decide +kernel
theorem dX5_shipsBy_73 : decode cX5_shipsBy 73 = .ok (.iload 6, 2) := by decide +kernel
theorem dX5_shipsBy_75 : decode cX5_shipsBy 75 = .ok (.imul, 1) := by decide +kernel
theorem dX5_shipsBy_76 : decode cX5_shipsBy 76 = .ok (.iadd, 1) := by decide +kernel
theorem dX5_shipsBy_77 : decode cX5_shipsBy 77 = .ok (.istore 7, 2) := by decide +kernel
theorem dX5_shipsBy_79 : decode cX5_shipsBy 79 = .ok (.iload_n 3, 1) := by decide +kernel
theorem dX5_shipsBy_80 : decode cX5_shipsBy 80 = .ok (.ifCond .lt 22, 3) := by decide +kernel
theorem dX5_shipsBy_83 : decode cX5_shipsBy 83 = .ok (.iload 7, 2) := by decide +kernel
theorem dX5_shipsBy_85 : decode cX5_shipsBy 85 = .ok (.iload_n 3, 1) := by decide +kernel
theorem dX5_shipsBy_86 : decode cX5_shipsBy 86 = .ok (.if_icmp .lt 16, 3) := by decide +kernel
theorem dX5_shipsBy_89 : decode cX5_shipsBy 89 = .ok (.iload 7, 2) := by decide +kernel
theorem dX5_shipsBy_91 : decode cX5_shipsBy 91 = .ok (.aload_n 0, 1) := by decide +kernel
theorem dX5_shipsBy_92 : decode cX5_shipsBy 92 = .ok (.getfield 46, 3) := by decide +kernel
theorem dX5_shipsBy_95 : decode cX5_shipsBy 95 = .ok (.iload_n 1, 1) := by decide +kernel
theorem dX5_shipsBy_96 : decode cX5_shipsBy 96 = .ok (.iaload, 1) := by decide +kernel
theorem dX5_shipsBy_97 : decode cX5_shipsBy 97 = .ok (.iconst 2, 1) := by decide +kernel
theorem dX5_shipsBy_98 : decode cX5_shipsBy 98 = .ok (.isub, 1) := by decide +kernel
theorem dX5_shipsBy_99 : decode cX5_shipsBy 99 = .ok (.if_icmp .le 6, 3) := by decide +kernel
theorem dX5_shipsBy_102 : decode cX5_shipsBy 102 = .ok (.bipush (-12), 2) := by decide +kernel
theorem dX5_shipsBy_104 : decode cX5_shipsBy 104 = .ok (.ireturn, 1) := by decide +kernel
theorem dX5_shipsBy_105 : decode cX5_shipsBy 105 = .ok (.bipush 40, 2) := by decide +kernel
theorem dX5_shipsBy_107 : decode cX5_shipsBy 107 = .ok (.iload_n 1, 1) := by decide +kernel
theorem dX5_shipsBy_108 : decode cX5_shipsBy 108 = .ok (.imul, 1) := by decide +kernel
theorem dX5_shipsBy_109 : decode cX5_shipsBy 109 = .ok (.iload 7, 2) := by decide +kernel
theorem dX5_shipsBy_111 : decode cX5_shipsBy 111 = .ok (.iadd, 1) := by decide +kernel
theorem dX5_shipsBy_112 : decode cX5_shipsBy 112 = .ok (.istore 8, 2) := by decide +kernel
theorem dX5_shipsBy_114 : decode cX5_shipsBy 114 = .ok (.iload 5, 2) := by decide +kernel
theorem dX5_shipsBy_116 : decode cX5_shipsBy 116 = .ok (.aload_n 0, 1) := by decide +kernel
theorem dX5_shipsBy_117 : decode cX5_shipsBy 117 = .ok (.aload_n 0, 1) := by decide +kernel
theorem dX5_shipsBy_118 : decode cX5_shipsBy 118 = .ok (.getfield 49, 3) := by decide +kernel
theorem dX5_shipsBy_121 : decode cX5_shipsBy 121 = .ok (.iload 8, 2) := by decide +kernel
theorem dX5_shipsBy_123 : decode cX5_shipsBy 123 = .ok (.iaload, 1) := by decide +kernel
theorem dX5_shipsBy_124 : decode cX5_shipsBy 124 = .ok (.aload_n 0, 1) := by decide +kernel
theorem dX5_shipsBy_125 : decode cX5_shipsBy 125 = .ok (.getfield 49, 3) := by decide +kernel
theorem dX5_shipsBy_128 : decode cX5_shipsBy 128 = .ok (.iload 8, 2) := by decide +kernel
theorem dX5_shipsBy_130 : decode cX5_shipsBy 130 = .ok (.iconst 1, 1) := by decide +kernel
theorem dX5_shipsBy_131 : decode cX5_shipsBy 131 = .ok (.iadd, 1) := by decide +kernel
theorem dX5_shipsBy_132 : decode cX5_shipsBy 132 = .ok (.iaload, 1) := by decide +kernel
theorem dX5_shipsBy_133 : decode cX5_shipsBy 133 = .ok (.invokevirtual 277, 3) := by decide +kernel
theorem dX5_shipsBy_136 : decode cX5_shipsBy 136 = .ok (.ifCond .lt 7, 3) := by decide +kernel
theorem dX5_shipsBy_139 : decode cX5_shipsBy 139 = .ok (.iconst 1, 1) := by decide +kernel
theorem dX5_shipsBy_140 : decode cX5_shipsBy 140 = .ok (.goto 4, 3) := by decide +kernel
theorem dX5_shipsBy_143 : decode cX5_shipsBy 143 = .ok (.iconst 0, 1) := by decide +kernel
theorem dX5_shipsBy_144 : decode cX5_shipsBy 144 = .ok (.iadd, 1) := by decide +kernel
theorem dX5_shipsBy_145 : decode cX5_shipsBy 145 = .ok (.istore 5, 2) := by decide +kernel
theorem dX5_shipsBy_147 : decode cX5_shipsBy 147 = .ok (.iinc 6 1, 3) := by decide +kernel
theorem dX5_shipsBy_150 : decode cX5_shipsBy 150 = .ok (.goto (-86), 3) := by decide +kernel
theorem dX5_shipsBy_153 : decode cX5_shipsBy 153 = .ok (.iload 5, 2) := by decide +kernel
theorem dX5_shipsBy_155 : decode cX5_shipsBy 155 = .ok (.ireturn, 1) := by decide +kernel
def b_X5_shipsBy_64 (kc64 : Int32 → Int32 → Int32 → Int32 → Int32 → GM → Option (Int32 × GM)) (x1 : Int32) (x3 : Int32) (x4 : Int32) (x5 : Int32) (x6 : Int32) (σ : GM) : Option (Int32 × GM) :=
  if x4 ≤ x6 then (some (x5, σ)) else (bnd (some (x3 + ((2 : Int32) * x6))) fun w4 => if x3 < 0 then (some ((-12 : Int32), σ)) else (if w4 < x3 then (some ((-12 : Int32), σ)) else (grd x1 4 (if w4 ≤ ((mA σ 12 x1.toNatClampNeg) - (2 : Int32)) then (bnd (some (((40 : Int32) * x1) + w4)) fun w5 => grd w5 160 (grd (w5 + (1 : Int32)) 160 (bnd (f_X5_ship (mA σ 13 w5.toNatClampNeg) (mA σ 13 (w5 + (1 : Int32)).toNatClampNeg) σ) fun q6 => if q6.1 < 0 then (bnd (some (x5 + (0 : Int32))) fun w7 => kc64 x1 x3 x4 w7 (x6 + (1 : Int32)) q6.2) else (bnd (some (x5 + (1 : Int32))) fun w8 => kc64 x1 x3 x4 w8 (x6 + (1 : Int32)) q6.2)))) else (some ((-12 : Int32), σ))))))
theorem vb_X5_shipsBy_64 {g : Gt} {ad : Nat → Nat} (z : Zt) (kc64 : Int32 → Int32 → Int32 → Int32 → Int32 → GM → Option (Int32 × GM)) (hkc64 : ∀ (x1 : Int32) (x3 : Int32) (x4 : Int32) (x5 : Int32) (x6 : Int32) (σ : GM), V g (LM ad) 3 RX5 cX5_shipsBy 9 (some .int) (wM g ad) iI z (kc64 x1 x3 x4 x5 x6 σ) σ 64 [(0, .ref (aMo ad)), (1, .int x1), (3, .int x3), (4, .int x4), (5, .int x5), (6, .int x6)] []) (x1 : Int32) (x3 : Int32) (x4 : Int32) (x5 : Int32) (x6 : Int32) (σ : GM) : V g (LM ad) 3 RX5 cX5_shipsBy 9 (some .int) (wM g ad) iI z (b_X5_shipsBy_64 kc64 x1 x3 x4 x5 x6 σ) σ 64 [(0, .ref (aMo ad)), (1, .int x1), (3, .int x3), (4, .int x4), (5, .int x5), (6, .int x6)] [] := by
  unfold b_X5_shipsBy_64
  refine v_iload (pc := 64) (i := 6) dX5_shipsBy_64 rfl ?_
  refine v_iload (pc := 66) (i := 4) dX5_shipsBy_66 rfl ?_
  refine v_icmp_ge (pc := 68) (tgt := 153) dX5_shipsBy_68 rfl ?_ ?_
  · refine v_iload (pc := 153) (i := 5) dX5_shipsBy_153 rfl ?_
    exact v_iret (pc := 155) dX5_shipsBy_155
  · refine v_iload_n (pc := 71) (i := 3) dX5_shipsBy_71 rfl rfl ?_
    refine v_iconst (pc := 72) dX5_shipsBy_72 ic_2 ?_
    refine v_iload (pc := 73) (i := 6) dX5_shipsBy_73 rfl ?_
    refine v_imul (pc := 75) dX5_shipsBy_75 ?_
    refine v_iadd (pc := 76) dX5_shipsBy_76 ?_
    refine v_nmi (fun w4 => ?_)
    refine v_istore (pc := 77) (lv' := [(7, .int w4), (0, .ref (aMo ad)), (1, .int x1), (3, .int x3), (4, .int x4), (5, .int x5), (6, .int x6)]) (i := 7) dX5_shipsBy_77 (by decide) rfl ?_
    refine v_iload_n (pc := 79) (i := 3) dX5_shipsBy_79 rfl rfl ?_
    refine v_if_lt (pc := 80) (tgt := 102) dX5_shipsBy_80 rfl ?_ ?_
    · refine v_bipush (pc := 102) dX5_shipsBy_102 bp_m12 ?_
      exact v_iret (pc := 104) dX5_shipsBy_104
    · refine v_iload (pc := 83) (i := 7) dX5_shipsBy_83 rfl ?_
      refine v_iload_n (pc := 85) (i := 3) dX5_shipsBy_85 rfl rfl ?_
      refine v_icmp_lt (pc := 86) (tgt := 102) dX5_shipsBy_86 rfl ?_ ?_
      · refine v_bipush (pc := 102) dX5_shipsBy_102 bp_m12 ?_
        exact v_iret (pc := 104) dX5_shipsBy_104
      · refine v_iload (pc := 89) (i := 7) dX5_shipsBy_89 rfl ?_
        refine v_aload_n (pc := 91) (i := 0) dX5_shipsBy_91 rfl rfl ?_
        refine gX5_sheetSize (pc := 92) q_775 dX5_shipsBy_92 ?_
        refine v_iload_n (pc := 95) (i := 1) dX5_shipsBy_95 rfl rfl ?_
        refine lM_sheetSize (pc := 96) dX5_shipsBy_96 ?_
        refine v_iconst (pc := 97) dX5_shipsBy_97 ic_2 ?_
        refine v_isub (pc := 98) dX5_shipsBy_98 ?_
        refine v_icmp_le (pc := 99) (tgt := 105) dX5_shipsBy_99 rfl ?_ ?_
        · refine v_bipush (pc := 105) dX5_shipsBy_105 bp_40 ?_
          refine v_iload_n (pc := 107) (i := 1) dX5_shipsBy_107 rfl rfl ?_
          refine v_imul (pc := 108) dX5_shipsBy_108 ?_
          refine v_iload (pc := 109) (i := 7) dX5_shipsBy_109 rfl ?_
          refine v_iadd (pc := 111) dX5_shipsBy_111 ?_
          refine v_nmi (fun w5 => ?_)
          refine v_istore (pc := 112) (lv' := [(8, .int w5), (7, .int w4), (0, .ref (aMo ad)), (1, .int x1), (3, .int x3), (4, .int x4), (5, .int x5), (6, .int x6)]) (i := 8) dX5_shipsBy_112 (by decide) rfl ?_
          refine v_iload (pc := 114) (i := 5) dX5_shipsBy_114 rfl ?_
          refine v_aload_n (pc := 116) (i := 0) dX5_shipsBy_116 rfl rfl ?_
          refine v_aload_n (pc := 117) (i := 0) dX5_shipsBy_117 rfl rfl ?_
          refine gX5_cells (pc := 118) q_776 dX5_shipsBy_118 ?_
          refine v_iload (pc := 121) (i := 8) dX5_shipsBy_121 rfl ?_
          refine lM_cells (pc := 123) dX5_shipsBy_123 ?_
          refine v_aload_n (pc := 124) (i := 0) dX5_shipsBy_124 rfl rfl ?_
          refine gX5_cells (pc := 125) q_776 dX5_shipsBy_125 ?_
          refine v_iload (pc := 128) (i := 8) dX5_shipsBy_128 rfl ?_
          refine v_iconst (pc := 130) dX5_shipsBy_130 ic_1 ?_
          refine v_iadd (pc := 131) dX5_shipsBy_131 ?_
          refine lM_cells (pc := 132) dX5_shipsBy_132 ?_
          refine v_callVi (pc := 133) rcX5 (As := [.int (mA σ 13 w5.toNatClampNeg), .int (mA σ 13 (w5 + (1 : Int32)).toNatClampNeg)]) (rest := [.int x5]) (ct_X5_ship (mA σ 13 w5.toNatClampNeg) (mA σ 13 (w5 + (1 : Int32)).toNatClampNeg)) mi_X5_ship q_1139 (by decide) rfl rfl (Nat.le_of_ble_eq_true rfl) dX5_shipsBy_133 (fun q6 => ?_)
          refine v_if_lt (pc := 136) (tgt := 143) dX5_shipsBy_136 rfl ?_ ?_
          · refine v_iconst (pc := 143) dX5_shipsBy_143 ic_0 ?_
            refine v_iadd (pc := 144) dX5_shipsBy_144 ?_
            refine v_nmi (fun w7 => ?_)
            refine v_istore (pc := 145) (lv' := [(5, .int w7), (8, .int w5), (7, .int w4), (0, .ref (aMo ad)), (1, .int x1), (3, .int x3), (4, .int x4), (6, .int x6)]) (i := 5) dX5_shipsBy_145 (by decide) rfl ?_
            refine v_iinc (pc := 147) (lv' := [(6, .int (x6 + (1 : Int32))), (5, .int w7), (8, .int w5), (7, .int w4), (0, .ref (aMo ad)), (1, .int x1), (3, .int x3), (4, .int x4)]) (i := 6) dX5_shipsBy_147 rfl ic_1 (by decide) rfl ?_
            refine v_goto (pc := 150) (tgt := 64) dX5_shipsBy_150 rfl ?_
            exact v_sub [4, 5, 6, 7, 1, 0] rfl (hkc64 x1 x3 x4 w7 (x6 + (1 : Int32)) q6.2)
          · refine v_iconst (pc := 139) dX5_shipsBy_139 ic_1 ?_
            refine v_goto (pc := 140) (tgt := 144) dX5_shipsBy_140 rfl ?_
            refine v_iadd (pc := 144) dX5_shipsBy_144 ?_
            refine v_nmi (fun w8 => ?_)
            refine v_istore (pc := 145) (lv' := [(5, .int w8), (8, .int w5), (7, .int w4), (0, .ref (aMo ad)), (1, .int x1), (3, .int x3), (4, .int x4), (6, .int x6)]) (i := 5) dX5_shipsBy_145 (by decide) rfl ?_
            refine v_iinc (pc := 147) (lv' := [(6, .int (x6 + (1 : Int32))), (5, .int w8), (8, .int w5), (7, .int w4), (0, .ref (aMo ad)), (1, .int x1), (3, .int x3), (4, .int x4)]) (i := 6) dX5_shipsBy_147 rfl ic_1 (by decide) rfl ?_
            refine v_goto (pc := 150) (tgt := 64) dX5_shipsBy_150 rfl ?_
            exact v_sub [4, 5, 6, 7, 1, 0] rfl (hkc64 x1 x3 x4 w8 (x6 + (1 : Int32)) q6.2)
        · refine v_bipush (pc := 102) dX5_shipsBy_102 bp_m12 ?_
          exact v_iret (pc := 104) dX5_shipsBy_104
def k_X5_shipsBy_64 : Nat → Int32 → Int32 → Int32 → Int32 → Int32 → GM → Option (Int32 × GM)
  | 0 => fun _ _ _ _ _ _ => none
  | n + 1 => b_X5_shipsBy_64 (k_X5_shipsBy_64 n)
theorem vk_X5_shipsBy_64 {g : Gt} {ad : Nat → Nat} (z : Zt) : ∀ (n : Nat) (x1 : Int32) (x3 : Int32) (x4 : Int32) (x5 : Int32) (x6 : Int32) (σ : GM), V g (LM ad) 3 RX5 cX5_shipsBy 9 (some .int) (wM g ad) iI z (k_X5_shipsBy_64 n x1 x3 x4 x5 x6 σ) σ 64 [(0, .ref (aMo ad)), (1, .int x1), (3, .int x3), (4, .int x4), (5, .int x5), (6, .int x6)] [] := by
  intro n
  induction n with
  | zero => intros; exact v_eq rfl v_none
  | succ n ih =>
    intro x1 x3 x4 x5 x6 σ
    exact v_eq rfl (vb_X5_shipsBy_64 z _ ih x1 x3 x4 x5 x6 σ)
def f_X5_shipsBy (x1 : Int32) (x2 : Int32) (x3 : Int32) (x4 : Int32) (σ : GM) : Option (Int32 × GM) :=
  bnd (f_X5_in x1 (0 : Int32) (3 : Int32) σ) fun q1 => if q1.1 = 0 then (some ((-2 : Int32), q1.2)) else (bnd (f_X5_in x2 (0 : Int32) (2 : Int32) q1.2) fun q2 => if q2.1 = 0 then (some ((-2 : Int32), q2.2)) else (bnd (f_X5_in x4 (0 : Int32) (6 : Int32) q2.2) fun q3 => if q3.1 ≠ 0 then (grd x1 4 (if (mA q3.2 11 x1.toNatClampNeg) ≠ (-1 : Int32) then (grd x1 4 (if (mA q3.2 11 x1.toNatClampNeg) = x2 then (k_X5_shipsBy_64 FU x1 x3 x4 (0 : Int32) (0 : Int32) q3.2) else (some ((-13 : Int32), q3.2)))) else (some ((-11 : Int32), q3.2)))) else (some ((-2 : Int32), q3.2))))
theorem vf_X5_shipsBy {g : Gt} {ad : Nat → Nat} (z : Zt) (x1 : Int32) (x2 : Int32) (x3 : Int32) (x4 : Int32) (σ : GM) : V g (LM ad) 3 RX5 cX5_shipsBy 9 (some .int) (wM g ad) iI z (f_X5_shipsBy x1 x2 x3 x4 σ) σ 0 [(0, .ref (aMo ad)), (1, .int x1), (2, .int x2), (3, .int x3), (4, .int x4)] [] := by
  unfold f_X5_shipsBy
  refine v_iload_n (pc := 0) (i := 1) dX5_shipsBy_0 rfl rfl ?_
  refine v_iconst (pc := 1) dX5_shipsBy_1 ic_0 ?_
  refine v_iconst (pc := 2) dX5_shipsBy_2 ic_3 ?_
  refine v_callSi (pc := 3) (av := [.int x1, .int (0 : Int32), .int (3 : Int32)]) (rest := []) (ct_X5_in x1 (0 : Int32) (3 : Int32)) mi_X5_in q_715 (by decide) rfl rfl (Nat.le_of_ble_eq_true rfl) dX5_shipsBy_3 (fun q1 => ?_)
  refine v_if_eq (pc := 6) (tgt := 29) dX5_shipsBy_6 rfl ?_ ?_
  · refine v_bipush (pc := 29) dX5_shipsBy_29 bp_m2 ?_
    exact v_iret (pc := 31) dX5_shipsBy_31
  · refine v_iload_n (pc := 9) (i := 2) dX5_shipsBy_9 rfl rfl ?_
    refine v_iconst (pc := 10) dX5_shipsBy_10 ic_0 ?_
    refine v_iconst (pc := 11) dX5_shipsBy_11 ic_2 ?_
    refine v_callSi (pc := 12) (av := [.int x2, .int (0 : Int32), .int (2 : Int32)]) (rest := []) (ct_X5_in x2 (0 : Int32) (2 : Int32)) mi_X5_in q_715 (by decide) rfl rfl (Nat.le_of_ble_eq_true rfl) dX5_shipsBy_12 (fun q2 => ?_)
    refine v_if_eq (pc := 15) (tgt := 29) dX5_shipsBy_15 rfl ?_ ?_
    · refine v_bipush (pc := 29) dX5_shipsBy_29 bp_m2 ?_
      exact v_iret (pc := 31) dX5_shipsBy_31
    · refine v_iload (pc := 18) (i := 4) dX5_shipsBy_18 rfl ?_
      refine v_iconst (pc := 20) dX5_shipsBy_20 ic_0 ?_
      refine v_bipush (pc := 21) dX5_shipsBy_21 bp_6 ?_
      refine v_callSi (pc := 23) (av := [.int x4, .int (0 : Int32), .int (6 : Int32)]) (rest := []) (ct_X5_in x4 (0 : Int32) (6 : Int32)) mi_X5_in q_715 (by decide) rfl rfl (Nat.le_of_ble_eq_true rfl) dX5_shipsBy_23 (fun q3 => ?_)
      refine v_if_ne (pc := 26) (tgt := 32) dX5_shipsBy_26 rfl ?_ ?_
      · refine v_aload_n (pc := 32) (i := 0) dX5_shipsBy_32 rfl rfl ?_
        refine gX5_sheetSort (pc := 33) q_774 dX5_shipsBy_33 ?_
        refine v_iload_n (pc := 36) (i := 1) dX5_shipsBy_36 rfl rfl ?_
        refine lM_sheetSort (pc := 37) dX5_shipsBy_37 ?_
        refine v_iconst (pc := 38) dX5_shipsBy_38 ic_m1 ?_
        refine v_icmp_ne (pc := 39) (tgt := 45) dX5_shipsBy_39 rfl ?_ ?_
        · refine v_aload_n (pc := 45) (i := 0) dX5_shipsBy_45 rfl rfl ?_
          refine gX5_sheetSort (pc := 46) q_774 dX5_shipsBy_46 ?_
          refine v_iload_n (pc := 49) (i := 1) dX5_shipsBy_49 rfl rfl ?_
          refine lM_sheetSort (pc := 50) dX5_shipsBy_50 ?_
          refine v_iload_n (pc := 51) (i := 2) dX5_shipsBy_51 rfl rfl ?_
          refine v_icmp_eq (pc := 52) (tgt := 58) dX5_shipsBy_52 rfl ?_ ?_
          · refine v_iconst (pc := 58) dX5_shipsBy_58 ic_0 ?_
            refine v_istore (pc := 59) (lv' := [(5, .int (0 : Int32)), (0, .ref (aMo ad)), (1, .int x1), (2, .int x2), (3, .int x3), (4, .int x4)]) (i := 5) dX5_shipsBy_59 (by decide) rfl ?_
            refine v_iconst (pc := 61) dX5_shipsBy_61 ic_0 ?_
            refine v_istore (pc := 62) (lv' := [(6, .int (0 : Int32)), (5, .int (0 : Int32)), (0, .ref (aMo ad)), (1, .int x1), (2, .int x2), (3, .int x3), (4, .int x4)]) (i := 6) dX5_shipsBy_62 (by decide) rfl ?_
            exact v_sub [2, 3, 5, 6, 1, 0] rfl (vk_X5_shipsBy_64 z FU x1 x3 x4 (0 : Int32) (0 : Int32) q3.2)
          · refine v_bipush (pc := 55) dX5_shipsBy_55 bp_m13 ?_
            exact v_iret (pc := 57) dX5_shipsBy_57
        · refine v_bipush (pc := 42) dX5_shipsBy_42 bp_m11 ?_
          exact v_iret (pc := 44) dX5_shipsBy_44
      · refine v_bipush (pc := 29) dX5_shipsBy_29 bp_m2 ?_
        exact v_iret (pc := 31) dX5_shipsBy_31
theorem ct_X5_shipsBy {g : Gt} {ad : Nat → Nat} (x1 : Int32) (x2 : Int32) (x3 : Int32) (x4 : Int32) : CT g (LM ad) yX5_shipsBy cX5_shipsBy 9 (some .int) 3 [.ref (aMo ad), .int x1, .int x2, .int x3, .int x4] iI (wM g ad) (f_X5_shipsBy x1 x2 x3 x4) :=
  ct_of_V (own := RX5) (lv0 := [(0, .ref (aMo ad)), (1, .int x1), (2, .int x2), (3, .int x3), (4, .int x4)]) (by decide +kernel) rfl (Nat.le_of_ble_eq_true rfl) rfl (fun z σ => vf_X5_shipsBy z x1 x2 x3 x4 σ)
-- LighthouseLiedToModel.isUnder
theorem dX5_isUnder_0 : decode cX5_isUnder 0 = .ok (.iload_n 1, 1) := by decide +kernel
theorem dX5_isUnder_1 : decode cX5_isUnder 1 = .ok (.ifCond .eq 28, 3) := by decide +kernel
theorem dX5_isUnder_4 : decode cX5_isUnder 4 = .ok (.iload_n 0, 1) := by decide +kernel
theorem dX5_isUnder_5 : decode cX5_isUnder 5 = .ok (.iload_n 1, 1) := by decide +kernel
theorem dX5_isUnder_6 : decode cX5_isUnder 6 = .ok (.if_icmp .eq 23, 3) := by decide +kernel
theorem dX5_isUnder_9 : decode cX5_isUnder 9 = .ok (.iload_n 1, 1) := by decide +kernel
theorem dX5_isUnder_10 : decode cX5_isUnder 10 = .ok (.iconst 1, 1) := by decide +kernel
theorem dX5_isUnder_11 : decode cX5_isUnder 11 = .ok (.if_icmp .ne 8, 3) := by decide +kernel
theorem dX5_isUnder_14 : decode cX5_isUnder 14 = .ok (.iload_n 0, 1) := by decide +kernel
theorem dX5_isUnder_15 : decode cX5_isUnder 15 = .ok (.iconst 3, 1) := by decide +kernel
theorem dX5_isUnder_16 : decode cX5_isUnder 16 = .ok (.if_icmp .eq 13, 3) := by decide +kernel
theorem dX5_isUnder_19 : decode cX5_isUnder 19 = .ok (.iload_n 1, 1) := by decide +kernel
theorem dX5_isUnder_20 : decode cX5_isUnder 20 = .ok (.iconst 2, 1) := by decide +kernel
theorem dX5_isUnder_21 : decode cX5_isUnder 21 = .ok (.if_icmp .ne 12, 3) := by decide +kernel
theorem dX5_isUnder_24 : decode cX5_isUnder 24 = .ok (.iload_n 0, 1) := by decide +kernel
theorem dX5_isUnder_25 : decode cX5_isUnder 25 = .ok (.iconst 4, 1) := by decide +kernel
theorem dX5_isUnder_26 : decode cX5_isUnder 26 = .ok (.if_icmp .ne 7, 3) := by decide +kernel
theorem dX5_isUnder_29 : decode cX5_isUnder 29 = .ok (.iconst 1, 1) := by decide +kernel
theorem dX5_isUnder_30 : decode cX5_isUnder 30 = .ok (.goto 4, 3) := by decide +kernel
theorem dX5_isUnder_33 : decode cX5_isUnder 33 = .ok (.iconst 0, 1) := by decide +kernel
theorem dX5_isUnder_34 : decode cX5_isUnder 34 = .ok (.ireturn, 1) := by decide +kernel
def b_X5_isUnder_19 (x0 : Int32) (x1 : Int32) (σ : GM) : Option (Int32 × GM) :=
  if x1 ≠ (2 : Int32) then (some ((0 : Int32), σ)) else (if x0 ≠ (4 : Int32) then (some ((0 : Int32), σ)) else (some ((1 : Int32), σ)))
theorem vb_X5_isUnder_19 {g : Gt} {ad : Nat → Nat} (z : Zt) (x0 : Int32) (x1 : Int32) (σ : GM) : V g (LM ad) 1 RX5 cX5_isUnder 2 (some .boolean) (wM g ad) iI z (b_X5_isUnder_19 x0 x1 σ) σ 19 [(0, .int x0), (1, .int x1)] [] := by
  unfold b_X5_isUnder_19
  refine v_iload_n (pc := 19) (i := 1) dX5_isUnder_19 rfl rfl ?_
  refine v_iconst (pc := 20) dX5_isUnder_20 ic_2 ?_
  refine v_icmp_ne (pc := 21) (tgt := 33) dX5_isUnder_21 rfl ?_ ?_
  · refine v_iconst (pc := 33) dX5_isUnder_33 ic_0 ?_
    exact v_nret (pc := 34) rfl dX5_isUnder_34
  · refine v_iload_n (pc := 24) (i := 0) dX5_isUnder_24 rfl rfl ?_
    refine v_iconst (pc := 25) dX5_isUnder_25 ic_4 ?_
    refine v_icmp_ne (pc := 26) (tgt := 33) dX5_isUnder_26 rfl ?_ ?_
    · refine v_iconst (pc := 33) dX5_isUnder_33 ic_0 ?_
      exact v_nret (pc := 34) rfl dX5_isUnder_34
    · refine v_iconst (pc := 29) dX5_isUnder_29 ic_1 ?_
      refine v_goto (pc := 30) (tgt := 34) dX5_isUnder_30 rfl ?_
      exact v_nret (pc := 34) rfl dX5_isUnder_34
def f_X5_isUnder (x0 : Int32) (x1 : Int32) (σ : GM) : Option (Int32 × GM) :=
  if x1 = 0 then (some ((1 : Int32), σ)) else (if x0 = x1 then (some ((1 : Int32), σ)) else (if x1 ≠ (1 : Int32) then (b_X5_isUnder_19 x0 x1 σ) else (if x0 = (3 : Int32) then (some ((1 : Int32), σ)) else (b_X5_isUnder_19 x0 x1 σ))))
theorem vf_X5_isUnder {g : Gt} {ad : Nat → Nat} (z : Zt) (x0 : Int32) (x1 : Int32) (σ : GM) : V g (LM ad) 1 RX5 cX5_isUnder 2 (some .boolean) (wM g ad) iI z (f_X5_isUnder x0 x1 σ) σ 0 [(0, .int x0), (1, .int x1)] [] := by
  unfold f_X5_isUnder
  refine v_iload_n (pc := 0) (i := 1) dX5_isUnder_0 rfl rfl ?_
  refine v_if_eq (pc := 1) (tgt := 29) dX5_isUnder_1 rfl ?_ ?_
  · refine v_iconst (pc := 29) dX5_isUnder_29 ic_1 ?_
    refine v_goto (pc := 30) (tgt := 34) dX5_isUnder_30 rfl ?_
    exact v_nret (pc := 34) rfl dX5_isUnder_34
  · refine v_iload_n (pc := 4) (i := 0) dX5_isUnder_4 rfl rfl ?_
    refine v_iload_n (pc := 5) (i := 1) dX5_isUnder_5 rfl rfl ?_
    refine v_icmp_eq (pc := 6) (tgt := 29) dX5_isUnder_6 rfl ?_ ?_
    · refine v_iconst (pc := 29) dX5_isUnder_29 ic_1 ?_
      refine v_goto (pc := 30) (tgt := 34) dX5_isUnder_30 rfl ?_
      exact v_nret (pc := 34) rfl dX5_isUnder_34
    · refine v_iload_n (pc := 9) (i := 1) dX5_isUnder_9 rfl rfl ?_
      refine v_iconst (pc := 10) dX5_isUnder_10 ic_1 ?_
      refine v_icmp_ne (pc := 11) (tgt := 19) dX5_isUnder_11 rfl ?_ ?_
      · exact v_sub [0, 1] rfl (vb_X5_isUnder_19 z x0 x1 σ)
      · refine v_iload_n (pc := 14) (i := 0) dX5_isUnder_14 rfl rfl ?_
        refine v_iconst (pc := 15) dX5_isUnder_15 ic_3 ?_
        refine v_icmp_eq (pc := 16) (tgt := 29) dX5_isUnder_16 rfl ?_ ?_
        · refine v_iconst (pc := 29) dX5_isUnder_29 ic_1 ?_
          refine v_goto (pc := 30) (tgt := 34) dX5_isUnder_30 rfl ?_
          exact v_nret (pc := 34) rfl dX5_isUnder_34
        · exact v_sub [0, 1] rfl (vb_X5_isUnder_19 z x0 x1 σ)
theorem ct_X5_isUnder {g : Gt} {ad : Nat → Nat} (x0 : Int32) (x1 : Int32) : CT g (LM ad) yX5_isUnder cX5_isUnder 2 (some .boolean) 1 [.int x0, .int x1] iI (wM g ad) (f_X5_isUnder x0 x1) :=
  ct_of_V (own := RX5) (lv0 := [(0, .int x0), (1, .int x1)]) (by decide +kernel) rfl (Nat.le_of_ble_eq_true rfl) rfl (fun z σ => vf_X5_isUnder z x0 x1 σ)
-- LighthouseLiedToModel.taken
theorem dX5_taken_0 : decode cX5_taken 0 = .ok (.iload_n 2, 1) := by decide +kernel
theorem dX5_taken_1 : decode cX5_taken 1 = .ok (.iconst 0, 1) := by decide +kernel
theorem dX5_taken_2 : decode cX5_taken 2 = .ok (.bipush 6, 2) := by decide +kernel
theorem dX5_taken_4 : decode cX5_taken 4 = .ok (.invokestatic 78, 3) := by decide +kernel
theorem dX5_taken_7 : decode cX5_taken 7 = .ok (.ifCond .ne 6, 3) := by decide +kernel
theorem dX5_taken_10 : decode cX5_taken 10 = .ok (.bipush (-2), 2) := by decide +kernel
theorem dX5_taken_12 : decode cX5_taken 12 = .ok (.ireturn, 1) := by decide +kernel
theorem dX5_taken_13 : decode cX5_taken 13 = .ok (.iload_n 1, 1) := by decide +kernel
theorem dX5_taken_14 : decode cX5_taken 14 = .ok (.iconst 0, 1) := by decide +kernel
theorem dX5_taken_15 : decode cX5_taken 15 = .ok (.bipush 41, 2) := by decide +kernel
theorem dX5_taken_17 : decode cX5_taken 17 = .ok (.invokestatic 78, 3) := by decide +kernel
theorem dX5_taken_20 : decode cX5_taken 20 = .ok (.ifCond .ne 6, 3) := by decide +kernel
theorem dX5_taken_23 : decode cX5_taken 23 = .ok (.bipush (-12), 2) := by decide +kernel
theorem dX5_taken_25 : decode cX5_taken 25 = .ok (.ireturn, 1) := by decide +kernel
theorem dX5_taken_26 : decode cX5_taken 26 = .ok (.iload_n 1, 1) := by decide +kernel
theorem dX5_taken_27 : decode cX5_taken 27 = .ok (.bipush 6, 2) := by decide +kernel
theorem dX5_taken_29 : decode cX5_taken 29 = .ok (.if_icmp .lt 24, 3) := by decide +kernel
theorem dX5_taken_32 : decode cX5_taken 32 = .ok (.iload_n 2, 1) := by decide +kernel
theorem dX5_taken_33 : decode cX5_taken 33 = .ok (.bipush 6, 2) := by decide +kernel
theorem dX5_taken_35 : decode cX5_taken 35 = .ok (.if_icmp .ne 15, 3) := by decide +kernel
theorem dX5_taken_38 : decode cX5_taken 38 = .ok (.aload_n 0, 1) := by decide +kernel
theorem dX5_taken_39 : decode cX5_taken 39 = .ok (.getfield 25, 3) := by decide +kernel
theorem dX5_taken_42 : decode cX5_taken 42 = .ok (.iload_n 1, 1) := by decide +kernel
theorem dX5_taken_43 : decode cX5_taken 43 = .ok (.bipush 6, 2) := by decide +kernel
theorem dX5_taken_45 : decode cX5_taken 45 = .ok (.isub, 1) := by decide +kernel
theorem dX5_taken_46 : decode cX5_taken 46 = .ok (.iaload, 1) := by decide +kernel
theorem dX5_taken_47 : decode cX5_taken 47 = .ok (.goto 5, 3) := by decide +kernel
theorem dX5_taken_50 : decode cX5_taken 50 = .ok (.bipush (-13), 2) := by decide +kernel
theorem dX5_taken_52 : decode cX5_taken 52 = .ok (.ireturn, 1) := by decide +kernel
theorem dX5_taken_53 : decode cX5_taken 53 = .ok (.iload_n 1, 1) := by decide +kernel
theorem dX5_taken_54 : decode cX5_taken 54 = .ok (.aload_n 0, 1) := by decide +kernel
theorem dX5_taken_55 : decode cX5_taken 55 = .ok (.getfield 82, 3) := by decide +kernel
theorem dX5_taken_58 : decode cX5_taken 58 = .ok (.if_icmp .lt 8, 3) := by decide +kernel
theorem dX5_taken_61 : decode cX5_taken 61 = .ok (.bipush (-11), 2) := by decide +kernel
theorem dX5_taken_63 : decode cX5_taken 63 = .ok (.goto 28, 3) := by decide +kernel
theorem dX5_taken_66 : decode cX5_taken 66 = .ok (.iload_n 2, 1) := by decide +kernel
theorem dX5_taken_67 : decode cX5_taken 67 = .ok (.bipush 6, 2) := by decide +kernel
theorem dX5_taken_69 : decode cX5_taken 69 = .ok (.if_icmp .ge 20, 3) := by decide +kernel
theorem dX5_taken_72 : decode cX5_taken 72 = .ok (.aload_n 0, 1) := by decide +kernel
theorem dX5_taken_73 : decode cX5_taken 73 = .ok (.getfield 7, 3) := by decide +kernel
theorem dX5_taken_76 : decode cX5_taken 76 = .ok (.iload_n 1, 1) := by decide +kernel
theorem dX5_taken_77 : decode cX5_taken 77 = .ok (.iaload, 1) := by decide +kernel
theorem dX5_taken_78 : decode cX5_taken 78 = .ok (.iload_n 2, 1) := by decide +kernel
theorem dX5_taken_79 : decode cX5_taken 79 = .ok (.invokestatic 280, 3) := by decide +kernel
theorem dX5_taken_82 : decode cX5_taken 82 = .ok (.ifCond .eq 7, 3) := by decide +kernel
theorem dX5_taken_85 : decode cX5_taken 85 = .ok (.iload_n 1, 1) := by decide +kernel
theorem dX5_taken_86 : decode cX5_taken 86 = .ok (.goto 5, 3) := by decide +kernel
theorem dX5_taken_89 : decode cX5_taken 89 = .ok (.bipush (-13), 2) := by decide +kernel
theorem dX5_taken_91 : decode cX5_taken 91 = .ok (.ireturn, 1) := by decide +kernel
def f_X5_taken (x1 : Int32) (x2 : Int32) (σ : GM) : Option (Int32 × GM) :=
  bnd (f_X5_in x2 (0 : Int32) (6 : Int32) σ) fun q1 => if q1.1 ≠ 0 then (bnd (f_X5_in x1 (0 : Int32) (41 : Int32) q1.2) fun q2 => if q2.1 ≠ 0 then (if x1 < (6 : Int32) then (if x1 < (mI q2.2 0) then (if (6 : Int32) ≤ x2 then (some ((-13 : Int32), q2.2)) else (grd x1 6 (bnd (f_X5_isUnder (mA q2.2 0 x1.toNatClampNeg) x2 q2.2) fun q3 => if q3.1 = 0 then (some ((-13 : Int32), q3.2)) else (some (x1, q3.2))))) else (some ((-11 : Int32), q2.2))) else (if x2 ≠ (6 : Int32) then (some ((-13 : Int32), q2.2)) else (grd (x1 - (6 : Int32)) 36 (some ((mA q2.2 5 (x1 - (6 : Int32)).toNatClampNeg), q2.2))))) else (some ((-12 : Int32), q2.2))) else (some ((-2 : Int32), q1.2))
theorem vf_X5_taken {g : Gt} {ad : Nat → Nat} (z : Zt) (x1 : Int32) (x2 : Int32) (σ : GM) : V g (LM ad) 2 RX5 cX5_taken 3 (some .int) (wM g ad) iI z (f_X5_taken x1 x2 σ) σ 0 [(0, .ref (aMo ad)), (1, .int x1), (2, .int x2)] [] := by
  unfold f_X5_taken
  refine v_iload_n (pc := 0) (i := 2) dX5_taken_0 rfl rfl ?_
  refine v_iconst (pc := 1) dX5_taken_1 ic_0 ?_
  refine v_bipush (pc := 2) dX5_taken_2 bp_6 ?_
  refine v_callSi (pc := 4) (av := [.int x2, .int (0 : Int32), .int (6 : Int32)]) (rest := []) (ct_X5_in x2 (0 : Int32) (6 : Int32)) mi_X5_in q_715 (by decide) rfl rfl (Nat.le_of_ble_eq_true rfl) dX5_taken_4 (fun q1 => ?_)
  refine v_if_ne (pc := 7) (tgt := 13) dX5_taken_7 rfl ?_ ?_
  · refine v_iload_n (pc := 13) (i := 1) dX5_taken_13 rfl rfl ?_
    refine v_iconst (pc := 14) dX5_taken_14 ic_0 ?_
    refine v_bipush (pc := 15) dX5_taken_15 bp_41 ?_
    refine v_callSi (pc := 17) (av := [.int x1, .int (0 : Int32), .int (41 : Int32)]) (rest := []) (ct_X5_in x1 (0 : Int32) (41 : Int32)) mi_X5_in q_715 (by decide) rfl rfl (Nat.le_of_ble_eq_true rfl) dX5_taken_17 (fun q2 => ?_)
    refine v_if_ne (pc := 20) (tgt := 26) dX5_taken_20 rfl ?_ ?_
    · refine v_iload_n (pc := 26) (i := 1) dX5_taken_26 rfl rfl ?_
      refine v_bipush (pc := 27) dX5_taken_27 bp_6 ?_
      refine v_icmp_lt (pc := 29) (tgt := 53) dX5_taken_29 rfl ?_ ?_
      · refine v_iload_n (pc := 53) (i := 1) dX5_taken_53 rfl rfl ?_
        refine v_aload_n (pc := 54) (i := 0) dX5_taken_54 rfl rfl ?_
        refine gX5_ships (pc := 55) q_754 dX5_taken_55 ?_
        refine v_icmp_lt (pc := 58) (tgt := 66) dX5_taken_58 rfl ?_ ?_
        · refine v_iload_n (pc := 66) (i := 2) dX5_taken_66 rfl rfl ?_
          refine v_bipush (pc := 67) dX5_taken_67 bp_6 ?_
          refine v_icmp_ge (pc := 69) (tgt := 89) dX5_taken_69 rfl ?_ ?_
          · refine v_bipush (pc := 89) dX5_taken_89 bp_m13 ?_
            exact v_iret (pc := 91) dX5_taken_91
          · refine v_aload_n (pc := 72) (i := 0) dX5_taken_72 rfl rfl ?_
            refine gX5_kind (pc := 73) q_755 dX5_taken_73 ?_
            refine v_iload_n (pc := 76) (i := 1) dX5_taken_76 rfl rfl ?_
            refine lM_kind (pc := 77) dX5_taken_77 ?_
            refine v_iload_n (pc := 78) (i := 2) dX5_taken_78 rfl rfl ?_
            refine v_callSi (pc := 79) (av := [.int (mA q2.2 0 x1.toNatClampNeg), .int x2]) (rest := []) (ct_X5_isUnder (mA q2.2 0 x1.toNatClampNeg) x2) mi_X5_isUnder q_1144 (by decide) rfl rfl (Nat.le_of_ble_eq_true rfl) dX5_taken_79 (fun q3 => ?_)
            refine v_if_eq (pc := 82) (tgt := 89) dX5_taken_82 rfl ?_ ?_
            · refine v_bipush (pc := 89) dX5_taken_89 bp_m13 ?_
              exact v_iret (pc := 91) dX5_taken_91
            · refine v_iload_n (pc := 85) (i := 1) dX5_taken_85 rfl rfl ?_
              refine v_goto (pc := 86) (tgt := 91) dX5_taken_86 rfl ?_
              exact v_iret (pc := 91) dX5_taken_91
        · refine v_bipush (pc := 61) dX5_taken_61 bp_m11 ?_
          refine v_goto (pc := 63) (tgt := 91) dX5_taken_63 rfl ?_
          exact v_iret (pc := 91) dX5_taken_91
      · refine v_iload_n (pc := 32) (i := 2) dX5_taken_32 rfl rfl ?_
        refine v_bipush (pc := 33) dX5_taken_33 bp_6 ?_
        refine v_icmp_ne (pc := 35) (tgt := 50) dX5_taken_35 rfl ?_ ?_
        · refine v_bipush (pc := 50) dX5_taken_50 bp_m13 ?_
          exact v_iret (pc := 52) dX5_taken_52
        · refine v_aload_n (pc := 38) (i := 0) dX5_taken_38 rfl rfl ?_
          refine gX5_beliefs (pc := 39) q_760 dX5_taken_39 ?_
          refine v_iload_n (pc := 42) (i := 1) dX5_taken_42 rfl rfl ?_
          refine v_bipush (pc := 43) dX5_taken_43 bp_6 ?_
          refine v_isub (pc := 45) dX5_taken_45 ?_
          refine lM_beliefs (pc := 46) dX5_taken_46 ?_
          refine v_goto (pc := 47) (tgt := 52) dX5_taken_47 rfl ?_
          exact v_iret (pc := 52) dX5_taken_52
    · refine v_bipush (pc := 23) dX5_taken_23 bp_m12 ?_
      exact v_iret (pc := 25) dX5_taken_25
  · refine v_bipush (pc := 10) dX5_taken_10 bp_m2 ?_
    exact v_iret (pc := 12) dX5_taken_12
theorem ct_X5_taken {g : Gt} {ad : Nat → Nat} (x1 : Int32) (x2 : Int32) : CT g (LM ad) yX5_taken cX5_taken 3 (some .int) 2 [.ref (aMo ad), .int x1, .int x2] iI (wM g ad) (f_X5_taken x1 x2) :=
  ct_of_V (own := RX5) (lv0 := [(0, .ref (aMo ad)), (1, .int x1), (2, .int x2)]) (by decide +kernel) rfl (Nat.le_of_ble_eq_true rfl) rfl (fun z σ => vf_X5_taken z x1 x2 σ)
