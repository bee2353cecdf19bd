-- LighthouseLiedTo$Reader.isLetter
theorem dX1_isLetter_0 : decode cX1_isLetter 0 = .ok (.iload_n 0, 1) := by decide +kernel
theorem dX1_isLetter_1 : decode cX1_isLetter 1 = .ok (.bipush 97, 2) := by decide +kernel
theorem dX1_isLetter_3 : decode cX1_isLetter 3 = .ok (.if_icmp .lt 13, 3) := by decide +kernel
theorem dX1_isLetter_6 : decode cX1_isLetter 6 = .ok (.iload_n 0, 1) := by decide +kernel
theorem dX1_isLetter_7 : decode cX1_isLetter 7 = .ok (.bipush 122, 2) := by decide +kernel
theorem dX1_isLetter_9 : decode cX1_isLetter 9 = .ok (.if_icmp .gt 7, 3) := by decide +kernel
theorem dX1_isLetter_12 : decode cX1_isLetter 12 = .ok (.iconst 1, 1) := by decide +kernel
theorem dX1_isLetter_13 : decode cX1_isLetter 13 = .ok (.goto 4, 3) := by decide +kernel
theorem dX1_isLetter_16 : decode cX1_isLetter 16 = .ok (.iconst 0, 1) := by decide +kernel
theorem dX1_isLetter_17 : decode cX1_isLetter 17 = .ok (.ireturn, 1) := by decide +kernel
def f_X1_isLetter (x0 : Int32) (σ : GX) : Option (Int32 × GX) :=
  if x0 < (97 : Int32) then (some ((0 : Int32), σ)) else (if (122 : Int32) < x0 then (some ((0 : Int32), σ)) else (some ((1 : Int32), σ)))
theorem vf_X1_isLetter {g : Gt} {ad : Nat → Nat} (z : Zt) (x0 : Int32) (σ : GX) : V g (LX ad) 1 RX1 cX1_isLetter 1 (some .boolean) (wX g ad) iI z (f_X1_isLetter x0 σ) σ 0 [(0, .int x0)] [] := by
  unfold f_X1_isLetter
  refine v_iload_n (pc := 0) (i := 0) dX1_isLetter_0 rfl rfl ?_
  refine v_bipush (pc := 1) dX1_isLetter_1 bp_97 ?_
  refine v_icmp_lt (pc := 3) (tgt := 16) dX1_isLetter_3 rfl ?_ ?_
  · refine v_iconst (pc := 16) dX1_isLetter_16 ic_0 ?_
    exact v_nret (pc := 17) rfl dX1_isLetter_17
  · refine v_iload_n (pc := 6) (i := 0) dX1_isLetter_6 rfl rfl ?_
    refine v_bipush (pc := 7) dX1_isLetter_7 bp_122 ?_
    refine v_icmp_gt (pc := 9) (tgt := 16) dX1_isLetter_9 rfl ?_ ?_
    · refine v_iconst (pc := 16) dX1_isLetter_16 ic_0 ?_
      exact v_nret (pc := 17) rfl dX1_isLetter_17
    · refine v_iconst (pc := 12) dX1_isLetter_12 ic_1 ?_
      refine v_goto (pc := 13) (tgt := 17) dX1_isLetter_13 rfl ?_
      exact v_nret (pc := 17) rfl dX1_isLetter_17
theorem ct_X1_isLetter {g : Gt} {ad : Nat → Nat} (x0 : Int32) : CT g (LX ad) yX1_isLetter cX1_isLetter 1 (some .boolean) 1 [.int x0] iI (wX g ad) (f_X1_isLetter x0) :=
  ct_of_V (own := RX1) (lv0 := [(0, .int x0)]) (by decide +kernel) rfl (Nat.le_of_ble_eq_true rfl) rfl (fun z σ => vf_X1_isLetter z x0 σ)
-- LighthouseLiedTo$Reader.spells
theorem dX1_spells_0 : decode cX1_spells 0 = .ok (.aload_n 1, 1) := by decide +kernel
theorem dX1_spells_1 : decode cX1_spells 1 = .ok (.invokevirtual 115, 3) := by decide +kernel
theorem dX1_spells_4 : decode cX1_spells 4 = .ok (.aload_n 0, 1) := by decide +kernel
theorem dX1_spells_5 : decode cX1_spells 5 = .ok (.getfield 23, 3) := by decide +kernel
theorem dX1_spells_8 : decode cX1_spells 8 = .ok (.aload_n 0, 1) := by decide +kernel
theorem dX1_spells_9 : decode cX1_spells 9 = .ok (.getfield 48, 3) := by decide +kernel
theorem dX1_spells_12 : decode cX1_spells 12 = .ok (.isub, 1) := by decide +kernel
theorem dX1_spells_13 : decode cX1_spells 13 = .ok (.if_icmp .eq 5, 3) := by decide +kernel
theorem dX1_spells_16 : decode cX1_spells 16 = .ok (.iconst 0, 1) := by decide +kernel
theorem dX1_spells_17 : decode cX1_spells 17 = .ok (.ireturn, 1) := by decide +kernel
theorem dX1_spells_18 : decode cX1_spells 18 = .ok (.iconst 0, 1) := by decide +kernel
theorem dX1_spells_19 : decode cX1_spells 19 = .ok (.istore_n 2, 1) := by decide +kernel
theorem dX1_spells_20 : decode cX1_spells 20 = .ok (.iload_n 2, 1) := by decide +kernel
theorem dX1_spells_21 : decode cX1_spells 21 = .ok (.aload_n 1, 1) := by decide +kernel
theorem dX1_spells_22 : decode cX1_spells 22 = .ok (.invokevirtual 115, 3) := by decide +kernel
theorem dX1_spells_25 : decode cX1_spells 25 = .ok (.if_icmp .ge 30, 3) := by decide +kernel
theorem dX1_spells_28 : decode cX1_spells 28 = .ok (.aload_n 0, 1) := by decide +kernel
theorem dX1_spells_29 : decode cX1_spells 29 = .ok (.getfield 9, 3) := by decide +kernel
theorem dX1_spells_32 : decode cX1_spells 32 = .ok (.aload_n 0, 1) := by decide +kernel
theorem dX1_spells_33 : decode cX1_spells 33 = .ok (.getfield 48, 3) := by decide +kernel
theorem dX1_spells_36 : decode cX1_spells 36 = .ok (.iload_n 2, 1) := by decide +kernel
theorem dX1_spells_37 : decode cX1_spells 37 = .ok (.iadd, 1) := by decide +kernel
theorem dX1_spells_38 : decode cX1_spells 38 = .ok (.iaload, 1) := by decide +kernel
theorem dX1_spells_39 : decode cX1_spells 39 = .ok (.aload_n 1, 1) := by decide +kernel
theorem dX1_spells_40 : decode cX1_spells 40 = .ok (.iload_n 2, 1) := by decide +kernel
theorem dX1_spells_41 : decode cX1_spells 41 = .ok (.invokevirtual 120, 3) := by decide +kernel
theorem dX1_spells_44 : decode cX1_spells 44 = .ok (.if_icmp .eq 5, 3) := by decide +kernel
theorem dX1_spells_47 : decode cX1_spells 47 = .ok (.iconst 0, 1) := by decide +kernel
theorem dX1_spells_48 : decode cX1_spells 48 = .ok (.ireturn, 1) := by decide +kernel
theorem dX1_spells_49 : decode cX1_spells 49 = .ok (.iinc 2 1, 3) := by decide +kernel
theorem dX1_spells_52 : decode cX1_spells 52 = .ok (.goto (-32), 3) := by decide +kernel
theorem dX1_spells_55 : decode cX1_spells 55 = .ok (.iconst 1, 1) := by decide +kernel
theorem dX1_spells_56 : decode cX1_spells 56 = .ok (.ireturn, 1) := by decide +kernel
def b_X1_spells_20 (w : Nat) (kc20 : Int32 → GX → Option (Int32 × GX)) (x2 : Int32) (σ : GX) : Option (Int32 × GX) :=
  bnd (f_J0_length_8abf5 w σ) fun q2 => if q2.1 ≤ x2 then (some ((1 : Int32), q2.2)) else (tpB (xY q2.2) (grd ((xI q2.2 6) + x2) 160 (bnd (f_J0_charAt_5068e w x2 q2.2) fun q3 => if (xP q2.2 ((xI q2.2 6) + x2).toNatClampNeg) = q3.1 then (kc20 (x2 + (1 : Int32)) q3.2) else (some ((0 : Int32), q3.2)))))
theorem vb_X1_spells_20 {g : Gt} {ad : Nat → Nat} (z : Zt) (w : Nat) (hw : w < 13) (kc20 : Int32 → GX → Option (Int32 × GX)) (hkc20 : ∀ (x2 : Int32) (σ : GX), V g (LX ad) 5 RX1 cX1_spells 3 (some .boolean) (wX g ad) iI z (kc20 x2 σ) σ 20 [(0, .ref (aReader ad)), (1, .ref (g.2.2.2.2.2.2.1 w)), (2, .int x2)] []) (x2 : Int32) (σ : GX) : V g (LX ad) 5 RX1 cX1_spells 3 (some .boolean) (wX g ad) iI z (b_X1_spells_20 w kc20 x2 σ) σ 20 [(0, .ref (aReader ad)), (1, .ref (g.2.2.2.2.2.2.1 w)), (2, .int x2)] [] := by
  unfold b_X1_spells_20
  refine v_iload_n (pc := 20) (i := 2) dX1_spells_20 rfl rfl ?_
  refine v_aload_n (pc := 21) (i := 1) dX1_spells_21 rfl rfl ?_
  refine v_callTi (pc := 22) (i := w) hw rfl (As := []) (rest := [.int x2]) (ct_J0_length_8abf5 hw) mi_J0_length_8abf5 q_271 (by decide) rfl rfl (Nat.le_of_ble_eq_true rfl) dX1_spells_22 (fun q2 => ?_)
  refine v_icmp_ge (pc := 25) (tgt := 55) dX1_spells_25 rfl ?_ ?_
  · refine v_iconst (pc := 55) dX1_spells_55 ic_1 ?_
    exact v_nret (pc := 56) rfl dX1_spells_56
  · refine v_aload_n (pc := 28) (i := 0) dX1_spells_28 rfl rfl ?_
    refine gX1_tape (pc := 29) q_82 dX1_spells_29 ?_
    refine v_aload_n (pc := 32) (i := 0) dX1_spells_32 rfl rfl ?_
    refine gX1_place (pc := 33) q_86 dX1_spells_33 ?_
    refine v_iload_n (pc := 36) (i := 2) dX1_spells_36 rfl rfl ?_
    refine v_iadd (pc := 37) dX1_spells_37 ?_
    refine lX_tape (pc := 38) dX1_spells_38 ?_
    refine v_aload_n (pc := 39) (i := 1) dX1_spells_39 rfl rfl ?_
    refine v_iload_n (pc := 40) (i := 2) dX1_spells_40 rfl rfl ?_
    refine v_callTi (pc := 41) (i := w) hw rfl (As := [.int x2]) (rest := [.int (xP q2.2 ((xI q2.2 6) + x2).toNatClampNeg)]) (ct_J0_charAt_5068e hw x2) mi_J0_charAt_5068e q_272 (by decide) rfl rfl (Nat.le_of_ble_eq_true rfl) dX1_spells_41 (fun q3 => ?_)
    refine v_icmp_eq (pc := 44) (tgt := 49) dX1_spells_44 rfl ?_ ?_
    · refine v_iinc (pc := 49) (lv' := [(2, .int (x2 + (1 : Int32))), (0, .ref (aReader ad)), (1, .ref (g.2.2.2.2.2.2.1 w))]) (i := 2) dX1_spells_49 rfl ic_1 (by decide) rfl ?_
      refine v_goto (pc := 52) (tgt := 20) dX1_spells_52 rfl ?_
      exact v_sub [1, 2, 0] rfl (hkc20 (x2 + (1 : Int32)) q3.2)
    · refine v_iconst (pc := 47) dX1_spells_47 ic_0 ?_
      exact v_nret (pc := 48) rfl dX1_spells_48
def k_X1_spells_20 (w : Nat) : Nat → Int32 → GX → Option (Int32 × GX)
  | 0 => fun _ _ => none
  | n + 1 => b_X1_spells_20 w (k_X1_spells_20 w n)
theorem vk_X1_spells_20 {g : Gt} {ad : Nat → Nat} (z : Zt) (w : Nat) (hw : w < 13) : ∀ (n : Nat) (x2 : Int32) (σ : GX), V g (LX ad) 5 RX1 cX1_spells 3 (some .boolean) (wX g ad) iI z (k_X1_spells_20 w n x2 σ) σ 20 [(0, .ref (aReader ad)), (1, .ref (g.2.2.2.2.2.2.1 w)), (2, .int x2)] [] := by
  intro n
  induction n with
  | zero => intros; exact v_eq rfl v_none
  | succ n ih =>
    intro x2 σ
    exact v_eq rfl (vb_X1_spells_20 z w hw _ ih x2 σ)
def f_X1_spells (w : Nat) (σ : GX) : Option (Int32 × GX) :=
  bnd (f_J0_length_8abf5 w σ) fun q1 => if q1.1 = ((xI q1.2 4) - (xI q1.2 6)) then (k_X1_spells_20 w FU (0 : Int32) q1.2) else (some ((0 : Int32), q1.2))
theorem vf_X1_spells {g : Gt} {ad : Nat → Nat} (z : Zt) (w : Nat) (hw : w < 13) (σ : GX) : V g (LX ad) 5 RX1 cX1_spells 3 (some .boolean) (wX g ad) iI z (f_X1_spells w σ) σ 0 [(0, .ref (aReader ad)), (1, .ref (g.2.2.2.2.2.2.1 w))] [] := by
  unfold f_X1_spells
  refine v_aload_n (pc := 0) (i := 1) dX1_spells_0 rfl rfl ?_
  refine v_callTi (pc := 1) (i := w) hw rfl (As := []) (rest := []) (ct_J0_length_8abf5 hw) mi_J0_length_8abf5 q_271 (by decide) rfl rfl (Nat.le_of_ble_eq_true rfl) dX1_spells_1 (fun q1 => ?_)
  refine v_aload_n (pc := 4) (i := 0) dX1_spells_4 rfl rfl ?_
  refine gX1_at (pc := 5) q_84 dX1_spells_5 ?_
  refine v_aload_n (pc := 8) (i := 0) dX1_spells_8 rfl rfl ?_
  refine gX1_place (pc := 9) q_86 dX1_spells_9 ?_
  refine v_isub (pc := 12) dX1_spells_12 ?_
  refine v_icmp_eq (pc := 13) (tgt := 18) dX1_spells_13 rfl ?_ ?_
  · refine v_iconst (pc := 18) dX1_spells_18 ic_0 ?_
    refine v_istore_n (pc := 19) (lv' := [(2, .int (0 : Int32)), (0, .ref (aReader ad)), (1, .ref (g.2.2.2.2.2.2.1 w))]) (i := 2) dX1_spells_19 rfl (by decide) rfl ?_
    exact v_sub [1, 2, 0] rfl (vk_X1_spells_20 z w hw FU (0 : Int32) q1.2)
  · refine v_iconst (pc := 16) dX1_spells_16 ic_0 ?_
    exact v_nret (pc := 17) rfl dX1_spells_17
theorem ct_X1_spells {g : Gt} {ad : Nat → Nat} {w : Nat} (hw : w < 13) : CT g (LX ad) yX1_spells cX1_spells 3 (some .boolean) 5 [.ref (aReader ad), .ref (g.2.2.2.2.2.2.1 w)] iI (wX g ad) (f_X1_spells w) :=
  ct_of_V (own := RX1) (lv0 := [(0, .ref (aReader ad)), (1, .ref (g.2.2.2.2.2.2.1 w))]) (by decide +kernel) rfl (Nat.le_of_ble_eq_true rfl) rfl (fun z σ => vf_X1_spells z w hw σ)
-- LighthouseLiedTo$Reader.word
theorem dX1_word_0 : decode cX1_word 0 = .ok (.aload_n 0, 1) := by decide +kernel
theorem dX1_word_1 : decode cX1_word 1 = .ok (.getfield 23, 3) := by decide +kernel
theorem dX1_word_4 : decode cX1_word 4 = .ok (.aload_n 0, 1) := by decide +kernel
theorem dX1_word_5 : decode cX1_word 5 = .ok (.getfield 15, 3) := by decide +kernel
theorem dX1_word_8 : decode cX1_word 8 = .ok (.if_icmp .ge 31, 3) := by decide +kernel
theorem dX1_word_11 : decode cX1_word 11 = .ok (.aload_n 0, 1) := by decide +kernel
theorem dX1_word_12 : decode cX1_word 12 = .ok (.getfield 9, 3) := by decide +kernel
theorem dX1_word_15 : decode cX1_word 15 = .ok (.aload_n 0, 1) := by decide +kernel
theorem dX1_word_16 : decode cX1_word 16 = .ok (.getfield 23, 3) := by decide +kernel
theorem dX1_word_19 : decode cX1_word 19 = .ok (.iaload, 1) := by decide +kernel
theorem dX1_word_20 : decode cX1_word 20 = .ok (.invokestatic 71, 3) := by decide +kernel
theorem dX1_word_23 : decode cX1_word 23 = .ok (.ifCond .eq 16, 3) := by decide +kernel
theorem dX1_word_26 : decode cX1_word 26 = .ok (.aload_n 0, 1) := by decide +kernel
theorem dX1_word_27 : decode cX1_word 27 = .ok (.dup, 1) := by decide +kernel
theorem dX1_word_28 : decode cX1_word 28 = .ok (.getfield 23, 3) := by decide +kernel
theorem dX1_word_31 : decode cX1_word 31 = .ok (.iconst 1, 1) := by decide +kernel
theorem dX1_word_32 : decode cX1_word 32 = .ok (.iadd, 1) := by decide +kernel
theorem dX1_word_33 : decode cX1_word 33 = .ok (.putfield 23, 3) := by decide +kernel
theorem dX1_word_36 : decode cX1_word 36 = .ok (.goto (-36), 3) := by decide +kernel
theorem dX1_word_39 : decode cX1_word 39 = .ok (.aload_n 0, 1) := by decide +kernel
theorem dX1_word_40 : decode cX1_word 40 = .ok (.ldc 87, 2) := by decide +kernel
theorem dX1_word_42 : decode cX1_word 42 = .ok (.invokevirtual 89, 3) := by decide +kernel
theorem dX1_word_45 : decode cX1_word 45 = .ok (.ifCond .eq 5, 3) := by decide +kernel
theorem dX1_word_48 : decode cX1_word 48 = .ok (.iconst (-1), 1) := by decide +kernel
theorem dX1_word_49 : decode cX1_word 49 = .ok (.ireturn, 1) := by decide +kernel
theorem dX1_word_50 : decode cX1_word 50 = .ok (.aload_n 0, 1) := by decide +kernel
theorem dX1_word_51 : decode cX1_word 51 = .ok (.ldc 93, 2) := by decide +kernel
theorem dX1_word_53 : decode cX1_word 53 = .ok (.invokevirtual 89, 3) := by decide +kernel
theorem dX1_word_56 : decode cX1_word 56 = .ok (.ifCond .eq 6, 3) := by decide +kernel
theorem dX1_word_59 : decode cX1_word 59 = .ok (.bipush (-2), 2) := by decide +kernel
theorem dX1_word_61 : decode cX1_word 61 = .ok (.ireturn, 1) := by decide +kernel
theorem dX1_word_62 : decode cX1_word 62 = .ok (.aload_n 0, 1) := by decide +kernel
theorem dX1_word_63 : decode cX1_word 63 = .ok (.ldc 95, 2) := by decide +kernel
theorem dX1_word_65 : decode cX1_word 65 = .ok (.invokevirtual 89, 3) := by decide +kernel
theorem dX1_word_68 : decode cX1_word 68 = .ok (.ifCond .eq 6, 3) := by decide +kernel
theorem dX1_word_71 : decode cX1_word 71 = .ok (.bipush (-3), 2) := by decide +kernel
theorem dX1_word_73 : decode cX1_word 73 = .ok (.ireturn, 1) := by decide +kernel
theorem dX1_word_74 : decode cX1_word 74 = .ok (.aload_n 0, 1) := by decide +kernel
theorem dX1_word_75 : decode cX1_word 75 = .ok (.ldc 97, 2) := by decide +kernel
theorem dX1_word_77 : decode cX1_word 77 = .ok (.invokevirtual 89, 3) := by decide +kernel
theorem dX1_word_80 : decode cX1_word 80 = .ok (.ifCond .eq 6, 3) := by decide +kernel
theorem dX1_word_83 : decode cX1_word 83 = .ok (.bipush (-4), 2) := by decide +kernel
theorem dX1_word_85 : decode cX1_word 85 = .ok (.ireturn, 1) := by decide +kernel
theorem dX1_word_86 : decode cX1_word 86 = .ok (.aload_n 0, 1) := by decide +kernel
theorem dX1_word_87 : decode cX1_word 87 = .ok (.ldc 99, 2) := by decide +kernel
theorem dX1_word_89 : decode cX1_word 89 = .ok (.invokevirtual 89, 3) := by decide +kernel
theorem dX1_word_92 : decode cX1_word 92 = .ok (.ifCond .eq 6, 3) := by decide +kernel
theorem dX1_word_95 : decode cX1_word 95 = .ok (.bipush (-5), 2) := by decide +kernel
theorem dX1_word_97 : decode cX1_word 97 = .ok (.ireturn, 1) := by decide +kernel
theorem dX1_word_98 : decode cX1_word 98 = .ok (.aload_n 0, 1) := by decide +kernel
theorem dX1_word_99 : decode cX1_word 99 = .ok (.ldc 101, 2) := by decide +kernel
theorem dX1_word_101 : decode cX1_word 101 = .ok (.invokevirtual 89, 3) := by decide +kernel
theorem dX1_word_104 : decode cX1_word 104 = .ok (.ifCond .eq 6, 3) := by decide +kernel
theorem dX1_word_107 : decode cX1_word 107 = .ok (.bipush (-6), 2) := by decide +kernel
theorem dX1_word_109 : decode cX1_word 109 = .ok (.ireturn, 1) := by decide +kernel
theorem dX1_word_110 : decode cX1_word 110 = .ok (.aload_n 0, 1) := by decide +kernel
theorem dX1_word_111 : decode cX1_word 111 = .ok (.ldc 103, 2) := by decide +kernel
theorem dX1_word_113 : decode cX1_word 113 = .ok (.invokevirtual 89, 3) := by decide +kernel
theorem dX1_word_116 : decode cX1_word 116 = .ok (.ifCond .eq 6, 3) := by decide +kernel
theorem dX1_word_119 : decode cX1_word 119 = .ok (.bipush (-7), 2) := by decide +kernel
theorem dX1_word_121 : decode cX1_word 121 = .ok (.ireturn, 1) := by decide +kernel
theorem dX1_word_122 : decode cX1_word 122 = .ok (.aload_n 0, 1) := by decide +kernel
theorem dX1_word_123 : decode cX1_word 123 = .ok (.ldc 105, 2) := by decide +kernel
theorem dX1_word_125 : decode cX1_word 125 = .ok (.invokevirtual 89, 3) := by decide +kernel
theorem dX1_word_128 : decode cX1_word 128 = .ok (.ifCond .eq 6, 3) := by decide +kernel
theorem dX1_word_131 : decode cX1_word 131 = .ok (.bipush (-8), 2) := by decide +kernel
theorem dX1_word_133 : decode cX1_word 133 = .ok (.ireturn, 1) := by decide +kernel
theorem dX1_word_134 : decode cX1_word 134 = .ok (.aload_n 0, 1) := by decide +kernel
theorem dX1_word_135 : decode cX1_word 135 = .ok (.ldc 107, 2) := by decide +kernel
theorem dX1_word_137 : decode cX1_word 137 = .ok (.invokevirtual 89, 3) := by decide +kernel
theorem dX1_word_140 : decode cX1_word 140 = .ok (.ifCond .eq 6, 3) := by decide +kernel
theorem dX1_word_143 : decode cX1_word 143 = .ok (.bipush (-14), 2) := by decide +kernel
theorem dX1_word_145 : decode cX1_word 145 = .ok (.ireturn, 1) := by decide +kernel
theorem dX1_word_146 : decode cX1_word 146 = .ok (.aload_n 0, 1) := by decide +kernel
theorem dX1_word_147 : decode cX1_word 147 = .ok (.ldc 109, 2) := by decide +kernel
theorem dX1_word_149 : decode cX1_word 149 = .ok (.invokevirtual 89, 3) := by decide +kernel
theorem dX1_word_152 : decode cX1_word 152 = .ok (.ifCond .eq 6, 3) := by decide +kernel
theorem dX1_word_155 : decode cX1_word 155 = .ok (.bipush (-19), 2) := by decide +kernel
theorem dX1_word_157 : decode cX1_word 157 = .ok (.ireturn, 1) := by decide +kernel
theorem dX1_word_158 : decode cX1_word 158 = .ok (.aload_n 0, 1) := by decide +kernel
theorem dX1_word_159 : decode cX1_word 159 = .ok (.ldc 111, 2) := by decide +kernel
theorem dX1_word_161 : decode cX1_word 161 = .ok (.invokevirtual 89, 3) := by decide +kernel
theorem dX1_word_164 : decode cX1_word 164 = .ok (.ifCond .eq 6, 3) := by decide +kernel
theorem dX1_word_167 : decode cX1_word 167 = .ok (.bipush (-20), 2) := by decide +kernel
theorem dX1_word_169 : decode cX1_word 169 = .ok (.ireturn, 1) := by decide +kernel
theorem dX1_word_170 : decode cX1_word 170 = .ok (.aload_n 0, 1) := by decide +kernel
theorem dX1_word_171 : decode cX1_word 171 = .ok (.ldc 113, 2) := by decide +kernel
theorem dX1_word_173 : decode cX1_word 173 = .ok (.invokevirtual 89, 3) := by decide +kernel
theorem dX1_word_176 : decode cX1_word 176 = .ok (.ifCond .eq 8, 3) := by decide +kernel
theorem dX1_word_179 : decode cX1_word 179 = .ok (.bipush (-21), 2) := by decide +kernel
theorem dX1_word_181 : decode cX1_word 181 = .ok (.goto 5, 3) := by decide +kernel
theorem dX1_word_184 : decode cX1_word 184 = .ok (.bipush (-23), 2) := by decide +kernel
theorem dX1_word_186 : decode cX1_word 186 = .ok (.ireturn, 1) := by decide +kernel
def b_X1_word_39 (σ : GX) : Option (Int32 × GX) :=
  bnd (f_X1_spells 1 σ) fun q1 => if q1.1 = 0 then (bnd (f_X1_spells 2 q1.2) fun q2 => if q2.1 = 0 then (bnd (f_X1_spells 3 q2.2) fun q3 => if q3.1 = 0 then (bnd (f_X1_spells 4 q3.2) fun q4 => if q4.1 = 0 then (bnd (f_X1_spells 5 q4.2) fun q5 => if q5.1 = 0 then (bnd (f_X1_spells 6 q5.2) fun q6 => if q6.1 = 0 then (bnd (f_X1_spells 7 q6.2) fun q7 => if q7.1 = 0 then (bnd (f_X1_spells 8 q7.2) fun q8 => if q8.1 = 0 then (bnd (f_X1_spells 9 q8.2) fun q9 => if q9.1 = 0 then (bnd (f_X1_spells 10 q9.2) fun q10 => if q10.1 = 0 then (bnd (f_X1_spells 11 q10.2) fun q11 => if q11.1 = 0 then (bnd (f_X1_spells 12 q11.2) fun q12 => if q12.1 = 0 then (some ((-23 : Int32), q12.2)) else (some ((-21 : Int32), q12.2))) else (some ((-20 : Int32), q11.2))) else (some ((-19 : Int32), q10.2))) else (some ((-14 : Int32), q9.2))) else (some ((-8 : Int32), q8.2))) else (some ((-7 : Int32), q7.2))) else (some ((-6 : Int32), q6.2))) else (some ((-5 : Int32), q5.2))) else (some ((-4 : Int32), q4.2))) else (some ((-3 : Int32), q3.2))) else (some ((-2 : Int32), q2.2))) else (some ((-1 : Int32), q1.2))
theorem vb_X1_word_39 {g : Gt} {ad : Nat → Nat} (z : Zt) (σ : GX) : V g (LX ad) 6 RX1 cX1_word 1 (some .int) (wX g ad) iI z (b_X1_word_39 σ) σ 39 [(0, .ref (aReader ad))] [] := by
  unfold b_X1_word_39
  refine v_aload_n (pc := 39) (i := 0) dX1_word_39 rfl rfl ?_
  refine v_ldcS (pc := 40) (i := 1) (by decide) rfl dX1_word_40 ?_
  refine v_callVi (pc := 42) rcX1 (As := [.ref (g.2.2.2.2.2.2.1 1)]) (rest := []) (ct_X1_spells (by decide)) mi_X1_spells q_267 (by decide) rfl rfl (Nat.le_of_ble_eq_true rfl) dX1_word_42 (fun q1 => ?_)
  refine v_if_eq (pc := 45) (tgt := 50) dX1_word_45 rfl ?_ ?_
  · refine v_aload_n (pc := 50) (i := 0) dX1_word_50 rfl rfl ?_
    refine v_ldcS (pc := 51) (i := 2) (by decide) rfl dX1_word_51 ?_
    refine v_callVi (pc := 53) rcX1 (As := [.ref (g.2.2.2.2.2.2.1 2)]) (rest := []) (ct_X1_spells (by decide)) mi_X1_spells q_267 (by decide) rfl rfl (Nat.le_of_ble_eq_true rfl) dX1_word_53 (fun q2 => ?_)
    refine v_if_eq (pc := 56) (tgt := 62) dX1_word_56 rfl ?_ ?_
    · refine v_aload_n (pc := 62) (i := 0) dX1_word_62 rfl rfl ?_
      refine v_ldcS (pc := 63) (i := 3) (by decide) rfl dX1_word_63 ?_
      refine v_callVi (pc := 65) rcX1 (As := [.ref (g.2.2.2.2.2.2.1 3)]) (rest := []) (ct_X1_spells (by decide)) mi_X1_spells q_267 (by decide) rfl rfl (Nat.le_of_ble_eq_true rfl) dX1_word_65 (fun q3 => ?_)
      refine v_if_eq (pc := 68) (tgt := 74) dX1_word_68 rfl ?_ ?_
      · refine v_aload_n (pc := 74) (i := 0) dX1_word_74 rfl rfl ?_
        refine v_ldcS (pc := 75) (i := 4) (by decide) rfl dX1_word_75 ?_
        refine v_callVi (pc := 77) rcX1 (As := [.ref (g.2.2.2.2.2.2.1 4)]) (rest := []) (ct_X1_spells (by decide)) mi_X1_spells q_267 (by decide) rfl rfl (Nat.le_of_ble_eq_true rfl) dX1_word_77 (fun q4 => ?_)
        refine v_if_eq (pc := 80) (tgt := 86) dX1_word_80 rfl ?_ ?_
        · refine v_aload_n (pc := 86) (i := 0) dX1_word_86 rfl rfl ?_
          refine v_ldcS (pc := 87) (i := 5) (by decide) rfl dX1_word_87 ?_
          refine v_callVi (pc := 89) rcX1 (As := [.ref (g.2.2.2.2.2.2.1 5)]) (rest := []) (ct_X1_spells (by decide)) mi_X1_spells q_267 (by decide) rfl rfl (Nat.le_of_ble_eq_true rfl) dX1_word_89 (fun q5 => ?_)
          refine v_if_eq (pc := 92) (tgt := 98) dX1_word_92 rfl ?_ ?_
          · refine v_aload_n (pc := 98) (i := 0) dX1_word_98 rfl rfl ?_
            refine v_ldcS (pc := 99) (i := 6) (by decide) rfl dX1_word_99 ?_
            refine v_callVi (pc := 101) rcX1 (As := [.ref (g.2.2.2.2.2.2.1 6)]) (rest := []) (ct_X1_spells (by decide)) mi_X1_spells q_267 (by decide) rfl rfl (Nat.le_of_ble_eq_true rfl) dX1_word_101 (fun q6 => ?_)
            refine v_if_eq (pc := 104) (tgt := 110) dX1_word_104 rfl ?_ ?_
            · refine v_aload_n (pc := 110) (i := 0) dX1_word_110 rfl rfl ?_
              refine v_ldcS (pc := 111) (i := 7) (by decide) rfl dX1_word_111 ?_
              refine v_callVi (pc := 113) rcX1 (As := [.ref (g.2.2.2.2.2.2.1 7)]) (rest := []) (ct_X1_spells (by decide)) mi_X1_spells q_267 (by decide) rfl rfl (Nat.le_of_ble_eq_true rfl) dX1_word_113 (fun q7 => ?_)
              refine v_if_eq (pc := 116) (tgt := 122) dX1_word_116 rfl ?_ ?_
              · refine v_aload_n (pc := 122) (i := 0) dX1_word_122 rfl rfl ?_
                refine v_ldcS (pc := 123) (i := 8) (by decide) rfl dX1_word_123 ?_
                refine v_callVi (pc := 125) rcX1 (As := [.ref (g.2.2.2.2.2.2.1 8)]) (rest := []) (ct_X1_spells (by decide)) mi_X1_spells q_267 (by decide) rfl rfl (Nat.le_of_ble_eq_true rfl) dX1_word_125 (fun q8 => ?_)
                refine v_if_eq (pc := 128) (tgt := 134) dX1_word_128 rfl ?_ ?_
                · refine v_aload_n (pc := 134) (i := 0) dX1_word_134 rfl rfl ?_
                  refine v_ldcS (pc := 135) (i := 9) (by decide) rfl dX1_word_135 ?_
                  refine v_callVi (pc := 137) rcX1 (As := [.ref (g.2.2.2.2.2.2.1 9)]) (rest := []) (ct_X1_spells (by decide)) mi_X1_spells q_267 (by decide) rfl rfl (Nat.le_of_ble_eq_true rfl) dX1_word_137 (fun q9 => ?_)
                  refine v_if_eq (pc := 140) (tgt := 146) dX1_word_140 rfl ?_ ?_
                  · refine v_aload_n (pc := 146) (i := 0) dX1_word_146 rfl rfl ?_
                    refine v_ldcS (pc := 147) (i := 10) (by decide) rfl dX1_word_147 ?_
                    refine v_callVi (pc := 149) rcX1 (As := [.ref (g.2.2.2.2.2.2.1 10)]) (rest := []) (ct_X1_spells (by decide)) mi_X1_spells q_267 (by decide) rfl rfl (Nat.le_of_ble_eq_true rfl) dX1_word_149 (fun q10 => ?_)
                    refine v_if_eq (pc := 152) (tgt := 158) dX1_word_152 rfl ?_ ?_
                    · refine v_aload_n (pc := 158) (i := 0) dX1_word_158 rfl rfl ?_
                      refine v_ldcS (pc := 159) (i := 11) (by decide) rfl dX1_word_159 ?_
                      refine v_callVi (pc := 161) rcX1 (As := [.ref (g.2.2.2.2.2.2.1 11)]) (rest := []) (ct_X1_spells (by decide)) mi_X1_spells q_267 (by decide) rfl rfl (Nat.le_of_ble_eq_true rfl) dX1_word_161 (fun q11 => ?_)
                      refine v_if_eq (pc := 164) (tgt := 170) dX1_word_164 rfl ?_ ?_
                      · refine v_aload_n (pc := 170) (i := 0) dX1_word_170 rfl rfl ?_
                        refine v_ldcS (pc := 171) (i := 12) (by decide) rfl dX1_word_171 ?_
                        refine v_callVi (pc := 173) rcX1 (As := [.ref (g.2.2.2.2.2.2.1 12)]) (rest := []) (ct_X1_spells (by decide)) mi_X1_spells q_267 (by decide) rfl rfl (Nat.le_of_ble_eq_true rfl) dX1_word_173 (fun q12 => ?_)
                        refine v_if_eq (pc := 176) (tgt := 184) dX1_word_176 rfl ?_ ?_
                        · refine v_bipush (pc := 184) dX1_word_184 bp_m23 ?_
                          exact v_iret (pc := 186) dX1_word_186
                        · refine v_bipush (pc := 179) dX1_word_179 bp_m21 ?_
                          refine v_goto (pc := 181) (tgt := 186) dX1_word_181 rfl ?_
                          exact v_iret (pc := 186) dX1_word_186
                      · refine v_bipush (pc := 167) dX1_word_167 bp_m20 ?_
                        exact v_iret (pc := 169) dX1_word_169
                    · refine v_bipush (pc := 155) dX1_word_155 bp_m19 ?_
                      exact v_iret (pc := 157) dX1_word_157
                  · refine v_bipush (pc := 143) dX1_word_143 bp_m14 ?_
                    exact v_iret (pc := 145) dX1_word_145
                · refine v_bipush (pc := 131) dX1_word_131 bp_m8 ?_
                  exact v_iret (pc := 133) dX1_word_133
              · refine v_bipush (pc := 119) dX1_word_119 bp_m7 ?_
                exact v_iret (pc := 121) dX1_word_121
            · refine v_bipush (pc := 107) dX1_word_107 bp_m6 ?_
              exact v_iret (pc := 109) dX1_word_109
          · refine v_bipush (pc := 95) dX1_word_95 bp_m5 ?_
            exact v_iret (pc := 97) dX1_word_97
        · refine v_bipush (pc := 83) dX1_word_83 bp_m4 ?_
          exact v_iret (pc := 85) dX1_word_85
      · refine v_bipush (pc := 71) dX1_word_71 bp_m3 ?_
        exact v_iret (pc := 73) dX1_word_73
    · refine v_bipush (pc := 59) dX1_word_59 bp_m2 ?_
      exact v_iret (pc := 61) dX1_word_61
  · refine v_iconst (pc := 48) dX1_word_48 ic_m1 ?_
    exact v_iret (pc := 49) dX1_word_49
def b_X1_word_0 (kc0 : GX → Option (Int32 × GX)) (σ : GX) : Option (Int32 × GX) :=
  if (xI σ 3) ≤ (xI σ 4) then (b_X1_word_39 σ) else (tpB (xY σ) (grd (xI σ 4) 160 (bnd (f_X1_isLetter (xP σ (xI σ 4).toNatClampNeg) σ) fun q13 => if q13.1 = 0 then (b_X1_word_39 q13.2) else (bnd (some (sI q13.2 4 ((xI q13.2 4) + (1 : Int32)))) fun σ14 => kc0 σ14))))
theorem vb_X1_word_0 {g : Gt} {ad : Nat → Nat} (z : Zt) (kc0 : GX → Option (Int32 × GX)) (hkc0 : ∀ (σ : GX), V g (LX ad) 6 RX1 cX1_word 1 (some .int) (wX g ad) iI z (kc0 σ) σ 0 [(0, .ref (aReader ad))] []) (σ : GX) : V g (LX ad) 6 RX1 cX1_word 1 (some .int) (wX g ad) iI z (b_X1_word_0 kc0 σ) σ 0 [(0, .ref (aReader ad))] [] := by
  unfold b_X1_word_0
  refine v_aload_n (pc := 0) (i := 0) dX1_word_0 rfl rfl ?_
  refine gX1_at (pc := 1) q_84 dX1_word_1 ?_
  refine v_aload_n (pc := 4) (i := 0) dX1_word_4 rfl rfl ?_
  refine gX1_size (pc := 5) q_83 dX1_word_5 ?_
  refine v_icmp_ge (pc := 8) (tgt := 39) dX1_word_8 rfl ?_ ?_
  · exact v_sub [0] rfl (vb_X1_word_39 z σ)
  · refine v_aload_n (pc := 11) (i := 0) dX1_word_11 rfl rfl ?_
    refine gX1_tape (pc := 12) q_82 dX1_word_12 ?_
    refine v_aload_n (pc := 15) (i := 0) dX1_word_15 rfl rfl ?_
    refine gX1_at (pc := 16) q_84 dX1_word_16 ?_
    refine lX_tape (pc := 19) dX1_word_19 ?_
    refine v_callSi (pc := 20) (av := [.int (xP σ (xI σ 4).toNatClampNeg)]) (rest := []) (ct_X1_isLetter (xP σ (xI σ 4).toNatClampNeg)) mi_X1_isLetter q_259 (by decide) rfl rfl (Nat.le_of_ble_eq_true rfl) dX1_word_20 (fun q13 => ?_)
    refine v_if_eq (pc := 23) (tgt := 39) dX1_word_23 rfl ?_ ?_
    · exact v_sub [0] rfl (vb_X1_word_39 z q13.2)
    · refine v_aload_n (pc := 26) (i := 0) dX1_word_26 rfl rfl ?_
      refine v_dup (pc := 27) dX1_word_27 rfl ?_
      refine gX1_at (pc := 28) q_84 dX1_word_28 ?_
      refine v_iconst (pc := 31) dX1_word_31 ic_1 ?_
      refine v_iadd (pc := 32) dX1_word_32 ?_
      refine pX1_at (pc := 33) q_84 dX1_word_33 ?_
      refine v_nms (fun σ14 => ?_)
      refine v_goto (pc := 36) (tgt := 0) dX1_word_36 rfl ?_
      exact v_sub [0] rfl (hkc0 σ14)
def k_X1_word_0 : Nat → GX → Option (Int32 × GX)
  | 0 => fun _ => none
  | n + 1 => b_X1_word_0 (k_X1_word_0 n)
theorem vk_X1_word_0 {g : Gt} {ad : Nat → Nat} (z : Zt) : ∀ (n : Nat) (σ : GX), V g (LX ad) 6 RX1 cX1_word 1 (some .int) (wX g ad) iI z (k_X1_word_0 n σ) σ 0 [(0, .ref (aReader ad))] [] := by
  intro n
  induction n with
  | zero => intros; exact v_eq rfl v_none
  | succ n ih =>
    intro σ
    exact v_eq rfl (vb_X1_word_0 z _ ih σ)
def f_X1_word (σ : GX) : Option (Int32 × GX) :=
  k_X1_word_0 FU σ
theorem vf_X1_word {g : Gt} {ad : Nat → Nat} (z : Zt) (σ : GX) : V g (LX ad) 6 RX1 cX1_word 1 (some .int) (wX g ad) iI z (f_X1_word σ) σ 0 [(0, .ref (aReader ad))] [] := by
  unfold f_X1_word
  exact v_sub [0] rfl (vk_X1_word_0 z FU σ)
theorem ct_X1_word {g : Gt} {ad : Nat → Nat} : CT g (LX ad) yX1_word cX1_word 1 (some .int) 6 [.ref (aReader ad)] iI (wX g ad) (f_X1_word) :=
  ct_of_V (own := RX1) (lv0 := [(0, .ref (aReader ad))]) (by decide +kernel) rfl (Nat.le_of_ble_eq_true rfl) rfl (fun z σ => vf_X1_word z σ)
-- LighthouseLiedTo$Reader.isDigit
theorem dX1_isDigit_0 : decode cX1_isDigit 0 = .ok (.iload_n 0, 1) := by decide +kernel
theorem dX1_isDigit_1 : decode cX1_isDigit 1 = .ok (.bipush 48, 2) := by decide +kernel
theorem dX1_isDigit_3 : decode cX1_isDigit 3 = .ok (.if_icmp .lt 13, 3) := by decide +kernel
theorem dX1_isDigit_6 : decode cX1_isDigit 6 = .ok (.iload_n 0, 1) := by decide +kernel
theorem dX1_isDigit_7 : decode cX1_isDigit 7 = .ok (.bipush 57, 2) := by decide +kernel
theorem dX1_isDigit_9 : decode cX1_isDigit 9 = .ok (.if_icmp .gt 7, 3) := by decide +kernel
theorem dX1_isDigit_12 : decode cX1_isDigit 12 = .ok (.iconst 1, 1) := by decide +kernel
theorem dX1_isDigit_13 : decode cX1_isDigit 13 = .ok (.goto 4, 3) := by decide +kernel
theorem dX1_isDigit_16 : decode cX1_isDigit 16 = .ok (.iconst 0, 1) := by decide +kernel
theorem dX1_isDigit_17 : decode cX1_isDigit 17 = .ok (.ireturn, 1) := by decide +kernel
def f_X1_isDigit (x0 : Int32) (σ : GX) : Option (Int32 × GX) :=
  if x0 < (48 : Int32) then (some ((0 : Int32), σ)) else (if (57 : Int32) < x0 then (some ((0 : Int32), σ)) else (some ((1 : Int32), σ)))
theorem vf_X1_isDigit {g : Gt} {ad : Nat → Nat} (z : Zt) (x0 : Int32) (σ : GX) : V g (LX ad) 1 RX1 cX1_isDigit 1 (some .boolean) (wX g ad) iI z (f_X1_isDigit x0 σ) σ 0 [(0, .int x0)] [] := by
  unfold f_X1_isDigit
  refine v_iload_n (pc := 0) (i := 0) dX1_isDigit_0 rfl rfl ?_
  refine v_bipush (pc := 1) dX1_isDigit_1 bp_48 ?_
  refine v_icmp_lt (pc := 3) (tgt := 16) dX1_isDigit_3 rfl ?_ ?_
  · refine v_iconst (pc := 16) dX1_isDigit_16 ic_0 ?_
    exact v_nret (pc := 17) rfl dX1_isDigit_17
  · refine v_iload_n (pc := 6) (i := 0) dX1_isDigit_6 rfl rfl ?_
    refine v_bipush (pc := 7) dX1_isDigit_7 bp_57 ?_
    refine v_icmp_gt (pc := 9) (tgt := 16) dX1_isDigit_9 rfl ?_ ?_
    · refine v_iconst (pc := 16) dX1_isDigit_16 ic_0 ?_
      exact v_nret (pc := 17) rfl dX1_isDigit_17
    · refine v_iconst (pc := 12) dX1_isDigit_12 ic_1 ?_
      refine v_goto (pc := 13) (tgt := 17) dX1_isDigit_13 rfl ?_
      exact v_nret (pc := 17) rfl dX1_isDigit_17
theorem ct_X1_isDigit {g : Gt} {ad : Nat → Nat} (x0 : Int32) : CT g (LX ad) yX1_isDigit cX1_isDigit 1 (some .boolean) 1 [.int x0] iI (wX g ad) (f_X1_isDigit x0) :=
  ct_of_V (own := RX1) (lv0 := [(0, .int x0)]) (by decide +kernel) rfl (Nat.le_of_ble_eq_true rfl) rfl (fun z σ => vf_X1_isDigit z x0 σ)
-- LighthouseLiedTo$Reader.number
theorem dX1_number_0 : decode cX1_number 0 = .ok (.iconst 0, 1) := by decide +kernel
theorem dX1_number_1 : decode cX1_number 1 = .ok (.istore_n 1, 1) := by decide +kernel
theorem dX1_number_2 : decode cX1_number 2 = .ok (.aload_n 0, 1) := by decide +kernel
theorem dX1_number_3 : decode cX1_number 3 = .ok (.getfield 23, 3) := by decide +kernel
theorem dX1_number_6 : decode cX1_number 6 = .ok (.aload_n 0, 1) := by decide +kernel
theorem dX1_number_7 : decode cX1_number 7 = .ok (.getfield 15, 3) := by decide +kernel
theorem dX1_number_10 : decode cX1_number 10 = .ok (.if_icmp .ge 49, 3) := by decide +kernel
theorem dX1_number_13 : decode cX1_number 13 = .ok (.aload_n 0, 1) := by decide +kernel
theorem dX1_number_14 : decode cX1_number 14 = .ok (.getfield 9, 3) := by decide +kernel
theorem dX1_number_17 : decode cX1_number 17 = .ok (.aload_n 0, 1) := by decide +kernel
theorem dX1_number_18 : decode cX1_number 18 = .ok (.getfield 23, 3) := by decide +kernel
theorem dX1_number_21 : decode cX1_number 21 = .ok (.iaload, 1) := by decide +kernel
theorem dX1_number_22 : decode cX1_number 22 = .ok (.invokestatic 78, 3) := by decide +kernel
theorem dX1_number_25 : decode cX1_number 25 = .ok (.ifCond .eq 34, 3) := by decide +kernel
theorem dX1_number_28 : decode cX1_number 28 = .ok (.iload_n 1, 1) := by decide +kernel
theorem dX1_number_29 : decode cX1_number 29 = .ok (.bipush 10, 2) := by decide +kernel
theorem dX1_number_31 : decode cX1_number 31 = .ok (.imul, 1) := by decide +kernel
theorem dX1_number_32 : decode cX1_number 32 = .ok (.aload_n 0, 1) := by decide +kernel
theorem dX1_number_33 : decode cX1_number 33 = .ok (.getfield 9, 3) := by decide +kernel
theorem dX1_number_36 : decode cX1_number 36 = .ok (.aload_n 0, 1) := by decide +kernel
theorem dX1_number_37 : decode cX1_number 37 = .ok (.getfield 23, 3) := by decide +kernel
theorem dX1_number_40 : decode cX1_number 40 = .ok (.iaload, 1) := by decide +kernel
theorem dX1_number_41 : decode cX1_number 41 = .ok (.bipush 48, 2) := by decide +kernel
theorem dX1_number_43 : decode cX1_number 43 = .ok (.isub, 1) := by decide +kernel
theorem dX1_number_44 : decode cX1_number 44 = .ok (.iadd, 1) := by decide +kernel
theorem dX1_number_45 : decode cX1_number 45 = .ok (.istore_n 1, 1) := by decide +kernel
theorem dX1_number_46 : decode cX1_number 46 = .ok (.aload_n 0, 1) := by decide +kernel
theorem dX1_number_47 : decode cX1_number 47 = .ok (.dup, 1) := by decide +kernel
theorem dX1_number_48 : decode cX1_number 48 = .ok (.getfield 23, 3) := by decide +kernel
theorem dX1_number_51 : decode cX1_number 51 = .ok (.iconst 1, 1) := by decide +kernel
theorem dX1_number_52 : decode cX1_number 52 = .ok (.iadd, 1) := by decide +kernel
theorem dX1_number_53 : decode cX1_number 53 = .ok (.putfield 23, 3) := by decide +kernel
theorem dX1_number_56 : decode cX1_number 56 = .ok (.goto (-54), 3) := by decide +kernel
theorem dX1_number_59 : decode cX1_number 59 = .ok (.aload_n 0, 1) := by decide +kernel
theorem dX1_number_60 : decode cX1_number 60 = .ok (.getfield 23, 3) := by decide +kernel
theorem dX1_number_63 : decode cX1_number 63 = .ok (.aload_n 0, 1) := by decide +kernel
theorem dX1_number_64 : decode cX1_number 64 = .ok (.getfield 48, 3) := by decide +kernel
theorem dX1_number_67 : decode cX1_number 67 = .ok (.isub, 1) := by decide +kernel
theorem dX1_number_68 : decode cX1_number 68 = .ok (.iconst 4, 1) := by decide +kernel
theorem dX1_number_69 : decode cX1_number 69 = .ok (.if_icmp .le 8, 3) := by decide +kernel
theorem dX1_number_72 : decode cX1_number 72 = .ok (.bipush (-23), 2) := by decide +kernel
theorem dX1_number_74 : decode cX1_number 74 = .ok (.goto 4, 3) := by decide +kernel
theorem dX1_number_77 : decode cX1_number 77 = .ok (.iload_n 1, 1) := by decide +kernel
theorem dX1_number_78 : decode cX1_number 78 = .ok (.ireturn, 1) := by decide +kernel
def b_X1_number_59 (x1 : Int32) (σ : GX) : Option (Int32 × GX) :=
  if ((xI σ 4) - (xI σ 6)) ≤ (4 : Int32) then (some (x1, σ)) else (some ((-23 : Int32), σ))
theorem vb_X1_number_59 {g : Gt} {ad : Nat → Nat} (z : Zt) (x1 : Int32) (σ : GX) : V g (LX ad) 2 RX1 cX1_number 2 (some .int) (wX g ad) iI z (b_X1_number_59 x1 σ) σ 59 [(0, .ref (aReader ad)), (1, .int x1)] [] := by
  unfold b_X1_number_59
  refine v_aload_n (pc := 59) (i := 0) dX1_number_59 rfl rfl ?_
  refine gX1_at (pc := 60) q_84 dX1_number_60 ?_
  refine v_aload_n (pc := 63) (i := 0) dX1_number_63 rfl rfl ?_
  refine gX1_place (pc := 64) q_86 dX1_number_64 ?_
  refine v_isub (pc := 67) dX1_number_67 ?_
  refine v_iconst (pc := 68) dX1_number_68 ic_4 ?_
  refine v_icmp_le (pc := 69) (tgt := 77) dX1_number_69 rfl ?_ ?_
  · refine v_iload_n (pc := 77) (i := 1) dX1_number_77 rfl rfl ?_
    exact v_iret (pc := 78) dX1_number_78
  · refine v_bipush (pc := 72) dX1_number_72 bp_m23 ?_
    refine v_goto (pc := 74) (tgt := 78) dX1_number_74 rfl ?_
    exact v_iret (pc := 78) dX1_number_78
def b_X1_number_2 (kc2 : Int32 → GX → Option (Int32 × GX)) (x1 : Int32) (σ : GX) : Option (Int32 × GX) :=
  if (xI σ 3) ≤ (xI σ 4) then (b_X1_number_59 x1 σ) else (tpB (xY σ) (grd (xI σ 4) 160 (bnd (f_X1_isDigit (xP σ (xI σ 4).toNatClampNeg) σ) fun q1 => if q1.1 = 0 then (b_X1_number_59 x1 q1.2) else (tpB (xY q1.2) (grd (xI q1.2 4) 160 (bnd (some ((x1 * (10 : Int32)) + ((xP q1.2 (xI q1.2 4).toNatClampNeg) - (48 : Int32)))) fun w2 => bnd (some (sI q1.2 4 ((xI q1.2 4) + (1 : Int32)))) fun σ3 => kc2 w2 σ3))))))
theorem vb_X1_number_2 {g : Gt} {ad : Nat → Nat} (z : Zt) (kc2 : Int32 → GX → Option (Int32 × GX)) (hkc2 : ∀ (x1 : Int32) (σ : GX), V g (LX ad) 2 RX1 cX1_number 2 (some .int) (wX g ad) iI z (kc2 x1 σ) σ 2 [(0, .ref (aReader ad)), (1, .int x1)] []) (x1 : Int32) (σ : GX) : V g (LX ad) 2 RX1 cX1_number 2 (some .int) (wX g ad) iI z (b_X1_number_2 kc2 x1 σ) σ 2 [(0, .ref (aReader ad)), (1, .int x1)] [] := by
  unfold b_X1_number_2
  refine v_aload_n (pc := 2) (i := 0) dX1_number_2 rfl rfl ?_
  refine gX1_at (pc := 3) q_84 dX1_number_3 ?_
  refine v_aload_n (pc := 6) (i := 0) dX1_number_6 rfl rfl ?_
  refine gX1_size (pc := 7) q_83 dX1_number_7 ?_
  refine v_icmp_ge (pc := 10) (tgt := 59) dX1_number_10 rfl ?_ ?_
  · exact v_sub [0, 1] rfl (vb_X1_number_59 z x1 σ)
  · refine v_aload_n (pc := 13) (i := 0) dX1_number_13 rfl rfl ?_
    refine gX1_tape (pc := 14) q_82 dX1_number_14 ?_
    refine v_aload_n (pc := 17) (i := 0) dX1_number_17 rfl rfl ?_
    refine gX1_at (pc := 18) q_84 dX1_number_18 ?_
    refine lX_tape (pc := 21) dX1_number_21 ?_
    refine v_callSi (pc := 22) (av := [.int (xP σ (xI σ 4).toNatClampNeg)]) (rest := []) (ct_X1_isDigit (xP σ (xI σ 4).toNatClampNeg)) mi_X1_isDigit q_284 (by decide) rfl rfl (Nat.le_of_ble_eq_true rfl) dX1_number_22 (fun q1 => ?_)
    refine v_if_eq (pc := 25) (tgt := 59) dX1_number_25 rfl ?_ ?_
    · exact v_sub [0, 1] rfl (vb_X1_number_59 z x1 q1.2)
    · refine v_iload_n (pc := 28) (i := 1) dX1_number_28 rfl rfl ?_
      refine v_bipush (pc := 29) dX1_number_29 bp_10 ?_
      refine v_imul (pc := 31) dX1_number_31 ?_
      refine v_aload_n (pc := 32) (i := 0) dX1_number_32 rfl rfl ?_
      refine gX1_tape (pc := 33) q_82 dX1_number_33 ?_
      refine v_aload_n (pc := 36) (i := 0) dX1_number_36 rfl rfl ?_
      refine gX1_at (pc := 37) q_84 dX1_number_37 ?_
      refine lX_tape (pc := 40) dX1_number_40 ?_
      refine v_bipush (pc := 41) dX1_number_41 bp_48 ?_
      refine v_isub (pc := 43) dX1_number_43 ?_
      refine v_iadd (pc := 44) dX1_number_44 ?_
      refine v_nmi (fun w2 => ?_)
      refine v_istore_n (pc := 45) (lv' := [(1, .int w2), (0, .ref (aReader ad))]) (i := 1) dX1_number_45 rfl (by decide) rfl ?_
      refine v_aload_n (pc := 46) (i := 0) dX1_number_46 rfl rfl ?_
      refine v_dup (pc := 47) dX1_number_47 rfl ?_
      refine gX1_at (pc := 48) q_84 dX1_number_48 ?_
      refine v_iconst (pc := 51) dX1_number_51 ic_1 ?_
      refine v_iadd (pc := 52) dX1_number_52 ?_
      refine pX1_at (pc := 53) q_84 dX1_number_53 ?_
      refine v_nms (fun σ3 => ?_)
      refine v_goto (pc := 56) (tgt := 2) dX1_number_56 rfl ?_
      exact v_sub [1, 0] rfl (hkc2 w2 σ3)
def k_X1_number_2 : Nat → Int32 → GX → Option (Int32 × GX)
  | 0 => fun _ _ => none
  | n + 1 => b_X1_number_2 (k_X1_number_2 n)
theorem vk_X1_number_2 {g : Gt} {ad : Nat → Nat} (z : Zt) : ∀ (n : Nat) (x1 : Int32) (σ : GX), V g (LX ad) 2 RX1 cX1_number 2 (some .int) (wX g ad) iI z (k_X1_number_2 n x1 σ) σ 2 [(0, .ref (aReader ad)), (1, .int x1)] [] := by
  intro n
  induction n with
  | zero => intros; exact v_eq rfl v_none
  | succ n ih =>
    intro x1 σ
    exact v_eq rfl (vb_X1_number_2 z _ ih x1 σ)
def f_X1_number (σ : GX) : Option (Int32 × GX) :=
  k_X1_number_2 FU (0 : Int32) σ
theorem vf_X1_number {g : Gt} {ad : Nat → Nat} (z : Zt) (σ : GX) : V g (LX ad) 2 RX1 cX1_number 2 (some .int) (wX g ad) iI z (f_X1_number σ) σ 0 [(0, .ref (aReader ad))] [] := by
  unfold f_X1_number
  refine v_iconst (pc := 0) dX1_number_0 ic_0 ?_
  refine v_istore_n (pc := 1) (lv' := [(1, .int (0 : Int32)), (0, .ref (aReader ad))]) (i := 1) dX1_number_1 rfl (by decide) rfl ?_
  exact v_sub [1, 0] rfl (vk_X1_number_2 z FU (0 : Int32) σ)
theorem ct_X1_number {g : Gt} {ad : Nat → Nat} : CT g (LX ad) yX1_number cX1_number 2 (some .int) 2 [.ref (aReader ad)] iI (wX g ad) (f_X1_number) :=
  ct_of_V (own := RX1) (lv0 := [(0, .ref (aReader ad))]) (by decide +kernel) rfl (Nat.le_of_ble_eq_true rfl) rfl (fun z σ => vf_X1_number z σ)
-- LighthouseLiedTo$Reader.signOf
theorem dX1_signOf_0 : decode cX1_signOf 0 = .ok (.iload_n 0, 1) := by decide +kernel
theorem dX1_signOf_1 : decode cX1_signOf 1 = .ok (.tableswitch 127 40 61 #[103, 106, 118, 112, 127, 115, 127, 127, 127, 127, 127, 127, 127, 127, 127, 127, 127, 127, 127, 109, 121, 124], 103) := by decide +kernel
theorem dX1_signOf_104 : decode cX1_signOf 104 = .ok (.bipush (-16), 2) := by decide +kernel
theorem dX1_signOf_106 : decode cX1_signOf 106 = .ok (.ireturn, 1) := by decide +kernel
theorem dX1_signOf_107 : decode cX1_signOf 107 = .ok (.bipush (-17), 2) := by decide +kernel
theorem dX1_signOf_109 : decode cX1_signOf 109 = .ok (.ireturn, 1) := by decide +kernel
theorem dX1_signOf_110 : decode cX1_signOf 110 = .ok (.bipush (-18), 2) := by decide +kernel
theorem dX1_signOf_112 : decode cX1_signOf 112 = .ok (.ireturn, 1) := by decide +kernel
theorem dX1_signOf_113 : decode cX1_signOf 113 = .ok (.bipush (-11), 2) := by decide +kernel
theorem dX1_signOf_115 : decode cX1_signOf 115 = .ok (.ireturn, 1) := by decide +kernel
theorem dX1_signOf_116 : decode cX1_signOf 116 = .ok (.bipush (-12), 2) := by decide +kernel
theorem dX1_signOf_118 : decode cX1_signOf 118 = .ok (.ireturn, 1) := by decide +kernel
theorem dX1_signOf_119 : decode cX1_signOf 119 = .ok (.bipush (-13), 2) := by decide +kernel
theorem dX1_signOf_121 : decode cX1_signOf 121 = .ok (.ireturn, 1) := by decide +kernel
theorem dX1_signOf_122 : decode cX1_signOf 122 = .ok (.bipush (-9), 2) := by decide +kernel
theorem dX1_signOf_124 : decode cX1_signOf 124 = .ok (.ireturn, 1) := by decide +kernel
theorem dX1_signOf_125 : decode cX1_signOf 125 = .ok (.bipush (-10), 2) := by decide +kernel
theorem dX1_signOf_127 : decode cX1_signOf 127 = .ok (.ireturn, 1) := by decide +kernel
theorem dX1_signOf_128 : decode cX1_signOf 128 = .ok (.bipush (-23), 2) := by decide +kernel
theorem dX1_signOf_130 : decode cX1_signOf 130 = .ok (.ireturn, 1) := by decide +kernel
def f_X1_signOf (x0 : Int32) (σ : GX) : Option (Int32 × GX) :=
  if x0 = (40 : Int32) then (some ((-16 : Int32), σ)) else (if x0 = (41 : Int32) then (some ((-17 : Int32), σ)) else (if x0 = (42 : Int32) then (some ((-13 : Int32), σ)) else (if x0 = (43 : Int32) then (some ((-11 : Int32), σ)) else (if x0 = (44 : Int32) then (some ((-23 : Int32), σ)) else (if x0 = (45 : Int32) then (some ((-12 : Int32), σ)) else (if x0 = (46 : Int32) then (some ((-23 : Int32), σ)) else (if x0 = (47 : Int32) then (some ((-23 : Int32), σ)) else (if x0 = (48 : Int32) then (some ((-23 : Int32), σ)) else (if x0 = (49 : Int32) then (some ((-23 : Int32), σ)) else (if x0 = (50 : Int32) then (some ((-23 : Int32), σ)) else (if x0 = (51 : Int32) then (some ((-23 : Int32), σ)) else (if x0 = (52 : Int32) then (some ((-23 : Int32), σ)) else (if x0 = (53 : Int32) then (some ((-23 : Int32), σ)) else (if x0 = (54 : Int32) then (some ((-23 : Int32), σ)) else (if x0 = (55 : Int32) then (some ((-23 : Int32), σ)) else (if x0 = (56 : Int32) then (some ((-23 : Int32), σ)) else (if x0 = (57 : Int32) then (some ((-23 : Int32), σ)) else (if x0 = (58 : Int32) then (some ((-23 : Int32), σ)) else (if x0 = (59 : Int32) then (some ((-18 : Int32), σ)) else (if x0 = (60 : Int32) then (some ((-9 : Int32), σ)) else (if x0 = (61 : Int32) then (some ((-10 : Int32), σ)) else (some ((-23 : Int32), σ)))))))))))))))))))))))
theorem vf_X1_signOf {g : Gt} {ad : Nat → Nat} (z : Zt) (x0 : Int32) (σ : GX) : V g (LX ad) 1 RX1 cX1_signOf 1 (some .int) (wX g ad) iI z (f_X1_signOf x0 σ) σ 0 [(0, .int x0)] [] := by
  unfold f_X1_signOf
  refine v_iload_n (pc := 0) (i := 0) dX1_signOf_0 rfl rfl ?_
  refine v_case (c := x0 = (40 : Int32)) (fun hx => ?_) (fun hc1_0 => ?_)
  · refine v_tin (pc := 1) (tgt := 104) (off := 103) hx dX1_signOf_1 (by decide) (by decide) rfl rfl ?_
    refine v_bipush (pc := 104) dX1_signOf_104 bp_m16 ?_
    exact v_iret (pc := 106) dX1_signOf_106
  refine v_case (c := x0 = (41 : Int32)) (fun hx => ?_) (fun hc1_1 => ?_)
  · refine v_tin (pc := 1) (tgt := 107) (off := 106) hx dX1_signOf_1 (by decide) (by decide) rfl rfl ?_
    refine v_bipush (pc := 107) dX1_signOf_107 bp_m17 ?_
    exact v_iret (pc := 109) dX1_signOf_109
  refine v_case (c := x0 = (42 : Int32)) (fun hx => ?_) (fun hc1_2 => ?_)
  · refine v_tin (pc := 1) (tgt := 119) (off := 118) hx dX1_signOf_1 (by decide) (by decide) rfl rfl ?_
    refine v_bipush (pc := 119) dX1_signOf_119 bp_m13 ?_
    exact v_iret (pc := 121) dX1_signOf_121
  refine v_case (c := x0 = (43 : Int32)) (fun hx => ?_) (fun hc1_3 => ?_)
  · refine v_tin (pc := 1) (tgt := 113) (off := 112) hx dX1_signOf_1 (by decide) (by decide) rfl rfl ?_
    refine v_bipush (pc := 113) dX1_signOf_113 bp_m11 ?_
    exact v_iret (pc := 115) dX1_signOf_115
  refine v_case (c := x0 = (44 : Int32)) (fun hx => ?_) (fun hc1_4 => ?_)
  · refine v_tin (pc := 1) (tgt := 128) (off := 127) hx dX1_signOf_1 (by decide) (by decide) rfl rfl ?_
    refine v_bipush (pc := 128) dX1_signOf_128 bp_m23 ?_
    exact v_iret (pc := 130) dX1_signOf_130
  refine v_case (c := x0 = (45 : Int32)) (fun hx => ?_) (fun hc1_5 => ?_)
  · refine v_tin (pc := 1) (tgt := 116) (off := 115) hx dX1_signOf_1 (by decide) (by decide) rfl rfl ?_
    refine v_bipush (pc := 116) dX1_signOf_116 bp_m12 ?_
    exact v_iret (pc := 118) dX1_signOf_118
  refine v_case (c := x0 = (46 : Int32)) (fun hx => ?_) (fun hc1_6 => ?_)
  · refine v_tin (pc := 1) (tgt := 128) (off := 127) hx dX1_signOf_1 (by decide) (by decide) rfl rfl ?_
    refine v_bipush (pc := 128) dX1_signOf_128 bp_m23 ?_
    exact v_iret (pc := 130) dX1_signOf_130
  refine v_case (c := x0 = (47 : Int32)) (fun hx => ?_) (fun hc1_7 => ?_)
  · refine v_tin (pc := 1) (tgt := 128) (off := 127) hx dX1_signOf_1 (by decide) (by decide) rfl rfl ?_
    refine v_bipush (pc := 128) dX1_signOf_128 bp_m23 ?_
    exact v_iret (pc := 130) dX1_signOf_130
  refine v_case (c := x0 = (48 : Int32)) (fun hx => ?_) (fun hc1_8 => ?_)
  · refine v_tin (pc := 1) (tgt := 128) (off := 127) hx dX1_signOf_1 (by decide) (by decide) rfl rfl ?_
    refine v_bipush (pc := 128) dX1_signOf_128 bp_m23 ?_
    exact v_iret (pc := 130) dX1_signOf_130
  refine v_case (c := x0 = (49 : Int32)) (fun hx => ?_) (fun hc1_9 => ?_)
  · refine v_tin (pc := 1) (tgt := 128) (off := 127) hx dX1_signOf_1 (by decide) (by decide) rfl rfl ?_
    refine v_bipush (pc := 128) dX1_signOf_128 bp_m23 ?_
    exact v_iret (pc := 130) dX1_signOf_130
  refine v_case (c := x0 = (50 : Int32)) (fun hx => ?_) (fun hc1_10 => ?_)
  · refine v_tin (pc := 1) (tgt := 128) (off := 127) hx dX1_signOf_1 (by decide) (by decide) rfl rfl ?_
    refine v_bipush (pc := 128) dX1_signOf_128 bp_m23 ?_
    exact v_iret (pc := 130) dX1_signOf_130
  refine v_case (c := x0 = (51 : Int32)) (fun hx => ?_) (fun hc1_11 => ?_)
  · refine v_tin (pc := 1) (tgt := 128) (off := 127) hx dX1_signOf_1 (by decide) (by decide) rfl rfl ?_
    refine v_bipush (pc := 128) dX1_signOf_128 bp_m23 ?_
    exact v_iret (pc := 130) dX1_signOf_130
  refine v_case (c := x0 = (52 : Int32)) (fun hx => ?_) (fun hc1_12 => ?_)
  · refine v_tin (pc := 1) (tgt := 128) (off := 127) hx dX1_signOf_1 (by decide) (by decide) rfl rfl ?_
    refine v_bipush (pc := 128) dX1_signOf_128 bp_m23 ?_
    exact v_iret (pc := 130) dX1_signOf_130
  refine v_case (c := x0 = (53 : Int32)) (fun hx => ?_) (fun hc1_13 => ?_)
  · refine v_tin (pc := 1) (tgt := 128) (off := 127) hx dX1_signOf_1 (by decide) (by decide) rfl rfl ?_
    refine v_bipush (pc := 128) dX1_signOf_128 bp_m23 ?_
    exact v_iret (pc := 130) dX1_signOf_130
  refine v_case (c := x0 = (54 : Int32)) (fun hx => ?_) (fun hc1_14 => ?_)
  · refine v_tin (pc := 1) (tgt := 128) (off := 127) hx dX1_signOf_1 (by decide) (by decide) rfl rfl ?_
    refine v_bipush (pc := 128) dX1_signOf_128 bp_m23 ?_
    exact v_iret (pc := 130) dX1_signOf_130
  refine v_case (c := x0 = (55 : Int32)) (fun hx => ?_) (fun hc1_15 => ?_)
  · refine v_tin (pc := 1) (tgt := 128) (off := 127) hx dX1_signOf_1 (by decide) (by decide) rfl rfl ?_
    refine v_bipush (pc := 128) dX1_signOf_128 bp_m23 ?_
    exact v_iret (pc := 130) dX1_signOf_130
  refine v_case (c := x0 = (56 : Int32)) (fun hx => ?_) (fun hc1_16 => ?_)
  · refine v_tin (pc := 1) (tgt := 128) (off := 127) hx dX1_signOf_1 (by decide) (by decide) rfl rfl ?_
    refine v_bipush (pc := 128) dX1_signOf_128 bp_m23 ?_
    exact v_iret (pc := 130) dX1_signOf_130
  refine v_case (c := x0 = (57 : Int32)) (fun hx => ?_) (fun hc1_17 => ?_)
  · refine v_tin (pc := 1) (tgt := 128) (off := 127) hx dX1_signOf_1 (by decide) (by decide) rfl rfl ?_
    refine v_bipush (pc := 128) dX1_signOf_128 bp_m23 ?_
    exact v_iret (pc := 130) dX1_signOf_130
  refine v_case (c := x0 = (58 : Int32)) (fun hx => ?_) (fun hc1_18 => ?_)
  · refine v_tin (pc := 1) (tgt := 128) (off := 127) hx dX1_signOf_1 (by decide) (by decide) rfl rfl ?_
    refine v_bipush (pc := 128) dX1_signOf_128 bp_m23 ?_
    exact v_iret (pc := 130) dX1_signOf_130
  refine v_case (c := x0 = (59 : Int32)) (fun hx => ?_) (fun hc1_19 => ?_)
  · refine v_tin (pc := 1) (tgt := 110) (off := 109) hx dX1_signOf_1 (by decide) (by decide) rfl rfl ?_
    refine v_bipush (pc := 110) dX1_signOf_110 bp_m18 ?_
    exact v_iret (pc := 112) dX1_signOf_112
  refine v_case (c := x0 = (60 : Int32)) (fun hx => ?_) (fun hc1_20 => ?_)
  · refine v_tin (pc := 1) (tgt := 122) (off := 121) hx dX1_signOf_1 (by decide) (by decide) rfl rfl ?_
    refine v_bipush (pc := 122) dX1_signOf_122 bp_m9 ?_
    exact v_iret (pc := 124) dX1_signOf_124
  refine v_case (c := x0 = (61 : Int32)) (fun hx => ?_) (fun hc1_21 => ?_)
  · refine v_tin (pc := 1) (tgt := 125) (off := 124) hx dX1_signOf_1 (by decide) (by decide) rfl rfl ?_
    refine v_bipush (pc := 125) dX1_signOf_125 bp_m10 ?_
    exact v_iret (pc := 127) dX1_signOf_127
  refine v_tout (pc := 1) (tgt := 128) dX1_signOf_1 (by have e0 := tsw_ne (a := 40) hc1_0 rfl; have e1 := tsw_ne (a := 41) hc1_1 rfl; have e2 := tsw_ne (a := 42) hc1_2 rfl; have e3 := tsw_ne (a := 43) hc1_3 rfl; have e4 := tsw_ne (a := 44) hc1_4 rfl; have e5 := tsw_ne (a := 45) hc1_5 rfl; have e6 := tsw_ne (a := 46) hc1_6 rfl; have e7 := tsw_ne (a := 47) hc1_7 rfl; have e8 := tsw_ne (a := 48) hc1_8 rfl; have e9 := tsw_ne (a := 49) hc1_9 rfl; have e10 := tsw_ne (a := 50) hc1_10 rfl; have e11 := tsw_ne (a := 51) hc1_11 rfl; have e12 := tsw_ne (a := 52) hc1_12 rfl; have e13 := tsw_ne (a := 53) hc1_13 rfl; have e14 := tsw_ne (a := 54) hc1_14 rfl; have e15 := tsw_ne (a := 55) hc1_15 rfl; have e16 := tsw_ne (a := 56) hc1_16 rfl; have e17 := tsw_ne (a := 57) hc1_17 rfl; have e18 := tsw_ne (a := 58) hc1_18 rfl; have e19 := tsw_ne (a := 59) hc1_19 rfl; have e20 := tsw_ne (a := 60) hc1_20 rfl; have e21 := tsw_ne (a := 61) hc1_21 rfl; omega) rfl ?_
  refine v_bipush (pc := 128) dX1_signOf_128 bp_m23 ?_
  exact v_iret (pc := 130) dX1_signOf_130
theorem ct_X1_signOf {g : Gt} {ad : Nat → Nat} (x0 : Int32) : CT g (LX ad) yX1_signOf cX1_signOf 1 (some .int) 1 [.int x0] iI (wX g ad) (f_X1_signOf x0) :=
  ct_of_V (own := RX1) (lv0 := [(0, .int x0)]) (by decide +kernel) rfl (Nat.le_of_ble_eq_true rfl) rfl (fun z σ => vf_X1_signOf z x0 σ)
-- LighthouseLiedTo$Reader.advance
theorem dX1_advance_0 : decode cX1_advance 0 = .ok (.aload_n 0, 1) := by decide +kernel
theorem dX1_advance_1 : decode cX1_advance 1 = .ok (.getfield 23, 3) := by decide +kernel
theorem dX1_advance_4 : decode cX1_advance 4 = .ok (.aload_n 0, 1) := by decide +kernel
theorem dX1_advance_5 : decode cX1_advance 5 = .ok (.getfield 15, 3) := by decide +kernel
theorem dX1_advance_8 : decode cX1_advance 8 = .ok (.if_icmp .ge 44, 3) := by decide +kernel
theorem dX1_advance_11 : decode cX1_advance 11 = .ok (.aload_n 0, 1) := by decide +kernel
theorem dX1_advance_12 : decode cX1_advance 12 = .ok (.getfield 9, 3) := by decide +kernel
theorem dX1_advance_15 : decode cX1_advance 15 = .ok (.aload_n 0, 1) := by decide +kernel
theorem dX1_advance_16 : decode cX1_advance 16 = .ok (.getfield 23, 3) := by decide +kernel
theorem dX1_advance_19 : decode cX1_advance 19 = .ok (.iaload, 1) := by decide +kernel
theorem dX1_advance_20 : decode cX1_advance 20 = .ok (.bipush 32, 2) := by decide +kernel
theorem dX1_advance_22 : decode cX1_advance 22 = .ok (.if_icmp .eq 17, 3) := by decide +kernel
theorem dX1_advance_25 : decode cX1_advance 25 = .ok (.aload_n 0, 1) := by decide +kernel
theorem dX1_advance_26 : decode cX1_advance 26 = .ok (.getfield 9, 3) := by decide +kernel
theorem dX1_advance_29 : decode cX1_advance 29 = .ok (.aload_n 0, 1) := by decide +kernel
theorem dX1_advance_30 : decode cX1_advance 30 = .ok (.getfield 23, 3) := by decide +kernel
theorem dX1_advance_33 : decode cX1_advance 33 = .ok (.iaload, 1) := by decide +kernel
theorem dX1_advance_34 : decode cX1_advance 34 = .ok (.bipush 10, 2) := by decide +kernel
theorem dX1_advance_36 : decode cX1_advance 36 = .ok (.if_icmp .ne 16, 3) := by decide +kernel
theorem dX1_advance_39 : decode cX1_advance 39 = .ok (.aload_n 0, 1) := by decide +kernel
theorem dX1_advance_40 : decode cX1_advance 40 = .ok (.dup, 1) := by decide +kernel
theorem dX1_advance_41 : decode cX1_advance 41 = .ok (.getfield 23, 3) := by decide +kernel
theorem dX1_advance_44 : decode cX1_advance 44 = .ok (.iconst 1, 1) := by decide +kernel
theorem dX1_advance_45 : decode cX1_advance 45 = .ok (.iadd, 1) := by decide +kernel
theorem dX1_advance_46 : decode cX1_advance 46 = .ok (.putfield 23, 3) := by decide +kernel
theorem dX1_advance_49 : decode cX1_advance 49 = .ok (.goto (-49), 3) := by decide +kernel
theorem dX1_advance_52 : decode cX1_advance 52 = .ok (.aload_n 0, 1) := by decide +kernel
theorem dX1_advance_53 : decode cX1_advance 53 = .ok (.aload_n 0, 1) := by decide +kernel
theorem dX1_advance_54 : decode cX1_advance 54 = .ok (.getfield 23, 3) := by decide +kernel
theorem dX1_advance_57 : decode cX1_advance 57 = .ok (.putfield 48, 3) := by decide +kernel
theorem dX1_advance_60 : decode cX1_advance 60 = .ok (.aload_n 0, 1) := by decide +kernel
theorem dX1_advance_61 : decode cX1_advance 61 = .ok (.getfield 23, 3) := by decide +kernel
theorem dX1_advance_64 : decode cX1_advance 64 = .ok (.aload_n 0, 1) := by decide +kernel
theorem dX1_advance_65 : decode cX1_advance 65 = .ok (.getfield 15, 3) := by decide +kernel
theorem dX1_advance_68 : decode cX1_advance 68 = .ok (.if_icmp .lt 12, 3) := by decide +kernel
theorem dX1_advance_71 : decode cX1_advance 71 = .ok (.aload_n 0, 1) := by decide +kernel
theorem dX1_advance_72 : decode cX1_advance 72 = .ok (.bipush (-22), 2) := by decide +kernel
theorem dX1_advance_74 : decode cX1_advance 74 = .ok (.putfield 51, 3) := by decide +kernel
theorem dX1_advance_77 : decode cX1_advance 77 = .ok (.goto 81, 3) := by decide +kernel
theorem dX1_advance_80 : decode cX1_advance 80 = .ok (.aload_n 0, 1) := by decide +kernel
theorem dX1_advance_81 : decode cX1_advance 81 = .ok (.getfield 9, 3) := by decide +kernel
theorem dX1_advance_84 : decode cX1_advance 84 = .ok (.aload_n 0, 1) := by decide +kernel
theorem dX1_advance_85 : decode cX1_advance 85 = .ok (.getfield 23, 3) := by decide +kernel
theorem dX1_advance_88 : decode cX1_advance 88 = .ok (.iaload, 1) := by decide +kernel
theorem dX1_advance_89 : decode cX1_advance 89 = .ok (.invokestatic 71, 3) := by decide +kernel
theorem dX1_advance_92 : decode cX1_advance 92 = .ok (.ifCond .eq 14, 3) := by decide +kernel
theorem dX1_advance_95 : decode cX1_advance 95 = .ok (.aload_n 0, 1) := by decide +kernel
theorem dX1_advance_96 : decode cX1_advance 96 = .ok (.aload_n 0, 1) := by decide +kernel
theorem dX1_advance_97 : decode cX1_advance 97 = .ok (.invokevirtual 74, 3) := by decide +kernel
theorem dX1_advance_100 : decode cX1_advance 100 = .ok (.putfield 51, 3) := by decide +kernel
theorem dX1_advance_103 : decode cX1_advance 103 = .ok (.goto 55, 3) := by decide +kernel
theorem dX1_advance_106 : decode cX1_advance 106 = .ok (.aload_n 0, 1) := by decide +kernel
theorem dX1_advance_107 : decode cX1_advance 107 = .ok (.getfield 9, 3) := by decide +kernel
theorem dX1_advance_110 : decode cX1_advance 110 = .ok (.aload_n 0, 1) := by decide +kernel
theorem dX1_advance_111 : decode cX1_advance 111 = .ok (.getfield 23, 3) := by decide +kernel
theorem dX1_advance_114 : decode cX1_advance 114 = .ok (.iaload, 1) := by decide +kernel
theorem dX1_advance_115 : decode cX1_advance 115 = .ok (.invokestatic 78, 3) := by decide +kernel
theorem dX1_advance_118 : decode cX1_advance 118 = .ok (.ifCond .eq 14, 3) := by decide +kernel
theorem dX1_advance_121 : decode cX1_advance 121 = .ok (.aload_n 0, 1) := by decide +kernel
theorem dX1_advance_122 : decode cX1_advance 122 = .ok (.aload_n 0, 1) := by decide +kernel
theorem dX1_advance_123 : decode cX1_advance 123 = .ok (.invokevirtual 81, 3) := by decide +kernel
theorem dX1_advance_126 : decode cX1_advance 126 = .ok (.putfield 51, 3) := by decide +kernel
theorem dX1_advance_129 : decode cX1_advance 129 = .ok (.goto 29, 3) := by decide +kernel
theorem dX1_advance_132 : decode cX1_advance 132 = .ok (.aload_n 0, 1) := by decide +kernel
theorem dX1_advance_133 : decode cX1_advance 133 = .ok (.aload_n 0, 1) := by decide +kernel
theorem dX1_advance_134 : decode cX1_advance 134 = .ok (.getfield 9, 3) := by decide +kernel
theorem dX1_advance_137 : decode cX1_advance 137 = .ok (.aload_n 0, 1) := by decide +kernel
theorem dX1_advance_138 : decode cX1_advance 138 = .ok (.getfield 23, 3) := by decide +kernel
theorem dX1_advance_141 : decode cX1_advance 141 = .ok (.iaload, 1) := by decide +kernel
theorem dX1_advance_142 : decode cX1_advance 142 = .ok (.invokestatic 84, 3) := by decide +kernel
theorem dX1_advance_145 : decode cX1_advance 145 = .ok (.putfield 51, 3) := by decide +kernel
theorem dX1_advance_148 : decode cX1_advance 148 = .ok (.aload_n 0, 1) := by decide +kernel
theorem dX1_advance_149 : decode cX1_advance 149 = .ok (.dup, 1) := by decide +kernel
theorem dX1_advance_150 : decode cX1_advance 150 = .ok (.getfield 23, 3) := by decide +kernel
theorem dX1_advance_153 : decode cX1_advance 153 = .ok (.iconst 1, 1) := by decide +kernel
theorem dX1_advance_154 : decode cX1_advance 154 = .ok (.iadd, 1) := by decide +kernel
theorem dX1_advance_155 : decode cX1_advance 155 = .ok (.putfield 23, 3) := by decide +kernel
theorem dX1_advance_158 : decode cX1_advance 158 = .ok (.return_, 1) := by decide +kernel
def b_X1_advance_52 (σ : GX) : Option (Unit × GX) :=
  bnd (some (sI σ 6 (xI σ 4))) fun σ1 => if (xI σ1 4) < (xI σ1 3) then (tpB (xY σ1) (grd (xI σ1 4) 160 (bnd (f_X1_isLetter (xP σ1 (xI σ1 4).toNatClampNeg) σ1) fun q2 => if q2.1 = 0 then (tpB (xY q2.2) (grd (xI q2.2 4) 160 (bnd (f_X1_isDigit (xP q2.2 (xI q2.2 4).toNatClampNeg) q2.2) fun q3 => if q3.1 = 0 then (tpB (xY q3.2) (grd (xI q3.2 4) 160 (bnd (f_X1_signOf (xP q3.2 (xI q3.2 4).toNatClampNeg) q3.2) fun q4 => bnd (some (sI q4.2 5 q4.1)) fun σ5 => bnd (some (sI σ5 4 ((xI σ5 4) + (1 : Int32)))) fun σ6 => some ((), σ6)))) else (bnd (f_X1_number q3.2) fun q7 => bnd (some (sI q7.2 5 q7.1)) fun σ8 => some ((), σ8))))) else (bnd (f_X1_word q2.2) fun q9 => bnd (some (sI q9.2 5 q9.1)) fun σ10 => some ((), σ10))))) else (bnd (some (sI σ1 5 (-22 : Int32))) fun σ11 => some ((), σ11))
theorem vb_X1_advance_52 {g : Gt} {ad : Nat → Nat} (z : Zt) (σ : GX) : V g (LX ad) 7 RX1 cX1_advance 1 none (wX g ad) iU z (b_X1_advance_52 σ) σ 52 [(0, .ref (aReader ad))] [] := by
  unfold b_X1_advance_52
  refine v_aload_n (pc := 52) (i := 0) dX1_advance_52 rfl rfl ?_
  refine v_aload_n (pc := 53) (i := 0) dX1_advance_53 rfl rfl ?_
  refine gX1_at (pc := 54) q_84 dX1_advance_54 ?_
  refine pX1_place (pc := 57) q_86 dX1_advance_57 ?_
  refine v_nms (fun σ1 => ?_)
  refine v_aload_n (pc := 60) (i := 0) dX1_advance_60 rfl rfl ?_
  refine gX1_at (pc := 61) q_84 dX1_advance_61 ?_
  refine v_aload_n (pc := 64) (i := 0) dX1_advance_64 rfl rfl ?_
  refine gX1_size (pc := 65) q_83 dX1_advance_65 ?_
  refine v_icmp_lt (pc := 68) (tgt := 80) dX1_advance_68 rfl ?_ ?_
  · refine v_aload_n (pc := 80) (i := 0) dX1_advance_80 rfl rfl ?_
    refine gX1_tape (pc := 81) q_82 dX1_advance_81 ?_
    refine v_aload_n (pc := 84) (i := 0) dX1_advance_84 rfl rfl ?_
    refine gX1_at (pc := 85) q_84 dX1_advance_85 ?_
    refine lX_tape (pc := 88) dX1_advance_88 ?_
    refine v_callSi (pc := 89) (av := [.int (xP σ1 (xI σ1 4).toNatClampNeg)]) (rest := []) (ct_X1_isLetter (xP σ1 (xI σ1 4).toNatClampNeg)) mi_X1_isLetter q_259 (by decide) rfl rfl (Nat.le_of_ble_eq_true rfl) dX1_advance_89 (fun q2 => ?_)
    refine v_if_eq (pc := 92) (tgt := 106) dX1_advance_92 rfl ?_ ?_
    · refine v_aload_n (pc := 106) (i := 0) dX1_advance_106 rfl rfl ?_
      refine gX1_tape (pc := 107) q_82 dX1_advance_107 ?_
      refine v_aload_n (pc := 110) (i := 0) dX1_advance_110 rfl rfl ?_
      refine gX1_at (pc := 111) q_84 dX1_advance_111 ?_
      refine lX_tape (pc := 114) dX1_advance_114 ?_
      refine v_callSi (pc := 115) (av := [.int (xP q2.2 (xI q2.2 4).toNatClampNeg)]) (rest := []) (ct_X1_isDigit (xP q2.2 (xI q2.2 4).toNatClampNeg)) mi_X1_isDigit q_284 (by decide) rfl rfl (Nat.le_of_ble_eq_true rfl) dX1_advance_115 (fun q3 => ?_)
      refine v_if_eq (pc := 118) (tgt := 132) dX1_advance_118 rfl ?_ ?_
      · refine v_aload_n (pc := 132) (i := 0) dX1_advance_132 rfl rfl ?_
        refine v_aload_n (pc := 133) (i := 0) dX1_advance_133 rfl rfl ?_
        refine gX1_tape (pc := 134) q_82 dX1_advance_134 ?_
        refine v_aload_n (pc := 137) (i := 0) dX1_advance_137 rfl rfl ?_
        refine gX1_at (pc := 138) q_84 dX1_advance_138 ?_
        refine lX_tape (pc := 141) dX1_advance_141 ?_
        refine v_callSi (pc := 142) (av := [.int (xP q3.2 (xI q3.2 4).toNatClampNeg)]) (rest := [.ref (aReader ad)]) (ct_X1_signOf (xP q3.2 (xI q3.2 4).toNatClampNeg)) mi_X1_signOf q_291 (by decide) rfl rfl (Nat.le_of_ble_eq_true rfl) dX1_advance_142 (fun q4 => ?_)
        refine pX1_token (pc := 145) q_85 dX1_advance_145 ?_
        refine v_nms (fun σ5 => ?_)
        refine v_aload_n (pc := 148) (i := 0) dX1_advance_148 rfl rfl ?_
        refine v_dup (pc := 149) dX1_advance_149 rfl ?_
        refine gX1_at (pc := 150) q_84 dX1_advance_150 ?_
        refine v_iconst (pc := 153) dX1_advance_153 ic_1 ?_
        refine v_iadd (pc := 154) dX1_advance_154 ?_
        refine pX1_at (pc := 155) q_84 dX1_advance_155 ?_
        refine v_nms (fun σ6 => ?_)
        exact v_ret (pc := 158) dX1_advance_158
      · refine v_aload_n (pc := 121) (i := 0) dX1_advance_121 rfl rfl ?_
        refine v_aload_n (pc := 122) (i := 0) dX1_advance_122 rfl rfl ?_
        refine v_callVi (pc := 123) rcX1 (As := []) (rest := [.ref (aReader ad)]) (ct_X1_number) mi_X1_number q_287 (by decide) rfl rfl (Nat.le_of_ble_eq_true rfl) dX1_advance_123 (fun q7 => ?_)
        refine pX1_token (pc := 126) q_85 dX1_advance_126 ?_
        refine v_nms (fun σ8 => ?_)
        refine v_goto (pc := 129) (tgt := 158) dX1_advance_129 rfl ?_
        exact v_ret (pc := 158) dX1_advance_158
    · refine v_aload_n (pc := 95) (i := 0) dX1_advance_95 rfl rfl ?_
      refine v_aload_n (pc := 96) (i := 0) dX1_advance_96 rfl rfl ?_
      refine v_callVi (pc := 97) rcX1 (As := []) (rest := [.ref (aReader ad)]) (ct_X1_word) mi_X1_word q_262 (by decide) rfl rfl (Nat.le_of_ble_eq_true rfl) dX1_advance_97 (fun q9 => ?_)
      refine pX1_token (pc := 100) q_85 dX1_advance_100 ?_
      refine v_nms (fun σ10 => ?_)
      refine v_goto (pc := 103) (tgt := 158) dX1_advance_103 rfl ?_
      exact v_ret (pc := 158) dX1_advance_158
  · refine v_aload_n (pc := 71) (i := 0) dX1_advance_71 rfl rfl ?_
    refine v_bipush (pc := 72) dX1_advance_72 bp_m22 ?_
    refine pX1_token (pc := 74) q_85 dX1_advance_74 ?_
    refine v_nms (fun σ11 => ?_)
    refine v_goto (pc := 77) (tgt := 158) dX1_advance_77 rfl ?_
    exact v_ret (pc := 158) dX1_advance_158
def b_X1_advance_0 (kc0 : GX → Option (Unit × GX)) (σ : GX) : Option (Unit × GX) :=
  if (xI σ 3) ≤ (xI σ 4) then (b_X1_advance_52 σ) else (tpB (xY σ) (grd (xI σ 4) 160 (if (xP σ (xI σ 4).toNatClampNeg) = (32 : Int32) then (bnd (some (sI σ 4 ((xI σ 4) + (1 : Int32)))) fun σ12 => kc0 σ12) else (tpB (xY σ) (grd (xI σ 4) 160 (if (xP σ (xI σ 4).toNatClampNeg) ≠ (10 : Int32) then (b_X1_advance_52 σ) else (bnd (some (sI σ 4 ((xI σ 4) + (1 : Int32)))) fun σ13 => kc0 σ13)))))))
theorem vb_X1_advance_0 {g : Gt} {ad : Nat → Nat} (z : Zt) (kc0 : GX → Option (Unit × GX)) (hkc0 : ∀ (σ : GX), V g (LX ad) 7 RX1 cX1_advance 1 none (wX g ad) iU z (kc0 σ) σ 0 [(0, .ref (aReader ad))] []) (σ : GX) : V g (LX ad) 7 RX1 cX1_advance 1 none (wX g ad) iU z (b_X1_advance_0 kc0 σ) σ 0 [(0, .ref (aReader ad))] [] := by
  unfold b_X1_advance_0
  refine v_aload_n (pc := 0) (i := 0) dX1_advance_0 rfl rfl ?_
  refine gX1_at (pc := 1) q_84 dX1_advance_1 ?_
  refine v_aload_n (pc := 4) (i := 0) dX1_advance_4 rfl rfl ?_
  refine gX1_size (pc := 5) q_83 dX1_advance_5 ?_
  refine v_icmp_ge (pc := 8) (tgt := 52) dX1_advance_8 rfl ?_ ?_
  · exact v_sub [0] rfl (vb_X1_advance_52 z σ)
  · refine v_aload_n (pc := 11) (i := 0) dX1_advance_11 rfl rfl ?_
    refine gX1_tape (pc := 12) q_82 dX1_advance_12 ?_
    refine v_aload_n (pc := 15) (i := 0) dX1_advance_15 rfl rfl ?_
    refine gX1_at (pc := 16) q_84 dX1_advance_16 ?_
    refine lX_tape (pc := 19) dX1_advance_19 ?_
    refine v_bipush (pc := 20) dX1_advance_20 bp_32 ?_
    refine v_icmp_eq (pc := 22) (tgt := 39) dX1_advance_22 rfl ?_ ?_
    · refine v_aload_n (pc := 39) (i := 0) dX1_advance_39 rfl rfl ?_
      refine v_dup (pc := 40) dX1_advance_40 rfl ?_
      refine gX1_at (pc := 41) q_84 dX1_advance_41 ?_
      refine v_iconst (pc := 44) dX1_advance_44 ic_1 ?_
      refine v_iadd (pc := 45) dX1_advance_45 ?_
      refine pX1_at (pc := 46) q_84 dX1_advance_46 ?_
      refine v_nms (fun σ12 => ?_)
      refine v_goto (pc := 49) (tgt := 0) dX1_advance_49 rfl ?_
      exact v_sub [0] rfl (hkc0 σ12)
    · refine v_aload_n (pc := 25) (i := 0) dX1_advance_25 rfl rfl ?_
      refine gX1_tape (pc := 26) q_82 dX1_advance_26 ?_
      refine v_aload_n (pc := 29) (i := 0) dX1_advance_29 rfl rfl ?_
      refine gX1_at (pc := 30) q_84 dX1_advance_30 ?_
      refine lX_tape (pc := 33) dX1_advance_33 ?_
      refine v_bipush (pc := 34) dX1_advance_34 bp_10 ?_
      refine v_icmp_ne (pc := 36) (tgt := 52) dX1_advance_36 rfl ?_ ?_
      · exact v_sub [0] rfl (vb_X1_advance_52 z σ)
      · refine v_aload_n (pc := 39) (i := 0) dX1_advance_39 rfl rfl ?_
        refine v_dup (pc := 40) dX1_advance_40 rfl ?_
        refine gX1_at (pc := 41) q_84 dX1_advance_41 ?_
        refine v_iconst (pc := 44) dX1_advance_44 ic_1 ?_
        refine v_iadd (pc := 45) dX1_advance_45 ?_
        refine pX1_at (pc := 46) q_84 dX1_advance_46 ?_
        refine v_nms (fun σ13 => ?_)
        refine v_goto (pc := 49) (tgt := 0) dX1_advance_49 rfl ?_
        exact v_sub [0] rfl (hkc0 σ13)
def k_X1_advance_0 : Nat → GX → Option (Unit × GX)
  | 0 => fun _ => none
  | n + 1 => b_X1_advance_0 (k_X1_advance_0 n)
theorem vk_X1_advance_0 {g : Gt} {ad : Nat → Nat} (z : Zt) : ∀ (n : Nat) (σ : GX), V g (LX ad) 7 RX1 cX1_advance 1 none (wX g ad) iU z (k_X1_advance_0 n σ) σ 0 [(0, .ref (aReader ad))] [] := by
  intro n
  induction n with
  | zero => intros; exact v_eq rfl v_none
  | succ n ih =>
    intro σ
    exact v_eq rfl (vb_X1_advance_0 z _ ih σ)
def f_X1_advance (σ : GX) : Option (Unit × GX) :=
  k_X1_advance_0 FU σ
theorem vf_X1_advance {g : Gt} {ad : Nat → Nat} (z : Zt) (σ : GX) : V g (LX ad) 7 RX1 cX1_advance 1 none (wX g ad) iU z (f_X1_advance σ) σ 0 [(0, .ref (aReader ad))] [] := by
  unfold f_X1_advance
  exact v_sub [0] rfl (vk_X1_advance_0 z FU σ)
theorem ct_X1_advance {g : Gt} {ad : Nat → Nat} : CT g (LX ad) yX1_advance cX1_advance 1 none 7 [.ref (aReader ad)] iU (wX g ad) (f_X1_advance) :=
  ct_of_V (own := RX1) (lv0 := [(0, .ref (aReader ad))]) (by decide +kernel) rfl (Nat.le_of_ble_eq_true rfl) rfl (fun z σ => vf_X1_advance z σ)
-- LighthouseLiedTo$Reader.fail
theorem dX1_fail_0 : decode cX1_fail 0 = .ok (.aload_n 0, 1) := by decide +kernel
theorem dX1_fail_1 : decode cX1_fail 1 = .ok (.getfield 26, 3) := by decide +kernel
theorem dX1_fail_4 : decode cX1_fail 4 = .ok (.iconst (-1), 1) := by decide +kernel
theorem dX1_fail_5 : decode cX1_fail 5 = .ok (.if_icmp .ne 11, 3) := by decide +kernel
theorem dX1_fail_8 : decode cX1_fail 8 = .ok (.aload_n 0, 1) := by decide +kernel
theorem dX1_fail_9 : decode cX1_fail 9 = .ok (.aload_n 0, 1) := by decide +kernel
theorem dX1_fail_10 : decode cX1_fail 10 = .ok (.getfield 48, 3) := by decide +kernel
theorem dX1_fail_13 : decode cX1_fail 13 = .ok (.putfield 26, 3) := by decide +kernel
theorem dX1_fail_16 : decode cX1_fail 16 = .ok (.return_, 1) := by decide +kernel
def f_X1_fail (σ : GX) : Option (Unit × GX) :=
  if (xI σ 7) ≠ (-1 : Int32) then (some ((), σ)) else (bnd (some (sI σ 7 (xI σ 6))) fun σ1 => some ((), σ1))
theorem vf_X1_fail {g : Gt} {ad : Nat → Nat} (z : Zt) (σ : GX) : V g (LX ad) 1 RX1 cX1_fail 1 none (wX g ad) iU z (f_X1_fail σ) σ 0 [(0, .ref (aReader ad))] [] := by
  unfold f_X1_fail
  refine v_aload_n (pc := 0) (i := 0) dX1_fail_0 rfl rfl ?_
  refine gX1_fault (pc := 1) q_87 dX1_fail_1 ?_
  refine v_iconst (pc := 4) dX1_fail_4 ic_m1 ?_
  refine v_icmp_ne (pc := 5) (tgt := 16) dX1_fail_5 rfl ?_ ?_
  · exact v_ret (pc := 16) dX1_fail_16
  · refine v_aload_n (pc := 8) (i := 0) dX1_fail_8 rfl rfl ?_
    refine v_aload_n (pc := 9) (i := 0) dX1_fail_9 rfl rfl ?_
    refine gX1_place (pc := 10) q_86 dX1_fail_10 ?_
    refine pX1_fault (pc := 13) q_87 dX1_fail_13 ?_
    refine v_nms (fun σ1 => ?_)
    exact v_ret (pc := 16) dX1_fail_16
theorem ct_X1_fail {g : Gt} {ad : Nat → Nat} : CT g (LX ad) yX1_fail cX1_fail 1 none 1 [.ref (aReader ad)] iU (wX g ad) (f_X1_fail) :=
  ct_of_V (own := RX1) (lv0 := [(0, .ref (aReader ad))]) (by decide +kernel) rfl (Nat.le_of_ble_eq_true rfl) rfl (fun z σ => vf_X1_fail z σ)
-- LighthouseLiedTo$Reader.expect
theorem dX1_expect_0 : decode cX1_expect 0 = .ok (.aload_n 0, 1) := by decide +kernel
theorem dX1_expect_1 : decode cX1_expect 1 = .ok (.getfield 51, 3) := by decide +kernel
theorem dX1_expect_4 : decode cX1_expect 4 = .ok (.iload_n 1, 1) := by decide +kernel
theorem dX1_expect_5 : decode cX1_expect 5 = .ok (.if_icmp .eq 7, 3) := by decide +kernel
theorem dX1_expect_8 : decode cX1_expect 8 = .ok (.aload_n 0, 1) := by decide +kernel
theorem dX1_expect_9 : decode cX1_expect 9 = .ok (.invokevirtual 54, 3) := by decide +kernel
theorem dX1_expect_12 : decode cX1_expect 12 = .ok (.aload_n 0, 1) := by decide +kernel
theorem dX1_expect_13 : decode cX1_expect 13 = .ok (.getfield 26, 3) := by decide +kernel
theorem dX1_expect_16 : decode cX1_expect 16 = .ok (.iconst (-1), 1) := by decide +kernel
theorem dX1_expect_17 : decode cX1_expect 17 = .ok (.if_icmp .ne 7, 3) := by decide +kernel
theorem dX1_expect_20 : decode cX1_expect 20 = .ok (.aload_n 0, 1) := by decide +kernel
theorem dX1_expect_21 : decode cX1_expect 21 = .ok (.invokevirtual 34, 3) := by decide +kernel
theorem dX1_expect_24 : decode cX1_expect 24 = .ok (.return_, 1) := by decide +kernel
def b_X1_expect_12 (σ : GX) : Option (Unit × GX) :=
  if (xI σ 7) ≠ (-1 : Int32) then (some ((), σ)) else (bnd (f_X1_advance σ) fun q1 => some ((), q1.2))
theorem vb_X1_expect_12 {g : Gt} {ad : Nat → Nat} (z : Zt) (σ : GX) : V g (LX ad) 8 RX1 cX1_expect 2 none (wX g ad) iU z (b_X1_expect_12 σ) σ 12 [(0, .ref (aReader ad))] [] := by
  unfold b_X1_expect_12
  refine v_aload_n (pc := 12) (i := 0) dX1_expect_12 rfl rfl ?_
  refine gX1_fault (pc := 13) q_87 dX1_expect_13 ?_
  refine v_iconst (pc := 16) dX1_expect_16 ic_m1 ?_
  refine v_icmp_ne (pc := 17) (tgt := 24) dX1_expect_17 rfl ?_ ?_
  · exact v_ret (pc := 24) dX1_expect_24
  · refine v_aload_n (pc := 20) (i := 0) dX1_expect_20 rfl rfl ?_
    refine v_callVv (pc := 21) rcX1 (As := []) (rest := []) (ct_X1_advance) mi_X1_advance q_255 (by decide) rfl rfl (Nat.le_of_ble_eq_true rfl) dX1_expect_21 (fun q1 => ?_)
    exact v_ret (pc := 24) dX1_expect_24
def f_X1_expect (x1 : Int32) (σ : GX) : Option (Unit × GX) :=
  if (xI σ 5) = x1 then (b_X1_expect_12 σ) else (bnd (f_X1_fail σ) fun q2 => b_X1_expect_12 q2.2)
theorem vf_X1_expect {g : Gt} {ad : Nat → Nat} (z : Zt) (x1 : Int32) (σ : GX) : V g (LX ad) 8 RX1 cX1_expect 2 none (wX g ad) iU z (f_X1_expect x1 σ) σ 0 [(0, .ref (aReader ad)), (1, .int x1)] [] := by
  unfold f_X1_expect
  refine v_aload_n (pc := 0) (i := 0) dX1_expect_0 rfl rfl ?_
  refine gX1_token (pc := 1) q_85 dX1_expect_1 ?_
  refine v_iload_n (pc := 4) (i := 1) dX1_expect_4 rfl rfl ?_
  refine v_icmp_eq (pc := 5) (tgt := 12) dX1_expect_5 rfl ?_ ?_
  · exact v_sub [0] rfl (vb_X1_expect_12 z σ)
  · refine v_aload_n (pc := 8) (i := 0) dX1_expect_8 rfl rfl ?_
    refine v_callVv (pc := 9) rcX1 (As := []) (rest := []) (ct_X1_fail) mi_X1_fail q_298 (by decide) rfl rfl (Nat.le_of_ble_eq_true rfl) dX1_expect_9 (fun q2 => ?_)
    exact v_sub [0] rfl (vb_X1_expect_12 z q2.2)
theorem ct_X1_expect {g : Gt} {ad : Nat → Nat} (x1 : Int32) : CT g (LX ad) yX1_expect cX1_expect 2 none 8 [.ref (aReader ad), .int x1] iU (wX g ad) (f_X1_expect x1) :=
  ct_of_V (own := RX1) (lv0 := [(0, .ref (aReader ad)), (1, .int x1)]) (by decide +kernel) rfl (Nat.le_of_ble_eq_true rfl) rfl (fun z σ => vf_X1_expect z x1 σ)
-- LighthouseLiedTo$Reader.mayOpen
theorem dX1_mayOpen_0 : decode cX1_mayOpen 0 = .ok (.iload_n 1, 1) := by decide +kernel
theorem dX1_mayOpen_1 : decode cX1_mayOpen 1 = .ok (.iconst 5, 1) := by decide +kernel
theorem dX1_mayOpen_2 : decode cX1_mayOpen 2 = .ok (.if_icmp .lt 7, 3) := by decide +kernel
theorem dX1_mayOpen_5 : decode cX1_mayOpen 5 = .ok (.aload_n 0, 1) := by decide +kernel
theorem dX1_mayOpen_6 : decode cX1_mayOpen 6 = .ok (.invokevirtual 54, 3) := by decide +kernel
theorem dX1_mayOpen_9 : decode cX1_mayOpen 9 = .ok (.aload_n 0, 1) := by decide +kernel
theorem dX1_mayOpen_10 : decode cX1_mayOpen 10 = .ok (.getfield 26, 3) := by decide +kernel
theorem dX1_mayOpen_13 : decode cX1_mayOpen 13 = .ok (.iconst (-1), 1) := by decide +kernel
theorem dX1_mayOpen_14 : decode cX1_mayOpen 14 = .ok (.if_icmp .ne 7, 3) := by decide +kernel
theorem dX1_mayOpen_17 : decode cX1_mayOpen 17 = .ok (.iconst 1, 1) := by decide +kernel
theorem dX1_mayOpen_18 : decode cX1_mayOpen 18 = .ok (.goto 4, 3) := by decide +kernel
theorem dX1_mayOpen_21 : decode cX1_mayOpen 21 = .ok (.iconst 0, 1) := by decide +kernel
theorem dX1_mayOpen_22 : decode cX1_mayOpen 22 = .ok (.ireturn, 1) := by decide +kernel
def b_X1_mayOpen_9 (σ : GX) : Option (Int32 × GX) :=
  if (xI σ 7) ≠ (-1 : Int32) then (some ((0 : Int32), σ)) else (some ((1 : Int32), σ))
theorem vb_X1_mayOpen_9 {g : Gt} {ad : Nat → Nat} (z : Zt) (σ : GX) : V g (LX ad) 2 RX1 cX1_mayOpen 2 (some .boolean) (wX g ad) iI z (b_X1_mayOpen_9 σ) σ 9 [(0, .ref (aReader ad))] [] := by
  unfold b_X1_mayOpen_9
  refine v_aload_n (pc := 9) (i := 0) dX1_mayOpen_9 rfl rfl ?_
  refine gX1_fault (pc := 10) q_87 dX1_mayOpen_10 ?_
  refine v_iconst (pc := 13) dX1_mayOpen_13 ic_m1 ?_
  refine v_icmp_ne (pc := 14) (tgt := 21) dX1_mayOpen_14 rfl ?_ ?_
  · refine v_iconst (pc := 21) dX1_mayOpen_21 ic_0 ?_
    exact v_nret (pc := 22) rfl dX1_mayOpen_22
  · refine v_iconst (pc := 17) dX1_mayOpen_17 ic_1 ?_
    refine v_goto (pc := 18) (tgt := 22) dX1_mayOpen_18 rfl ?_
    exact v_nret (pc := 22) rfl dX1_mayOpen_22
def f_X1_mayOpen (x1 : Int32) (σ : GX) : Option (Int32 × GX) :=
  if x1 < (5 : Int32) then (b_X1_mayOpen_9 σ) else (bnd (f_X1_fail σ) fun q1 => b_X1_mayOpen_9 q1.2)
theorem vf_X1_mayOpen {g : Gt} {ad : Nat → Nat} (z : Zt) (x1 : Int32) (σ : GX) : V g (LX ad) 2 RX1 cX1_mayOpen 2 (some .boolean) (wX g ad) iI z (f_X1_mayOpen x1 σ) σ 0 [(0, .ref (aReader ad)), (1, .int x1)] [] := by
  unfold f_X1_mayOpen
  refine v_iload_n (pc := 0) (i := 1) dX1_mayOpen_0 rfl rfl ?_
  refine v_iconst (pc := 1) dX1_mayOpen_1 ic_5 ?_
  refine v_icmp_lt (pc := 2) (tgt := 9) dX1_mayOpen_2 rfl ?_ ?_
  · exact v_sub [0] rfl (vb_X1_mayOpen_9 z σ)
  · refine v_aload_n (pc := 5) (i := 0) dX1_mayOpen_5 rfl rfl ?_
    refine v_callVv (pc := 6) rcX1 (As := []) (rest := []) (ct_X1_fail) mi_X1_fail q_298 (by decide) rfl rfl (Nat.le_of_ble_eq_true rfl) dX1_mayOpen_6 (fun q1 => ?_)
    exact v_sub [0] rfl (vb_X1_mayOpen_9 z q1.2)
theorem ct_X1_mayOpen {g : Gt} {ad : Nat → Nat} (x1 : Int32) : CT g (LX ad) yX1_mayOpen cX1_mayOpen 2 (some .boolean) 2 [.ref (aReader ad), .int x1] iI (wX g ad) (f_X1_mayOpen x1) :=
  ct_of_V (own := RX1) (lv0 := [(0, .ref (aReader ad)), (1, .int x1)]) (by decide +kernel) rfl (Nat.le_of_ble_eq_true rfl) rfl (fun z σ => vf_X1_mayOpen z x1 σ)
-- LighthouseLiedTo$Reader.rankOf
theorem dX1_rankOf_0 : decode cX1_rankOf 0 = .ok (.iload_n 0, 1) := by decide +kernel
theorem dX1_rankOf_1 : decode cX1_rankOf 1 = .ok (.tableswitch 53 (-13) (-7) #[51, 49, 49, 47, 47, 45, 43], 43) := by decide +kernel
theorem dX1_rankOf_44 : decode cX1_rankOf 44 = .ok (.iconst 0, 1) := by decide +kernel
theorem dX1_rankOf_45 : decode cX1_rankOf 45 = .ok (.ireturn, 1) := by decide +kernel
theorem dX1_rankOf_46 : decode cX1_rankOf 46 = .ok (.iconst 1, 1) := by decide +kernel
theorem dX1_rankOf_47 : decode cX1_rankOf 47 = .ok (.ireturn, 1) := by decide +kernel
theorem dX1_rankOf_48 : decode cX1_rankOf 48 = .ok (.iconst 2, 1) := by decide +kernel
theorem dX1_rankOf_49 : decode cX1_rankOf 49 = .ok (.ireturn, 1) := by decide +kernel
theorem dX1_rankOf_50 : decode cX1_rankOf 50 = .ok (.iconst 3, 1) := by decide +kernel
theorem dX1_rankOf_51 : decode cX1_rankOf 51 = .ok (.ireturn, 1) := by decide +kernel
theorem dX1_rankOf_52 : decode cX1_rankOf 52 = .ok (.iconst 4, 1) := by decide +kernel
theorem dX1_rankOf_53 : decode cX1_rankOf 53 = .ok (.ireturn, 1) := by decide +kernel
theorem dX1_rankOf_54 : decode cX1_rankOf 54 = .ok (.iconst (-1), 1) := by decide +kernel
theorem dX1_rankOf_55 : decode cX1_rankOf 55 = .ok (.ireturn, 1) := by decide +kernel
def f_X1_rankOf (x0 : Int32) (σ : GX) : Option (Int32 × GX) :=
  if x0 = (-13 : Int32) then (some ((4 : Int32), σ)) else (if x0 = (-12 : Int32) then (some ((3 : Int32), σ)) else (if x0 = (-11 : Int32) then (some ((3 : Int32), σ)) else (if x0 = (-10 : Int32) then (some ((2 : Int32), σ)) else (if x0 = (-9 : Int32) then (some ((2 : Int32), σ)) else (if x0 = (-8 : Int32) then (some ((1 : Int32), σ)) else (if x0 = (-7 : Int32) then (some ((0 : Int32), σ)) else (some ((-1 : Int32), σ))))))))
theorem vf_X1_rankOf {g : Gt} {ad : Nat → Nat} (z : Zt) (x0 : Int32) (σ : GX) : V g (LX ad) 1 RX1 cX1_rankOf 1 (some .int) (wX g ad) iI z (f_X1_rankOf x0 σ) σ 0 [(0, .int x0)] [] := by
  unfold f_X1_rankOf
  refine v_iload_n (pc := 0) (i := 0) dX1_rankOf_0 rfl rfl ?_
  refine v_case (c := x0 = (-13 : Int32)) (fun hx => ?_) (fun hc1_0 => ?_)
  · refine v_tin (pc := 1) (tgt := 52) (off := 51) hx dX1_rankOf_1 (by decide) (by decide) rfl rfl ?_
    refine v_iconst (pc := 52) dX1_rankOf_52 ic_4 ?_
    exact v_iret (pc := 53) dX1_rankOf_53
  refine v_case (c := x0 = (-12 : Int32)) (fun hx => ?_) (fun hc1_1 => ?_)
  · refine v_tin (pc := 1) (tgt := 50) (off := 49) hx dX1_rankOf_1 (by decide) (by decide) rfl rfl ?_
    refine v_iconst (pc := 50) dX1_rankOf_50 ic_3 ?_
    exact v_iret (pc := 51) dX1_rankOf_51
  refine v_case (c := x0 = (-11 : Int32)) (fun hx => ?_) (fun hc1_2 => ?_)
  · refine v_tin (pc := 1) (tgt := 50) (off := 49) hx dX1_rankOf_1 (by decide) (by decide) rfl rfl ?_
    refine v_iconst (pc := 50) dX1_rankOf_50 ic_3 ?_
    exact v_iret (pc := 51) dX1_rankOf_51
  refine v_case (c := x0 = (-10 : Int32)) (fun hx => ?_) (fun hc1_3 => ?_)
  · refine v_tin (pc := 1) (tgt := 48) (off := 47) hx dX1_rankOf_1 (by decide) (by decide) rfl rfl ?_
    refine v_iconst (pc := 48) dX1_rankOf_48 ic_2 ?_
    exact v_iret (pc := 49) dX1_rankOf_49
  refine v_case (c := x0 = (-9 : Int32)) (fun hx => ?_) (fun hc1_4 => ?_)
  · refine v_tin (pc := 1) (tgt := 48) (off := 47) hx dX1_rankOf_1 (by decide) (by decide) rfl rfl ?_
    refine v_iconst (pc := 48) dX1_rankOf_48 ic_2 ?_
    exact v_iret (pc := 49) dX1_rankOf_49
  refine v_case (c := x0 = (-8 : Int32)) (fun hx => ?_) (fun hc1_5 => ?_)
  · refine v_tin (pc := 1) (tgt := 46) (off := 45) hx dX1_rankOf_1 (by decide) (by decide) rfl rfl ?_
    refine v_iconst (pc := 46) dX1_rankOf_46 ic_1 ?_
    exact v_iret (pc := 47) dX1_rankOf_47
  refine v_case (c := x0 = (-7 : Int32)) (fun hx => ?_) (fun hc1_6 => ?_)
  · refine v_tin (pc := 1) (tgt := 44) (off := 43) hx dX1_rankOf_1 (by decide) (by decide) rfl rfl ?_
    refine v_iconst (pc := 44) dX1_rankOf_44 ic_0 ?_
    exact v_iret (pc := 45) dX1_rankOf_45
  refine v_tout (pc := 1) (tgt := 54) dX1_rankOf_1 (by have e0 := tsw_ne (a := -13) hc1_0 rfl; have e1 := tsw_ne (a := -12) hc1_1 rfl; have e2 := tsw_ne (a := -11) hc1_2 rfl; have e3 := tsw_ne (a := -10) hc1_3 rfl; have e4 := tsw_ne (a := -9) hc1_4 rfl; have e5 := tsw_ne (a := -8) hc1_5 rfl; have e6 := tsw_ne (a := -7) hc1_6 rfl; omega) rfl ?_
  refine v_iconst (pc := 54) dX1_rankOf_54 ic_m1 ?_
  exact v_iret (pc := 55) dX1_rankOf_55
theorem ct_X1_rankOf {g : Gt} {ad : Nat → Nat} (x0 : Int32) : CT g (LX ad) yX1_rankOf cX1_rankOf 1 (some .int) 1 [.int x0] iI (wX g ad) (f_X1_rankOf x0) :=
  ct_of_V (own := RX1) (lv0 := [(0, .int x0)]) (by decide +kernel) rfl (Nat.le_of_ble_eq_true rfl) rfl (fun z σ => vf_X1_rankOf z x0 σ)
-- LighthouseLiedTo$Reader.one
theorem dX1_one_0 : decode cX1_one 0 = .ok (.aload_n 0, 1) := by decide +kernel
theorem dX1_one_1 : decode cX1_one 1 = .ok (.getfield 26, 3) := by decide +kernel
theorem dX1_one_4 : decode cX1_one 4 = .ok (.iconst (-1), 1) := by decide +kernel
theorem dX1_one_5 : decode cX1_one 5 = .ok (.if_icmp .eq 4, 3) := by decide +kernel
theorem dX1_one_8 : decode cX1_one 8 = .ok (.return_, 1) := by decide +kernel
theorem dX1_one_9 : decode cX1_one 9 = .ok (.aload_n 0, 1) := by decide +kernel
theorem dX1_one_10 : decode cX1_one 10 = .ok (.getfield 51, 3) := by decide +kernel
theorem dX1_one_13 : decode cX1_one 13 = .ok (.bipush (-6), 2) := by decide +kernel
theorem dX1_one_15 : decode cX1_one 15 = .ok (.if_icmp .lt 21, 3) := by decide +kernel
theorem dX1_one_18 : decode cX1_one 18 = .ok (.aload_n 0, 1) := by decide +kernel
theorem dX1_one_19 : decode cX1_one 19 = .ok (.getfield 19, 3) := by decide +kernel
theorem dX1_one_22 : decode cX1_one 22 = .ok (.aload_n 0, 1) := by decide +kernel
theorem dX1_one_23 : decode cX1_one 23 = .ok (.getfield 51, 3) := by decide +kernel
theorem dX1_one_26 : decode cX1_one 26 = .ok (.invokevirtual 64, 3) := by decide +kernel
theorem dX1_one_29 : decode cX1_one 29 = .ok (.aload_n 0, 1) := by decide +kernel
theorem dX1_one_30 : decode cX1_one 30 = .ok (.invokevirtual 34, 3) := by decide +kernel
theorem dX1_one_33 : decode cX1_one 33 = .ok (.goto 104, 3) := by decide +kernel
theorem dX1_one_36 : decode cX1_one 36 = .ok (.aload_n 0, 1) := by decide +kernel
theorem dX1_one_37 : decode cX1_one 37 = .ok (.getfield 51, 3) := by decide +kernel
theorem dX1_one_40 : decode cX1_one 40 = .ok (.bipush (-12), 2) := by decide +kernel
theorem dX1_one_42 : decode cX1_one 42 = .ok (.if_icmp .ne 34, 3) := by decide +kernel
theorem dX1_one_45 : decode cX1_one 45 = .ok (.aload_n 0, 1) := by decide +kernel
theorem dX1_one_46 : decode cX1_one 46 = .ok (.iload_n 1, 1) := by decide +kernel
theorem dX1_one_47 : decode cX1_one 47 = .ok (.invokevirtual 60, 3) := by decide +kernel
theorem dX1_one_50 : decode cX1_one 50 = .ok (.ifCond .eq 87, 3) := by decide +kernel
theorem dX1_one_53 : decode cX1_one 53 = .ok (.aload_n 0, 1) := by decide +kernel
theorem dX1_one_54 : decode cX1_one 54 = .ok (.invokevirtual 34, 3) := by decide +kernel
theorem dX1_one_57 : decode cX1_one 57 = .ok (.aload_n 0, 1) := by decide +kernel
theorem dX1_one_58 : decode cX1_one 58 = .ok (.iload_n 1, 1) := by decide +kernel
theorem dX1_one_59 : decode cX1_one 59 = .ok (.iconst 1, 1) := by decide +kernel
theorem dX1_one_60 : decode cX1_one 60 = .ok (.iadd, 1) := by decide +kernel
theorem dX1_one_61 : decode cX1_one 61 = .ok (.invokevirtual 57, 3) := by decide +kernel
theorem dX1_one_64 : decode cX1_one 64 = .ok (.aload_n 0, 1) := by decide +kernel
theorem dX1_one_65 : decode cX1_one 65 = .ok (.getfield 19, 3) := by decide +kernel
theorem dX1_one_68 : decode cX1_one 68 = .ok (.bipush (-15), 2) := by decide +kernel
theorem dX1_one_70 : decode cX1_one 70 = .ok (.invokevirtual 64, 3) := by decide +kernel
theorem dX1_one_73 : decode cX1_one 73 = .ok (.goto 64, 3) := by decide +kernel
theorem dX1_one_76 : decode cX1_one 76 = .ok (.aload_n 0, 1) := by decide +kernel
theorem dX1_one_77 : decode cX1_one 77 = .ok (.getfield 51, 3) := by decide +kernel
theorem dX1_one_80 : decode cX1_one 80 = .ok (.bipush (-16), 2) := by decide +kernel
theorem dX1_one_82 : decode cX1_one 82 = .ok (.if_icmp .ne 51, 3) := by decide +kernel
theorem dX1_one_85 : decode cX1_one 85 = .ok (.aload_n 0, 1) := by decide +kernel
theorem dX1_one_86 : decode cX1_one 86 = .ok (.iload_n 1, 1) := by decide +kernel
theorem dX1_one_87 : decode cX1_one 87 = .ok (.invokevirtual 60, 3) := by decide +kernel
theorem dX1_one_90 : decode cX1_one 90 = .ok (.ifCond .eq 47, 3) := by decide +kernel
theorem dX1_one_93 : decode cX1_one 93 = .ok (.aload_n 0, 1) := by decide +kernel
theorem dX1_one_94 : decode cX1_one 94 = .ok (.invokevirtual 34, 3) := by decide +kernel
theorem dX1_one_97 : decode cX1_one 97 = .ok (.aload_n 0, 1) := by decide +kernel
theorem dX1_one_98 : decode cX1_one 98 = .ok (.iconst 0, 1) := by decide +kernel
theorem dX1_one_99 : decode cX1_one 99 = .ok (.iload_n 1, 1) := by decide +kernel
theorem dX1_one_100 : decode cX1_one 100 = .ok (.iconst 1, 1) := by decide +kernel
theorem dX1_one_101 : decode cX1_one 101 = .ok (.iadd, 1) := by decide +kernel
theorem dX1_one_102 : decode cX1_one 102 = .ok (.invokevirtual 41, 3) := by decide +kernel
theorem dX1_one_105 : decode cX1_one 105 = .ok (.aload_n 0, 1) := by decide +kernel
theorem dX1_one_106 : decode cX1_one 106 = .ok (.getfield 51, 3) := by decide +kernel
theorem dX1_one_109 : decode cX1_one 109 = .ok (.bipush (-17), 2) := by decide +kernel
theorem dX1_one_111 : decode cX1_one 111 = .ok (.if_icmp .eq 7, 3) := by decide +kernel
theorem dX1_one_114 : decode cX1_one 114 = .ok (.aload_n 0, 1) := by decide +kernel
theorem dX1_one_115 : decode cX1_one 115 = .ok (.invokevirtual 54, 3) := by decide +kernel
theorem dX1_one_118 : decode cX1_one 118 = .ok (.aload_n 0, 1) := by decide +kernel
theorem dX1_one_119 : decode cX1_one 119 = .ok (.getfield 26, 3) := by decide +kernel
theorem dX1_one_122 : decode cX1_one 122 = .ok (.iconst (-1), 1) := by decide +kernel
theorem dX1_one_123 : decode cX1_one 123 = .ok (.if_icmp .ne 14, 3) := by decide +kernel
theorem dX1_one_126 : decode cX1_one 126 = .ok (.aload_n 0, 1) := by decide +kernel
theorem dX1_one_127 : decode cX1_one 127 = .ok (.invokevirtual 34, 3) := by decide +kernel
theorem dX1_one_130 : decode cX1_one 130 = .ok (.goto 7, 3) := by decide +kernel
theorem dX1_one_133 : decode cX1_one 133 = .ok (.aload_n 0, 1) := by decide +kernel
theorem dX1_one_134 : decode cX1_one 134 = .ok (.invokevirtual 54, 3) := by decide +kernel
theorem dX1_one_137 : decode cX1_one 137 = .ok (.return_, 1) := by decide +kernel
def b_X1_one_118 (rc : Nat → Int32 → Int32 → GX → Option (Unit × GX)) (σ : GX) : Option (Unit × GX) :=
  if (xI σ 7) ≠ (-1 : Int32) then (some ((), σ)) else (bnd (f_X1_advance σ) fun q5 => some ((), q5.2))
theorem vb_X1_one_118 {g : Gt} {ad : Nat → Nat} (z : Zt) (rc : Nat → Int32 → Int32 → GX → Option (Unit × GX)) (B d : Nat) (hB : 10 ≤ B) (hrc0 : ∀ a b : Int32, CT g (LX ad) yX1_joined cX1_joined 6 none (B + d) [.ref (aReader ad), .int a, .int b] iU (wX g ad) (rc 0 a b)) (hrc1 : ∀ b : Int32, CT g (LX ad) yX1_one cX1_one 2 none (B + d) [.ref (aReader ad), .int b] iU (wX g ad) (rc 1 0 b)) (σ : GX) : V g (LX ad) (B + d + 1) RX1 cX1_one 2 none (wX g ad) iU z (b_X1_one_118 rc σ) σ 118 [(0, .ref (aReader ad))] [] := by
  unfold b_X1_one_118
  refine v_aload_n (pc := 118) (i := 0) dX1_one_118 rfl rfl ?_
  refine gX1_fault (pc := 119) q_87 dX1_one_119 ?_
  refine v_iconst (pc := 122) dX1_one_122 ic_m1 ?_
  refine v_icmp_ne (pc := 123) (tgt := 137) dX1_one_123 rfl ?_ ?_
  · exact v_ret (pc := 137) dX1_one_137
  · refine v_aload_n (pc := 126) (i := 0) dX1_one_126 rfl rfl ?_
    refine v_callVv (pc := 127) rcX1 (As := []) (rest := []) (ct_X1_advance) mi_X1_advance q_255 (by omega) rfl rfl (Nat.le_of_ble_eq_true rfl) dX1_one_127 (fun q5 => ?_)
    refine v_goto (pc := 130) (tgt := 137) dX1_one_130 rfl ?_
    exact v_ret (pc := 137) dX1_one_137
def f_X1_one (rc : Nat → Int32 → Int32 → GX → Option (Unit × GX)) (x1 : Int32) (σ : GX) : Option (Unit × GX) :=
  if (xI σ 7) = (-1 : Int32) then (if (xI σ 5) < (-6 : Int32) then (if (xI σ 5) ≠ (-12 : Int32) then (if (xI σ 5) ≠ (-16 : Int32) then (bnd (f_X1_fail σ) fun q1 => some ((), q1.2)) else (bnd (f_X1_mayOpen x1 σ) fun q2 => if q2.1 = 0 then (some ((), q2.2)) else (bnd (f_X1_advance q2.2) fun q3 => bnd (rc 0 (0 : Int32) (x1 + (1 : Int32)) q3.2) fun q4 => if (xI q4.2 5) = (-17 : Int32) then (b_X1_one_118 rc q4.2) else (bnd (f_X1_fail q4.2) fun q6 => b_X1_one_118 rc q6.2)))) else (bnd (f_X1_mayOpen x1 σ) fun q7 => if q7.1 = 0 then (some ((), q7.2)) else (bnd (f_X1_advance q7.2) fun q8 => bnd (rc 1 0 (x1 + (1 : Int32)) q8.2) fun q9 => lawB (xV q9.2) fun t10 => (bnd (f_X0_add t10 (-15 : Int32) q9.2) fun q11 => some ((), q11.2))))) else (lawB (xV σ) fun t12 => (bnd (f_X0_add t12 (xI σ 5) σ) fun q13 => bnd (f_X1_advance q13.2) fun q14 => some ((), q14.2)))) else (some ((), σ))
theorem vf_X1_one {g : Gt} {ad : Nat → Nat} (z : Zt) (rc : Nat → Int32 → Int32 → GX → Option (Unit × GX)) (B d : Nat) (hB : 10 ≤ B) (hrc0 : ∀ a b : Int32, CT g (LX ad) yX1_joined cX1_joined 6 none (B + d) [.ref (aReader ad), .int a, .int b] iU (wX g ad) (rc 0 a b)) (hrc1 : ∀ b : Int32, CT g (LX ad) yX1_one cX1_one 2 none (B + d) [.ref (aReader ad), .int b] iU (wX g ad) (rc 1 0 b)) (x1 : Int32) (σ : GX) : V g (LX ad) (B + d + 1) RX1 cX1_one 2 none (wX g ad) iU z (f_X1_one rc x1 σ) σ 0 [(0, .ref (aReader ad)), (1, .int x1)] [] := by
  unfold f_X1_one
  refine v_aload_n (pc := 0) (i := 0) dX1_one_0 rfl rfl ?_
  refine gX1_fault (pc := 1) q_87 dX1_one_1 ?_
  refine v_iconst (pc := 4) dX1_one_4 ic_m1 ?_
  refine v_icmp_eq (pc := 5) (tgt := 9) dX1_one_5 rfl ?_ ?_
  · refine v_aload_n (pc := 9) (i := 0) dX1_one_9 rfl rfl ?_
    refine gX1_token (pc := 10) q_85 dX1_one_10 ?_
    refine v_bipush (pc := 13) dX1_one_13 bp_m6 ?_
    refine v_icmp_lt (pc := 15) (tgt := 36) dX1_one_15 rfl ?_ ?_
    · refine v_aload_n (pc := 36) (i := 0) dX1_one_36 rfl rfl ?_
      refine gX1_token (pc := 37) q_85 dX1_one_37 ?_
      refine v_bipush (pc := 40) dX1_one_40 bp_m12 ?_
      refine v_icmp_ne (pc := 42) (tgt := 76) dX1_one_42 rfl ?_ ?_
      · refine v_aload_n (pc := 76) (i := 0) dX1_one_76 rfl rfl ?_
        refine gX1_token (pc := 77) q_85 dX1_one_77 ?_
        refine v_bipush (pc := 80) dX1_one_80 bp_m16 ?_
        refine v_icmp_ne (pc := 82) (tgt := 133) dX1_one_82 rfl ?_ ?_
        · refine v_aload_n (pc := 133) (i := 0) dX1_one_133 rfl rfl ?_
          refine v_callVv (pc := 134) rcX1 (As := []) (rest := []) (ct_X1_fail) mi_X1_fail q_298 (by omega) rfl rfl (Nat.le_of_ble_eq_true rfl) dX1_one_134 (fun q1 => ?_)
          exact v_ret (pc := 137) dX1_one_137
        · refine v_aload_n (pc := 85) (i := 0) dX1_one_85 rfl rfl ?_
          refine v_iload_n (pc := 86) (i := 1) dX1_one_86 rfl rfl ?_
          refine v_callVi (pc := 87) rcX1 (As := [.int x1]) (rest := []) (ct_X1_mayOpen x1) mi_X1_mayOpen q_314 (by omega) rfl rfl (Nat.le_of_ble_eq_true rfl) dX1_one_87 (fun q2 => ?_)
          refine v_if_eq (pc := 90) (tgt := 137) dX1_one_90 rfl ?_ ?_
          · exact v_ret (pc := 137) dX1_one_137
          · refine v_aload_n (pc := 93) (i := 0) dX1_one_93 rfl rfl ?_
            refine v_callVv (pc := 94) rcX1 (As := []) (rest := []) (ct_X1_advance) mi_X1_advance q_255 (by omega) rfl rfl (Nat.le_of_ble_eq_true rfl) dX1_one_94 (fun q3 => ?_)
            refine v_aload_n (pc := 97) (i := 0) dX1_one_97 rfl rfl ?_
            refine v_iconst (pc := 98) dX1_one_98 ic_0 ?_
            refine v_iload_n (pc := 99) (i := 1) dX1_one_99 rfl rfl ?_
            refine v_iconst (pc := 100) dX1_one_100 ic_1 ?_
            refine v_iadd (pc := 101) dX1_one_101 ?_
            refine v_callVv (pc := 102) rcX1 (As := [.int (0 : Int32), .int (x1 + (1 : Int32))]) (rest := []) (hrc0 (0 : Int32) (x1 + (1 : Int32))) mi_X1_joined q_302 (by omega) rfl rfl (Nat.le_of_ble_eq_true rfl) dX1_one_102 (fun q4 => ?_)
            refine v_aload_n (pc := 105) (i := 0) dX1_one_105 rfl rfl ?_
            refine gX1_token (pc := 106) q_85 dX1_one_106 ?_
            refine v_bipush (pc := 109) dX1_one_109 bp_m17 ?_
            refine v_icmp_eq (pc := 111) (tgt := 118) dX1_one_111 rfl ?_ ?_
            · exact v_sub [0] rfl (vb_X1_one_118 z rc B d hB hrc0 hrc1 q4.2)
            · refine v_aload_n (pc := 114) (i := 0) dX1_one_114 rfl rfl ?_
              refine v_callVv (pc := 115) rcX1 (As := []) (rest := []) (ct_X1_fail) mi_X1_fail q_298 (by omega) rfl rfl (Nat.le_of_ble_eq_true rfl) dX1_one_115 (fun q6 => ?_)
              exact v_sub [0] rfl (vb_X1_one_118 z rc B d hB hrc0 hrc1 q6.2)
      · refine v_aload_n (pc := 45) (i := 0) dX1_one_45 rfl rfl ?_
        refine v_iload_n (pc := 46) (i := 1) dX1_one_46 rfl rfl ?_
        refine v_callVi (pc := 47) rcX1 (As := [.int x1]) (rest := []) (ct_X1_mayOpen x1) mi_X1_mayOpen q_314 (by omega) rfl rfl (Nat.le_of_ble_eq_true rfl) dX1_one_47 (fun q7 => ?_)
        refine v_if_eq (pc := 50) (tgt := 137) dX1_one_50 rfl ?_ ?_
        · exact v_ret (pc := 137) dX1_one_137
        · refine v_aload_n (pc := 53) (i := 0) dX1_one_53 rfl rfl ?_
          refine v_callVv (pc := 54) rcX1 (As := []) (rest := []) (ct_X1_advance) mi_X1_advance q_255 (by omega) rfl rfl (Nat.le_of_ble_eq_true rfl) dX1_one_54 (fun q8 => ?_)
          refine v_aload_n (pc := 57) (i := 0) dX1_one_57 rfl rfl ?_
          refine v_iload_n (pc := 58) (i := 1) dX1_one_58 rfl rfl ?_
          refine v_iconst (pc := 59) dX1_one_59 ic_1 ?_
          refine v_iadd (pc := 60) dX1_one_60 ?_
          refine v_callVv (pc := 61) rcX1 (As := [.int (x1 + (1 : Int32))]) (rest := []) (hrc1 (x1 + (1 : Int32))) mi_X1_one q_306 (by omega) rfl rfl (Nat.le_of_ble_eq_true rfl) dX1_one_61 (fun q9 => ?_)
          refine v_aload_n (pc := 64) (i := 0) dX1_one_64 rfl rfl ?_
          refine gX1_law (pc := 65) q_88 dX1_one_65 (fun t10 ht10 => ?_)
          refine v_bipush (pc := 68) dX1_one_68 bp_m15 ?_
          refine v_callVv (pc := 70) (rcX0 ht10) (As := [.int (-15 : Int32)]) (rest := []) (ct_X0_add ht10 (-15 : Int32)) mi_X0_add q_310 (by omega) rfl rfl (Nat.le_of_ble_eq_true rfl) dX1_one_70 (fun q11 => ?_)
          refine v_goto (pc := 73) (tgt := 137) dX1_one_73 rfl ?_
          exact v_ret (pc := 137) dX1_one_137
    · refine v_aload_n (pc := 18) (i := 0) dX1_one_18 rfl rfl ?_
      refine gX1_law (pc := 19) q_88 dX1_one_19 (fun t12 ht12 => ?_)
      refine v_aload_n (pc := 22) (i := 0) dX1_one_22 rfl rfl ?_
      refine gX1_token (pc := 23) q_85 dX1_one_23 ?_
      refine v_callVv (pc := 26) (rcX0 ht12) (As := [.int (xI σ 5)]) (rest := []) (ct_X0_add ht12 (xI σ 5)) mi_X0_add q_310 (by omega) rfl rfl (Nat.le_of_ble_eq_true rfl) dX1_one_26 (fun q13 => ?_)
      refine v_aload_n (pc := 29) (i := 0) dX1_one_29 rfl rfl ?_
      refine v_callVv (pc := 30) rcX1 (As := []) (rest := []) (ct_X1_advance) mi_X1_advance q_255 (by omega) rfl rfl (Nat.le_of_ble_eq_true rfl) dX1_one_30 (fun q14 => ?_)
      refine v_goto (pc := 33) (tgt := 137) dX1_one_33 rfl ?_
      exact v_ret (pc := 137) dX1_one_137
  · exact v_ret (pc := 8) dX1_one_8
theorem ct_X1_one {g : Gt} {ad : Nat → Nat} (rc : Nat → Int32 → Int32 → GX → Option (Unit × GX)) (B d : Nat) (hB : 10 ≤ B) (hrc0 : ∀ a b : Int32, CT g (LX ad) yX1_joined cX1_joined 6 none (B + d) [.ref (aReader ad), .int a, .int b] iU (wX g ad) (rc 0 a b)) (hrc1 : ∀ b : Int32, CT g (LX ad) yX1_one cX1_one 2 none (B + d) [.ref (aReader ad), .int b] iU (wX g ad) (rc 1 0 b)) (x1 : Int32) : CT g (LX ad) yX1_one cX1_one 2 none (B + d + 1) [.ref (aReader ad), .int x1] iU (wX g ad) (f_X1_one rc x1) :=
  ct_of_V (own := RX1) (lv0 := [(0, .ref (aReader ad)), (1, .int x1)]) (by decide +kernel) rfl (Nat.le_of_ble_eq_true rfl) rfl (fun z σ => vf_X1_one z rc B d hB hrc0 hrc1 x1 σ)
-- LighthouseLiedTo$Reader.joined
theorem dX1_joined_0 : decode cX1_joined 0 = .ok (.iload_n 1, 1) := by decide +kernel
theorem dX1_joined_1 : decode cX1_joined 1 = .ok (.iconst 5, 1) := by decide +kernel
theorem dX1_joined_2 : decode cX1_joined 2 = .ok (.if_icmp .lt 9, 3) := by decide +kernel
theorem dX1_joined_5 : decode cX1_joined 5 = .ok (.aload_n 0, 1) := by decide +kernel
theorem dX1_joined_6 : decode cX1_joined 6 = .ok (.iload_n 2, 1) := by decide +kernel
theorem dX1_joined_7 : decode cX1_joined 7 = .ok (.invokevirtual 57, 3) := by decide +kernel
theorem dX1_joined_10 : decode cX1_joined 10 = .ok (.return_, 1) := by decide +kernel
theorem dX1_joined_11 : decode cX1_joined 11 = .ok (.iload_n 1, 1) := by decide +kernel
theorem dX1_joined_12 : decode cX1_joined 12 = .ok (.iconst 2, 1) := by decide +kernel
theorem dX1_joined_13 : decode cX1_joined 13 = .ok (.if_icmp .ne 42, 3) := by decide +kernel
theorem dX1_joined_16 : decode cX1_joined 16 = .ok (.aload_n 0, 1) := by decide +kernel
theorem dX1_joined_17 : decode cX1_joined 17 = .ok (.getfield 51, 3) := by decide +kernel
theorem dX1_joined_20 : decode cX1_joined 20 = .ok (.bipush (-14), 2) := by decide +kernel
theorem dX1_joined_22 : decode cX1_joined 22 = .ok (.if_icmp .ne 33, 3) := by decide +kernel
theorem dX1_joined_25 : decode cX1_joined 25 = .ok (.aload_n 0, 1) := by decide +kernel
theorem dX1_joined_26 : decode cX1_joined 26 = .ok (.iload_n 2, 1) := by decide +kernel
theorem dX1_joined_27 : decode cX1_joined 27 = .ok (.invokevirtual 60, 3) := by decide +kernel
theorem dX1_joined_30 : decode cX1_joined 30 = .ok (.ifCond .eq 24, 3) := by decide +kernel
theorem dX1_joined_33 : decode cX1_joined 33 = .ok (.aload_n 0, 1) := by decide +kernel
theorem dX1_joined_34 : decode cX1_joined 34 = .ok (.invokevirtual 34, 3) := by decide +kernel
theorem dX1_joined_37 : decode cX1_joined 37 = .ok (.aload_n 0, 1) := by decide +kernel
theorem dX1_joined_38 : decode cX1_joined 38 = .ok (.iconst 2, 1) := by decide +kernel
theorem dX1_joined_39 : decode cX1_joined 39 = .ok (.iload_n 2, 1) := by decide +kernel
theorem dX1_joined_40 : decode cX1_joined 40 = .ok (.iconst 1, 1) := by decide +kernel
theorem dX1_joined_41 : decode cX1_joined 41 = .ok (.iadd, 1) := by decide +kernel
theorem dX1_joined_42 : decode cX1_joined 42 = .ok (.invokevirtual 41, 3) := by decide +kernel
theorem dX1_joined_45 : decode cX1_joined 45 = .ok (.aload_n 0, 1) := by decide +kernel
theorem dX1_joined_46 : decode cX1_joined 46 = .ok (.getfield 19, 3) := by decide +kernel
theorem dX1_joined_49 : decode cX1_joined 49 = .ok (.bipush (-14), 2) := by decide +kernel
theorem dX1_joined_51 : decode cX1_joined 51 = .ok (.invokevirtual 64, 3) := by decide +kernel
theorem dX1_joined_54 : decode cX1_joined 54 = .ok (.return_, 1) := by decide +kernel
theorem dX1_joined_55 : decode cX1_joined 55 = .ok (.aload_n 0, 1) := by decide +kernel
theorem dX1_joined_56 : decode cX1_joined 56 = .ok (.iload_n 1, 1) := by decide +kernel
theorem dX1_joined_57 : decode cX1_joined 57 = .ok (.iconst 1, 1) := by decide +kernel
theorem dX1_joined_58 : decode cX1_joined 58 = .ok (.iadd, 1) := by decide +kernel
theorem dX1_joined_59 : decode cX1_joined 59 = .ok (.iload_n 2, 1) := by decide +kernel
theorem dX1_joined_60 : decode cX1_joined 60 = .ok (.invokevirtual 41, 3) := by decide +kernel
theorem dX1_joined_63 : decode cX1_joined 63 = .ok (.iload_n 1, 1) := by decide +kernel
theorem dX1_joined_64 : decode cX1_joined 64 = .ok (.iconst 2, 1) := by decide +kernel
theorem dX1_joined_65 : decode cX1_joined 65 = .ok (.if_icmp .ne 7, 3) := by decide +kernel
theorem dX1_joined_68 : decode cX1_joined 68 = .ok (.iconst 1, 1) := by decide +kernel
theorem dX1_joined_69 : decode cX1_joined 69 = .ok (.goto 6, 3) := by decide +kernel
theorem dX1_joined_72 : decode cX1_joined 72 = .ok (.sipush 160, 3) := by decide +kernel
theorem dX1_joined_75 : decode cX1_joined 75 = .ok (.istore_n 3, 1) := by decide +kernel
theorem dX1_joined_76 : decode cX1_joined 76 = .ok (.iconst 0, 1) := by decide +kernel
theorem dX1_joined_77 : decode cX1_joined 77 = .ok (.istore 4, 2) := by decide +kernel
theorem dX1_joined_79 : decode cX1_joined 79 = .ok (.iload 4, 2) := by decide +kernel
theorem dX1_joined_81 : decode cX1_joined 81 = .ok (.iload_n 3, 1) := by decide +kernel
theorem dX1_joined_82 : decode cX1_joined 82 = .ok (.if_icmp .ge 55, 3) := by decide +kernel
theorem dX1_joined_85 : decode cX1_joined 85 = .ok (.aload_n 0, 1) := by decide +kernel
theorem dX1_joined_86 : decode cX1_joined 86 = .ok (.getfield 26, 3) := by decide +kernel
theorem dX1_joined_89 : decode cX1_joined 89 = .ok (.iconst (-1), 1) := by decide +kernel
theorem dX1_joined_90 : decode cX1_joined 90 = .ok (.if_icmp .ne 47, 3) := by decide +kernel
theorem dX1_joined_93 : decode cX1_joined 93 = .ok (.aload_n 0, 1) := by decide +kernel
theorem dX1_joined_94 : decode cX1_joined 94 = .ok (.getfield 51, 3) := by decide +kernel
theorem dX1_joined_97 : decode cX1_joined 97 = .ok (.invokestatic 67, 3) := by decide +kernel
theorem dX1_joined_100 : decode cX1_joined 100 = .ok (.iload_n 1, 1) := by decide +kernel
theorem dX1_joined_101 : decode cX1_joined 101 = .ok (.if_icmp .ne 36, 3) := by decide +kernel
theorem dX1_joined_104 : decode cX1_joined 104 = .ok (.aload_n 0, 1) := by decide +kernel
theorem dX1_joined_105 : decode cX1_joined 105 = .ok (.getfield 51, 3) := by decide +kernel
theorem dX1_joined_108 : decode cX1_joined 108 = .ok (.istore 5, 2) := by decide +kernel
theorem dX1_joined_110 : decode cX1_joined 110 = .ok (.aload_n 0, 1) := by decide +kernel
theorem dX1_joined_111 : decode cX1_joined 111 = .ok (.invokevirtual 34, 3) := by decide +kernel
theorem dX1_joined_114 : decode cX1_joined 114 = .ok (.aload_n 0, 1) := by decide +kernel
theorem dX1_joined_115 : decode cX1_joined 115 = .ok (.iload_n 1, 1) := by decide +kernel
theorem dX1_joined_116 : decode cX1_joined 116 = .ok (.iconst 1, 1) := by decide +kernel
theorem dX1_joined_117 : decode cX1_joined 117 = .ok (.iadd, 1) := by decide +kernel
theorem dX1_joined_118 : decode cX1_joined 118 = .ok (.iload_n 2, 1) := by decide +kernel
theorem dX1_joined_119 : decode cX1_joined 119 = .ok (.invokevirtual 41, 3) := by decide +kernel
theorem dX1_joined_122 : decode cX1_joined 122 = .ok (.aload_n 0, 1) := by decide +kernel
theorem dX1_joined_123 : decode cX1_joined 123 = .ok (.getfield 19, 3) := by decide +kernel
theorem dX1_joined_126 : decode cX1_joined 126 = .ok (.iload 5, 2) := by decide +kernel
theorem dX1_joined_128 : decode cX1_joined 128 = .ok (.invokevirtual 64, 3) := by decide +kernel
theorem dX1_joined_131 : decode cX1_joined 131 = .ok (.iinc 4 1, 3) := by decide +kernel
theorem dX1_joined_134 : decode cX1_joined 134 = .ok (.goto (-55), 3) := by decide +kernel
theorem dX1_joined_137 : decode cX1_joined 137 = .ok (.return_, 1) := by decide +kernel
def b_X1_joined_79 (rc : Nat → Int32 → Int32 → GX → Option (Unit × GX)) (kc79 : Int32 → Int32 → Int32 → Int32 → GX → Option (Unit × GX)) (x1 : Int32) (x2 : Int32) (x3 : Int32) (x4 : Int32) (σ : GX) : Option (Unit × GX) :=
  if x3 ≤ x4 then (some ((), σ)) else (if (xI σ 7) ≠ (-1 : Int32) then (some ((), σ)) else (bnd (f_X1_rankOf (xI σ 5) σ) fun q2 => if q2.1 ≠ x1 then (some ((), q2.2)) else (bnd (some (xI q2.2 5)) fun w3 => bnd (f_X1_advance q2.2) fun q4 => bnd (rc 0 (x1 + (1 : Int32)) x2 q4.2) fun q5 => lawB (xV q5.2) fun t6 => (bnd (f_X0_add t6 w3 q5.2) fun q7 => kc79 x1 x2 x3 (x4 + (1 : Int32)) q7.2))))
theorem vb_X1_joined_79 {g : Gt} {ad : Nat → Nat} (z : Zt) (rc : Nat → Int32 → Int32 → GX → Option (Unit × GX)) (B d : Nat) (hB : 10 ≤ B) (hrc0 : ∀ a b : Int32, CT g (LX ad) yX1_joined cX1_joined 6 none (B + d) [.ref (aReader ad), .int a, .int b] iU (wX g ad) (rc 0 a b)) (hrc1 : ∀ b : Int32, CT g (LX ad) yX1_one cX1_one 2 none (B + d) [.ref (aReader ad), .int b] iU (wX g ad) (rc 1 0 b)) (kc79 : Int32 → Int32 → Int32 → Int32 → GX → Option (Unit × GX)) (hkc79 : ∀ (x1 : Int32) (x2 : Int32) (x3 : Int32) (x4 : Int32) (σ : GX), V g (LX ad) (B + d + 1) RX1 cX1_joined 6 none (wX g ad) iU z (kc79 x1 x2 x3 x4 σ) σ 79 [(0, .ref (aReader ad)), (1, .int x1), (2, .int x2), (3, .int x3), (4, .int x4)] []) (x1 : Int32) (x2 : Int32) (x3 : Int32) (x4 : Int32) (σ : GX) : V g (LX ad) (B + d + 1) RX1 cX1_joined 6 none (wX g ad) iU z (b_X1_joined_79 rc kc79 x1 x2 x3 x4 σ) σ 79 [(0, .ref (aReader ad)), (1, .int x1), (2, .int x2), (3, .int x3), (4, .int x4)] [] := by
  unfold b_X1_joined_79
  refine v_iload (pc := 79) (i := 4) dX1_joined_79 rfl ?_
  refine v_iload_n (pc := 81) (i := 3) dX1_joined_81 rfl rfl ?_
  refine v_icmp_ge (pc := 82) (tgt := 137) dX1_joined_82 rfl ?_ ?_
  · exact v_ret (pc := 137) dX1_joined_137
  · refine v_aload_n (pc := 85) (i := 0) dX1_joined_85 rfl rfl ?_
    refine gX1_fault (pc := 86) q_87 dX1_joined_86 ?_
    refine v_iconst (pc := 89) dX1_joined_89 ic_m1 ?_
    refine v_icmp_ne (pc := 90) (tgt := 137) dX1_joined_90 rfl ?_ ?_
    · exact v_ret (pc := 137) dX1_joined_137
    · refine v_aload_n (pc := 93) (i := 0) dX1_joined_93 rfl rfl ?_
      refine gX1_token (pc := 94) q_85 dX1_joined_94 ?_
      refine v_callSi (pc := 97) (av := [.int (xI σ 5)]) (rest := []) (ct_X1_rankOf (xI σ 5)) mi_X1_rankOf q_318 (by omega) rfl rfl (Nat.le_of_ble_eq_true rfl) dX1_joined_97 (fun q2 => ?_)
      refine v_iload_n (pc := 100) (i := 1) dX1_joined_100 rfl rfl ?_
      refine v_icmp_ne (pc := 101) (tgt := 137) dX1_joined_101 rfl ?_ ?_
      · exact v_ret (pc := 137) dX1_joined_137
      · refine v_aload_n (pc := 104) (i := 0) dX1_joined_104 rfl rfl ?_
        refine gX1_token (pc := 105) q_85 dX1_joined_105 ?_
        refine v_nmi (fun w3 => ?_)
        refine v_istore (pc := 108) (lv' := [(5, .int w3), (0, .ref (aReader ad)), (1, .int x1), (2, .int x2), (3, .int x3), (4, .int x4)]) (i := 5) dX1_joined_108 (by decide) rfl ?_
        refine v_aload_n (pc := 110) (i := 0) dX1_joined_110 rfl rfl ?_
        refine v_callVv (pc := 111) rcX1 (As := []) (rest := []) (ct_X1_advance) mi_X1_advance q_255 (by omega) rfl rfl (Nat.le_of_ble_eq_true rfl) dX1_joined_111 (fun q4 => ?_)
        refine v_aload_n (pc := 114) (i := 0) dX1_joined_114 rfl rfl ?_
        refine v_iload_n (pc := 115) (i := 1) dX1_joined_115 rfl rfl ?_
        refine v_iconst (pc := 116) dX1_joined_116 ic_1 ?_
        refine v_iadd (pc := 117) dX1_joined_117 ?_
        refine v_iload_n (pc := 118) (i := 2) dX1_joined_118 rfl rfl ?_
        refine v_callVv (pc := 119) rcX1 (As := [.int (x1 + (1 : Int32)), .int x2]) (rest := []) (hrc0 (x1 + (1 : Int32)) x2) mi_X1_joined q_302 (by omega) rfl rfl (Nat.le_of_ble_eq_true rfl) dX1_joined_119 (fun q5 => ?_)
        refine v_aload_n (pc := 122) (i := 0) dX1_joined_122 rfl rfl ?_
        refine gX1_law (pc := 123) q_88 dX1_joined_123 (fun t6 ht6 => ?_)
        refine v_iload (pc := 126) (i := 5) dX1_joined_126 rfl ?_
        refine v_callVv (pc := 128) (rcX0 ht6) (As := [.int w3]) (rest := []) (ct_X0_add ht6 w3) mi_X0_add q_310 (by omega) rfl rfl (Nat.le_of_ble_eq_true rfl) dX1_joined_128 (fun q7 => ?_)
        refine v_iinc (pc := 131) (lv' := [(4, .int (x4 + (1 : Int32))), (5, .int w3), (0, .ref (aReader ad)), (1, .int x1), (2, .int x2), (3, .int x3)]) (i := 4) dX1_joined_131 rfl ic_1 (by decide) rfl ?_
        refine v_goto (pc := 134) (tgt := 79) dX1_joined_134 rfl ?_
        exact v_sub [2, 3, 4, 5, 0] rfl (hkc79 x1 x2 x3 (x4 + (1 : Int32)) q7.2)
def k_X1_joined_79 (rc : Nat → Int32 → Int32 → GX → Option (Unit × GX)) : Nat → Int32 → Int32 → Int32 → Int32 → GX → Option (Unit × GX)
  | 0 => fun _ _ _ _ _ => none
  | n + 1 => b_X1_joined_79 rc (k_X1_joined_79 rc n)
theorem vk_X1_joined_79 {g : Gt} {ad : Nat → Nat} (z : Zt) (rc : Nat → Int32 → Int32 → GX → Option (Unit × GX)) (B d : Nat) (hB : 10 ≤ B) (hrc0 : ∀ a b : Int32, CT g (LX ad) yX1_joined cX1_joined 6 none (B + d) [.ref (aReader ad), .int a, .int b] iU (wX g ad) (rc 0 a b)) (hrc1 : ∀ b : Int32, CT g (LX ad) yX1_one cX1_one 2 none (B + d) [.ref (aReader ad), .int b] iU (wX g ad) (rc 1 0 b)) : ∀ (n : Nat) (x1 : Int32) (x2 : Int32) (x3 : Int32) (x4 : Int32) (σ : GX), V g (LX ad) (B + d + 1) RX1 cX1_joined 6 none (wX g ad) iU z (k_X1_joined_79 rc n x1 x2 x3 x4 σ) σ 79 [(0, .ref (aReader ad)), (1, .int x1), (2, .int x2), (3, .int x3), (4, .int x4)] [] := by
  intro n
  induction n with
  | zero => intros; exact v_eq rfl v_none
  | succ n ih =>
    intro x1 x2 x3 x4 σ
    exact v_eq rfl (vb_X1_joined_79 z rc B d hB hrc0 hrc1 _ ih x1 x2 x3 x4 σ)
def b_X1_joined_55 (rc : Nat → Int32 → Int32 → GX → Option (Unit × GX)) (x1 : Int32) (x2 : Int32) (σ : GX) : Option (Unit × GX) :=
  bnd (rc 0 (x1 + (1 : Int32)) x2 σ) fun q1 => if x1 ≠ (2 : Int32) then (k_X1_joined_79 rc FU x1 x2 (160 : Int32) (0 : Int32) q1.2) else (k_X1_joined_79 rc FU x1 x2 (1 : Int32) (0 : Int32) q1.2)
theorem vb_X1_joined_55 {g : Gt} {ad : Nat → Nat} (z : Zt) (rc : Nat → Int32 → Int32 → GX → Option (Unit × GX)) (B d : Nat) (hB : 10 ≤ B) (hrc0 : ∀ a b : Int32, CT g (LX ad) yX1_joined cX1_joined 6 none (B + d) [.ref (aReader ad), .int a, .int b] iU (wX g ad) (rc 0 a b)) (hrc1 : ∀ b : Int32, CT g (LX ad) yX1_one cX1_one 2 none (B + d) [.ref (aReader ad), .int b] iU (wX g ad) (rc 1 0 b)) (x1 : Int32) (x2 : Int32) (σ : GX) : V g (LX ad) (B + d + 1) RX1 cX1_joined 6 none (wX g ad) iU z (b_X1_joined_55 rc x1 x2 σ) σ 55 [(0, .ref (aReader ad)), (1, .int x1), (2, .int x2)] [] := by
  unfold b_X1_joined_55
  refine v_aload_n (pc := 55) (i := 0) dX1_joined_55 rfl rfl ?_
  refine v_iload_n (pc := 56) (i := 1) dX1_joined_56 rfl rfl ?_
  refine v_iconst (pc := 57) dX1_joined_57 ic_1 ?_
  refine v_iadd (pc := 58) dX1_joined_58 ?_
  refine v_iload_n (pc := 59) (i := 2) dX1_joined_59 rfl rfl ?_
  refine v_callVv (pc := 60) rcX1 (As := [.int (x1 + (1 : Int32)), .int x2]) (rest := []) (hrc0 (x1 + (1 : Int32)) x2) mi_X1_joined q_302 (by omega) rfl rfl (Nat.le_of_ble_eq_true rfl) dX1_joined_60 (fun q1 => ?_)
  refine v_iload_n (pc := 63) (i := 1) dX1_joined_63 rfl rfl ?_
  refine v_iconst (pc := 64) dX1_joined_64 ic_2 ?_
  refine v_icmp_ne (pc := 65) (tgt := 72) dX1_joined_65 rfl ?_ ?_
  · refine v_sipush (pc := 72) dX1_joined_72 sp_160 ?_
    refine v_istore_n (pc := 75) (lv' := [(3, .int (160 : Int32)), (0, .ref (aReader ad)), (1, .int x1), (2, .int x2)]) (i := 3) dX1_joined_75 rfl (by decide) rfl ?_
    refine v_iconst (pc := 76) dX1_joined_76 ic_0 ?_
    refine v_istore (pc := 77) (lv' := [(4, .int (0 : Int32)), (3, .int (160 : Int32)), (0, .ref (aReader ad)), (1, .int x1), (2, .int x2)]) (i := 4) dX1_joined_77 (by decide) rfl ?_
    exact v_sub [2, 3, 4, 1, 0] rfl (vk_X1_joined_79 z rc B d hB hrc0 hrc1 FU x1 x2 (160 : Int32) (0 : Int32) q1.2)
  · refine v_iconst (pc := 68) dX1_joined_68 ic_1 ?_
    refine v_goto (pc := 69) (tgt := 75) dX1_joined_69 rfl ?_
    refine v_istore_n (pc := 75) (lv' := [(3, .int (1 : Int32)), (0, .ref (aReader ad)), (1, .int x1), (2, .int x2)]) (i := 3) dX1_joined_75 rfl (by decide) rfl ?_
    refine v_iconst (pc := 76) dX1_joined_76 ic_0 ?_
    refine v_istore (pc := 77) (lv' := [(4, .int (0 : Int32)), (3, .int (1 : Int32)), (0, .ref (aReader ad)), (1, .int x1), (2, .int x2)]) (i := 4) dX1_joined_77 (by decide) rfl ?_
    exact v_sub [2, 3, 4, 1, 0] rfl (vk_X1_joined_79 z rc B d hB hrc0 hrc1 FU x1 x2 (1 : Int32) (0 : Int32) q1.2)
def f_X1_joined (rc : Nat → Int32 → Int32 → GX → Option (Unit × GX)) (x1 : Int32) (x2 : Int32) (σ : GX) : Option (Unit × GX) :=
  if x1 < (5 : Int32) then (if x1 ≠ (2 : Int32) then (b_X1_joined_55 rc x1 x2 σ) else (if (xI σ 5) ≠ (-14 : Int32) then (b_X1_joined_55 rc x1 x2 σ) else (bnd (f_X1_mayOpen x2 σ) fun q8 => if q8.1 = 0 then (some ((), q8.2)) else (bnd (f_X1_advance q8.2) fun q9 => bnd (rc 0 (2 : Int32) (x2 + (1 : Int32)) q9.2) fun q10 => lawB (xV q10.2) fun t11 => (bnd (f_X0_add t11 (-14 : Int32) q10.2) fun q12 => some ((), q12.2)))))) else (bnd (rc 1 0 x2 σ) fun q13 => some ((), q13.2))
theorem vf_X1_joined {g : Gt} {ad : Nat → Nat} (z : Zt) (rc : Nat → Int32 → Int32 → GX → Option (Unit × GX)) (B d : Nat) (hB : 10 ≤ B) (hrc0 : ∀ a b : Int32, CT g (LX ad) yX1_joined cX1_joined 6 none (B + d) [.ref (aReader ad), .int a, .int b] iU (wX g ad) (rc 0 a b)) (hrc1 : ∀ b : Int32, CT g (LX ad) yX1_one cX1_one 2 none (B + d) [.ref (aReader ad), .int b] iU (wX g ad) (rc 1 0 b)) (x1 : Int32) (x2 : Int32) (σ : GX) : V g (LX ad) (B + d + 1) RX1 cX1_joined 6 none (wX g ad) iU z (f_X1_joined rc x1 x2 σ) σ 0 [(0, .ref (aReader ad)), (1, .int x1), (2, .int x2)] [] := by
  unfold f_X1_joined
  refine v_iload_n (pc := 0) (i := 1) dX1_joined_0 rfl rfl ?_
  refine v_iconst (pc := 1) dX1_joined_1 ic_5 ?_
  refine v_icmp_lt (pc := 2) (tgt := 11) dX1_joined_2 rfl ?_ ?_
  · refine v_iload_n (pc := 11) (i := 1) dX1_joined_11 rfl rfl ?_
    refine v_iconst (pc := 12) dX1_joined_12 ic_2 ?_
    refine v_icmp_ne (pc := 13) (tgt := 55) dX1_joined_13 rfl ?_ ?_
    · exact v_sub [0, 1, 2] rfl (vb_X1_joined_55 z rc B d hB hrc0 hrc1 x1 x2 σ)
    · refine v_aload_n (pc := 16) (i := 0) dX1_joined_16 rfl rfl ?_
      refine gX1_token (pc := 17) q_85 dX1_joined_17 ?_
      refine v_bipush (pc := 20) dX1_joined_20 bp_m14 ?_
      refine v_icmp_ne (pc := 22) (tgt := 55) dX1_joined_22 rfl ?_ ?_
      · exact v_sub [0, 1, 2] rfl (vb_X1_joined_55 z rc B d hB hrc0 hrc1 x1 x2 σ)
      · refine v_aload_n (pc := 25) (i := 0) dX1_joined_25 rfl rfl ?_
        refine v_iload_n (pc := 26) (i := 2) dX1_joined_26 rfl rfl ?_
        refine v_callVi (pc := 27) rcX1 (As := [.int x2]) (rest := []) (ct_X1_mayOpen x2) mi_X1_mayOpen q_314 (by omega) rfl rfl (Nat.le_of_ble_eq_true rfl) dX1_joined_27 (fun q8 => ?_)
        refine v_if_eq (pc := 30) (tgt := 54) dX1_joined_30 rfl ?_ ?_
        · exact v_ret (pc := 54) dX1_joined_54
        · refine v_aload_n (pc := 33) (i := 0) dX1_joined_33 rfl rfl ?_
          refine v_callVv (pc := 34) rcX1 (As := []) (rest := []) (ct_X1_advance) mi_X1_advance q_255 (by omega) rfl rfl (Nat.le_of_ble_eq_true rfl) dX1_joined_34 (fun q9 => ?_)
          refine v_aload_n (pc := 37) (i := 0) dX1_joined_37 rfl rfl ?_
          refine v_iconst (pc := 38) dX1_joined_38 ic_2 ?_
          refine v_iload_n (pc := 39) (i := 2) dX1_joined_39 rfl rfl ?_
          refine v_iconst (pc := 40) dX1_joined_40 ic_1 ?_
          refine v_iadd (pc := 41) dX1_joined_41 ?_
          refine v_callVv (pc := 42) rcX1 (As := [.int (2 : Int32), .int (x2 + (1 : Int32))]) (rest := []) (hrc0 (2 : Int32) (x2 + (1 : Int32))) mi_X1_joined q_302 (by omega) rfl rfl (Nat.le_of_ble_eq_true rfl) dX1_joined_42 (fun q10 => ?_)
          refine v_aload_n (pc := 45) (i := 0) dX1_joined_45 rfl rfl ?_
          refine gX1_law (pc := 46) q_88 dX1_joined_46 (fun t11 ht11 => ?_)
          refine v_bipush (pc := 49) dX1_joined_49 bp_m14 ?_
          refine v_callVv (pc := 51) (rcX0 ht11) (As := [.int (-14 : Int32)]) (rest := []) (ct_X0_add ht11 (-14 : Int32)) mi_X0_add q_310 (by omega) rfl rfl (Nat.le_of_ble_eq_true rfl) dX1_joined_51 (fun q12 => ?_)
          exact v_ret (pc := 54) dX1_joined_54
  · refine v_aload_n (pc := 5) (i := 0) dX1_joined_5 rfl rfl ?_
    refine v_iload_n (pc := 6) (i := 2) dX1_joined_6 rfl rfl ?_
    refine v_callVv (pc := 7) rcX1 (As := [.int x2]) (rest := []) (hrc1 x2) mi_X1_one q_306 (by omega) rfl rfl (Nat.le_of_ble_eq_true rfl) dX1_joined_7 (fun q13 => ?_)
    exact v_ret (pc := 10) dX1_joined_10
theorem ct_X1_joined {g : Gt} {ad : Nat → Nat} (rc : Nat → Int32 → Int32 → GX → Option (Unit × GX)) (B d : Nat) (hB : 10 ≤ B) (hrc0 : ∀ a b : Int32, CT g (LX ad) yX1_joined cX1_joined 6 none (B + d) [.ref (aReader ad), .int a, .int b] iU (wX g ad) (rc 0 a b)) (hrc1 : ∀ b : Int32, CT g (LX ad) yX1_one cX1_one 2 none (B + d) [.ref (aReader ad), .int b] iU (wX g ad) (rc 1 0 b)) (x1 : Int32) (x2 : Int32) : CT g (LX ad) yX1_joined cX1_joined 6 none (B + d + 1) [.ref (aReader ad), .int x1, .int x2] iU (wX g ad) (f_X1_joined rc x1 x2) :=
  ct_of_V (own := RX1) (lv0 := [(0, .ref (aReader ad)), (1, .int x1), (2, .int x2)]) (by decide +kernel) rfl (Nat.le_of_ble_eq_true rfl) rfl (fun z σ => vf_X1_joined z rc B d hB hrc0 hrc1 x1 x2 σ)
def f_jo : Nat → Nat → Int32 → Int32 → GX → Option (Unit × GX)
  | 0 => fun _ _ _ _ => none
  | d + 1 => fun tag a b σ => match tag with
    | 0 => f_X1_joined (f_jo d) a b σ
    | _ => f_X1_one (f_jo d) b σ
theorem ct_jo {g : Gt} {ad : Nat → Nat} : ∀ d : Nat, (∀ a b : Int32, CT g (LX ad) yX1_joined cX1_joined 6 none (10 + d) [.ref (aReader ad), .int a, .int b] iU (wX g ad) (f_jo d 0 a b)) ∧ (∀ b : Int32, CT g (LX ad) yX1_one cX1_one 2 none (10 + d) [.ref (aReader ad), .int b] iU (wX g ad) (f_jo d 1 0 b)) := by
  intro d
  induction d with
  | zero => exact ⟨fun a b => (by intro _ _ _ _ _ _ _ h; cases h), fun b => (by intro _ _ _ _ _ _ _ h; cases h)⟩
  | succ d ih => exact ⟨fun a b => ct_X1_joined (f_jo d) 10 d (Nat.le_refl _) ih.1 ih.2 a b, fun b => ct_X1_one (f_jo d) 10 d (Nat.le_refl _) ih.1 ih.2 b⟩
-- LighthouseLiedTo$Reader.read
theorem dX1_read_0 : decode cX1_read 0 = .ok (.aload_n 1, 1) := by decide +kernel
theorem dX1_read_1 : decode cX1_read 1 = .ok (.ifnull 17, 3) := by decide +kernel
theorem dX1_read_4 : decode cX1_read 4 = .ok (.aload_n 3, 1) := by decide +kernel
theorem dX1_read_5 : decode cX1_read 5 = .ok (.ifnull 13, 3) := by decide +kernel
theorem dX1_read_8 : decode cX1_read 8 = .ok (.iload_n 2, 1) := by decide +kernel
theorem dX1_read_9 : decode cX1_read 9 = .ok (.ifCond .lt 9, 3) := by decide +kernel
theorem dX1_read_12 : decode cX1_read 12 = .ok (.iload_n 2, 1) := by decide +kernel
theorem dX1_read_13 : decode cX1_read 13 = .ok (.aload_n 1, 1) := by decide +kernel
theorem dX1_read_14 : decode cX1_read 14 = .ok (.arraylength, 1) := by decide +kernel
theorem dX1_read_15 : decode cX1_read 15 = .ok (.if_icmp .le 5, 3) := by decide +kernel
theorem dX1_read_18 : decode cX1_read 18 = .ok (.iconst 0, 1) := by decide +kernel
theorem dX1_read_19 : decode cX1_read 19 = .ok (.ireturn, 1) := by decide +kernel
theorem dX1_read_20 : decode cX1_read 20 = .ok (.aload_n 0, 1) := by decide +kernel
theorem dX1_read_21 : decode cX1_read 21 = .ok (.aload_n 1, 1) := by decide +kernel
theorem dX1_read_22 : decode cX1_read 22 = .ok (.putfield 9, 3) := by decide +kernel
theorem dX1_read_25 : decode cX1_read 25 = .ok (.aload_n 0, 1) := by decide +kernel
theorem dX1_read_26 : decode cX1_read 26 = .ok (.iload_n 2, 1) := by decide +kernel
theorem dX1_read_27 : decode cX1_read 27 = .ok (.putfield 15, 3) := by decide +kernel
theorem dX1_read_30 : decode cX1_read 30 = .ok (.aload_n 0, 1) := by decide +kernel
theorem dX1_read_31 : decode cX1_read 31 = .ok (.aload_n 3, 1) := by decide +kernel
theorem dX1_read_32 : decode cX1_read 32 = .ok (.putfield 19, 3) := by decide +kernel
theorem dX1_read_35 : decode cX1_read 35 = .ok (.aload_n 0, 1) := by decide +kernel
theorem dX1_read_36 : decode cX1_read 36 = .ok (.iconst 0, 1) := by decide +kernel
theorem dX1_read_37 : decode cX1_read 37 = .ok (.putfield 23, 3) := by decide +kernel
theorem dX1_read_40 : decode cX1_read 40 = .ok (.aload_n 0, 1) := by decide +kernel
theorem dX1_read_41 : decode cX1_read 41 = .ok (.iconst (-1), 1) := by decide +kernel
theorem dX1_read_42 : decode cX1_read 42 = .ok (.putfield 26, 3) := by decide +kernel
theorem dX1_read_45 : decode cX1_read 45 = .ok (.aload_n 3, 1) := by decide +kernel
theorem dX1_read_46 : decode cX1_read 46 = .ok (.invokevirtual 29, 3) := by decide +kernel
theorem dX1_read_49 : decode cX1_read 49 = .ok (.aload_n 0, 1) := by decide +kernel
theorem dX1_read_50 : decode cX1_read 50 = .ok (.invokevirtual 34, 3) := by decide +kernel
theorem dX1_read_53 : decode cX1_read 53 = .ok (.iconst 0, 1) := by decide +kernel
theorem dX1_read_54 : decode cX1_read 54 = .ok (.istore 4, 2) := by decide +kernel
theorem dX1_read_56 : decode cX1_read 56 = .ok (.iload 4, 2) := by decide +kernel
theorem dX1_read_58 : decode cX1_read 58 = .ok (.iconst 3, 1) := by decide +kernel
theorem dX1_read_59 : decode cX1_read 59 = .ok (.if_icmp .ge 54, 3) := by decide +kernel
theorem dX1_read_62 : decode cX1_read 62 = .ok (.aload_n 0, 1) := by decide +kernel
theorem dX1_read_63 : decode cX1_read 63 = .ok (.iload 4, 2) := by decide +kernel
theorem dX1_read_65 : decode cX1_read 65 = .ok (.ifCond .ne 8, 3) := by decide +kernel
theorem dX1_read_68 : decode cX1_read 68 = .ok (.bipush (-19), 2) := by decide +kernel
theorem dX1_read_70 : decode cX1_read 70 = .ok (.goto 16, 3) := by decide +kernel
theorem dX1_read_73 : decode cX1_read 73 = .ok (.iload 4, 2) := by decide +kernel
theorem dX1_read_75 : decode cX1_read 75 = .ok (.iconst 1, 1) := by decide +kernel
theorem dX1_read_76 : decode cX1_read 76 = .ok (.if_icmp .ne 8, 3) := by decide +kernel
theorem dX1_read_79 : decode cX1_read 79 = .ok (.bipush (-20), 2) := by decide +kernel
theorem dX1_read_81 : decode cX1_read 81 = .ok (.goto 5, 3) := by decide +kernel
theorem dX1_read_84 : decode cX1_read 84 = .ok (.bipush (-21), 2) := by decide +kernel
theorem dX1_read_86 : decode cX1_read 86 = .ok (.invokevirtual 37, 3) := by decide +kernel
theorem dX1_read_89 : decode cX1_read 89 = .ok (.aload_n 0, 1) := by decide +kernel
theorem dX1_read_90 : decode cX1_read 90 = .ok (.iconst 0, 1) := by decide +kernel
theorem dX1_read_91 : decode cX1_read 91 = .ok (.iconst 0, 1) := by decide +kernel
theorem dX1_read_92 : decode cX1_read 92 = .ok (.invokevirtual 41, 3) := by decide +kernel
theorem dX1_read_95 : decode cX1_read 95 = .ok (.aload_n 0, 1) := by decide +kernel
theorem dX1_read_96 : decode cX1_read 96 = .ok (.bipush (-18), 2) := by decide +kernel
theorem dX1_read_98 : decode cX1_read 98 = .ok (.invokevirtual 37, 3) := by decide +kernel
theorem dX1_read_101 : decode cX1_read 101 = .ok (.aload_n 3, 1) := by decide +kernel
theorem dX1_read_102 : decode cX1_read 102 = .ok (.iload 4, 2) := by decide +kernel
theorem dX1_read_104 : decode cX1_read 104 = .ok (.invokevirtual 45, 3) := by decide +kernel
theorem dX1_read_107 : decode cX1_read 107 = .ok (.iinc 4 1, 3) := by decide +kernel
theorem dX1_read_110 : decode cX1_read 110 = .ok (.goto (-54), 3) := by decide +kernel
theorem dX1_read_113 : decode cX1_read 113 = .ok (.aload_n 0, 1) := by decide +kernel
theorem dX1_read_114 : decode cX1_read 114 = .ok (.bipush (-22), 2) := by decide +kernel
theorem dX1_read_116 : decode cX1_read 116 = .ok (.invokevirtual 37, 3) := by decide +kernel
theorem dX1_read_119 : decode cX1_read 119 = .ok (.aload_n 0, 1) := by decide +kernel
theorem dX1_read_120 : decode cX1_read 120 = .ok (.getfield 26, 3) := by decide +kernel
theorem dX1_read_123 : decode cX1_read 123 = .ok (.ireturn, 1) := by decide +kernel
def b_X1_read_86 (t : Nat) (kc56 : Int32 → GX → Option (Int32 × GX)) (x4 : Int32) (xs0 : Int32) (σ : GX) : Option (Int32 × GX) :=
  bnd (f_X1_expect xs0 σ) fun q9 => bnd (f_jo JD 0 (0 : Int32) (0 : Int32) q9.2) fun q10 => bnd (f_X1_expect (-18 : Int32) q10.2) fun q11 => bnd (f_X0_endPart t x4 q11.2) fun q12 => kc56 (x4 + (1 : Int32)) q12.2
theorem vb_X1_read_86 {g : Gt} {ad : Nat → Nat} (z : Zt) (t : Nat) (ht : t < 6) (kc56 : Int32 → GX → Option (Int32 × GX)) (hkc56 : ∀ (x4 : Int32) (σ : GX), V g (LX ad) 71 RX1 cX1_read 5 (some .int) (wX g ad) iI z (kc56 x4 σ) σ 56 [(0, .ref (aReader ad)), (3, .ref (aLaw ad t)), (4, .int x4)] []) (x4 : Int32) (xs0 : Int32) (σ : GX) : V g (LX ad) 71 RX1 cX1_read 5 (some .int) (wX g ad) iI z (b_X1_read_86 t kc56 x4 xs0 σ) σ 86 [(0, .ref (aReader ad)), (3, .ref (aLaw ad t)), (4, .int x4)] [.int xs0, .ref (aReader ad)] := by
  unfold b_X1_read_86
  refine v_callVv (pc := 86) rcX1 (As := [.int xs0]) (rest := []) (ct_X1_expect xs0) mi_X1_expect q_294 (by decide) rfl rfl (Nat.le_of_ble_eq_true rfl) dX1_read_86 (fun q9 => ?_)
  refine v_aload_n (pc := 89) (i := 0) dX1_read_89 rfl rfl ?_
  refine v_iconst (pc := 90) dX1_read_90 ic_0 ?_
  refine v_iconst (pc := 91) dX1_read_91 ic_0 ?_
  refine v_callVv (pc := 92) rcX1 (As := [.int (0 : Int32), .int (0 : Int32)]) (rest := []) ((ct_jo JD).1 (0 : Int32) (0 : Int32)) mi_X1_joined q_302 (by decide) rfl rfl (Nat.le_of_ble_eq_true rfl) dX1_read_92 (fun q10 => ?_)
  refine v_aload_n (pc := 95) (i := 0) dX1_read_95 rfl rfl ?_
  refine v_bipush (pc := 96) dX1_read_96 bp_m18 ?_
  refine v_callVv (pc := 98) rcX1 (As := [.int (-18 : Int32)]) (rest := []) (ct_X1_expect (-18 : Int32)) mi_X1_expect q_294 (by decide) rfl rfl (Nat.le_of_ble_eq_true rfl) dX1_read_98 (fun q11 => ?_)
  refine v_aload_n (pc := 101) (i := 3) dX1_read_101 rfl rfl ?_
  refine v_iload (pc := 102) (i := 4) dX1_read_102 rfl ?_
  refine v_callVv (pc := 104) (rcX0 ht) (As := [.int x4]) (rest := []) (ct_X0_endPart ht x4) mi_X0_endPart q_321 (by decide) rfl rfl (Nat.le_of_ble_eq_true rfl) dX1_read_104 (fun q12 => ?_)
  refine v_iinc (pc := 107) (lv' := [(4, .int (x4 + (1 : Int32))), (0, .ref (aReader ad)), (3, .ref (aLaw ad t))]) (i := 4) dX1_read_107 rfl ic_1 (by decide) rfl ?_
  refine v_goto (pc := 110) (tgt := 56) dX1_read_110 rfl ?_
  exact v_sub [1, 2, 0] rfl (hkc56 (x4 + (1 : Int32)) q12.2)
def b_X1_read_56 (t : Nat) (kc56 : Int32 → GX → Option (Int32 × GX)) (x4 : Int32) (σ : GX) : Option (Int32 × GX) :=
  if (3 : Int32) ≤ x4 then (bnd (f_X1_expect (-22 : Int32) σ) fun q8 => some ((xI q8.2 7), q8.2)) else (if x4 ≠ 0 then (if x4 ≠ (1 : Int32) then (b_X1_read_86 t kc56 x4 (-21 : Int32) σ) else (b_X1_read_86 t kc56 x4 (-20 : Int32) σ)) else (b_X1_read_86 t kc56 x4 (-19 : Int32) σ))
theorem vb_X1_read_56 {g : Gt} {ad : Nat → Nat} (z : Zt) (t : Nat) (ht : t < 6) (kc56 : Int32 → GX → Option (Int32 × GX)) (hkc56 : ∀ (x4 : Int32) (σ : GX), V g (LX ad) 71 RX1 cX1_read 5 (some .int) (wX g ad) iI z (kc56 x4 σ) σ 56 [(0, .ref (aReader ad)), (3, .ref (aLaw ad t)), (4, .int x4)] []) (x4 : Int32) (σ : GX) : V g (LX ad) 71 RX1 cX1_read 5 (some .int) (wX g ad) iI z (b_X1_read_56 t kc56 x4 σ) σ 56 [(0, .ref (aReader ad)), (3, .ref (aLaw ad t)), (4, .int x4)] [] := by
  unfold b_X1_read_56
  refine v_iload (pc := 56) (i := 4) dX1_read_56 rfl ?_
  refine v_iconst (pc := 58) dX1_read_58 ic_3 ?_
  refine v_icmp_ge (pc := 59) (tgt := 113) dX1_read_59 rfl ?_ ?_
  · refine v_aload_n (pc := 113) (i := 0) dX1_read_113 rfl rfl ?_
    refine v_bipush (pc := 114) dX1_read_114 bp_m22 ?_
    refine v_callVv (pc := 116) rcX1 (As := [.int (-22 : Int32)]) (rest := []) (ct_X1_expect (-22 : Int32)) mi_X1_expect q_294 (by decide) rfl rfl (Nat.le_of_ble_eq_true rfl) dX1_read_116 (fun q8 => ?_)
    refine v_aload_n (pc := 119) (i := 0) dX1_read_119 rfl rfl ?_
    refine gX1_fault (pc := 120) q_87 dX1_read_120 ?_
    exact v_iret (pc := 123) dX1_read_123
  · refine v_aload_n (pc := 62) (i := 0) dX1_read_62 rfl rfl ?_
    refine v_iload (pc := 63) (i := 4) dX1_read_63 rfl ?_
    refine v_if_ne (pc := 65) (tgt := 73) dX1_read_65 rfl ?_ ?_
    · refine v_iload (pc := 73) (i := 4) dX1_read_73 rfl ?_
      refine v_iconst (pc := 75) dX1_read_75 ic_1 ?_
      refine v_icmp_ne (pc := 76) (tgt := 84) dX1_read_76 rfl ?_ ?_
      · refine v_bipush (pc := 84) dX1_read_84 bp_m21 ?_
        exact v_sub [0, 1, 2] rfl (vb_X1_read_86 z t ht kc56 hkc56 x4 (-21 : Int32) σ)
      · refine v_bipush (pc := 79) dX1_read_79 bp_m20 ?_
        refine v_goto (pc := 81) (tgt := 86) dX1_read_81 rfl ?_
        exact v_sub [0, 1, 2] rfl (vb_X1_read_86 z t ht kc56 hkc56 x4 (-20 : Int32) σ)
    · refine v_bipush (pc := 68) dX1_read_68 bp_m19 ?_
      refine v_goto (pc := 70) (tgt := 86) dX1_read_70 rfl ?_
      exact v_sub [0, 1, 2] rfl (vb_X1_read_86 z t ht kc56 hkc56 x4 (-19 : Int32) σ)
def k_X1_read_56 (t : Nat) : Nat → Int32 → GX → Option (Int32 × GX)
  | 0 => fun _ _ => none
  | n + 1 => b_X1_read_56 t (k_X1_read_56 t n)
theorem vk_X1_read_56 {g : Gt} {ad : Nat → Nat} (z : Zt) (t : Nat) (ht : t < 6) : ∀ (n : Nat) (x4 : Int32) (σ : GX), V g (LX ad) 71 RX1 cX1_read 5 (some .int) (wX g ad) iI z (k_X1_read_56 t n x4 σ) σ 56 [(0, .ref (aReader ad)), (3, .ref (aLaw ad t)), (4, .int x4)] [] := by
  intro n
  induction n with
  | zero => intros; exact v_eq rfl v_none
  | succ n ih =>
    intro x4 σ
    exact v_eq rfl (vb_X1_read_56 z t ht _ ih x4 σ)
def f_X1_read (t : Nat) (x2 : Int32) (σ : GX) : Option (Int32 × GX) :=
  if x2 < 0 then (some ((0 : Int32), σ)) else (if x2 ≤ (160 : Int32) then (bnd (some (sY σ (some ()))) fun σ1 => bnd (some (sI σ1 3 x2)) fun σ2 => bnd (some (sV σ2 (some t))) fun σ3 => bnd (some (sI σ3 4 (0 : Int32))) fun σ4 => bnd (some (sI σ4 7 (-1 : Int32))) fun σ5 => bnd (f_X0_clear t σ5) fun q6 => bnd (f_X1_advance q6.2) fun q7 => k_X1_read_56 t FU (0 : Int32) q7.2) else (some ((0 : Int32), σ)))
theorem vf_X1_read {g : Gt} {ad : Nat → Nat} (z : Zt) (t : Nat) (ht : t < 6) (x2 : Int32) (σ : GX) : V g (LX ad) 71 RX1 cX1_read 5 (some .int) (wX g ad) iI z (f_X1_read t x2 σ) σ 0 [(0, .ref (aReader ad)), (1, .ref (aTape ad)), (2, .int x2), (3, .ref (aLaw ad t))] [] := by
  unfold f_X1_read
  refine v_aload_n (pc := 0) (i := 1) dX1_read_0 rfl rfl ?_
  refine v_ifnull (pc := 1) dX1_read_1 ?_
  refine v_aload_n (pc := 4) (i := 3) dX1_read_4 rfl rfl ?_
  refine v_ifnull (pc := 5) dX1_read_5 ?_
  refine v_iload_n (pc := 8) (i := 2) dX1_read_8 rfl rfl ?_
  refine v_if_lt (pc := 9) (tgt := 18) dX1_read_9 rfl ?_ ?_
  · refine v_iconst (pc := 18) dX1_read_18 ic_0 ?_
    exact v_iret (pc := 19) dX1_read_19
  · refine v_iload_n (pc := 12) (i := 2) dX1_read_12 rfl rfl ?_
    refine v_aload_n (pc := 13) (i := 1) dX1_read_13 rfl rfl ?_
    refine nX_tape (pc := 14) (v := (160 : Int32)) rfl dX1_read_14 ?_
    refine v_icmp_le (pc := 15) (tgt := 20) dX1_read_15 rfl ?_ ?_
    · refine v_aload_n (pc := 20) (i := 0) dX1_read_20 rfl rfl ?_
      refine v_aload_n (pc := 21) (i := 1) dX1_read_21 rfl rfl ?_
      refine pX1_tape (pc := 22) q_82 dX1_read_22 ?_
      refine v_nms (fun σ1 => ?_)
      refine v_aload_n (pc := 25) (i := 0) dX1_read_25 rfl rfl ?_
      refine v_iload_n (pc := 26) (i := 2) dX1_read_26 rfl rfl ?_
      refine pX1_size (pc := 27) q_83 dX1_read_27 ?_
      refine v_nms (fun σ2 => ?_)
      refine v_aload_n (pc := 30) (i := 0) dX1_read_30 rfl rfl ?_
      refine v_aload_n (pc := 31) (i := 3) dX1_read_31 rfl rfl ?_
      refine pX1_law (pc := 32) (t := t) q_88 dX1_read_32 ?_
      refine v_nms (fun σ3 => ?_)
      refine v_aload_n (pc := 35) (i := 0) dX1_read_35 rfl rfl ?_
      refine v_iconst (pc := 36) dX1_read_36 ic_0 ?_
      refine pX1_at (pc := 37) q_84 dX1_read_37 ?_
      refine v_nms (fun σ4 => ?_)
      refine v_aload_n (pc := 40) (i := 0) dX1_read_40 rfl rfl ?_
      refine v_iconst (pc := 41) dX1_read_41 ic_m1 ?_
      refine pX1_fault (pc := 42) q_87 dX1_read_42 ?_
      refine v_nms (fun σ5 => ?_)
      refine v_aload_n (pc := 45) (i := 3) dX1_read_45 rfl rfl ?_
      refine v_callVv (pc := 46) (rcX0 ht) (As := []) (rest := []) (ct_X0_clear ht) mi_X0_clear q_251 (by decide) rfl rfl (Nat.le_of_ble_eq_true rfl) dX1_read_46 (fun q6 => ?_)
      refine v_aload_n (pc := 49) (i := 0) dX1_read_49 rfl rfl ?_
      refine v_callVv (pc := 50) rcX1 (As := []) (rest := []) (ct_X1_advance) mi_X1_advance q_255 (by decide) rfl rfl (Nat.le_of_ble_eq_true rfl) dX1_read_50 (fun q7 => ?_)
      refine v_iconst (pc := 53) dX1_read_53 ic_0 ?_
      refine v_istore (pc := 54) (lv' := [(4, .int (0 : Int32)), (0, .ref (aReader ad)), (1, .ref (aTape ad)), (2, .int x2), (3, .ref (aLaw ad t))]) (i := 4) dX1_read_54 (by decide) rfl ?_
      exact v_sub [1, 4, 0] rfl (vk_X1_read_56 z t ht FU (0 : Int32) q7.2)
    · refine v_iconst (pc := 18) dX1_read_18 ic_0 ?_
      exact v_iret (pc := 19) dX1_read_19
theorem ct_X1_read {g : Gt} {ad : Nat → Nat} {t : Nat} (ht : t < 6) (x2 : Int32) : CT g (LX ad) yX1_read cX1_read 5 (some .int) 71 [.ref (aReader ad), .ref (aTape ad), .int x2, .ref (aLaw ad t)] iI (wX g ad) (f_X1_read t x2) :=
  ct_of_V (own := RX1) (lv0 := [(0, .ref (aReader ad)), (1, .ref (aTape ad)), (2, .int x2), (3, .ref (aLaw ad t))]) (by decide +kernel) rfl (Nat.le_of_ble_eq_true rfl) rfl (fun z σ => vf_X1_read z t ht x2 σ)
