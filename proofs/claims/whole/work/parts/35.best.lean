/-! ===== setters beside EM; what is best ===== -/
theorem EM_tI {a b : GM} (k : Nat) (v : Int32) (h : EM a b) : EM (tI a k v) (tI b k v) := by
  obtain ⟨h1, h2, h3, h4, h5⟩ := h
  refine ⟨h1, ?_, h3, h4, h5⟩
  intro i hi
  by_cases q : i = k
  · subst q; rw [mI_s, mI_s]
  · rw [mI_n _ _ q, mI_n _ _ q]; exact h2 i hi
theorem EM_tL {a b : GM} (k : Nat) (v : Int64) (h : EM a b) : EM (tL a k v) (tL b k v) := by
  obtain ⟨h1, h2, h3, h4, h5⟩ := h
  refine ⟨?_, h2, h3, h4, h5⟩
  show up (mL b) k v = up (mL a) k v
  rw [h1]
theorem EM_tA {a b : GM} (k j : Nat) (v : Int32) (h : EM a b) : EM (tA a k j v) (tA b k j v) := by
  obtain ⟨h1, h2, h3, h4, h5⟩ := h
  have key : ∀ (f g : Nat → Int32) (i : Nat), f i = g i → upd f j v i = upd g j v i := by
    intro f g i e
    by_cases q : i = j
    · subst q; rw [upd_s, upd_s]
    · rw [upd_n _ _ q, upd_n _ _ q]; exact e
  refine ⟨h1, h2, ?_, ?_, ?_⟩
  · intro c q1 q2 q3 q4 q5 q6
    by_cases q : c = k
    · subst q; rw [mA_s, mA_s, h3 c q1 q2 q3 q4 q5 q6]
    · rw [mA_n _ _ _ q, mA_n _ _ _ q]; exact h3 c q1 q2 q3 q4 q5 q6
  · intro i hi
    by_cases q : 5 = k
    · subst q; rw [mA_s, mA_s]; exact key _ _ i (h4 i hi)
    · rw [mA_n _ _ _ q, mA_n _ _ _ q]; exact h4 i hi
  · intro i hi
    constructor
    · by_cases q : 2 = k
      · subst q; rw [mA_s, mA_s]; exact key _ _ i (h5 i hi).1
      · rw [mA_n _ _ _ q, mA_n _ _ _ q]; exact (h5 i hi).1
    · by_cases q : 4 = k
      · subst q; rw [mA_s, mA_s]; exact key _ _ i (h5 i hi).2
      · rw [mA_n _ _ _ q, mA_n _ _ _ q]; exact (h5 i hi).2
theorem upd_upd (f : Nat → Int32) (i : Nat) (a b : Int32) : upd (upd f i a) i b = upd f i b := by
  funext k
  by_cases q : k = i
  · subst q; rw [upd_s, upd_s]
  · rw [upd_n _ _ q, upd_n _ _ q, upd_n _ _ q]
theorem tA_tA (m : GM) (a i : Nat) (v w : Int32) : tA (tA m a i v) a i w = tA m a i w := by
  unfold tA
  show (mI m, mL m, _) = (mI m, mL m, _)
  congr 1; congr 1
  funext c
  show up (up (mA m) a (upd (mA m a) i v)) a (upd (up (mA m) a (upd (mA m a) i v) a) i w) c = up (mA m) a (upd (mA m a) i w) c
  by_cases q : c = a
  · subst q; rw [up_s, up_s, up_s, upd_upd]
  · rw [up_n _ _ q, up_n _ _ q, up_n _ _ q]
theorem tA_sw (m : GM) {a b : Nat} (i j : Nat) (v w : Int32) (h : a ≠ b) : tA (tA m a i v) b j w = tA (tA m b j w) a i v := by
  unfold tA
  show (mI m, mL m, _) = (mI m, mL m, _)
  congr 1; congr 1
  funext c
  show up (up (mA m) a (upd (mA m a) i v)) b (upd (up (mA m) a (upd (mA m a) i v) b) j w) c = up (up (mA m) b (upd (mA m b) j w)) a (upd (up (mA m) b (upd (mA m b) j w) a) i v) c
  rw [up_n _ _ (Ne.symm h), up_n _ _ h]
  by_cases q1 : c = a
  · subst q1; rw [up_n _ _ h, up_s, up_s]
  · rw [up_n _ _ q1]
    by_cases q2 : c = b
    · subst q2; rw [up_s, up_s]
    · rw [up_n _ _ q2, up_n _ _ q2, up_n _ _ q1]
theorem tL_tL (m : GM) (k : Nat) (v w : Int64) : tL (tL m k v) k w = tL m k w := by
  unfold tL
  show (mI m, _, mA m) = (mI m, _, mA m)
  congr 2
  funext c
  show up (up (mL m) k v) k w c = up (mL m) k w c
  by_cases q : c = k
  · subst q; rw [up_s, up_s]
  · rw [up_n _ _ q, up_n _ _ q, up_n _ _ q]
theorem tI_tI (m : GM) (k : Nat) (v w : Int32) : tI (tI m k v) k w = tI m k w := by
  unfold tI
  show (_, mL m, mA m) = (_, mL m, mA m)
  congr 1
  funext c
  show up (up (mI m) k v) k w c = up (mI m) k w c
  by_cases q : c = k
  · subst q; rw [up_s, up_s]
  · rw [up_n _ _ q, up_n _ _ q, up_n _ _ q]
theorem tL_id (m : GM) (k : Nat) : tL m k (mL m k) = m := by
  obtain ⟨a, b, c⟩ := m
  show (a, _, c) = (a, b, c)
  congr 2
  funext j
  show up b k (b k) j = b j
  by_cases q : j = k
  · subst q; rw [up_s]
  · rw [up_n _ _ q]
theorem tI_id (m : GM) (k : Nat) : tI m k (mI m k) = m := by
  obtain ⟨a, b, c⟩ := m
  show (_, b, c) = (a, b, c)
  congr 1
  funext j
  show up a k (a k) j = a j
  by_cases q : j = k
  · subst q; rw [up_s]
  · rw [up_n _ _ q]
theorem or0L (x : Int64) : x ||| (0 : Int64) = x := by
  apply bL_ext
  intro i hi
  rw [bL_or, bL_0, Bool.or_false]
theorem or0I (x : Int32) : x ||| (0 : Int32) = x := by
  apply b_ext
  intro i hi
  rw [b_or, b_0, Bool.or_false]
/-- the sea of the class as it is, the reference as it is but for one thing set otherwise -/
def RB (x : GX) (m : GM) (R : GM → GM) (x' : GX) (m' : GM) : Prop := EX 1 x x' ∧ EM m (R m')
theorem RB_RR {x : GX} {m : GM} {R : GM → GM} {x' : GX} {m' : GM} (h : RR x m) (b : RB x m R x' m') : RR x' (R m') := RR_st h b.1 b.2
/-! ===== safe ===== -/
theorem safe_loop {x : GX} {m : GM} {n s N c0 : Nat} (h : RR x m) (hn : mI m 0 = nI n) (hn6 : n ≤ 6) (hs : s < n) (hN : N ≤ 20) :
    ∀ (k c F1 F2 : Nat) (A : Int64) (x1 : GX) (m1 : GM), c + k = 36 → k < F1 → k < F2 → RB x m (fun m => tA m 2 s (nI c0)) x1 m1 → PP (k_X4_safe_38 F1 (nI s) (nI N) A (nI c) x1) (k_X5_safe_49 F2 (nI s) (nI N) (nI c0) A (nI c) m1) := by
  have hs6 : s < 6 := by omega
  intro k
  induction k with
  | zero =>
    intro c F1 F2 A x1 m1 hc h1 h2 hb
    obtain ⟨F1, rfl⟩ : ∃ k, F1 = k + 1 := ⟨F1 - 1, by omega⟩
    obtain ⟨F2, rfl⟩ : ∃ k, F2 = k + 1 := ⟨F2 - 1, by omega⟩
    have : c = 36 := by omega
    subst this
    show PP (b_X4_safe_38 (k_X4_safe_38 F1) (nI s) (nI N) A (nI 36) x1) (b_X5_safe_49 (k_X5_safe_49 F2) (nI s) (nI N) (nI c0) A (nI 36) m1)
    unfold b_X4_safe_38 b_X5_safe_49
    rw [if_pos (by decide), if_pos (by decide), grd_ok _ hs6 (by decide), nI_clamp (by omega), bnd_some]
    exact PP_same (RB_RR h hb)
  | succ k ih =>
    intro c F1 F2 A x1 m1 hc h1 h2 hb
    obtain ⟨F1, rfl⟩ : ∃ k, F1 = k + 1 := ⟨F1 - 1, by omega⟩
    obtain ⟨F2, rfl⟩ : ∃ k, F2 = k + 1 := ⟨F2 - 1, by omega⟩
    have hc36 : c < 36 := by omega
    have hR : RR x1 (tA m1 2 s (nI c0)) := RB_RR h hb
    obtain ⟨x2, e1, a1, a2⟩ := think_pair hR.1
    have hS := SR_cell (s := s) a2 hc36
    rw [tA_tA] at hS
    obtain ⟨f, e2, hk⟩ := keeps_spec (tA m1 2 s (nI c))
    have hn1 : mI (tA m1 2 s (nI c)) 0 = nI n := by
      have := hb.2.2.1 0 (by decide)
      exact this.trans hn
    obtain ⟨x3, m2, m3, b, j, g1, g2, g3, g4, g5, g6, g7, g8, g9, g10⟩ := thought_goes (SR_mk f hS) (FM_refl _) hk hn1 hn6 (show N ≤ 40 by omega)
    have hn2 : mI m2 0 = nI n := by rw [g10.2.1 0 (by decide) (by decide)]; exact hn1
    obtain ⟨_, _, _, _, _, k6⟩ := SR_ship g9 hn2 hn6 hs
    have hb' : RB x m (fun m => tA m 2 s (nI c0)) x3 m3 := by
      refine ⟨EX_trans hb.1 (EX_trans a1 (EX_trans (EX_sB _ _ _ _ _) g5)), ?_⟩
      have := EM_tA 2 s (nI c0) g6
      rw [tA_tA] at this
      exact EM_trans hb.2 this
    show PP (b_X4_safe_38 (k_X4_safe_38 F1) (nI s) (nI N) A (nI c) x1) (b_X5_safe_49 (k_X5_safe_49 F2) (nI s) (nI N) (nI c0) A (nI c) m1)
    unfold b_X4_safe_38 b_X5_safe_49 b_X5_safe_93
    rw [if_neg (show ¬ (36 : Int32) ≤ nI c from nI_ge (b := 36) hc36 (by decide)), if_neg (show ¬ (36 : Int32) ≤ nI c from nI_ge (b := 36) hc36 (by decide)), e1, bnd_some]
    simp only [grd_ok _ hs6 (show 6 < 2 ^ 31 by decide), nI_clamp (show s < 2 ^ 31 by omega), bnd_some, e2, g1, g2, g4, k6]
    rw [isLost_X 1 s (by omega), bnd_some, show nI c + (1 : Int32) = nI (c + 1) from nI_add c 1]
    by_cases q : bt (xS x3 1 0) s = true
    · simp only [if_pos q, ifs, if_true, or0L]
      exact ih (c + 1) F1 F2 A x3 m3 (by omega) (by omega) (by omega) hb'
    · simp only [if_neg q, ifs, if_false]
      exact ih (c + 1) F1 F2 _ x3 m3 (by omega) (by omega) (by omega) hb'
theorem eq_safe (a b : Int32) : EQ (f_X4_safe a b) (f_X5_safe a b) := by
  intro x m h
  obtain ⟨n, hn6, hm, hx⟩ := RR_n h
  simp only [f_X4_safe, f_X5_safe, isShip_X, isShip_M, within_X, in_M, bnd_some, hm, hx]
  rcases wi_ship a n (by omega) with e | ⟨e, s, hs, rfl⟩
  · simp only [e, ifs, if_true]
    exact PP_same h
  · simp only [e, ifs, if_false]
    rcases wi_lit b 20 (by decide) with e | ⟨e, N, hN, rfl⟩
    · simp only [e, ifs, if_false, if_true]
      exact PP_same h
    · simp only [e, ifs, if_true, if_false]
      obtain ⟨_, _, _, _, ⟨c0, hc0, k5⟩, k6⟩ := SR_ship h.1 hm hn6 hs
      rw [isLost_X 0 s (by omega), bnd_some, grd_ok _ (by omega) (by decide), nI_clamp (by omega), k6]
      by_cases q : bt (xS x 0 0) s = true
      · simp only [if_pos q, ifs, if_false]
        rw [if_neg (show ¬ (1 : Int32) ≠ 1 from fun q => q rfl)]
        exact PP_same h
      · simp only [if_neg q, ifs, if_true]
        rw [if_pos (show (0 : Int32) ≠ 1 by decide), grd_ok _ (by omega) (by decide), k5]
        refine safe_loop h hm hn6 hs hN 36 0 FU FU 0 x m rfl (by decide) (by decide) ⟨EX_refl _ _, ?_⟩
        show EM m (tA m 2 s (nI c0))
        rw [tA_id m 2 s (nI c0) k5]
        exact EM_refl m
/-! ===== trust ===== -/
theorem trust_loop {cc N : Nat} {v : Int32} (hcc : cc < 36) (hv1 : (-99 : Int32) ≤ v) (hv2 : v ≤ 99) (hN : N ≤ 20) :
    ∀ (k c F1 F2 : Nat) (x : GX) (m : GM), c + k = 10 → k < F1 → k + 1 < F2 → RR x m → PP (k_X4_trust_37 F1 (nI cc) v (nI N) (nI (10 * c)) x) (k_X5_trust_40 F2 (nI cc) v (nI N) (-1) (nI (10 * c)) m) := by
  intro k
  induction k with
  | zero =>
    intro c F1 F2 x m hc h1 h2 h
    obtain ⟨F1, rfl⟩ : ∃ k, F1 = k + 1 := ⟨F1 - 1, by omega⟩
    obtain ⟨F2, rfl⟩ : ∃ k, F2 = k + 1 := ⟨F2 - 1, by omega⟩
    have : c = 10 := by omega
    subst this
    show PP (b_X4_trust_37 (k_X4_trust_37 F1) (nI cc) v (nI N) (nI (10 * 10)) x) (b_X5_trust_40 (k_X5_trust_40 F2) (nI cc) v (nI N) (-1) (nI (10 * 10)) m)
    unfold b_X4_trust_37 b_X5_trust_40
    rw [if_pos (by decide), if_pos (by decide)]
    exact PP_same h
  | succ k ih =>
    intro c F1 F2 x m hc h1 h2 h
    obtain ⟨F1, rfl⟩ : ∃ k, F1 = k + 1 := ⟨F1 - 1, by omega⟩
    obtain ⟨F2, rfl⟩ : ∃ k, F2 = k + 1 := ⟨F2 - 1, by omega⟩
    obtain ⟨n, hn6, hm, hx⟩ := RR_n h
    obtain ⟨x1, f, e1, e2, hk, a1, a2⟩ := think_keeps h
    have hS := SR_doubt (d := 10 * c) a2 (by omega)
    obtain ⟨j, hj, c1, c2⟩ := hear_pair hS hcc hv1 hv2
    have hT := SR_belief (c := cc) hS hj
    have hf : FM (mk m f) (tA (tI (mk m f) 2 (nI (10 * c))) 5 cc (nI j)) := FM_trans (FM_tI _ _ _ (by decide)) (FM_tA _ _ _ _ (by decide))
    obtain ⟨x3, m2, m3, b, jj, g1, g2, g3, g4, g5, g6, g7, g8, g9, g10⟩ := thought_goes hT hf hk hm hn6 (show N ≤ 40 by omega)
    have hR : RR x3 m3 := RR_st h (EX_trans a1 (EX_trans (EX_sS _ _ _ _) (EX_trans (EX_sB _ _ _ _ _) g5))) g6
    show PP (b_X4_trust_37 (k_X4_trust_37 F1) (nI cc) v (nI N) (nI (10 * c)) x) (b_X5_trust_40 (k_X5_trust_40 F2) (nI cc) v (nI N) (-1) (nI (10 * c)) m)
    unfold b_X4_trust_37 b_X5_trust_40 b_X5_trust_83
    have h90 : ¬ (90 : Int32) < nI (10 * c) := nI_nlt (b := 10 * c) (a := 90) (by omega) (by decide)
    rw [if_neg h90, if_neg h90, if_neg (show ¬ (-1 : Int32) ≠ -1 from fun q => q rfl), e1, e2, bnd_some, bnd_some, bnd_some, bnd_some, c1, c2, bnd_some, bnd_some, g1, g2, bnd_some, bnd_some]
    have h10 : nI (10 * c) + (10 : Int32) = nI (10 * (c + 1)) := nIs (10 * c) 10
    simp only [g4, bnd_some, h10]
    by_cases q : jj = 0
    · have q2 := g8.mp q
      subst q
      rw [if_neg (show ¬ (nI 0 : Int32) ≠ 0 from fun q => q rfl), if_neg (show ¬ b ≠ 0 from fun r => r q2)]
      obtain ⟨F2, rfl⟩ : ∃ k, F2 = k + 1 := ⟨F2 - 1, by omega⟩
      show PP _ (b_X5_trust_40 (k_X5_trust_40 F2) (nI cc) v (nI N) (nI (10 * c)) (nI (10 * (c + 1))) m3)
      unfold b_X5_trust_40
      rw [if_pos (nI_m1 (s := 10 * c) (by omega))]
      split
      · exact PP_same hR
      · exact PP_same hR
    · rw [if_pos (show nI jj ≠ (0 : Int32) from fun r => q ((eq_nI (b := 0) (by omega) (by decide)).mp r)), if_pos (show b ≠ 0 from fun r => q (g8.mpr r))]
      exact ih (c + 1) F1 F2 x3 m3 (by omega) (by omega) (by omega) hR
theorem eq_trust (a b c : Int32) : EQ (f_X4_trust a b c) (f_X5_trust a b c) := by
  intro x m h
  simp only [f_X4_trust, f_X5_trust, isCell_X, isCell_M, within_X, in_M, bnd_some]
  rcases wi_cell a with e | ⟨e, cc, hcc, rfl⟩
  · simp only [e, ifs, if_false]
    exact PP_same h
  · simp only [e, ifs, if_true]
    rcases wi_rng b (-99) 99 with e | ⟨e, b1, b2⟩
    · simp only [e, ifs, if_true]
      exact PP_same h
    · simp only [e, ifs, if_false]
      rcases wi_lit c 10 (by decide) with e | ⟨e, N, hN, rfl⟩
      · simp only [e, ifs, if_false]
        exact PP_same h
      · simp only [e, ifs, if_true]
        exact trust_loop hcc b1 b2 (show N ≤ 20 by omega) 10 0 FU FU x m rfl (by decide) (by decide) h
/-! ===== lie ===== -/
theorem lie_iter {x : GX} {m : GM} {c N : Nat} {v : Int32} (h : RR x m) (hc : c < 36) (hv1 : (-99 : Int32) ≤ v) (hv2 : v ≤ 99) (hN : N ≤ 40) :
    ∃ x1 x2 x3 m1 m2 m3 m4 b j, f_X4_think x = some ((), x1) ∧ f_X2_hear 1 (nI c) v x1 = some ((), x2) ∧ f_X2_lossesIn 1 (nI N) x2 = some (nI j, x3) ∧ f_X5_keeps m = some ((), m1) ∧ f_X5_isToldOf (nI c) v m1 = some ((), m2) ∧ f_X5_goes (nI N) m2 = some (b, m3) ∧ f_X5_ones b m3 = some (nI j, m3) ∧ f_X5_lays m3 = some ((), m4) ∧ RR x3 m4 ∧ EM m m4 ∧ j ≤ 6 := by
  obtain ⟨n, hn6, hm, hx⟩ := RR_n h
  obtain ⟨x1, f, e1, e2, hk, a1, a2⟩ := think_keeps h
  obtain ⟨j, hj, c1, c2⟩ := hear_pair a2 hc hv1 hv2
  have hT := SR_belief (c := c) a2 hj
  have hf : FM (mk m f) (tA (mk m f) 5 c (nI j)) := FM_tA _ _ _ _ (by decide)
  obtain ⟨x3, m2, m3, b, jj, g1, g2, g3, g4, g5, g6, g7, g8, g9, g10⟩ := thought_goes hT hf hk hm hn6 hN
  exact ⟨_, _, _, _, _, _, _, _, _, e1, c1, g1, e2, c2, g2, g3 _, g4, RR_st h (EX_trans a1 (EX_trans (EX_sB _ _ _ _ _) g5)) g6, g6, g7⟩
theorem losses_pair {x : GX} {m : GM} {N : Nat} (h : RR x m) (hN : N ≤ 40) : ∃ x1 x2 m4 j, f_X4_think x = some ((), x1) ∧ f_X2_lossesIn 1 (nI N) x1 = some (nI j, x2) ∧ f_X5_lostNow (nI N) m = some (nI j, m4) ∧ RR x2 m4 ∧ EM m m4 ∧ j ≤ 6 := by
  obtain ⟨n, hn6, hm, hx⟩ := RR_n h
  obtain ⟨x1, f, e1, e2, hk, a1, a2⟩ := think_keeps h
  obtain ⟨x3, m2, m3, b, jj, g1, g2, g3, g4, g5, g6, g7, g8, g9, g10⟩ := thought_goes a2 (FM_refl _) hk hm hn6 hN
  refine ⟨_, _, m3, jj, e1, g1, ?_, RR_st h (EX_trans a1 g5) g6, g6, g7⟩
  unfold f_X5_lostNow
  rw [e2, bnd_some, g2, bnd_some, g3, bnd_some, g4, bnd_some]
theorem lie_tail {N : Nat} {v w best : Int32} (hv1 : (-99 : Int32) ≤ v) (hv2 : v ≤ 99) (hN : N ≤ 40) :
    ∀ (k c F : Nat) (x : GX) (m : GM), c + k = 36 → k < F → RR x m → ∃ m', k_X5_lie_46 F v (nI N) w best (nI 0) (nI c) m = some ((if w ≠ 0 then (nI 0) else best), m') ∧ RR x m' := by
  intro k
  induction k with
  | zero =>
    intro c F x m hc h1 h
    obtain ⟨F, rfl⟩ : ∃ k, F = k + 1 := ⟨F - 1, by omega⟩
    have : c = 36 := by omega
    subst this
    refine ⟨m, ?_, h⟩
    show b_X5_lie_46 (k_X5_lie_46 F) v (nI N) w best (nI 0) (nI 36) m = _
    unfold b_X5_lie_46
    rw [if_pos (by decide)]
    by_cases q : w ≠ 0
    · rw [if_pos q, if_pos q]
    · rw [if_neg q, if_neg q]
  | succ k ih =>
    intro c F x m hc h1 h
    obtain ⟨F, rfl⟩ : ∃ k, F = k + 1 := ⟨F - 1, by omega⟩
    have hc36 : c < 36 := by omega
    obtain ⟨x1, x2, x3, m1, m2, m3, m4, b, j, _, _, _, e4, e5, e6, e7, e8, _, hE, hj⟩ := lie_iter h hc36 hv1 hv2 hN
    obtain ⟨m', e, hR⟩ := ih (c + 1) F x m4 (by omega) (by omega) (RR_st h (EX_refl _ _) hE)
    refine ⟨m', ?_, hR⟩
    rw [← e]
    show b_X5_lie_46 (k_X5_lie_46 F) v (nI N) w best (nI 0) (nI c) m = _
    unfold b_X5_lie_46 b_X5_lie_92
    rw [if_neg (show ¬ (36 : Int32) ≤ nI c from nI_ge (b := 36) hc36 (by decide)), e4, bnd_some, e5, bnd_some, e6, bnd_some, e7, bnd_some, e8, bnd_some, if_pos (nI_le (by omega) (by omega)), if_pos (nI_le (by omega) (by omega)), show nI c + (1 : Int32) = nI (c + 1) from nI_add c 1]
theorem lie_loop {N : Nat} {v w : Int32} (hv1 : (-99 : Int32) ≤ v) (hv2 : v ≤ 99) (hN : N ≤ 40) :
    ∀ (k c F1 F2 j : Nat) (best : Int32) (x : GX) (m : GM), c + k = 36 → k < F1 → k < F2 → j ≤ 6 → RR x m → PP (k_X4_lie_53 F1 v (nI N) w (nI j) best (nI c) x) (k_X5_lie_46 F2 v (nI N) w best (nI j) (nI c) m) := by
  intro k
  induction k with
  | zero =>
    intro c F1 F2 j best x m hc h1 h2 hj h
    obtain ⟨F1, rfl⟩ : ∃ k, F1 = k + 1 := ⟨F1 - 1, by omega⟩
    obtain ⟨F2, rfl⟩ : ∃ k, F2 = k + 1 := ⟨F2 - 1, by omega⟩
    have : c = 36 := by omega
    subst this
    show PP (b_X4_lie_53 (k_X4_lie_53 F1) v (nI N) w (nI j) best (nI 36) x) (b_X5_lie_46 (k_X5_lie_46 F2) v (nI N) w best (nI j) (nI 36) m)
    unfold b_X4_lie_53 b_X5_lie_46 b_X4_lie_110
    rw [if_pos (show (36 : Int32) ≤ nI 36 by decide), if_pos (show (36 : Int32) ≤ nI 36 by decide)]
    by_cases q : w ≠ 0
    · rw [if_pos q, if_pos q]; exact PP_same h
    · rw [if_neg q, if_neg q]; exact PP_same h
  | succ k ih =>
    intro c F1 F2 j best x m hc h1 h2 hj h
    obtain ⟨F1, rfl⟩ : ∃ k, F1 = k + 1 := ⟨F1 - 1, by omega⟩
    have hc36 : c < 36 := by omega
    have hX : k_X4_lie_53 (F1 + 1) v (nI N) w (nI j) best (nI c) x = b_X4_lie_53 (k_X4_lie_53 F1) v (nI N) w (nI j) best (nI c) x := rfl
    by_cases hj0 : j = 0
    · subst hj0
      obtain ⟨m', e, hR⟩ := lie_tail (w := w) (best := best) hv1 hv2 hN (k + 1) c F2 x m hc h2 h
      rw [hX, e]
      unfold b_X4_lie_53 b_X4_lie_110
      rw [if_neg (show ¬ (36 : Int32) ≤ nI c from nI_ge (b := 36) hc36 (by decide)), if_pos (show nI 0 ≤ (0 : Int32) by decide)]
      by_cases q : w ≠ 0
      · rw [if_pos q, if_pos q]; exact PP_mk rfl rfl hR
      · rw [if_neg q, if_neg q]; exact PP_mk rfl rfl hR
    · obtain ⟨F2, rfl⟩ : ∃ k, F2 = k + 1 := ⟨F2 - 1, by omega⟩
      obtain ⟨x1, x2, x3, m1, m2, m3, m4, b, jj, e1, e2, e3, e4, e5, e6, e7, e8, hR, hE, hjj⟩ := lie_iter h hc36 hv1 hv2 hN
      rw [hX]
      show PP _ (b_X5_lie_46 (k_X5_lie_46 F2) v (nI N) w best (nI j) (nI c) m)
      unfold b_X4_lie_53 b_X5_lie_46 b_X5_lie_92
      rw [if_neg (show ¬ (36 : Int32) ≤ nI c from nI_ge (b := 36) hc36 (by decide)), if_neg (show ¬ (36 : Int32) ≤ nI c from nI_ge (b := 36) hc36 (by decide)), if_neg (show ¬ nI j ≤ (0 : Int32) from nI_ge (a := 0) (by omega) (by omega)), e1, bnd_some, e2, bnd_some, e3, bnd_some, e4, bnd_some, e5, bnd_some, e6, bnd_some, e7, bnd_some, e8, bnd_some, show nI c + (1 : Int32) = nI (c + 1) from nI_add c 1]
      by_cases q : nI j ≤ nI jj
      · rw [if_pos q, if_pos q, if_pos q]
        exact ih (c + 1) F1 F2 j best x3 m4 (by omega) (by omega) (by omega) hj hR
      · rw [if_neg q, if_neg q, if_neg q]
        exact ih (c + 1) F1 F2 jj (nI c) x3 m4 (by omega) (by omega) (by omega) hjj hR
theorem eq_lie (a b c : Int32) : EQ (f_X4_lie a b c) (f_X5_lie a b c) := by
  intro x m h
  simp only [f_X4_lie, f_X5_lie, within_X, in_M, bnd_some]
  rcases wi_rng a (-99) 99 with e | ⟨e, b1, b2⟩
  · simp only [e, ifs, if_true]
    exact PP_same h
  · simp only [e, ifs, if_false]
    rcases wi_lit b 20 (by decide) with e | ⟨e, N, hN, rfl⟩
    · simp only [e, ifs, if_true]
      exact PP_same h
    · simp only [e, ifs, if_false]
      rcases wi_rng c 0 1 with e | ⟨e, _, _⟩
      · simp only [e, ifs, if_false]
        exact PP_same h
      · simp only [e, ifs, if_true]
        obtain ⟨x1, x2, m4, j, e1, e2, e3, hR, _, hj⟩ := losses_pair h (show N ≤ 40 by omega)
        rw [e1, bnd_some, e2, bnd_some, e3, bnd_some]
        exact lie_loop b1 b2 (show N ≤ 40 by omega) 36 0 FU FU j (-1) x2 m4 rfl (by decide) (by decide) hj hR
/-! ===== blow ===== -/
theorem bits_M (w : Int64) (c : Nat) (hc : c < 64) : (lg_cmp (srL w (nI c) &&& 1) 1 ≠ 0) ↔ bL w c = false := by
  rw [bL_one' w c hc]
  by_cases q : bL w c = true
  · rw [if_pos q, q]; decide
  · rw [if_neg q]
    have : bL w c = false := by simpa using q
    rw [this]; decide
theorem blow_iter {x : GX} {m : GM} {c N : Nat} {x1 : GX} {m1 : GM} (h : RR x m) (hc : c < 36) (hN : N ≤ 40) (hb : RB x m (fun m' => tL m' 0 (mL m 0)) x1 m1) :
    ∃ x2 x3 m4 j, f_X4_think x1 = some ((), x2) ∧ f_X2_lossesIn 1 (nI N) (sR x2 1 (xR x2 1 &&& (slL 1 (nI c) ^^^ -1))) = some (nI j, x3) ∧ f_X5_lostNow (nI N) (tL m1 0 (mL m 0 &&& (slL 1 (nI c) ^^^ -1))) = some (nI j, m4) ∧ RB x m (fun m' => tL m' 0 (mL m 0)) x3 m4 ∧ RB x m (fun m' => tL m' 0 (mL m 0)) x1 m4 ∧ j ≤ 6 := by
  obtain ⟨n, hn6, hm, hx⟩ := RR_n h
  have hR : RR x1 (tL m1 0 (mL m 0)) := RB_RR h hb
  obtain ⟨x2, e1, a1, a2⟩ := think_pair hR.1
  have hr : xR x2 1 = mL m 0 := by
    obtain ⟨_, _, _, _, h5, _⟩ := id a2
    rw [h5]; exact mL_s _ _ _
  have hS := SR_rocks (mL m 0 &&& (slL 1 (nI c) ^^^ -1)) a2
  rw [tL_tL] at hS
  obtain ⟨f, e2, hk⟩ := keeps_spec (tL m1 0 (mL m 0 &&& (slL 1 (nI c) ^^^ -1)))
  have hn1 : mI (tL m1 0 (mL m 0 &&& (slL 1 (nI c) ^^^ -1))) 0 = nI n := (hb.2.2.1 0 (by decide)).trans hm
  obtain ⟨x3, m2, m3, b, j, g1, g2, g3, g4, g5, g6, g7, g8, g9, g10⟩ := thought_goes (SR_mk f hS) (FM_refl _) hk hn1 hn6 hN
  have hE : EM m (tL m3 0 (mL m 0)) := by
    have := EM_tL 0 (mL m 0) g6
    rw [tL_tL] at this
    exact EM_trans hb.2 this
  refine ⟨x2, x3, m3, j, e1, by rw [hr]; exact g1, ?_, ⟨EX_trans hb.1 (EX_trans a1 (EX_trans (EX_sR _ _ _) g5)), hE⟩, ⟨hb.1, hE⟩, g7⟩
  unfold f_X5_lostNow
  rw [e2, bnd_some, g2, bnd_some, g3, bnd_some, g4, bnd_some]
theorem blow_tail {x : GX} {m : GM} {N : Nat} {w best : Int32} (h : RR x m) (hN : N ≤ 40) :
    ∀ (k c F : Nat) (x1 : GX) (m1 : GM), c + k = 36 → k < F → RB x m (fun m' => tL m' 0 (mL m 0)) x1 m1 → ∃ m', k_X5_blow_40 F (nI N) w (mL m 0) best (nI 0) (nI c) m1 = some ((if w ≠ 0 then (nI 0) else best), m') ∧ RR x1 m' := by
  intro k
  induction k with
  | zero =>
    intro c F x1 m1 hc h1 hb
    obtain ⟨F, rfl⟩ : ∃ k, F = k + 1 := ⟨F - 1, by omega⟩
    have : c = 36 := by omega
    subst this
    refine ⟨tL m1 0 (mL m 0), ?_, RB_RR h hb⟩
    show b_X5_blow_40 (k_X5_blow_40 F) (nI N) w (mL m 0) best (nI 0) (nI 36) m1 = _
    unfold b_X5_blow_40
    rw [if_pos (by decide), bnd_some]
    by_cases q : w ≠ 0
    · rw [if_pos q, if_pos q]
    · rw [if_neg q, if_neg q]
  | succ k ih =>
    intro c F x1 m1 hc h1 hb
    obtain ⟨F, rfl⟩ : ∃ k, F = k + 1 := ⟨F - 1, by omega⟩
    have hc36 : c < 36 := by omega
    have hM : k_X5_blow_40 (F + 1) (nI N) w (mL m 0) best (nI 0) (nI c) m1 = b_X5_blow_40 (k_X5_blow_40 F) (nI N) w (mL m 0) best (nI 0) (nI c) m1 := rfl
    rw [hM]
    unfold b_X5_blow_40 b_X5_blow_93
    rw [if_neg (show ¬ (36 : Int32) ≤ nI c from nI_ge (b := 36) hc36 (by decide)), show nI c + (1 : Int32) = nI (c + 1) from nI_add c 1]
    by_cases q : bL (mL m 0) c = false
    · rw [if_pos ((bits_M _ c (by omega)).mpr q)]
      exact ih (c + 1) F x1 m1 (by omega) (by omega) hb
    · rw [if_neg (fun r => q ((bits_M _ c (by omega)).mp r))]
      obtain ⟨x2, x3, m4, j, e1, e2, e3, _, hb', hj⟩ := blow_iter h hc36 hN hb
      rw [bnd_some, e3, bnd_some, if_pos (nI_le (by omega) (by omega)), if_pos (nI_le (by omega) (by omega))]
      exact ih (c + 1) F x1 m4 (by omega) (by omega) hb'
theorem blow_loop {x : GX} {m : GM} {N : Nat} {w : Int32} (h : RR x m) (hN : N ≤ 40) :
    ∀ (k c F1 F2 j : Nat) (best : Int32) (x1 : GX) (m1 : GM), c + k = 36 → k < F1 → k < F2 → j ≤ 6 → RB x m (fun m' => tL m' 0 (mL m 0)) x1 m1 → PP (k_X4_blow_41 F1 (nI N) w (nI j) best (nI c) x1) (k_X5_blow_40 F2 (nI N) w (mL m 0) best (nI j) (nI c) m1) := by
  intro k
  induction k with
  | zero =>
    intro c F1 F2 j best x1 m1 hc h1 h2 hj hb
    obtain ⟨F1, rfl⟩ : ∃ k, F1 = k + 1 := ⟨F1 - 1, by omega⟩
    obtain ⟨F2, rfl⟩ : ∃ k, F2 = k + 1 := ⟨F2 - 1, by omega⟩
    have : c = 36 := by omega
    subst this
    show PP (b_X4_blow_41 (k_X4_blow_41 F1) (nI N) w (nI j) best (nI 36) x1) (b_X5_blow_40 (k_X5_blow_40 F2) (nI N) w (mL m 0) best (nI j) (nI 36) m1)
    unfold b_X4_blow_41 b_X5_blow_40 b_X4_blow_117
    rw [if_pos (show (36 : Int32) ≤ nI 36 by decide), if_pos (show (36 : Int32) ≤ nI 36 by decide), bnd_some]
    by_cases q : w ≠ 0
    · rw [if_pos q, if_pos q]; exact PP_same (RB_RR h hb)
    · rw [if_neg q, if_neg q]; exact PP_same (RB_RR h hb)
  | succ k ih =>
    intro c F1 F2 j best x1 m1 hc h1 h2 hj hb
    obtain ⟨F1, rfl⟩ : ∃ k, F1 = k + 1 := ⟨F1 - 1, by omega⟩
    have hc36 : c < 36 := by omega
    have hX : k_X4_blow_41 (F1 + 1) (nI N) w (nI j) best (nI c) x1 = b_X4_blow_41 (k_X4_blow_41 F1) (nI N) w (nI j) best (nI c) x1 := rfl
    by_cases hj0 : j = 0
    · subst hj0
      obtain ⟨m', e, hR⟩ := blow_tail (w := w) (best := best) h hN (k + 1) c F2 x1 m1 hc h2 hb
      rw [hX, e]
      unfold b_X4_blow_41 b_X4_blow_117
      rw [if_neg (show ¬ (36 : Int32) ≤ nI c from nI_ge (b := 36) hc36 (by decide)), if_pos (show nI 0 ≤ (0 : Int32) by decide)]
      by_cases q : w ≠ 0
      · rw [if_pos q, if_pos q]; exact PP_mk rfl rfl hR
      · rw [if_neg q, if_neg q]; exact PP_mk rfl rfl hR
    · obtain ⟨F2, rfl⟩ : ∃ k, F2 = k + 1 := ⟨F2 - 1, by omega⟩
      have hr : xR x1 0 = mL m 0 := by
        rw [hb.1.2.2.1 0 (by decide)]
        obtain ⟨_, _, _, _, h5, _⟩ := id h.1
        exact h5
      rw [hX]
      show PP _ (b_X5_blow_40 (k_X5_blow_40 F2) (nI N) w (mL m 0) best (nI j) (nI c) m1)
      unfold b_X4_blow_41 b_X5_blow_40 b_X5_blow_93
      rw [if_neg (show ¬ (36 : Int32) ≤ nI c from nI_ge (b := 36) hc36 (by decide)), if_neg (show ¬ (36 : Int32) ≤ nI c from nI_ge (b := 36) hc36 (by decide)), if_neg (show ¬ nI j ≤ (0 : Int32) from nI_ge (a := 0) (by omega) (by omega)), hasRock_X 0 c (by omega), bnd_some, hr, show nI c + (1 : Int32) = nI (c + 1) from nI_add c 1]
      by_cases q : bL (mL m 0) c = false
      · rw [if_pos ((bits_M _ c (by omega)).mpr q), q]
        rw [if_neg (show ¬ (false = true) by decide), if_pos rfl]
        exact ih (c + 1) F1 F2 j best x1 m1 (by omega) (by omega) (by omega) hj hb
      · have q' : bL (mL m 0) c = true := by simpa using q
        rw [if_neg (fun r => q ((bits_M _ c (by omega)).mp r)), q', if_pos rfl, if_neg (show ¬ (1 : Int32) = 0 by decide)]
        obtain ⟨x2, x3, m4, jj, e1, e2, e3, hb', _, hjj⟩ := blow_iter h hc36 hN hb
        rw [e1, bnd_some, bnd_some, e2, bnd_some, bnd_some, e3, bnd_some]
        by_cases q : nI j ≤ nI jj
        · rw [if_pos q, if_pos q, if_pos q]
          exact ih (c + 1) F1 F2 j best x3 m4 (by omega) (by omega) (by omega) hj hb'
        · rw [if_neg q, if_neg q, if_neg q]
          exact ih (c + 1) F1 F2 jj (nI c) x3 m4 (by omega) (by omega) (by omega) hjj hb'
theorem eq_blow (a b : Int32) : EQ (f_X4_blow a b) (f_X5_blow a b) := by
  intro x m h
  simp only [f_X4_blow, f_X5_blow, within_X, in_M, bnd_some]
  rcases wi_lit a 20 (by decide) with e | ⟨e, N, hN, rfl⟩
  · simp only [e, ifs, if_true]
    exact PP_same h
  · simp only [e, ifs, if_false]
    rcases wi_rng b 0 1 with e | ⟨e, _, _⟩
    · simp only [e, ifs, if_false]
      exact PP_same h
    · simp only [e, ifs, if_true]
      obtain ⟨x1, x2, m4, j, e1, e2, e3, hR, hE, hj⟩ := losses_pair h (show N ≤ 40 by omega)
      rw [e1, bnd_some, e2, bnd_some, e3, bnd_some]
      have hl : mL m 0 = mL m4 0 := by rw [hE.1]
      rw [hl]
      refine blow_loop hR (show N ≤ 40 by omega) 36 0 FU FU j (-1) x2 m4 rfl (by decide) (by decide) hj ⟨EX_refl _ _, ?_⟩
      show EM m4 (tL m4 0 (mL m4 0))
      rw [tL_id]
      exact EM_refl m4
