/-! ===== asks, ship, put, told, likes, night ===== -/
theorem wi_2 (a : Int32) : wi a 0 2 = 0 ∨ (wi a 0 2 = 1 ∧ ∃ c : Nat, c < 3 ∧ a = nI c) := by
  rcases wi_lit a 2 (by decide) with h | ⟨h, c, hc, e⟩
  · exact Or.inl h
  · exact Or.inr ⟨h, c, by omega, e⟩
theorem KM_wm (m : GM) (v w) : KM m (wm m v w) := EM_KM (EM_wm m v w)
theorem RR_wst {x : GX} {m : GM} (h : RR x m) (u v w) : RR (wst x u) (wm m v w) := RR_st h (EX_wst 1 x u) (EM_wm m v w)
theorem says_pp {x : GX} {m : GM} (h : RR x m) {p cc : Nat} (hp : p < 3) (hcc : cc < 36) {dr sh : Int32} (hd : (sh = -1 ∧ dr = 0) ∨ ∃ s : Nat, s < 6 ∧ sh = nI s ∧ dr = mA m 3 s) : PP (bnd (f_X2_says 0 (nI p) (nI cc) dr x) fun q3 => some (q3.1, q3.2)) (bnd (f_X5_asksOf (nI p) (nI cc) sh m) fun q2 => some (q2.1, q2.2)) := by
  obtain ⟨r, u, v, w, e1, e2, _⟩ := says_asks h.1 hp hcc hd
  rw [e1, e2, bnd_some, bnd_some]
  exact PP_mk rfl rfl (RR_wst h u v w)
theorem nI_m1 {s : Nat} (h : s < 2 ^ 31) : nI s ≠ -1 := by
  intro q
  have := congrArg Int32.toInt q
  rw [nI_toInt h, show (-1 : Int32).toInt = -1 from by decide] at this
  omega
theorem eq_asks (a b c : Int32) : EQ (f_X4_asks a b c) (f_X5_asks a b c) := by
  intro x m h
  obtain ⟨n, hn6, hm, hx⟩ := RR_n h
  simp only [f_X4_asks, f_X5_asks, within_X, in_M, isCell_X, isCell_M, isShip_X, isShip_M, bnd_some, hm, hx]
  rcases wi_2 a with e | ⟨e, p, hp, rfl⟩
  · simp only [e, ifs, if_true, b_X5_asks_34]
    exact PP_same h
  · simp only [e, ifs, if_false]
    rcases wi_cell b with e | ⟨e, cc, hcc, rfl⟩
    · simp only [e, ifs, if_true, b_X5_asks_34]
      exact PP_same h
    · simp only [e, ifs, if_false]
      by_cases q : c = -1
      · subst q
        simp only [if_true, b_X5_asks_34, ifs, if_false, b_X4_asks_33]
        rw [if_neg (show ¬ ((-1 : Int32) ≠ -1) by decide)]
        exact says_pp h hp hcc (Or.inl ⟨rfl, rfl⟩)
      · simp only [if_neg q]
        rcases wi_ship c n (by omega) with e | ⟨e, s, hs, rfl⟩
        · simp only [e, ifs, if_true, if_false, b_X5_asks_34]
          exact PP_same h
        · simp only [e, ifs, if_true, if_false, b_X5_asks_34, b_X4_asks_33]
          have hk := (SR_ship h.1 hm hn6 hs).2.2.2.1
          rw [if_pos q, grd_ok _ (by omega) (by decide), nI_clamp (by omega), hk]
          exact says_pp h hp hcc (Or.inr ⟨s, by omega, rfl, rfl⟩)
theorem eq_put (a b c : Int32) : EQ (f_X4_put a b c) (f_X5_put a b c) := by
  intro x m h
  obtain ⟨n, hn6, hm, hx⟩ := RR_n h
  simp only [f_X4_put, f_X5_put, within_X, in_M, isShip_X, isShip_M, bnd_some, hm, hx, b_X4_put_33, b_X5_put_33]
  rcases wi_ship a n (by omega) with e | ⟨e, s, hs, rfl⟩
  · simp only [e, ifs, if_false]
    exact PP_same h
  · simp only [e, ifs, if_true]
    obtain ⟨k1, k2, k3, k4, k5, k6⟩ := SR_ship h.1 hm hn6 hs
    rcases wi_b b with e | ⟨e, hb⟩
    · simp only [e, ifs, if_true]
      exact PP_same h
    · simp only [e, ifs, if_false]
      have hs6 : s < 6 := by omega
      have gN : (nI s).toNatClampNeg = s := nI_clamp (by omega)
      rcases hb with rfl | rfl
      · simp only [ifs, if_false]
        rcases wi_cell c with e | ⟨e, cc, hcc, rfl⟩
        · simp only [e, ifs, if_false]
          exact PP_same h
        · simp only [e, ifs, if_true, b_X4_put_63b, b_X5_put_61, if_false, gN]
          rw [grd_ok _ hs6 (by decide), bnd_some, grd_ok _ hs6 (by decide), bnd_some, grd_ok _ hs6 (by decide), grd_ok _ hs6 (by decide), bnd_some, k3]
          exact PP_mk rfl rfl (KR_m h (SR_cell h.1 hcc) (EX_KX (EX_sB 0 x _ _ _) (by decide)) ⟨rfl, rfl, rfl, rfl, rfl, rfl, rfl, mA_n _ _ _ (by decide), mA_n _ _ _ (by decide), fun a _ _ => mA_n _ _ _ (by omega)⟩)
      · simp only [ifs, if_true]
        rcases wi_lit c 99 (by decide) with e | ⟨e, d, hd, rfl⟩
        · simp only [e, ifs, if_false]
          exact PP_same h
        · simp only [e, ifs, if_true, b_X4_put_63, b_X5_put_61, gN]
          rw [grd_ok _ hs6 (by decide), bnd_some, grd_ok _ hs6 (by decide), bnd_some, grd_ok _ hs6 (by decide), grd_ok _ hs6 (by decide), bnd_some, k4]
          exact PP_mk rfl rfl (KR_m h (SR_draught _ h.1) (EX_KX (EX_sB 0 x _ _ _) (by decide)) ⟨rfl, rfl, rfl, rfl, rfl, rfl, rfl, mA_n _ _ _ (by decide), mA_n _ _ _ (by decide), fun a _ _ => mA_n _ _ _ (by omega)⟩)
theorem eq_told (a b : Int32) : EQ (f_X4_told a b) (f_X5_told a b) := by
  intro x m h
  obtain ⟨n, hn6, hm, hx⟩ := RR_n h
  simp only [f_X4_told, f_X5_told, isShip_X, isShip_M, bnd_some, hm, hx]
  rcases wi_ship a n (by omega) with e | ⟨e, s, hs, rfl⟩
  · simp only [e, ifs, if_false]
    exact PP_same h
  · simp only [e, ifs, if_true]
    obtain ⟨k1, k2, k3, k4, k5, k6⟩ := SR_ship h.1 hm hn6 hs
    have hs6 : s < 6 := by omega
    have g1 : ∀ {α : Type} (r : Option α), grd (nI s) 6 r = r := fun r => grd_ok r hs6 (by decide)
    have gN : (nI s).toNatClampNeg = s := nI_clamp (by omega)
    simp only [g1, gN, k1, k2, k3, k4]
    by_cases q0 : b = 0
    · rw [if_pos q0, if_pos q0]; exact PP_same h
    rw [if_neg q0, if_neg q0]
    by_cases q1 : b = 1
    · rw [if_pos q1, if_pos q1]; exact PP_same h
    rw [if_neg q1, if_neg q1]
    by_cases q2 : b = 2
    · rw [if_pos q2, if_pos q2]; exact PP_same h
    rw [if_neg q2, if_neg q2]
    by_cases q3 : b = 3
    · rw [if_pos q3, if_pos q3]; exact PP_same h
    rw [if_neg q3, if_neg q3]
    by_cases q4 : b = 4
    · rw [if_pos q4, if_pos q4, isLost_X 0 s (by omega), bnd_some, k6]
      by_cases q : bt (xS x 0 0) s = true
      · simp only [if_pos q, ifs, if_false]; exact PP_same h
      · simp only [if_neg q, ifs, if_true]; exact PP_same h
    rw [if_neg q4, if_neg q4]
    by_cases q5 : b = 5
    · rw [if_pos q5, if_pos q5]
      obtain ⟨c', u, v, w, _, e1, e2⟩ := goal_pair h.1 hm hn6 hs
      rw [e1, e2, bnd_some, bnd_some]
      exact PP_mk rfl rfl (RR_wst h u v w)
    rw [if_neg q5, if_neg q5]
    by_cases q6 : b = 6
    · rw [if_pos q6, if_pos q6]
      obtain ⟨r, hr, e1, e2⟩ := sink_pair h.1 hm hn6 hs
      rw [e1, e2, bnd_some, bnd_some]
      rcases hr with rfl | rfl
      · simp only [ifs, if_true]; exact PP_same h
      · simp only [ifs, if_false]; exact PP_same h
    rw [if_neg q6, if_neg q6]
    exact PP_same h
theorem eq_likes (a b : Int32) : EQ (f_X4_likes a b) (f_X5_likes a b) := by
  intro x m h
  obtain ⟨n, hn6, hm, hx⟩ := RR_n h
  simp only [f_X4_likes, f_X5_likes, isShip_X, isShip_M, isCell_X, isCell_M, bnd_some, hm, hx]
  rcases wi_ship a n (by omega) with e | ⟨e, s, hs, rfl⟩
  · simp only [e, ifs, if_true]
    exact PP_same h
  · simp only [e, ifs, if_false]
    rcases wi_cell b with e | ⟨e, cc, hcc, rfl⟩
    · simp only [e, ifs, if_true]
      exact PP_same h
    · simp only [e, ifs, if_false]
      obtain ⟨r, u, v, w, e1, e2⟩ := liking_pair h.1 hm hn6 hs hcc
      rw [e1, e2, bnd_some, bnd_some]
      exact PP_mk rfl rfl (RR_wst h u v w)
theorem FX_KX {x x' : GX} (h : FX 0 x x') : KX x x' := EX_KX (FX_EX h) (by decide)
theorem eq_night : EQ f_X4_night f_X5_night := by
  intro x m h
  obtain ⟨n, hn6, hm, hx⟩ := RR_n h
  have hN : xS x 0 3 = mI m 1 := by obtain ⟨_, _, h3, _⟩ := id h.1; exact h3
  obtain ⟨k, hk, ek⟩ : ∃ k : Nat, k ≤ 999 ∧ mI m 1 = nI k := h.2.2.2.2.2.1.1
  unfold f_X4_night f_X5_night
  rw [hN, ek]
  by_cases q : k = 999
  · subst q
    rw [if_neg (show ¬ nI 999 < (999 : Int32) by decide), if_neg (show ¬ nI 999 ≠ (999 : Int32) by decide)]
    exact PP_same h
  · rw [if_pos (show nI k < (999 : Int32) from nI_lt (b := 999) (by omega) (by decide)), if_pos (show nI k ≠ (999 : Int32) from fun r => q ((eq_nI (b := 999) (by omega) (by decide)).mp r)), bnd_some]
    obtain ⟨x', m', e1, e2, a1, a2, a3, a4, _⟩ := night_pair h.1 hm hn6
    rw [e1, e2, bnd_some, bnd_some]
    refine PP_mk rfl rfl ⟨a1, ?_⟩
    obtain ⟨_, b1, b2, b3, b4, b5, b6, b7⟩ := h
    obtain ⟨c1, c2, c3⟩ := a3
    obtain ⟨d1, d2, d3, d4, d5, d6, d7, d8⟩ := FX_KX a2
    refine ⟨TXR_fr b1 (by rw [d1]) (fun t => ⟨d5 t 0 (by decide), d5 t 2 (by decide)⟩) (c2 4 (by decide) (by decide)) (c2 5 (by decide) (by decide)) (c3 7 (by decide) (by decide) (by decide) (by decide) (by decide)) (c3 8 (by decide) (by decide) (by decide) (by decide) (by decide)), TPR_fr b2 (by rw [d1]) d8 (c2 3 (by decide) (by decide)) (c3 6 (by decide) (by decide) (by decide) (by decide) (by decide)), SHR_fr b3 d6 d7 (c3 11 (by decide) (by decide) (by decide) (by decide) (by decide)) (c3 12 (by decide) (by decide) (by decide) (by decide) (by decide)) (c3 13 (by decide) (by decide) (by decide) (by decide) (by decide)), IMR_fr b4 (by rw [d1]) d2 d3 d4 (c2 6 (by decide) (by decide)) (c2 0 (by decide) (by decide)) (c2 4 (by decide) (by decide)) (by rw [c1]) (c3 9 (by decide) (by decide) (by decide) (by decide) (by decide)) (c3 10 (by decide) (by decide) (by decide) (by decide) (by decide)) (c3 0 (by decide) (by decide) (by decide) (by decide) (by decide)) (c3 1 (by decide) (by decide) (by decide) (by decide) (by decide)), ⟨⟨k + 1, by omega, ?_⟩, ?_⟩, ?_, ?_⟩
    · rw [a4, ek]; exact nI_add k 1
    · obtain ⟨_, n, p1, p2, p3⟩ := b5
      refine ⟨n, p1, (c2 0 (by decide) (by decide)).trans p2, ?_⟩
      rw [c3 0 (by decide) (by decide) (by decide) (by decide) (by decide)]
      exact p3
    · show mA m' 15 = _
      rw [c3 15 (by decide) (by decide) (by decide) (by decide) (by decide)]
      exact b6
    · unfold RKR
      rw [c1]
      exact b7
