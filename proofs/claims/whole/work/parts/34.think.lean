/-! ===== in thought: the calls that ask what would be ===== -/
theorem think_keeps {x : GX} {m : GM} (h : RR x m) : ∃ x1 f, f_X4_think x = some ((), x1) ∧ f_X5_keeps m = some ((), mk m f) ∧ KP m f ∧ EX 1 x x1 ∧ SR 1 x1 (mk m f) := by
  obtain ⟨x1, e1, a1, a2⟩ := think_pair h.1
  obtain ⟨f, e2, hk⟩ := keeps_spec m
  exact ⟨x1, f, e1, e2, hk, a1, SR_mk f a2⟩
theorem thought_goes {x1 : GX} {m0 m : GM} {f : Nat → Int32} {n N : Nat} (hs : SR 1 x1 m0) (hf : FM (mk m f) m0) (hk : KP m f) (hn : mI m 0 = nI n) (hn6 : n ≤ 6) (hN : N ≤ 40) :
    ∃ x2 m2 m3 b j, f_X2_lossesIn 1 (nI N) x1 = some (nI j, x2) ∧ f_X5_goes (nI N) m0 = some (b, m2) ∧ (∀ m, f_X5_ones b m = some (nI j, m)) ∧ f_X5_lays m2 = some ((), m3) ∧ EX 1 x1 x2 ∧ EM m m3 ∧ j ≤ 6 ∧ (j = 0 ↔ b = 0) ∧ SR 1 x2 m2 ∧ FM (mk m f) m2 := by
  have hn0 : mI m0 0 = nI n := by rw [hf.2.1 0 (by decide) (by decide)]; exact hn
  obtain ⟨x2, m2, b, r, e1, e2, a1, a2, a3, a4, j, hj, rj, hb⟩ := goes_pair hs hn0 hn6 hN
  subst rj
  have hf2 := FM_trans hf a3
  obtain ⟨m3, e3, c⟩ := lays_FM hk hf2
  exact ⟨x2, m2, m3, b, j, e1, e2, a4, e3, FX_EX a2, c, hj, hb, a1, hf2⟩
theorem belief_of {z : Nat} {x : GX} {m : GM} (h : SR z x m) {c : Nat} (hc : c < 36) : ∃ k : Nat, k ≤ 99 ∧ mA m 5 c = nI k ∧ xB x z 0 c = nI k := by
  obtain ⟨_, _, _, _, _, _, _, h10, _⟩ := h
  obtain ⟨e, k, hk, e2⟩ := h10 c hc
  exact ⟨k, hk, e2, e.trans e2⟩
theorem sum_loop {z : Nat} {x : GX} {m : GM} (h : SR z x m) : ∀ (k c F1 F2 A : Nat), c + k = 36 → k < F1 → k < F2 → A ≤ 99 * c → ∃ S : Nat, S ≤ 3564 ∧ k_X2_allBelief_4 z F1 (nI A) (nI c) x = some (nI S, x) ∧ k_X5_beliefAll_4 F2 (nI A) (nI c) m = some (nI S, m) := by
  intro k
  induction k with
  | zero =>
    intro c F1 F2 A hc h1 h2 hA
    obtain ⟨F1, rfl⟩ : ∃ k, F1 = k + 1 := ⟨F1 - 1, by omega⟩
    obtain ⟨F2, rfl⟩ : ∃ k, F2 = k + 1 := ⟨F2 - 1, by omega⟩
    have : c = 36 := by omega
    subst this
    refine ⟨A, by omega, ?_, ?_⟩
    · show b_X2_allBelief_4 z (k_X2_allBelief_4 z F1) (nI A) (nI 36) x = _
      unfold b_X2_allBelief_4
      rw [if_pos (by decide)]
    · show b_X5_beliefAll_4 (k_X5_beliefAll_4 F2) (nI A) (nI 36) m = _
      unfold b_X5_beliefAll_4
      rw [if_pos (by decide)]
  | succ k ih =>
    intro c F1 F2 A hc h1 h2 hA
    obtain ⟨F1, rfl⟩ : ∃ k, F1 = k + 1 := ⟨F1 - 1, by omega⟩
    obtain ⟨F2, rfl⟩ : ∃ k, F2 = k + 1 := ⟨F2 - 1, by omega⟩
    have hc36 : c < 36 := by omega
    obtain ⟨b, hb, eb1, eb2⟩ := belief_of h hc36
    obtain ⟨S, hS, e1, e2⟩ := ih (c + 1) F1 F2 (A + b) (by omega) (by omega) (by omega) (by omega)
    refine ⟨S, hS, ?_, ?_⟩
    · show b_X2_allBelief_4 z (k_X2_allBelief_4 z F1) (nI A) (nI c) x = _
      unfold b_X2_allBelief_4
      rw [if_neg (show ¬ (36 : Int32) ≤ nI c from nI_ge (b := 36) hc36 (by decide)), grd_ok _ hc36 (by decide), nI_clamp (by omega), eb2, bnd_some, nIs, lt1, nIs]
      exact e1
    · show b_X5_beliefAll_4 (k_X5_beliefAll_4 F2) (nI A) (nI c) m = _
      unfold b_X5_beliefAll_4
      rw [if_neg (show ¬ (36 : Int32) ≤ nI c from nI_ge (b := 36) hc36 (by decide)), grd_ok _ hc36 (by decide), nI_clamp (by omega), eb1, bnd_some, nIs, lt1, nIs]
      exact e2
theorem sum_pair {z : Nat} {x : GX} {m : GM} (h : SR z x m) : ∃ S : Nat, S ≤ 3564 ∧ f_X2_allBelief z x = some (nI S, x) ∧ f_X5_beliefAll m = some (nI S, m) := sum_loop h 36 0 FU FU 0 rfl (by decide) (by decide) (by decide)
/-! ===== run ===== -/
theorem sub_lit (a s : Nat) (hs : a + s < 2 ^ 31) : nI (a + s) - nI a = nI s := by
  rw [sub_nI (a := a + s) (b := a) (by omega), Nat.add_sub_cancel_left]
theorem sub10 (s : Nat) (hs : s < 100) : nI (10 + s) - (10 : Int32) = nI s := sub_lit 10 s (by omega)
theorem sub20 (s : Nat) (hs : s < 100) : nI (20 + s) - (20 : Int32) = nI s := sub_lit 20 s (by omega)
theorem ne_lit (a b : Nat) (ha : a < 2 ^ 31) (hb : b < 2 ^ 31) (h : a ≠ b) : ¬ nI a = nI b := fun q => h ((eq_nI ha hb).mp q)
theorem wi_shift (a : Int32) (n : Nat) (hn : n ≤ 6) : (if a < 10 then (0 : Int32) else wi (a - 10) 0 (nI n - 1)) = wi a 10 (9 + nI n) := by
  have hs : (9 + nI n : Int32) = nI (9 + n) := nIs 9 n
  have h9 : (nI (9 + n)).toInt = 9 + n := nI_toInt (by omega)
  have ht : (10 : Int32).toInt = 10 := by decide
  have hz : (0 : Int32).toInt = 0 := by decide
  by_cases h : a < 10
  · rw [if_pos h]
    unfold wi
    rw [if_pos h]
  · rw [if_neg h]
    unfold wi
    rw [if_neg h, hs]
    have hn1 : (nI n - 1 : Int32).toInt = (n : Int) - 1 := fade_sub n 1 (by omega) (by omega)
    have hlt := Int32.toInt_lt a
    rw [Int32.lt_iff_toInt_lt, ht] at h
    have ha : (a - 10 : Int32).toInt = a.toInt - 10 := by
      rw [Int32.toInt_sub, ht]
      exact Int.bmod_eq_of_le (by omega) (by omega)
    have h0 : ¬ (a - 10 : Int32) < 0 := by rw [Int32.lt_iff_toInt_lt, ha, hz]; omega
    rw [if_neg h0]
    by_cases q : nI (9 + n) < a
    · rw [if_pos q, if_pos]
      rw [Int32.lt_iff_toInt_lt, h9] at q
      rw [Int32.lt_iff_toInt_lt, hn1, ha]; omega
    · rw [if_neg q, if_neg]
      rw [Int32.lt_iff_toInt_lt, h9] at q
      rw [Int32.lt_iff_toInt_lt, hn1, ha]; omega
theorem wi_lo (a : Int32) (lo hi : Nat) (hh : hi < 2 ^ 31) (hl : lo < 2 ^ 31) : wi a (nI lo) (nI hi) = 0 ∨ (wi a (nI lo) (nI hi) = 1 ∧ ∃ c : Nat, lo ≤ c ∧ c ≤ hi ∧ a = nI c) := by
  unfold wi
  by_cases h1 : a < nI lo
  · rw [if_pos h1]; exact Or.inl rfl
  · rw [if_neg h1]
    by_cases h2 : nI hi < a
    · rw [if_pos h2]; exact Or.inl rfl
    · rw [if_neg h2]
      rw [Int32.lt_iff_toInt_lt, nI_toInt (by omega)] at h1
      obtain ⟨c, hc, e⟩ := nat_of a hh (by rw [Int32.lt_iff_toInt_lt, show (0 : Int32).toInt = 0 by decide]; omega) h2
      subst e
      rw [nI_toInt (by omega)] at h1
      exact Or.inr ⟨rfl, c, by omega, hc, rfl⟩
theorem run_end {x : GX} {m : GM} {n N : Nat} (h : RR x m) (hm : mI m 0 = nI n) (hn6 : n ≤ 6) (hN : N ≤ 40) (a o : Int32) (ha : (o = 0 ∧ ∃ p : Nat, p ≤ 2 ∧ a = nI p) ∨ (o ≠ 0 ∧ ∃ s : Nat, s < n ∧ a = nI (10 + s)) ∨ (o = 0 ∧ ∃ c : Nat, c < 36 ∧ a = nI (20 + c))) :
    PP (b_X4_run_60 (nI N) a o x) (bnd (f_X5_keeps m) fun q3 => bnd (f_X5_goes (nI N) q3.2) fun q4 => bnd (f_X5_toldBehind a q4.2) fun q5 => bnd (f_X5_lays q5.2) fun q6 => some (q5.1, q6.2)) := by
  obtain ⟨x1, f, e1, e2, hk, a1, a2⟩ := think_keeps h
  obtain ⟨x2, m2, m3, b, j, g1, g2, g3, g4, g5, g6, g7, g8, g9, g10⟩ := thought_goes a2 (FM_refl _) hk hm hn6 hN
  have hR : RR x2 m3 := RR_st h (EX_trans a1 g5) g6
  have hn2 : mI m2 0 = nI n := by rw [g10.2.1 0 (by decide) (by decide)]; exact hm
  unfold b_X4_run_60
  rw [e1, bnd_some, g1, bnd_some, e2, bnd_some, g2, bnd_some]
  unfold f_X5_toldBehind
  rcases ha with ⟨ho, p, hp, rfl⟩ | ⟨ho, s, hs, rfl⟩ | ⟨ho, c, hc, rfl⟩
  · rw [if_pos ho, if_neg (show ¬ (3 : Int32) ≤ nI p from nI_ge (b := 3) (by omega) (by decide))]
    match p, hp with
    | 0, _ =>
      rw [if_pos (by decide), if_neg (show ¬ (nI 0 : Int32) ≠ 0 from fun q => q rfl)]
      obtain ⟨A, c1, c2, _⟩ := afloat_pair g9 hn2 hn6
      rw [c1, c2, bnd_some, bnd_some, bnd_some, g4, bnd_some]
      exact PP_same hR
    | 1, _ =>
      rw [if_neg (by decide), if_pos (by decide), if_pos (by decide), if_neg (show ¬ (nI 1 : Int32) ≠ 1 from fun q => q rfl)]
      obtain ⟨S, _, c1, c2⟩ := sum_pair g9
      rw [c1, c2, bnd_some, bnd_some, bnd_some, g4, bnd_some]
      exact PP_same hR
    | 2, _ =>
      rw [if_neg (by decide), if_neg (by decide), if_pos (by decide), if_pos (by decide), if_pos (by decide), bnd_some, g4, bnd_some]
      obtain ⟨_, h2, _⟩ := id g9
      rw [h2]
      exact PP_same hR
  · obtain ⟨_, _, k3, _⟩ := SR_ship g9 hn2 hn6 hs
    have hs6 : s < 6 := by omega
    rw [if_neg ho, if_pos (show (3 : Int32) ≤ nI (10 + s) from nI_le (a := 3) (by omega) (by omega)), if_neg (show ¬ (20 : Int32) ≤ nI (10 + s) from nI_ge (b := 20) (by omega) (by decide)), sub10 s (by omega), grd_ok _ hs6 (by decide), grd_ok _ hs6 (by decide), nI_clamp (by omega), bnd_some, g4, bnd_some, k3]
    exact PP_same hR
  · obtain ⟨_, _, k1, k2⟩ := belief_of g9 hc
    rw [if_pos ho, if_neg (show ¬ nI (20 + c) = (0 : Int32) from ne_lit (20 + c) 0 (by omega) (by decide) (by omega)), if_neg (show ¬ nI (20 + c) = (1 : Int32) from ne_lit (20 + c) 1 (by omega) (by decide) (by omega)), if_neg (show ¬ nI (20 + c) = (2 : Int32) from ne_lit (20 + c) 2 (by omega) (by decide) (by omega)), if_pos (show (3 : Int32) ≤ nI (20 + c) from nI_le (a := 3) (by omega) (by omega)), if_pos (show (20 : Int32) ≤ nI (20 + c) from nI_le (a := 20) (by omega) (by omega)), sub20 c (by omega), grd_ok _ hc (by decide), grd_ok _ hc (by decide), nI_clamp (by omega), bnd_some, g4, bnd_some, k1, k2]
    exact PP_same hR
theorem eq_run (a b : Int32) : EQ (f_X4_run a b) (f_X5_run a b) := by
  intro x m h
  obtain ⟨n, hn6, hm, hx⟩ := RR_n h
  have hX : f_X4_run a b x = b_X4_run_22 a b (wi b 10 (9 + nI n)) x := by
    unfold f_X4_run
    rw [← wi_shift b n hn6]
    by_cases q : b < 10
    · rw [if_pos q, if_pos q]
    · rw [if_neg q, if_neg q, isShip_X, bnd_some, hx]
      rcases wi_01 (b - 10) 0 (nI n - 1) with e | e
      · rw [e, if_pos rfl]
      · rw [e, if_neg (show ¬ (1 : Int32) = 0 by decide)]
  rw [hX]
  simp only [f_X5_run, in_M, bnd_some, hm, b_X4_run_22, b_X5_run_41, within_X]
  rcases wi_nat a 40 (by decide) with e | ⟨e, N, hN, rfl⟩
  · rw [show wi a 0 40 = 0 from e]
    simp only [ifs, if_true, if_false]
    have e0 : ∀ (c : Prop) [Decidable c], (if c then (some ((-2 : Int32), m)) else (some ((-2 : Int32), m))) = some ((-2 : Int32), m) := fun c _ => by split <;> rfl
    simp only [e0]
    exact PP_same h
  · rw [show wi (nI N) 0 40 = 1 from e]
    simp only [ifs, if_false, if_true]
    rcases wi_nat b 2 (by decide) with q | ⟨q, p, hp, rfl⟩
    · rw [show wi b 0 2 = 0 from q]
      simp only [ifs, if_false, if_true]
      rw [show (9 + nI n : Int32) = nI (9 + n) from nIs 9 n]
      rcases wi_lo b 10 (9 + n) (by omega) (by omega) with q1 | ⟨q1, s, hs1, hs2, rfl⟩
      · rw [show wi b 10 (nI (9 + n)) = 0 from q1]
        simp only [ifs, if_false, if_true]
        rcases wi_lo b 20 55 (by decide) (by decide) with q2 | ⟨q2, c, hc1, hc2, rfl⟩
        · rw [show wi b 20 55 = 0 from q2]
          simp only [ifs, if_false, if_true]
          exact PP_same h
        · rw [show wi (nI c) 20 55 = 1 from q2]
          simp only [ifs, if_false, if_true]
          exact run_end h hm hn6 hN _ _ (Or.inr (Or.inr ⟨rfl, c - 20, by omega, congrArg nI (by omega)⟩))
      · rw [show wi (nI s) 10 (nI (9 + n)) = 1 from q1]
        simp only [ifs, if_false, if_true]
        exact run_end h hm hn6 hN _ _ (Or.inr (Or.inl ⟨by decide, s - 10, by omega, congrArg nI (by omega)⟩))
    · rw [show wi (nI p) 0 2 = 1 from q]
      simp only [ifs, if_true]
      have q2 : wi (nI p) 10 (9 + nI n) = 0 := by
        unfold wi
        rw [if_pos (show nI p < (10 : Int32) from nI_lt (b := 10) (by omega) (by decide))]
      rw [q2]
      exact run_end h hm hn6 hN _ _ (Or.inl ⟨rfl, p, hp, rfl⟩)
/-! ===== lostBy, track ===== -/
theorem thought_night {x1 : GX} {m0 m : GM} {f : Nat → Int32} {n : Nat} (hs : SR 1 x1 m0) (hf : FM (mk m f) m0) (hn : mI m 0 = nI n) (hn6 : n ≤ 6) :
    ∃ x2 m2 b, f_X2_passNight 1 x1 = some ((), x2) ∧ f_X5_nightOf m0 = some (b, m2) ∧ SR 1 x2 m2 ∧ EX 1 x1 x2 ∧ FM (mk m f) m2 ∧ mI m2 0 = nI n ∧ b = xS x2 1 0 &&& (xS x1 1 0 ^^^ (-1 : Int32)) ∧ (∀ i, i < 32 → bt (xS x1 1 0) i = true → bt (xS x2 1 0) i = true) ∧ (∀ i, i < 32 → n ≤ i → bt (xS x2 1 0) i = bt (xS x1 1 0) i) := by
  have hn0 : mI m0 0 = nI n := by rw [hf.2.1 0 (by decide) (by decide)]; exact hn
  obtain ⟨x2, m2, e1, e2, a1, a2, a3, a4, a5, a6⟩ := night_pair hs hn0 hn6
  exact ⟨x2, m2, _, e1, e2, a1, FX_EX a2, FM_trans hf a3, by rw [a3.2.1 0 (by decide) (by decide)]; exact hn0, rfl, a5, a6⟩
theorem lays_back {x x' : GX} {m m' : GM} {f : Nat → Int32} (h : RR x m) (hk : KP m f) (hx : EX 1 x x') (hf : FM (mk m f) m') : ∃ m2, f_X5_lays m' = some ((), m2) ∧ RR x' m2 ∧ EM m m2 := by
  obtain ⟨m2, e, c⟩ := lays_FM hk hf
  exact ⟨m2, e, RR_st h hx c, c⟩
theorem lostBy_loop {x : GX} {m : GM} {f : Nat → Int32} {n s : Nat} (h : RR x m) (hk : KP m f) (hn : mI m 0 = nI n) (hn6 : n ≤ 6) (hs : s < n) (b : Int32) :
    ∀ (k c F1 F2 : Nat) (x1 : GX) (m1 : GM), c + k = 41 → 1 ≤ c → k < F1 → k < F2 → EX 1 x x1 → FM (mk m f) m1 → SR 1 x1 m1 → PP (k_X4_lostBy_43 F1 (nI s) b (nI c) x1) (k_X5_lostBy_48 F2 (nI s) b (-1) (-1) (nI c) m1) := by
  have hs6 : s < 6 := by omega
  intro k
  induction k with
  | zero =>
    intro c F1 F2 x1 m1 hc hc1 h1 h2 hx hf hs1
    obtain ⟨F1, rfl⟩ : ∃ k, F1 = k + 1 := ⟨F1 - 1, by omega⟩
    obtain ⟨F2, rfl⟩ : ∃ k, F2 = k + 1 := ⟨F2 - 1, by omega⟩
    have : c = 41 := by omega
    subst this
    obtain ⟨m2, e, hR, _⟩ := lays_back h hk hx hf
    show PP (b_X4_lostBy_43 (k_X4_lostBy_43 F1) (nI s) b (nI 41) x1) (b_X5_lostBy_48 (k_X5_lostBy_48 F2) (nI s) b (-1) (-1) (nI 41) m1)
    unfold b_X4_lostBy_43 b_X5_lostBy_48 b_X5_lostBy_110
    rw [if_pos (by decide), if_pos (by decide), e, bnd_some]
    have : (if b ≠ 0 then (some ((-1 : Int32), m2)) else (some ((-1 : Int32), m2))) = some ((-1 : Int32), m2) := by split <;> rfl
    rw [this]
    exact PP_same hR
  | succ k ih =>
    intro c F1 F2 x1 m1 hc hc1 h1 h2 hx hf hs1
    obtain ⟨F1, rfl⟩ : ∃ k, F1 = k + 1 := ⟨F1 - 1, by omega⟩
    obtain ⟨F2, rfl⟩ : ∃ k, F2 = k + 1 := ⟨F2 - 1, by omega⟩
    obtain ⟨x2, m2, bb, e1, e2, a1, a2, a3, a4, _⟩ := thought_night hs1 hf hn hn6
    obtain ⟨_, _, k3, _, _, k6⟩ := SR_ship a1 a4 hn6 hs
    have hx2 := EX_trans hx a2
    show PP (b_X4_lostBy_43 (k_X4_lostBy_43 F1) (nI s) b (nI c) x1) (b_X5_lostBy_48 (k_X5_lostBy_48 F2) (nI s) b (-1) (-1) (nI c) m1)
    unfold b_X4_lostBy_43 b_X5_lostBy_48 b_X5_lostBy_81
    have h40 : ¬ (40 : Int32) < nI c := nI_nlt (b := c) (a := 40) (by omega) (by decide)
    rw [if_neg h40, if_neg h40, if_neg (show ¬ (-1 : Int32) ≠ -1 from fun q => q rfl), e1, e2, bnd_some, bnd_some, isLost_X 1 s (by omega), bnd_some]
    simp only [grd_ok _ hs6 (show 6 < 2 ^ 31 by decide), nI_clamp (show s < 2 ^ 31 by omega), k6, bnd_some, k3]
    by_cases q : bt (xS x2 1 0) s = true
    · simp only [if_pos q, ifs, if_false]
      rw [if_neg (show ¬ (1 : Int32) ≠ 1 from fun q => q rfl), if_neg (show ¬ (1 : Int32) ≠ 1 from fun q => q rfl)]
      obtain ⟨F2, rfl⟩ : ∃ k, F2 = k + 1 := ⟨F2 - 1, by omega⟩
      obtain ⟨m3, e, hR, _⟩ := lays_back h hk hx2 a3
      show PP _ (b_X5_lostBy_48 (k_X5_lostBy_48 F2) (nI s) b (nI c) (mA m2 2 s) (nI c + 1) m2)
      unfold b_X5_lostBy_48 b_X5_lostBy_110
      rw [e, bnd_some]
      have : (if (40 : Int32) < nI c + 1 then (if b ≠ 0 then some (mA m2 2 s, m3) else some (nI c, m3)) else if nI c ≠ -1 then (if b ≠ 0 then some (mA m2 2 s, m3) else some (nI c, m3)) else bnd (f_X5_nightOf m2) fun q5 => grd (nI s) 6 (if mA q5.2 4 (nI s).toNatClampNeg ≠ 1 then b_X5_lostBy_81 (k_X5_lostBy_48 F2) (nI s) b (nI c + 1) (-1) q5.2 else b_X5_lostBy_81 (k_X5_lostBy_48 F2) (nI s) b (nI c + 1) (nI c + 1) q5.2)) = (if b ≠ 0 then some (mA m2 2 s, m3) else some (nI c, m3)) := by
        split
        · rfl
        · rw [if_pos (nI_m1 (by omega))]
      rw [this]
      by_cases qb : b ≠ 0
      · rw [if_pos qb, if_pos qb]; exact PP_same hR
      · rw [if_neg qb, if_neg qb]; exact PP_same hR
    · simp only [if_neg q, ifs, if_true]
      rw [if_pos (show (0 : Int32) ≠ 1 by decide), if_pos (show (0 : Int32) ≠ 1 by decide), show nI c + (1 : Int32) = nI (c + 1) from nI_add c 1]
      exact ih (c + 1) F1 F2 x2 m2 (by omega) (by omega) (by omega) (by omega) hx2 a3 a1
theorem eq_lostBy (a b : Int32) : EQ (f_X4_lostBy a b) (f_X5_lostBy a b) := by
  intro x m h
  obtain ⟨n, hn6, hm, hx⟩ := RR_n h
  simp only [f_X4_lostBy, f_X5_lostBy, isShip_X, isShip_M, within_X, in_M, bnd_some, hm, hx]
  rcases wi_ship a n (by omega) with e | ⟨e, s, hs, rfl⟩
  · simp only [e, ifs, if_false]
    exact PP_same h
  · simp only [e, ifs, if_true]
    rcases wi_rng b 0 1 with e | ⟨e, _, _⟩
    · simp only [e, ifs, if_false]
      exact PP_same h
    · simp only [e, ifs, if_true]
      obtain ⟨_, _, _, _, _, k6⟩ := SR_ship h.1 hm hn6 hs
      rw [isLost_X 0 s (by omega), bnd_some, grd_ok _ (by omega) (by decide), nI_clamp (by omega), k6]
      by_cases q : bt (xS x 0 0) s = true
      · simp only [if_pos q, ifs, if_false]
        rw [if_neg (show ¬ (1 : Int32) ≠ 1 from fun q => q rfl)]
        exact PP_same h
      · simp only [if_neg q, ifs, if_true]
        rw [if_pos (show (0 : Int32) ≠ 1 by decide)]
        obtain ⟨x1, f, e1, e2, hk, a1, a2⟩ := think_keeps h
        rw [e1, e2, bnd_some, bnd_some]
        exact lostBy_loop h hk hm hn6 hs b 40 1 FU FU x1 (mk m f) rfl (by decide) (by decide) (by decide) a1 (FM_refl _) a2
theorem track_loop {x : GX} {m : GM} {f : Nat → Int32} {n s N : Nat} (h : RR x m) (hk : KP m f) (hn : mI m 0 = nI n) (hn6 : n ≤ 6) (hs : s < n) (hN : N ≤ 40) :
    ∀ (k c F1 F2 : Nat) (A : Int64) (x1 : GX) (m1 : GM), c + k = N → k < F1 → k < F2 → EX 1 x x1 → FM (mk m f) m1 → SR 1 x1 m1 → PP (k_X4_track_41 F1 (nI s) (nI N) A (nI c) x1) (k_X5_track_38 F2 (nI s) (nI N) A (nI c) m1) := by
  have hs6 : s < 6 := by omega
  intro k
  induction k with
  | zero =>
    intro c F1 F2 A x1 m1 hc h1 h2 hx hf hs1
    obtain ⟨F1, rfl⟩ : ∃ k, F1 = k + 1 := ⟨F1 - 1, by omega⟩
    obtain ⟨F2, rfl⟩ : ∃ k, F2 = k + 1 := ⟨F2 - 1, by omega⟩
    obtain ⟨m2, e, hR, _⟩ := lays_back h hk hx hf
    show PP (b_X4_track_41 (k_X4_track_41 F1) (nI s) (nI N) A (nI c) x1) (b_X5_track_38 (k_X5_track_38 F2) (nI s) (nI N) A (nI c) m1)
    unfold b_X4_track_41 b_X5_track_38
    rw [if_pos (nI_le (by omega) (by omega)), if_pos (nI_le (by omega) (by omega)), e, bnd_some]
    exact PP_same hR
  | succ k ih =>
    intro c F1 F2 A x1 m1 hc h1 h2 hx hf hs1
    obtain ⟨F1, rfl⟩ : ∃ k, F1 = k + 1 := ⟨F1 - 1, by omega⟩
    obtain ⟨F2, rfl⟩ : ∃ k, F2 = k + 1 := ⟨F2 - 1, by omega⟩
    obtain ⟨x2, m2, bb, e1, e2, a1, a2, a3, a4, _⟩ := thought_night hs1 hf hn hn6
    obtain ⟨_, _, k3, _⟩ := SR_ship a1 a4 hn6 hs
    show PP (b_X4_track_41 (k_X4_track_41 F1) (nI s) (nI N) A (nI c) x1) (b_X5_track_38 (k_X5_track_38 F2) (nI s) (nI N) A (nI c) m1)
    unfold b_X4_track_41 b_X5_track_38
    rw [if_neg (nI_ge (by omega) (by omega)), if_neg (nI_ge (by omega) (by omega)), e1, e2]
    simp only [bnd_some, grd_ok _ hs6 (show 6 < 2 ^ 31 by decide), nI_clamp (show s < 2 ^ 31 by omega), k3, show nI c + (1 : Int32) = nI (c + 1) from nI_add c 1]
    exact ih (c + 1) F1 F2 _ x2 m2 (by omega) (by omega) (by omega) (EX_trans hx a2) a3 a1
theorem eq_track (a b : Int32) : EQ (f_X4_track a b) (f_X5_track a b) := by
  intro x m h
  obtain ⟨n, hn6, hm, hx⟩ := RR_n h
  simp only [f_X4_track, f_X5_track, isShip_X, isShip_M, within_X, in_M, bnd_some, hm, hx]
  rcases wi_ship a n (by omega) with e | ⟨e, s, hs, rfl⟩
  · simp only [e, ifs, if_true]
    exact PP_same h
  · simp only [e, ifs, if_false]
    rcases wi_lit b 40 (by decide) with e | ⟨e, N, hN, rfl⟩
    · simp only [e, ifs, if_false]
      exact PP_same h
    · simp only [e, ifs, if_true]
      obtain ⟨x1, f, e1, e2, hk, a1, a2⟩ := think_keeps h
      obtain ⟨_, _, k3, _⟩ := SR_ship a2 (by exact hm) hn6 hs
      rw [mk_o _ _ (by decide)] at k3
      simp only [e1, e2, bnd_some, grd_ok _ (show s < 6 by omega) (show 6 < 2 ^ 31 by decide), nI_clamp (show s < 2 ^ 31 by omega), k3]
      exact track_loop h hk hm hn6 hs hN N 0 FU FU _ x1 (mk m f) (by omega) (by show _ < 1000; omega) (by show _ < 1000; omega) a1 (FM_refl _) a2
