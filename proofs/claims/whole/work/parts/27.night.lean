/-! ===== a night ===== -/
theorem sB_id (x : GX) (z j i : Nat) (v : Int32) (h : xB x z j i = v) : sB x z j i v = x := by
  obtain ⟨a1, a2, a3, a4, a5, a6, a7, a8, a9, a10, a11⟩ := x
  unfold sB
  show (_, _, _, _, _, _, _, _, _, _, _) = (_, _, _, _, _, _, _, _, _, _, _)
  congr 1; congr 1; congr 1; congr 1
  funext y k l
  have h' : a4 z j i = v := h
  show up a4 z (up (a4 z) j (upd (a4 z j) i v)) y k l = a4 y k l
  by_cases q1 : y = z
  · subst q1
    rw [up_s]
    by_cases q2 : k = j
    · subst q2
      rw [up_s]
      by_cases q3 : l = i
      · subst q3; rw [upd_s, h']
      · rw [upd_n _ _ q3]
    · rw [up_n _ _ q2]
  · rw [up_n _ _ q1]
theorem tA_id (m : GM) (a i : Nat) (v : Int32) (h : mA m a i = v) : tA m a i v = m := by
  obtain ⟨a1, a2, a3⟩ := m
  unfold tA
  show (_, _, _) = (_, _, _)
  congr 1; congr 1
  funext y k
  have h' : a3 a i = v := h
  show up a3 a (upd (a3 a) i v) y k = a3 y k
  by_cases q1 : y = a
  · subst q1
    rw [up_s]
    by_cases q3 : k = i
    · subst q3; rw [upd_s, h']
    · rw [upd_n _ _ q3]
  · rw [up_n _ _ q1]
theorem bt_low : ∀ n, n ≤ 6 → ∀ i, i < 32 → bt (slI 1 (nI n) - 1) i = decide (i < n) := by decide +kernel
/-- which are afloat, as the class says it -/
theorem afloat_X {z n : Nat} {x : GX} (h : xS x z 1 = nI n) (hn6 : n ≤ 6) : ∃ A : Int32, f_X2_afloat z x = some (A, x) ∧ ∀ i, i < 32 → bt A i = (decide (i < n) && !bt (xS x z 0) i) := by
  refine ⟨_, rfl, fun i hi => ?_⟩
  rw [h, b_and, bt_low n hn6 i hi, b_xor, b_m1 i hi, Bool.xor_true]
theorem afl_bit : ∀ s, s < 6 → ∀ i, i < 32 → bt (slI (1 - 0) (nI s)) i = decide (i = s) ∧ bt (slI (1 - 1) (nI s)) i = false := by decide +kernel
theorem afloat_loop {z n : Nat} {x : GX} {m : GM} (h : SR z x m) (hn : mI m 0 = nI n) (hn6 : n ≤ 6) :
    ∀ (k s F : Nat) (a : Int32), s + k = n → k < F → ∃ A : Int32, k_X5_afloat_4 F a (nI s) m = some (A, m) ∧ ∀ i, i < 32 → bt A i = (bt a i || (decide (s ≤ i) && decide (i < n) && !bt (xS x z 0) i)) := by
  intro k
  induction k with
  | zero =>
    intro s F a hs hF
    obtain ⟨F, rfl⟩ : ∃ k, F = k + 1 := ⟨F - 1, by omega⟩
    refine ⟨a, ?_, fun i hi => ?_⟩
    · show b_X5_afloat_4 (k_X5_afloat_4 F) a (nI s) m = _
      unfold b_X5_afloat_4
      rw [hn, if_pos (nI_le (by omega) (by omega))]
    · have : (decide (s ≤ i) && decide (i < n)) = false := by
        by_cases q : s ≤ i
        · have : ¬ i < n := by omega
          simp [this]
        · simp [q]
      rw [this]; simp
  | succ k ih =>
    intro s F a hs hF
    obtain ⟨F, rfl⟩ : ∃ k, F = k + 1 := ⟨F - 1, by omega⟩
    obtain ⟨_, _, _, _, _, k6⟩ := SR_ship h hn hn6 (s := s) (by omega)
    obtain ⟨A, e, hb⟩ := ih (s + 1) F (a ||| slI (1 - mA m 4 s) (nI s)) (by omega) (by omega)
    refine ⟨A, ?_, fun i hi => ?_⟩
    · show b_X5_afloat_4 (k_X5_afloat_4 F) a (nI s) m = _
      unfold b_X5_afloat_4
      rw [hn, if_neg (nI_ge (by omega) (by omega)), grd_ok _ (by omega) (by decide), bnd_some, nI_clamp (by omega)]
      rw [show nI s + (1 : Int32) = nI (s + 1) from nI_add s 1]
      exact e
    · rw [hb i hi, b_or, k6]
      obtain ⟨p1, p2⟩ := afl_bit s (by omega) i hi
      by_cases q : bt (xS x z 0) s = true
      · rw [if_pos q, p2]
        by_cases qi : i = s
        · subst qi; simp [q]
        · by_cases ql : s ≤ i
          · have : s + 1 ≤ i := by omega
            simp [ql, this]
          · have : ¬ s + 1 ≤ i := by omega
            simp [ql, this]
      · rw [if_neg q, p1]
        by_cases qi : i = s
        · subst qi
          have : i < n := by omega
          simp [q, this]
        · by_cases ql : s ≤ i
          · have : s + 1 ≤ i := by omega
            simp [ql, this, qi]
          · have : ¬ s + 1 ≤ i := by omega
            simp [ql, this, qi]
/-- which are afloat: both alike -/
theorem afloat_pair {z n : Nat} {x : GX} {m : GM} (h : SR z x m) (hn : mI m 0 = nI n) (hn6 : n ≤ 6) : ∃ A : Int32, f_X2_afloat z x = some (A, x) ∧ f_X5_afloat m = some (A, m) ∧ ∀ i, i < 32 → bt A i = (decide (i < n) && !bt (xS x z 0) i) := by
  have h0 : xS x z 1 = nI n := by obtain ⟨h1, _⟩ := id h; exact h1.trans hn
  obtain ⟨A, e1, b1⟩ := afloat_X h0 hn6
  obtain ⟨B, e2, b2⟩ := afloat_loop h hn hn6 n 0 FU 0 (by omega) (by show _ < 1000; omega)
  have : B = A := by
    apply b_ext
    intro i hi
    rw [b1 i hi, b2 i hi, b_0]
    simp
  subst this
  exact ⟨B, e1, e2, b1⟩
theorem ships_loop {z n : Nat} (hn6 : n ≤ 6) (a : Int32) :
    ∀ (k s F1 F2 : Nat) (x : GX) (m : GM), s + k = n → k < F1 → k < F2 → SR z x m → mI m 0 = nI n →
      ∃ x' m', k_X2_passNight_2 z F1 (nI s) x = k_X2_passNight_69 z FU (0 : Int32) x' ∧ k_X5_nightOf_7 F2 a (nI s) m = k_X5_nightOf_37 FU a (0 : Int32) m' ∧ SR z x' m' ∧ FX z x x' ∧ FM m m' ∧ (∀ i, i < 32 → bt (xS x z 0) i = true → bt (xS x' z 0) i = true) ∧ (∀ i, i < 32 → n ≤ i → bt (xS x' z 0) i = bt (xS x z 0) i) ∧ mI m' 1 = mI m 1 := by
  intro k
  induction k with
  | zero =>
    intro s F1 F2 x m hs h1 h2 h hn
    obtain ⟨F1, rfl⟩ : ∃ k, F1 = k + 1 := ⟨F1 - 1, by omega⟩
    obtain ⟨F2, rfl⟩ : ∃ k, F2 = k + 1 := ⟨F2 - 1, by omega⟩
    have h0 : xS x z 1 = nI n := by obtain ⟨h1, _⟩ := id h; exact h1.trans hn
    refine ⟨x, m, ?_, ?_, h, FX_refl z x, FM_refl m, fun _ _ q => q, fun _ _ _ => rfl, rfl⟩
    · show b_X2_passNight_2 z (k_X2_passNight_2 z F1) (nI s) x = _
      unfold b_X2_passNight_2
      rw [h0, if_pos (nI_le (by omega) (by omega))]
    · show b_X5_nightOf_7 (k_X5_nightOf_7 F2) a (nI s) m = _
      unfold b_X5_nightOf_7
      rw [hn, if_pos (nI_le (by omega) (by omega))]
  | succ k ih =>
    intro s F1 F2 x m hs h1 h2 h hn
    obtain ⟨F1, rfl⟩ : ∃ k, F1 = k + 1 := ⟨F1 - 1, by omega⟩
    obtain ⟨F2, rfl⟩ : ∃ k, F2 = k + 1 := ⟨F2 - 1, by omega⟩
    have h0 : xS x z 1 = nI n := by obtain ⟨h1, _⟩ := id h; exact h1.trans hn
    obtain ⟨_, _, _, _, _, k6⟩ := SR_ship h hn hn6 (s := s) (by omega)
    have hM : k_X5_nightOf_7 (F2 + 1) a (nI s) m = if mA m 4 s ≠ 0 then k_X5_nightOf_7 F2 a (nI (s + 1)) m else bnd (f_X5_sails (nI s) m) fun q8 => k_X5_nightOf_7 F2 a (nI (s + 1)) q8.2 := by
      show b_X5_nightOf_7 (k_X5_nightOf_7 F2) a (nI s) m = _
      unfold b_X5_nightOf_7
      rw [hn, if_neg (nI_ge (by omega) (by omega)), grd_ok _ (by omega) (by decide), nI_clamp (by omega), lt1, nIs]
    by_cases q : bt (xS x z 0) s = true
    · obtain ⟨x', m', e1, e2, a1, a2, a3, a4, a5, a6⟩ := ih (s + 1) F1 F2 x m (by omega) (by omega) (by omega) h hn
      refine ⟨x', m', ?_, ?_, a1, a2, a3, a4, a5, a6⟩
      · show b_X2_passNight_2 z (k_X2_passNight_2 z F1) (nI s) x = _
        unfold b_X2_passNight_2
        rw [h0, if_neg (nI_ge (by omega) (by omega)), if_neg (show ¬ (6 : Int32) ≤ nI s from nI_ge (b := 6) (by omega) (by decide)), isLost_X z s (by omega), if_pos q, bnd_some, if_pos (show (1 : Int32) ≠ 0 by decide), lt1, nIs]
        exact e1
      · rw [hM, k6, if_pos q, if_pos (by decide)]
        exact e2
    · obtain ⟨x1, m1, g1, g2, g3, g4, g5, g6, g7⟩ := ship_night h hn hn6 (s := s) (by omega) (by simpa using q)
      have hn1 : mI m1 0 = nI n := by rw [g5.2.1 0 (by decide) (by decide)]; exact hn
      obtain ⟨x', m', e1, e2, a1, a2, a3, a4, a5, a6⟩ := ih (s + 1) F1 F2 x1 m1 (by omega) (by omega) (by omega) g3 hn1
      refine ⟨x', m', ?_, ?_, a1, FX_trans g4 a2, FM_trans g5 a3, ?_, ?_, a6.trans g7⟩
      · show b_X2_passNight_2 z (k_X2_passNight_2 z F1) (nI s) x = _
        rw [g2]
        exact e1
      · rw [hM, k6, if_neg q, if_neg (by decide), g1, bnd_some]
        exact e2
      · intro i hi hb
        refine a4 i hi ?_
        rw [g6 i hi (fun r => q (r ▸ hb))]
        exact hb
      · intro i hi hb
        rw [a5 i hi hb]
        exact g6 i hi (by omega)
theorem Int32_of_rng {r : Int32} (h0 : (0 : Int32) ≤ r) (h1 : r ≤ (99 : Int32)) : ∃ j : Nat, j ≤ 99 ∧ r = nI j := by
  rw [Int32.le_iff_toInt_le] at h0 h1
  rw [show (0 : Int32).toInt = 0 from by decide] at h0
  rw [show (99 : Int32).toInt = 99 from by decide] at h1
  refine ⟨r.toInt.toNat, by omega, ?_⟩
  apply Int32.toInt_inj.mp
  rw [nI_toInt (by omega)]
  omega
theorem fade_sub (k j : Nat) (hk : k ≤ 99) (hj : j ≤ 99) : (nI k - nI j : Int32).toInt = (k : Int) - j := by
  rw [Int32.toInt_sub, nI_toInt (by omega), nI_toInt (by omega)]
  exact Int.bmod_eq_of_le (by omega) (by omega)
theorem fade_X (k j : Nat) (hk : k ≤ 99) (hj : j ≤ 99) : mxI (0 : Int32) (nI k - nI j) = nI (k - j) := by
  unfold mxI
  apply Int32.toInt_inj.mp
  have e := fade_sub k j hk hj
  rw [nI_toInt (by omega)]
  by_cases q : (0 : Int32) < nI k - nI j
  · rw [if_pos q, e]
    rw [Int32.lt_iff_toInt_lt, e, show (0 : Int32).toInt = 0 from by decide] at q
    omega
  · rw [if_neg q]
    rw [Int32.lt_iff_toInt_lt, e, show (0 : Int32).toInt = 0 from by decide] at q
    rw [show (0 : Int32).toInt = 0 from by decide]
    omega
theorem fade_M (k j : Nat) (hk : k ≤ 99) (hj : j ≤ 99) : (0 ≤ nI k - nI j → nI k - nI j = nI (k - j)) ∧ (¬ 0 ≤ nI k - nI j → (0 : Int32) = nI (k - j)) := by
  have e := fade_sub k j hk hj
  constructor
  · intro q
    apply Int32.toInt_inj.mp
    rw [Int32.le_iff_toInt_le, e, show (0 : Int32).toInt = 0 from by decide] at q
    rw [nI_toInt (by omega), e]
    omega
  · intro q
    apply Int32.toInt_inj.mp
    rw [Int32.le_iff_toInt_le, e, show (0 : Int32).toInt = 0 from by decide] at q
    rw [nI_toInt (by omega), show (0 : Int32).toInt = 0 from by decide]
    omega
/-- one cell fades -/
theorem fade_pair {z c : Nat} {x : GX} {m : GM} (h : SR z x m) (hc : c < 36) :
    ∃ x' m', (∀ kc : Int32 → GX → Option (Unit × GX), b_X2_passNight_69 z kc (nI c) x = kc (nI (c + 1)) x') ∧ (∀ (kc : Int32 → Int32 → GM → Option (Int32 × GM)) (a : Int32), b_X5_nightOf_37 kc a (nI c) m = kc a (nI (c + 1)) m') ∧ SR z x' m' ∧ FX z x x' ∧ FM m m' ∧ xS x' z 0 = xS x z 0 ∧ mI m' = mI m := by
  obtain ⟨h10, k, hk9, e⟩ : xB x z 0 c = mA m 5 c ∧ ∃ k : Nat, k ≤ 99 ∧ mA m 5 c = nI k := by
    obtain ⟨_, _, _, _, _, _, _, h10, _⟩ := id h
    exact h10 c hc
  obtain ⟨r, u, v, w, e1, e2, r0, r9⟩ := says_asks h (p := 1) (by decide) hc (dr := 0) (sh := -1) (Or.inl ⟨rfl, rfl⟩)
  rw [if_pos (show nI 1 = (1 : Int32) from rfl)] at r0
  obtain ⟨j, hj, rj⟩ := Int32_of_rng r0 r9
  obtain ⟨f1, f2⟩ := fade_M k j hk9 hj
  have hM : ∀ (kc : Int32 → Int32 → GM → Option (Int32 × GM)) (a : Int32), b_X5_nightOf_37 kc a (nI c) m = kc a (nI (c + 1)) (tA (wm m v w) 5 c (nI (k - j))) := by
    intro kc a
    unfold b_X5_nightOf_37
    rw [if_neg (show ¬ (36 : Int32) ≤ nI c from nI_ge (b := 36) hc (by decide)), grd_ok _ hc (by decide)]
    rw [show f_X5_asksOf (1 : Int32) (nI c) (-1 : Int32) m = _ from e2, bnd_some, bnd_some, nI_clamp (by omega), e, rj]
    rw [show nI c + (1 : Int32) = nI (c + 1) from nI_add c 1]
    by_cases q : 0 ≤ nI k - nI j
    · rw [if_pos q, grd_ok _ hc (by decide), bnd_some, f1 q]
    · rw [if_neg q, grd_ok _ hc (by decide), bnd_some, f2 q]
  by_cases hk0 : k = 0
  · subst hk0
    refine ⟨x, tA (wm m v w) 5 c (nI (0 - j)), ?_, hM, ?_, FX_refl z x, FM_trans (FM_wm m v w) (FM_tA _ _ _ _ (by decide)), rfl, rfl⟩
    · intro kc
      unfold b_X2_passNight_69
      rw [if_neg (show ¬ (36 : Int32) ≤ nI c from nI_ge (b := 36) hc (by decide)), grd_ok _ hc (by decide), nI_clamp (by omega), h10, e, if_pos (show nI 0 ≤ 0 by decide)]
      rw [show nI c + (1 : Int32) = nI (c + 1) from nI_add c 1]
    · rw [Nat.zero_sub, tA_id (wm m v w) 5 c (nI 0) (by rw [wm_o5]; exact e)]
      exact SR_m v w h
  · refine ⟨sB (wst x u) z 0 c (nI (k - j)), tA (wm m v w) 5 c (nI (k - j)), ?_, hM, SR_belief (SR_st u v w h) (by omega), FX_trans (FX_wst z x u) (FX_sB _ _ _ _ _ (by decide)), FM_trans (FM_wm m v w) (FM_tA _ _ _ _ (by decide)), rfl, rfl⟩
    intro kc
    unfold b_X2_passNight_69
    rw [if_neg (show ¬ (36 : Int32) ≤ nI c from nI_ge (b := 36) hc (by decide)), grd_ok _ hc (by decide), nI_clamp (by omega), h10, e, if_neg (show ¬ nI k ≤ 0 from nI_ge (b := k) (a := 0) (by omega) (by omega)), grd_ok _ hc (by decide)]
    rw [show f_X2_says z (1 : Int32) (nI c) (0 : Int32) x = _ from e1, bnd_some, grd_ok _ hc (by decide), bnd_some, rj, fade_X k j hk9 hj]
    rw [show nI c + (1 : Int32) = nI (c + 1) from nI_add c 1]
theorem fade_loop {z n : Nat} (hn6 : n ≤ 6) (a : Int32) :
    ∀ (k c F1 F2 : Nat) (x : GX) (m : GM), c + k = 36 → k < F1 → k < F2 → SR z x m → mI m 0 = nI n →
      ∃ x' m' A, k_X2_passNight_69 z F1 (nI c) x = some ((), x') ∧ k_X5_nightOf_37 F2 a (nI c) m = some (a &&& (A ^^^ (-1 : Int32)), m') ∧ SR z x' m' ∧ FX z x x' ∧ FM m m' ∧ xS x' z 0 = xS x z 0 ∧ mI m' 1 = mI m 1 + 1 ∧ (∀ i, i < 32 → bt A i = (decide (i < n) && !bt (xS x' z 0) i)) := by
  intro k
  induction k with
  | zero =>
    intro c F1 F2 x m hc h1 h2 h hn
    obtain ⟨F1, rfl⟩ : ∃ k, F1 = k + 1 := ⟨F1 - 1, by omega⟩
    obtain ⟨F2, rfl⟩ : ∃ k, F2 = k + 1 := ⟨F2 - 1, by omega⟩
    have hN : xS x z 3 = mI m 1 := by obtain ⟨_, _, h3, _⟩ := id h; exact h3
    have : c = 36 := by omega
    subst this
    have H := SR_night (mI m 1 + 1) h
    obtain ⟨A, e1, e2, hb⟩ := afloat_pair H (n := n) (by rw [mI_n _ _ (by decide)]; exact hn) hn6
    refine ⟨_, _, A, ?_, ?_, H, FX_sS _ _ _ _ (by decide), FM_tI _ _ _ (by decide), xS_n _ _ _ (by decide), mI_s _ _ _, hb⟩
    · show b_X2_passNight_69 z (k_X2_passNight_69 z F1) (nI 36) x = _
      unfold b_X2_passNight_69
      rw [if_pos (by decide), bnd_some, hN]
    · show b_X5_nightOf_37 (k_X5_nightOf_37 F2) a (nI 36) m = _
      unfold b_X5_nightOf_37
      rw [if_pos (by decide), bnd_some, e2, bnd_some]
  | succ k ih =>
    intro c F1 F2 x m hc h1 h2 h hn
    obtain ⟨F1, rfl⟩ : ∃ k, F1 = k + 1 := ⟨F1 - 1, by omega⟩
    obtain ⟨F2, rfl⟩ : ∃ k, F2 = k + 1 := ⟨F2 - 1, by omega⟩
    obtain ⟨x1, m1, g1, g2, g3, g4, g5, g6, g7⟩ := fade_pair h (c := c) (by omega)
    obtain ⟨x', m', A, e1, e2, a1, a2, a3, a4, a5, a6⟩ := ih (c + 1) F1 F2 x1 m1 (by omega) (by omega) (by omega) g3 (by rw [g7]; exact hn)
    refine ⟨x', m', A, ?_, ?_, a1, FX_trans g4 a2, FM_trans g5 a3, a4.trans g6, by rw [a5, g7], a6⟩
    · show b_X2_passNight_69 z (k_X2_passNight_69 z F1) (nI c) x = _
      rw [g1]
      exact e1
    · show b_X5_nightOf_37 (k_X5_nightOf_37 F2) a (nI c) m = _
      rw [g2]
      exact e2
/-- a night: both alike -/
theorem night_pair {z n : Nat} {x : GX} {m : GM} (h : SR z x m) (hn : mI m 0 = nI n) (hn6 : n ≤ 6) :
    ∃ x' m', f_X2_passNight z x = some ((), x') ∧ f_X5_nightOf m = some (xS x' z 0 &&& (xS x z 0 ^^^ (-1 : Int32)), m') ∧ SR z x' m' ∧ FX z x x' ∧ FM m m' ∧ mI m' 1 = mI m 1 + 1 ∧ (∀ i, i < 32 → bt (xS x z 0) i = true → bt (xS x' z 0) i = true) ∧ (∀ i, i < 32 → n ≤ i → bt (xS x' z 0) i = bt (xS x z 0) i) := by
  obtain ⟨B, b1, b2, hB⟩ := afloat_pair h hn hn6
  obtain ⟨x1, m1, e1, e2, a1, a2, a3, a4, a5, a6⟩ := ships_loop (z := z) hn6 B n 0 FU FU x m (by omega) (by show _ < 1000; omega) (by show _ < 1000; omega) h hn
  have hn1 : mI m1 0 = nI n := by rw [a3.2.1 0 (by decide) (by decide)]; exact hn
  obtain ⟨x', m', A, c1, c2, d1, d2, d3, d4, d5, d6⟩ := fade_loop (z := z) hn6 B 36 0 FU FU x1 m1 rfl (by decide) (by decide) a1 hn1
  refine ⟨x', m', ?_, ?_, d1, FX_trans a2 d2, FM_trans a3 d3, ?_, by rw [d4]; exact a4, by rw [d4]; exact a5⟩
  · exact e1.trans c1
  · unfold f_X5_nightOf
    rw [b2, bnd_some]
    rw [show k_X5_nightOf_7 FU B (0 : Int32) m = _ from e2.trans c2]
    congr 2
    apply b_ext
    intro i hi
    rw [b_and, b_and, b_xor, b_xor, b_m1 i hi, Bool.xor_true, Bool.xor_true, hB i hi, d6 i hi, d4]
    by_cases q : i < n
    · cases w1 : bt (xS x z 0) i <;> cases w2 : bt (xS x1 z 0) i <;> simp [q]
    · rw [a5 i hi (by omega)]
      cases w1 : bt (xS x z 0) i <;> simp [q]
  · rw [d5, a6]
