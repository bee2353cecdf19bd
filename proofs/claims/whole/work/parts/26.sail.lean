/-! ===== one ship in a night ===== -/
def tch (k : Int32) : Int32 := if k ≠ 1 then (if k ≠ 3 then 99 else 0) else 49
theorem tch_rng (k : Int32) : ∃ j : Nat, j ≤ 99 ∧ tch k = nI j := by
  unfold tch
  split
  · split
    · exact ⟨99, by decide, rfl⟩
    · exact ⟨0, by decide, rfl⟩
  · exact ⟨49, by decide, rfl⟩
theorem teach_X {z s : Nat} (x : GX) (hs : s < 6) : f_X2_teaching z (nI s) x = some (tch (xB x z 1 s), x) := by
  unfold f_X2_teaching tch
  rw [grd_ok _ hs (by decide), grd_ok _ hs (by decide), nI_clamp (by omega)]
  split
  · split <;> rfl
  · rfl
theorem teach_M {s : Nat} (m : GM) (hs : s < 6) : f_X5_teachesOf (nI s) m = some (tch (mA m 0 s), m) := by
  unfold f_X5_teachesOf tch
  rw [grd_ok _ hs (by decide), grd_ok _ hs (by decide), nI_clamp (by omega)]
  split
  · split <;> rfl
  · rfl
theorem mx_nI {a b : Nat} (ha : a < 2 ^ 31) (hb : b < 2 ^ 31) : mxI (nI a) (nI b) = nI (max a b) := by
  unfold mxI
  by_cases q : a < b
  · rw [if_pos (nI_lt q hb), Nat.max_eq_right (by omega)]
  · rw [if_neg (show ¬ nI a < nI b from fun r => q ((lt_nI ha hb).mp r)), Nat.max_eq_left (by omega)]
theorem mn_nI {a b : Nat} (ha : a < 2 ^ 31) (hb : b < 2 ^ 31) : mnI (nI a) (nI b) = nI (min a b) := by
  unfold mnI
  by_cases q : b < a
  · rw [if_pos (nI_lt q ha), Nat.min_eq_right (by omega)]
  · rw [if_neg (show ¬ nI b < nI a from fun r => q ((lt_nI hb ha).mp r)), Nat.min_eq_left (by omega)]
theorem clp_nI {a b c : Nat} (ha : a < 2 ^ 31) (hc : c < 2 ^ 31) (hb : b ≤ a) : clp (nI a) (nI b) (nI c) = nI (min a c) := by
  unfold clp
  rw [if_neg (show ¬ nI a < nI b from fun r => by have := (lt_nI ha (by omega)).mp r; omega)]
  by_cases q : c < a
  · rw [if_pos (nI_lt q ha), Nat.min_eq_right (by omega)]
  · rw [if_neg (show ¬ nI c < nI a from fun r => q ((lt_nI hc ha).mp r)), Nat.min_eq_left (by omega)]
theorem lose_end {z s c : Nat} {x : GX} {m : GM} (h : SR z x m) (hs : s < 6) (hc : c < 36) (hk : xB x z 1 s = mA m 0 s) :
    ∃ x' m', b_X2_lose_45 z (nI s) (nI c) x = some ((), x') ∧ b_X5_sails_69 (nI c) (tch (mA m 0 s)) m = some ((), m') ∧ SR z x' m' ∧ FX z x x' ∧ FM m m' ∧ xS x' z 0 = xS x z 0 ∧ mI m' 1 = mI m 1 := by
  obtain ⟨h10, k, hk9, e⟩ : xB x z 0 c = mA m 5 c ∧ ∃ k : Nat, k ≤ 99 ∧ mA m 5 c = nI k := by
    obtain ⟨_, _, _, _, _, _, _, h10, _⟩ := h
    exact h10 c hc
  obtain ⟨j, hj, ej⟩ := tch_rng (mA m 0 s)
  refine ⟨sB x z 0 c (nI (max k j)), tA m 5 c (nI (max k j)), ?_, ?_, SR_belief h (by omega), FX_sB _ _ _ _ _ (Or.inl rfl), FM_tA _ _ _ _ (by decide), rfl, rfl⟩
  · unfold b_X2_lose_45
    rw [grd_ok _ hc (by decide), teach_X x hs, bnd_some, grd_ok _ hc (by decide), nI_clamp (by omega), hk, ej, h10, e, mx_nI (by omega) (by omega), bnd_some]
  · unfold b_X5_sails_69
    simp (disch := omega) only [grd_ok, nI_clamp, ej, e, le_nI]
    by_cases q : j ≤ k
    · rw [if_pos q, bnd_some, Nat.max_eq_left q]
    · rw [if_neg q, bnd_some, Nat.max_eq_right (by omega)]
theorem lose_pair {z s c : Nat} {x : GX} {m : GM} (h : SR z x m) (hs : s < 6) (hc : c < 36) (hk : xB x z 1 s = mA m 0 s) (hx : xB x z 3 s = nI c) :
    ∃ x' m', f_X2_lose z (nI s) x = some ((), x') ∧ (grd (nI s) 6 (bnd (some (tA m 4 (nI s).toNatClampNeg (1 : Int32))) fun σ6 => grd (nI c) 36 (if (50 : Int32) ≤ (mA σ6 5 (nI c).toNatClampNeg) then (b_X5_sails_69 (nI c) (tch (mA m 0 s)) σ6) else (bnd (f_X5_within ((mI σ6 2) + (1 : Int32)) (0 : Int32) (99 : Int32) σ6) fun q9 => bnd (some (tI q9.2 2 q9.1)) fun σ10 => b_X5_sails_69 (nI c) (tch (mA m 0 s)) σ10)))) = some ((), m') ∧ SR z x' m' ∧ FX z x x' ∧ FM m m' ∧ xS x' z 0 = xS x z 0 ||| slI 1 (nI s) ∧ mI m' 1 = mI m 1 := by
  have H := SR_lost h hs
  obtain ⟨x1, hx1⟩ : ∃ x1, x1 = sS x z 0 (xS x z 0 ||| slI 1 (nI s)) := ⟨_, rfl⟩
  obtain ⟨m1, hm1⟩ : ∃ m1, m1 = tA m 4 s (1 : Int32) := ⟨_, rfl⟩
  have F1 : FX z x x1 := by rw [hx1]; exact FX_sS _ _ _ _ (by decide)
  have F2 : FM m m1 := by rw [hm1]; exact FM_tA _ _ _ _ (by decide)
  have K1 : xB x1 z 1 s = mA m1 0 s := by rw [hx1, hm1, mA_n _ _ _ (by decide)]; exact hk
  have K2 : mA m 0 s = mA m1 0 s := by rw [hm1, mA_n _ _ _ (by decide)]
  have K3 : xS x1 z 0 = xS x z 0 ||| slI 1 (nI s) := by rw [hx1, xS_s]
  rw [← hx1, ← hm1] at H
  obtain ⟨h10, k, hk9, e⟩ : xB x1 z 0 c = mA m1 5 c ∧ ∃ k : Nat, k ≤ 99 ∧ mA m1 5 c = nI k := by
    obtain ⟨_, _, _, _, _, _, _, h10, _⟩ := id H
    exact h10 c hc
  unfold f_X2_lose
  rw [grd_ok _ hs (by decide), nI_clamp (by omega), hx, bnd_some, bnd_some, ← hx1, grd_ok _ hc (by decide), nI_clamp (by omega), grd_ok _ hs (by decide), bnd_some, ← hm1, bnd_some, grd_ok _ hc (by decide), h10, e, K2]
  by_cases q : (50 : Int32) ≤ nI k
  · rw [if_pos q, if_pos q]
    obtain ⟨x', m', a1, a2, a3, a4, a5, a6, a7⟩ := lose_end H hs hc K1
    exact ⟨x', m', a1, a2, a3, FX_trans F1 a4, FM_trans F2 a5, a6.trans K3, by rw [a7, hm1]; rfl⟩
  · rw [if_neg q, if_neg q]
    obtain ⟨d, hd, ed⟩ : ∃ d : Nat, d ≤ 99 ∧ mI m1 2 = nI d := by
      obtain ⟨_, _, _, _, _, h6, _⟩ := id H
      exact h6
    have ed' : xS x1 z 2 = nI d := by
      obtain ⟨_, h2, _⟩ := id H
      exact h2.trans ed
    have H2 := SR_doubt (d := min 99 (d + 1)) H (by omega)
    rw [within5_eq, ed, ed', lt1, nIs, show (99 : Int32) = nI 99 from rfl, show (0 : Int32) = nI 0 from rfl, mn_nI (by omega) (by omega), clp_nI (by omega) (by omega) (by omega), bnd_some, bnd_some, Nat.min_comm (d + 1) 99]
    obtain ⟨x', m', a1, a2, a3, a4, a5, a6, a7⟩ := lose_end H2 hs hc (by exact K1)
    refine ⟨x', m', a1, a2, a3, FX_trans F1 (FX_trans (FX_sS _ _ _ _ (by decide)) a4), FM_trans F2 (FM_trans (FM_tI _ _ _ (by decide)) a5), ?_, by rw [a7, mI_n _ _ (by decide), hm1]; rfl⟩
    exact (a6.trans (xS_n _ _ _ (by decide))).trans K3
/-- one ship's night -/
theorem ship_night {z n s : Nat} {x : GX} {m : GM} (h : SR z x m) (hn : mI m 0 = nI n) (hn6 : n ≤ 6) (hs : s < n) (hl : bt (xS x z 0) s = false) :
    ∃ x' m', f_X5_sails (nI s) m = some ((), m') ∧ (∀ kc : Int32 → GX → Option (Unit × GX), b_X2_passNight_2 z kc (nI s) x = kc (nI (s + 1)) x') ∧ SR z x' m' ∧ FX z x x' ∧ FM m m' ∧ (∀ i, i < 32 → i ≠ s → bt (xS x' z 0) i = bt (xS x z 0) i) ∧ mI m' 1 = mI m 1 := by
  have hs6 : s < 6 := by omega
  have h0 : xS x z 1 = nI n := by obtain ⟨h1, _⟩ := id h; exact h1.trans hn
  obtain ⟨c, u, v, w, hc, e1, e2⟩ := goal_pair h hn hn6 hs
  have H1 := SR_cell (s := s) (SR_st u v w h) hc
  obtain ⟨x1, hx1⟩ : ∃ x1, x1 = sB (wst x u) z 3 s (nI c) := ⟨_, rfl⟩
  obtain ⟨m1, hm1⟩ : ∃ m1, m1 = tA (wm m v w) 2 s (nI c) := ⟨_, rfl⟩
  rw [← hx1, ← hm1] at H1
  have F1 : FX z x x1 := by rw [hx1]; exact FX_trans (FX_wst z x u) (FX_sB _ _ _ _ _ (by decide))
  have F2 : FM m m1 := by rw [hm1]; exact FM_trans (FM_wm m v w) (FM_tA _ _ _ _ (by decide))
  have L1 : xS x1 z 0 = xS x z 0 := by rw [hx1]; rfl
  have C1 : xB x1 z 3 s = nI c := by rw [hx1, xB_s, upd_s]
  have M1 : mI m1 1 = mI m 1 := by rw [hm1]; rfl
  have N1 : mI m1 0 = nI n := by rw [hm1]; exact hn
  have R1 : xR x1 z = mL m1 0 := by obtain ⟨_, _, _, _, h5, _⟩ := id H1; exact h5
  have B1 : xB x1 z 1 s = mA m1 0 s := (SR_ship H1 N1 hn6 hs).1
  have hX : ∀ kc : Int32 → GX → Option (Unit × GX), b_X2_passNight_2 z kc (nI s) x = if bL (mL m1 0) c = true then bnd (f_X2_sinking z (nI s) x1) fun q8 => if q8.1 = 0 then kc (nI (s + 1)) q8.2 else bnd (f_X2_lose z (nI s) q8.2) fun q9 => kc (nI (s + 1)) q9.2 else kc (nI (s + 1)) x1 := by
    intro kc
    unfold b_X2_passNight_2
    rw [h0, if_neg (nI_ge hs (by omega)), if_neg (show ¬ (6 : Int32) ≤ nI s from nI_ge (b := 6) hs6 (by decide)), isLost_X z s (by omega), hl, bnd_some, if_neg (show ¬ ((if false = true then (1 : Int32) else 0) ≠ 0) by decide), e1, bnd_some, grd_ok _ hs6 (by decide), nI_clamp (by omega), bnd_some, ← hx1, grd_ok _ hs6 (by decide), C1, hasRock_X z c (by omega), bnd_some, R1, lt1, nIs]
    by_cases q : bL (mL m1 0) c = true
    · rw [if_pos q, if_pos q, if_neg (show ¬ (nI 1 : Int32) = 0 by decide)]
    · rw [if_neg q, if_neg q, if_pos (show (0 : Int32) = 0 from rfl)]
  have hM : f_X5_sails (nI s) m = if bL (mL m1 0) c = true then bnd (f_X5_doesSink (nI s) m1) fun q4 => if q4.1 = 0 then (some ((), q4.2)) else (bnd (f_X5_teachesOf (nI s) q4.2) fun q5 => grd (nI s) 6 (bnd (some (tA q5.2 4 (nI s).toNatClampNeg (1 : Int32))) fun σ6 => grd (nI c) 36 (if (50 : Int32) ≤ (mA σ6 5 (nI c).toNatClampNeg) then (b_X5_sails_69 (nI c) q5.1 σ6) else (bnd (f_X5_within ((mI σ6 2) + (1 : Int32)) (0 : Int32) (99 : Int32) σ6) fun q9 => bnd (some (tI q9.2 2 q9.1)) fun σ10 => b_X5_sails_69 (nI c) q5.1 σ10)))) else some ((), m1) := by
    unfold f_X5_sails
    rw [e2, bnd_some, grd_ok _ hs6 (by decide), nI_clamp (by omega), bnd_some, ← hm1, hasRock_M c (by omega), bnd_some]
    by_cases q : bL (mL m1 0) c = true
    · rw [if_pos q, if_pos q, if_neg (show ¬ (1 : Int32) = 0 by decide)]
    · rw [if_neg q, if_neg q, if_pos (show (0 : Int32) = 0 from rfl)]
  by_cases q : bL (mL m1 0) c = true
  · obtain ⟨r, hr, g1, g2⟩ := sink_pair H1 N1 hn6 hs
    rcases hr with hr | hr
    · subst hr
      refine ⟨x1, m1, ?_, ?_, H1, F1, F2, fun i _ _ => by rw [L1], M1⟩
      · rw [hM, if_pos q, g2, bnd_some, if_pos rfl]
      · intro kc
        rw [hX kc, if_pos q, g1, bnd_some, if_pos rfl]
    · subst hr
      obtain ⟨x', m', a1, a2, a3, a4, a5, a6, a7⟩ := lose_pair H1 hs6 hc B1 C1
      refine ⟨x', m', ?_, ?_, a3, FX_trans F1 a4, FM_trans F2 a5, ?_, a7.trans M1⟩
      · rw [hM, if_pos q, g2, bnd_some, if_neg (show ¬ (1 : Int32) = 0 by decide), teach_M m1 hs6, bnd_some]
        exact a2
      · intro kc
        rw [hX kc, if_pos q, g1, bnd_some, if_neg (show ¬ (1 : Int32) = 0 by decide), a1, bnd_some]
      · intro i hi hne
        rw [a6, b_or, L1, bt_bit s (by omega) hi]
        simp [hne]
  · refine ⟨x1, m1, ?_, ?_, H1, F1, F2, fun i _ _ => by rw [L1], M1⟩
    · rw [hM, if_neg q]
    · intro kc
      rw [hX kc, if_neg q]
