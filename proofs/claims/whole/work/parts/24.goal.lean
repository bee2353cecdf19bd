/-! ===== where a ship goes, whether it sinks, what it teaches ===== -/
def bs2 (x0 x1 : Int32) : Int32 := if x1 = (0 : Int32) then (if (5 : Int32) ≤ (rI x0 (6 : Int32)) then (-1 : Int32) else (x0 + (1 : Int32))) else (if x1 = (1 : Int32) then (if (rI x0 (6 : Int32)) ≤ 0 then (-1 : Int32) else (x0 - (1 : Int32))) else (if x1 = (2 : Int32) then (if (36 : Int32) ≤ (x0 + (6 : Int32)) then (-1 : Int32) else (x0 + (6 : Int32))) else (if x0 < (6 : Int32) then (-1 : Int32) else (x0 - (6 : Int32)))))
def bs5 (x0 x1 : Int32) : Int32 := if x1 = (0 : Int32) then (if (5 : Int32) ≤ (rI x0 (6 : Int32)) then (-1 : Int32) else (x0 + (1 : Int32))) else (if x1 = (1 : Int32) then (if (rI x0 (6 : Int32)) ≤ 0 then (-1 : Int32) else (x0 - (1 : Int32))) else (if x1 = (2 : Int32) then (if (30 : Int32) ≤ x0 then (-1 : Int32) else (x0 + (6 : Int32))) else (if x0 ≤ (5 : Int32) then (-1 : Int32) else (x0 - (6 : Int32)))))
theorem bs2_f (a b : Int32) (x : GX) : f_X2_beside a b x = some (bs2 a b, x) := by
  unfold f_X2_beside bs2
  repeat' split
  all_goals rfl
theorem bs5_f (a b : Int32) (m : GM) : f_X5_besideOf a b m = some (bs5 a b, m) := by
  unfold f_X5_besideOf bs5
  repeat' split
  all_goals rfl
theorem bs_eq : ∀ c, c < 36 → ∀ d, d < 4 → bs5 (nI c) (nI d) = bs2 (nI c) (nI d) ∧ (bs2 (nI c) (nI d) = -1 ∨ (bs2 (nI c) (nI d) ≠ -1 ∧ bs2 (nI c) (nI d) = nI (bs2 (nI c) (nI d)).toNatClampNeg ∧ (bs2 (nI c) (nI d)).toNatClampNeg < 36)) := by decide +kernel
theorem liking_st {z : Nat} {x : GX} {m : GM} {n s cc : Nat} (h : SR z x m) (hn : mI m 0 = nI n) (hn6 : n ≤ 6) (hs : s < n) (hcc : cc < 36) (u : Nat → Nat → Int32) (v w : Nat → Int32) :
    ∃ (r : Int32) (u' : Nat → Nat → Int32) (v' w' : Nat → Int32), f_X2_liking z (nI s) (nI cc) (wst x u) = some (r, wst x u') ∧ f_X5_likesOf (nI s) (nI cc) (wm m v w) = some (r, wm m v' w') := by
  obtain ⟨r, u', v', w', e1, e2⟩ := liking_pair (SR_st u v w h) (n := n) (s := s) (cc := cc) (by rw [wm_I]; exact hn) hn6 hs hcc
  rw [wst_wst] at e1; rw [wm_wm] at e2
  exact ⟨r, u', v', w', e1, e2⟩
theorem goal_loop {z : Nat} {x : GX} {m : GM} {n s c : Nat} (h : SR z x m) (hn : mI m 0 = nI n) (hn6 : n ≤ 6) (hs : s < n) (hc : c < 36) (hx : xB x z 3 s = nI c) (hm : mA m 2 s = nI c) :
    ∀ (k d F1 F2 best : Nat) (r : Int32) (u : Nat → Nat → Int32) (v w : Nat → Int32), d + k = 4 → k < F1 → k < F2 → best < 36 →
      ∃ (c' : Nat) (u' : Nat → Nat → Int32) (v' w' : Nat → Int32), c' < 36 ∧ k_X2_goal_17 z F1 (nI s) (nI best) r (nI d) (wst x u) = some (nI c', wst x u') ∧ k_X5_goesTo_17 F2 (nI s) (nI best) r (nI d) (wm m v w) = some (nI c', wm m v' w') := by
  intro k
  induction k with
  | zero =>
    intro d F1 F2 best r u v w hd h1 h2 hb
    obtain ⟨F1, rfl⟩ : ∃ k, F1 = k + 1 := ⟨F1 - 1, by omega⟩
    obtain ⟨F2, rfl⟩ : ∃ k, F2 = k + 1 := ⟨F2 - 1, by omega⟩
    have : d = 4 := by omega
    subst this
    refine ⟨best, u, v, w, hb, ?_, ?_⟩
    · show b_X2_goal_17 z (k_X2_goal_17 z F1) (nI s) (nI best) r (nI 4) (wst x u) = _
      unfold b_X2_goal_17
      rw [if_pos (by decide)]
    · show b_X5_goesTo_17 (k_X5_goesTo_17 F2) (nI s) (nI best) r (nI 4) (wm m v w) = _
      unfold b_X5_goesTo_17
      rw [if_pos (by decide)]
  | succ k ih =>
    intro d F1 F2 best r u v w hd h1 h2 hb
    obtain ⟨F1, rfl⟩ : ∃ k, F1 = k + 1 := ⟨F1 - 1, by omega⟩
    obtain ⟨F2, rfl⟩ : ∃ k, F2 = k + 1 := ⟨F2 - 1, by omega⟩
    obtain ⟨q1, q2⟩ := bs_eq c hc d (by omega)
    have hX : k_X2_goal_17 z (F1 + 1) (nI s) (nI best) r (nI d) (wst x u) = if bs2 (nI c) (nI d) = (-1 : Int32) then k_X2_goal_17 z F1 (nI s) (nI best) r (nI (d + 1)) (wst x u) else bnd (f_X2_liking z (nI s) (bs2 (nI c) (nI d)) (wst x u)) fun q4 => if q4.1 ≤ r then k_X2_goal_17 z F1 (nI s) (nI best) r (nI (d + 1)) q4.2 else k_X2_goal_17 z F1 (nI s) (bs2 (nI c) (nI d)) q4.1 (nI (d + 1)) q4.2 := by
      show b_X2_goal_17 z (k_X2_goal_17 z F1) (nI s) (nI best) r (nI d) (wst x u) = _
      unfold b_X2_goal_17
      rw [if_neg (show ¬ (4 : Int32) ≤ nI d from nI_ge (b := 4) (by omega) (by decide)), grd_ok _ (by omega) (by decide), nI_clamp (by omega), wst_B, hx, bs2_f, bnd_some, lt1, nIs]
    have hM : k_X5_goesTo_17 (F2 + 1) (nI s) (nI best) r (nI d) (wm m v w) = if bs2 (nI c) (nI d) = (-1 : Int32) then k_X5_goesTo_17 F2 (nI s) (nI best) r (nI (d + 1)) (wm m v w) else bnd (f_X5_likesOf (nI s) (bs2 (nI c) (nI d)) (wm m v w)) fun q4 => if q4.1 ≤ r then k_X5_goesTo_17 F2 (nI s) (nI best) r (nI (d + 1)) q4.2 else k_X5_goesTo_17 F2 (nI s) (bs2 (nI c) (nI d)) q4.1 (nI (d + 1)) q4.2 := by
      show b_X5_goesTo_17 (k_X5_goesTo_17 F2) (nI s) (nI best) r (nI d) (wm m v w) = _
      unfold b_X5_goesTo_17
      rw [if_neg (show ¬ (4 : Int32) ≤ nI d from nI_ge (b := 4) (by omega) (by decide)), grd_ok _ (by omega) (by decide), nI_clamp (by omega), wm_o2, hm, bs5_f, bnd_some, lt1, nIs, q1]
      have e : ∀ q4 : Int32 × GM, (if q4.1 ≤ r then b_X5_goesTo_63 (k_X5_goesTo_17 F2) (nI s) r (nI d) q4.1 (nI best) q4.2 else b_X5_goesTo_63 (k_X5_goesTo_17 F2) (nI s) r (nI d) q4.1 (bs2 (nI c) (nI d)) q4.2) = if q4.1 ≤ r then k_X5_goesTo_17 F2 (nI s) (nI best) r (nI (d + 1)) q4.2 else k_X5_goesTo_17 F2 (nI s) (bs2 (nI c) (nI d)) q4.1 (nI (d + 1)) q4.2 := by
        intro q4
        unfold b_X5_goesTo_63
        rw [lt1, nIs]
        by_cases hq : q4.1 ≤ r
        · rw [if_pos hq, if_pos hq, if_pos hq]
        · rw [if_neg hq, if_neg hq, if_neg hq]
      simp only [e]
    rw [hX, hM]
    rcases q2 with q2 | ⟨q2, q3, q4⟩
    · rw [if_pos q2, if_pos q2]
      exact ih (d + 1) F1 F2 best r u v w (by omega) (by omega) (by omega) hb
    · rw [if_neg q2, if_neg q2]
      generalize hb' : (bs2 (nI c) (nI d)).toNatClampNeg = b' at q3 q4
      rw [q3]
      obtain ⟨r', u', v', w', e1, e2⟩ := liking_st h hn hn6 hs q4 u v w
      rw [e1, e2, bnd_some, bnd_some]
      by_cases hq : r' ≤ r
      · rw [if_pos hq, if_pos hq]
        exact ih (d + 1) F1 F2 best r u' v' w' (by omega) (by omega) (by omega) hb
      · rw [if_neg hq, if_neg hq]
        exact ih (d + 1) F1 F2 b' r' u' v' w' (by omega) (by omega) (by omega) q4
/-- where it goes -/
theorem goal_pair {z : Nat} {x : GX} {m : GM} {n s : Nat} (h : SR z x m) (hn : mI m 0 = nI n) (hn6 : n ≤ 6) (hs : s < n) :
    ∃ (c' : Nat) (u : Nat → Nat → Int32) (v w : Nat → Int32), c' < 36 ∧ f_X2_goal z (nI s) x = some (nI c', wst x u) ∧ f_X5_goesTo (nI s) m = some (nI c', wm m v w) := by
  obtain ⟨k1, k2, k3, k4, ⟨c, hc, k5⟩, k6⟩ := SR_ship h hn hn6 hs
  obtain ⟨u0, hu0⟩ := wst_self x
  have hm0 := wm_self m
  generalize mA m 17 = v0 at hm0
  generalize mA m 18 = w0 at hm0
  obtain ⟨r, u1, v1, w1, e1, e2⟩ := liking_st h hn hn6 hs hc u0 v0 w0
  rw [← hu0] at e1; rw [← hm0] at e2
  obtain ⟨c', u', v', w', g0, g1, g2⟩ := goal_loop h hn hn6 hs hc (k3.trans k5) k5 4 0 FU FU c r u1 v1 w1 (by omega) (by decide) (by decide) hc
  refine ⟨c', u', v', w', g0, ?_, ?_⟩
  · unfold f_X2_goal
    rw [grd_ok _ (by omega) (by decide), nI_clamp (by omega), k3, k5, bnd_some, e1, bnd_some]
    exact g1
  · unfold f_X5_goesTo
    rw [grd_ok _ (by omega) (by decide), nI_clamp (by omega), k5, bnd_some, e2, bnd_some]
    exact g2
theorem i01 {b : Prop} [Decidable b] : (if b then (0 : Int32) else 1) = 0 ∨ (if b then (0 : Int32) else 1) = 1 := by split; exact Or.inl rfl; exact Or.inr rfl
/-- whether it sinks -/
theorem sink_pair {z : Nat} {x : GX} {m : GM} {n s : Nat} (h : SR z x m) (hn : mI m 0 = nI n) (hn6 : n ≤ 6) (hs : s < n) :
    ∃ r : Int32, (r = 0 ∨ r = 1) ∧ f_X2_sinking z (nI s) x = some (r, x) ∧ f_X5_doesSink (nI s) m = some (r, m) := by
  obtain ⟨k1, k2, k3, k4, ⟨c, hc, k5⟩, k6⟩ := SR_ship h hn hn6 hs
  obtain ⟨h1, h2, h3, h4, h5, h6, h7, h10, n', h11, h12, h13⟩ := h
  have hs6 : s < 6 := by omega
  have g1 : ∀ {α : Type} (r : Option α), grd (nI s) 6 r = r := fun r => grd_ok r hs6 (by decide)
  have gN : (nI s).toNatClampNeg = s := nI_clamp (by omega)
  unfold f_X2_sinking f_X5_doesSink b_X5_doesSink_20
  simp only [g1, gN, bnd_some, k1, k2, k4, h3]
  by_cases K2 : mA m 0 s = 2
  · simp only [if_pos K2]
    by_cases q : mA m 3 s ≤ mA m 1 s
    · rw [if_pos q, if_pos q]; exact ⟨0, Or.inl rfl, rfl, rfl⟩
    · rw [if_neg q, if_neg q]; exact ⟨1, Or.inr rfl, rfl, rfl⟩
  · simp only [if_neg K2]
    by_cases K3 : mA m 0 s = 3
    · simp only [if_pos K3]
      exact ⟨1, Or.inr rfl, rfl, by split <;> rfl⟩
    · simp only [if_neg K3]
      by_cases K4 : mA m 0 s = 4
      · simp only [if_pos K4]
        by_cases q : mA m 3 s ≤ mA m 1 s
        · simp only [if_pos q]
          exact ⟨0, Or.inl rfl, by split <;> rfl, rfl⟩
        · simp only [if_neg q]
          rw [if_neg (show ¬ (1 : Int32) = 0 by decide)]
          by_cases q5 : rI (mI m 1) 5 ≠ 0
          · rw [if_pos q5, if_pos q5]; exact ⟨0, Or.inl rfl, rfl, rfl⟩
          · rw [if_neg q5, if_neg q5]; exact ⟨1, Or.inr rfl, rfl, rfl⟩
      · simp only [if_neg K4]
        by_cases K5 : mA m 0 s = 5
        · simp only [if_pos K5]
          exact ⟨0, Or.inl rfl, rfl, by split <;> rfl⟩
        · simp only [if_neg K5]
          exact ⟨1, Or.inr rfl, rfl, by split <;> rfl⟩
/-- what it teaches -/
theorem teach_pair {z : Nat} {x : GX} {m : GM} {n s : Nat} (h : SR z x m) (hn : mI m 0 = nI n) (hn6 : n ≤ 6) (hs : s < n) :
    ∃ r : Int32, (∃ k : Nat, k ≤ 99 ∧ r = nI k) ∧ f_X2_teaching z (nI s) x = some (r, x) ∧ f_X5_teachesOf (nI s) m = some (r, m) := by
  obtain ⟨k1, k2, k3, k4, ⟨c, hc, k5⟩, k6⟩ := SR_ship h hn hn6 hs
  have hs6 : s < 6 := by omega
  have g1 : ∀ {α : Type} (r : Option α), grd (nI s) 6 r = r := fun r => grd_ok r hs6 (by decide)
  have gN : (nI s).toNatClampNeg = s := nI_clamp (by omega)
  unfold f_X2_teaching f_X5_teachesOf
  simp only [g1, gN, k1]
  by_cases q : mA m 0 s ≠ 1
  · simp only [if_pos q]
    by_cases q2 : mA m 0 s ≠ 3
    · simp only [if_pos q2]; exact ⟨99, ⟨99, by decide, rfl⟩, rfl, rfl⟩
    · simp only [if_neg q2]; exact ⟨0, ⟨0, by decide, rfl⟩, rfl, rfl⟩
  · simp only [if_neg q]; exact ⟨49, ⟨49, by decide, rfl⟩, rfl, rfl⟩
