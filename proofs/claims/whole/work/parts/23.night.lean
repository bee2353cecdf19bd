theorem SR_x {z : Nat} {x : GX} {m : GM} (u) (h : SR z x m) : SR z (wst x u) m := by
  have h1 := SR_st u (mA m 17) (mA m 18) h
  rw [← wm_self] at h1
  exact h1
theorem SR_m {z : Nat} {x : GX} {m : GM} (v w) (h : SR z x m) : SR z x (wm m v w) := by
  obtain ⟨u, hu⟩ := wst_self x
  have h1 := SR_st u v w h
  rw [← hu] at h1
  exact h1
theorem SR_ship {z : Nat} {x : GX} {m : GM} {n s : Nat} (h : SR z x m) (hn : mI m 0 = nI n) (hn6 : n ≤ 6) (hs : s < n) : ShR z x m s := by
  obtain ⟨_, _, _, _, _, _, _, _, n', h11, h12, h13⟩ := h
  have : n' = n := (eq_nI (by omega) (by omega)).mp (h12.symm.trans hn)
  subst this
  exact h13 s hs
theorem wm_o0 (m : GM) (v w) : mA (wm m v w) 0 = mA m 0 := wm_o m v w (by decide) (by decide)
theorem wm_o1 (m : GM) (v w) : mA (wm m v w) 1 = mA m 1 := wm_o m v w (by decide) (by decide)
theorem wm_o2 (m : GM) (v w) : mA (wm m v w) 2 = mA m 2 := wm_o m v w (by decide) (by decide)
theorem wm_o3 (m : GM) (v w) : mA (wm m v w) 3 = mA m 3 := wm_o m v w (by decide) (by decide)
theorem wm_o4 (m : GM) (v w) : mA (wm m v w) 4 = mA m 4 := wm_o m v w (by decide) (by decide)
theorem wm_o5 (m : GM) (v w) : mA (wm m v w) 5 = mA m 5 := wm_o m v w (by decide) (by decide)
/-- how much a ship likes a cell -/
theorem liking_pair {z : Nat} {x : GX} {m : GM} {n s cc : Nat} (h : SR z x m) (hn : mI m 0 = nI n) (hn6 : n ≤ 6) (hs : s < n) (hcc : cc < 36) :
    ∃ (r : Int32) (u : Nat → Nat → Int32) (v w : Nat → Int32), f_X2_liking z (nI s) (nI cc) x = some (r, wst x u) ∧ f_X5_likesOf (nI s) (nI cc) m = some (r, wm m v w) := by
  obtain ⟨k1, k2, k3, k4, k5, k6⟩ := SR_ship h hn hn6 hs
  have hs6 : s < 6 := by omega
  have hs31 : s < 2 ^ 31 := by omega
  -- the three that texts say
  have A0 : ∀ (u : Nat → Nat → Int32) (v w : Nat → Int32), ∃ (r : Int32) (u' : Nat → Nat → Int32) (v' w' : Nat → Int32), f_X2_says z (0 : Int32) (nI cc) (xB x z 4 s) (wst x u) = some (r, wst x u') ∧ f_X5_asksOf (0 : Int32) (nI cc) (nI s) (wm m v w) = some (r, wm m v' w') := by
    intro u v w
    obtain ⟨r, u', v', w', e1, e2, _⟩ := says_asks (SR_st u v w h) (p := 0) (by decide) hcc (sh := nI s) (dr := xB x z 4 s) (Or.inr ⟨s, hs6, rfl, by rw [k4, wm_o3]⟩)
    rw [wst_wst] at e1; rw [wm_wm] at e2
    exact ⟨r, u', v', w', e1, e2⟩
  have A2 : ∀ (u : Nat → Nat → Int32) (v w : Nat → Int32), ∃ (r : Int32) (u' : Nat → Nat → Int32) (v' w' : Nat → Int32), f_X2_says z (2 : Int32) (nI cc) (xB x z 4 s) (wst x u) = some (r, wst x u') ∧ f_X5_asksOf (2 : Int32) (nI cc) (nI s) (wm m v w) = some (r, wm m v' w') := by
    intro u v w
    obtain ⟨r, u', v', w', e1, e2, _⟩ := says_asks (SR_st u v w h) (p := 2) (by decide) hcc (sh := nI s) (dr := xB x z 4 s) (Or.inr ⟨s, hs6, rfl, by rw [k4, wm_o3]⟩)
    rw [wst_wst] at e1; rw [wm_wm] at e2
    exact ⟨r, u', v', w', e1, e2⟩
  obtain ⟨u0, hu0⟩ := wst_self x
  have hm0 := wm_self m
  generalize mA m 17 = v0 at hm0
  generalize mA m 18 = w0 at hm0
  have g1 : ∀ {α : Type} (r : Option α), grd (nI s) 6 r = r := fun r => grd_ok r hs6 (by decide)
  have gN : (nI s).toNatClampNeg = s := nI_clamp hs31
  have key : ∃ (r : Int32) (u : Nat → Nat → Int32) (v w : Nat → Int32), f_X2_liking z (nI s) (nI cc) (wst x u0) = some (r, wst x u) ∧ f_X5_likesOf (nI s) (nI cc) (wm m v0 w0) = some (r, wm m v w) := by
    unfold f_X2_liking f_X5_likesOf
    simp only [g1, gN, wst_B, wm_o0, wm_o1, k2]
    by_cases K5 : mA m 0 s = 5
    · rw [if_neg (show ¬ mA m 0 s ≠ 5 from fun q => q K5)]
      have hb : ∀ xs0, b_X2_liking_22 z (nI s) (nI cc) xs0 (wst x u0) = if nI cc ≠ rI ((4 : Int32) * mA m 1 s) 36 then bnd (f_X2_says z (2 : Int32) (nI cc) (xB x z 4 s) (wst x u0)) (fun q8 => some (q8.1, q8.2)) else some (99, wst x u0) := by
        intro xs0
        unfold b_X2_liking_22
        simp only [g1, gN, wst_B, bnd_some, k1, k2, K5]
        rw [if_neg (by decide), if_neg (by decide), if_neg (by decide), if_neg (by decide), if_pos trivial]
      rw [hb 0, hb 20]
      rw [show (if nI cc / (6 : Int32) ≠ rI (mA m 1 s) 6 then (if nI cc ≠ rI ((4 : Int32) * mA m 1 s) 36 then bnd (f_X2_says z (2 : Int32) (nI cc) (xB x z 4 s) (wst x u0)) (fun q8 => some (q8.1, q8.2)) else some (99, wst x u0)) else (if nI cc ≠ rI ((4 : Int32) * mA m 1 s) 36 then bnd (f_X2_says z (2 : Int32) (nI cc) (xB x z 4 s) (wst x u0)) (fun q8 => some (q8.1, q8.2)) else some (99, wst x u0))) = (if nI cc ≠ rI ((4 : Int32) * mA m 1 s) 36 then bnd (f_X2_says z (2 : Int32) (nI cc) (xB x z 4 s) (wst x u0)) (fun q8 => some (q8.1, q8.2)) else some (99, wst x u0)) from by split <;> rfl]
      by_cases hg : nI cc ≠ rI ((4 : Int32) * mA m 1 s) 36
      · rw [if_pos hg, if_pos hg]
        obtain ⟨r, u', v', w', e1, e2⟩ := A2 u0 v0 w0
        rw [e1, e2, bnd_some, bnd_some]
        exact ⟨r, u', v', w', rfl, rfl⟩
      · rw [if_neg hg, if_neg hg]
        exact ⟨99, u0, v0, w0, rfl, rfl⟩
    · rw [if_pos (show mA m 0 s ≠ 5 from K5)]
      obtain ⟨r0, ua, va, wa, e1, e2⟩ := A0 u0 v0 w0
      rw [e2, bnd_some]
      simp only [wm_o1]
      -- the reference's rest with and without twenty
      have rest : ∀ (xs0 bx : Int32), bx = r0 + xs0 → ∃ (r : Int32) (u : Nat → Nat → Int32) (v w : Nat → Int32), b_X2_liking_22 z (nI s) (nI cc) xs0 (wst x u0) = some (r, wst x u) ∧ b_X5_likesOf_70 (nI s) (nI cc) r0 bx (wm m va wa) = some (r, wm m v w) := by
        intro xs0 bx hbx
        unfold b_X2_liking_22 b_X5_likesOf_70
        simp only [g1, gN, wst_B, wm_o0, bnd_some, k1, k2]
        by_cases K1 : mA m 0 s = 1
        · rw [if_pos K1, if_pos K1, e1, bnd_some]
          obtain ⟨r2, ub, vb, wb, e3, e4⟩ := A2 ua va wa
          simp only [wst_B]
          rw [e3, e4, bnd_some, bnd_some]
          exact ⟨r0 - r2, ub, vb, wb, rfl, rfl⟩
        · rw [if_neg K1, if_neg K1]
          by_cases K2 : mA m 0 s = 2
          · rw [if_pos K2, if_pos K2, e1, bnd_some]
            exact ⟨r0 + xs0, ua, va, wa, rfl, by rw [hbx]⟩
          · rw [if_neg K2, if_neg K2]
            by_cases K3 : mA m 0 s = 3
            · rw [if_pos K3, if_pos K3]
              obtain ⟨r2, ub, vb, wb, e3, e4⟩ := A2 u0 va wa
              obtain ⟨r0', uc, vc, wc, e5, e6⟩ := A0 ub v0 w0
              have : r0' = r0 := by
                have q := e6.symm.trans e2
                injection q with q; injection q
              subst this
              rw [e3, e4, bnd_some, bnd_some]
              simp only [wst_B]
              rw [e5, bnd_some]
              exact ⟨r2 - r0', uc, vb, wb, rfl, rfl⟩
            · rw [if_neg K3, if_neg K3]
              by_cases K4 : mA m 0 s = 4
              · rw [if_pos K4, if_pos K4, e1, bnd_some]
                exact ⟨(r0 + xs0) / 10, ua, va, wa, rfl, by rw [hbx]⟩
              · rw [if_neg K4, if_neg K4, if_neg K5, e1, bnd_some]
                exact ⟨r0, ua, va, wa, rfl, rfl⟩
      by_cases hr : nI cc / (6 : Int32) ≠ rI (mA m 1 s) 6
      · rw [if_pos hr, if_pos hr]
        exact rest 0 r0 (Int32.add_zero r0).symm
      · rw [if_neg hr, if_neg hr]
        exact rest 20 (r0 + 20) rfl
  rw [← hu0, ← hm0] at key
  exact key
