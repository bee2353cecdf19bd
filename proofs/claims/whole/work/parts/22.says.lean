/-! ===== a sea of the class beside the reference's state ===== -/
/-- of a ship: what both keep -/
def ShR (z : Nat) (x : GX) (m : GM) (s : Nat) : Prop := xB x z 1 s = mA m 0 s ∧ xB x z 2 s = mA m 1 s ∧ xB x z 3 s = mA m 2 s ∧ xB x z 4 s = mA m 3 s ∧ (∃ c : Nat, c < 36 ∧ mA m 2 s = nI c) ∧ mA m 4 s = (if bt (xS x z 0) s = true then 1 else 0)
def SR (z : Nat) (x : GX) (m : GM) : Prop := xS x z 1 = mI m 0 ∧ xS x z 2 = mI m 2 ∧ xS x z 3 = mI m 1 ∧ xS x z 4 = mI m 5 ∧ xR x z = mL m 0 ∧ (∃ d : Nat, d ≤ 99 ∧ mI m 2 = nI d) ∧ (∃ t : Nat, t < 6 ∧ mI m 5 = nI t ∧ TR x m t) ∧ (∀ i, i < 36 → xB x z 0 i = mA m 5 i ∧ ∃ k : Nat, k ≤ 99 ∧ mA m 5 i = nI k) ∧ ∃ n : Nat, n ≤ 6 ∧ mI m 0 = nI n ∧ ∀ s, s < n → ShR z x m s
theorem TR_st {x : GX} {m : GM} {t : Nat} (u v w) (h : TR x m t) : TR (wst x u) (wm m v w) t := by
  obtain ⟨E, h⟩ := h
  refine ⟨E, ?_⟩
  rw [wst_U0, wst_U2, wm_o m v w (by decide) (by decide), wm_o m v w (by decide) (by decide)]
  exact h
theorem ShR_st {z : Nat} {x : GX} {m : GM} {s : Nat} (u v w) (h : ShR z x m s) : ShR z (wst x u) (wm m v w) s := by
  unfold ShR
  rw [wst_B, wst_S, wm_o m v w (by decide) (by decide), wm_o m v w (by decide) (by decide), wm_o m v w (by decide) (by decide), wm_o m v w (by decide) (by decide), wm_o m v w (by decide) (by decide)]
  exact h
theorem SR_st {z : Nat} {x : GX} {m : GM} (u v w) (h : SR z x m) : SR z (wst x u) (wm m v w) := by
  obtain ⟨h1, h2, h3, h4, h5, h6, ⟨t, h7, h8, h9⟩, h10, n, h11, h12, h13⟩ := h
  refine ⟨h1, h2, h3, h4, h5, h6, ⟨t, h7, h8, TR_st u v w h9⟩, ?_, n, h11, h12, fun s hs => ShR_st u v w (h13 s hs)⟩
  intro i hi
  rw [wst_B, wm_o m v w (by decide) (by decide)]
  exact h10 i hi
def inB (v lo hi : Int32) : Int32 := if lo ≤ v ∧ v ≤ hi then 1 else 0
def clp (v lo hi : Int32) : Int32 := if v < lo then lo else if hi < v then hi else v
theorem within5_eq (v lo hi : Int32) (m : GM) : f_X5_within v lo hi m = some (clp v lo hi, m) := by
  unfold f_X5_within clp
  by_cases h1 : v < lo
  · rw [if_neg (fun q => nlt_of_le q h1), if_pos h1]
  · have h2 : lo ≤ v := by
      rw [Int32.lt_iff_toInt_lt] at h1; rw [Int32.le_iff_toInt_le]; omega
    rw [if_pos h2, if_neg h1]
    by_cases h3 : hi < v
    · rw [if_neg (fun q => nlt_of_le q h3), if_pos h3]
    · have h4 : v ≤ hi := by
        rw [Int32.lt_iff_toInt_lt] at h3; rw [Int32.le_iff_toInt_le]; omega
      rw [if_pos h4, if_neg h3]
theorem mxmn (lo hi v : Int32) (h : lo ≤ hi) : mxI lo (mnI hi v) = clp v lo hi := by
  unfold mxI mnI clp
  rw [Int32.le_iff_toInt_le] at h
  repeat' split
  all_goals (try rfl)
  all_goals (simp only [Int32.lt_iff_toInt_lt] at *; first | omega | (apply Int32.toInt_inj.mp; omega))
theorem clp_rng (v : Int32) {lo hi : Int32} (h : lo ≤ hi) : lo ≤ clp v lo hi ∧ clp v lo hi ≤ hi := by
  unfold clp
  rw [Int32.le_iff_toInt_le] at h
  by_cases q1 : v < lo
  · rw [if_pos q1]; exact ⟨Int32.le_refl _, by rw [Int32.le_iff_toInt_le]; exact h⟩
  · rw [if_neg q1]
    by_cases q2 : hi < v
    · rw [if_pos q2]; exact ⟨by rw [Int32.le_iff_toInt_le]; exact h, Int32.le_refl _⟩
    · rw [if_neg q2]
      rw [Int32.lt_iff_toInt_lt] at q1 q2
      exact ⟨by rw [Int32.le_iff_toInt_le]; omega, by rw [Int32.le_iff_toInt_le]; omega⟩
/-- what the named of the reference hold -/
def nmW (m : GM) (cc : Nat) (dr : Int32) (w : Nat → Int32) : Prop := w 0 = mA m 5 cc ∧ w 1 = rI (nI cc) 6 ∧ w 2 = nI cc / 6 ∧ w 3 = mI m 1 ∧ w 4 = mI m 2 ∧ w 5 = dr
theorem pv_eq {x : GX} {m : GM} {y cc : Nat} {dr : Int32} {w : Nat → Int32} (hw : nmW m cc dr w) (h1 : xS x y 2 = mI m 2) (h2 : xS x y 3 = mI m 1) (h3 : xB x y 0 cc = mA m 5 cc) (s : Int32) : pvX x y cc dr s = pvM w s := by
  obtain ⟨w0, w1, w2, w3, w4, w5⟩ := hw
  unfold pvX pvM
  by_cases h : s < 0
  · rw [if_pos h, if_pos h]
    unfold nmX nmM
    rw [w0, w1, w2, w3, w4, w5, h1, h2, h3]
    by_cases a1 : s = -1
    · subst a1; rfl
    · by_cases a2 : s = -2
      · subst a2; rfl
      · by_cases a3 : s = -3
        · subst a3; rfl
        · by_cases a4 : s = -4
          · subst a4; rfl
          · by_cases a5 : s = -5
            · subst a5; rfl
            · rw [if_neg a5, if_neg a4, if_neg a3, if_neg a2, if_neg a1, if_neg a1, if_neg a2, if_neg a3, if_neg a4, if_neg a5]
  · rw [if_neg h, if_neg h]
/-- what a text says: both alike -/
theorem worth_says {x : GX} {m : GM} {t y p cc : Nat} {dr : Int32} {w v : Nat → Int32} (ht : mI m 5 = nI t) (ht6 : t < 6) (hT : TR x m t) (hp : p < 3) (hcc : cc < 36) (hw : nmW m cc dr w) (h1 : xS x y 2 = mI m 2) (h2 : xS x y 3 = mI m 1) (h3 : xB x y 0 cc = mA m 5 cc) (u : Nat → Nat → Int32) :
    ∃ (r : Int32) (u' : Nat → Nat → Int32) (v' : Nat → Int32), f_X0_worth t y (nI p) (nI cc) dr (wst x u) = some (r, wst x u') ∧ f_X5_says (nI p) (wm m v w) = some (r, wm m v' w) := by
  obtain ⟨E, e0, e1, e2, e3, e4, hX, hM, hC, hD⟩ := hT
  have hE : E p ≤ E (p + 1) ∧ E (p + 1) ≤ E 3 := by
    match p, hp with
    | 0, _ => exact ⟨e1, by show E 1 ≤ E 3; omega⟩
    | 1, _ => exact ⟨e2, by show E 2 ≤ E 3; omega⟩
    | 2, _ => exact ⟨e3, Nat.le_refl _⟩
  obtain ⟨r, u', v', g1, g2⟩ := ws_loop (e := E (p + 1)) ht ht6 hp hcc (hX p hp) (hM (p + 1) (by omega)) (by omega) (fun k hk => hC k (by omega)) (fun s => pv_eq hw h1 h2 h3 s) (E (p + 1) - E p) (E p) 0 FU FU u v (by omega) (by show _ < 1000; omega) (by show _ < 1000; omega) (by omega) (hD p hp) (fun j hj => absurd hj (Nat.not_lt_zero j))
  refine ⟨r, u', v', ?_, ?_⟩
  · unfold f_X0_worth
    rw [if_neg (nI_pos (n := p) (by omega)), if_pos (show nI p < (3 : Int32) from nI_lt hp (by decide))]
    by_cases hp0 : p = 0
    · subst hp0
      rw [if_neg (show ¬ nI 0 ≠ 0 from fun q => q rfl)]
      rw [e0] at g1
      exact g1
    · have hne : nI p ≠ (0 : Int32) := fun q => hp0 ((eq_nI (by omega) (by decide)).mp q)
      rw [if_pos hne]
      have hs : nI p - (1 : Int32) = nI (p - 1) := sub_nI (b := 1) (by omega)
      rw [hs, grd_ok _ (by omega) (by decide), nI_clamp (by omega), bnd_some, wst_U2, hX (p - 1) (by omega), show p - 1 + 1 = p by omega]
      exact g1
  · unfold f_X5_says
    have ea : (4 : Int32) * mI (wm m v w) 5 + nI p = nI (4 * t + p) := by
      rw [wm_I, ht, show (4 : Int32) = nI 4 from rfl, pk_mul, nIs]
    rw [ea, grd_ok _ (by omega) (by decide), nI_clamp (by omega), bnd_some, wm_o m v w (by decide) (by decide), hM p (by omega)]
    exact g2
theorem int_or (p : Nat) (hp : p < 3) : (nI p ≠ (1 : Int32)) ∨ nI p = (1 : Int32) := by
  by_cases h : nI p = (1 : Int32)
  · exact Or.inr h
  · exact Or.inl h
/-- bright, fading, feared: both alike, but for their stacks -/
theorem says_asks {z : Nat} {x : GX} {m : GM} (h : SR z x m) {p cc : Nat} (hp : p < 3) (hcc : cc < 36) {dr sh : Int32} (hd : (sh = -1 ∧ dr = 0) ∨ ∃ s : Nat, s < 6 ∧ sh = nI s ∧ dr = mA m 3 s) :
    ∃ (r : Int32) (u : Nat → Nat → Int32) (v w : Nat → Int32), f_X2_says z (nI p) (nI cc) dr x = some (r, wst x u) ∧ f_X5_asksOf (nI p) (nI cc) sh m = some (r, wm m v w) ∧ (if nI p = (1 : Int32) then (0 : Int32) else (-99 : Int32)) ≤ r ∧ r ≤ 99 := by
  obtain ⟨h1, h2, h3, h4, h5, h6, ⟨t, h7, h8, h9⟩, h10, n, h11, h12, h13⟩ := h
  obtain ⟨u0, hu0⟩ := wst_self x
  have hm0 := wm_self m
  generalize mA m 17 = v0 at hm0
  generalize mA m 18 = w0 at hm0
  obtain ⟨w, hw⟩ : ∃ w, w = upd (upd (upd (upd (upd (upd w0 0 (mA m 5 cc)) 1 (rI (nI cc) 6)) 2 (nI cc / 6)) 3 (mI m 1)) 4 (mI m 2)) 5 dr := ⟨_, rfl⟩
  have hwn : nmW m cc dr w := by
    subst hw
    refine ⟨?_, ?_, ?_, ?_, ?_, ?_⟩ <;> simp [upd_s, upd_n]
  obtain ⟨r, u', v', g1, g2⟩ := worth_says (v := v0) h8 h7 h9 hp hcc hwn h2 h3 (h10 cc hcc).1 u0
  rw [← hu0] at g1
  have hlo : ((if nI p = (1 : Int32) then (0 : Int32) else (-99 : Int32)) ≤ (99 : Int32)) := by split <;> decide
  refine ⟨clp r (if nI p = (1 : Int32) then 0 else -99) 99, u', v', w, ?_, ?_, ?_⟩
  · unfold f_X2_says
    rw [h4, h8, if_neg (nI_pos (n := t) (by omega)), if_neg (show ¬ (6 : Int32) ≤ nI t from nI_ge (b := 6) h7 (by decide)), grd_ok _ h7 (by decide), nI_clamp (by omega)]
    unfold b_X2_says_32b
    rw [g1, bnd_some]
    unfold b_X2_says_63
    rcases int_or p hp with q | q
    · rw [if_pos q, if_neg q, mxmn _ _ _ (by decide)]
    · rw [if_neg (fun a => a q), if_pos q, mxmn _ _ _ (by decide)]
  · have st : ∀ (i : Nat) (c : Int32) (a b : Nat → Int32), tA (wm m a b) 18 i c = wm m a (upd b i c) := fun i c a b => tA18_wm m a b i c
    have tail : b_X5_asksOf_77 (nI p) dr (5 : Int32) (wm m v0 (upd (upd (upd (upd (upd w0 0 (mA m 5 cc)) 1 (rI (nI cc) 6)) 2 (nI cc / 6)) 3 (mI m 1)) 4 (mI m 2))) = some (clp r (if nI p = (1 : Int32) then 0 else -99) 99, wm m v' w) := by
      unfold b_X5_asksOf_77
      rw [show (5 : Int32) = nI 5 from rfl, grd_ok _ (by decide) (by decide), nI_clamp (by decide), bnd_some, st, ← hw, g2, bnd_some]
      rcases int_or p hp with q | q
      · rw [if_pos q, if_neg q, within5_eq, bnd_some]
      · rw [if_neg (fun a => a q), if_pos q, within5_eq, bnd_some]
    have key : f_X5_asksOf (nI p) (nI cc) sh (wm m v0 w0) = some (clp r (if nI p = (1 : Int32) then 0 else -99) 99, wm m v' w) := by
      unfold f_X5_asksOf
      rw [grd_ok _ hcc (by decide), show (0 : Int32) = nI 0 from rfl, grd_ok _ (by decide) (by decide), nI_clamp (by decide), bnd_some, nI_clamp (by omega), st]
      rw [show (1 : Int32) = nI 1 from rfl, grd_ok _ (by decide) (by decide), nI_clamp (by decide), bnd_some, st]
      rw [show (2 : Int32) = nI 2 from rfl, grd_ok _ (by decide) (by decide), nI_clamp (by decide), bnd_some, st]
      rw [show (3 : Int32) = nI 3 from rfl, grd_ok _ (by decide) (by decide), nI_clamp (by decide), bnd_some, st]
      rw [show (4 : Int32) = nI 4 from rfl, grd_ok _ (by decide) (by decide), nI_clamp (by decide), bnd_some, st]
      rw [wm_I, wm_I, wm_o m v0 w0 (by decide) (by decide)]
      rcases hd with ⟨rfl, rfl⟩ | ⟨s, hs, rfl, rfl⟩
      · rw [if_neg (show ¬ (-1 : Int32) ≠ (-nI 1) from fun q => q rfl)]
        exact tail
      · rw [if_pos (show nI s ≠ -nI 1 from fun q => by
          have := congrArg Int32.toInt q
          rw [nI_toInt (by omega), show (-nI 1).toInt = -1 from by decide] at this; omega)]
        rw [within5_eq, bnd_some]
        have hcl : clp (nI s) (nI 0) (5 : Int32) = nI s := by
          unfold clp
          rw [if_neg (show ¬ nI s < nI 0 from nI_pos (n := s) (by omega)), if_neg (show ¬ (5 : Int32) < nI s from nI_nlt (b := s) (a := 5) (by omega) (by decide))]
        rw [hcl, grd_ok _ hs (by decide), nI_clamp (by omega), wm_o m v0 _ (by decide) (by decide)]
        exact tail
    rw [← hm0] at key
    exact key
  · exact clp_rng r hlo
