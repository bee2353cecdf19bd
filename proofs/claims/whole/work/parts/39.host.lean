/-! ===== film ===== -/
theorem FX_SX {x x1 : GX} {q : Nat} (h : SX q x x1) : True := trivial
theorem lays_sheet {m0 m : GM} {f : Nat → Int32} (hk : KP m0 f) (hl : mL m = mL m0) (hi : ∀ i, i ≠ 1 → i ≠ 2 → mI m i = mI m0 i) (h19 : mA m 19 = f) : ∃ m', f_X5_lays m = some ((), m') ∧ mL m' = mL m0 ∧ (∀ i, mI m' i = mI m0 i) ∧ (∀ a, a ≠ 2 → a ≠ 4 → a ≠ 5 → mA m' a = mA m a) ∧ (∀ i, i < 36 → mA m' 5 i = mA m0 5 i) ∧ ∀ i, i < 6 → mA m' 2 i = mA m0 2 i ∧ mA m' 4 i = mA m0 4 i := by
  obtain ⟨m1, e1, a1, a2, a3, a4, _⟩ := lays_1 36 0 FU m rfl (by decide)
  obtain ⟨m', e2, b1, b2, b3, b4, b5, b6, _⟩ := lays_2 6 0 FU m1 rfl (by decide)
  obtain ⟨k1, k2, k3, k4, k5⟩ := hk
  have h19' : mA m1 19 = f := (a3 19 (by decide)).trans h19
  refine ⟨m', e1.trans e2, by rw [b1, a2, hl], ?_, fun a h2 h4 h5 => by rw [b5 a h2 h4, a3 a h5], ?_, ?_⟩
  · intro i
    by_cases q1 : i = 1
    · subst q1; rw [b3, h19', k4]
    · by_cases q2 : i = 2
      · subst q2; rw [b4, h19', k5]
      · rw [b2 i q1 q2, a1, hi i q1 q2]
  · intro i hi
    rw [b5 5 (by decide) (by decide), a4 i (by omega) hi, h19, k1 i hi]
  · intro i hi
    obtain ⟨c1, c2⟩ := b6 i (by omega) hi
    rw [c1, c2, h19', k2 i hi, k3 i hi]
    exact ⟨rfl, rfl⟩
/-- the reference's row 13 set anew -/
def wn (m : GM) (g : Nat → Int32) : GM := (mI m, mL m, up (mA m) 13 g)
theorem wn_13 (m : GM) (g) : mA (wn m g) 13 = g := rfl
theorem wn_o (m : GM) (g) {a : Nat} (h : a ≠ 13) : mA (wn m g) a = mA m a := by show up (mA m) 13 g a = _; rw [up_n _ _ h]
theorem wn_self (m : GM) : m = wn m (mA m 13) := by
  obtain ⟨a, b, c⟩ := m
  show (a, b, c) = (a, b, _)
  congr 1; congr 1
  funext k
  show c k = up c 13 (c 13) k
  by_cases h : k = 13
  · subst h; rw [up_s]
  · rw [up_n _ _ h]
theorem tA_13 (m : GM) (g) (i : Nat) (v) : tA (wn m g) 13 i v = wn m (upd g i v) := by
  unfold tA wn
  show (mI m, mL m, _) = (mI m, mL m, _)
  congr 1; congr 1
  funext a
  show up (up (mA m) 13 g) 13 (upd (up (mA m) 13 g 13) i v) a = up (mA m) 13 (upd g i v) a
  by_cases q : a = 13
  · subst q; rw [up_s, up_s, up_s]
  · rw [up_n _ _ q, up_n _ _ q, up_n _ _ q]
theorem SR_wn {z : Nat} {x : GX} {m : GM} (g) (h : SR z x m) : SR z x (wn m g) := SR_fr h (fun _ _ => rfl) rfl (fun _ _ => rfl) (fun _ => ⟨rfl, rfl⟩) rfl rfl rfl rfl rfl (fun a ha => wn_o _ _ (by omega)) (wn_o _ _ (by decide)) (wn_o _ _ (by decide))
theorem SR_sx {z q : Nat} {x x' : GX} {m : GM} (h : SR z x m) (e : SX q x x') : SR z x' m := by
  obtain ⟨b1, b2, b3, b4, b5, _⟩ := e
  exact SR_fr h (fun _ _ => by rw [b2]) (by rw [b3]) (fun _ _ => by rw [b4]) (fun _ => by rw [b5]; exact ⟨rfl, rfl⟩) rfl rfl rfl rfl rfl (fun _ _ => rfl) rfl rfl
/-- thought and one sheet set anew -/
def EXS (q : Nat) (x x' : GX) : Prop := xI x' = xI x ∧ (∀ y, y ≠ 1 → xS x' y = xS x y) ∧ (∀ y, y ≠ 1 → xR x' y = xR x y) ∧ (∀ y, y ≠ 1 → xB x' y = xB x y) ∧ (∀ t k, k ≠ 1 → xU x' t k = xU x t k) ∧ (∀ y, y ≠ q → xH x' y = xH x y) ∧ (∀ y, y ≠ q → xN x' y = xN x y) ∧ xP x' = xP x
theorem EXS_EX {q : Nat} {a b c : GX} (h : EXS q a b) (k : EX 1 b c) : EXS q a c := by
  obtain ⟨h1, h2, h3, h4, h5, h6, h7, h8⟩ := h
  obtain ⟨k1, k2, k3, k4, _, k6, k7, k8, k9, _⟩ := k
  exact ⟨k1.trans h1, fun y q => (k2 y q).trans (h2 y q), fun y q => (k3 y q).trans (h3 y q), fun y q => (k4 y q).trans (h4 y q), fun t k q => (k6 t k q).trans (h5 t k q), fun y p => by rw [k7]; exact h6 y p, fun y p => by rw [k8]; exact h7 y p, k9.trans h8⟩
theorem EXS_SX {q : Nat} {a b c : GX} (h : EXS q a b) (k : SX q b c) : EXS q a c := by
  obtain ⟨h1, h2, h3, h4, h5, h6, h7, h8⟩ := h
  obtain ⟨k1, k2, k3, k4, k5, k6, k7, k8⟩ := k
  exact ⟨k1.trans h1, fun y q => by rw [k2]; exact h2 y q, fun y q => by rw [k3]; exact h3 y q, fun y q => by rw [k4]; exact h4 y q, fun t k q => by rw [k5]; exact h5 t k q, fun y p => (k6 y p).trans (h6 y p), fun y p => (k7 y p).trans (h7 y p), k8.trans h8⟩
theorem EXS_refl (q : Nat) (x : GX) : EXS q x x := ⟨rfl, fun _ _ => rfl, fun _ _ => rfl, fun _ _ => rfl, fun _ _ _ => rfl, fun _ _ => rfl, fun _ _ => rfl, rfl⟩
theorem cell_byte : ∀ c, c < 36 → (nI c).toInt8.toInt32 = nI c := by decide +kernel
/-- the class's nights of a film beside the reference's -/
theorem film_loop {x : GX} {m0 : GM} {f : Nat → Int32} {n s q N : Nat} (hn : mI m0 0 = nI n) (hn6 : n ≤ 6) (hs : s < n) (hq : q < 4) (hN : N ≤ 20) :
    ∀ (k c F1 F2 : Nat) (x1 : GX) (m1 : GM) (g : Nat → Int32), c + k = N → k < F1 → 40 - c < F2 → EXS q x x1 → FM (mk m0 f) m1 → SR 1 x1 m1 → xH x1 q 0 = 0 → xH x1 q 1 = nI N → (∀ i, i < c → xN x1 q i = g (40 * q + i)) → (∀ i, c ≤ i → i < 40 → xN x1 q i = 0) → (∀ p, (p < 40 * q ∨ 40 * q + 40 ≤ p) → g p = mA m0 13 p) →
      ∃ x2 m2 g2 F3, k_X4_film_52 F1 (nI q) (nI s) (nI N) (nI c) x1 = some (nI N, x2) ∧ k_X5_film_57 F2 (nI q) (nI s) (nI N) (nI c) (wn m1 g) = k_X5_film_57 F3 (nI q) (nI s) (nI N) (nI N) (wn m2 g2) ∧ 40 - N < F3 ∧ EXS q x x2 ∧ FM (mk m0 f) m2 ∧ xH x2 q 0 = 0 ∧ xH x2 q 1 = nI N ∧ (∀ i, i < N → xN x2 q i = g2 (40 * q + i)) ∧ (∀ i, N ≤ i → i < 40 → xN x2 q i = 0) ∧ (∀ p, (p < 40 * q ∨ 40 * q + 40 ≤ p) → g2 p = mA m0 13 p) := by
  have hs6 : s < 6 := by omega
  intro k
  induction k with
  | zero =>
    intro c F1 F2 x1 m1 g hc h1 h2 hx hf hS y1 y2 y3 y4 y5
    obtain ⟨F1, rfl⟩ : ∃ k, F1 = k + 1 := ⟨F1 - 1, by omega⟩
    have : c = N := by omega
    subst this
    refine ⟨x1, m1, g, F2, ?_, rfl, h2, hx, hf, y1, y2, y3, y4, y5⟩
    show b_X4_film_52 (k_X4_film_52 F1) (nI q) (nI s) (nI c) (nI c) x1 = _
    unfold b_X4_film_52
    rw [if_pos (nI_le (by omega) (by omega))]
  | succ k ih =>
    intro c F1 F2 x1 m1 g hc h1 h2 hx hf hS y1 y2 y3 y4 y5
    obtain ⟨F1, rfl⟩ : ∃ k, F1 = k + 1 := ⟨F1 - 1, by omega⟩
    obtain ⟨F2, rfl⟩ : ∃ k, F2 = k + 1 := ⟨F2 - 1, by omega⟩
    -- the reference's night is that of the state without row 13
    have hS' := SR_wn (upd g (40 * q + c) 0) hS
    have hn1 : mI m1 0 = nI n := by rw [hf.2.1 0 (by decide) (by decide)]; exact hn
    obtain ⟨x2, m2', e1, e2, a1, a2, a3, a4, _⟩ := night_pair hS' (n := n) hn1 hn6
    obtain ⟨m2, hm2⟩ : ∃ m2, m2 = wn m2' (mA m1 13) := ⟨_, rfl⟩
    have hw : m2' = wn m2 (upd g (40 * q + c) 0) := by
      have h13 : mA m2' 13 = upd g (40 * q + c) 0 := by
        rw [a3.2.2 13 (by decide) (by decide) (by decide) (by decide) (by decide), wn_13]
      rw [hm2]
      have := wn_self m2'
      rw [h13] at this
      rw [this]
      unfold wn
      show (mI m2', mL m2', _) = (mI m2', mL m2', _)
      congr 1; congr 1
      funext a
      show up (mA m2') 13 _ a = up (up (up (mA m2') 13 _) 13 _) 13 _ a
      by_cases p : a = 13
      · subst p; rw [up_s, up_s]
      · rw [up_n _ _ p, up_n _ _ p, up_n _ _ p, up_n _ _ p]
    have hf2 : FM (mk m0 f) m2 := by
      obtain ⟨f1, f2, f3⟩ := hf
      obtain ⟨d1, d2, d3⟩ := a3
      refine ⟨?_, ?_, ?_⟩
      · rw [hm2]; exact d1.trans f1
      · intro i p1 p2; rw [hm2]; exact (d2 i p1 p2).trans (f2 i p1 p2)
      · intro a p1 p2 p3 p4 p5
        rw [hm2]
        by_cases p : a = 13
        · subst p; rw [wn_13]; exact f3 13 p1 p2 p3 p4 p5
        · rw [wn_o _ _ p, d3 a p1 p2 p3 p4 p5, wn_o _ _ p]; exact f3 a p1 p2 p3 p4 p5
    have hS2 : SR 1 x2 m2 := by rw [hm2]; exact SR_wn _ a1
    have hn2 : mI m2' 0 = nI n := by rw [a3.2.1 0 (by decide) (by decide)]; exact hn1
    obtain ⟨_, _, k3, _, ⟨cc, hcc, k5⟩, _⟩ := SR_ship a1 hn2 hn6 hs
    have z1 : xH x2 q 1 = nI N := by obtain ⟨_, _, _, _, _, _, h7, _⟩ := a2; rw [h7]; exact y2
    have z0 : xH x2 q 0 = 0 := by obtain ⟨_, _, _, _, _, _, h7, _⟩ := a2; rw [h7]; exact y1
    have zN : xN x2 = xN x1 := by obtain ⟨_, _, _, _, _, _, _, h8, _⟩ := a2; exact h8
    have hset : f_X3_set q (nI c) (xB x2 1 3 s) x2 = some ((), sN x2 q c (nI cc)) := by
      rw [set_X q _ (by omega) z1 (show c < N by omega), z0, k3, k5]
      unfold nar
      rw [if_neg (show ¬ (0 : Int32) ≠ 0 from fun q => q rfl), cell_byte cc hcc]
    have hX : k_X4_film_52 (F1 + 1) (nI q) (nI s) (nI N) (nI c) x1 = k_X4_film_52 F1 (nI q) (nI s) (nI N) (nI (c + 1)) (sN x2 q c (nI cc)) := by
      show b_X4_film_52 (k_X4_film_52 F1) (nI q) (nI s) (nI N) (nI c) x1 = _
      unfold b_X4_film_52
      rw [if_neg (nI_ge (by omega) (by omega)), e1, bnd_some, grd_ok _ hq (by decide), grd_ok _ hs6 (by decide), nI_clamp (by omega), nI_clamp (by omega), hset, bnd_some, show nI c + (1 : Int32) = nI (c + 1) from nI_add c 1]
    have hM : k_X5_film_57 (F2 + 1) (nI q) (nI s) (nI N) (nI c) (wn m1 g) = k_X5_film_57 F2 (nI q) (nI s) (nI N) (nI (c + 1)) (wn m2 (upd g (40 * q + c) (nI cc))) := by
      show b_X5_film_57 (k_X5_film_57 F2) (nI q) (nI s) (nI N) (nI c) (wn m1 g) = _
      unfold b_X5_film_57
      have g13 : ∀ {α : Type} (r : Option α), grd (nI (40 * q + c)) 160 r = r := fun r => grd_ok r (by omega) (by decide)
      rw [if_neg (show ¬ (40 : Int32) ≤ nI c from nI_ge (b := 40) (by omega) (by decide)), ix40]
      simp only [g13, nI_clamp (show 40 * q + c < 2 ^ 31 by omega), bnd_some, tA_13]
      rw [if_neg (nI_ge (by omega) (by omega)), e2, bnd_some, grd_ok _ hs6 (by decide), nI_clamp (by omega), k5]
      rw [hw, tA_13, upd_upd, show nI c + (1 : Int32) = nI (c + 1) from nI_add c 1]
    obtain ⟨x3, m3, g3, F3, c1, c2, c3⟩ := ih (c + 1) F1 F2 (sN x2 q c (nI cc)) m2 (upd g (40 * q + c) (nI cc)) (by omega) (by omega) (by omega) (EXS_SX (EXS_EX hx (FX_EX a2)) (SX_sN _ _ _ _)) hf2 (SR_sx hS2 (SX_sN q _ _ _)) z0 z1 (fun i hi => by
      rw [xN_s, zN]
      by_cases p : i = c
      · subst p; rw [upd_s, upd_s]
      · rw [upd_n _ _ p, upd_n _ _ (by omega)]; exact y3 i (by omega)) (fun i h1 h2 => by
      rw [xN_s, zN, upd_n _ _ (by omega)]; exact y4 i (by omega) h2) (fun p hp => by
      rw [upd_n _ _ (by omega)]; exact y5 p hp)
    exact ⟨x3, m3, g3, F3, hX.trans c1, hM.trans c2, c3⟩
theorem film_rest {q s N : Nat} (hq : q < 4) (hN : N ≤ 20) : ∀ (k c F : Nat) (m : GM) (g : Nat → Int32), c + k = 40 → N ≤ c → k < F → ∃ g2, k_X5_film_57 F (nI q) (nI s) (nI N) (nI c) (wn m g) = bnd (f_X5_lays (wn m g2)) (fun q7 => some (nI N, q7.2)) ∧ (∀ i, c ≤ i → i < 40 → g2 (40 * q + i) = 0) ∧ (∀ p, (p < 40 * q + c ∨ 40 * q + 40 ≤ p) → g2 p = g p) := by
  intro k
  induction k with
  | zero =>
    intro c F m g hc hNc hF
    obtain ⟨F, rfl⟩ : ∃ k, F = k + 1 := ⟨F - 1, by omega⟩
    have : c = 40 := by omega
    subst this
    refine ⟨g, ?_, fun i a b => by omega, fun _ _ => rfl⟩
    show b_X5_film_57 (k_X5_film_57 F) (nI q) (nI s) (nI N) (nI 40) (wn m g) = _
    unfold b_X5_film_57
    rw [if_pos (by decide)]
  | succ k ih =>
    intro c F m g hc hNc hF
    obtain ⟨F, rfl⟩ : ∃ k, F = k + 1 := ⟨F - 1, by omega⟩
    obtain ⟨g2, e, a1, a2⟩ := ih (c + 1) F m (upd g (40 * q + c) 0) (by omega) (by omega) (by omega)
    refine ⟨g2, ?_, ?_, ?_⟩
    · rw [← e]
      show b_X5_film_57 (k_X5_film_57 F) (nI q) (nI s) (nI N) (nI c) (wn m g) = _
      unfold b_X5_film_57
      rw [if_neg (show ¬ (40 : Int32) ≤ nI c from nI_ge (b := 40) (by omega) (by decide)), ix40, grd_ok _ (by omega) (by decide), nI_clamp (by omega), bnd_some, tA_13, if_pos (nI_le hNc (by omega)), show nI c + (1 : Int32) = nI (c + 1) from nI_add c 1]
    · intro i h1 h2
      by_cases p : i = c
      · subst p; rw [a2 _ (by omega), upd_s]
      · exact a1 i (by omega) h2
    · intro p hp
      rw [a2 p (by omega), upd_n _ _ (by omega)]
theorem eq_film (a b c : Int32) : EQ (f_X4_film a b c) (f_X5_film a b c) := by
  intro x m h
  obtain ⟨n, hn6, hm, hx⟩ := RR_n h
  simp only [f_X4_film, f_X5_film, isSheet_X, isShip_X, isShip_M, within_X, in_M, bnd_some, hm, hx]
  rcases wi_sheet a with e | ⟨e, q, hq, rfl⟩
  · simp only [e, ifs, if_false]
    exact PP_same h
  · simp only [e, ifs, if_true]
    rcases wi_ship b n (by omega) with e | ⟨e, s, hs, rfl⟩
    · simp only [e, ifs, if_false]
      exact PP_same h
    · simp only [e, ifs, if_true]
      rcases wi_lit c 20 (by decide) with e | ⟨e, N, hN, rfl⟩
      · simp only [e, ifs, if_false]
        exact PP_same h
      · simp only [e, ifs, if_true]
        have g1 : ∀ {α : Type} (r : Option α), grd (nI q) 4 r = r := fun r => grd_ok r hq (by decide)
        simp only [g1, nI_clamp (show q < 2 ^ 31 by omega)]
        obtain ⟨x1, e1, a1, a2⟩ := think_pair h.1
        obtain ⟨x2, e2, b1, b2, b3, b4⟩ := become_X3 q 0 (nI N) x1
        obtain ⟨m0, hm0⟩ : ∃ m0, m0 = tA (tA m 11 q 0) 12 q (nI N) := ⟨_, rfl⟩
        have hSM : SM q m m0 := by rw [hm0]; exact SM_trans (SM_11 q m 0) (SM_12 q _ _)
        obtain ⟨f, e3, hk⟩ := keeps_spec m0
        have hS : SR 1 x2 (mk m0 f) := by
          refine SR_mk f (SR_sx (SR_fr a2 (fun _ _ => rfl) rfl (fun _ _ => rfl) (fun _ => ⟨rfl, rfl⟩) ?_ ?_ ?_ ?_ ?_ ?_ ?_ ?_) b1)
          · rw [hSM.1]
          · rw [hSM.1]
          · rw [hSM.1]
          · rw [hSM.1]
          · rw [hSM.2.1]
          · intro a ha; exact hSM.2.2.1 a (by omega) (by omega) (by omega)
          · exact hSM.2.2.1 7 (by decide) (by decide) (by decide)
          · exact hSM.2.2.1 8 (by decide) (by decide) (by decide)
        rw [← hm0]
        rw [e1, bnd_some, e2, bnd_some, e3, bnd_some]
        have hn0 : mI m0 0 = nI n := by rw [hSM.1]; exact hm
        have hw0 : mk m0 f = wn (mk m0 f) (mA m0 13) := by
          have := wn_self (mk m0 f)
          rw [mk_o _ _ (by decide)] at this
          exact this
        obtain ⟨x3, m3, g3, F3, c1, c2, c3, c4, c5, c6, c7, c8, c9, c10⟩ := film_loop (x := x1) (f := f) hn0 hn6 hs hq hN N 0 FU FU x2 (mk m0 f) (mA m0 13) (by omega) (by show _ < 1000; omega) (by decide) (EXS_SX (EXS_refl q x1) b1) (FM_refl _) hS b2 b3 (fun i hi => absurd hi (Nat.not_lt_zero i)) (fun i _ hi => b4 i hi) (fun _ _ => rfl)
        rw [← hw0] at c2
        obtain ⟨g4, d1, d2, d3⟩ := film_rest (s := s) hq hN (40 - N) N F3 m3 g3 (by omega) (Nat.le_refl _) c3
        obtain ⟨f1, f2, f3⟩ := c5
        obtain ⟨m4, l1, l2, l3, l4, l5, l6⟩ := lays_sheet (m := wn m3 g4) hk f1 (fun i p1 p2 => f2 i p1 p2) (by rw [wn_o _ _ (by decide), f3 19 (by decide) (by decide) (by decide) (by decide) (by decide)]; exact mk_19 _ _)
        rw [show k_X4_film_52 FU (nI q) (nI s) (nI N) (0 : Int32) x2 = _ from c1, show k_X5_film_57 FU (nI q) (nI s) (nI N) (0 : Int32) (mk m0 f) = _ from c2.trans d1, l1, bnd_some]
        -- what the film leaves
        have hEM : ∀ k, k ≠ 2 → k ≠ 4 → k ≠ 5 → k ≠ 13 → k ≠ 17 → k ≠ 18 → k ≠ 19 → mA m4 k = mA m0 k := fun k p1 p2 p3 p4 p5 p6 p7 => by
          rw [l4 k p1 p2 p3, wn_o _ _ p4, f3 k p1 p2 p3 p5 p6, mk_o _ _ p7]
        have h13 : mA m4 13 = g4 := by rw [l4 13 (by decide) (by decide) (by decide), wn_13]
        -- first the thought, then the sheet
        obtain ⟨hS0, z1, z2, z3, z4, z5, z6, z7⟩ := h
        obtain ⟨r1, r2, r3, r4, r5, r6, r7, r8⟩ := c4
        obtain ⟨t1, t2, t3, t4, t5, t6, t7, t8, t9, _⟩ := a1
        have tH : ∀ y, y ≠ q → xH x3 y = xH x y := fun y p => by rw [r6 y p, t7]
        have tN : ∀ y, y ≠ q → xN x3 y = xN x y := fun y p => by rw [r7 y p, t8]
        refine PP_mk rfl rfl ⟨?_, ?_, ?_, ?_, ?_, ?_, ?_, ?_⟩
        · obtain ⟨h1, h2, h3, h4, h5, h6, ⟨t, h7, h8, h9⟩, h10, n', h11, h12, h13'⟩ := hS0
          have s0 : xS x3 0 = xS x 0 := (r2 0 (by decide)).trans (t2 0 (by decide))
          have sR0 : xR x3 0 = xR x 0 := (r3 0 (by decide)).trans (t3 0 (by decide))
          have sB0 : xB x3 0 = xB x 0 := (r4 0 (by decide)).trans (t4 0 (by decide))
          have hI : ∀ i, mI m4 i = mI m i := fun i => by rw [l3 i, hSM.1]
          refine ⟨by rw [s0, hI]; exact h1, by rw [s0, hI]; exact h2, by rw [s0, hI]; exact h3, by rw [s0, hI]; exact h4, by rw [sR0, l2, hSM.2.1]; exact h5, by rw [hI]; exact h6, ⟨t, h7, by rw [hI]; exact h8, TR_fr h9 ((r5 t 0 (by decide)).trans (t6 t 0 (by decide))) ((r5 t 2 (by decide)).trans (t6 t 2 (by decide))) ?_ ?_⟩, ?_, n', h11, by rw [hI]; exact h12, ?_⟩
          · rw [hEM 7 (by decide) (by decide) (by decide) (by decide) (by decide) (by decide) (by decide)]; exact hSM.2.2.1 7 (by decide) (by decide) (by decide)
          · rw [hEM 8 (by decide) (by decide) (by decide) (by decide) (by decide) (by decide) (by decide)]; exact hSM.2.2.1 8 (by decide) (by decide) (by decide)
          · intro i hi
            rw [sB0, l5 i hi, hSM.2.2.1 5 (by decide) (by decide) (by decide)]
            exact h10 i hi
          · intro s' hs'
            have k := h13' s' hs'
            obtain ⟨u1, u2⟩ := l6 s' (by omega)
            unfold ShR at k ⊢
            rw [sB0, s0, hEM 0 (by decide) (by decide) (by decide) (by decide) (by decide) (by decide) (by decide), hEM 1 (by decide) (by decide) (by decide) (by decide) (by decide) (by decide) (by decide), hEM 3 (by decide) (by decide) (by decide) (by decide) (by decide) (by decide) (by decide), u1, u2, hSM.2.2.1 0 (by decide) (by decide) (by decide), hSM.2.2.1 1 (by decide) (by decide) (by decide), hSM.2.2.1 2 (by decide) (by decide) (by decide), hSM.2.2.1 3 (by decide) (by decide) (by decide), hSM.2.2.1 4 (by decide) (by decide) (by decide)]
            exact k
        · refine TXR_fr z1 (by rw [r1, t1]) (fun t => ⟨(r5 t 0 (by decide)).trans (t6 t 0 (by decide)), (r5 t 2 (by decide)).trans (t6 t 2 (by decide))⟩) (by rw [l3, hSM.1]) (by rw [l3, hSM.1]) ?_ ?_
          · rw [hEM 7 (by decide) (by decide) (by decide) (by decide) (by decide) (by decide) (by decide)]; exact hSM.2.2.1 7 (by decide) (by decide) (by decide)
          · rw [hEM 8 (by decide) (by decide) (by decide) (by decide) (by decide) (by decide) (by decide)]; exact hSM.2.2.1 8 (by decide) (by decide) (by decide)
        · refine TPR_fr z2 (by rw [r1, t1]) (r8.trans t9) (by rw [l3, hSM.1]) ?_
          rw [hEM 6 (by decide) (by decide) (by decide) (by decide) (by decide) (by decide) (by decide)]; exact hSM.2.2.1 6 (by decide) (by decide) (by decide)
        · intro p hp
          have q11 : mA m4 11 = mA m0 11 := hEM 11 (by decide) (by decide) (by decide) (by decide) (by decide) (by decide) (by decide)
          have q12 : mA m4 12 = mA m0 12 := hEM 12 (by decide) (by decide) (by decide) (by decide) (by decide) (by decide) (by decide)
          by_cases ep : p = q
          · subst ep
            refine ⟨?_, ⟨N, by omega, c7, ?_⟩, ?_⟩
            · rw [c6, q11, hm0, mA_n _ _ _ (by decide), mA_s, upd_s]
            · rw [q12, hm0, mA_s, upd_s]
            · intro i hi
              rw [h13]
              rcases Nat.lt_or_ge i N with w | w
              · rw [c8 i w, d3 _ (by omega)]
              · rw [c9 i w hi, d2 i w hi]
          · obtain ⟨v1, v2, v3⟩ := z3 p hp
            refine ⟨?_, ?_, ?_⟩
            · rw [tH p ep, q11, (hSM.2.2.2.1 p ep).1]; exact v1
            · rw [tH p ep, q12, (hSM.2.2.2.1 p ep).2]; exact v2
            · intro i hi
              rw [tN p ep, h13, d3 _ (by omega), c10 _ (by omega), hSM.2.2.2.2 _ (by omega)]
              exact v3 i hi
        · refine IMR_fr z4 (by rw [r1, t1]) ((r2 2 (by decide)).trans (t2 2 (by decide))) ((r3 2 (by decide)).trans (t3 2 (by decide))) ((r4 2 (by decide)).trans (t4 2 (by decide))) (by rw [l3, hSM.1]) (by rw [l3, hSM.1]) (by rw [l3, hSM.1]) (by rw [l2, hSM.2.1]) ?_ ?_ ?_ ?_
          · rw [hEM 9 (by decide) (by decide) (by decide) (by decide) (by decide) (by decide) (by decide)]; exact hSM.2.2.1 9 (by decide) (by decide) (by decide)
          · rw [hEM 10 (by decide) (by decide) (by decide) (by decide) (by decide) (by decide) (by decide)]; exact hSM.2.2.1 10 (by decide) (by decide) (by decide)
          · rw [hEM 0 (by decide) (by decide) (by decide) (by decide) (by decide) (by decide) (by decide)]; exact hSM.2.2.1 0 (by decide) (by decide) (by decide)
          · rw [hEM 1 (by decide) (by decide) (by decide) (by decide) (by decide) (by decide) (by decide)]; exact hSM.2.2.1 1 (by decide) (by decide) (by decide)
        · refine KNR_fr z5 (by rw [l3, hSM.1]) (by rw [l3, hSM.1]) ?_
          rw [hEM 0 (by decide) (by decide) (by decide) (by decide) (by decide) (by decide) (by decide)]; exact hSM.2.2.1 0 (by decide) (by decide) (by decide)
        · show mA m4 15 = _
          rw [hEM 15 (by decide) (by decide) (by decide) (by decide) (by decide) (by decide) (by decide), hSM.2.2.1 15 (by decide) (by decide) (by decide)]; exact z6
        · unfold RKR
          rw [l2, hSM.2.1]; exact z7
