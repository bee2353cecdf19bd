/-! ===== think; keeps and lays ===== -/
theorem SR_tr {y y1 : Nat} {x x' : GX} {m : GM} (h : SR y1 x m) (a1 : ∀ k, k < 5 → xS x' y k = xS x y1 k) (a2 : xR x' y = xR x y1) (a3 : ∀ i, i < 36 → xB x' y 0 i = xB x y1 0 i) (a4 : ∀ k, 1 ≤ k → k ≤ 4 → ∀ i, i < 6 → xB x' y k i = xB x y1 k i) (a5 : ∀ t, xU x' t 0 = xU x t 0 ∧ xU x' t 2 = xU x t 2) : SR y x' m := by
  obtain ⟨h1, h2, h3, h4, h5, h6, ⟨t, h7, h8, h9⟩, h10, n, h11, h12, h13⟩ := h
  refine ⟨(a1 1 (by decide)).trans h1, (a1 2 (by decide)).trans h2, (a1 3 (by decide)).trans h3, (a1 4 (by decide)).trans h4, a2.trans h5, h6, ⟨t, h7, h8, TR_fr h9 (a5 t).1 (a5 t).2 rfl rfl⟩, ?_, n, h11, h12, ?_⟩
  · intro i hi
    rw [a3 i hi]
    exact h10 i hi
  · intro s hs
    obtain ⟨k1, k2, k3, k4, k5, k6⟩ := h13 s hs
    exact ⟨(a4 1 (by decide) (by decide) s (by omega)).trans k1, (a4 2 (by decide) (by decide) s (by omega)).trans k2, (a4 3 (by decide) (by decide) s (by omega)).trans k3, (a4 4 (by decide) (by decide) s (by omega)).trans k4, k5, by rw [a1 0 (by decide)]; exact k6⟩
theorem SR_EX {y z : Nat} {x x' : GX} {m : GM} (h : SR z x m) (e : EX y x x') (hz : z ≠ y) : SR z x' m := by
  obtain ⟨e1, e2, e3, e4, e5, e6, _⟩ := e
  exact SR_tr h (fun k _ => by rw [e2 z hz]) (e3 z hz) (fun i _ => by rw [e4 z hz]) (fun k _ _ i _ => by rw [e4 z hz]) (fun t => ⟨e6 t 0 (by decide), e6 t 2 (by decide)⟩)
theorem think_pair {x : GX} {m : GM} (h : SR 0 x m) : ∃ x', f_X4_think x = some ((), x') ∧ EX 1 x x' ∧ SR 1 x' m := by
  obtain ⟨x', e, a0, a1, a2, a3, a4⟩ := become_spec (y := 1) (y1 := 0) x (by decide)
  refine ⟨x', ?_, a0, SR_tr h a1 a2 a3 a4 (fun t => ⟨a0.2.2.2.2.2.1 t 0 (by decide), a0.2.2.2.2.2.1 t 2 (by decide)⟩)⟩
  unfold f_X4_think
  rw [e, bnd_some]
/-- m with the kept array set anew -/
def mk (m : GM) (f : Nat → Int32) : GM := (mI m, mL m, up (mA m) 19 f)
theorem mk_I (m : GM) (f) : mI (mk m f) = mI m := rfl
theorem mk_L (m : GM) (f) : mL (mk m f) = mL m := rfl
theorem mk_19 (m : GM) (f) : mA (mk m f) 19 = f := rfl
theorem mk_o (m : GM) (f) {a : Nat} (h : a ≠ 19) : mA (mk m f) a = mA m a := by show up (mA m) 19 f a = _; rw [up_n _ _ h]
theorem tA_mk (m : GM) (f) (i : Nat) (v) : tA (mk m f) 19 i v = mk m (upd f i v) := by
  unfold tA mk
  show (_, _, _) = (_, _, _)
  congr 1; congr 1
  funext a
  show up (up (mA m) 19 f) 19 (upd (up (mA m) 19 f 19) i v) a = up (mA m) 19 (upd f i v) a
  by_cases q : a = 19
  · subst q; rw [up_s, up_s, up_s]
  · rw [up_n _ _ q, up_n _ _ q, up_n _ _ q]
theorem mk_self (m : GM) : m = mk m (mA m 19) := by
  obtain ⟨a, b, c⟩ := m
  unfold mk
  show (a, b, c) = (a, b, _)
  congr 1; congr 1
  funext k
  by_cases h2 : k = 19
  · subst h2; rw [up_s]; rfl
  · rw [up_n _ _ h2]; rfl
def KP (m : GM) (f : Nat → Int32) : Prop := (∀ i, i < 36 → f i = mA m 5 i) ∧ (∀ i, i < 6 → f (36 + i) = mA m 2 i) ∧ (∀ i, i < 6 → f (42 + i) = mA m 4 i) ∧ f 48 = mI m 1 ∧ f 49 = mI m 2
theorem keeps_2 (m : GM) : ∀ (k c F : Nat) (f : Nat → Int32), c + k = 6 → k < F → (∀ i, i < 36 → f i = mA m 5 i) → (∀ i, i < c → f (36 + i) = mA m 2 i) → (∀ i, i < c → f (42 + i) = mA m 4 i) → ∃ f', KP m f' ∧ k_X5_keeps_28 F (nI c) (mk m f) = some ((), mk m f') := by
  intro k
  induction k with
  | zero =>
    intro c F f hc hF h1 h2 h3
    obtain ⟨F, rfl⟩ : ∃ k, F = k + 1 := ⟨F - 1, by omega⟩
    have : c = 6 := by omega
    subst this
    refine ⟨upd (upd f 48 (mI m 1)) 49 (mI m 2), ⟨?_, ?_, ?_, ?_, ?_⟩, ?_⟩
    · intro i hi; rw [upd_n _ _ (by omega), upd_n _ _ (by omega)]; exact h1 i hi
    · intro i hi; rw [upd_n _ _ (by omega), upd_n _ _ (by omega)]; exact h2 i hi
    · intro i hi; rw [upd_n _ _ (by omega), upd_n _ _ (by omega)]; exact h3 i hi
    · rw [upd_n _ _ (by decide), upd_s]
    · rw [upd_s]
    · show b_X5_keeps_28 (k_X5_keeps_28 F) (nI 6) (mk m f) = _
      unfold b_X5_keeps_28
      rw [if_pos (by decide), show (48 : Int32) = nI 48 from rfl, show (49 : Int32) = nI 49 from rfl, grd_ok _ (by decide) (by decide), nI_clamp (by decide), bnd_some, tA_mk, grd_ok _ (by decide) (by decide), nI_clamp (by decide), bnd_some, tA_mk]
      rfl
  | succ k ih =>
    intro c F f hc hF h1 h2 h3
    obtain ⟨F, rfl⟩ : ∃ k, F = k + 1 := ⟨F - 1, by omega⟩
    obtain ⟨f', hf, e⟩ := ih (c + 1) F (upd (upd f (36 + c) (mA m 2 c)) (42 + c) (mA m 4 c)) (by omega) (by omega)
      (fun i hi => by rw [upd_n _ _ (by omega), upd_n _ _ (by omega)]; exact h1 i hi)
      (fun i hi => by
        rw [upd_n _ _ (by omega)]
        by_cases q : i = c
        · subst q; rw [upd_s]
        · rw [upd_n _ _ (by omega)]; exact h2 i (by omega))
      (fun i hi => by
        by_cases q : i = c
        · subst q; rw [upd_s]
        · rw [upd_n _ _ (by omega), upd_n _ _ (by omega)]; exact h3 i (by omega))
    refine ⟨f', hf, ?_⟩
    rw [← e]
    show b_X5_keeps_28 (k_X5_keeps_28 F) (nI c) (mk m f) = _
    unfold b_X5_keeps_28
    rw [if_neg (show ¬ (6 : Int32) ≤ nI c from nI_ge (b := 6) (by omega) (by decide)), show (36 : Int32) + nI c = nI (36 + c) from nI_add 36 c, show (42 : Int32) + nI c = nI (42 + c) from nI_add 42 c, show nI c + (1 : Int32) = nI (c + 1) from nI_add c 1]
    simp (disch := first | omega | decide) only [grd_ok, nI_clamp, bnd_some, tA_mk, mk_o]
theorem keeps_1 (m : GM) : ∀ (k c F : Nat) (f : Nat → Int32), c + k = 36 → k < F → (∀ i, i < c → f i = mA m 5 i) → ∃ f', (∀ i, i < 36 → f' i = mA m 5 i) ∧ k_X5_keeps_2 F (nI c) (mk m f) = k_X5_keeps_28 FU (nI 0) (mk m f') := by
  intro k
  induction k with
  | zero =>
    intro c F f hc hF h1
    obtain ⟨F, rfl⟩ : ∃ k, F = k + 1 := ⟨F - 1, by omega⟩
    have : c = 36 := by omega
    subst this
    refine ⟨f, h1, ?_⟩
    show b_X5_keeps_2 (k_X5_keeps_2 F) (nI 36) (mk m f) = _
    unfold b_X5_keeps_2
    rw [if_pos (by decide)]
    rfl
  | succ k ih =>
    intro c F f hc hF h1
    obtain ⟨F, rfl⟩ : ∃ k, F = k + 1 := ⟨F - 1, by omega⟩
    obtain ⟨f', hf, e⟩ := ih (c + 1) F (upd f c (mA m 5 c)) (by omega) (by omega)
      (fun i hi => by
        by_cases q : i = c
        · subst q; rw [upd_s]
        · rw [upd_n _ _ (by omega)]; exact h1 i (by omega))
    refine ⟨f', hf, ?_⟩
    rw [← e]
    show b_X5_keeps_2 (k_X5_keeps_2 F) (nI c) (mk m f) = _
    unfold b_X5_keeps_2
    rw [if_neg (show ¬ (36 : Int32) ≤ nI c from nI_ge (b := 36) (by omega) (by decide)), show nI c + (1 : Int32) = nI (c + 1) from nI_add c 1]
    simp (disch := first | omega | decide) only [grd_ok, nI_clamp, bnd_some, tA_mk, mk_o]
theorem keeps_spec (m : GM) : ∃ f, f_X5_keeps m = some ((), mk m f) ∧ KP m f := by
  obtain ⟨f1, h1, e1⟩ := keeps_1 m 36 0 FU (mA m 19) rfl (by decide) (fun i hi => absurd hi (Nat.not_lt_zero i))
  obtain ⟨f2, h2, e2⟩ := keeps_2 m 6 0 FU f1 rfl (by decide) h1 (fun i hi => absurd hi (Nat.not_lt_zero i)) (fun i hi => absurd hi (Nat.not_lt_zero i))
  rw [← mk_self] at e1
  exact ⟨f2, e1.trans e2, h2⟩
theorem SR_mk {z : Nat} {x : GX} {m : GM} (f) (h : SR z x m) : SR z x (mk m f) := by
  obtain ⟨h1, h2, h3, h4, h5, h6, ⟨t, h7, h8, h9⟩, h10, n, h11, h12, h13⟩ := h
  refine ⟨h1, h2, h3, h4, h5, h6, ⟨t, h7, h8, TR_fr h9 rfl rfl (mk_o _ _ (by decide)) (mk_o _ _ (by decide))⟩, ?_, n, h11, h12, ?_⟩
  · intro i hi
    rw [mk_o _ _ (by decide)]; exact h10 i hi
  · intro s hs
    have k := h13 s hs
    unfold ShR at k ⊢
    rw [mk_o _ _ (by decide), mk_o _ _ (by decide), mk_o _ _ (by decide), mk_o _ _ (by decide), mk_o _ _ (by decide)]
    exact k
theorem lays_1 : ∀ (k c F : Nat) (m : GM), c + k = 36 → k < F → ∃ m', k_X5_lays_2 F (nI c) m = k_X5_lays_28 FU (nI 0) m' ∧ mI m' = mI m ∧ mL m' = mL m ∧ (∀ a, a ≠ 5 → mA m' a = mA m a) ∧ (∀ i, c ≤ i → i < 36 → mA m' 5 i = mA m 19 i) ∧ ∀ i, i < c → mA m' 5 i = mA m 5 i := by
  intro k
  induction k with
  | zero =>
    intro c F m hc hF
    obtain ⟨F, rfl⟩ : ∃ k, F = k + 1 := ⟨F - 1, by omega⟩
    have : c = 36 := by omega
    subst this
    refine ⟨m, ?_, rfl, rfl, fun _ _ => rfl, fun i a b => by omega, fun _ _ => rfl⟩
    show b_X5_lays_2 (k_X5_lays_2 F) (nI 36) m = _
    unfold b_X5_lays_2
    rw [if_pos (by decide)]
    rfl
  | succ k ih =>
    intro c F m hc hF
    obtain ⟨F, rfl⟩ : ∃ k, F = k + 1 := ⟨F - 1, by omega⟩
    obtain ⟨m', e, a1, a2, a3, a4, a5⟩ := ih (c + 1) F (tA m 5 c (mA m 19 c)) (by omega) (by omega)
    refine ⟨m', ?_, a1, a2, ?_, ?_, ?_⟩
    · rw [← e]
      show b_X5_lays_2 (k_X5_lays_2 F) (nI c) m = _
      unfold b_X5_lays_2
      rw [if_neg (show ¬ (36 : Int32) ≤ nI c from nI_ge (b := 36) (by omega) (by decide)), show nI c + (1 : Int32) = nI (c + 1) from nI_add c 1]
      simp (disch := first | omega | decide) only [grd_ok, nI_clamp, bnd_some]
    · intro a ha
      rw [a3 a ha, mA_n _ _ _ ha]
    · intro i h1 h2
      by_cases q : i = c
      · subst q; rw [a5 i (by omega), mA_s, upd_s]
      · rw [a4 i (by omega) h2, mA_n _ _ _ (by decide)]
    · intro i hi
      rw [a5 i (by omega), mA_s, upd_n _ _ (by omega)]
theorem lays_2 : ∀ (k c F : Nat) (m : GM), c + k = 6 → k < F → ∃ m', k_X5_lays_28 F (nI c) m = some ((), m') ∧ mL m' = mL m ∧ (∀ i, i ≠ 1 → i ≠ 2 → mI m' i = mI m i) ∧ mI m' 1 = mA m 19 48 ∧ mI m' 2 = mA m 19 49 ∧ (∀ a, a ≠ 2 → a ≠ 4 → mA m' a = mA m a) ∧ (∀ i, c ≤ i → i < 6 → mA m' 2 i = mA m 19 (36 + i) ∧ mA m' 4 i = mA m 19 (42 + i)) ∧ ∀ i, i < c → mA m' 2 i = mA m 2 i ∧ mA m' 4 i = mA m 4 i := by
  intro k
  induction k with
  | zero =>
    intro c F m hc hF
    obtain ⟨F, rfl⟩ : ∃ k, F = k + 1 := ⟨F - 1, by omega⟩
    have : c = 6 := by omega
    subst this
    refine ⟨tI (tI m 1 (mA m 19 48)) 2 (mA m 19 49), ?_, rfl, fun i a b => by rw [mI_n _ _ b, mI_n _ _ a], by rw [mI_n _ _ (by decide), mI_s], mI_s _ _ _, fun _ _ _ => rfl, fun i a b => by omega, fun _ _ => ⟨rfl, rfl⟩⟩
    show b_X5_lays_28 (k_X5_lays_28 F) (nI 6) m = _
    unfold b_X5_lays_28
    rw [if_pos (by decide), show (48 : Int32) = nI 48 from rfl, show (49 : Int32) = nI 49 from rfl, grd_ok _ (by decide) (by decide), nI_clamp (by decide), bnd_some, grd_ok _ (by decide) (by decide), nI_clamp (by decide), bnd_some]
    rfl
  | succ k ih =>
    intro c F m hc hF
    obtain ⟨F, rfl⟩ : ∃ k, F = k + 1 := ⟨F - 1, by omega⟩
    obtain ⟨m', e, a1, a2, a3, a4, a5, a6, a7⟩ := ih (c + 1) F (tA (tA m 2 c (mA m 19 (36 + c))) 4 c (mA m 19 (42 + c))) (by omega) (by omega)
    simp (disch := decide) only [mA_n, mset] at a3 a4
    refine ⟨m', ?_, a1, a2, a3, a4, ?_, ?_, ?_⟩
    · rw [← e]
      show b_X5_lays_28 (k_X5_lays_28 F) (nI c) m = _
      unfold b_X5_lays_28
      rw [if_neg (show ¬ (6 : Int32) ≤ nI c from nI_ge (b := 6) (by omega) (by decide)), show (36 : Int32) + nI c = nI (36 + c) from nI_add 36 c, show (42 : Int32) + nI c = nI (42 + c) from nI_add 42 c, show nI c + (1 : Int32) = nI (c + 1) from nI_add c 1]
      simp (disch := first | omega | decide) only [grd_ok, nI_clamp, bnd_some, mA_n]
    · intro a h2 h4
      rw [a5 a h2 h4, mA_n _ _ _ h4, mA_n _ _ _ h2]
    · intro i h1 h2
      by_cases q : i = c
      · subst q
        obtain ⟨b1, b2⟩ := a7 i (by omega)
        rw [b1, b2, mA_n _ _ _ (by decide), mA_s, mA_s, upd_s, upd_s]
        exact ⟨rfl, rfl⟩
      · obtain ⟨b1, b2⟩ := a6 i (by omega) h2
        rw [b1, b2, mA_n _ _ _ (by decide), mA_n _ _ _ (by decide)]
        exact ⟨rfl, rfl⟩
    · intro i hi
      obtain ⟨b1, b2⟩ := a7 i (by omega)
      rw [b1, b2, mA_n _ _ _ (by decide), mA_s, mA_s, upd_n _ _ (by omega), mA_n _ _ _ (by decide), upd_n _ _ (by omega)]
      exact ⟨rfl, rfl⟩
/-- the reference's state, but for its scratch -/
def EM (m m' : GM) : Prop := mL m' = mL m ∧ (∀ i, i ≠ 14 → mI m' i = mI m i) ∧ (∀ a, a ≠ 2 → a ≠ 4 → a ≠ 5 → a ≠ 17 → a ≠ 18 → a ≠ 19 → mA m' a = mA m a) ∧ (∀ i, i < 36 → mA m' 5 i = mA m 5 i) ∧ ∀ i, i < 6 → mA m' 2 i = mA m 2 i ∧ mA m' 4 i = mA m 4 i
theorem EM_refl (m : GM) : EM m m := ⟨rfl, fun _ _ => rfl, fun _ _ _ _ _ _ _ => rfl, fun _ _ => rfl, fun _ _ => ⟨rfl, rfl⟩⟩
theorem EM_trans {a b c : GM} (h : EM a b) (k : EM b c) : EM a c := by
  obtain ⟨h1, h2, h3, h4, h5⟩ := h
  obtain ⟨k1, k2, k3, k4, k5⟩ := k
  exact ⟨k1.trans h1, fun i q => (k2 i q).trans (h2 i q), fun a q1 q2 q3 q4 q5 q6 => (k3 a q1 q2 q3 q4 q5 q6).trans (h3 a q1 q2 q3 q4 q5 q6), fun i q => (k4 i q).trans (h4 i q), fun i q => ⟨(k5 i q).1.trans (h5 i q).1, (k5 i q).2.trans (h5 i q).2⟩⟩
theorem lays_FM {m0 m : GM} {f : Nat → Int32} (hk : KP m0 f) (hf : FM (mk m0 f) m) : ∃ m', f_X5_lays m = some ((), m') ∧ EM m0 m' := by
  obtain ⟨m1, e1, a1, a2, a3, a4, _⟩ := lays_1 36 0 FU m rfl (by decide)
  obtain ⟨m', e2, b1, b2, b3, b4, b5, b6, _⟩ := lays_2 6 0 FU m1 rfl (by decide)
  obtain ⟨k1, k2, k3, k4, k5⟩ := hk
  obtain ⟨f1, f2, f3⟩ := hf
  have h19 : mA m 19 = f := f3 19 (by decide) (by decide) (by decide) (by decide) (by decide)
  have h19' : mA m1 19 = f := (a3 19 (by decide)).trans h19
  refine ⟨m', e1.trans e2, ?_, ?_, ?_, ?_, ?_⟩
  · rw [b1, a2, f1]; rfl
  · intro i hi
    by_cases q1 : i = 1
    · subst q1; rw [b3, h19', k4]
    · by_cases q2 : i = 2
      · subst q2; rw [b4, h19', k5]
      · rw [b2 i q1 q2, a1, f2 i q1 q2]; rfl
  · intro a h2 h4 h5 h17 h18 hq
    rw [b5 a h2 h4, a3 a h5, f3 a h2 h4 h5 h17 h18, mk_o _ _ hq]
  · intro i hi
    rw [b5 5 (by decide) (by decide), a4 i (by omega) hi, h19, k1 i hi]
  · intro i hi
    obtain ⟨c1, c2⟩ := b6 i (by omega) hi
    rw [c1, c2, h19', k2 i hi, k3 i hi]
    exact ⟨rfl, rfl⟩
theorem SR_EM {z : Nat} {x : GX} {m m' : GM} (h : SR z x m) (e : EM m m') : SR z x m' := by
  obtain ⟨e1, e2, e3, e4, e5⟩ := e
  obtain ⟨h1, h2, h3, h4, h5, h6, ⟨t, h7, h8, h9⟩, h10, n, h11, h12, h13⟩ := h
  refine ⟨by rw [e2 0 (by decide)]; exact h1, by rw [e2 2 (by decide)]; exact h2, by rw [e2 1 (by decide)]; exact h3, by rw [e2 5 (by decide)]; exact h4, by rw [e1]; exact h5, by rw [e2 2 (by decide)]; exact h6, ⟨t, h7, by rw [e2 5 (by decide)]; exact h8, TR_fr h9 rfl rfl (e3 7 (by decide) (by decide) (by decide) (by decide) (by decide) (by decide)) (e3 8 (by decide) (by decide) (by decide) (by decide) (by decide) (by decide))⟩, ?_, n, h11, by rw [e2 0 (by decide)]; exact h12, ?_⟩
  · intro i hi
    rw [e4 i hi]; exact h10 i hi
  · intro s hs
    have k := h13 s hs
    unfold ShR at k ⊢
    rw [e3 0 (by decide) (by decide) (by decide) (by decide) (by decide) (by decide), e3 1 (by decide) (by decide) (by decide) (by decide) (by decide) (by decide), e3 3 (by decide) (by decide) (by decide) (by decide) (by decide) (by decide), (e5 s (by omega)).1, (e5 s (by omega)).2]
    exact k
theorem EM_wm (m : GM) (v w) : EM m (wm m v w) := ⟨rfl, fun _ _ => rfl, fun a _ _ _ h h' _ => wm_o m v w h h', fun i _ => by rw [wm_o m v w (by decide) (by decide)], fun i _ => by rw [wm_o m v w (by decide) (by decide), wm_o m v w (by decide) (by decide)]; exact ⟨rfl, rfl⟩⟩
