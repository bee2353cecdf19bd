/-! ===== the first text, a new object ===== -/
theorem init_ok : (match f_X4_init xZ with | some q => decide (xI q.2 7 = -1) | none => false) = true := by decide +kernel
def c0 (j : Nat) : Nat := (bW 0 j).toNatClampNeg
theorem c0_tab : ∀ j, j < 60 → mA mZ 14 j = nI (c0 j) ∧ c0 j < 256 := by decide +kernel
theorem len_0 : lenJS.getD 0 0 = 60 := by decide +kernel
theorem sP_P (x : GX) (i : Nat) (v) : xP (sP x i v) = upd (xP x) i v := rfl
def PXz (i : Nat) (x : GX) : Prop := (∀ j, j < i → xP x j = nI (c0 j)) ∧ xI x = xI xZ ∧ xS x = xS xZ ∧ xR x = xR xZ ∧ xB x = xB xZ ∧ xU x = xU xZ ∧ xH x = xH xZ ∧ xN x = xN xZ
theorem init_X : ∀ (k i F : Nat) (x : GX), i + k = 60 → k < F → PXz i x → ∃ x', k_X4_init_141 F (nI i) x = b_X4_init_175 x' ∧ PXz 60 x' := by
  intro k
  induction k with
  | zero =>
    intro i F x hi hF h
    obtain ⟨F, rfl⟩ : ∃ k, F = k + 1 := ⟨F - 1, by omega⟩
    have : i = 60 := by omega
    subst this
    refine ⟨x, ?_, h⟩
    show b_X4_init_141 (k_X4_init_141 F) (nI 60) x = _
    unfold b_X4_init_141
    rw [len_X (by decide), bnd_some, len_0, if_pos (show nI 60 ≤ nI 60 by decide)]
  | succ k ih =>
    intro i F x hi hF h
    obtain ⟨F, rfl⟩ : ∃ k, F = k + 1 := ⟨F - 1, by omega⟩
    obtain ⟨h1, h2⟩ := h
    obtain ⟨x', e, hx⟩ := ih (i + 1) F (sP x i (nI (c0 i))) (by omega) (by omega) ⟨fun j hj => by
      rw [sP_P]
      by_cases q : j = i
      · subst q; rw [upd_s]
      · rw [upd_n _ _ q]; exact h1 j (by omega), h2⟩
    refine ⟨x', ?_, hx⟩
    rw [← e]
    show b_X4_init_141 (k_X4_init_141 F) (nI i) x = _
    unfold b_X4_init_141
    rw [len_X (by decide), bnd_some, len_0, if_neg (nI_ge (by omega) (by omega)), if_neg (show ¬ (160 : Int32) ≤ nI i from nI_ge (b := 160) (by omega) (by decide)), char_X (by decide) (by rw [len_0]; omega), bnd_some, grd_ok _ (by omega) (by decide), nI_clamp (by omega), bnd_some, show nI i + (1 : Int32) = nI (i + 1) from nI_add i 1]
    rfl
def PMz (i : Nat) (m : GM) : Prop := (∀ j, j < i → mA m 6 j = nI (c0 j)) ∧ mI m = mI mZ ∧ mL m = mL mZ ∧ ∀ a, a ≠ 6 → mA m a = mA mZ a
theorem init_M : ∀ (k i F : Nat) (m : GM), i + k = 60 → k < F → PMz i m → ∃ m', k_X5_init_1108 F (nI i) m = (bnd (f_X5_text (tI m' 3 60)) fun q2 => some ((), q2.2)) ∧ PMz 60 m' := by
  intro k
  induction k with
  | zero =>
    intro i F m hi hF h
    obtain ⟨F, rfl⟩ : ∃ k, F = k + 1 := ⟨F - 1, by omega⟩
    have : i = 60 := by omega
    subst this
    refine ⟨m, ?_, h⟩
    show b_X5_init_1108 (k_X5_init_1108 F) (nI 60) m = _
    unfold b_X5_init_1108
    rw [if_pos (show (60 : Int32) ≤ nI 60 by decide), bnd_some]
  | succ k ih =>
    intro i F m hi hF h
    obtain ⟨F, rfl⟩ : ∃ k, F = k + 1 := ⟨F - 1, by omega⟩
    obtain ⟨h1, h2, h3, h4⟩ := h
    have h14 : mA m 14 i = nI (c0 i) := by rw [h4 14 (by decide)]; exact (c0_tab i (by omega)).1
    obtain ⟨m', e, hm⟩ := ih (i + 1) F (tA m 6 i (nI (c0 i))) (by omega) (by omega) ⟨fun j hj => by
      rw [mA_s]
      by_cases q : j = i
      · subst q; rw [upd_s]
      · rw [upd_n _ _ q]; exact h1 j (by omega), h2, h3, fun a ha => (mA_n _ _ _ ha).trans (h4 a ha)⟩
    refine ⟨m', ?_, hm⟩
    rw [← e]
    show b_X5_init_1108 (k_X5_init_1108 F) (nI i) m = _
    unfold b_X5_init_1108
    rw [if_neg (show ¬ (60 : Int32) ≤ nI i from nI_ge (b := 60) (by omega) (by decide)), grd_ok _ (by omega) (by decide), grd_ok _ (by omega) (by decide), nI_clamp (by omega), h14, bnd_some, show nI i + (1 : Int32) = nI (i + 1) from nI_add i 1]
theorem mZ_11 : ∀ q, q < 4 → mA mZ 11 q = -1 := by decide +kernel
theorem start_RR : ∃ (x1 : GX) (μ1 : GM), f_X4_init xZ = some ((), x1) ∧ f_X5_init mZ = some ((), μ1) ∧ RR x1 μ1 := by
  obtain ⟨xa, e1, hx⟩ := init_X 60 0 FU xZ rfl (by decide) ⟨fun j hj => absurd hj (Nat.not_lt_zero j), rfl, rfl, rfl, rfl, rfl, rfl, rfl⟩
  obtain ⟨ma, e2, hm⟩ := init_M 60 0 FU mZ rfl (by decide) ⟨fun j hj => absurd hj (Nat.not_lt_zero j), rfl, rfl, fun _ _ => rfl⟩
  obtain ⟨p1, p2, p3, p4, p5, p6, p7, p8⟩ := hx
  obtain ⟨q1, q2, q3, q4⟩ := hm
  obtain ⟨mb, hmb⟩ : ∃ mb, mb = tI (tI (tI ma 3 60) 7 0) 13 0 := ⟨_, rfl⟩
  have mI0 : ∀ i, i ≠ 3 → i ≠ 7 → i ≠ 13 → mI mb i = 0 := fun i r1 r2 r3 => by
    rw [hmb, mI_n _ _ r3, mI_n _ _ r2, mI_n _ _ r1, q2]; rfl
  have hTM : TM c0 60 mb := by
    refine ⟨by decide, ?_, ?_, fun i hi => ?_⟩
    · rw [hmb, mI_n _ _ (by decide), mI_n _ _ (by decide), mI_s]; rfl
    · rw [hmb]; exact q4 15 (by decide)
    · rw [hmb]; exact ⟨q1 i hi, (c0_tab i hi).2⟩
  have hXi : f_X4_init xZ = bnd (f_X1_read 0 (nI 60) xa) fun q4 => some ((), sI q4.2 0 1) := by
    unfold f_X4_init
    rw [show k_X4_init_141 FU (0 : Int32) xZ = _ from e1]
    unfold b_X4_init_175
    rw [len_X (by decide), bnd_some, len_0, show (0 : Int32) = nI 0 from rfl, grd_ok _ (by decide) (by decide), nI_clamp (by decide)]
    rfl
  have hMi : f_X5_init mZ = bnd (k_X5_text_26 FU 1 0 mb) fun q2 => some ((), q2.2) := by
    unfold f_X5_init
    rw [show k_X5_init_1108 FU (0 : Int32) mZ = _ from e2]
    unfold f_X5_text
    have i4 : mI (tI ma 3 60) 4 = 0 := by rw [mI_n _ _ (by decide), q2]; rfl
    rw [i4, if_pos (show (0 : Int32) ≠ 6 by decide), bnd_some, bnd_some, ← hmb]
  obtain ⟨b, hc⟩ := text_core (t := 0) (sz := 60) (g := c0) (x := xa) (m := mb) (by decide) (by decide) (fun i hi => ⟨p1 i hi, (c0_tab i hi).2⟩) hTM (mI0 4 (by decide) (by decide) (by decide)) (by rw [hmb, mI_n _ _ (by decide), mI_s]) (by rw [hmb, mI_s])
  rcases hc with ⟨x', f, m', c1, c2, c3, c4, c5, c6, c7, c8, c9⟩ | ⟨x', m', c1, c2, c3, c4, c5, c6, c7, c8⟩
  · -- it has no fault
    exfalso
    have hk := init_ok
    rw [hXi, c1, c2, bnd_some] at hk
    have h7 : xI (sI x' 0 1) 7 = nI f := (xI_n _ _ (by decide)).trans c5
    have hk2 : decide (xI (sI x' 0 1) 7 = -1) = true := hk
    rw [h7] at hk2
    exact nI_m1 (by omega) (of_decide_eq_true hk2)
  · obtain ⟨w1, w2, w3, w4, w5, w6, w7, w8⟩ := c3
    obtain ⟨v1, v2, v3, v4, v5⟩ := c5
    refine ⟨sI x' 0 1, m', ?_, ?_, ?_⟩
    · rw [hXi, c1, c2, bnd_some]
    · rw [hMi, c4, bnd_some]
    · have Ii : ∀ i, (i < 3 ∨ i = 5 ∨ i = 6) → mI m' i = 0 := fun i r => (v2 i (by omega)).trans (mI0 i (by omega) (by omega) (by omega))
      have Ai : ∀ a, a ≠ 6 → a ≠ 7 → a ≠ 8 → a ≠ 16 → mA m' a = mA mZ a := fun a r1 r2 r3 r4 => by rw [v3 a r2 r3 r4, hmb]; exact q4 a r1
      have sS0 : xS (sI x' 0 1) = xS xZ := w2.trans p3
      have sR0 : xR (sI x' 0 1) = xR xZ := w3.trans p4
      have sB0 : xB (sI x' 0 1) = xB xZ := w4.trans p5
      have L0 : mL m' = mL mZ := by rw [v1, hmb]; exact q3
      have Xi : ∀ i, i ≠ 0 → i < 3 → xI (sI x' 0 1) i = 0 := fun i r1 r2 => by
        rw [xI_n _ _ r1, w1 i (Or.inl r2), p2]; rfl
      refine ⟨⟨?_, ?_, ?_, ?_, ?_, ⟨0, by decide, Ii 2 (by decide)⟩, ⟨0, by decide, Ii 5 (by decide), c8⟩, ?_, 0, by decide, Ii 0 (by decide), fun s hs => absurd hs (Nat.not_lt_zero s)⟩, ⟨1, by decide, by decide, xI_s _ _ _, c7, ?_, 0, by decide, Ii 5 (by decide)⟩, ⟨0, by decide, Xi 1 (by decide) (by decide), c6, fun i hi => absurd hi (Nat.not_lt_zero i)⟩, ?_, ⟨?_, ?_⟩, ⟨⟨0, by decide, Ii 1 (by decide)⟩, 0, by decide, Ii 0 (by decide), fun s hs => absurd hs (Nat.not_lt_zero s)⟩, ?_, ?_⟩
      · rw [sS0, Ii 0 (by decide)]; rfl
      · rw [sS0, Ii 2 (by decide)]; rfl
      · rw [sS0, Ii 1 (by decide)]; rfl
      · rw [sS0, Ii 5 (by decide)]; rfl
      · rw [sR0, L0]; rfl
      · intro i hi
        rw [sB0, Ai 5 (by decide) (by decide) (by decide) (by decide)]
        exact ⟨rfl, 0, by decide, rfl⟩
      · intro u hu
        have : u = 0 := by omega
        subst this; exact c8
      · intro q hq
        rw [show xH (sI x' 0 1) = xH xZ from w5.trans p7, show xN (sI x' 0 1) = xN xZ from w6.trans p8, Ai 11 (by decide) (by decide) (by decide) (by decide), Ai 12 (by decide) (by decide) (by decide) (by decide), Ai 13 (by decide) (by decide) (by decide) (by decide), mZ_11 q hq]
        exact ⟨rfl, ⟨0, by decide, rfl, rfl⟩, fun i _ => rfl⟩
      · rw [Xi 2 (by decide) (by decide), Ii 6 (by decide)]
      · rw [Ii 6 (by decide)]
        exact fun h => absurd rfl h
      · exact Ai 15 (by decide) (by decide) (by decide) (by decide)
      · intro i r1 r2
        rw [L0]
        exact ⟨bL_0 i, bL_0 i⟩
