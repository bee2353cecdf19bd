/-! ===== lowest terms ===== -/
theorem rI_nI {a d : Nat} (ha : a < 2 ^ 31) (h0 : 0 < d) (hd : d < 2 ^ 31) : rI (nI a) (nI d) = nI (a % d) := pk_rem ha h0 hd
theorem rL_lN {a d : Nat} (ha : a < 2 ^ 63) (h0 : 0 < d) (hd : d < 2 ^ 63) : rL (lN a) (lN d) = lN (a % d) := pk_lRem ha h0 hd
theorem gcd_step (a b : Nat) : Nat.gcd b (a % b) = Nat.gcd a b := by
  rw [Nat.gcd_comm a b, Nat.gcd_comm b (a % b), ← Nat.gcd_rec]
theorem gcd_half (b r : Nat) (h : r < b) (h2 : 0 < r) : 2 * (b % r) ≤ b := by
  rcases Nat.lt_or_ge (2 * r) b with q | q
  · have := Nat.mod_lt b h2
    omega
  · have e : b % r = b - r ∨ b % r = 0 := by
      rcases Nat.lt_or_ge (b - r) r with q2 | q2
      · left
        rw [Nat.mod_eq_sub_mod (by omega), Nat.mod_eq_of_lt q2]
      · right
        have : b = 2 * r := by omega
        rw [this]; exact Nat.mul_mod_left 2 r
    omega
theorem gcd_X (x : GX) : ∀ (j a b i F : Nat), a < 2 ^ 31 → b < 2 ^ j → j ≤ 20 → i + 2 * j + 1 ≤ 100 → 2 * j + 1 < F → k_X4_commonDivisor_7 F (nI a) (nI b) (nI i) x = some (nI (Nat.gcd a b), x) := by
  intro j
  induction j with
  | zero =>
    intro a b i F ha hb hj hi hF
    obtain ⟨F, rfl⟩ : ∃ k, F = k + 1 := ⟨F - 1, by omega⟩
    have : b = 0 := by have : (2 : Nat) ^ 0 = 1 := rfl; omega
    subst this
    show b_X4_commonDivisor_7 (k_X4_commonDivisor_7 F) (nI a) (nI 0) (nI i) x = _
    unfold b_X4_commonDivisor_7
    rw [if_neg (show ¬ (100 : Int32) ≤ nI i from nI_ge (b := 100) (by omega) (by decide)), if_pos (show nI 0 = (0 : Int32) from rfl), Nat.gcd_zero_right]
  | succ j ih =>
    intro a b i F ha hb hj hi hF
    have hp : (2 : Nat) ^ (j + 1) = 2 * 2 ^ j := by rw [Nat.pow_succ, Nat.mul_comm]
    have h20 : (2 : Nat) ^ (j + 1) ≤ 2 ^ 20 := Nat.pow_le_pow_right (by decide) (by omega)
    have hb31 : b < 2 ^ 31 := Nat.lt_of_lt_of_le hb (Nat.le_trans h20 (by decide))
    obtain ⟨F, rfl⟩ : ∃ k, F = k + 1 := ⟨F - 1, by omega⟩
    by_cases q : b = 0
    · subst q
      show b_X4_commonDivisor_7 (k_X4_commonDivisor_7 F) (nI a) (nI 0) (nI i) x = _
      unfold b_X4_commonDivisor_7
      rw [if_neg (show ¬ (100 : Int32) ≤ nI i from nI_ge (b := 100) (by omega) (by decide)), if_pos (show nI 0 = (0 : Int32) from rfl), Nat.gcd_zero_right]
    · have s1 : k_X4_commonDivisor_7 (F + 1) (nI a) (nI b) (nI i) x = k_X4_commonDivisor_7 F (nI b) (nI (a % b)) (nI (i + 1)) x := by
        show b_X4_commonDivisor_7 (k_X4_commonDivisor_7 F) (nI a) (nI b) (nI i) x = _
        unfold b_X4_commonDivisor_7
        rw [if_neg (show ¬ (100 : Int32) ≤ nI i from nI_ge (b := 100) (by omega) (by decide)), if_neg (nI_ne0 (by omega) hb31), if_pos (nI_ne0 (by omega) hb31), bnd_some, rI_nI ha (by omega) hb31, show nI i + (1 : Int32) = nI (i + 1) from nI_add i 1]
      rw [s1]
      have hr := Nat.mod_lt a (show 0 < b by omega)
      obtain ⟨F, rfl⟩ : ∃ k, F = k + 1 := ⟨F - 1, by omega⟩
      rw [← gcd_step a b]
      generalize a % b = r at hr
      by_cases q2 : r = 0
      · subst q2
        show b_X4_commonDivisor_7 (k_X4_commonDivisor_7 F) (nI b) (nI 0) (nI (i + 1)) x = _
        unfold b_X4_commonDivisor_7
        rw [if_neg (show ¬ (100 : Int32) ≤ nI (i + 1) from nI_ge (b := 100) (by omega) (by decide)), if_pos (show nI 0 = (0 : Int32) from rfl), Nat.gcd_zero_right]
      · have s2 : k_X4_commonDivisor_7 (F + 1) (nI b) (nI r) (nI (i + 1)) x = k_X4_commonDivisor_7 F (nI r) (nI (b % r)) (nI (i + 2)) x := by
          show b_X4_commonDivisor_7 (k_X4_commonDivisor_7 F) (nI b) (nI r) (nI (i + 1)) x = _
          unfold b_X4_commonDivisor_7
          rw [if_neg (show ¬ (100 : Int32) ≤ nI (i + 1) from nI_ge (b := 100) (by omega) (by decide)), if_neg (nI_ne0 (by omega) (by omega)), if_pos (nI_ne0 (by omega) (by omega)), bnd_some, rI_nI hb31 (by omega) (by omega), show nI (i + 1) + (1 : Int32) = nI (i + 2) from nI_add (i + 1) 1]
        rw [s2, ← gcd_step b r]
        have := gcd_half b r hr (by omega)
        exact ih r (b % r) (i + 2) F (by omega) (by omega) (by omega) (by omega) (by omega)
theorem gcd_M (m : GM) (x0 x2 : Int64) (p : Int32) : ∀ (j a b F : Nat), a < 2 ^ 31 → b < 2 ^ j → j ≤ 20 → 2 * j + 1 < F → 0 < Nat.gcd a b → k_X5_lowest_16 F x0 x2 p (lN a) (lN b) m = if p ≠ 0 then some (x2 / lN (Nat.gcd a b), m) else some (x0 / lN (Nat.gcd a b), m) := by
  have fin : ∀ (F a : Nat), a < 2 ^ 31 → 0 < a → k_X5_lowest_16 (F + 1) x0 x2 p (lN a) (lN 0) m = if p ≠ 0 then some (x2 / lN a, m) else some (x0 / lN a, m) := by
    intro F a ha h0
    have hne : ¬ lN a = (0 : Int64) := fun q => by
      have := (lN_eq (b := 0) ha (by decide)).mp q
      omega
    show b_X5_lowest_16 (k_X5_lowest_16 F) x0 x2 p (lN a) (lN 0) m = _
    unfold b_X5_lowest_16
    rw [if_pos ((lg_cmp_eq (lN 0) 0).mpr rfl), if_pos hne, if_pos hne]
  have hs : ∀ (F a b : Nat), a < 2 ^ 31 → b < 2 ^ 31 → 0 < b → k_X5_lowest_16 (F + 1) x0 x2 p (lN a) (lN b) m = k_X5_lowest_16 F x0 x2 p (lN b) (lN (a % b)) m := by
    intro F a b ha hb h0
    have hne : ¬ lN b = (0 : Int64) := fun q => by
      have := (lN_eq (b := 0) hb (by decide)).mp q
      omega
    show b_X5_lowest_16 (k_X5_lowest_16 F) x0 x2 p (lN a) (lN b) m = _
    unfold b_X5_lowest_16
    rw [if_neg (fun q => hne ((lg_cmp_eq _ _).mp q)), if_pos hne, bnd_some, rL_lN (by omega) h0 (by omega)]
  intro j
  induction j with
  | zero =>
    intro a b F ha hb hj hF hg
    obtain ⟨F, rfl⟩ : ∃ k, F = k + 1 := ⟨F - 1, by omega⟩
    have : b = 0 := by have : (2 : Nat) ^ 0 = 1 := rfl; omega
    subst this
    rw [Nat.gcd_zero_right] at hg ⊢
    exact fin F a ha hg
  | succ j ih =>
    intro a b F ha hb hj hF hg
    have hp : (2 : Nat) ^ (j + 1) = 2 * 2 ^ j := by rw [Nat.pow_succ, Nat.mul_comm]
    have h20 : (2 : Nat) ^ (j + 1) ≤ 2 ^ 20 := Nat.pow_le_pow_right (by decide) (by omega)
    have hb31 : b < 2 ^ 31 := Nat.lt_of_lt_of_le hb (Nat.le_trans h20 (by decide))
    obtain ⟨F, rfl⟩ : ∃ k, F = k + 1 := ⟨F - 1, by omega⟩
    by_cases q : b = 0
    · subst q
      rw [Nat.gcd_zero_right] at hg ⊢
      exact fin F a ha hg
    · rw [hs F a b ha hb31 (by omega)]
      have hr := Nat.mod_lt a (show 0 < b by omega)
      obtain ⟨F, rfl⟩ : ∃ k, F = k + 1 := ⟨F - 1, by omega⟩
      rw [← gcd_step a b] at hg ⊢
      generalize a % b = r at hr hg
      by_cases q2 : r = 0
      · subst q2
        rw [Nat.gcd_zero_right] at hg ⊢
        exact fin F b hb31 hg
      · rw [hs F b r hb31 (by omega) (by omega)]
        rw [← gcd_step b r] at hg ⊢
        have := gcd_half b r hr (by omega)
        exact ih r (b % r) F (by omega) (by omega) (by omega) (by omega) hg
/-- above or below the line, in lowest terms: both alike -/
theorem low_pair (x : GX) (m : GM) {T S : Nat} (hT : T < 4096) (hS : S < 4096) (h0 : 0 < S) (p : Int32) (hp : p = 0 ∨ p = 1) :
    ∃ r, f_X4_inLowestTerms (nI T) (nI S) p x = some (r, x) ∧ f_X5_lowest (lN T) (lN S) p m = some (r, m) := by
  have hg : 0 < Nat.gcd T S := Nat.gcd_pos_of_pos_right _ h0
  have hgS : Nat.gcd T S ≤ S := Nat.le_of_dvd h0 (Nat.gcd_dvd_right T S)
  have e1 := gcd_X x 12 T S 0 FU (by omega) hS (by decide) (by decide) (by decide)
  have hw : wi p 0 1 = 1 := by rcases hp with rfl | rfl <;> decide
  have hX : f_X4_inLowestTerms (nI T) (nI S) p x = if p ≠ 0 then some (lN (S / Nat.gcd T S), x) else some (lN (T / Nat.gcd T S), x) := by
    unfold f_X4_inLowestTerms f_X4_commonDivisor
    have hdS : S / Nat.gcd T S ≤ S := Nat.div_le_self _ _
    have hdT : T / Nat.gcd T S ≤ T := Nat.div_le_self _ _
    rw [if_neg (nI_nle h0 (by omega)), within_X, hw, bnd_some, if_pos (show (1 : Int32) ≠ 0 by decide), show k_X4_commonDivisor_7 FU (nI T) (nI S) (0 : Int32) x = _ from e1, bnd_some, if_pos (show (0 : Int32) < nI (Nat.gcd T S) from nI_lt (a := 0) hg (by omega)), if_pos (nI_ne0 hg (by omega)), if_pos (nI_ne0 hg (by omega)), pk_div (by omega) hg (by omega), pk_div (by omega) hg (by omega), nI_l (by omega), nI_l (by omega)]
  have hM : f_X5_lowest (lN T) (lN S) p m = if p ≠ 0 then some (lN (S / Nat.gcd T S), m) else some (lN (T / Nat.gcd T S), m) := by
    unfold f_X5_lowest
    by_cases q : T = 0
    · subst q
      rw [if_neg (show ¬ lg_cmp (lN 0) (0 : Int64) ≠ 0 by decide), Nat.gcd_zero_left, Nat.div_self h0, Nat.zero_div]
      rcases hp with rfl | rfl
      · rw [if_neg (show ¬ (0 : Int32) ≠ 0 from fun q => q rfl)]; rfl
      · rw [if_pos (show (1 : Int32) ≠ 0 by decide)]; rfl
    · have hne : lg_cmp (lN T) (0 : Int64) ≠ 0 := fun r => by
        have := (lN_eq (a := T) (b := 0) (by omega) (by decide)).mp ((lg_cmp_eq _ _).mp r)
        exact q this
      rw [if_pos hne, gcd_M m (lN T) (lN S) p 12 T S FU (by omega) hS (by decide) (by decide) hg, pk_lDiv (by omega) hg (by omega), pk_lDiv (by omega) hg (by omega)]
  rw [hX, hM]
  by_cases q : p ≠ 0
  · rw [if_pos q, if_pos q]; exact ⟨_, rfl, rfl⟩
  · rw [if_neg q, if_neg q]; exact ⟨_, rfl, rfl⟩
/-! ===== truth ===== -/
theorem truth_loop {x : GX} {m : GM} (h : RR x m) (p : Int32) (S : Nat) : ∀ (k c F1 F2 A : Nat), c + k = 36 → k < F1 → k < F2 → A ≤ 99 * c → ∃ T : Nat, T ≤ 3564 ∧ k_X2_trueBelief_4 0 F1 (nI A) (nI c) x = some (nI T, x) ∧ k_X5_truth_27 F2 p (nI S) (nI A) (nI c) m = bnd (f_X5_lowest (nI T).toInt64 (nI S).toInt64 p m) fun q3 => some (q3.1, q3.2) := by
  intro k
  induction k with
  | zero =>
    intro c F1 F2 A hc h1 h2 hA
    obtain ⟨F1, rfl⟩ : ∃ k, F1 = k + 1 := ⟨F1 - 1, by omega⟩
    obtain ⟨F2, rfl⟩ : ∃ k, F2 = k + 1 := ⟨F2 - 1, by omega⟩
    have : c = 36 := by omega
    subst this
    refine ⟨A, by omega, ?_, ?_⟩
    · show b_X2_trueBelief_4 0 (k_X2_trueBelief_4 0 F1) (nI A) (nI 36) x = _
      unfold b_X2_trueBelief_4
      rw [if_pos (by decide)]
    · show b_X5_truth_27 (k_X5_truth_27 F2) p (nI S) (nI A) (nI 36) m = _
      unfold b_X5_truth_27
      rw [if_pos (by decide)]
  | succ k ih =>
    intro c F1 F2 A hc h1 h2 hA
    obtain ⟨F1, rfl⟩ : ∃ k, F1 = k + 1 := ⟨F1 - 1, by omega⟩
    obtain ⟨F2, rfl⟩ : ∃ k, F2 = k + 1 := ⟨F2 - 1, by omega⟩
    have hc36 : c < 36 := by omega
    have h5 : xR x 0 = mL m 0 := by obtain ⟨_, _, _, _, h5, _⟩ := id h.1; exact h5
    obtain ⟨b, hb, eb1, eb2⟩ := belief_of h.1 hc36
    have hX : k_X2_trueBelief_4 0 (F1 + 1) (nI A) (nI c) x = if bL (mL m 0) c = true then k_X2_trueBelief_4 0 F1 (nI (A + b)) (nI (c + 1)) x else k_X2_trueBelief_4 0 F1 (nI A) (nI (c + 1)) x := by
      show b_X2_trueBelief_4 0 (k_X2_trueBelief_4 0 F1) (nI A) (nI c) x = _
      unfold b_X2_trueBelief_4
      rw [if_neg (show ¬ (36 : Int32) ≤ nI c from nI_ge (b := 36) hc36 (by decide)), hasRock_X 0 c (by omega), bnd_some, h5, grd_ok _ hc36 (by decide), nI_clamp (by omega), eb2, bnd_some, bnd_some, nIs, Int32.add_zero, show nI c + (1 : Int32) = nI (c + 1) from nI_add c 1]
      by_cases q : bL (mL m 0) c = true
      · rw [if_pos q, if_pos q, if_neg (show ¬ (1 : Int32) = 0 by decide)]
      · rw [if_neg q, if_neg q, if_pos (show (0 : Int32) = 0 from rfl)]
    have hM : k_X5_truth_27 (F2 + 1) p (nI S) (nI A) (nI c) m = if bL (mL m 0) c = true then k_X5_truth_27 F2 p (nI S) (nI (A + b)) (nI (c + 1)) m else k_X5_truth_27 F2 p (nI S) (nI A) (nI (c + 1)) m := by
      show b_X5_truth_27 (k_X5_truth_27 F2) p (nI S) (nI A) (nI c) m = _
      unfold b_X5_truth_27
      rw [if_neg (show ¬ (36 : Int32) ≤ nI c from nI_ge (b := 36) hc36 (by decide)), hasRock_M c (by omega), bnd_some, grd_ok _ hc36 (by decide), nI_clamp (by omega), eb1, bnd_some, bnd_some, nIs, Int32.add_zero, show nI c + (1 : Int32) = nI (c + 1) from nI_add c 1]
      by_cases q : bL (mL m 0) c = true
      · rw [if_pos q, if_pos q, if_neg (show ¬ (1 : Int32) = 0 by decide)]
      · rw [if_neg q, if_neg q, if_pos (show (0 : Int32) = 0 from rfl)]
    rw [hX, hM]
    by_cases q : bL (mL m 0) c = true
    · simp only [if_pos q]
      exact ih (c + 1) F1 F2 (A + b) (by omega) (by omega) (by omega) (by omega)
    · simp only [if_neg q]
      exact ih (c + 1) F1 F2 A (by omega) (by omega) (by omega) (by omega)
theorem eq_truth (a : Int32) : EQ (f_X4_truth a) (f_X5_truth a) := by
  intro x m h
  obtain ⟨S, hS, e1, e2⟩ := sum_pair h.1
  obtain ⟨T, hT, c1, c2⟩ := truth_loop h a S 36 0 FU FU 0 rfl (by decide) (by decide) (by decide)
  unfold f_X4_truth f_X5_truth f_X2_trueBelief
  rw [show k_X2_trueBelief_4 0 FU (0 : Int32) (0 : Int32) x = _ from c1, bnd_some, e1, bnd_some, e2, bnd_some, in_M, bnd_some]
  by_cases q : S = 0
  · subst q
    unfold f_X4_inLowestTerms
    rw [if_pos (show nI 0 ≤ (0 : Int32) by decide), bnd_some, if_neg (show ¬ nI 0 ≠ (0 : Int32) from fun r => r rfl)]
    have : (if wi a 0 1 = 0 then (some ((-4611686018427387904 : Int64), m)) else (some ((-4611686018427387904 : Int64), m))) = some ((-4611686018427387904 : Int64), m) := by split <;> rfl
    rw [this]
    exact PP_same h
  · rcases wi_b a with e | ⟨e, ha⟩
    · unfold f_X4_inLowestTerms
      rw [if_neg (nI_nle (by omega) (by omega)), within_X, bnd_some, e]
      simp only [ifs, if_true, if_false]
      rw [bnd_some]
      exact PP_same h
    · rw [e, if_neg (show ¬ (1 : Int32) = 0 by decide), if_pos (show nI S ≠ 0 from nI_ne0 (by omega) (by omega))]
      obtain ⟨r, l1, l2⟩ := low_pair x m (T := T) (S := S) (by omega) (by omega) (by omega) a ha
      rw [l1, bnd_some, show k_X5_truth_27 FU a (nI S) (0 : Int32) (0 : Int32) m = _ from c2, nI_l (by omega), nI_l (by omega), l2, bnd_some]
      exact PP_same h
/-! ===== tales by lots ===== -/
theorem think_pair2 {x : GX} {m : GM} (h : SR 0 x m) : ∃ x', f_X4_think x = some ((), x') ∧ EX 1 x x' ∧ SR 1 x' m ∧ xS x' 1 0 = xS x 0 0 := by
  obtain ⟨x', e, a0, a1, a2, a3, a4⟩ := become_spec (y := 1) (y1 := 0) x (by decide)
  refine ⟨x', ?_, a0, SR_tr h a1 a2 a3 a4 (fun t => ⟨a0.2.2.2.2.2.1 t 0 (by decide), a0.2.2.2.2.2.1 t 2 (by decide)⟩), a1 0 (by decide)⟩
  unfold f_X4_think
  rw [e, bnd_some]
theorem lays_14 {m0 m : GM} {f : Nat → Int32} (A : Int32) (hk : KP m0 f) (hf : FM (mk m0 f) m) : ∃ m', f_X5_lays (tI m 14 A) = some ((), m') ∧ EM m0 m' ∧ mI m' 14 = A := by
  obtain ⟨m1, e1, a1, a2, a3, a4, _⟩ := lays_1 36 0 FU (tI m 14 A) rfl (by decide)
  obtain ⟨m', e2, b1, b2, b3, b4, b5, b6, _⟩ := lays_2 6 0 FU m1 rfl (by decide)
  obtain ⟨k1, k2, k3, k4, k5⟩ := hk
  obtain ⟨f1, f2, f3⟩ := hf
  have h19 : mA m 19 = f := f3 19 (by decide) (by decide) (by decide) (by decide) (by decide)
  have h19' : mA m1 19 = f := (a3 19 (by decide)).trans h19
  refine ⟨m', e1.trans e2, ⟨?_, ?_, ?_, ?_, ?_⟩, ?_⟩
  · rw [b1, a2]; exact f1
  · intro i hi
    by_cases q1 : i = 1
    · subst q1; rw [b3, h19', k4]
    · by_cases q2 : i = 2
      · subst q2; rw [b4, h19', k5]
      · rw [b2 i q1 q2, a1, mI_n _ _ hi, f2 i q1 q2]; rfl
  · intro a h2 h4 h5 h17 h18 hq
    rw [b5 a h2 h4, a3 a h5]
    show mA m a = _
    rw [f3 a h2 h4 h5 h17 h18, mk_o _ _ hq]
  · intro i hi
    rw [b5 5 (by decide) (by decide), a4 i (by omega) hi]
    show mA m 19 i = _
    rw [h19, k1 i hi]
  · intro i hi
    obtain ⟨c1, c2⟩ := b6 i (by omega) hi
    rw [c1, c2, h19', k2 i hi, k3 i hi]
    exact ⟨rfl, rfl⟩
  · rw [b2 14 (by decide) (by decide), a1, mI_s]
theorem rL_36 (L : Nat) (h : L < 2 ^ 31) : (rL (lN L) (36 : Int64)).toInt32 = nI (L % 36) := by
  rw [show (36 : Int64) = lN 36 from rfl, rL_lN (by omega) (by decide) (by decide), lN_i]
theorem rL_M (L : Nat) (h : L < 2 ^ 31) : rL (lN L * (48271 : Int64)) (2147483647 : Int64) = lN (L * 48271 % 2147483647) := by
  rw [show (48271 : Int64) = lN 48271 from rfl, lN_mul, show (2147483647 : Int64) = lN 2147483647 from rfl, rL_lN (by omega) (by decide) (by decide)]
theorem tales_loop {x : GX} {m : GM} {f : Nat → Int32} {n : Nat} {v : Int32} (h : RR x m) (hk : KP m f) (hn : mI m 0 = nI n) (hn6 : n ≤ 6) (hv1 : (-99 : Int32) ≤ v) (hv2 : v ≤ 99) :
    ∀ (k c F1 F2 L : Nat) (x1 : GX) (m1 : GM), c + k = 6 → k < F1 → k < F2 → L < 2 ^ 31 → EX 1 x x1 → FM (mk m f) m1 → SR 1 x1 m1 → (∀ i, i < 32 → bt (xS x 0 0) i = true → bt (xS x1 1 0) i = true) → (∀ i, i < 32 → n ≤ i → bt (xS x1 1 0) i = bt (xS x 0 0) i) →
      ∃ x2 m2 j A, k_X4_lossesByTale_20 F1 v (lN (L * 48271 % 2147483647)) (nI c) x1 = some (nI j, x2) ∧ k_X5_tales_15 F2 v (lN L) (xS x1 1 0 &&& (xS x 0 0 ^^^ (-1 : Int32))) (nI c) m1 = some (nI j, m2) ∧ EX 1 x x2 ∧ EM m m2 ∧ j ≤ 6 ∧ f_X2_afloat 1 x2 = some (A, x2) ∧ mI m2 14 = A := by
  intro k
  induction k with
  | zero =>
    intro c F1 F2 L x1 m1 hc h1 h2 hL hx hf hs ha hb
    obtain ⟨F1, rfl⟩ : ∃ k, F1 = k + 1 := ⟨F1 - 1, by omega⟩
    obtain ⟨F2, rfl⟩ : ∃ k, F2 = k + 1 := ⟨F2 - 1, by omega⟩
    have : c = 6 := by omega
    subst this
    have hn1 : mI m1 0 = nI n := by rw [hf.2.1 0 (by decide) (by decide)]; exact hn
    obtain ⟨A, c1, c2, _⟩ := afloat_pair hs hn1 hn6
    obtain ⟨m2, e, hE, h14⟩ := lays_14 A hk hf
    obtain ⟨K, hK, eK⟩ := low6 (v := xS x1 1 0 &&& (xS x 0 0 ^^^ (-1 : Int32))) (fun i hi h6 => by
      rw [b_and, b_xor, b_m1 i hi, Bool.xor_true, hb i hi (by omega)]
      cases bt (xS x 0 0) i <;> rfl)
    obtain ⟨j, hj, e1, e2, e3⟩ := bc_ones K hK m2
    have hx0 : xS x1 0 0 = xS x 0 0 := by rw [hx.2.1 0 (by decide)]
    refine ⟨x1, m2, j, A, ?_, ?_, hx, hE, hj, c1, h14⟩
    · show b_X4_lossesByTale_20 (k_X4_lossesByTale_20 F1) v _ (nI 6) x1 = _
      unfold b_X4_lossesByTale_20
      rw [if_pos (show (6 : Int32) ≤ nI 6 by decide), hx0, eK, e1 x1, bnd_some]
    · show b_X5_tales_15 (k_X5_tales_15 F2) v _ _ (nI 6) m1 = _
      unfold b_X5_tales_15
      rw [if_pos (show (6 : Int32) ≤ nI 6 by decide), c2, bnd_some, bnd_some, e, bnd_some, eK, e2, bnd_some]
  | succ k ih =>
    intro c F1 F2 L x1 m1 hc h1 h2 hL hx hf hs ha hb
    obtain ⟨F1, rfl⟩ : ∃ k, F1 = k + 1 := ⟨F1 - 1, by omega⟩
    obtain ⟨F2, rfl⟩ : ∃ k, F2 = k + 1 := ⟨F2 - 1, by omega⟩
    have hL2 : L * 48271 % 2147483647 < 2 ^ 31 := by
      have := Nat.mod_lt (L * 48271) (show 0 < 2147483647 by decide)
      omega
    have hcell : L * 48271 % 2147483647 % 36 < 36 := Nat.mod_lt _ (by decide)
    obtain ⟨w, hw⟩ : ∃ w, w = L * 48271 % 2147483647 := ⟨_, rfl⟩
    rw [← hw] at hL2 hcell
    obtain ⟨jj, hjj, d1, d2⟩ := hear_pair hs hcell hv1 hv2
    have hT := SR_belief (c := w % 36) hs hjj
    obtain ⟨x3, m3, bb, e1, e2, a1, a2, a3, a4, a5, a6, a7⟩ := thought_night hT (FM_trans hf (FM_tA _ _ _ _ (by decide))) hn hn6
    obtain ⟨x4, m4, j, A, g1, g2, g3, g4, g5, g6, g7⟩ := ih (c + 1) F1 F2 w x3 m3 (by omega) (by omega) (by omega) hL2 (EX_trans hx (EX_trans (EX_sB _ _ _ _ _) a2)) a3 a1 (fun i hi q => a6 i hi (ha i hi q)) (fun i hi q => (a7 i hi q).trans (hb i hi q))
    refine ⟨x4, m4, j, A, ?_, ?_, g3, g4, g5, g6, g7⟩
    · rw [← hw]
      show b_X4_lossesByTale_20 (k_X4_lossesByTale_20 F1) v _ (nI c) x1 = _
      unfold b_X4_lossesByTale_20
      rw [if_neg (show ¬ (6 : Int32) ≤ nI c from nI_ge (b := 6) (by omega) (by decide)), rL_36 w hL2, d1, bnd_some, e1, bnd_some, bnd_some, rL_M w hL2, show nI c + (1 : Int32) = nI (c + 1) from nI_add c 1]
      exact g1
    · show b_X5_tales_15 (k_X5_tales_15 F2) v _ _ (nI c) m1 = _
      unfold b_X5_tales_15
      have hcl : clp (nI (w % 36)) 0 35 = nI (w % 36) := by
        rw [show (35 : Int32) = nI 35 from rfl, show (0 : Int32) = nI 0 from rfl, clp_nI (by omega) (by decide) (by omega), Nat.min_eq_left (by omega)]
      rw [if_neg (show ¬ (6 : Int32) ≤ nI c from nI_ge (b := 6) (by omega) (by decide)), rL_M L hL, ← hw, bnd_some, rL_36 w hL2, within5_eq, hcl, bnd_some, d2, bnd_some, e2, bnd_some, bnd_some, show nI c + (1 : Int32) = nI (c + 1) from nI_add c 1]
      rw [← g2]
      congr 1
      apply b_ext
      intro i hi
      rw [a5]
      show bt (xS x1 1 0 &&& (xS x 0 0 ^^^ -1) ||| (xS x3 1 0 &&& (xS x1 1 0 ^^^ -1))) i = _
      rw [b_or, b_and, b_and, b_and, b_xor, b_xor, b_m1 i hi, Bool.xor_true, Bool.xor_true]
      have p1 := ha i hi
      have p2 : bt (xS x1 1 0) i = true → bt (xS x3 1 0) i = true := a6 i hi
      cases w1 : bt (xS x 0 0) i <;> cases w2 : bt (xS x1 1 0) i <;> cases w3 : bt (xS x3 1 0) i <;> simp_all
theorem tales_pair {x : GX} {m : GM} {S : Nat} {v : Int32} (h : RR x m) (hS : S ≤ 200000) (hv1 : (-99 : Int32) ≤ v) (hv2 : v ≤ 99) :
    ∃ x2 m2 j A, f_X4_lossesByTale (nI S) v x = some (nI j, x2) ∧ f_X5_tales (nI S) v m = some (nI j, m2) ∧ RR x2 m2 ∧ RR x2 m ∧ j ≤ 6 ∧ f_X2_afloat 1 x2 = some (A, x2) ∧ mI m2 14 = A := by
  obtain ⟨n, hn6, hm, hx⟩ := RR_n h
  obtain ⟨x1, e1, a1, a2, a3⟩ := think_pair2 h.1
  obtain ⟨f, e2, hk⟩ := keeps_spec m
  obtain ⟨x2, m2, j, A, c1, c2, c3, c4, c5, c6, c7⟩ := tales_loop h hk hm hn6 hv1 hv2 6 0 FU FU (S + 1) x1 (mk m f) rfl (by decide) (by decide) (by omega) a1 (FM_refl _) (SR_mk f a2) (fun i _ q => by rw [a3]; exact q) (fun i _ _ => by rw [a3])
  refine ⟨x2, m2, j, A, ?_, ?_, RR_st h c3 c4, RR_st h c3 (EM_refl m), c5, c6, c7⟩
  · unfold f_X4_lossesByTale
    rw [e1, bnd_some, bnd_some, nI_l (by omega), lN_1, rL_M (S + 1) (by omega)]
    exact c1
  · unfold f_X5_tales
    have hz : xS x1 1 0 &&& (xS x 0 0 ^^^ (-1 : Int32)) = 0 := by
      rw [a3]
      apply b_ext
      intro i hi
      rw [b_and, b_xor, b_m1 i hi, Bool.xor_true, b_0]
      cases bt (xS x 0 0) i <;> rfl
    rw [hz] at c2
    rw [bnd_some, e2, bnd_some, nI_l (by omega), lN_1]
    exact c2
theorem eq_drawn (a b c : Int32) : EQ (f_X4_drawn a b c) (f_X5_drawn a b c) := by
  intro x m h
  simp only [f_X4_drawn, f_X5_drawn, within_X, in_M, bnd_some]
  rcases wi_lit a 99999 (by decide) with e | ⟨e, S, hS, rfl⟩
  · simp only [e, ifs, if_true]
    exact PP_same h
  · simp only [e, ifs, if_false]
    rcases wi_rng b (-99) 99 with e | ⟨e, b1, b2⟩
    · simp only [e, ifs, if_true]
      exact PP_same h
    · simp only [e, ifs, if_false]
      rcases wi_rng c 0 1 with e | ⟨e, _, _⟩
      · simp only [e, ifs, if_false]
        exact PP_same h
      · simp only [e, ifs, if_true]
        obtain ⟨x2, m2, j, A, e1, e2, hR, _, hj, e3, e4⟩ := tales_pair h (show S ≤ 200000 by omega) b1 b2
        rw [e1, e2, bnd_some, bnd_some, e3, bnd_some, e4]
        by_cases q : c ≠ 0
        · rw [if_pos q, if_pos q]; exact PP_same hR
        · rw [if_neg q, if_neg q]; exact PP_same hR
theorem odds_bad {S N : Nat} {v w p : Int32} (hS : S ≤ 99999) (hN1 : 1 ≤ N) (hN : N ≤ 40) (hv1 : (-99 : Int32) ≤ v) (hv2 : v ≤ 99) (hp : wi p 0 1 = 0) :
    ∀ (k c F : Nat) (g : Int32) (x : GX) (m : GM), c + k = N → k < F → RR x m → PP (k_X4_odds_52 F (nI S) (nI N) v w p g (nI c) x) (some ((-4611686018427387904 : Int64), m)) := by
  intro k
  induction k with
  | zero =>
    intro c F g x m hc hF h
    obtain ⟨F, rfl⟩ : ∃ k, F = k + 1 := ⟨F - 1, by omega⟩
    show PP (b_X4_odds_52 (k_X4_odds_52 F) (nI S) (nI N) v w p g (nI c) x) _
    unfold b_X4_odds_52 f_X4_inLowestTerms
    rw [if_pos (nI_le (by omega) (by omega)), if_neg (nI_nle (by omega) (by omega)), within_X, bnd_some, hp]
    simp only [ifs, if_false, bnd_some]
    exact PP_same h
  | succ k ih =>
    intro c F g x m hc hF h
    obtain ⟨F, rfl⟩ : ∃ k, F = k + 1 := ⟨F - 1, by omega⟩
    obtain ⟨x2, m2, j, A, e1, e2, _, hR, hj, e3, e4⟩ := tales_pair h (show S + c ≤ 200000 by omega) hv1 hv2
    show PP (b_X4_odds_52 (k_X4_odds_52 F) (nI S) (nI N) v w p g (nI c) x) _
    unfold b_X4_odds_52
    rw [if_neg (nI_ge (by omega) (by omega)), nIs, e1, bnd_some, show nI c + (1 : Int32) = nI (c + 1) from nI_add c 1]
    by_cases q : w < nI j
    · rw [if_pos q]; exact ih (c + 1) F _ x2 m (by omega) (by omega) hR
    · rw [if_neg q]; exact ih (c + 1) F _ x2 m (by omega) (by omega) hR
theorem odds_loop {S N : Nat} {v w p : Int32} (hS : S ≤ 99999) (hN1 : 1 ≤ N) (hN : N ≤ 40) (hv1 : (-99 : Int32) ≤ v) (hv2 : v ≤ 99) (hp : p = 0 ∨ p = 1) :
    ∀ (k c F1 F2 g : Nat) (x : GX) (m : GM), c + k = N → k < F1 → k < F2 → g ≤ c → RR x m → PP (k_X4_odds_52 F1 (nI S) (nI N) v w p (nI g) (nI c) x) (k_X5_odds_75 F2 (nI S) (nI N) v w p (lN g) (nI c) m) := by
  intro k
  induction k with
  | zero =>
    intro c F1 F2 g x m hc h1 h2 hg h
    obtain ⟨F1, rfl⟩ : ∃ k, F1 = k + 1 := ⟨F1 - 1, by omega⟩
    obtain ⟨F2, rfl⟩ : ∃ k, F2 = k + 1 := ⟨F2 - 1, by omega⟩
    obtain ⟨r, l1, l2⟩ := low_pair x m (T := g) (S := N) (by omega) (by omega) (by omega) p hp
    show PP (b_X4_odds_52 (k_X4_odds_52 F1) (nI S) (nI N) v w p (nI g) (nI c) x) (b_X5_odds_75 (k_X5_odds_75 F2) (nI S) (nI N) v w p (lN g) (nI c) m)
    unfold b_X4_odds_52 b_X5_odds_75
    rw [if_pos (nI_le (by omega) (by omega)), if_pos (nI_le (by omega) (by omega)), l1, bnd_some, nI_l (by omega), l2, bnd_some]
    exact PP_same h
  | succ k ih =>
    intro c F1 F2 g x m hc h1 h2 hg h
    obtain ⟨F1, rfl⟩ : ∃ k, F1 = k + 1 := ⟨F1 - 1, by omega⟩
    obtain ⟨F2, rfl⟩ : ∃ k, F2 = k + 1 := ⟨F2 - 1, by omega⟩
    obtain ⟨x2, m2, j, A, e1, e2, hR, _, hj, e3, e4⟩ := tales_pair h (show S + c ≤ 200000 by omega) hv1 hv2
    show PP (b_X4_odds_52 (k_X4_odds_52 F1) (nI S) (nI N) v w p (nI g) (nI c) x) (b_X5_odds_75 (k_X5_odds_75 F2) (nI S) (nI N) v w p (lN g) (nI c) m)
    unfold b_X4_odds_52 b_X5_odds_75
    rw [if_neg (nI_ge (by omega) (by omega)), if_neg (nI_ge (by omega) (by omega)), nIs, e1, bnd_some, e2, bnd_some, show nI c + (1 : Int32) = nI (c + 1) from nI_add c 1]
    by_cases q : w < nI j
    · rw [if_pos q, if_pos q, bnd_some, Int64.add_zero]
      exact ih (c + 1) F1 F2 g x2 m2 (by omega) (by omega) (by omega) (by omega) hR
    · rw [if_neg q, if_neg q, bnd_some, lN_1, show nI g + (1 : Int32) = nI (g + 1) from nI_add g 1]
      exact ih (c + 1) F1 F2 (g + 1) x2 m2 (by omega) (by omega) (by omega) (by omega) hR
theorem eq_odds (a b c d e : Int32) : EQ (f_X4_odds a b c d e) (f_X5_odds a b c d e) := by
  intro x m h
  simp only [f_X4_odds, f_X5_odds, b_X5_odds_37, within_X, in_M, bnd_some]
  rcases wi_lit a 99999 (by decide) with e0 | ⟨e0, S, hS, rfl⟩
  · simp only [e0, ifs, if_true]
    exact PP_same h
  · simp only [e0, ifs, if_false]
    rcases wi_lo b 1 40 (by decide) (by decide) with e1 | ⟨e1, N, hN1, hN, rfl⟩
    · rw [show wi b 1 40 = 0 from e1]
      simp only [ifs, if_true]
      exact PP_same h
    · rw [show wi (nI N) 1 40 = 1 from e1]
      simp only [ifs, if_false]
      rcases wi_rng c (-99) 99 with e2 | ⟨e2, b1, b2⟩
      · simp only [e2, ifs, if_true]
        exact PP_same h
      · simp only [e2, ifs, if_false]
        rcases wi_rng d 0 6 with e3 | ⟨e3, _, _⟩
        · simp only [e3, ifs, if_false, if_true]
          exact PP_same h
        · simp only [e3, ifs, if_true, if_false]
          rcases wi_b e with e4 | ⟨e4, hp⟩
          · rw [e4]
            simp only [ifs, if_false]
            exact odds_bad hS hN1 hN b1 b2 e4 N 0 FU 0 x m (by omega) (by show _ < 1000; omega) h
          · rw [e4]
            simp only [ifs, if_true]
            exact odds_loop hS hN1 hN b1 b2 hp N 0 FU FU 0 x m (by omega) (by show _ < 1000; omega) (by show _ < 1000; omega) (by omega) h
