/-! ===== ship, shipsBy, taken ===== -/
theorem bt_clr (x : Int32) (s : Nat) (hs : s < 32) {i : Nat} (hi : i < 32) : bt (x &&& (slI 1 (nI s) ^^^ (-1 : Int32))) i = (bt x i && !decide (i = s)) := by
  rw [b_and, b_xor, b_m1 i hi, bt_bit s hs hi, Bool.xor_true]
def lnX (x : GX) (n : Nat) (k mo c d : Int32) : GX := sS (sS (sB (sB (sB (sB x 0 1 n k) 0 2 n mo) 0 3 n c) 0 4 n d) 0 0 (xS x 0 0 &&& (slI 1 (nI n) ^^^ (-1 : Int32)))) 0 1 (xS x 0 1 + 1)
def lnM (m : GM) (n : Nat) (k mo c d : Int32) : GM := tI (tA (tA (tA (tA (tA m 0 n k) 1 n mo) 2 n c) 3 n d) 4 n 0) 0 (nI n + 1)
theorem RR_ln {x : GX} {m : GM} {n k mo c d : Nat} (h : RR x m) (hm : mI m 0 = nI n) (hx : xS x 0 1 = nI n) (hn : n < 6) (hk : k ≤ 5) (hc : c < 36) : RR (lnX x n (nI k) (nI mo) (nI c) (nI d)) (lnM m n (nI k) (nI mo) (nI c) (nI d)) := by
  have B1 : xB (lnX x n (nI k) (nI mo) (nI c) (nI d)) 0 1 = upd (xB x 0 1) n (nI k) := by
    unfold lnX
    simp (disch := decide) only [xB_s, xB_n, xset]
  have B2 : xB (lnX x n (nI k) (nI mo) (nI c) (nI d)) 0 2 = upd (xB x 0 2) n (nI mo) := by
    unfold lnX
    simp (disch := decide) only [xB_s, xB_n, xset]
  have B3 : xB (lnX x n (nI k) (nI mo) (nI c) (nI d)) 0 3 = upd (xB x 0 3) n (nI c) := by
    unfold lnX
    simp (disch := decide) only [xB_s, xB_n, xset]
  have B4 : xB (lnX x n (nI k) (nI mo) (nI c) (nI d)) 0 4 = upd (xB x 0 4) n (nI d) := by
    unfold lnX
    simp (disch := decide) only [xB_s, xB_n, xset]
  have B0 : xB (lnX x n (nI k) (nI mo) (nI c) (nI d)) 0 0 = xB x 0 0 := by
    unfold lnX
    simp (disch := decide) only [xB_s, xB_n, xset]
  have Bz : xB (lnX x n (nI k) (nI mo) (nI c) (nI d)) 2 = xB x 2 := by
    unfold lnX
    simp (disch := decide) only [xB_z, xset]
  have Sz : xS (lnX x n (nI k) (nI mo) (nI c) (nI d)) 2 = xS x 2 := by
    unfold lnX
    simp (disch := decide) only [xS_z, xset]
  have S1 : xS (lnX x n (nI k) (nI mo) (nI c) (nI d)) 0 1 = nI (n + 1) := by
    unfold lnX
    rw [xS_s, hx]; exact nI_add n 1
  have S0 : xS (lnX x n (nI k) (nI mo) (nI c) (nI d)) 0 0 = xS x 0 0 &&& (slI 1 (nI n) ^^^ (-1 : Int32)) := by
    unfold lnX
    rw [xS_n _ _ _ (by decide), xS_s]
  have So : ∀ j, j ≠ 0 → j ≠ 1 → xS (lnX x n (nI k) (nI mo) (nI c) (nI d)) 0 j = xS x 0 j := by
    intro j j0 j1
    unfold lnX
    rw [xS_n _ _ _ j1, xS_n _ _ _ j0]; rfl
  have A0 : mA (lnM m n (nI k) (nI mo) (nI c) (nI d)) 0 = upd (mA m 0) n (nI k) := by
    unfold lnM
    simp (disch := decide) only [mA_s, mA_n, mset]
  have A1 : mA (lnM m n (nI k) (nI mo) (nI c) (nI d)) 1 = upd (mA m 1) n (nI mo) := by
    unfold lnM
    simp (disch := decide) only [mA_s, mA_n, mset]
  have A2 : mA (lnM m n (nI k) (nI mo) (nI c) (nI d)) 2 = upd (mA m 2) n (nI c) := by
    unfold lnM
    simp (disch := decide) only [mA_s, mA_n, mset]
  have A3 : mA (lnM m n (nI k) (nI mo) (nI c) (nI d)) 3 = upd (mA m 3) n (nI d) := by
    unfold lnM
    simp (disch := decide) only [mA_s, mA_n, mset]
  have A4 : mA (lnM m n (nI k) (nI mo) (nI c) (nI d)) 4 = upd (mA m 4) n 0 := by
    unfold lnM
    simp (disch := decide) only [mA_s, mA_n, mset]
  have Ao : ∀ a, 5 ≤ a → mA (lnM m n (nI k) (nI mo) (nI c) (nI d)) a = mA m a := by
    intro a ha
    unfold lnM
    show mA (tA (tA (tA (tA (tA m 0 n (nI k)) 1 n (nI mo)) 2 n (nI c)) 3 n (nI d)) 4 n 0) a = _
    rw [mA_n _ _ _ (by omega), mA_n _ _ _ (by omega), mA_n _ _ _ (by omega), mA_n _ _ _ (by omega), mA_n _ _ _ (by omega)]
  have I0 : mI (lnM m n (nI k) (nI mo) (nI c) (nI d)) 0 = nI (n + 1) := by
    unfold lnM
    rw [mI_s]; exact nI_add n 1
  have Io : ∀ i, i ≠ 0 → mI (lnM m n (nI k) (nI mo) (nI c) (nI d)) i = mI m i := by
    intro i hi
    unfold lnM
    rw [mI_n _ _ hi]; rfl
  obtain ⟨hS, z1, z2, z3, z4, z5, z6, z7⟩ := h
  refine ⟨?_, ?_, ?_, ?_, ?_, ?_, ?_, ?_⟩
  · obtain ⟨h1, h2, h3, h4, h5, h6, ⟨t, h7, h8, h9⟩, h10, n', h11, h12, h13⟩ := hS
    have hnn : n' = n := (eq_nI (by omega) (by omega)).mp (h12.symm.trans hm)
    subst hnn
    refine ⟨by rw [S1, I0], by rw [So 2 (by decide) (by decide), Io 2 (by decide)]; exact h2, by rw [So 3 (by decide) (by decide), Io 1 (by decide)]; exact h3, by rw [So 4 (by decide) (by decide), Io 5 (by decide)]; exact h4, h5, by rw [Io 2 (by decide)]; exact h6, ⟨t, h7, by rw [Io 5 (by decide)]; exact h8, TR_fr h9 rfl rfl (Ao 7 (by decide)) (Ao 8 (by decide))⟩, ?_, n' + 1, by omega, I0, ?_⟩
    · intro i hi
      rw [B0, Ao 5 (by decide)]; exact h10 i hi
    · intro s hs
      unfold ShR
      rw [B1, B2, B3, B4, S0, A0, A1, A2, A3, A4, bt_clr _ _ (by omega) (by omega)]
      by_cases e : s = n'
      · subst e
        simp only [upd_s, true_and, decide_true, Bool.not_true, Bool.and_false]
        exact ⟨⟨c, hc, rfl⟩, rfl⟩
      · have k := h13 s (by omega)
        unfold ShR at k
        simp only [upd_n _ _ e, e, decide_false, Bool.not_false, Bool.and_true]
        exact k
  · exact TXR_fr z1 rfl (fun _ => ⟨rfl, rfl⟩) (Io 4 (by decide)) (Io 5 (by decide)) (Ao 7 (by decide)) (Ao 8 (by decide))
  · exact TPR_fr z2 rfl rfl (Io 3 (by decide)) (Ao 6 (by decide))
  · exact SHR_fr z3 rfl rfl (Ao 11 (by decide)) (Ao 12 (by decide)) (Ao 13 (by decide))
  · obtain ⟨i1, i2⟩ := z4
    refine ⟨by rw [Io 6 (by decide)]; exact i1, ?_⟩
    rw [Io 6 (by decide)]
    intro h6
    obtain ⟨k', n', nt, d', N, t, j1, j2, j3, j4, j5, j6, j7, j8, j9, j10, j11, j12, j13, j14, j15, j16, j17, j18, j19⟩ := i2 h6
    have hnn : n' = n := (eq_nI (by omega) (by omega)).mp (j2.symm.trans hm)
    subst hnn
    refine ⟨k', n' + 1, nt, d', N, t, by omega, I0, by omega, by rw [Ao 10 (by decide)]; exact j4, by rw [Sz]; exact j5, j6, by rw [Ao 10 (by decide)]; exact j7, by rw [Sz]; exact j8, j9, by rw [Ao 10 (by decide)]; exact j10, by rw [Sz]; exact j11, j12, by rw [Io 4 (by decide)]; exact j13, j14, by rw [Ao 10 (by decide)]; exact j15, by rw [Sz]; exact j16, j17, ?_, ?_⟩
    · rw [Bz, Ao 9 (by decide)]; exact j18
    · intro s hs
      rw [Bz, Sz, Ao 9 (by decide), A0, A1, upd_n _ _ (by omega), upd_n _ _ (by omega)]
      exact j19 s hs
  · obtain ⟨p1, n', p2, p3, p4⟩ := z5
    have hnn : n' = n := (eq_nI (by omega) (by omega)).mp (p3.symm.trans hm)
    subst hnn
    refine ⟨by rw [Io 1 (by decide)]; exact p1, n' + 1, by omega, I0, ?_⟩
    intro s hs
    rw [A0]
    by_cases e : s = n'
    · subst e; rw [upd_s]; exact ⟨k, hk, rfl⟩
    · rw [upd_n _ _ e]; exact p4 s (by omega)
  · show mA _ 15 = _
    rw [Ao 15 (by decide)]; exact z6
  · exact z7
theorem eq_ship' (a b : Int32) {x : GX} {m : GM} (h : RR x m) : ∃ (r : Int32) (x' : GX) (m' : GM), f_X4_ship a b x = some (r, x') ∧ f_X5_ship a b m = some (r, m') ∧ RR x' m' ∧ xH x' = xH x ∧ xN x' = xN x ∧ mA m' 12 = mA m 12 ∧ mA m' 13 = mA m 13 := by
  obtain ⟨n, hn6, hm, hx⟩ := RR_n h
  simp only [f_X4_ship, f_X5_ship, within_X, in_M, bnd_some]
  rcases wi_lit a 59 (by decide) with e | ⟨e, ka, hka, rfl⟩
  · simp only [e, ifs, if_true]
    exact ⟨_, _, _, rfl, rfl, h, rfl, rfl, rfl, rfl⟩
  · simp only [e, ifs, if_false]
    rcases wi_lit b 3599 (by decide) with e | ⟨e, cb, hcb, rfl⟩
    · simp only [e, ifs, if_false]
      exact ⟨_, _, _, rfl, rfl, h, rfl, rfl, rfl, rfl⟩
    · simp only [e, ifs, if_true, hx, hm]
      by_cases q : n = 6
      · subst q
        rw [if_neg (show ¬ nI 6 < (6 : Int32) by decide), if_neg (show ¬ nI 6 ≠ (6 : Int32) from fun q => q rfl)]
        exact ⟨_, _, _, rfl, rfl, h, rfl, rfl, rfl, rfl⟩
      · rw [if_pos (show nI n < (6 : Int32) from nI_lt (b := 6) (by omega) (by decide)), if_pos (show nI n ≠ (6 : Int32) from ne_lit n 6 (by omega) (by decide) q)]
        have d10 : nI ka / (10 : Int32) = nI (ka / 10) := pk_div (d := 10) (by omega) (by decide) (by decide)
        have r10 : rI (nI ka) (10 : Int32) = nI (ka % 10) := rI_nI (d := 10) (by omega) (by decide) (by decide)
        have d100 : nI cb / (100 : Int32) = nI (cb / 100) := pk_div (d := 100) (by omega) (by decide) (by decide)
        have r100 : rI (nI cb) (100 : Int32) = nI (cb % 100) := rI_nI (d := 100) (by omega) (by decide) (by decide)
        have g1 : ∀ {α : Type} (r : Option α), grd (nI n) 6 r = r := fun r => grd_ok r (by omega) (by decide)
        have hX : f_X2_launch 0 (nI ka) (nI cb) x = some (nI n, lnX x n (nI (ka / 10)) (nI (ka % 10)) (nI (cb / 100)) (nI (cb % 100))) := by
          unfold f_X2_launch
          rw [bnd_some, hx, if_neg (nI_pos (by omega)), if_pos (show nI n < (6 : Int32) from nI_lt (b := 6) (by omega) (by decide))]
          simp only [g1, bnd_some, nI_clamp (show n < 2 ^ 31 by omega), d10, r10, d100, r100]
          unfold lnX
          simp (disch := decide) only [xS_n, xS_s, xset]
        have hR := RR_ln (k := ka / 10) (mo := ka % 10) (c := cb / 100) (d := cb % 100) h hm hx (by omega) (by omega) (by omega)
        rw [hX, bnd_some]
        refine ⟨nI n, _, lnM m n (nI (ka / 10)) (nI (ka % 10)) (nI (cb / 100)) (nI (cb % 100)), rfl, ?_, hR, rfl, rfl, ?_, ?_⟩
        · have m0 : ∀ (a j : Nat) (v : Int32) (m : GM), mI (tA m a j v) 0 = mI m 0 := fun _ _ _ _ => rfl
          simp only [g1, bnd_some, nI_clamp (show n < 2 ^ 31 by omega), d10, r10, d100, r100, m0, hm, mI_s]
          unfold lnM
          rw [show nI n + (1 : Int32) - 1 = nI n from Int32.add_sub_cancel _ _]
        · unfold lnM
          simp (disch := decide) only [mA_s, mA_n, mset]
        · unfold lnM
          simp (disch := decide) only [mA_s, mA_n, mset]
theorem eq_ship (a b : Int32) : EQ (f_X4_ship a b) (f_X5_ship a b) := by
  intro x m h
  obtain ⟨r, x', m', e1, e2, hR, _⟩ := eq_ship' a b h
  exact ⟨r, x', m', e1, e2, hR⟩
/-- the place of the next two: from on, two by two -/
theorem sb_loop {q sz F : Nat} {nn : Int32} {N : Nat} (hq : q < 4) (hs : sz ≤ 40) (hN : N ≤ 6) (hF : F ≤ 40) :
    ∀ (k c F1 F2 : Nat) (g : Int32) (x : GX) (m : GM), c + k = N → k < F1 → k < F2 → RR x m → xH x q 1 = nI sz → PP (k_X4_shipsBy_68 F1 (nI F) (nI N) q g (nI c) x) (k_X5_shipsBy_64 F2 (nI q) (nI F) (nI N) g (nI c) m) := by
  intro k
  induction k with
  | zero =>
    intro c F1 F2 g x m hc h1 h2 h hz
    obtain ⟨F1, rfl⟩ : ∃ k, F1 = k + 1 := ⟨F1 - 1, by omega⟩
    obtain ⟨F2, rfl⟩ : ∃ k, F2 = k + 1 := ⟨F2 - 1, by omega⟩
    show PP (b_X4_shipsBy_68 (k_X4_shipsBy_68 F1) (nI F) (nI N) q g (nI c) x) (b_X5_shipsBy_64 (k_X5_shipsBy_64 F2) (nI q) (nI F) (nI N) g (nI c) m)
    unfold b_X4_shipsBy_68 b_X5_shipsBy_64
    rw [if_pos (nI_le (by omega) (by omega)), if_pos (nI_le (by omega) (by omega))]
    exact PP_same h
  | succ k ih =>
    intro c F1 F2 g x m hc h1 h2 h hz
    obtain ⟨F1, rfl⟩ : ∃ k, F1 = k + 1 := ⟨F1 - 1, by omega⟩
    obtain ⟨F2, rfl⟩ : ∃ k, F2 = k + 1 := ⟨F2 - 1, by omega⟩
    have hw : nI F + (2 : Int32) * nI c = nI (F + 2 * c) := by rw [show (2 : Int32) = nI 2 from rfl, pk_mul, nIs]
    obtain ⟨w0, ⟨sz', hz', w1, w2⟩, w3⟩ := h.2.2.2.1 q hq
    have hsz : sz' = sz := (eq_nI (by omega) (by omega)).mp (w1.symm.trans hz)
    subst hsz
    obtain ⟨r, e1, rc, ri⟩ := holds_X q (nI (F + 2 * c)) 2 hs hz
    show PP (b_X4_shipsBy_68 (k_X4_shipsBy_68 F1) (nI F) (nI N) q g (nI c) x) (b_X5_shipsBy_64 (k_X5_shipsBy_64 F2) (nI q) (nI F) (nI N) g (nI c) m)
    unfold b_X4_shipsBy_68 b_X5_shipsBy_64
    rw [if_neg (nI_ge (by omega) (by omega)), if_neg (nI_ge (by omega) (by omega)), bnd_some, bnd_some, hw, e1, bnd_some, if_neg (nI_pos (by omega)), if_neg (nI_nlt (by omega) (by omega)), grd_ok _ hq (by decide), nI_clamp (show q < 2 ^ 31 by omega), w2]
    have hle : (nI (F + 2 * c) ≤ nI sz' - (2 : Int32)) ↔ F + 2 * c + 2 ≤ sz' := by
      have e2 : (nI sz' - (2 : Int32)).toInt = (sz' : Int) - 2 := fade_sub sz' 2 (by omega) (by omega)
      rw [Int32.le_iff_toInt_le, e2, nI_toInt (by omega)]
      omega
    rcases rc with q0 | q0
    · rw [q0, if_neg (show ¬ (0 : Int32) ≠ 0 from fun q => q rfl), if_neg (fun p => by
        have := ri.mpr ⟨F + 2 * c, 2, rfl, rfl, hle.mp p⟩
        rw [q0] at this
        exact absurd this (by decide))]
      exact PP_same h
    · obtain ⟨A, B, eA, eB, hAB⟩ := ri.mp q0
      have hB : B = 2 := ((eq_nI (b := B) (a := 2) (by decide) (by omega)).mp eB).symm
      have hA : A = F + 2 * c := ((eq_nI (by omega) (by omega)).mp eA).symm
      subst hB; subst hA
      rw [q0, if_pos (show (1 : Int32) ≠ 0 by decide), if_pos (hle.mpr hAB), bnd_some, ix40]
      have i1 : nI (F + 2 * c) + (1 : Int32) = nI (F + 2 * c + 1) := nI_add _ 1
      have i2 : nI (40 * q + (F + 2 * c)) + (1 : Int32) = nI (40 * q + (F + 2 * c + 1)) := (nI_add _ 1).trans (congrArg nI (by omega))
      rw [i1, i2, grd_ok _ (by omega) (by decide), grd_ok _ (by omega) (by decide), grd_ok _ (by omega) (by decide), grd_ok _ (by omega) (by decide), nI_clamp (by omega), nI_clamp (by omega), nI_clamp (by omega), nI_clamp (by omega), w3 _ (by omega), w3 _ (by omega)]
      obtain ⟨r', x', m', e3, e4, hR, t1, t2, t3, t4⟩ := eq_ship' (mA m 13 (40 * q + (F + 2 * c))) (mA m 13 (40 * q + (F + 2 * c + 1))) h
      rw [e3, e4, bnd_some, bnd_some, show nI c + (1 : Int32) = nI (c + 1) from nI_add c 1]
      by_cases p : r' < 0
      · rw [if_pos p, if_pos p, bnd_some, Int32.add_zero]
        exact ih (c + 1) F1 F2 g x' m' (by omega) (by omega) (by omega) hR (by rw [t1]; exact hz)
      · rw [if_neg p, if_neg p, bnd_some]
        exact ih (c + 1) F1 F2 _ x' m' (by omega) (by omega) (by omega) hR (by rw [t1]; exact hz)
theorem eq_shipsBy (a b c d : Int32) : EQ (f_X4_shipsBy a b c d) (f_X5_shipsBy a b c d) := by
  intro x m h
  simp only [f_X4_shipsBy, f_X5_shipsBy, isSheet_X, within_X, in_M, bnd_some]
  rcases wi_sheet a with e | ⟨e, q, hq, rfl⟩
  · simp only [e, ifs, if_true]
    exact PP_same h
  · simp only [e, ifs, if_false]
    rcases wi_rng b 0 2 with e | ⟨e, _, _⟩
    · simp only [e, ifs, if_true]
      exact PP_same h
    · simp only [e, ifs, if_false]
      rcases wi_lit d 6 (by decide) with e | ⟨e, N, hN, rfl⟩
      · simp only [e, ifs, if_false]
        exact PP_same h
      · simp only [e, ifs, if_true]
        obtain ⟨z0, ⟨sz, hz, z1, z2⟩, z3⟩ := h.2.2.2.1 q hq
        have g1 : ∀ {α : Type} (r : Option α), grd (nI q) 4 r = r := fun r => grd_ok r hq (by decide)
        simp only [g1, nI_clamp (show q < 2 ^ 31 by omega), z0]
        by_cases p1 : mA m 11 q ≠ -1
        · simp only [if_pos p1]
          by_cases p2 : mA m 11 q = b
          · simp only [if_pos p2]
            by_cases p3 : ∃ F : Nat, F ≤ 40 ∧ c = nI F
            · obtain ⟨F, hF, rfl⟩ := p3
              exact sb_loop (nn := 0) hq hz hN hF N 0 FU FU 0 x m (by omega) (by show _ < 1000; omega) (by show _ < 1000; omega) h z1
            · -- the first place is outside: nothing comes
              have hX : k_X4_shipsBy_68 FU c (nI N) q (0 : Int32) (0 : Int32) x = if N = 0 then some (0, x) else some (-12, x) := by
                show b_X4_shipsBy_68 (k_X4_shipsBy_68 999) c (nI N) q (0 : Int32) (nI 0) x = _
                unfold b_X4_shipsBy_68
                by_cases n0 : N = 0
                · subst n0
                  rw [if_pos (nI_le (by omega) (by omega)), if_pos rfl]
                · rw [if_neg (nI_ge (by omega) (by omega)), if_neg n0, bnd_some, show c + (2 : Int32) * nI 0 = c from Int32.add_zero c]
                  obtain ⟨r, e1, rc, ri⟩ := holds_X q c 2 hz z1
                  rcases rc with r0 | r0
                  · rw [e1, bnd_some, r0, if_neg (show ¬ (0 : Int32) ≠ 0 from fun q => q rfl)]
                  · obtain ⟨A, B, eA, _, hAB⟩ := ri.mp r0
                    exact absurd ⟨A, by omega, eA⟩ p3
              have hM : k_X5_shipsBy_64 FU (nI q) c (nI N) (0 : Int32) (0 : Int32) m = if N = 0 then some (0, m) else some (-12, m) := by
                show b_X5_shipsBy_64 (k_X5_shipsBy_64 999) (nI q) c (nI N) (0 : Int32) (nI 0) m = _
                unfold b_X5_shipsBy_64
                by_cases n0 : N = 0
                · subst n0
                  rw [if_pos (nI_le (by omega) (by omega)), if_pos rfl]
                · rw [if_neg (nI_ge (by omega) (by omega)), if_neg n0, bnd_some, show c + (2 : Int32) * nI 0 = c from Int32.add_zero c]
                  by_cases c0 : c < 0
                  · rw [if_pos c0]
                  · rw [if_neg c0]
                    obtain ⟨C, hC, rfl⟩ := nI_of c0
                    rw [if_neg (nI_nlt (Nat.le_refl _) hC), g1, nI_clamp (by omega), z2, if_neg]
                    have e2 : (nI sz - (2 : Int32)).toInt = (sz : Int) - 2 := fade_sub sz 2 (by omega) (by omega)
                    rw [Int32.le_iff_toInt_le, e2, nI_toInt hC]
                    intro w
                    exact p3 ⟨C, by omega, rfl⟩
              rw [hX, hM]
              by_cases n0 : N = 0
              · rw [if_pos n0, if_pos n0]; exact PP_same h
              · rw [if_neg n0, if_neg n0]; exact PP_same h
          · simp only [if_neg p2]; exact PP_same h
        · simp only [if_neg p1]; exact PP_same h
/-! ===== taken ===== -/
theorem one_pair (x : GX) (m : GM) {s k w : Nat} (hs : s < 6) (hk : k ≤ 5) (hw : w ≤ 5) (hx : xB x 0 1 s = nI k) : ∃ r, f_X2_isOne 0 (nI s) (nI w) x = some (r, x) ∧ f_X5_isUnder (nI k) (nI w) m = some (r, m) := by
  have hX : f_X2_isOne 0 (nI s) (nI w) x = k_X2_isOne_10 0 FU (nI w) (nI k) (0 : Int32) x := by
    unfold f_X2_isOne
    rw [grd_ok _ hs (by decide), nI_clamp (by omega), bnd_some, hx]
  rw [hX]
  clear hX hx
  match k, w, hk, hw with
  | 0, 0, _, _ => exact ⟨1, rfl, rfl⟩
  | 0, 1, _, _ => exact ⟨0, rfl, rfl⟩
  | 0, 2, _, _ => exact ⟨0, rfl, rfl⟩
  | 0, 3, _, _ => exact ⟨0, rfl, rfl⟩
  | 0, 4, _, _ => exact ⟨0, rfl, rfl⟩
  | 0, 5, _, _ => exact ⟨0, rfl, rfl⟩
  | 1, 0, _, _ => exact ⟨1, rfl, rfl⟩
  | 1, 1, _, _ => exact ⟨1, rfl, rfl⟩
  | 1, 2, _, _ => exact ⟨0, rfl, rfl⟩
  | 1, 3, _, _ => exact ⟨0, rfl, rfl⟩
  | 1, 4, _, _ => exact ⟨0, rfl, rfl⟩
  | 1, 5, _, _ => exact ⟨0, rfl, rfl⟩
  | 2, 0, _, _ => exact ⟨1, rfl, rfl⟩
  | 2, 1, _, _ => exact ⟨0, rfl, rfl⟩
  | 2, 2, _, _ => exact ⟨1, rfl, rfl⟩
  | 2, 3, _, _ => exact ⟨0, rfl, rfl⟩
  | 2, 4, _, _ => exact ⟨0, rfl, rfl⟩
  | 2, 5, _, _ => exact ⟨0, rfl, rfl⟩
  | 3, 0, _, _ => exact ⟨1, rfl, rfl⟩
  | 3, 1, _, _ => exact ⟨1, rfl, rfl⟩
  | 3, 2, _, _ => exact ⟨0, rfl, rfl⟩
  | 3, 3, _, _ => exact ⟨1, rfl, rfl⟩
  | 3, 4, _, _ => exact ⟨0, rfl, rfl⟩
  | 3, 5, _, _ => exact ⟨0, rfl, rfl⟩
  | 4, 0, _, _ => exact ⟨1, rfl, rfl⟩
  | 4, 1, _, _ => exact ⟨0, rfl, rfl⟩
  | 4, 2, _, _ => exact ⟨1, rfl, rfl⟩
  | 4, 3, _, _ => exact ⟨0, rfl, rfl⟩
  | 4, 4, _, _ => exact ⟨1, rfl, rfl⟩
  | 4, 5, _, _ => exact ⟨0, rfl, rfl⟩
  | 5, 0, _, _ => exact ⟨1, rfl, rfl⟩
  | 5, 1, _, _ => exact ⟨0, rfl, rfl⟩
  | 5, 2, _, _ => exact ⟨0, rfl, rfl⟩
  | 5, 3, _, _ => exact ⟨0, rfl, rfl⟩
  | 5, 4, _, _ => exact ⟨0, rfl, rfl⟩
  | 5, 5, _, _ => exact ⟨1, rfl, rfl⟩
theorem one_6 (x : GX) {s k : Nat} (hs : s < 6) (hk : k ≤ 5) (hx : xB x 0 1 s = nI k) : f_X2_isOne 0 (nI s) (nI 6) x = some (0, x) := by
  have hX : f_X2_isOne 0 (nI s) (nI 6) x = k_X2_isOne_10 0 FU (nI 6) (nI k) (0 : Int32) x := by
    unfold f_X2_isOne
    rw [grd_ok _ hs (by decide), nI_clamp (by omega), bnd_some, hx]
  rw [hX]
  clear hX hx
  match k, hk with
  | 0, _ => rfl
  | 1, _ => rfl
  | 2, _ => rfl
  | 3, _ => rfl
  | 4, _ => rfl
  | 5, _ => rfl
theorem eq_taken (a b : Int32) : EQ (f_X4_taken a b) (f_X5_taken a b) := by
  intro x m h
  obtain ⟨n, hn6, hm, hx⟩ := RR_n h
  simp only [f_X4_taken, f_X5_taken, isShip_X, within_X, in_M, bnd_some, hm, hx]
  rcases wi_lit b 6 (by decide) with e | ⟨e, w, hw, rfl⟩
  · simp only [e, ifs, if_false]
    exact PP_same h
  · simp only [e, ifs, if_true]
    rcases wi_lit a 41 (by decide) with e | ⟨e, i, hi, rfl⟩
    · simp only [e, ifs, if_false]
      exact PP_same h
    · simp only [e, ifs, if_true]
      by_cases p1 : i < 6
      · have c1 : nI i < (6 : Int32) := nI_lt (b := 6) p1 (by decide)
        rw [if_pos c1, if_pos c1]
        by_cases p2 : i < n
        · rw [wi_self p2 (by omega), if_pos (show (1 : Int32) ≠ 0 by decide), if_pos (nI_lt p2 (by omega))]
          obtain ⟨k1, _⟩ := SR_ship h.1 hm hn6 p2
          obtain ⟨k, hk, ek⟩ : ∃ k : Nat, k ≤ 5 ∧ mA m 0 i = nI k := by
            obtain ⟨_, n', q1, q2, q3⟩ := h.2.2.2.2.2.1
            have : n' = n := (eq_nI (by omega) (by omega)).mp (q2.symm.trans hm)
            subst this
            exact q3 i p2
          by_cases p3 : w = 6
          · subst p3
            rw [one_6 x p1 hk (k1.trans ek), bnd_some, if_pos rfl, if_pos (show (6 : Int32) ≤ nI 6 by decide)]
            exact PP_same h
          · obtain ⟨r, e1, e2⟩ := one_pair x m p1 hk (show w ≤ 5 by omega) (k1.trans ek)
            rw [e1, bnd_some, if_neg (show ¬ (6 : Int32) ≤ nI w from nI_ge (b := 6) (by omega) (by decide)), grd_ok _ p1 (by decide), nI_clamp (by omega), ek, e2, bnd_some]
            by_cases p4 : r = 0
            · simp only [if_pos p4]; exact PP_same h
            · simp only [if_neg p4]; exact PP_same h
        · have w0 : wi (nI i) 0 (nI n - 1) = 0 := by
            rcases wi_ship (nI i) n (by omega) with e | ⟨_, c, hc, e⟩
            · exact e
            · have := (eq_nI (by omega) (by omega)).mp e
              omega
          rw [w0, if_neg (show ¬ (0 : Int32) ≠ 0 from fun q => q rfl), if_neg (nI_nlt (by omega) (by omega))]
          exact PP_same h
      · have c1 : ¬ nI i < (6 : Int32) := nI_nlt (b := 6) (a := i) (by omega) (by omega)
        rw [if_neg c1, if_neg c1]
        by_cases p3 : w = 6
        · subst p3
          rw [if_neg (show ¬ nI 6 ≠ (6 : Int32) from fun q => q rfl), if_neg (show ¬ nI 6 ≠ (6 : Int32) from fun q => q rfl)]
          obtain ⟨j, rfl⟩ : ∃ j, i = 6 + j := ⟨i - 6, by omega⟩
          have s6 : nI (6 + j) - (6 : Int32) = nI j := sub_lit 6 j (by omega)
          rw [s6, grd_ok _ (by omega) (by decide), grd_ok _ (by omega) (by decide), nI_clamp (by omega), RR_b h (by omega)]
          exact PP_same h
        · have c2 : nI w ≠ (6 : Int32) := ne_lit w 6 (by omega) (by decide) p3
          rw [if_pos c2, if_pos c2]
          exact PP_same h
