/-! ===== in thought: think, keeps, lays; nights, told of ===== -/
theorem bc_ones : ∀ k, k < 64 → ∀ m : GM, ∃ r : Nat, r ≤ 6 ∧ (∀ x : GX, f_J6_bitCount_0f7a4 (nI k) x = some (nI r, x)) ∧ f_X5_ones (nI k) m = some (nI r, m) ∧ (r = 0 ↔ k = 0) := by
  intro k hk m
  have key : ∀ k, k < 64 → ∃ r, r < 7 ∧ ((((fun w1 : Int32 => (fun w2 : Int32 => (fun w3 : Int32 => (fun w4 : Int32 => (fun w5 : Int32 => w5 &&& (63 : Int32)) (w4 + usI w4 16)) (w3 + usI w3 8)) ((w2 + usI w2 4) &&& 252645135)) ((w1 &&& 858993459) + (usI w1 2 &&& 858993459))) (nI k - (usI (nI k) 1 &&& 1431655765))) = nI r) ∧ ((0 : Int32) + (srI (nI k) 0 &&& 1) + (srI (nI k) (0 + 1) &&& 1) + (srI (nI k) (0 + 1 + 1) &&& 1) + (srI (nI k) (0 + 1 + 1 + 1) &&& 1) + (srI (nI k) (0 + 1 + 1 + 1 + 1) &&& 1) + (srI (nI k) (0 + 1 + 1 + 1 + 1 + 1) &&& 1) = nI r) ∧ ((r = 0) = (k = 0))) := by decide +kernel
  obtain ⟨r, hr, e1, e2, e3⟩ := key k hk
  refine ⟨r, by omega, ?_, ?_, by rw [e3]⟩
  · intro x
    show some (_, x) = _
    rw [← e1]
  · rw [← e2]
    rfl
theorem low6 {v : Int32} (h : ∀ i, i < 32 → 6 ≤ i → bt v i = false) : ∃ k, k < 64 ∧ v = nI k := by
  have e : v = v &&& 63 := by
    apply b_ext
    intro i hi
    rw [b_and]
    by_cases q : i < 6
    · rw [(by decide +kernel : ∀ i, i < 6 → bt 63 i = true) i q, Bool.and_true]
    · rw [h i hi (by omega), Bool.false_and]
  have e2 : v.toBitVec = v.toBitVec &&& 63#32 := by
    have := congrArg Int32.toBitVec e
    rw [Int32.toBitVec_and] at this
    exact this
  have hlt : v.toBitVec.toNat ≤ 63 := by
    rw [e2, BitVec.toNat_and]
    exact Nat.and_le_right
  refine ⟨v.toBitVec.toNat, by omega, ?_⟩
  apply Int32.toBitVec_inj.mp
  show v.toBitVec = BitVec.ofNat 32 v.toBitVec.toNat
  rw [BitVec.ofNat_toNat, BitVec.setWidth_eq]
/-- nights on end: how many are lost -/
theorem goes_loop {z n N : Nat} (hn6 : n ≤ 6) (hN : N ≤ 40) (l0 : Int32) :
    ∀ (k c F1 F2 : Nat) (x : GX) (m : GM), c + k = N → k < F1 → k < F2 → SR z x m → mI m 0 = nI n → (∀ i, i < 32 → bt l0 i = true → bt (xS x z 0) i = true) → (∀ i, i < 32 → n ≤ i → bt (xS x z 0) i = bt l0 i) →
      ∃ x' m' b r, (∃ q, k_X2_lossesIn_7 z F1 (nI N) l0 (nI c) x = some (q, x') ∧ q = r) ∧ k_X5_goes_4 F2 (nI N) (xS x z 0 &&& (l0 ^^^ (-1 : Int32))) (nI c) m = some (b, m') ∧ SR z x' m' ∧ FX z x x' ∧ FM m m' ∧ (∀ m, f_X5_ones b m = some (r, m)) ∧ (∃ j : Nat, j ≤ 6 ∧ r = nI j ∧ (j = 0 ↔ b = 0)) := by
  intro k
  induction k with
  | zero =>
    intro c F1 F2 x m hc h1 h2 h hn ha hb
    obtain ⟨F1, rfl⟩ : ∃ k, F1 = k + 1 := ⟨F1 - 1, by omega⟩
    obtain ⟨F2, rfl⟩ : ∃ k, F2 = k + 1 := ⟨F2 - 1, by omega⟩
    obtain ⟨K, hK, eK⟩ := low6 (v := xS x z 0 &&& (l0 ^^^ (-1 : Int32))) (fun i hi h6 => by
      rw [b_and, b_xor, b_m1 i hi, Bool.xor_true, hb i hi (by omega)]
      cases bt l0 i <;> rfl)
    obtain ⟨j, hj, e1, e2, e3⟩ := bc_ones K hK m
    refine ⟨x, m, nI K, nI j, ⟨nI j, ?_, rfl⟩, ?_, h, FX_refl z x, FM_refl m, ?_, j, hj, rfl, ?_⟩
    · show b_X2_lossesIn_7 z (k_X2_lossesIn_7 z F1) (nI N) l0 (nI c) x = _
      unfold b_X2_lossesIn_7
      rw [if_pos (nI_le (by omega) (by omega)), eK, e1 x, bnd_some]
    · show b_X5_goes_4 (k_X5_goes_4 F2) (nI N) _ (nI c) m = _
      unfold b_X5_goes_4
      rw [if_pos (nI_le (by omega) (by omega)), eK]
    · intro m
      obtain ⟨j', hj', e1', e2', e3'⟩ := bc_ones K hK m
      have : nI j' = nI j := by
        have := (e1' x).symm.trans (e1 x)
        injection this with this; injection this
      rw [← this]; exact e2'
    · rw [e3]
      exact ⟨fun q => by rw [q]; rfl, fun q => (eq_nI (by omega) (by decide)).mp q⟩
  | succ k ih =>
    intro c F1 F2 x m hc h1 h2 h hn ha hb
    obtain ⟨F1, rfl⟩ : ∃ k, F1 = k + 1 := ⟨F1 - 1, by omega⟩
    obtain ⟨F2, rfl⟩ : ∃ k, F2 = k + 1 := ⟨F2 - 1, by omega⟩
    obtain ⟨x1, m1, g1, g2, g3, g4, g5, g6, g7, g8⟩ := night_pair h hn hn6
    obtain ⟨x', m', b, r, ⟨q, e1, e1'⟩, e2, a1, a2, a3, a4, a5⟩ := ih (c + 1) F1 F2 x1 m1 (by omega) (by omega) (by omega) g3 (by rw [g5.2.1 0 (by decide) (by decide)]; exact hn) (fun i hi hq => g7 i hi (ha i hi hq)) (fun i hi hq => (g8 i hi hq).trans (hb i hi hq))
    refine ⟨x', m', b, r, ⟨q, ?_, e1'⟩, ?_, a1, FX_trans g4 a2, FM_trans g5 a3, a4, a5⟩
    · show b_X2_lossesIn_7 z (k_X2_lossesIn_7 z F1) (nI N) l0 (nI c) x = _
      unfold b_X2_lossesIn_7
      rw [if_neg (nI_ge (by omega) (by omega)), g1, bnd_some, show nI c + (1 : Int32) = nI (c + 1) from nI_add c 1]
      exact e1
    · show b_X5_goes_4 (k_X5_goes_4 F2) (nI N) _ (nI c) m = _
      unfold b_X5_goes_4
      rw [if_neg (nI_ge (by omega) (by omega)), g2, bnd_some, bnd_some, show nI c + (1 : Int32) = nI (c + 1) from nI_add c 1]
      rw [← e2]
      congr 1
      apply b_ext
      intro i hi
      rw [b_or, b_and, b_and, b_and, b_xor, b_xor, b_m1 i hi, Bool.xor_true, Bool.xor_true]
      have p1 := ha i hi
      have p2 := g7 i hi
      cases w1 : bt l0 i <;> cases w2 : bt (xS x z 0) i <;> cases w3 : bt (xS x1 z 0) i <;> simp_all
theorem goes_pair {z n N : Nat} {x : GX} {m : GM} (h : SR z x m) (hn : mI m 0 = nI n) (hn6 : n ≤ 6) (hN : N ≤ 40) :
    ∃ x' m' b r, f_X2_lossesIn z (nI N) x = some (r, x') ∧ f_X5_goes (nI N) m = some (b, m') ∧ SR z x' m' ∧ FX z x x' ∧ FM m m' ∧ (∀ m, f_X5_ones b m = some (r, m)) ∧ (∃ j : Nat, j ≤ 6 ∧ r = nI j ∧ (j = 0 ↔ b = 0)) := by
  obtain ⟨x', m', b, r, ⟨q, e1, e1'⟩, e2, a1, a2, a3, a4, a5⟩ := goes_loop (z := z) hn6 hN (xS x z 0) N 0 FU FU x m (by omega) (by show _ < 1000; omega) (by show _ < 1000; omega) h hn (fun _ _ q => q) (fun _ _ _ => rfl)
  subst e1'
  refine ⟨x', m', b, q, ?_, ?_, a1, a2, a3, a4, a5⟩
  · exact e1
  · unfold f_X5_goes
    rw [← e2]
    congr 1
    apply b_ext
    intro i hi
    rw [b_and, b_xor, b_m1 i hi, Bool.xor_true, b_0]
    cases bt (xS x z 0) i <;> rfl
/-- the light is told of a cell -/
theorem tdiv_rng (v : Int32) (d : Nat) (h1 : (-99 : Int32) ≤ v) (h2 : v ≤ (99 : Int32)) (hd : d < 2 ^ 31) : (v / nI d).toInt = v.toInt.tdiv (d : Int) ∧ -99 ≤ v.toInt.tdiv (d : Int) ∧ v.toInt.tdiv (d : Int) ≤ 99 := by
  rw [Int32.le_iff_toInt_le] at h1 h2
  rw [show (-99 : Int32).toInt = -99 from by decide] at h1
  rw [show (99 : Int32).toInt = 99 from by decide] at h2
  have h3 : (v.toInt.tdiv (d : Int)).natAbs ≤ 99 := by
    rw [Int.natAbs_tdiv]
    exact Nat.le_trans (Nat.div_le_self _ _) (by omega)
  rw [Int32.toInt_div, nI_toInt hd]
  generalize v.toInt.tdiv (d : Int) = t at h3 ⊢
  exact ⟨Int.bmod_eq_of_le (by omega) (by omega), by omega, by omega⟩
theorem told_val (k : Nat) (w : Int32) (hk : k ≤ 99) (h1 : -99 ≤ w.toInt) (h2 : w.toInt ≤ 99) : mxI 0 (mnI 99 (nI k + w)) = clp (nI k + w) 0 99 ∧ ∃ j : Nat, j ≤ 99 ∧ clp (nI k + w) 0 99 = nI j := by
  refine ⟨mxmn 0 99 _ (by decide), ?_⟩
  obtain ⟨a, b⟩ := clp_rng (nI k + w) (lo := 0) (hi := 99) (by decide)
  exact Int32_of_rng a b
theorem hear_pair {z c : Nat} {x : GX} {m : GM} {v : Int32} (h : SR z x m) (hc : c < 36) (h1 : (-99 : Int32) ≤ v) (h2 : v ≤ (99 : Int32)) :
    ∃ j : Nat, j ≤ 99 ∧ f_X2_hear z (nI c) v x = some ((), sB x z 0 c (nI j)) ∧ f_X5_isToldOf (nI c) v m = some ((), tA m 5 c (nI j)) := by
  obtain ⟨h10, k, hk9, e⟩ : xB x z 0 c = mA m 5 c ∧ ∃ k : Nat, k ≤ 99 ∧ mA m 5 c = nI k := by
    obtain ⟨_, _, _, _, _, _, _, h10, _⟩ := id h
    exact h10 c hc
  obtain ⟨d, hd, ed⟩ : ∃ d : Nat, d ≤ 99 ∧ mI m 2 = nI d := by
    obtain ⟨_, _, _, _, _, h6, _⟩ := id h
    exact h6
  have ed' : xS x z 2 = nI d := by
    obtain ⟨_, h2, _⟩ := id h
    exact h2.trans ed
  have q10 : ∀ d, d ≤ 99 → (1 : Int32) + nI d / 10 = nI (d / 10 + 1) := by
    have : ∀ d, d < 100 → (1 : Int32) + nI d / 10 = nI (d / 10 + 1) := by decide +kernel
    intro d hd; exact this d (by omega)
  have hw : d / 10 ≤ 9 := by omega
  obtain ⟨t1, t2, t3⟩ := tdiv_rng v (d / 10 + 1) h1 h2 (by omega)
  obtain ⟨p1, j, hj, p2⟩ := told_val k (v / nI (d / 10 + 1)) hk9 (by rw [t1]; exact t2) (by rw [t1]; exact t3)
  have hne : ¬ nI (d / 10 + 1) = 0 := fun q => by
    have := (eq_nI (a := d / 10 + 1) (b := 0) (by omega) (by decide)).mp q
    omega
  refine ⟨j, hj, ?_, ?_⟩
  · unfold f_X2_hear b_X2_hear_21
    rw [ed', q10 d hd, bnd_some, if_neg (show ¬ nI (d / 10 + 1) ≤ 0 from nI_ge (a := 0) (by omega) (by omega)), if_pos hne, grd_ok _ hc (by decide), grd_ok _ hc (by decide), nI_clamp (by omega), h10, e, bnd_some]
    rw [show mxI 0 (mnI 99 (nI k + v / nI (d / 10 + 1))) = nI j from p1.trans p2]
  · unfold f_X5_isToldOf
    rw [ed, q10 d hd, grd_ok _ hc (by decide), if_pos hne, nI_clamp (by omega), e, within5_eq, bnd_some, grd_ok _ hc (by decide), bnd_some]
    rw [p2]
