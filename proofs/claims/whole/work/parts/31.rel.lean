/-! ===== the relation of the two states ===== -/
def TXR (x : GX) (m : GM) : Prop := ∃ nt : Nat, 1 ≤ nt ∧ nt ≤ 6 ∧ xI x 0 = nI nt ∧ mI m 4 = nI nt ∧ (∀ t, t < nt → TR x m t) ∧ ∃ t, t < nt ∧ mI m 5 = nI t
def TPR (x : GX) (m : GM) : Prop := ∃ L : Nat, L ≤ 160 ∧ xI x 1 = nI L ∧ mI m 3 = nI L ∧ ∀ i, i < L → ∃ b : Nat, b < 256 ∧ xP x i = nI b ∧ mA m 6 i = nI b
def SHR (x : GX) (m : GM) : Prop := ∀ q, q < 4 → xH x q 0 = mA m 11 q ∧ (∃ k : Nat, k ≤ 40 ∧ xH x q 1 = nI k ∧ mA m 12 q = nI k) ∧ ∀ i, i < 40 → xN x q i = mA m 13 (40 * q + i)
def IMR (x : GX) (m : GM) : Prop := xI x 2 = mI m 6 ∧ (mI m 6 ≠ 0 → ∃ k n nt d N t : Nat, n ≤ 6 ∧ mI m 0 = nI n ∧ k ≤ n ∧ mA m 10 0 = nI k ∧ xS x 2 1 = nI k ∧ N ≤ 999 ∧ mA m 10 1 = nI N ∧ xS x 2 3 = nI N ∧ d ≤ 99 ∧ mA m 10 2 = nI d ∧ xS x 2 2 = nI d ∧ nt ≤ 6 ∧ mI m 4 = nI nt ∧ t < nt ∧ mA m 10 3 = nI t ∧ xS x 2 4 = nI t ∧ xR x 2 = mL m 1 ∧ (∀ i, i < 36 → xB x 2 0 i = mA m 9 i ∧ ∃ b : Nat, b ≤ 99 ∧ mA m 9 i = nI b) ∧ ∀ s, s < k → xB x 2 1 s = mA m 0 s ∧ xB x 2 2 s = mA m 1 s ∧ xB x 2 3 s = mA m 9 (36 + s) ∧ (∃ c : Nat, c < 36 ∧ mA m 9 (36 + s) = nI c) ∧ xB x 2 4 s = mA m 9 (48 + s) ∧ mA m 9 (42 + s) = (if bt (xS x 2 0) s = true then 1 else 0))
def KNR (m : GM) : Prop := (∃ k : Nat, k ≤ 999 ∧ mI m 1 = nI k) ∧ ∃ n : Nat, n ≤ 6 ∧ mI m 0 = nI n ∧ ∀ s, s < n → ∃ k : Nat, k ≤ 5 ∧ mA m 0 s = nI k
def WDR (m : GM) : Prop := mA m 15 = mA mZ 15
def RKR (m : GM) : Prop := ∀ i, i < 64 → 36 ≤ i → bL (mL m 0) i = false ∧ bL (mL m 1) i = false
def KR (x : GX) (m : GM) : Prop := TXR x m ∧ TPR x m ∧ SHR x m ∧ IMR x m ∧ KNR m ∧ WDR m ∧ RKR m
def RR (x : GX) (m : GM) : Prop := SR 0 x m ∧ KR x m
theorem TXR_fr {x x' : GX} {m m' : GM} (h : TXR x m) (h1 : xI x' 0 = xI x 0) (h2 : ∀ t, xU x' t 0 = xU x t 0 ∧ xU x' t 2 = xU x t 2) (h3 : mI m' 4 = mI m 4) (h4 : mI m' 5 = mI m 5) (h5 : mA m' 7 = mA m 7) (h6 : mA m' 8 = mA m 8) : TXR x' m' := by
  obtain ⟨nt, a1, a2, a3, a4, a5, a6⟩ := h
  exact ⟨nt, a1, a2, h1.trans a3, h3.trans a4, fun t ht => TR_fr (a5 t ht) (h2 t).1 (h2 t).2 h5 h6, by rw [h4]; exact a6⟩
theorem TPR_fr {x x' : GX} {m m' : GM} (h : TPR x m) (h1 : xI x' 1 = xI x 1) (h2 : xP x' = xP x) (h3 : mI m' 3 = mI m 3) (h4 : mA m' 6 = mA m 6) : TPR x' m' := by
  unfold TPR
  rw [h1, h2, h3, h4]
  exact h
theorem SHR_fr {x x' : GX} {m m' : GM} (h : SHR x m) (h1 : xH x' = xH x) (h2 : xN x' = xN x) (h3 : mA m' 11 = mA m 11) (h4 : mA m' 12 = mA m 12) (h5 : mA m' 13 = mA m 13) : SHR x' m' := by
  unfold SHR
  rw [h1, h2, h3, h4, h5]
  exact h
theorem IMR_fr {x x' : GX} {m m' : GM} (h : IMR x m) (h1 : xI x' 2 = xI x 2) (h2 : xS x' 2 = xS x 2) (h3 : xR x' 2 = xR x 2) (h4 : xB x' 2 = xB x 2) (h5 : mI m' 6 = mI m 6) (h6 : mI m' 0 = mI m 0) (h7 : mI m' 4 = mI m 4) (h8 : mL m' 1 = mL m 1) (h9 : mA m' 9 = mA m 9) (h10 : mA m' 10 = mA m 10) (h11 : mA m' 0 = mA m 0) (h12 : mA m' 1 = mA m 1) : IMR x' m' := by
  unfold IMR
  rw [h1, h2, h3, h4, h5, h6, h7, h8, h9, h10, h11, h12]
  exact h
theorem KNR_fr {m m' : GM} (h : KNR m) (h1 : mI m' 1 = mI m 1) (h2 : mI m' 0 = mI m 0) (h3 : mA m' 0 = mA m 0) : KNR m' := by
  unfold KNR
  rw [h1, h2, h3]
  exact h
/-- what KR sees of the class -/
def KX (x x' : GX) : Prop := xI x' = xI x ∧ xS x' 2 = xS x 2 ∧ xR x' 2 = xR x 2 ∧ xB x' 2 = xB x 2 ∧ (∀ t k, k ≠ 1 → xU x' t k = xU x t k) ∧ xH x' = xH x ∧ xN x' = xN x ∧ xP x' = xP x
def KM (m m' : GM) : Prop := mI m' 0 = mI m 0 ∧ mI m' 1 = mI m 1 ∧ mI m' 3 = mI m 3 ∧ mI m' 4 = mI m 4 ∧ mI m' 5 = mI m 5 ∧ mI m' 6 = mI m 6 ∧ mL m' = mL m ∧ mA m' 0 = mA m 0 ∧ mA m' 1 = mA m 1 ∧ ∀ a, 6 ≤ a → a ≤ 15 → mA m' a = mA m a
theorem KX_refl (x : GX) : KX x x := ⟨rfl, rfl, rfl, rfl, fun _ _ _ => rfl, rfl, rfl, rfl⟩
theorem KM_refl (m : GM) : KM m m := ⟨rfl, rfl, rfl, rfl, rfl, rfl, rfl, rfl, rfl, fun _ _ _ => rfl⟩
theorem KR_fr {x x' : GX} {m m' : GM} (h : KR x m) (hx : KX x x') (hm : KM m m') : KR x' m' := by
  obtain ⟨a1, a2, a3, a4, a5, a6, a7⟩ := h
  obtain ⟨b1, b2, b3, b4, b5, b6, b7, b8⟩ := hx
  obtain ⟨c0, c1, c3, c4, c5, c6, d1, e0, e1, e⟩ := hm
  refine ⟨TXR_fr a1 (by rw [b1]) (fun t => ⟨b5 t 0 (by decide), b5 t 2 (by decide)⟩) c4 c5 (e 7 (by decide) (by decide)) (e 8 (by decide) (by decide)), TPR_fr a2 (by rw [b1]) b8 c3 (e 6 (by decide) (by decide)), SHR_fr a3 b6 b7 (e 11 (by decide) (by decide)) (e 12 (by decide) (by decide)) (e 13 (by decide) (by decide)), IMR_fr a4 (by rw [b1]) b2 b3 b4 c6 c0 c4 (by rw [d1]) (e 9 (by decide) (by decide)) (e 10 (by decide) (by decide)) e0 e1, KNR_fr a5 c1 c0 e0, ?_, ?_⟩
  · show mA m' 15 = _
    rw [e 15 (by decide) (by decide)]
    exact a6
  · unfold RKR
    rw [d1]
    exact a7
theorem EX_KX {z : Nat} {x x' : GX} (h : EX z x x') (hz : z ≠ 2) : KX x x' := by
  obtain ⟨h1, h2, h3, h4, h5, h6, h7, h8, h9, _⟩ := h
  exact ⟨h1, h2 2 (by omega), h3 2 (by omega), h4 2 (by omega), h6, h7, h8, h9⟩
theorem EM_KM {m m' : GM} (h : EM m m') : KM m m' := by
  obtain ⟨h1, h2, h3, h4, h5⟩ := h
  exact ⟨h2 0 (by decide), h2 1 (by decide), h2 3 (by decide), h2 4 (by decide), h2 5 (by decide), h2 6 (by decide), h1, h3 0 (by decide) (by decide) (by decide) (by decide) (by decide) (by decide), h3 1 (by decide) (by decide) (by decide) (by decide) (by decide) (by decide), fun a p q => h3 a (by omega) (by omega) (by omega) (by omega) (by omega) (by omega)⟩
/-- what is thought leaves the relation -/
theorem RR_st {x x' : GX} {m m' : GM} (h : RR x m) (hx : EX 1 x x') (hm : EM m m') : RR x' m' := ⟨SR_EM (SR_EX h.1 hx (by decide)) hm, KR_fr h.2 (EX_KX hx (by decide)) (EM_KM hm)⟩
/-- both answer alike and stay related -/
def PP {ρ : Type} (a : Option (ρ × GX)) (b : Option (ρ × GM)) : Prop := ∃ (r : ρ) (x' : GX) (m' : GM), a = some (r, x') ∧ b = some (r, m') ∧ RR x' m'
theorem PP_same {ρ : Type} {r : ρ} {x : GX} {m : GM} (h : RR x m) : PP (some (r, x)) (some (r, m)) := ⟨r, x, m, rfl, rfl, h⟩
theorem PP_mk {ρ : Type} {r : ρ} {x' : GX} {m' : GM} {a : Option (ρ × GX)} {b : Option (ρ × GM)} (e1 : a = some (r, x')) (e2 : b = some (r, m')) (h : RR x' m') : PP a b := ⟨r, x', m', e1, e2, h⟩
def wi (a lo hi : Int32) : Int32 := if a < lo then 0 else if hi < a then 0 else 1
theorem wi_01 (a lo hi : Int32) : wi a lo hi = 0 ∨ wi a lo hi = 1 := by
  unfold wi
  split
  · exact Or.inl rfl
  · split
    · exact Or.inl rfl
    · exact Or.inr rfl
theorem within_X (a lo hi : Int32) (x : GX) : f_X4_within a lo hi x = some (wi a lo hi, x) := by
  unfold f_X4_within wi
  split
  · rfl
  · split <;> rfl
theorem in_M (a lo hi : Int32) (m : GM) : f_X5_in a lo hi m = some (wi a lo hi, m) := by
  unfold f_X5_in wi
  split
  · rfl
  · split <;> rfl
theorem isCell_X (a : Int32) (x : GX) : f_X4_isCell a x = some (wi a 0 35, x) := by unfold f_X4_isCell; rw [within_X, bnd_some, if_pos (wi_01 _ _ _)]
theorem isCell_M (a : Int32) (m : GM) : f_X5_isCell a m = some (wi a 0 35, m) := by unfold f_X5_isCell; rw [in_M, bnd_some, if_pos (wi_01 _ _ _)]
theorem isByte_X (a : Int32) (x : GX) : f_X4_isByte a x = some (wi a 0 255, x) := by unfold f_X4_isByte; rw [within_X, bnd_some, if_pos (wi_01 _ _ _)]
theorem isByte_M (a : Int32) (m : GM) : f_X5_isByte a m = some (wi a 0 255, m) := by unfold f_X5_isByte; rw [in_M, bnd_some, if_pos (wi_01 _ _ _)]
theorem isSheet_X (a : Int32) (x : GX) : f_X4_isSheet a x = some (wi a 0 3, x) := by unfold f_X4_isSheet; rw [within_X, bnd_some, if_pos (wi_01 _ _ _)]
theorem isShip_X (a : Int32) (x : GX) : f_X4_isShip a x = some (wi a 0 (xS x 0 1 - 1), x) := by unfold f_X4_isShip; rw [within_X, bnd_some, if_pos (wi_01 _ _ _)]
theorem isShip_M (a : Int32) (m : GM) : f_X5_isShip a m = some (wi a 0 (mI m 0 - 1), m) := by unfold f_X5_isShip; rw [in_M, bnd_some, if_pos (wi_01 _ _ _)]
theorem nat_of (a : Int32) {hi : Nat} (hh : hi < 2 ^ 31) (h1 : ¬ a < 0) (h2 : ¬ nI hi < a) : ∃ c : Nat, c ≤ hi ∧ a = nI c := by
  rw [Int32.lt_iff_toInt_lt] at h1 h2
  rw [show (0 : Int32).toInt = 0 from by decide] at h1
  rw [nI_toInt hh] at h2
  refine ⟨a.toInt.toNat, by omega, ?_⟩
  apply Int32.toInt_inj.mp
  rw [nI_toInt (by omega)]
  omega
theorem wi_nat (a : Int32) (hi : Nat) (hh : hi < 2 ^ 31) : wi a 0 (nI hi) = 0 ∨ (wi a 0 (nI hi) = 1 ∧ ∃ c : Nat, c ≤ hi ∧ a = nI c) := by
  unfold wi
  by_cases h1 : a < 0
  · rw [if_pos h1]; exact Or.inl rfl
  · rw [if_neg h1]
    by_cases h2 : nI hi < a
    · rw [if_pos h2]; exact Or.inl rfl
    · rw [if_neg h2]; exact Or.inr ⟨rfl, nat_of a hh h1 h2⟩
theorem wi_ship (a : Int32) (n : Nat) (hn : n < 2 ^ 31) : wi a 0 (nI n - 1) = 0 ∨ (wi a 0 (nI n - 1) = 1 ∧ ∃ c : Nat, c < n ∧ a = nI c) := by
  by_cases h0 : n = 0
  · subst h0
    left
    unfold wi
    by_cases h1 : a < 0
    · rw [if_pos h1]
    · rw [if_neg h1, if_pos]
      rw [Int32.lt_iff_toInt_lt] at h1 ⊢
      rw [show (nI 0 - 1 : Int32).toInt = -1 from by decide]
      rw [show (0 : Int32).toInt = 0 from by decide] at h1
      omega
  · rw [show nI n - (1 : Int32) = nI (n - 1) from sub_nI (b := 1) (by omega)]
    rcases wi_nat a (n - 1) (by omega) with h | ⟨h, c, hc, e⟩
    · exact Or.inl h
    · exact Or.inr ⟨h, c, by omega, e⟩
theorem wi_rng (a lo hi : Int32) : wi a lo hi = 0 ∨ (wi a lo hi = 1 ∧ lo ≤ a ∧ a ≤ hi) := by
  unfold wi
  by_cases h1 : a < lo
  · rw [if_pos h1]; exact Or.inl rfl
  · rw [if_neg h1]
    by_cases h2 : hi < a
    · rw [if_pos h2]; exact Or.inl rfl
    · rw [if_neg h2]
      rw [Int32.lt_iff_toInt_lt] at h1 h2
      exact Or.inr ⟨rfl, by rw [Int32.le_iff_toInt_le]; omega, by rw [Int32.le_iff_toInt_le]; omega⟩
theorem ifs : (((1 : Int32) = 0) = False) ∧ (((0 : Int32) = 1) = False) ∧ (((0 : Int32) ≠ 0) = False) ∧ (((1 : Int32) ≠ 0) = True) ∧ (((0 : Int32) = 0) = True) := by decide
