/-! ===== frames of the relation ===== -/
theorem SR_fr {z : Nat} {x x' : GX} {m m' : GM} (h : SR z x m) (b1 : ∀ k, k < 5 → xS x' z k = xS x z k) (b2 : xR x' z = xR x z) (b3 : ∀ k, k < 5 → xB x' z k = xB x z k) (b4 : ∀ t, xU x' t 0 = xU x t 0 ∧ xU x' t 2 = xU x t 2) (c1 : mI m' 0 = mI m 0) (c2 : mI m' 1 = mI m 1) (c3 : mI m' 2 = mI m 2) (c4 : mI m' 5 = mI m 5) (c5 : mL m' 0 = mL m 0) (c6 : ∀ a, a < 6 → mA m' a = mA m a) (c7 : mA m' 7 = mA m 7) (c8 : mA m' 8 = mA m 8) : SR z x' m' := by
  obtain ⟨h1, h2, h3, h4, h5, h6, ⟨t, h7, h8, h9⟩, h10, n, h11, h12, h13⟩ := h
  refine ⟨by rw [b1 1 (by decide), c1]; exact h1, by rw [b1 2 (by decide), c3]; exact h2, by rw [b1 3 (by decide), c2]; exact h3, by rw [b1 4 (by decide), c4]; exact h4, by rw [b2, c5]; exact h5, by rw [c3]; exact h6, ⟨t, h7, by rw [c4]; exact h8, TR_fr h9 (b4 t).1 (b4 t).2 c7 c8⟩, ?_, n, h11, by rw [c1]; exact h12, ?_⟩
  · intro i hi
    rw [b3 0 (by decide), c6 5 (by decide)]; exact h10 i hi
  · intro s hs
    have k := h13 s hs
    unfold ShR at k ⊢
    rw [b3 1 (by decide), b3 2 (by decide), b3 3 (by decide), b3 4 (by decide), b1 0 (by decide), c6 0 (by decide), c6 1 (by decide), c6 2 (by decide), c6 3 (by decide), c6 4 (by decide)]
    exact k
/-! ===== sheets ===== -/
def SX (q : Nat) (x x' : GX) : Prop := xI x' = xI x ∧ xS x' = xS x ∧ xR x' = xR x ∧ xB x' = xB x ∧ xU x' = xU x ∧ (∀ y, y ≠ q → xH x' y = xH x y) ∧ (∀ y, y ≠ q → xN x' y = xN x y) ∧ xP x' = xP x
def SM (q : Nat) (m m' : GM) : Prop := mI m' = mI m ∧ mL m' = mL m ∧ (∀ a, a ≠ 11 → a ≠ 12 → a ≠ 13 → mA m' a = mA m a) ∧ (∀ p, p ≠ q → mA m' 11 p = mA m 11 p ∧ mA m' 12 p = mA m 12 p) ∧ ∀ p, (p < 40 * q ∨ 40 * q + 40 ≤ p) → mA m' 13 p = mA m 13 p
theorem SX_refl (q : Nat) (x : GX) : SX q x x := ⟨rfl, rfl, rfl, rfl, rfl, fun _ _ => rfl, fun _ _ => rfl, rfl⟩
theorem SX_trans {q : Nat} {a b c : GX} (h : SX q a b) (k : SX q b c) : SX q a c := by
  obtain ⟨h1, h2, h3, h4, h5, h6, h7, h8⟩ := h
  obtain ⟨k1, k2, k3, k4, k5, k6, k7, k8⟩ := k
  exact ⟨k1.trans h1, k2.trans h2, k3.trans h3, k4.trans h4, k5.trans h5, fun y p => (k6 y p).trans (h6 y p), fun y p => (k7 y p).trans (h7 y p), k8.trans h8⟩
theorem SM_refl (q : Nat) (m : GM) : SM q m m := ⟨rfl, rfl, fun _ _ _ _ => rfl, fun _ _ => ⟨rfl, rfl⟩, fun _ _ => rfl⟩
theorem SM_trans {q : Nat} {a b c : GM} (h : SM q a b) (k : SM q b c) : SM q a c := by
  obtain ⟨h1, h2, h3, h4, h5⟩ := h
  obtain ⟨k1, k2, k3, k4, k5⟩ := k
  exact ⟨k1.trans h1, k2.trans h2, fun a p1 p2 p3 => (k3 a p1 p2 p3).trans (h3 a p1 p2 p3), fun p hp => ⟨(k4 p hp).1.trans (h4 p hp).1, (k4 p hp).2.trans (h4 p hp).2⟩, fun p hp => (k5 p hp).trans (h5 p hp)⟩
theorem xH_s (x : GX) (q j : Nat) (v : Int32) : xH (sH x q j v) q j = v := by
  show up (xH x) q (up (xH x q) j v) q j = v
  rw [up_s, up_s]
theorem xH_n (x : GX) (q : Nat) {j k : Nat} (y : Nat) (v : Int32) (h : k ≠ j) : xH (sH x q j v) y k = xH x y k := by
  show up (xH x) q (up (xH x q) j v) y k = _
  by_cases p : y = q
  · subst p; rw [up_s, up_n _ _ h]
  · rw [up_n _ _ p]
theorem xH_z (x : GX) {q y : Nat} (j : Nat) (v : Int32) (h : y ≠ q) : xH (sH x q j v) y = xH x y := by show up _ _ _ _ = _; rw [up_n _ _ h]
theorem xN_s (x : GX) (q i : Nat) (v : Int32) : xN (sN x q i v) q = upd (xN x q) i v := by show up _ _ _ _ = _; rw [up_s]
theorem xN_z (x : GX) {q y : Nat} (i : Nat) (v : Int32) (h : y ≠ q) : xN (sN x q i v) y = xN x y := by show up _ _ _ _ = _; rw [up_n _ _ h]
theorem SX_sH (q : Nat) (x : GX) (j : Nat) (v) : SX q x (sH x q j v) := ⟨rfl, rfl, rfl, rfl, rfl, fun _ p => xH_z _ _ _ p, fun _ _ => rfl, rfl⟩
theorem SX_sN (q : Nat) (x : GX) (i : Nat) (v) : SX q x (sN x q i v) := ⟨rfl, rfl, rfl, rfl, rfl, fun _ _ => rfl, fun _ p => xN_z _ _ _ p, rfl⟩
theorem SM_11 (q : Nat) (m : GM) (v) : SM q m (tA m 11 q v) := ⟨rfl, rfl, fun a p _ _ => mA_n _ _ _ p, fun p hp => ⟨by rw [mA_s, upd_n _ _ hp], by rw [mA_n _ _ _ (by decide)]⟩, fun p _ => by rw [mA_n _ _ _ (by decide)]⟩
theorem SM_12 (q : Nat) (m : GM) (v) : SM q m (tA m 12 q v) := ⟨rfl, rfl, fun a _ p _ => mA_n _ _ _ p, fun p hp => ⟨by rw [mA_n _ _ _ (by decide)], by rw [mA_s, upd_n _ _ hp]⟩, fun p _ => by rw [mA_n _ _ _ (by decide)]⟩
theorem SM_13 (q : Nat) (m : GM) (i : Nat) (v) (hi : i < 40) : SM q m (tA m 13 (40 * q + i) v) := ⟨rfl, rfl, fun a _ _ p => mA_n _ _ _ p, fun p hp => ⟨by rw [mA_n _ _ _ (by decide)], by rw [mA_n _ _ _ (by decide)]⟩, fun p hp => by rw [mA_s, upd_n _ _ (by omega)]⟩
theorem RR_sh {x x' : GX} {m m' : GM} {q : Nat} (h : RR x m) (hx : SX q x x') (hm : SM q m m') (h1 : xH x' q 0 = mA m' 11 q) (h2 : ∃ k : Nat, k ≤ 40 ∧ xH x' q 1 = nI k ∧ mA m' 12 q = nI k) (h3 : ∀ i, i < 40 → xN x' q i = mA m' 13 (40 * q + i)) : RR x' m' := by
  obtain ⟨hS, a1, a2, a3, a4, a5, a6, a7⟩ := h
  obtain ⟨b1, b2, b3, b4, b5, b6, b7, b8⟩ := hx
  obtain ⟨c1, c2, c3, c4, c5⟩ := hm
  refine ⟨SR_fr hS (fun _ _ => by rw [b2]) (by rw [b3]) (fun _ _ => by rw [b4]) (fun _ => by rw [b5]; exact ⟨rfl, rfl⟩) (by rw [c1]) (by rw [c1]) (by rw [c1]) (by rw [c1]) (by rw [c2]) (fun a _ => c3 a (by omega) (by omega) (by omega)) (c3 7 (by decide) (by decide) (by decide)) (c3 8 (by decide) (by decide) (by decide)), TXR_fr a1 (by rw [b1]) (fun _ => by rw [b5]; exact ⟨rfl, rfl⟩) (by rw [c1]) (by rw [c1]) (c3 7 (by decide) (by decide) (by decide)) (c3 8 (by decide) (by decide) (by decide)), TPR_fr a2 (by rw [b1]) b8 (by rw [c1]) (c3 6 (by decide) (by decide) (by decide)), ?_, IMR_fr a4 (by rw [b1]) (by rw [b2]) (by rw [b3]) (by rw [b4]) (by rw [c1]) (by rw [c1]) (by rw [c1]) (by rw [c2]) (c3 9 (by decide) (by decide) (by decide)) (c3 10 (by decide) (by decide) (by decide)) (c3 0 (by decide) (by decide) (by decide)) (c3 1 (by decide) (by decide) (by decide)), KNR_fr a5 (by rw [c1]) (by rw [c1]) (c3 0 (by decide) (by decide) (by decide)), ?_, ?_⟩
  · intro p hp
    by_cases e : p = q
    · subst e; exact ⟨h1, h2, h3⟩
    · obtain ⟨d1, d2, d3⟩ := a3 p hp
      refine ⟨by rw [b6 p e, (c4 p e).1]; exact d1, by rw [b6 p e, (c4 p e).2]; exact d2, ?_⟩
      intro i hi
      rw [b7 p e, c5 (40 * p + i) (by omega)]
      exact d3 i hi
  · show mA m' 15 = _
    rw [c3 15 (by decide) (by decide) (by decide)]; exact a6
  · unfold RKR
    rw [c2]; exact a7
theorem zero_X (q : Nat) : ∀ (k c F : Nat) (x : GX), c + k = 40 → k < F → ∃ x', k_X3_become_12 q F (nI c) x = some ((), x') ∧ SX q x x' ∧ xH x' = xH x ∧ (∀ i, c ≤ i → i < 40 → xN x' q i = 0) ∧ ∀ i, i < c → xN x' q i = xN x q i := by
  intro k
  induction k with
  | zero =>
    intro c F x hc hF
    obtain ⟨F, rfl⟩ : ∃ k, F = k + 1 := ⟨F - 1, by omega⟩
    have : c = 40 := by omega
    subst this
    refine ⟨x, ?_, SX_refl q x, rfl, fun i a b => by omega, fun _ _ => rfl⟩
    show b_X3_become_12 q (k_X3_become_12 q F) (nI 40) x = _
    unfold b_X3_become_12
    rw [if_pos (by decide)]
  | succ k ih =>
    intro c F x hc hF
    obtain ⟨F, rfl⟩ : ∃ k, F = k + 1 := ⟨F - 1, by omega⟩
    obtain ⟨x', e, a1, a2, a3, a4⟩ := ih (c + 1) F (sN x q c 0) (by omega) (by omega)
    refine ⟨x', ?_, SX_trans (SX_sN _ _ _ _) a1, a2, ?_, ?_⟩
    · rw [← e]
      show b_X3_become_12 q (k_X3_become_12 q F) (nI c) x = _
      unfold b_X3_become_12
      rw [if_neg (show ¬ (40 : Int32) ≤ nI c from nI_ge (b := 40) (by omega) (by decide)), grd_ok _ (by omega) (by decide), nI_clamp (by omega), bnd_some, show nI c + (1 : Int32) = nI (c + 1) from nI_add c 1]
    · intro i h1 h2
      by_cases p : i = c
      · subst p; rw [a4 i (by omega), xN_s, upd_s]
      · exact a3 i (by omega) h2
    · intro i hi
      rw [a4 i (by omega), xN_s, upd_n _ _ (by omega)]
theorem become_X3 (q : Nat) (a b : Int32) (x : GX) : ∃ x', f_X3_become q a b x = some ((), x') ∧ SX q x x' ∧ xH x' q 0 = a ∧ xH x' q 1 = b ∧ ∀ i, i < 40 → xN x' q i = 0 := by
  obtain ⟨x', e, a1, a2, a3, _⟩ := zero_X q 40 0 FU (sH (sH x q 0 a) q 1 b) rfl (by decide)
  refine ⟨x', ?_, SX_trans (SX_trans (SX_sH _ _ _ _) (SX_sH _ _ _ _)) a1, ?_, ?_, fun i hi => a3 i (by omega) hi⟩
  · unfold f_X3_become
    rw [bnd_some, bnd_some]
    exact e
  · rw [a2, xH_n _ _ _ _ (by decide), xH_s]
  · rw [a2, xH_s]
theorem ix40 (q c : Nat) : (40 : Int32) * nI q + nI c = nI (40 * q + c) := by
  rw [show (40 : Int32) = nI 40 from rfl, pk_mul, nIs]
theorem zero_M (q : Nat) (hq : q < 4) : ∀ (k c F : Nat) (m : GM), c + k = 40 → k < F → ∃ m', k_X5_sheet_70 F (nI q) (nI c) m = some (1, m') ∧ SM q m m' ∧ mA m' 11 = mA m 11 ∧ mA m' 12 = mA m 12 ∧ (∀ i, c ≤ i → i < 40 → mA m' 13 (40 * q + i) = 0) ∧ ∀ i, i < c → mA m' 13 (40 * q + i) = mA m 13 (40 * q + i) := by
  intro k
  induction k with
  | zero =>
    intro c F m hc hF
    obtain ⟨F, rfl⟩ : ∃ k, F = k + 1 := ⟨F - 1, by omega⟩
    have : c = 40 := by omega
    subst this
    refine ⟨m, ?_, SM_refl q m, rfl, rfl, fun i a b => by omega, fun _ _ => rfl⟩
    show b_X5_sheet_70 (k_X5_sheet_70 F) (nI q) (nI 40) m = _
    unfold b_X5_sheet_70
    rw [if_pos (by decide)]
  | succ k ih =>
    intro c F m hc hF
    obtain ⟨F, rfl⟩ : ∃ k, F = k + 1 := ⟨F - 1, by omega⟩
    obtain ⟨m', e, a1, a2, a3, a4, a5⟩ := ih (c + 1) F (tA m 13 (40 * q + c) 0) (by omega) (by omega)
    refine ⟨m', ?_, SM_trans (SM_13 q m c 0 (by omega)) a1, a2, a3, ?_, ?_⟩
    · rw [← e]
      show b_X5_sheet_70 (k_X5_sheet_70 F) (nI q) (nI c) m = _
      unfold b_X5_sheet_70
      rw [if_neg (show ¬ (40 : Int32) ≤ nI c from nI_ge (b := 40) (by omega) (by decide)), ix40, grd_ok _ (by omega) (by decide), nI_clamp (by omega), bnd_some, show nI c + (1 : Int32) = nI (c + 1) from nI_add c 1]
    · intro i h1 h2
      by_cases p : i = c
      · subst p; rw [a5 i (by omega), mA_s, upd_s]
      · exact a4 i (by omega) h2
    · intro i hi
      rw [a5 i (by omega), mA_s, upd_n _ _ (by omega)]
theorem in_sheet (a : Int32) (m : GM) : f_X5_in a 0 3 m = some (wi a 0 3, m) := in_M a 0 3 m
theorem sheet_44 {x : GX} {m : GM} (h : RR x m) {q : Nat} (hq : q < 4) (a b : Int32) {n : Nat} (hn : n ≤ 40) (hb : (if a ≠ -1 then b else 0) = nI n) :
    PP (bnd (f_X3_become q a (nI n) x) fun q4 => some ((1 : Int32), q4.2)) (b_X5_sheet_44 (nI q) a b m) := by
  obtain ⟨x', e1, a1, a2, a3, a4⟩ := become_X3 q a (nI n) x
  have hM : b_X5_sheet_44 (nI q) a b m = k_X5_sheet_70 FU (nI q) (nI 0) (tA (tA m 11 q a) 12 q (nI n)) := by
    unfold b_X5_sheet_44
    rw [grd_ok _ hq (by decide), nI_clamp (by omega), bnd_some, grd_ok _ hq (by decide), grd_ok _ hq (by decide), bnd_some, bnd_some]
    by_cases c : a ≠ -1
    · rw [if_pos c] at hb ⊢
      rw [hb]; rfl
    · rw [if_neg c] at hb ⊢
      have : n = 0 := (eq_nI (a := n) (b := 0) (by omega) (by decide)).mp hb.symm
      subst this; rfl
  obtain ⟨m', e2, b1, b2, b3, b4, _⟩ := zero_M q hq 40 0 FU (tA (tA m 11 q a) 12 q (nI n)) rfl (by decide)
  rw [e1, bnd_some, hM, e2]
  refine PP_mk rfl rfl (RR_sh h a1 (SM_trans (SM_11 q m a) (SM_trans (SM_12 q _ _) b1)) ?_ ⟨n, hn, a3, ?_⟩ ?_)
  · rw [a2, b2, mA_n _ _ _ (by decide), mA_s, upd_s]
  · rw [b3, mA_s, upd_s]
  · intro i hi
    rw [a4 i hi, b4 i (by omega) hi]
theorem eq_sheet (a b c : Int32) : EQ (f_X4_sheet a b c) (f_X5_sheet a b c) := by
  intro x m h
  simp only [f_X4_sheet, f_X5_sheet, isSheet_X, within_X, in_M, bnd_some, b_X5_sheet_32]
  rcases wi_sheet a with e | ⟨e, q, hq, rfl⟩
  · simp only [e, ifs, if_true]
    exact PP_same h
  · simp only [e, ifs, if_false]
    rcases wi_rng b (-1) 2 with e | ⟨e, _, _⟩
    · simp only [e, ifs, if_true, if_false]
      exact PP_same h
    · simp only [e, ifs, if_true, if_false]
      have g1 : ∀ {α : Type} (r : Option α), grd (nI q) 4 r = r := fun r => grd_ok r hq (by decide)
      simp only [g1, nI_clamp (show q < 2 ^ 31 by omega)]
      by_cases p : b = -1
      · subst p
        rw [if_neg (show ¬ (-1 : Int32) ≠ -1 from fun q => q rfl), if_pos rfl, if_pos rfl]
        exact sheet_44 h hq (-1) c (n := 0) (by decide) (if_neg (fun q => q rfl))
      · rw [if_pos p, if_neg p]
        simp only [if_neg p]
        by_cases p2 : c ≤ (40 : Int32)
        · rw [if_pos p2, if_pos p2]
          by_cases p3 : (0 : Int32) ≤ c
          · rw [if_pos p3, if_pos p3]
            obtain ⟨n, hn, rfl⟩ := nat_of c (hi := 40) (by decide) (fun q => by
              rw [Int32.lt_iff_toInt_lt] at q; rw [Int32.le_iff_toInt_le] at p3; omega) (fun q => by
              rw [Int32.lt_iff_toInt_lt] at q; rw [Int32.le_iff_toInt_le] at p2
              have : (nI 40).toInt = (40 : Int32).toInt := rfl
              omega)
            exact sheet_44 h hq b (nI n) hn (if_pos p)
          · rw [if_neg p3, if_neg p3]
            exact PP_same h
        · rw [if_neg p2, if_neg p2]
          exact PP_same h
/-! ===== cell ===== -/
theorem has_X (q : Nat) (i : Int32) {x : GX} {sz : Nat} (hs : sz ≤ 40) (h1 : xH x q 1 = nI sz) : f_X3_has q i x = some (wi i 0 (nI sz - 1), x) := by
  unfold f_X3_has
  rw [h1]
  rcases wi_ship i sz (by omega) with e | ⟨e, c, hc, rfl⟩
  · rw [e]
    by_cases p1 : i < 0
    · rw [if_pos p1]
    · rw [if_neg p1]
      by_cases p2 : nI sz ≤ i
      · rw [if_pos p2]
      · exfalso
        obtain ⟨j, hj, rfl⟩ := nI_of p1
        have hj2 : j < sz := by
          rcases Nat.lt_or_ge j sz with q | q
          · exact q
          · exact absurd (nI_le q hj) p2
        have e1 : wi (nI j) 0 (nI sz - 1) = 1 := by
          unfold wi
          rw [if_neg (nI_pos hj), show nI sz - (1 : Int32) = nI (sz - 1) from sub_nI (b := 1) (by omega), if_neg (nI_nlt (by omega) (by omega))]
        rw [e1] at e
        exact absurd e (by decide)
  · rw [e, if_neg (nI_pos (by omega)), if_neg (nI_ge hc (by omega)), if_neg (show ¬ (40 : Int32) ≤ nI c from nI_ge (b := 40) (by omega) (by decide))]
theorem wi_self {c sz : Nat} (h : c < sz) (hs : sz ≤ 40) : wi (nI c) 0 (nI sz - 1) = 1 := by
  unfold wi
  rw [if_neg (nI_pos (by omega)), show nI sz - (1 : Int32) = nI (sz - 1) from sub_nI (b := 1) (by omega), if_neg (nI_nlt (by omega) (by omega))]
def nar (s v : Int32) : Int32 := if s ≠ 0 then (if s ≠ 1 then v else v.toInt16.toInt32) else v.toInt8.toInt32
theorem set_X (q : Nat) {c sz : Nat} (v : Int32) {x : GX} (hs : sz ≤ 40) (h1 : xH x q 1 = nI sz) (hc : c < sz) : f_X3_set q (nI c) v x = some ((), sN x q c (nar (xH x q 0) v)) := by
  unfold f_X3_set nar
  rw [has_X q (nI c) hs h1, bnd_some, wi_self hc hs, if_neg (show ¬ (1 : Int32) = 0 by decide)]
  simp only [grd_ok _ (show c < 40 by omega) (show 40 < 2 ^ 31 by decide), nI_clamp (show c < 2 ^ 31 by omega), bnd_some]
  by_cases p : xH x q 0 ≠ 0
  · simp only [if_pos p]
    by_cases p1 : xH x q 0 ≠ 1
    · simp only [if_pos p1]
    · simp only [if_neg p1]
  · simp only [if_neg p]
theorem RR_set {x : GX} {m : GM} {q c sz : Nat} (w : Int32) (h : RR x m) (hq : q < 4) (hs : sz ≤ 40) (hc : c < sz) (h1 : xH x q 1 = nI sz) : RR (sN x q c w) (tA m 13 (40 * q + c) w) := by
  obtain ⟨d1, d2, d3⟩ := h.2.2.2.1 q hq
  refine RR_sh (q := q) h (SX_sN q x c w) (SM_13 q m c w (by omega)) ?_ ?_ ?_
  · rw [mA_n _ _ _ (by decide)]; exact d1
  · rw [mA_n _ _ _ (by decide)]; exact d2
  · intro i hi
    rw [xN_s, mA_s]
    by_cases p : i = c
    · subst p; rw [upd_s, upd_s]
    · rw [upd_n _ _ p, upd_n _ _ (by omega)]; exact d3 i hi
theorem eq_cell (a b c : Int32) : EQ (f_X4_cell a b c) (f_X5_cell a b c) := by
  intro x m h
  simp only [f_X4_cell, f_X5_cell, isSheet_X, in_M, bnd_some]
  rcases wi_sheet a with e | ⟨e, q, hq, rfl⟩
  · simp only [e, ifs, if_false]
    exact PP_same h
  · simp only [e, ifs, if_true]
    obtain ⟨z0, ⟨sz, hz, z1, z2⟩, z3⟩ := h.2.2.2.1 q hq
    have g1 : ∀ {α : Type} (r : Option α), grd (nI q) 4 r = r := fun r => grd_ok r hq (by decide)
    simp only [g1, nI_clamp (show q < 2 ^ 31 by omega), z0, z2, has_X q b hz z1, bnd_some]
    by_cases p : mA m 11 q ≠ -1
    · simp only [if_pos p]
      rcases wi_ship b sz (by omega) with e | ⟨e, i, hi, rfl⟩
      · simp only [e, ifs, if_false]
        exact PP_same h
      · simp only [e, ifs, if_true]
        rw [set_X q c hz z1 hi, bnd_some, z0]
        have hR := RR_set (nar (mA m 11 q) c) h hq hz hi z1
        simp only [ix40, grd_ok _ (show 40 * q + i < 160 by omega) (show 160 < 2 ^ 31 by decide), nI_clamp (show 40 * q + i < 2 ^ 31 by omega), bnd_some]
        unfold nar at hR ⊢
        by_cases p0 : mA m 11 q ≠ 0
        · simp only [if_pos p0] at hR ⊢
          by_cases p1 : mA m 11 q ≠ 1
          · simp only [if_pos p1] at hR ⊢
            exact PP_same hR
          · simp only [if_neg p1] at hR ⊢
            exact PP_same hR
        · simp only [if_neg p0] at hR ⊢
          exact PP_same hR
    · simp only [if_neg p]
      exact PP_same h
/-! ===== copy ===== -/
/-- n numbers from a place on come to another, as they were -/
def mv (f : Nat → Int32) (s d n : Nat) : Nat → Int32 := fun p => if d ≤ p ∧ p < d + n then f (s + (p - d)) else f p
theorem tA_row (m : GM) (a i : Nat) (v : Int32) (f : Nat → Int32) (h : mA m a = f) : mA (tA m a i v) a = upd f i v := by rw [mA_s, h]
theorem up_loop {n s d : Nat} (m : GM) (hd : d ≤ s) (hs : s + n ≤ 160) :
    ∀ (k c F : Nat) (m1 : GM), c + k = n → k < F → mI m1 = mI m → mL m1 = mL m → (∀ a, a ≠ 13 → mA m1 a = mA m a) → (∀ p, mA m1 13 p = mv (mA m 13) s d c p) → ∃ m2, k_X5_copy_147 F (nI n) (nI s) (nI d) (nI c) m1 = some (nI n, m2) ∧ mI m2 = mI m ∧ mL m2 = mL m ∧ (∀ a, a ≠ 13 → mA m2 a = mA m a) ∧ ∀ p, mA m2 13 p = mv (mA m 13) s d n p := by
  intro k
  induction k with
  | zero =>
    intro c F m1 hc hF h1 h2 h3 h4
    obtain ⟨F, rfl⟩ : ∃ k, F = k + 1 := ⟨F - 1, by omega⟩
    have : c = n := by omega
    subst this
    refine ⟨m1, ?_, h1, h2, h3, h4⟩
    show b_X5_copy_147 (k_X5_copy_147 F) (nI c) (nI s) (nI d) (nI c) m1 = _
    unfold b_X5_copy_147
    rw [if_pos (nI_le (by omega) (by omega))]
  | succ k ih =>
    intro c F m1 hc hF h1 h2 h3 h4
    obtain ⟨F, rfl⟩ : ∃ k, F = k + 1 := ⟨F - 1, by omega⟩
    have hv : mA m1 13 (s + c) = mA m 13 (s + c) := by
      rw [h4]
      unfold mv
      rw [if_neg (by omega)]
    obtain ⟨m2, e, a1, a2, a3, a4⟩ := ih (c + 1) F (tA m1 13 (d + c) (mA m 13 (s + c))) (by omega) (by omega) h1 h2 (fun a p => (mA_n _ _ _ p).trans (h3 a p)) (fun p => by
      rw [mA_s]
      by_cases q : p = d + c
      · subst q
        rw [upd_s]
        unfold mv
        rw [if_pos (by omega)]
        congr 1; omega
      · rw [upd_n _ _ q, h4]
        unfold mv
        by_cases q2 : d ≤ p ∧ p < d + c
        · rw [if_pos q2, if_pos (by omega)]
        · rw [if_neg q2, if_neg (by omega)])
    refine ⟨m2, ?_, a1, a2, a3, a4⟩
    rw [← e]
    show b_X5_copy_147 (k_X5_copy_147 F) (nI n) (nI s) (nI d) (nI c) m1 = _
    unfold b_X5_copy_147 b_X5_copy_173
    rw [if_neg (nI_ge (by omega) (by omega)), if_pos (nI_le hd (by omega)), nIs, nIs, grd_ok _ (by omega) (by decide), grd_ok _ (by omega) (by decide), nI_clamp (by omega), nI_clamp (by omega), bnd_some, hv, show nI c + (1 : Int32) = nI (c + 1) from nI_add c 1]
theorem down_loop {n s d : Nat} (m : GM) (hd : s < d) (hs : d + n ≤ 160) :
    ∀ (k c F : Nat) (m1 : GM), c + k = n → k < F → mI m1 = mI m → mL m1 = mL m → (∀ a, a ≠ 13 → mA m1 a = mA m a) → (∀ p, mA m1 13 p = if d + k ≤ p ∧ p < d + n then mA m 13 (s + (p - d)) else mA m 13 p) → ∃ m2, k_X5_copy_147 F (nI n) (nI s) (nI d) (nI c) m1 = some (nI n, m2) ∧ mI m2 = mI m ∧ mL m2 = mL m ∧ (∀ a, a ≠ 13 → mA m2 a = mA m a) ∧ ∀ p, mA m2 13 p = mv (mA m 13) s d n p := by
  intro k
  induction k with
  | zero =>
    intro c F m1 hc hF h1 h2 h3 h4
    obtain ⟨F, rfl⟩ : ∃ k, F = k + 1 := ⟨F - 1, by omega⟩
    have : c = n := by omega
    subst this
    refine ⟨m1, ?_, h1, h2, h3, h4⟩
    show b_X5_copy_147 (k_X5_copy_147 F) (nI c) (nI s) (nI d) (nI c) m1 = _
    unfold b_X5_copy_147
    rw [if_pos (nI_le (by omega) (by omega))]
  | succ k ih =>
    intro c F m1 hc hF h1 h2 h3 h4
    obtain ⟨F, rfl⟩ : ∃ k, F = k + 1 := ⟨F - 1, by omega⟩
    have hv : mA m1 13 (s + k) = mA m 13 (s + k) := by
      rw [h4, if_neg (by omega)]
    obtain ⟨m2, e, a1, a2, a3, a4⟩ := ih (c + 1) F (tA m1 13 (d + k) (mA m 13 (s + k))) (by omega) (by omega) h1 h2 (fun a p => (mA_n _ _ _ p).trans (h3 a p)) (fun p => by
      rw [mA_s]
      by_cases q : p = d + k
      · subst q
        rw [upd_s, if_pos (by omega)]
        congr 1; omega
      · rw [upd_n _ _ q, h4]
        by_cases q2 : d + (k + 1) ≤ p ∧ p < d + n
        · rw [if_pos q2, if_pos (by omega)]
        · rw [if_neg q2, if_neg (by omega)])
    refine ⟨m2, ?_, a1, a2, a3, a4⟩
    rw [← e]
    show b_X5_copy_147 (k_X5_copy_147 F) (nI n) (nI s) (nI d) (nI c) m1 = _
    have hk : nI n - (1 : Int32) - nI c = nI k := by
      rw [show nI n - (1 : Int32) = nI (n - 1) from sub_nI (b := 1) (by omega), sub_nI (by omega)]
      exact congrArg nI (by omega)
    unfold b_X5_copy_147 b_X5_copy_173
    rw [if_neg (nI_ge (by omega) (by omega)), if_neg (nI_ge hd (by omega)), hk, nIs, nIs, grd_ok _ (by omega) (by decide), grd_ok _ (by omega) (by decide), nI_clamp (by omega), nI_clamp (by omega), bnd_some, hv, show nI c + (1 : Int32) = nI (c + 1) from nI_add c 1]
theorem copy_M {n s d : Nat} (m : GM) (hs : s + n ≤ 160) (hd : d + n ≤ 160) : ∃ m2, k_X5_copy_147 FU (nI n) (nI s) (nI d) (0 : Int32) m = some (nI n, m2) ∧ mI m2 = mI m ∧ mL m2 = mL m ∧ (∀ a, a ≠ 13 → mA m2 a = mA m a) ∧ ∀ p, mA m2 13 p = mv (mA m 13) s d n p := by
  rcases Nat.lt_or_ge s d with q | q
  · exact down_loop m q hd n 0 FU m (by omega) (by show _ < 1000; omega) rfl rfl (fun _ _ => rfl) (fun p => by rw [if_neg (by omega)])
  · exact up_loop m q hs n 0 FU m (by omega) (by show _ < 1000; omega) rfl rfl (fun _ _ => rfl) (fun p => by unfold mv; rw [if_neg (by omega)])
theorem holds_X (q : Nat) (i n : Int32) {x : GX} {sz : Nat} (hs : sz ≤ 40) (h1 : xH x q 1 = nI sz) : ∃ r, f_X3_holds q i n x = some (r, x) ∧ (r = 0 ∨ r = 1) ∧ (r = 1 ↔ ∃ a b : Nat, i = nI a ∧ n = nI b ∧ a + b ≤ sz) := by
  unfold f_X3_holds
  rw [h1]
  by_cases p1 : n < 0
  · rw [if_pos p1]
    exact ⟨0, rfl, Or.inl rfl, ⟨fun q => absurd q (by decide), fun ⟨a, b, _, e, h⟩ => by subst e; exact absurd p1 (nI_pos (by omega))⟩⟩
  · rw [if_neg p1]
    obtain ⟨b, hb, rfl⟩ := nI_of p1
    by_cases p2 : nI sz < nI b
    · rw [if_pos p2]
      refine ⟨0, rfl, Or.inl rfl, ⟨fun q => absurd q (by decide), fun ⟨a, b', _, e, h⟩ => ?_⟩⟩
      have := (eq_nI hb (by omega)).mp e
      have := (lt_nI (by omega) hb).mp p2
      omega
    · rw [if_neg p2]
      have hb2 : b ≤ sz := by
        rcases Nat.lt_or_ge sz b with q | q
        · exact absurd (nI_lt q hb) p2
        · exact q
      by_cases p3 : i < 0
      · rw [if_pos p3]
        exact ⟨0, rfl, Or.inl rfl, ⟨fun q => absurd q (by decide), fun ⟨a, b, e, _, h⟩ => by subst e; exact absurd p3 (nI_pos (by omega))⟩⟩
      · rw [if_neg p3]
        obtain ⟨a, ha, rfl⟩ := nI_of p3
        rw [sub_nI hb2]
        by_cases p4 : nI (sz - b) < nI a
        · rw [if_pos p4]
          refine ⟨0, rfl, Or.inl rfl, ⟨fun q => absurd q (by decide), fun ⟨a', b', e1, e2, h⟩ => ?_⟩⟩
          have := (eq_nI ha (by omega)).mp e1
          have := (eq_nI hb (by omega)).mp e2
          have := (lt_nI (by omega) ha).mp p4
          omega
        · rw [if_neg p4]
          refine ⟨1, rfl, Or.inr rfl, ⟨fun _ => ⟨a, b, rfl, rfl, ?_⟩, fun _ => rfl⟩⟩
          rcases Nat.lt_or_ge (sz - b) a with q | q
          · exact absurd (nI_lt q ha) p4
          · omega
theorem eq_copy (a b c d e : Int32) : EQ (f_X4_copy a b c d e) (f_X5_copy a b c d e) := by
  intro x m h
  simp only [f_X4_copy, f_X5_copy, isSheet_X, in_M, bnd_some]
  rcases wi_sheet a with ea | ⟨ea, q1, hq1, rfl⟩
  · simp only [ea, ifs, if_true]
    exact PP_same h
  · simp only [ea, ifs, if_false]
    rcases wi_sheet c with ec | ⟨ec, q2, hq2, rfl⟩
    · simp only [ec, ifs, if_false]
      exact PP_same h
    · simp only [ec, ifs, if_true]
      obtain ⟨z0, ⟨sz, hz, z1, z2⟩, z3⟩ := h.2.2.2.1 q1 hq1
      obtain ⟨y0, ⟨sy, hy, y1, y2⟩, y3⟩ := h.2.2.2.1 q2 hq2
      have g1 : ∀ {α : Type} (r : Option α), grd (nI q1) 4 r = r := fun r => grd_ok r hq1 (by decide)
      have g2 : ∀ {α : Type} (r : Option α), grd (nI q2) 4 r = r := fun r => grd_ok r hq2 (by decide)
      simp only [g1, g2, nI_clamp (show q1 < 2 ^ 31 by omega), nI_clamp (show q2 < 2 ^ 31 by omega), z0, y0, z2, y2]
      by_cases p1 : mA m 11 q1 = -1
      · simp only [if_pos p1]; exact PP_same h
      · simp only [if_neg p1]
        by_cases p2 : mA m 11 q2 ≠ -1
        · simp only [if_pos p2]
          by_cases p3 : mA m 11 q1 = mA m 11 q2
          · simp only [if_pos p3]
            obtain ⟨r1, e1, r1c, r1i⟩ := holds_X q1 b e hz z1
            obtain ⟨r2, e2, r2c, r2i⟩ := holds_X q2 d e hy y1
            rw [e1, bnd_some, e2, bnd_some]
            have bad : r1 = 0 ∨ r2 = 0 → (if e < 0 then (some ((-12 : Int32), m)) else if b < 0 then some ((-12 : Int32), m) else if d < 0 then some ((-12 : Int32), m) else if nI sz < b then some ((-12 : Int32), m) else if nI sy < d then some ((-12 : Int32), m) else if nI sz - b < e then some ((-12 : Int32), m) else if e ≤ nI sy - d then k_X5_copy_147 FU e ((40 : Int32) * nI q1 + b) ((40 : Int32) * nI q2 + d) (0 : Int32) m else some ((-12 : Int32), m)) = some ((-12 : Int32), m) := by
              intro hr
              by_cases s1 : e < 0
              · rw [if_pos s1]
              rw [if_neg s1]
              by_cases s2 : b < 0
              · rw [if_pos s2]
              rw [if_neg s2]
              by_cases s3 : d < 0
              · rw [if_pos s3]
              rw [if_neg s3]
              obtain ⟨E, hE, rfl⟩ := nI_of s1
              obtain ⟨B, hB, rfl⟩ := nI_of s2
              obtain ⟨D, hD, rfl⟩ := nI_of s3
              by_cases s4 : nI sz < nI B
              · rw [if_pos s4]
              rw [if_neg s4]
              by_cases s5 : nI sy < nI D
              · rw [if_pos s5]
              rw [if_neg s5]
              have s4' : B ≤ sz := by
                rcases Nat.lt_or_ge sz B with q | q
                · exact absurd (nI_lt q hB) s4
                · exact q
              have s5' : D ≤ sy := by
                rcases Nat.lt_or_ge sy D with q | q
                · exact absurd (nI_lt q hD) s5
                · exact q
              rw [sub_nI s4', sub_nI s5']
              by_cases s6 : nI (sz - B) < nI E
              · rw [if_pos s6]
              rw [if_neg s6]
              have s6' : E ≤ sz - B := by
                rcases Nat.lt_or_ge (sz - B) E with q | q
                · exact absurd (nI_lt q hE) s6
                · exact q
              by_cases s7 : nI E ≤ nI (sy - D)
              · exfalso
                have s7' := (le_nI hE (by omega)).mp s7
                have h1 := r1i.mpr ⟨B, E, rfl, rfl, by omega⟩
                have h2 := r2i.mpr ⟨D, E, rfl, rfl, by omega⟩
                rw [h1, h2] at hr
                exact absurd hr (by decide)
              · rw [if_neg s7]
            rcases r1c with q | q
            · rw [bad (Or.inl q), q, if_pos rfl]
              exact PP_same h
            · rw [q, if_neg (show ¬ (1 : Int32) = 0 by decide)]
              rcases r2c with p | p
              · rw [bad (Or.inr p), p, if_neg (show ¬ (0 : Int32) ≠ 0 from fun q => q rfl)]
                exact PP_same h
              · rw [p, if_pos (show (1 : Int32) ≠ 0 by decide)]
                obtain ⟨B, E, rfl, rfl, hBE⟩ := r1i.mp q
                obtain ⟨D, E', rfl, hEE, hDE⟩ := r2i.mp p
                have hE' : E' = E := ((eq_nI (by omega) (by omega)).mp hEE).symm
                subst hE'
                have hcp : cpG (nI B) (nI D) (nI E') 40 40 (some (nI E', cN x q1 q2 (nI B).toNatClampNeg (nI D).toNatClampNeg (nI E').toNatClampNeg)) = some (nI E', cN x q1 q2 B D E') := by
                  unfold cpG
                  rw [nI_clamp (by omega), nI_clamp (by omega), nI_clamp (by omega)]
                  exact if_pos ⟨⟨nI_pos (by omega), nI_pos (by omega), nI_pos (by omega)⟩, by omega, by omega⟩
                rw [hcp]
                rw [if_neg (nI_pos (by omega)), if_neg (nI_pos (by omega)), if_neg (nI_pos (by omega)), if_neg (nI_nlt (by omega) (by omega)), if_neg (nI_nlt (by omega) (by omega)), sub_nI (by omega), sub_nI (by omega), if_neg (nI_nlt (by omega) (by omega)), if_pos (nI_le (by omega) (by omega)), ix40, ix40]
                obtain ⟨m2, e3, c1, c2, c3, c4⟩ := copy_M (n := E') (s := 40 * q1 + B) (d := 40 * q2 + D) m (by omega) (by omega)
                rw [e3]
                refine PP_mk rfl rfl (RR_sh (q := q2) h ⟨rfl, rfl, rfl, rfl, rfl, fun _ _ => rfl, fun y hy => ?_, rfl⟩ ⟨c1, c2, fun a _ _ p => c3 a p, fun p _ => by rw [c3 11 (by decide), c3 12 (by decide)]; exact ⟨rfl, rfl⟩, fun p hp => ?_⟩ ?_ ⟨sy, hy, y1, by rw [c3 12 (by decide)]; exact y2⟩ ?_)
                · show up (xN x) q2 (va_cpy (xN x q1) (xN x q2) B D E') y = _
                  rw [up_n _ _ hy]
                · rw [c4]
                  unfold mv
                  rw [if_neg (by omega)]
                · rw [c3 11 (by decide)]; exact y0
                · intro i hi
                  show up (xN x) q2 (va_cpy (xN x q1) (xN x q2) B D E') q2 i = _
                  rw [up_s, c4]
                  unfold va_cpy mv
                  by_cases w : D ≤ i ∧ i < D + E'
                  · rw [if_pos w, if_pos (by omega), z3 _ (by omega)]
                    congr 1; omega
                  · rw [if_neg w, if_neg (by omega)]
                    exact y3 i hi
          · simp only [if_neg p3]; exact PP_same h
        · simp only [if_neg p2]; exact PP_same h
