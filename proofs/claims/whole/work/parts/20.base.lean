/-! ===== the pure part: rows on Int32, guards, states ===== -/
theorem grd_ok {α : Type} {k n : Nat} (r : Option α) (h : k < n) (hn : n < 2 ^ 31) : grd (nI k) n r = r := by
  unfold grd
  exact if_pos (nI_in h hn)
theorem grd_none {α : Type} {i : Int32} {n : Nat} (r : Option α) (h : i < 0 ∨ n ≤ i.toNatClampNeg) : grd i n r = none := by
  unfold grd
  exact if_neg (fun q => q h)
/-- literals as nI -/
theorem lt0 : (0 : Int32) = nI 0 := rfl
theorem lt1 : (1 : Int32) = nI 1 := rfl
theorem nIs (a b : Nat) : nI a + nI b = nI (a + b) := nI_add a b
theorem le_nI {a b : Nat} (ha : a < 2 ^ 31) (hb : b < 2 ^ 31) : nI a ≤ nI b ↔ a ≤ b := nI_leI ha hb
theorem lt_nI {a b : Nat} (ha : a < 2 ^ 31) (hb : b < 2 ^ 31) : nI a < nI b ↔ a < b := nI_ltI ha hb
theorem eq_nI {a b : Nat} (ha : a < 2 ^ 31) (hb : b < 2 ^ 31) : nI a = nI b ↔ a = b := nI_eq ha hb
theorem nn_nI {a : Nat} (ha : a < 2 ^ 31) : ¬ nI a < 0 := nI_pos ha
theorem sub_nI {a b : Nat} (h : b ≤ a) : nI a - nI b = nI (a - b) := pk_sub h
/-- X's states: the texts' stacks set anew -/
def wst (x : GX) (u : Nat → Nat → Int32) : GX := (xI x, xS x, xR x, xB x, xT x, (fun t j => bif Nat.beq j 1 then u t else xU x t j), xH x, xN x, xP x, xV x, xY x)
def wm (m : GM) (v w : Nat → Int32) : GM := (mI m, mL m, up (up (mA m) 17 v) 18 w)
theorem wst_I (x : GX) (u) : xI (wst x u) = xI x := rfl
theorem wst_S (x : GX) (u) : xS (wst x u) = xS x := rfl
theorem wst_R (x : GX) (u) : xR (wst x u) = xR x := rfl
theorem wst_B (x : GX) (u) : xB (wst x u) = xB x := rfl
theorem wst_T (x : GX) (u) : xT (wst x u) = xT x := rfl
theorem wst_U0 (x : GX) (u) (t : Nat) : xU (wst x u) t 0 = xU x t 0 := rfl
theorem wst_U1 (x : GX) (u) (t : Nat) : xU (wst x u) t 1 = u t := rfl
theorem wst_U2 (x : GX) (u) (t : Nat) : xU (wst x u) t 2 = xU x t 2 := rfl
theorem wst_H (x : GX) (u) : xH (wst x u) = xH x := rfl
theorem wst_N (x : GX) (u) : xN (wst x u) = xN x := rfl
theorem wst_P (x : GX) (u) : xP (wst x u) = xP x := rfl
theorem wst_V (x : GX) (u) : xV (wst x u) = xV x := rfl
theorem wst_Y (x : GX) (u) : xY (wst x u) = xY x := rfl
theorem wst_wst (x : GX) (u u') : wst (wst x u) u' = wst x u' := by
  unfold wst
  congr 1; congr 1; congr 1; congr 1; congr 1; congr 1
  funext t j
  cases h : Nat.beq j 1
  · simp [xU, h]
  · simp [h]
theorem wst_self (x : GX) : ∃ u, x = wst x u := by
  refine ⟨fun t => xU x t 1, ?_⟩
  obtain ⟨a1, a2, a3, a4, a5, a6, a7, a8, a9, a10, a11⟩ := x
  show _ = _
  unfold wst
  congr 1; congr 1; congr 1; congr 1; congr 1; congr 1
  funext t j
  cases h : Nat.beq j 1
  · rfl
  · have := Nat.eq_of_beq_eq_true h
    subst this
    rfl
theorem sU_wst (x : GX) (u) (t i : Nat) (v : Int32) : sU (wst x u) t 1 i v = wst x (up u t (upd (u t) i v)) := by
  unfold sU
  show (_, _, _, _, _, _, _, _, _, _, _) = (_, _, _, _, _, _, _, _, _, _, _)
  congr 1; congr 1; congr 1; congr 1; congr 1; congr 1
  funext t' j
  by_cases h1 : t' = t
  · subst h1
    rw [up_s]
    by_cases h2 : j = 1
    · subst h2
      rw [up_s]
      show _ = (bif Nat.beq 1 1 then up u t' (upd (u t') i v) t' else _)
      rw [show Nat.beq 1 1 = true from rfl, cond_true, up_s]
      rfl
    · rw [up_n _ _ h2]
      have : Nat.beq j 1 = false := by
        cases hq : Nat.beq j 1
        · rfl
        · exact absurd (Nat.eq_of_beq_eq_true hq) h2
      show (bif Nat.beq j 1 then u t' else xU x t' j) = (bif Nat.beq j 1 then up u t' (upd (u t') i v) t' else xU x t' j)
      rw [this]; rfl
  · rw [up_n _ _ h1]
    show (bif Nat.beq j 1 then u t' else xU x t' j) = (bif Nat.beq j 1 then up u t (upd (u t) i v) t' else xU x t' j)
    rw [up_n _ _ h1]
theorem wm_I (m : GM) (v w) : mI (wm m v w) = mI m := rfl
theorem wm_L (m : GM) (v w) : mL (wm m v w) = mL m := rfl
theorem wm_17 (m : GM) (v w) : mA (wm m v w) 17 = v := rfl
theorem wm_18 (m : GM) (v w) : mA (wm m v w) 18 = w := rfl
theorem wm_o (m : GM) (v w) {a : Nat} (h1 : a ≠ 17) (h2 : a ≠ 18) : mA (wm m v w) a = mA m a := by
  show up (up (mA m) 17 v) 18 w a = _
  rw [up_n _ _ h2, up_n _ _ h1]
theorem wm_wm (m : GM) (v w v' w') : wm (wm m v w) v' w' = wm m v' w' := by
  unfold wm
  congr 1; congr 1
  funext a
  by_cases h2 : a = 18
  · subst h2; rw [up_s, up_s]
  · rw [up_n _ _ h2, up_n _ _ h2]
    by_cases h1 : a = 17
    · subst h1; rw [up_s, up_s]
    · rw [up_n _ _ h1, up_n _ _ h1]
      show up (up (mA m) 17 v) 18 w a = _
      rw [up_n _ _ h2, up_n _ _ h1]
theorem wm_self (m : GM) : m = wm m (mA m 17) (mA m 18) := by
  obtain ⟨a, b, c⟩ := m
  unfold wm
  show (a, b, c) = (a, b, _)
  congr 1; congr 1
  funext k
  by_cases h2 : k = 18
  · subst h2; rw [up_s]; rfl
  · rw [up_n _ _ h2]
    by_cases h1 : k = 17
    · subst h1; rw [up_s]; rfl
    · rw [up_n _ _ h1]; rfl
theorem tA17_wm (m : GM) (v w) (i : Nat) (c : Int32) : tA (wm m v w) 17 i c = wm m (upd v i c) w := by
  unfold tA
  show (mI m, mL m, _) = (mI m, mL m, _)
  congr 1; congr 1
  funext a
  by_cases h1 : a = 17
  · subst h1; rw [up_s, up_n _ _ (by decide), up_s]; rfl
  · rw [up_n _ _ h1]
    by_cases h2 : a = 18
    · subst h2; rw [up_s]; rfl
    · rw [up_n _ _ h2, up_n _ _ h1]; exact wm_o m v w h1 h2
theorem tA18_wm (m : GM) (v w) (i : Nat) (c : Int32) : tA (wm m v w) 18 i c = wm m v (upd w i c) := by
  unfold tA
  show (mI m, mL m, _) = (mI m, mL m, _)
  congr 1; congr 1
  funext a
  by_cases h2 : a = 18
  · subst h2; rw [up_s, up_s]; rfl
  · rw [up_n _ _ h2, up_n _ _ h2]
    by_cases h1 : a = 17
    · subst h1; rw [up_s]; rfl
    · rw [up_n _ _ h1]; exact wm_o m v w h1 h2
theorem upd_s (f : Nat → Int32) (k : Nat) (v : Int32) : upd f k v k = v := pk_us
theorem upd_n (f : Nat → Int32) {k j : Nat} (v : Int32) (h : j ≠ k) : upd f k v j = f j := pk_un h
/-! ===== a text's steps: depth, codes ===== -/
def dpt (f : Nat → Int32) : Nat → Nat → Nat → Option Nat
  | _, 0, d => some d
  | i, n + 1, d => if (-6 : Int32) ≤ f i then dpt f (i + 1) n (d + 1) else if f i ≤ (-14 : Int32) then (if 1 ≤ d then dpt f (i + 1) n d else none) else (if 2 ≤ d then dpt f (i + 1) n (d - 1) else none)
def enc (v : Int32) : Int32 := if (0 : Int32) ≤ v then v + 100000 else if (-6 : Int32) ≤ v then -1 - v else if v = (-7 : Int32) then 11 else if v = (-8 : Int32) then 12 else if v = (-9 : Int32) then 14 else if v = (-10 : Int32) then 15 else if v = (-11 : Int32) then 16 else if v = (-12 : Int32) then 17 else if v = (-13 : Int32) then 18 else if v = (-14 : Int32) then 13 else 19
/-- the steps that there are -/
theorem step_cases {v : Int32} (h1 : (-15 : Int32) ≤ v) (h2 : v ≤ (9999 : Int32)) : (∃ k : Nat, k ≤ 9999 ∧ v = nI k) ∨ v = -1 ∨ v = -2 ∨ v = -3 ∨ v = -4 ∨ v = -5 ∨ v = -6 ∨ v = -7 ∨ v = -8 ∨ v = -9 ∨ v = -10 ∨ v = -11 ∨ v = -12 ∨ v = -13 ∨ v = -14 ∨ v = -15 := by
  have e1 : (-15 : Int32).toInt = -15 := by decide
  have e2 : (9999 : Int32).toInt = 9999 := by decide
  rw [Int32.le_iff_toInt_le, e1] at h1
  rw [Int32.le_iff_toInt_le, e2] at h2
  by_cases h : 0 ≤ v.toInt
  · refine Or.inl ⟨v.toInt.toNat, by omega, ?_⟩
    apply Int32.toInt_inj.mp
    rw [nI_toInt (by omega)]
    omega
  · refine Or.inr ?_
    have key : ∀ (c : Int32) (z : Int), c.toInt = z → v.toInt = z → v = c := fun c z hc hv => Int32.toInt_inj.mp (hv.trans hc.symm)
    have : v.toInt = -1 ∨ v.toInt = -2 ∨ v.toInt = -3 ∨ v.toInt = -4 ∨ v.toInt = -5 ∨ v.toInt = -6 ∨ v.toInt = -7 ∨ v.toInt = -8 ∨ v.toInt = -9 ∨ v.toInt = -10 ∨ v.toInt = -11 ∨ v.toInt = -12 ∨ v.toInt = -13 ∨ v.toInt = -14 ∨ v.toInt = -15 := by omega
    rcases this with h | h | h | h | h | h | h | h | h | h | h | h | h | h | h
    · exact Or.inl (key (-1) _ (by decide) h)
    · exact Or.inr (Or.inl (key (-2) _ (by decide) h))
    · exact Or.inr (Or.inr (Or.inl (key (-3) _ (by decide) h)))
    · exact Or.inr (Or.inr (Or.inr (Or.inl (key (-4) _ (by decide) h))))
    · exact Or.inr (Or.inr (Or.inr (Or.inr (Or.inl (key (-5) _ (by decide) h)))))
    · exact Or.inr (Or.inr (Or.inr (Or.inr (Or.inr (Or.inl (key (-6) _ (by decide) h))))))
    · exact Or.inr (Or.inr (Or.inr (Or.inr (Or.inr (Or.inr (Or.inl (key (-7) _ (by decide) h)))))))
    · exact Or.inr (Or.inr (Or.inr (Or.inr (Or.inr (Or.inr (Or.inr (Or.inl (key (-8) _ (by decide) h))))))))
    · exact Or.inr (Or.inr (Or.inr (Or.inr (Or.inr (Or.inr (Or.inr (Or.inr (Or.inl (key (-9) _ (by decide) h)))))))))
    · exact Or.inr (Or.inr (Or.inr (Or.inr (Or.inr (Or.inr (Or.inr (Or.inr (Or.inr (Or.inl (key (-10) _ (by decide) h))))))))))
    · exact Or.inr (Or.inr (Or.inr (Or.inr (Or.inr (Or.inr (Or.inr (Or.inr (Or.inr (Or.inr (Or.inl (key (-11) _ (by decide) h)))))))))))
    · exact Or.inr (Or.inr (Or.inr (Or.inr (Or.inr (Or.inr (Or.inr (Or.inr (Or.inr (Or.inr (Or.inr (Or.inl (key (-12) _ (by decide) h))))))))))))
    · exact Or.inr (Or.inr (Or.inr (Or.inr (Or.inr (Or.inr (Or.inr (Or.inr (Or.inr (Or.inr (Or.inr (Or.inr (Or.inl (key (-13) _ (by decide) h)))))))))))))
    · exact Or.inr (Or.inr (Or.inr (Or.inr (Or.inr (Or.inr (Or.inr (Or.inr (Or.inr (Or.inr (Or.inr (Or.inr (Or.inr (Or.inl (key (-14) _ (by decide) h))))))))))))))
    · exact Or.inr (Or.inr (Or.inr (Or.inr (Or.inr (Or.inr (Or.inr (Or.inr (Or.inr (Or.inr (Or.inr (Or.inr (Or.inr (Or.inr (key (-15) _ (by decide) h))))))))))))))
/-- where the text t lies on both sides: E p is the place of its part p's first step -/
def TR (x : GX) (m : GM) (t : Nat) : Prop := ∃ E : Nat → Nat, E 0 = 0 ∧ E 0 ≤ E 1 ∧ E 1 ≤ E 2 ∧ E 2 ≤ E 3 ∧ E 3 ≤ 160 ∧ (∀ p, p < 3 → xU x t 2 p = nI (E (p + 1))) ∧ (∀ p, p < 4 → mA m 8 (4 * t + p) = nI (E p)) ∧ (∀ k, k < E 3 → mA m 7 (200 * t + k) = enc (xU x t 0 k) ∧ (-15 : Int32) ≤ xU x t 0 k ∧ xU x t 0 k ≤ (9999 : Int32)) ∧ ∀ p, p < 3 → dpt (xU x t 0) (E p) (E (p + 1) - E p) 0 = some 1
