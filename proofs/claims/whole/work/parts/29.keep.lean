/-! ===== a sea becomes another; the reference keeps and lays back ===== -/
theorem xB_cs (x : GX) (z1 j1 z j sp dp n : Nat) : xB (cB x z1 j1 z j sp dp n) z j = va_cpy (xB x z1 j1) (xB x z j) sp dp n := by
  show up (xB x) z (up (xB x z) j (va_cpy (xB x z1 j1) (xB x z j) sp dp n)) z j = _
  rw [up_s, up_s]
theorem xB_cn (x : GX) (z1 j1 : Nat) {z j k : Nat} (y sp dp n : Nat) (h : k ≠ j) : xB (cB x z1 j1 z j sp dp n) y k = xB x y k := by
  show up (xB x) z (up (xB x z) j (va_cpy (xB x z1 j1) (xB x z j) sp dp n)) y k = _
  by_cases q : y = z
  · subst q; rw [up_s, up_n _ _ h]
  · rw [up_n _ _ q]
theorem xB_cz (x : GX) (z1 j1 : Nat) {z y : Nat} (j sp dp n : Nat) (h : y ≠ z) : xB (cB x z1 j1 z j sp dp n) y = xB x y := by
  show up (xB x) z (up (xB x z) j (va_cpy (xB x z1 j1) (xB x z j) sp dp n)) y = _
  rw [up_n _ _ h]
/-- all but the sea z and the texts' stacks -/
def EX (z : Nat) (x x' : GX) : Prop := xI x' = xI x ∧ (∀ y, y ≠ z → xS x' y = xS x y) ∧ (∀ y, y ≠ z → xR x' y = xR x y) ∧ (∀ y, y ≠ z → xB x' y = xB x y) ∧ xT x' = xT x ∧ (∀ t k, k ≠ 1 → xU x' t k = xU x t k) ∧ xH x' = xH x ∧ xN x' = xN x ∧ xP x' = xP x ∧ xV x' = xV x ∧ xY x' = xY x
theorem EX_refl (z : Nat) (x : GX) : EX z x x := ⟨rfl, fun _ _ => rfl, fun _ _ => rfl, fun _ _ => rfl, rfl, fun _ _ _ => rfl, rfl, rfl, rfl, rfl, rfl⟩
theorem EX_trans {z : Nat} {a b c : GX} (h : EX z a b) (k : EX z b c) : EX z a c := by
  obtain ⟨h1, h2, h3, h4, h5, h6, h7, h8, h9, h10, h11⟩ := h
  obtain ⟨k1, k2, k3, k4, k5, k6, k7, k8, k9, k10, k11⟩ := k
  exact ⟨k1.trans h1, fun y q => (k2 y q).trans (h2 y q), fun y q => (k3 y q).trans (h3 y q), fun y q => (k4 y q).trans (h4 y q), k5.trans h5, fun t k q => (k6 t k q).trans (h6 t k q), k7.trans h7, k8.trans h8, k9.trans h9, k10.trans h10, k11.trans h11⟩
theorem FX_EX {z : Nat} {x x' : GX} (h : FX z x x') : EX z x x' := by
  obtain ⟨h1, h2, h3, h4, h5, h6, h7, h8, h9, h10, h11⟩ := h
  exact ⟨h1, fun y q => funext fun k => h2 y k (Or.inl q), fun y _ => by rw [h3], fun y q => funext fun k => h4 y k (Or.inl q), h5, h6, h7, h8, h9, h10, h11⟩
theorem EX_sS (z : Nat) (x : GX) (j : Nat) (v) : EX z x (sS x z j v) := ⟨rfl, fun _ q => xS_z _ _ _ q, fun _ _ => rfl, fun _ _ => rfl, rfl, fun _ _ _ => rfl, rfl, rfl, rfl, rfl, rfl⟩
theorem EX_sR (z : Nat) (x : GX) (v) : EX z x (sR x z v) := ⟨rfl, fun _ _ => rfl, fun _ q => xR_z _ _ q, fun _ _ => rfl, rfl, fun _ _ _ => rfl, rfl, rfl, rfl, rfl, rfl⟩
theorem EX_sB (z : Nat) (x : GX) (j i : Nat) (v) : EX z x (sB x z j i v) := ⟨rfl, fun _ _ => rfl, fun _ _ => rfl, fun _ q => xB_z _ _ _ _ q, rfl, fun _ _ _ => rfl, rfl, rfl, rfl, rfl, rfl⟩
theorem EX_cB (z : Nat) (x : GX) (z1 j1 j sp dp n : Nat) : EX z x (cB x z1 j1 z j sp dp n) := ⟨rfl, fun _ _ => rfl, fun _ _ => rfl, fun _ q => xB_cz _ _ _ _ _ _ _ q, rfl, fun _ _ _ => rfl, rfl, rfl, rfl, rfl, rfl⟩
theorem EX_wst (z : Nat) (x : GX) (u) : EX z x (wst x u) := FX_EX (FX_wst z x u)
theorem cpG_36 {α : Type} (r : Option α) : cpG (0 : Int32) (0 : Int32) (36 : Int32) 36 36 r = r := if_pos (by decide)
theorem cpG_6 {α : Type} (r : Option α) : cpG (0 : Int32) (0 : Int32) (6 : Int32) 6 6 r = r := if_pos (by decide)
theorem cpy_lo {f g : Nat → Int32} {n i : Nat} (h : i < n) : va_cpy f g 0 0 n i = f i := by
  unfold va_cpy
  rw [if_pos (by omega)]
  congr 1
  omega
def bcm (y y1 : Nat) (x : GX) : GX :=
  let a := cB (cB (cB (cB (cB x y1 0 y 0 0 0 36) y1 1 y 1 0 0 6) y1 2 y 2 0 0 6) y1 3 y 3 0 0 6) y1 4 y 4 0 0 6
  let b := sR a y (xR a y1)
  let c := sS b y 0 (xS b y1 0)
  let d := sS c y 1 (xS c y1 1)
  let e := sS d y 2 (xS d y1 2)
  let f := sS e y 3 (xS e y1 3)
  sS f y 4 (xS f y1 4)
theorem become_eq (y y1 : Nat) (x : GX) : f_X2_become y y1 x = some ((), bcm y y1 x) := by
  unfold f_X2_become
  simp only [cpG_36, cpG_6, bnd_some]
  rfl
theorem become_spec {y y1 : Nat} (x : GX) (hy : y1 ≠ y) :
    ∃ x', f_X2_become y y1 x = some ((), x') ∧ EX y x x' ∧ (∀ k, k < 5 → xS x' y k = xS x y1 k) ∧ xR x' y = xR x y1 ∧ (∀ i, i < 36 → xB x' y 0 i = xB x y1 0 i) ∧ (∀ k, 1 ≤ k → k ≤ 4 → ∀ i, i < 6 → xB x' y k i = xB x y1 k i) := by
  refine ⟨bcm y y1 x, become_eq y y1 x, ?_, ?_, ?_, ?_, ?_⟩ <;> unfold bcm
  · refine EX_trans (EX_cB _ _ _ _ _ _ _ _) (EX_trans (EX_cB _ _ _ _ _ _ _ _) (EX_trans (EX_cB _ _ _ _ _ _ _ _) (EX_trans (EX_cB _ _ _ _ _ _ _ _) (EX_trans (EX_cB _ _ _ _ _ _ _ _) (EX_trans (EX_sR _ _ _) (EX_trans (EX_sS _ _ _ _) (EX_trans (EX_sS _ _ _ _) (EX_trans (EX_sS _ _ _ _) (EX_trans (EX_sS _ _ _ _) (EX_sS _ _ _ _))))))))))
  · intro k hk
    match k, hk with
    | 0, _ => simp (disch := first | decide | exact hy) only [xS_s, xS_n, xS_z, xset]
    | 1, _ => simp (disch := first | decide | exact hy) only [xS_s, xS_n, xS_z, xset]
    | 2, _ => simp (disch := first | decide | exact hy) only [xS_s, xS_n, xS_z, xset]
    | 3, _ => simp (disch := first | decide | exact hy) only [xS_s, xS_n, xS_z, xset]
    | 4, _ => simp (disch := first | decide | exact hy) only [xS_s, xS_n, xS_z, xset]
  · simp (disch := first | decide | exact hy) only [xset, xR_s]
  · intro i hi
    simp (disch := first | decide | exact hy) only [xset, xB_cs, xB_cn, xB_cz]
    rw [cpy_lo hi]
  · intro k h1 h4 i hi
    match k, h1, h4 with
    | 1, _, _ => simp (disch := first | decide | exact hy) only [xset, xB_cs, xB_cn, xB_cz]; rw [cpy_lo hi]
    | 2, _, _ => simp (disch := first | decide | exact hy) only [xset, xB_cs, xB_cn, xB_cz]; rw [cpy_lo hi]
    | 3, _, _ => simp (disch := first | decide | exact hy) only [xset, xB_cs, xB_cn, xB_cz]; rw [cpy_lo hi]
    | 4, _, _ => simp (disch := first | decide | exact hy) only [xset, xB_cs, xB_cn, xB_cz]; rw [cpy_lo hi]
