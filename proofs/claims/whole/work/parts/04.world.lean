
/-! ===== the two worlds ===== -/
def up {α : Type} (f : Nat → α) (k : Nat) (v : α) : Nat → α := fun j => bif Nat.beq j k then v else f j
theorem up_s {α : Type} (f : Nat → α) (k : Nat) (v : α) : up f k v k = v := by unfold up; rw [Nat.beq_refl]; rfl
theorem up_n {α : Type} (f : Nat → α) {k j : Nat} (v : α) (h : j ≠ k) : up f k v j = f j := by
  unfold up
  cases hq : Nat.beq j k with
  | true => exact absurd (Nat.eq_of_beq_eq_true hq) h
  | false => rfl
abbrev GX : Type := (Nat → Int32) × (Nat → Nat → Int32) × (Nat → Int64) × (Nat → Nat → Nat → Int32) × (Nat → Int32) × (Nat → Nat → Nat → Int32) × (Nat → Nat → Int32) × (Nat → Nat → Int32) × (Nat → Int32) × Option Nat × Option Unit
def xI (σ : GX) : Nat → Int32 := σ.1
def xS (σ : GX) : Nat → Nat → Int32 := σ.2.1
def xR (σ : GX) : Nat → Int64 := σ.2.2.1
def xB (σ : GX) : Nat → Nat → Nat → Int32 := σ.2.2.2.1
def xT (σ : GX) : Nat → Int32 := σ.2.2.2.2.1
def xU (σ : GX) : Nat → Nat → Nat → Int32 := σ.2.2.2.2.2.1
def xH (σ : GX) : Nat → Nat → Int32 := σ.2.2.2.2.2.2.1
def xN (σ : GX) : Nat → Nat → Int32 := σ.2.2.2.2.2.2.2.1
def xP (σ : GX) : Nat → Int32 := σ.2.2.2.2.2.2.2.2.1
def xV (σ : GX) : Option Nat := σ.2.2.2.2.2.2.2.2.2.1
def xY (σ : GX) : Option Unit := σ.2.2.2.2.2.2.2.2.2.2
def sI (σ : GX) (k : Nat) (v : Int32) : GX := (up (xI σ) k v, xS σ, xR σ, xB σ, xT σ, xU σ, xH σ, xN σ, xP σ, xV σ, xY σ)
def sS (σ : GX) (z j : Nat) (v : Int32) : GX := (xI σ, up (xS σ) z (up (xS σ z) j v), xR σ, xB σ, xT σ, xU σ, xH σ, xN σ, xP σ, xV σ, xY σ)
def sR (σ : GX) (z : Nat) (v : Int64) : GX := (xI σ, xS σ, up (xR σ) z v, xB σ, xT σ, xU σ, xH σ, xN σ, xP σ, xV σ, xY σ)
def sB (σ : GX) (z j i : Nat) (v : Int32) : GX := (xI σ, xS σ, xR σ, up (xB σ) z (up (xB σ z) j (upd (xB σ z j) i v)), xT σ, xU σ, xH σ, xN σ, xP σ, xV σ, xY σ)
def sT (σ : GX) (t : Nat) (v : Int32) : GX := (xI σ, xS σ, xR σ, xB σ, up (xT σ) t v, xU σ, xH σ, xN σ, xP σ, xV σ, xY σ)
def sU (σ : GX) (t j i : Nat) (v : Int32) : GX := (xI σ, xS σ, xR σ, xB σ, xT σ, up (xU σ) t (up (xU σ t) j (upd (xU σ t j) i v)), xH σ, xN σ, xP σ, xV σ, xY σ)
def sH (σ : GX) (q j : Nat) (v : Int32) : GX := (xI σ, xS σ, xR σ, xB σ, xT σ, xU σ, up (xH σ) q (up (xH σ q) j v), xN σ, xP σ, xV σ, xY σ)
def sN (σ : GX) (q i : Nat) (v : Int32) : GX := (xI σ, xS σ, xR σ, xB σ, xT σ, xU σ, xH σ, up (xN σ) q (upd (xN σ q) i v), xP σ, xV σ, xY σ)
def sP (σ : GX) (i : Nat) (v : Int32) : GX := (xI σ, xS σ, xR σ, xB σ, xT σ, xU σ, xH σ, xN σ, upd (xP σ) i v, xV σ, xY σ)
def sV (σ : GX) (v : Option Nat) : GX := (xI σ, xS σ, xR σ, xB σ, xT σ, xU σ, xH σ, xN σ, xP σ, v, xY σ)
def sY (σ : GX) (v : Option Unit) : GX := (xI σ, xS σ, xR σ, xB σ, xT σ, xU σ, xH σ, xN σ, xP σ, xV σ, v)
def cB (σ : GX) (z1 j1 z j : Nat) (sp dp n : Nat) : GX := (xI σ, xS σ, xR σ, up (xB σ) z (up (xB σ z) j (va_cpy (xB σ z1 j1) (xB σ z j) sp dp n)), xT σ, xU σ, xH σ, xN σ, xP σ, xV σ, xY σ)
def cN (σ : GX) (q1 q : Nat) (sp dp n : Nat) : GX := (xI σ, xS σ, xR σ, xB σ, xT σ, xU σ, xH σ, up (xN σ) q (va_cpy (xN σ q1) (xN σ q) sp dp n), xP σ, xV σ, xY σ)

def aMain (ad : Nat → Nat) : Nat := ad 0
def aTexts (ad : Nat → Nat) : Nat := ad 1
def aSheets (ad : Nat → Nat) : Nat := ad 2
def aTape (ad : Nat → Nat) : Nat := ad 3
def aReader (ad : Nat → Nat) : Nat := ad 4
def aLaw (ad : Nat → Nat) (t : Nat) : Nat := ad (5 + 4 * t)
def aLawA (ad : Nat → Nat) (t j : Nat) : Nat := ad (6 + 4 * t + j)
def aSea (ad : Nat → Nat) (z : Nat) : Nat := ad (29 + 6 * z)
def aSeaA (ad : Nat → Nat) (z j : Nat) : Nat := ad (30 + 6 * z + j)
def aSheet (ad : Nat → Nat) (q : Nat) : Nat := ad (47 + 2 * q)
def aNums (ad : Nat → Nat) (q : Nat) : Nat := ad (48 + 2 * q)
def wX (g : Gt) (ad : Nat → Nat) (σ : GX) : va_W := [
  (aMain ad, .inr (4, [.ref (aTexts ad), .ref (aSea ad 0), .ref (aSea ad 1), .ref (aSea ad 2), .ref (aSheets ad), .ref (aTape ad), .ref (aReader ad), .int (xI σ 0), .int (xI σ 1), .int (xI σ 2)])),
  (aTexts ad, .inl (g.2.2.1, 6, .inr (.inr (.inr (.inr (fun t => some (aLaw ad t))))))),
  (aSheets ad, .inl (g.2.2.2.1, 4, .inr (.inr (.inr (.inr (fun q => some (aSheet ad q))))))),
  (aTape ad, .inl (g.2.1, 160, .inl (xP σ))),
  (aReader ad, .inr (1, [va_rf ((xY σ).map (fun _ => aTape ad)), .int (xI σ 3), .int (xI σ 4), .int (xI σ 5), .int (xI σ 6), .int (xI σ 7), va_rf ((xV σ).map (aLaw ad))])),
  (aLaw ad 0, .inr (0, [.ref (aLawA ad 0 0), .ref (aLawA ad 0 1), .ref (aLawA ad 0 2), .int (xT σ 0)])),
  (aLawA ad 0 0, .inl (g.2.1, 160, .inl (xU σ 0 0))),
  (aLawA ad 0 1, .inl (g.2.1, 160, .inl (xU σ 0 1))),
  (aLawA ad 0 2, .inl (g.2.1, 3, .inl (xU σ 0 2))),
  (aLaw ad 1, .inr (0, [.ref (aLawA ad 1 0), .ref (aLawA ad 1 1), .ref (aLawA ad 1 2), .int (xT σ 1)])),
  (aLawA ad 1 0, .inl (g.2.1, 160, .inl (xU σ 1 0))),
  (aLawA ad 1 1, .inl (g.2.1, 160, .inl (xU σ 1 1))),
  (aLawA ad 1 2, .inl (g.2.1, 3, .inl (xU σ 1 2))),
  (aLaw ad 2, .inr (0, [.ref (aLawA ad 2 0), .ref (aLawA ad 2 1), .ref (aLawA ad 2 2), .int (xT σ 2)])),
  (aLawA ad 2 0, .inl (g.2.1, 160, .inl (xU σ 2 0))),
  (aLawA ad 2 1, .inl (g.2.1, 160, .inl (xU σ 2 1))),
  (aLawA ad 2 2, .inl (g.2.1, 3, .inl (xU σ 2 2))),
  (aLaw ad 3, .inr (0, [.ref (aLawA ad 3 0), .ref (aLawA ad 3 1), .ref (aLawA ad 3 2), .int (xT σ 3)])),
  (aLawA ad 3 0, .inl (g.2.1, 160, .inl (xU σ 3 0))),
  (aLawA ad 3 1, .inl (g.2.1, 160, .inl (xU σ 3 1))),
  (aLawA ad 3 2, .inl (g.2.1, 3, .inl (xU σ 3 2))),
  (aLaw ad 4, .inr (0, [.ref (aLawA ad 4 0), .ref (aLawA ad 4 1), .ref (aLawA ad 4 2), .int (xT σ 4)])),
  (aLawA ad 4 0, .inl (g.2.1, 160, .inl (xU σ 4 0))),
  (aLawA ad 4 1, .inl (g.2.1, 160, .inl (xU σ 4 1))),
  (aLawA ad 4 2, .inl (g.2.1, 3, .inl (xU σ 4 2))),
  (aLaw ad 5, .inr (0, [.ref (aLawA ad 5 0), .ref (aLawA ad 5 1), .ref (aLawA ad 5 2), .int (xT σ 5)])),
  (aLawA ad 5 0, .inl (g.2.1, 160, .inl (xU σ 5 0))),
  (aLawA ad 5 1, .inl (g.2.1, 160, .inl (xU σ 5 1))),
  (aLawA ad 5 2, .inl (g.2.1, 3, .inl (xU σ 5 2))),
  (aSea ad 0, .inr (2, [.ref (aTexts ad), .ref (aSeaA ad 0 0), .ref (aSeaA ad 0 1), .ref (aSeaA ad 0 2), .ref (aSeaA ad 0 3), .ref (aSeaA ad 0 4), .long (xR σ 0), .int (xS σ 0 0), .int (xS σ 0 1), .int (xS σ 0 2), .int (xS σ 0 3), .int (xS σ 0 4)])),
  (aSeaA ad 0 0, .inl (g.2.1, 36, .inl (xB σ 0 0))),
  (aSeaA ad 0 1, .inl (g.2.1, 6, .inl (xB σ 0 1))),
  (aSeaA ad 0 2, .inl (g.2.1, 6, .inl (xB σ 0 2))),
  (aSeaA ad 0 3, .inl (g.2.1, 6, .inl (xB σ 0 3))),
  (aSeaA ad 0 4, .inl (g.2.1, 6, .inl (xB σ 0 4))),
  (aSea ad 1, .inr (2, [.ref (aTexts ad), .ref (aSeaA ad 1 0), .ref (aSeaA ad 1 1), .ref (aSeaA ad 1 2), .ref (aSeaA ad 1 3), .ref (aSeaA ad 1 4), .long (xR σ 1), .int (xS σ 1 0), .int (xS σ 1 1), .int (xS σ 1 2), .int (xS σ 1 3), .int (xS σ 1 4)])),
  (aSeaA ad 1 0, .inl (g.2.1, 36, .inl (xB σ 1 0))),
  (aSeaA ad 1 1, .inl (g.2.1, 6, .inl (xB σ 1 1))),
  (aSeaA ad 1 2, .inl (g.2.1, 6, .inl (xB σ 1 2))),
  (aSeaA ad 1 3, .inl (g.2.1, 6, .inl (xB σ 1 3))),
  (aSeaA ad 1 4, .inl (g.2.1, 6, .inl (xB σ 1 4))),
  (aSea ad 2, .inr (2, [.ref (aTexts ad), .ref (aSeaA ad 2 0), .ref (aSeaA ad 2 1), .ref (aSeaA ad 2 2), .ref (aSeaA ad 2 3), .ref (aSeaA ad 2 4), .long (xR σ 2), .int (xS σ 2 0), .int (xS σ 2 1), .int (xS σ 2 2), .int (xS σ 2 3), .int (xS σ 2 4)])),
  (aSeaA ad 2 0, .inl (g.2.1, 36, .inl (xB σ 2 0))),
  (aSeaA ad 2 1, .inl (g.2.1, 6, .inl (xB σ 2 1))),
  (aSeaA ad 2 2, .inl (g.2.1, 6, .inl (xB σ 2 2))),
  (aSeaA ad 2 3, .inl (g.2.1, 6, .inl (xB σ 2 3))),
  (aSeaA ad 2 4, .inl (g.2.1, 6, .inl (xB σ 2 4))),
  (aSheet ad 0, .inr (3, [.ref (aNums ad 0), .int (xH σ 0 0), .int (xH σ 0 1)])),
  (aNums ad 0, .inl (g.2.1, 40, .inl (xN σ 0))),
  (aSheet ad 1, .inr (3, [.ref (aNums ad 1), .int (xH σ 1 0), .int (xH σ 1 1)])),
  (aNums ad 1, .inl (g.2.1, 40, .inl (xN σ 1))),
  (aSheet ad 2, .inr (3, [.ref (aNums ad 2), .int (xH σ 2 0), .int (xH σ 2 1)])),
  (aNums ad 2, .inl (g.2.1, 40, .inl (xN σ 2))),
  (aSheet ad 3, .inr (3, [.ref (aNums ad 3), .int (xH σ 3 0), .int (xH σ 3 1)])),
  (aNums ad 3, .inl (g.2.1, 40, .inl (xN σ 3)))]
def LX (ad : Nat → Nat) : List Nat := (List.range 55).map ad
theorem wX_L (g : Gt) (ad : Nat → Nat) (σ : GX) : (wX g ad σ).map Prod.fst = LX ad := rfl

abbrev GM : Type := (Nat → Int32) × (Nat → Int64) × (Nat → Nat → Int32)
def mI (σ : GM) : Nat → Int32 := σ.1
def mL (σ : GM) : Nat → Int64 := σ.2.1
def mA (σ : GM) : Nat → Nat → Int32 := σ.2.2
def tI (σ : GM) (k : Nat) (v : Int32) : GM := (up (mI σ) k v, mL σ, mA σ)
def tL (σ : GM) (k : Nat) (v : Int64) : GM := (mI σ, up (mL σ) k v, mA σ)
def tA (σ : GM) (a i : Nat) (v : Int32) : GM := (mI σ, mL σ, up (mA σ) a (upd (mA σ a) i v))
def aMo (ad : Nat → Nat) : Nat := ad 0
def aMoA (ad : Nat → Nat) (a : Nat) : Nat := ad (1 + a)
def wM (g : Gt) (ad : Nat → Nat) (σ : GM) : va_W := [
  (aMo ad, .inr (5, [.int (mI σ 0), .ref (aMoA ad 0), .ref (aMoA ad 1), .ref (aMoA ad 2), .ref (aMoA ad 3), .ref (aMoA ad 4), .ref (aMoA ad 5), .long (mL σ 0), .int (mI σ 1), .int (mI σ 2), .ref (aMoA ad 6), .int (mI σ 3), .ref (aMoA ad 7), .ref (aMoA ad 8), .int (mI σ 4), .int (mI σ 5), .int (mI σ 6), .ref (aMoA ad 9), .ref (aMoA ad 10), .long (mL σ 1), .ref (aMoA ad 11), .ref (aMoA ad 12), .ref (aMoA ad 13), .ref (aMoA ad 14), .int (mI σ 7), .int (mI σ 8), .int (mI σ 9), .int (mI σ 10), .ref (aMoA ad 15), .ref (aMoA ad 16), .int (mI σ 11), .int (mI σ 12), .int (mI σ 13), .ref (aMoA ad 17), .ref (aMoA ad 18), .ref (aMoA ad 19), .int (mI σ 14)])),
  (aMoA ad 0, .inl (g.2.1, 6, .inl (mA σ 0))),
  (aMoA ad 1, .inl (g.2.1, 6, .inl (mA σ 1))),
  (aMoA ad 2, .inl (g.2.1, 6, .inl (mA σ 2))),
  (aMoA ad 3, .inl (g.2.1, 6, .inl (mA σ 3))),
  (aMoA ad 4, .inl (g.2.1, 6, .inl (mA σ 4))),
  (aMoA ad 5, .inl (g.2.1, 36, .inl (mA σ 5))),
  (aMoA ad 6, .inl (g.2.1, 160, .inl (mA σ 6))),
  (aMoA ad 7, .inl (g.2.1, 1200, .inl (mA σ 7))),
  (aMoA ad 8, .inl (g.2.1, 24, .inl (mA σ 8))),
  (aMoA ad 9, .inl (g.2.1, 54, .inl (mA σ 9))),
  (aMoA ad 10, .inl (g.2.1, 4, .inl (mA σ 10))),
  (aMoA ad 11, .inl (g.2.1, 4, .inl (mA σ 11))),
  (aMoA ad 12, .inl (g.2.1, 4, .inl (mA σ 12))),
  (aMoA ad 13, .inl (g.2.1, 160, .inl (mA σ 13))),
  (aMoA ad 14, .inl (g.2.1, 60, .inl (mA σ 14))),
  (aMoA ad 15, .inl (g.2.1, 96, .inl (mA σ 15))),
  (aMoA ad 16, .inl (g.2.1, 200, .inl (mA σ 16))),
  (aMoA ad 17, .inl (g.2.1, 200, .inl (mA σ 17))),
  (aMoA ad 18, .inl (g.2.1, 6, .inl (mA σ 18))),
  (aMoA ad 19, .inl (g.2.1, 50, .inl (mA σ 19)))]
def LM (ad : Nat → Nat) : List Nat := (List.range 21).map ad
theorem wM_L (g : Gt) (ad : Nat → Nat) (σ : GM) : (wM g ad σ).map Prod.fst = LM ad := rfl
section WROWS
variable {ρ : Type} {g : Gt} {ad : Nat → Nat} {L : List Nat} {K : Nat} {own : String} {cc : ByteArray} {nL : Nat} {ret : Option FieldType} {inj : ρ → Option Value} {z : Zt} {res : Option (ρ × GX)} {σ : GX} {pc ix : Nat} {lv : List (Nat × Value)} {st : List Value}
theorem inX0 : ∀ w ∈ u_ws RX0 TX0 4, w ∈ tb := by
  intro w hw
  obtain ⟨k, hk, rfl⟩ := List.mem_map.mp hw
  have hk := List.mem_range.mp hk
  match k, hk with
  | 0, _ => exact tb_mem 114 (by decide +kernel) (by decide +kernel)
  | 1, _ => exact tb_mem 116 (by decide +kernel) (by decide +kernel)
  | 2, _ => exact tb_mem 118 (by decide +kernel) (by decide +kernel)
  | 3, _ => exact tb_mem 120 (by decide +kernel) (by decide +kernel)
theorem gX0_steps {t : Nat} (h0 : t < 6) (hl0 : Cond.fieldLink own ix RX0 "steps" "[I" ∈ tb) (hd : decode cc pc = .ok (.getfield ix, 3)) (k : V g L K own cc nL ret (wX g ad) inj z res σ (pc + 3) lv (.ref (aLawA ad t 0) :: st)) : V g L K own cc nL ret (wX g ad) inj z res σ pc lv (.ref (aLaw ad t) :: st) := by
  match t, h0 with
  | 0, _ => exact v_get (q0 := 5) (C := RX0) (T := TX0) (N := 4) 0 rfl rfl inX0 (by decide) rfl rfl hl0 hd k
  | 1, _ => exact v_get (q0 := 9) (C := RX0) (T := TX0) (N := 4) 0 rfl rfl inX0 (by decide) rfl rfl hl0 hd k
  | 2, _ => exact v_get (q0 := 13) (C := RX0) (T := TX0) (N := 4) 0 rfl rfl inX0 (by decide) rfl rfl hl0 hd k
  | 3, _ => exact v_get (q0 := 17) (C := RX0) (T := TX0) (N := 4) 0 rfl rfl inX0 (by decide) rfl rfl hl0 hd k
  | 4, _ => exact v_get (q0 := 21) (C := RX0) (T := TX0) (N := 4) 0 rfl rfl inX0 (by decide) rfl rfl hl0 hd k
  | 5, _ => exact v_get (q0 := 25) (C := RX0) (T := TX0) (N := 4) 0 rfl rfl inX0 (by decide) rfl rfl hl0 hd k
theorem gX0_stack {t : Nat} (h0 : t < 6) (hl0 : Cond.fieldLink own ix RX0 "stack" "[I" ∈ tb) (hd : decode cc pc = .ok (.getfield ix, 3)) (k : V g L K own cc nL ret (wX g ad) inj z res σ (pc + 3) lv (.ref (aLawA ad t 1) :: st)) : V g L K own cc nL ret (wX g ad) inj z res σ pc lv (.ref (aLaw ad t) :: st) := by
  match t, h0 with
  | 0, _ => exact v_get (q0 := 5) (C := RX0) (T := TX0) (N := 4) 1 rfl rfl inX0 (by decide) rfl rfl hl0 hd k
  | 1, _ => exact v_get (q0 := 9) (C := RX0) (T := TX0) (N := 4) 1 rfl rfl inX0 (by decide) rfl rfl hl0 hd k
  | 2, _ => exact v_get (q0 := 13) (C := RX0) (T := TX0) (N := 4) 1 rfl rfl inX0 (by decide) rfl rfl hl0 hd k
  | 3, _ => exact v_get (q0 := 17) (C := RX0) (T := TX0) (N := 4) 1 rfl rfl inX0 (by decide) rfl rfl hl0 hd k
  | 4, _ => exact v_get (q0 := 21) (C := RX0) (T := TX0) (N := 4) 1 rfl rfl inX0 (by decide) rfl rfl hl0 hd k
  | 5, _ => exact v_get (q0 := 25) (C := RX0) (T := TX0) (N := 4) 1 rfl rfl inX0 (by decide) rfl rfl hl0 hd k
theorem gX0_ends {t : Nat} (h0 : t < 6) (hl0 : Cond.fieldLink own ix RX0 "ends" "[I" ∈ tb) (hd : decode cc pc = .ok (.getfield ix, 3)) (k : V g L K own cc nL ret (wX g ad) inj z res σ (pc + 3) lv (.ref (aLawA ad t 2) :: st)) : V g L K own cc nL ret (wX g ad) inj z res σ pc lv (.ref (aLaw ad t) :: st) := by
  match t, h0 with
  | 0, _ => exact v_get (q0 := 5) (C := RX0) (T := TX0) (N := 4) 2 rfl rfl inX0 (by decide) rfl rfl hl0 hd k
  | 1, _ => exact v_get (q0 := 9) (C := RX0) (T := TX0) (N := 4) 2 rfl rfl inX0 (by decide) rfl rfl hl0 hd k
  | 2, _ => exact v_get (q0 := 13) (C := RX0) (T := TX0) (N := 4) 2 rfl rfl inX0 (by decide) rfl rfl hl0 hd k
  | 3, _ => exact v_get (q0 := 17) (C := RX0) (T := TX0) (N := 4) 2 rfl rfl inX0 (by decide) rfl rfl hl0 hd k
  | 4, _ => exact v_get (q0 := 21) (C := RX0) (T := TX0) (N := 4) 2 rfl rfl inX0 (by decide) rfl rfl hl0 hd k
  | 5, _ => exact v_get (q0 := 25) (C := RX0) (T := TX0) (N := 4) 2 rfl rfl inX0 (by decide) rfl rfl hl0 hd k
theorem gX0_size {t : Nat} (h0 : t < 6) (hl0 : Cond.fieldLink own ix RX0 "size" "I" ∈ tb) (hd : decode cc pc = .ok (.getfield ix, 3)) (k : V g L K own cc nL ret (wX g ad) inj z res σ (pc + 3) lv (.int (xT σ t) :: st)) : V g L K own cc nL ret (wX g ad) inj z res σ pc lv (.ref (aLaw ad t) :: st) := by
  match t, h0 with
  | 0, _ => exact v_get (q0 := 5) (C := RX0) (T := TX0) (N := 4) 3 rfl rfl inX0 (by decide) rfl rfl hl0 hd k
  | 1, _ => exact v_get (q0 := 9) (C := RX0) (T := TX0) (N := 4) 3 rfl rfl inX0 (by decide) rfl rfl hl0 hd k
  | 2, _ => exact v_get (q0 := 13) (C := RX0) (T := TX0) (N := 4) 3 rfl rfl inX0 (by decide) rfl rfl hl0 hd k
  | 3, _ => exact v_get (q0 := 17) (C := RX0) (T := TX0) (N := 4) 3 rfl rfl inX0 (by decide) rfl rfl hl0 hd k
  | 4, _ => exact v_get (q0 := 21) (C := RX0) (T := TX0) (N := 4) 3 rfl rfl inX0 (by decide) rfl rfl hl0 hd k
  | 5, _ => exact v_get (q0 := 25) (C := RX0) (T := TX0) (N := 4) 3 rfl rfl inX0 (by decide) rfl rfl hl0 hd k
theorem pX0_size {t : Nat} (h0 : t < 6) {x : Int32} (hl0 : Cond.fieldLink own ix RX0 "size" "I" ∈ tb) (hd : decode cc pc = .ok (.putfield ix, 3)) (k : V g L K own cc nL ret (wX g ad) inj z res (sT σ t x) (pc + 3) lv st) : V g L K own cc nL ret (wX g ad) inj z res σ pc lv (.int x :: .ref (aLaw ad t) :: st) := by
  match t, h0 with
  | 0, _ => exact v_put (q0 := 5) (C := RX0) (T := TX0) (N := 4) (ty := .int) 3 rfl rfl inX0 tyX0_ok nmX0 (by decide) rfl rfl (by decide +kernel) rfl rfl (Nat.le_of_ble_eq_true rfl) rfl hl0 hd k
  | 1, _ => exact v_put (q0 := 9) (C := RX0) (T := TX0) (N := 4) (ty := .int) 3 rfl rfl inX0 tyX0_ok nmX0 (by decide) rfl rfl (by decide +kernel) rfl rfl (Nat.le_of_ble_eq_true rfl) rfl hl0 hd k
  | 2, _ => exact v_put (q0 := 13) (C := RX0) (T := TX0) (N := 4) (ty := .int) 3 rfl rfl inX0 tyX0_ok nmX0 (by decide) rfl rfl (by decide +kernel) rfl rfl (Nat.le_of_ble_eq_true rfl) rfl hl0 hd k
  | 3, _ => exact v_put (q0 := 17) (C := RX0) (T := TX0) (N := 4) (ty := .int) 3 rfl rfl inX0 tyX0_ok nmX0 (by decide) rfl rfl (by decide +kernel) rfl rfl (Nat.le_of_ble_eq_true rfl) rfl hl0 hd k
  | 4, _ => exact v_put (q0 := 21) (C := RX0) (T := TX0) (N := 4) (ty := .int) 3 rfl rfl inX0 tyX0_ok nmX0 (by decide) rfl rfl (by decide +kernel) rfl rfl (Nat.le_of_ble_eq_true rfl) rfl hl0 hd k
  | 5, _ => exact v_put (q0 := 25) (C := RX0) (T := TX0) (N := 4) (ty := .int) 3 rfl rfl inX0 tyX0_ok nmX0 (by decide) rfl rfl (by decide +kernel) rfl rfl (Nat.le_of_ble_eq_true rfl) rfl hl0 hd k
theorem inX1 : ∀ w ∈ u_ws RX1 TX1 7, w ∈ tb := by
  intro w hw
  obtain ⟨k, hk, rfl⟩ := List.mem_map.mp hw
  have hk := List.mem_range.mp hk
  match k, hk with
  | 0, _ => exact tb_mem 89 (by decide +kernel) (by decide +kernel)
  | 1, _ => exact tb_mem 91 (by decide +kernel) (by decide +kernel)
  | 2, _ => exact tb_mem 93 (by decide +kernel) (by decide +kernel)
  | 3, _ => exact tb_mem 95 (by decide +kernel) (by decide +kernel)
  | 4, _ => exact tb_mem 97 (by decide +kernel) (by decide +kernel)
  | 5, _ => exact tb_mem 99 (by decide +kernel) (by decide +kernel)
  | 6, _ => exact tb_mem 101 (by decide +kernel) (by decide +kernel)
def tpB {α : Type} (o : Option Unit) (r : Option α) : Option α := match o with
  | none => none
  | some _ => r
theorem gX1_tape (hl0 : Cond.fieldLink own ix RX1 "tape" "[I" ∈ tb) (hd : decode cc pc = .ok (.getfield ix, 3)) (k : V g L K own cc nL ret (wX g ad) inj z res σ (pc + 3) lv (.ref (aTape ad) :: st)) : V g L K own cc nL ret (wX g ad) inj z (tpB (xY σ) res) σ pc lv (.ref (aReader ad) :: st) := by
  cases h : xY σ with
  | none => exact v_none
  | some u => exact v_get (q0 := 4) (C := RX1) (T := TX1) (N := 7) (v := .ref (aTape ad)) 0 rfl rfl inX1 (by decide) (by show some (va_rf ((xY σ).map (fun _ => aTape ad))) = _; rw [h]; rfl) rfl hl0 hd k
theorem gX1_size (hl0 : Cond.fieldLink own ix RX1 "size" "I" ∈ tb) (hd : decode cc pc = .ok (.getfield ix, 3)) (k : V g L K own cc nL ret (wX g ad) inj z res σ (pc + 3) lv (.int (xI σ 3) :: st)) : V g L K own cc nL ret (wX g ad) inj z res σ pc lv (.ref (aReader ad) :: st) := v_get (q0 := 4) (C := RX1) (T := TX1) (N := 7) 1 rfl rfl inX1 (by decide) rfl rfl hl0 hd k
theorem pX1_size {x : Int32} (hl0 : Cond.fieldLink own ix RX1 "size" "I" ∈ tb) (hd : decode cc pc = .ok (.putfield ix, 3)) (k : V g L K own cc nL ret (wX g ad) inj z res (sI σ 3 x) (pc + 3) lv st) : V g L K own cc nL ret (wX g ad) inj z res σ pc lv (.int x :: .ref (aReader ad) :: st) := v_put (q0 := 4) (C := RX1) (T := TX1) (N := 7) (ty := .int) 1 rfl rfl inX1 tyX1_ok nmX1 (by decide) rfl rfl (by decide +kernel) rfl rfl (Nat.le_of_ble_eq_true rfl) rfl hl0 hd k
theorem gX1_at (hl0 : Cond.fieldLink own ix RX1 "at" "I" ∈ tb) (hd : decode cc pc = .ok (.getfield ix, 3)) (k : V g L K own cc nL ret (wX g ad) inj z res σ (pc + 3) lv (.int (xI σ 4) :: st)) : V g L K own cc nL ret (wX g ad) inj z res σ pc lv (.ref (aReader ad) :: st) := v_get (q0 := 4) (C := RX1) (T := TX1) (N := 7) 2 rfl rfl inX1 (by decide) rfl rfl hl0 hd k
theorem pX1_at {x : Int32} (hl0 : Cond.fieldLink own ix RX1 "at" "I" ∈ tb) (hd : decode cc pc = .ok (.putfield ix, 3)) (k : V g L K own cc nL ret (wX g ad) inj z res (sI σ 4 x) (pc + 3) lv st) : V g L K own cc nL ret (wX g ad) inj z res σ pc lv (.int x :: .ref (aReader ad) :: st) := v_put (q0 := 4) (C := RX1) (T := TX1) (N := 7) (ty := .int) 2 rfl rfl inX1 tyX1_ok nmX1 (by decide) rfl rfl (by decide +kernel) rfl rfl (Nat.le_of_ble_eq_true rfl) rfl hl0 hd k
theorem gX1_token (hl0 : Cond.fieldLink own ix RX1 "token" "I" ∈ tb) (hd : decode cc pc = .ok (.getfield ix, 3)) (k : V g L K own cc nL ret (wX g ad) inj z res σ (pc + 3) lv (.int (xI σ 5) :: st)) : V g L K own cc nL ret (wX g ad) inj z res σ pc lv (.ref (aReader ad) :: st) := v_get (q0 := 4) (C := RX1) (T := TX1) (N := 7) 3 rfl rfl inX1 (by decide) rfl rfl hl0 hd k
theorem pX1_token {x : Int32} (hl0 : Cond.fieldLink own ix RX1 "token" "I" ∈ tb) (hd : decode cc pc = .ok (.putfield ix, 3)) (k : V g L K own cc nL ret (wX g ad) inj z res (sI σ 5 x) (pc + 3) lv st) : V g L K own cc nL ret (wX g ad) inj z res σ pc lv (.int x :: .ref (aReader ad) :: st) := v_put (q0 := 4) (C := RX1) (T := TX1) (N := 7) (ty := .int) 3 rfl rfl inX1 tyX1_ok nmX1 (by decide) rfl rfl (by decide +kernel) rfl rfl (Nat.le_of_ble_eq_true rfl) rfl hl0 hd k
theorem gX1_place (hl0 : Cond.fieldLink own ix RX1 "place" "I" ∈ tb) (hd : decode cc pc = .ok (.getfield ix, 3)) (k : V g L K own cc nL ret (wX g ad) inj z res σ (pc + 3) lv (.int (xI σ 6) :: st)) : V g L K own cc nL ret (wX g ad) inj z res σ pc lv (.ref (aReader ad) :: st) := v_get (q0 := 4) (C := RX1) (T := TX1) (N := 7) 4 rfl rfl inX1 (by decide) rfl rfl hl0 hd k
theorem pX1_place {x : Int32} (hl0 : Cond.fieldLink own ix RX1 "place" "I" ∈ tb) (hd : decode cc pc = .ok (.putfield ix, 3)) (k : V g L K own cc nL ret (wX g ad) inj z res (sI σ 6 x) (pc + 3) lv st) : V g L K own cc nL ret (wX g ad) inj z res σ pc lv (.int x :: .ref (aReader ad) :: st) := v_put (q0 := 4) (C := RX1) (T := TX1) (N := 7) (ty := .int) 4 rfl rfl inX1 tyX1_ok nmX1 (by decide) rfl rfl (by decide +kernel) rfl rfl (Nat.le_of_ble_eq_true rfl) rfl hl0 hd k
theorem gX1_fault (hl0 : Cond.fieldLink own ix RX1 "fault" "I" ∈ tb) (hd : decode cc pc = .ok (.getfield ix, 3)) (k : V g L K own cc nL ret (wX g ad) inj z res σ (pc + 3) lv (.int (xI σ 7) :: st)) : V g L K own cc nL ret (wX g ad) inj z res σ pc lv (.ref (aReader ad) :: st) := v_get (q0 := 4) (C := RX1) (T := TX1) (N := 7) 5 rfl rfl inX1 (by decide) rfl rfl hl0 hd k
theorem pX1_fault {x : Int32} (hl0 : Cond.fieldLink own ix RX1 "fault" "I" ∈ tb) (hd : decode cc pc = .ok (.putfield ix, 3)) (k : V g L K own cc nL ret (wX g ad) inj z res (sI σ 7 x) (pc + 3) lv st) : V g L K own cc nL ret (wX g ad) inj z res σ pc lv (.int x :: .ref (aReader ad) :: st) := v_put (q0 := 4) (C := RX1) (T := TX1) (N := 7) (ty := .int) 5 rfl rfl inX1 tyX1_ok nmX1 (by decide) rfl rfl (by decide +kernel) rfl rfl (Nat.le_of_ble_eq_true rfl) rfl hl0 hd k
def lawB {α : Type} (o : Option Nat) (kf : Nat → Option α) : Option α := match o with
  | none => none
  | some t => if t < 6 then kf t else none
theorem gX1_law {kf : Nat → Option (ρ × GX)} (hl0 : Cond.fieldLink own ix RX1 "law" "LLighthouseLiedTo$Law;" ∈ tb) (hd : decode cc pc = .ok (.getfield ix, 3)) (k : ∀ t : Nat, t < 6 → V g L K own cc nL ret (wX g ad) inj z (kf t) σ (pc + 3) lv (.ref (aLaw ad t) :: st)) : V g L K own cc nL ret (wX g ad) inj z (lawB (xV σ) kf) σ pc lv (.ref (aReader ad) :: st) := by
  cases h : xV σ with
  | none => exact v_none
  | some t => exact v_case (fun h0 => v_get (q0 := 4) (C := RX1) (T := TX1) (N := 7) (v := .ref (aLaw ad t)) 6 rfl rfl inX1 (by decide) (by show some (va_rf ((xV σ).map (aLaw ad))) = _; rw [h]; rfl) rfl hl0 hd (k t h0)) (fun _ => v_none)
theorem pX1_law {t : Nat} (hl0 : Cond.fieldLink own ix RX1 "law" "LLighthouseLiedTo$Law;" ∈ tb) (hd : decode cc pc = .ok (.putfield ix, 3)) (k : V g L K own cc nL ret (wX g ad) inj z res (sV σ (some t)) (pc + 3) lv st) : V g L K own cc nL ret (wX g ad) inj z res σ pc lv (.ref (aLaw ad t) :: .ref (aReader ad) :: st) := v_put (q0 := 4) (C := RX1) (T := TX1) (N := 7) (ty := .object "LighthouseLiedTo$Law") 6 rfl rfl inX1 tyX1_ok nmX1 (by decide) rfl rfl (by decide +kernel) rfl rfl (Nat.le_of_ble_eq_true rfl) rfl hl0 hd k
theorem inX2 : ∀ w ∈ u_ws RX2 TX2 12, w ∈ tb := by
  intro w hw
  obtain ⟨k, hk, rfl⟩ := List.mem_map.mp hw
  have hk := List.mem_range.mp hk
  match k, hk with
  | 0, _ => exact tb_mem 173 (by decide +kernel) (by decide +kernel)
  | 1, _ => exact tb_mem 175 (by decide +kernel) (by decide +kernel)
  | 2, _ => exact tb_mem 177 (by decide +kernel) (by decide +kernel)
  | 3, _ => exact tb_mem 179 (by decide +kernel) (by decide +kernel)
  | 4, _ => exact tb_mem 181 (by decide +kernel) (by decide +kernel)
  | 5, _ => exact tb_mem 183 (by decide +kernel) (by decide +kernel)
  | 6, _ => exact tb_mem 185 (by decide +kernel) (by decide +kernel)
  | 7, _ => exact tb_mem 187 (by decide +kernel) (by decide +kernel)
  | 8, _ => exact tb_mem 189 (by decide +kernel) (by decide +kernel)
  | 9, _ => exact tb_mem 191 (by decide +kernel) (by decide +kernel)
  | 10, _ => exact tb_mem 193 (by decide +kernel) (by decide +kernel)
  | 11, _ => exact tb_mem 195 (by decide +kernel) (by decide +kernel)
theorem gX2_texts {y : Nat} (h0 : y < 3) (hl0 : Cond.fieldLink own ix RX2 "texts" "[LLighthouseLiedTo$Law;" ∈ tb) (hd : decode cc pc = .ok (.getfield ix, 3)) (k : V g L K own cc nL ret (wX g ad) inj z res σ (pc + 3) lv (.ref (aTexts ad) :: st)) : V g L K own cc nL ret (wX g ad) inj z res σ pc lv (.ref (aSea ad y) :: st) := by
  match y, h0 with
  | 0, _ => exact v_get (q0 := 29) (C := RX2) (T := TX2) (N := 12) 0 rfl rfl inX2 (by decide) rfl rfl hl0 hd k
  | 1, _ => exact v_get (q0 := 35) (C := RX2) (T := TX2) (N := 12) 0 rfl rfl inX2 (by decide) rfl rfl hl0 hd k
  | 2, _ => exact v_get (q0 := 41) (C := RX2) (T := TX2) (N := 12) 0 rfl rfl inX2 (by decide) rfl rfl hl0 hd k
theorem gX2_belief {y : Nat} (h0 : y < 3) (hl0 : Cond.fieldLink own ix RX2 "belief" "[I" ∈ tb) (hd : decode cc pc = .ok (.getfield ix, 3)) (k : V g L K own cc nL ret (wX g ad) inj z res σ (pc + 3) lv (.ref (aSeaA ad y 0) :: st)) : V g L K own cc nL ret (wX g ad) inj z res σ pc lv (.ref (aSea ad y) :: st) := by
  match y, h0 with
  | 0, _ => exact v_get (q0 := 29) (C := RX2) (T := TX2) (N := 12) 1 rfl rfl inX2 (by decide) rfl rfl hl0 hd k
  | 1, _ => exact v_get (q0 := 35) (C := RX2) (T := TX2) (N := 12) 1 rfl rfl inX2 (by decide) rfl rfl hl0 hd k
  | 2, _ => exact v_get (q0 := 41) (C := RX2) (T := TX2) (N := 12) 1 rfl rfl inX2 (by decide) rfl rfl hl0 hd k
theorem gX2_kind {y : Nat} (h0 : y < 3) (hl0 : Cond.fieldLink own ix RX2 "kind" "[I" ∈ tb) (hd : decode cc pc = .ok (.getfield ix, 3)) (k : V g L K own cc nL ret (wX g ad) inj z res σ (pc + 3) lv (.ref (aSeaA ad y 1) :: st)) : V g L K own cc nL ret (wX g ad) inj z res σ pc lv (.ref (aSea ad y) :: st) := by
  match y, h0 with
  | 0, _ => exact v_get (q0 := 29) (C := RX2) (T := TX2) (N := 12) 2 rfl rfl inX2 (by decide) rfl rfl hl0 hd k
  | 1, _ => exact v_get (q0 := 35) (C := RX2) (T := TX2) (N := 12) 2 rfl rfl inX2 (by decide) rfl rfl hl0 hd k
  | 2, _ => exact v_get (q0 := 41) (C := RX2) (T := TX2) (N := 12) 2 rfl rfl inX2 (by decide) rfl rfl hl0 hd k
theorem gX2_more {y : Nat} (h0 : y < 3) (hl0 : Cond.fieldLink own ix RX2 "more" "[I" ∈ tb) (hd : decode cc pc = .ok (.getfield ix, 3)) (k : V g L K own cc nL ret (wX g ad) inj z res σ (pc + 3) lv (.ref (aSeaA ad y 2) :: st)) : V g L K own cc nL ret (wX g ad) inj z res σ pc lv (.ref (aSea ad y) :: st) := by
  match y, h0 with
  | 0, _ => exact v_get (q0 := 29) (C := RX2) (T := TX2) (N := 12) 3 rfl rfl inX2 (by decide) rfl rfl hl0 hd k
  | 1, _ => exact v_get (q0 := 35) (C := RX2) (T := TX2) (N := 12) 3 rfl rfl inX2 (by decide) rfl rfl hl0 hd k
  | 2, _ => exact v_get (q0 := 41) (C := RX2) (T := TX2) (N := 12) 3 rfl rfl inX2 (by decide) rfl rfl hl0 hd k
theorem gX2_cell {y : Nat} (h0 : y < 3) (hl0 : Cond.fieldLink own ix RX2 "cell" "[I" ∈ tb) (hd : decode cc pc = .ok (.getfield ix, 3)) (k : V g L K own cc nL ret (wX g ad) inj z res σ (pc + 3) lv (.ref (aSeaA ad y 3) :: st)) : V g L K own cc nL ret (wX g ad) inj z res σ pc lv (.ref (aSea ad y) :: st) := by
  match y, h0 with
  | 0, _ => exact v_get (q0 := 29) (C := RX2) (T := TX2) (N := 12) 4 rfl rfl inX2 (by decide) rfl rfl hl0 hd k
  | 1, _ => exact v_get (q0 := 35) (C := RX2) (T := TX2) (N := 12) 4 rfl rfl inX2 (by decide) rfl rfl hl0 hd k
  | 2, _ => exact v_get (q0 := 41) (C := RX2) (T := TX2) (N := 12) 4 rfl rfl inX2 (by decide) rfl rfl hl0 hd k
theorem gX2_draught {y : Nat} (h0 : y < 3) (hl0 : Cond.fieldLink own ix RX2 "draught" "[I" ∈ tb) (hd : decode cc pc = .ok (.getfield ix, 3)) (k : V g L K own cc nL ret (wX g ad) inj z res σ (pc + 3) lv (.ref (aSeaA ad y 4) :: st)) : V g L K own cc nL ret (wX g ad) inj z res σ pc lv (.ref (aSea ad y) :: st) := by
  match y, h0 with
  | 0, _ => exact v_get (q0 := 29) (C := RX2) (T := TX2) (N := 12) 5 rfl rfl inX2 (by decide) rfl rfl hl0 hd k
  | 1, _ => exact v_get (q0 := 35) (C := RX2) (T := TX2) (N := 12) 5 rfl rfl inX2 (by decide) rfl rfl hl0 hd k
  | 2, _ => exact v_get (q0 := 41) (C := RX2) (T := TX2) (N := 12) 5 rfl rfl inX2 (by decide) rfl rfl hl0 hd k
theorem gX2_rocks {y : Nat} (h0 : y < 3) (hl0 : Cond.fieldLink own ix RX2 "rocks" "J" ∈ tb) (hd : decode cc pc = .ok (.getfield ix, 3)) (k : V g L K own cc nL ret (wX g ad) inj z res σ (pc + 3) lv (.long (xR σ y) :: st)) : V g L K own cc nL ret (wX g ad) inj z res σ pc lv (.ref (aSea ad y) :: st) := by
  match y, h0 with
  | 0, _ => exact v_get (q0 := 29) (C := RX2) (T := TX2) (N := 12) 6 rfl rfl inX2 (by decide) rfl rfl hl0 hd k
  | 1, _ => exact v_get (q0 := 35) (C := RX2) (T := TX2) (N := 12) 6 rfl rfl inX2 (by decide) rfl rfl hl0 hd k
  | 2, _ => exact v_get (q0 := 41) (C := RX2) (T := TX2) (N := 12) 6 rfl rfl inX2 (by decide) rfl rfl hl0 hd k
theorem pX2_rocks {y : Nat} (h0 : y < 3) {x : Int64} (hl0 : Cond.fieldLink own ix RX2 "rocks" "J" ∈ tb) (hd : decode cc pc = .ok (.putfield ix, 3)) (k : V g L K own cc nL ret (wX g ad) inj z res (sR σ y x) (pc + 3) lv st) : V g L K own cc nL ret (wX g ad) inj z res σ pc lv (.long x :: .ref (aSea ad y) :: st) := by
  match y, h0 with
  | 0, _ => exact v_put (q0 := 29) (C := RX2) (T := TX2) (N := 12) (ty := .long) 6 rfl rfl inX2 tyX2_ok nmX2 (by decide) rfl rfl (by decide +kernel) rfl rfl (Nat.le_of_ble_eq_true rfl) rfl hl0 hd k
  | 1, _ => exact v_put (q0 := 35) (C := RX2) (T := TX2) (N := 12) (ty := .long) 6 rfl rfl inX2 tyX2_ok nmX2 (by decide) rfl rfl (by decide +kernel) rfl rfl (Nat.le_of_ble_eq_true rfl) rfl hl0 hd k
  | 2, _ => exact v_put (q0 := 41) (C := RX2) (T := TX2) (N := 12) (ty := .long) 6 rfl rfl inX2 tyX2_ok nmX2 (by decide) rfl rfl (by decide +kernel) rfl rfl (Nat.le_of_ble_eq_true rfl) rfl hl0 hd k
theorem gX2_lost {y : Nat} (h0 : y < 3) (hl0 : Cond.fieldLink own ix RX2 "lost" "I" ∈ tb) (hd : decode cc pc = .ok (.getfield ix, 3)) (k : V g L K own cc nL ret (wX g ad) inj z res σ (pc + 3) lv (.int (xS σ y 0) :: st)) : V g L K own cc nL ret (wX g ad) inj z res σ pc lv (.ref (aSea ad y) :: st) := by
  match y, h0 with
  | 0, _ => exact v_get (q0 := 29) (C := RX2) (T := TX2) (N := 12) 7 rfl rfl inX2 (by decide) rfl rfl hl0 hd k
  | 1, _ => exact v_get (q0 := 35) (C := RX2) (T := TX2) (N := 12) 7 rfl rfl inX2 (by decide) rfl rfl hl0 hd k
  | 2, _ => exact v_get (q0 := 41) (C := RX2) (T := TX2) (N := 12) 7 rfl rfl inX2 (by decide) rfl rfl hl0 hd k
theorem pX2_lost {y : Nat} (h0 : y < 3) {x : Int32} (hl0 : Cond.fieldLink own ix RX2 "lost" "I" ∈ tb) (hd : decode cc pc = .ok (.putfield ix, 3)) (k : V g L K own cc nL ret (wX g ad) inj z res (sS σ y 0 x) (pc + 3) lv st) : V g L K own cc nL ret (wX g ad) inj z res σ pc lv (.int x :: .ref (aSea ad y) :: st) := by
  match y, h0 with
  | 0, _ => exact v_put (q0 := 29) (C := RX2) (T := TX2) (N := 12) (ty := .int) 7 rfl rfl inX2 tyX2_ok nmX2 (by decide) rfl rfl (by decide +kernel) rfl rfl (Nat.le_of_ble_eq_true rfl) rfl hl0 hd k
  | 1, _ => exact v_put (q0 := 35) (C := RX2) (T := TX2) (N := 12) (ty := .int) 7 rfl rfl inX2 tyX2_ok nmX2 (by decide) rfl rfl (by decide +kernel) rfl rfl (Nat.le_of_ble_eq_true rfl) rfl hl0 hd k
  | 2, _ => exact v_put (q0 := 41) (C := RX2) (T := TX2) (N := 12) (ty := .int) 7 rfl rfl inX2 tyX2_ok nmX2 (by decide) rfl rfl (by decide +kernel) rfl rfl (Nat.le_of_ble_eq_true rfl) rfl hl0 hd k
theorem gX2_ships {y : Nat} (h0 : y < 3) (hl0 : Cond.fieldLink own ix RX2 "ships" "I" ∈ tb) (hd : decode cc pc = .ok (.getfield ix, 3)) (k : V g L K own cc nL ret (wX g ad) inj z res σ (pc + 3) lv (.int (xS σ y 1) :: st)) : V g L K own cc nL ret (wX g ad) inj z res σ pc lv (.ref (aSea ad y) :: st) := by
  match y, h0 with
  | 0, _ => exact v_get (q0 := 29) (C := RX2) (T := TX2) (N := 12) 8 rfl rfl inX2 (by decide) rfl rfl hl0 hd k
  | 1, _ => exact v_get (q0 := 35) (C := RX2) (T := TX2) (N := 12) 8 rfl rfl inX2 (by decide) rfl rfl hl0 hd k
  | 2, _ => exact v_get (q0 := 41) (C := RX2) (T := TX2) (N := 12) 8 rfl rfl inX2 (by decide) rfl rfl hl0 hd k
theorem pX2_ships {y : Nat} (h0 : y < 3) {x : Int32} (hl0 : Cond.fieldLink own ix RX2 "ships" "I" ∈ tb) (hd : decode cc pc = .ok (.putfield ix, 3)) (k : V g L K own cc nL ret (wX g ad) inj z res (sS σ y 1 x) (pc + 3) lv st) : V g L K own cc nL ret (wX g ad) inj z res σ pc lv (.int x :: .ref (aSea ad y) :: st) := by
  match y, h0 with
  | 0, _ => exact v_put (q0 := 29) (C := RX2) (T := TX2) (N := 12) (ty := .int) 8 rfl rfl inX2 tyX2_ok nmX2 (by decide) rfl rfl (by decide +kernel) rfl rfl (Nat.le_of_ble_eq_true rfl) rfl hl0 hd k
  | 1, _ => exact v_put (q0 := 35) (C := RX2) (T := TX2) (N := 12) (ty := .int) 8 rfl rfl inX2 tyX2_ok nmX2 (by decide) rfl rfl (by decide +kernel) rfl rfl (Nat.le_of_ble_eq_true rfl) rfl hl0 hd k
  | 2, _ => exact v_put (q0 := 41) (C := RX2) (T := TX2) (N := 12) (ty := .int) 8 rfl rfl inX2 tyX2_ok nmX2 (by decide) rfl rfl (by decide +kernel) rfl rfl (Nat.le_of_ble_eq_true rfl) rfl hl0 hd k
theorem gX2_doubt {y : Nat} (h0 : y < 3) (hl0 : Cond.fieldLink own ix RX2 "doubt" "I" ∈ tb) (hd : decode cc pc = .ok (.getfield ix, 3)) (k : V g L K own cc nL ret (wX g ad) inj z res σ (pc + 3) lv (.int (xS σ y 2) :: st)) : V g L K own cc nL ret (wX g ad) inj z res σ pc lv (.ref (aSea ad y) :: st) := by
  match y, h0 with
  | 0, _ => exact v_get (q0 := 29) (C := RX2) (T := TX2) (N := 12) 9 rfl rfl inX2 (by decide) rfl rfl hl0 hd k
  | 1, _ => exact v_get (q0 := 35) (C := RX2) (T := TX2) (N := 12) 9 rfl rfl inX2 (by decide) rfl rfl hl0 hd k
  | 2, _ => exact v_get (q0 := 41) (C := RX2) (T := TX2) (N := 12) 9 rfl rfl inX2 (by decide) rfl rfl hl0 hd k
theorem pX2_doubt {y : Nat} (h0 : y < 3) {x : Int32} (hl0 : Cond.fieldLink own ix RX2 "doubt" "I" ∈ tb) (hd : decode cc pc = .ok (.putfield ix, 3)) (k : V g L K own cc nL ret (wX g ad) inj z res (sS σ y 2 x) (pc + 3) lv st) : V g L K own cc nL ret (wX g ad) inj z res σ pc lv (.int x :: .ref (aSea ad y) :: st) := by
  match y, h0 with
  | 0, _ => exact v_put (q0 := 29) (C := RX2) (T := TX2) (N := 12) (ty := .int) 9 rfl rfl inX2 tyX2_ok nmX2 (by decide) rfl rfl (by decide +kernel) rfl rfl (Nat.le_of_ble_eq_true rfl) rfl hl0 hd k
  | 1, _ => exact v_put (q0 := 35) (C := RX2) (T := TX2) (N := 12) (ty := .int) 9 rfl rfl inX2 tyX2_ok nmX2 (by decide) rfl rfl (by decide +kernel) rfl rfl (Nat.le_of_ble_eq_true rfl) rfl hl0 hd k
  | 2, _ => exact v_put (q0 := 41) (C := RX2) (T := TX2) (N := 12) (ty := .int) 9 rfl rfl inX2 tyX2_ok nmX2 (by decide) rfl rfl (by decide +kernel) rfl rfl (Nat.le_of_ble_eq_true rfl) rfl hl0 hd k
theorem gX2_night {y : Nat} (h0 : y < 3) (hl0 : Cond.fieldLink own ix RX2 "night" "I" ∈ tb) (hd : decode cc pc = .ok (.getfield ix, 3)) (k : V g L K own cc nL ret (wX g ad) inj z res σ (pc + 3) lv (.int (xS σ y 3) :: st)) : V g L K own cc nL ret (wX g ad) inj z res σ pc lv (.ref (aSea ad y) :: st) := by
  match y, h0 with
  | 0, _ => exact v_get (q0 := 29) (C := RX2) (T := TX2) (N := 12) 10 rfl rfl inX2 (by decide) rfl rfl hl0 hd k
  | 1, _ => exact v_get (q0 := 35) (C := RX2) (T := TX2) (N := 12) 10 rfl rfl inX2 (by decide) rfl rfl hl0 hd k
  | 2, _ => exact v_get (q0 := 41) (C := RX2) (T := TX2) (N := 12) 10 rfl rfl inX2 (by decide) rfl rfl hl0 hd k
theorem pX2_night {y : Nat} (h0 : y < 3) {x : Int32} (hl0 : Cond.fieldLink own ix RX2 "night" "I" ∈ tb) (hd : decode cc pc = .ok (.putfield ix, 3)) (k : V g L K own cc nL ret (wX g ad) inj z res (sS σ y 3 x) (pc + 3) lv st) : V g L K own cc nL ret (wX g ad) inj z res σ pc lv (.int x :: .ref (aSea ad y) :: st) := by
  match y, h0 with
  | 0, _ => exact v_put (q0 := 29) (C := RX2) (T := TX2) (N := 12) (ty := .int) 10 rfl rfl inX2 tyX2_ok nmX2 (by decide) rfl rfl (by decide +kernel) rfl rfl (Nat.le_of_ble_eq_true rfl) rfl hl0 hd k
  | 1, _ => exact v_put (q0 := 35) (C := RX2) (T := TX2) (N := 12) (ty := .int) 10 rfl rfl inX2 tyX2_ok nmX2 (by decide) rfl rfl (by decide +kernel) rfl rfl (Nat.le_of_ble_eq_true rfl) rfl hl0 hd k
  | 2, _ => exact v_put (q0 := 41) (C := RX2) (T := TX2) (N := 12) (ty := .int) 10 rfl rfl inX2 tyX2_ok nmX2 (by decide) rfl rfl (by decide +kernel) rfl rfl (Nat.le_of_ble_eq_true rfl) rfl hl0 hd k
theorem gX2_law {y : Nat} (h0 : y < 3) (hl0 : Cond.fieldLink own ix RX2 "law" "I" ∈ tb) (hd : decode cc pc = .ok (.getfield ix, 3)) (k : V g L K own cc nL ret (wX g ad) inj z res σ (pc + 3) lv (.int (xS σ y 4) :: st)) : V g L K own cc nL ret (wX g ad) inj z res σ pc lv (.ref (aSea ad y) :: st) := by
  match y, h0 with
  | 0, _ => exact v_get (q0 := 29) (C := RX2) (T := TX2) (N := 12) 11 rfl rfl inX2 (by decide) rfl rfl hl0 hd k
  | 1, _ => exact v_get (q0 := 35) (C := RX2) (T := TX2) (N := 12) 11 rfl rfl inX2 (by decide) rfl rfl hl0 hd k
  | 2, _ => exact v_get (q0 := 41) (C := RX2) (T := TX2) (N := 12) 11 rfl rfl inX2 (by decide) rfl rfl hl0 hd k
theorem pX2_law {y : Nat} (h0 : y < 3) {x : Int32} (hl0 : Cond.fieldLink own ix RX2 "law" "I" ∈ tb) (hd : decode cc pc = .ok (.putfield ix, 3)) (k : V g L K own cc nL ret (wX g ad) inj z res (sS σ y 4 x) (pc + 3) lv st) : V g L K own cc nL ret (wX g ad) inj z res σ pc lv (.int x :: .ref (aSea ad y) :: st) := by
  match y, h0 with
  | 0, _ => exact v_put (q0 := 29) (C := RX2) (T := TX2) (N := 12) (ty := .int) 11 rfl rfl inX2 tyX2_ok nmX2 (by decide) rfl rfl (by decide +kernel) rfl rfl (Nat.le_of_ble_eq_true rfl) rfl hl0 hd k
  | 1, _ => exact v_put (q0 := 35) (C := RX2) (T := TX2) (N := 12) (ty := .int) 11 rfl rfl inX2 tyX2_ok nmX2 (by decide) rfl rfl (by decide +kernel) rfl rfl (Nat.le_of_ble_eq_true rfl) rfl hl0 hd k
  | 2, _ => exact v_put (q0 := 41) (C := RX2) (T := TX2) (N := 12) (ty := .int) 11 rfl rfl inX2 tyX2_ok nmX2 (by decide) rfl rfl (by decide +kernel) rfl rfl (Nat.le_of_ble_eq_true rfl) rfl hl0 hd k
theorem inX3 : ∀ w ∈ u_ws RX3 TX3 3, w ∈ tb := by
  intro w hw
  obtain ⟨k, hk, rfl⟩ := List.mem_map.mp hw
  have hk := List.mem_range.mp hk
  match k, hk with
  | 0, _ => exact tb_mem 134 (by decide +kernel) (by decide +kernel)
  | 1, _ => exact tb_mem 136 (by decide +kernel) (by decide +kernel)
  | 2, _ => exact tb_mem 138 (by decide +kernel) (by decide +kernel)
theorem gX3_numbers {q : Nat} (h0 : q < 4) (hl0 : Cond.fieldLink own ix RX3 "numbers" "[I" ∈ tb) (hd : decode cc pc = .ok (.getfield ix, 3)) (k : V g L K own cc nL ret (wX g ad) inj z res σ (pc + 3) lv (.ref (aNums ad q) :: st)) : V g L K own cc nL ret (wX g ad) inj z res σ pc lv (.ref (aSheet ad q) :: st) := by
  match q, h0 with
  | 0, _ => exact v_get (q0 := 47) (C := RX3) (T := TX3) (N := 3) 0 rfl rfl inX3 (by decide) rfl rfl hl0 hd k
  | 1, _ => exact v_get (q0 := 49) (C := RX3) (T := TX3) (N := 3) 0 rfl rfl inX3 (by decide) rfl rfl hl0 hd k
  | 2, _ => exact v_get (q0 := 51) (C := RX3) (T := TX3) (N := 3) 0 rfl rfl inX3 (by decide) rfl rfl hl0 hd k
  | 3, _ => exact v_get (q0 := 53) (C := RX3) (T := TX3) (N := 3) 0 rfl rfl inX3 (by decide) rfl rfl hl0 hd k
theorem gX3_sort {q : Nat} (h0 : q < 4) (hl0 : Cond.fieldLink own ix RX3 "sort" "I" ∈ tb) (hd : decode cc pc = .ok (.getfield ix, 3)) (k : V g L K own cc nL ret (wX g ad) inj z res σ (pc + 3) lv (.int (xH σ q 0) :: st)) : V g L K own cc nL ret (wX g ad) inj z res σ pc lv (.ref (aSheet ad q) :: st) := by
  match q, h0 with
  | 0, _ => exact v_get (q0 := 47) (C := RX3) (T := TX3) (N := 3) 1 rfl rfl inX3 (by decide) rfl rfl hl0 hd k
  | 1, _ => exact v_get (q0 := 49) (C := RX3) (T := TX3) (N := 3) 1 rfl rfl inX3 (by decide) rfl rfl hl0 hd k
  | 2, _ => exact v_get (q0 := 51) (C := RX3) (T := TX3) (N := 3) 1 rfl rfl inX3 (by decide) rfl rfl hl0 hd k
  | 3, _ => exact v_get (q0 := 53) (C := RX3) (T := TX3) (N := 3) 1 rfl rfl inX3 (by decide) rfl rfl hl0 hd k
theorem pX3_sort {q : Nat} (h0 : q < 4) {x : Int32} (hl0 : Cond.fieldLink own ix RX3 "sort" "I" ∈ tb) (hd : decode cc pc = .ok (.putfield ix, 3)) (k : V g L K own cc nL ret (wX g ad) inj z res (sH σ q 0 x) (pc + 3) lv st) : V g L K own cc nL ret (wX g ad) inj z res σ pc lv (.int x :: .ref (aSheet ad q) :: st) := by
  match q, h0 with
  | 0, _ => exact v_put (q0 := 47) (C := RX3) (T := TX3) (N := 3) (ty := .int) 1 rfl rfl inX3 tyX3_ok nmX3 (by decide) rfl rfl (by decide +kernel) rfl rfl (Nat.le_of_ble_eq_true rfl) rfl hl0 hd k
  | 1, _ => exact v_put (q0 := 49) (C := RX3) (T := TX3) (N := 3) (ty := .int) 1 rfl rfl inX3 tyX3_ok nmX3 (by decide) rfl rfl (by decide +kernel) rfl rfl (Nat.le_of_ble_eq_true rfl) rfl hl0 hd k
  | 2, _ => exact v_put (q0 := 51) (C := RX3) (T := TX3) (N := 3) (ty := .int) 1 rfl rfl inX3 tyX3_ok nmX3 (by decide) rfl rfl (by decide +kernel) rfl rfl (Nat.le_of_ble_eq_true rfl) rfl hl0 hd k
  | 3, _ => exact v_put (q0 := 53) (C := RX3) (T := TX3) (N := 3) (ty := .int) 1 rfl rfl inX3 tyX3_ok nmX3 (by decide) rfl rfl (by decide +kernel) rfl rfl (Nat.le_of_ble_eq_true rfl) rfl hl0 hd k
theorem gX3_size {q : Nat} (h0 : q < 4) (hl0 : Cond.fieldLink own ix RX3 "size" "I" ∈ tb) (hd : decode cc pc = .ok (.getfield ix, 3)) (k : V g L K own cc nL ret (wX g ad) inj z res σ (pc + 3) lv (.int (xH σ q 1) :: st)) : V g L K own cc nL ret (wX g ad) inj z res σ pc lv (.ref (aSheet ad q) :: st) := by
  match q, h0 with
  | 0, _ => exact v_get (q0 := 47) (C := RX3) (T := TX3) (N := 3) 2 rfl rfl inX3 (by decide) rfl rfl hl0 hd k
  | 1, _ => exact v_get (q0 := 49) (C := RX3) (T := TX3) (N := 3) 2 rfl rfl inX3 (by decide) rfl rfl hl0 hd k
  | 2, _ => exact v_get (q0 := 51) (C := RX3) (T := TX3) (N := 3) 2 rfl rfl inX3 (by decide) rfl rfl hl0 hd k
  | 3, _ => exact v_get (q0 := 53) (C := RX3) (T := TX3) (N := 3) 2 rfl rfl inX3 (by decide) rfl rfl hl0 hd k
theorem pX3_size {q : Nat} (h0 : q < 4) {x : Int32} (hl0 : Cond.fieldLink own ix RX3 "size" "I" ∈ tb) (hd : decode cc pc = .ok (.putfield ix, 3)) (k : V g L K own cc nL ret (wX g ad) inj z res (sH σ q 1 x) (pc + 3) lv st) : V g L K own cc nL ret (wX g ad) inj z res σ pc lv (.int x :: .ref (aSheet ad q) :: st) := by
  match q, h0 with
  | 0, _ => exact v_put (q0 := 47) (C := RX3) (T := TX3) (N := 3) (ty := .int) 2 rfl rfl inX3 tyX3_ok nmX3 (by decide) rfl rfl (by decide +kernel) rfl rfl (Nat.le_of_ble_eq_true rfl) rfl hl0 hd k
  | 1, _ => exact v_put (q0 := 49) (C := RX3) (T := TX3) (N := 3) (ty := .int) 2 rfl rfl inX3 tyX3_ok nmX3 (by decide) rfl rfl (by decide +kernel) rfl rfl (Nat.le_of_ble_eq_true rfl) rfl hl0 hd k
  | 2, _ => exact v_put (q0 := 51) (C := RX3) (T := TX3) (N := 3) (ty := .int) 2 rfl rfl inX3 tyX3_ok nmX3 (by decide) rfl rfl (by decide +kernel) rfl rfl (Nat.le_of_ble_eq_true rfl) rfl hl0 hd k
  | 3, _ => exact v_put (q0 := 53) (C := RX3) (T := TX3) (N := 3) (ty := .int) 2 rfl rfl inX3 tyX3_ok nmX3 (by decide) rfl rfl (by decide +kernel) rfl rfl (Nat.le_of_ble_eq_true rfl) rfl hl0 hd k
theorem inX4 : ∀ w ∈ u_ws RX4 TX4 10, w ∈ tb := by
  intro w hw
  obtain ⟨k, hk, rfl⟩ := List.mem_map.mp hw
  have hk := List.mem_range.mp hk
  match k, hk with
  | 0, _ => exact tb_mem 335 (by decide +kernel) (by decide +kernel)
  | 1, _ => exact tb_mem 337 (by decide +kernel) (by decide +kernel)
  | 2, _ => exact tb_mem 339 (by decide +kernel) (by decide +kernel)
  | 3, _ => exact tb_mem 341 (by decide +kernel) (by decide +kernel)
  | 4, _ => exact tb_mem 343 (by decide +kernel) (by decide +kernel)
  | 5, _ => exact tb_mem 345 (by decide +kernel) (by decide +kernel)
  | 6, _ => exact tb_mem 347 (by decide +kernel) (by decide +kernel)
  | 7, _ => exact tb_mem 349 (by decide +kernel) (by decide +kernel)
  | 8, _ => exact tb_mem 351 (by decide +kernel) (by decide +kernel)
  | 9, _ => exact tb_mem 353 (by decide +kernel) (by decide +kernel)
theorem gX4_texts (hl0 : Cond.fieldLink own ix RX4 "texts" "[LLighthouseLiedTo$Law;" ∈ tb) (hd : decode cc pc = .ok (.getfield ix, 3)) (k : V g L K own cc nL ret (wX g ad) inj z res σ (pc + 3) lv (.ref (aTexts ad) :: st)) : V g L K own cc nL ret (wX g ad) inj z res σ pc lv (.ref (aMain ad) :: st) := v_get (q0 := 0) (C := RX4) (T := TX4) (N := 10) 0 rfl rfl inX4 (by decide) rfl rfl hl0 hd k
theorem gX4_now (hl0 : Cond.fieldLink own ix RX4 "now" "LLighthouseLiedTo$Sea;" ∈ tb) (hd : decode cc pc = .ok (.getfield ix, 3)) (k : V g L K own cc nL ret (wX g ad) inj z res σ (pc + 3) lv (.ref (aSea ad 0) :: st)) : V g L K own cc nL ret (wX g ad) inj z res σ pc lv (.ref (aMain ad) :: st) := v_get (q0 := 0) (C := RX4) (T := TX4) (N := 10) 1 rfl rfl inX4 (by decide) rfl rfl hl0 hd k
theorem gX4_thought (hl0 : Cond.fieldLink own ix RX4 "thought" "LLighthouseLiedTo$Sea;" ∈ tb) (hd : decode cc pc = .ok (.getfield ix, 3)) (k : V g L K own cc nL ret (wX g ad) inj z res σ (pc + 3) lv (.ref (aSea ad 1) :: st)) : V g L K own cc nL ret (wX g ad) inj z res σ pc lv (.ref (aMain ad) :: st) := v_get (q0 := 0) (C := RX4) (T := TX4) (N := 10) 2 rfl rfl inX4 (by decide) rfl rfl hl0 hd k
theorem gX4_kept (hl0 : Cond.fieldLink own ix RX4 "kept" "LLighthouseLiedTo$Sea;" ∈ tb) (hd : decode cc pc = .ok (.getfield ix, 3)) (k : V g L K own cc nL ret (wX g ad) inj z res σ (pc + 3) lv (.ref (aSea ad 2) :: st)) : V g L K own cc nL ret (wX g ad) inj z res σ pc lv (.ref (aMain ad) :: st) := v_get (q0 := 0) (C := RX4) (T := TX4) (N := 10) 3 rfl rfl inX4 (by decide) rfl rfl hl0 hd k
theorem gX4_sheets (hl0 : Cond.fieldLink own ix RX4 "sheets" "[LLighthouseLiedTo$Sheet;" ∈ tb) (hd : decode cc pc = .ok (.getfield ix, 3)) (k : V g L K own cc nL ret (wX g ad) inj z res σ (pc + 3) lv (.ref (aSheets ad) :: st)) : V g L K own cc nL ret (wX g ad) inj z res σ pc lv (.ref (aMain ad) :: st) := v_get (q0 := 0) (C := RX4) (T := TX4) (N := 10) 4 rfl rfl inX4 (by decide) rfl rfl hl0 hd k
theorem gX4_tape (hl0 : Cond.fieldLink own ix RX4 "tape" "[I" ∈ tb) (hd : decode cc pc = .ok (.getfield ix, 3)) (k : V g L K own cc nL ret (wX g ad) inj z res σ (pc + 3) lv (.ref (aTape ad) :: st)) : V g L K own cc nL ret (wX g ad) inj z res σ pc lv (.ref (aMain ad) :: st) := v_get (q0 := 0) (C := RX4) (T := TX4) (N := 10) 5 rfl rfl inX4 (by decide) rfl rfl hl0 hd k
theorem gX4_reader (hl0 : Cond.fieldLink own ix RX4 "reader" "LLighthouseLiedTo$Reader;" ∈ tb) (hd : decode cc pc = .ok (.getfield ix, 3)) (k : V g L K own cc nL ret (wX g ad) inj z res σ (pc + 3) lv (.ref (aReader ad) :: st)) : V g L K own cc nL ret (wX g ad) inj z res σ pc lv (.ref (aMain ad) :: st) := v_get (q0 := 0) (C := RX4) (T := TX4) (N := 10) 6 rfl rfl inX4 (by decide) rfl rfl hl0 hd k
theorem gX4_textCount (hl0 : Cond.fieldLink own ix RX4 "textCount" "I" ∈ tb) (hd : decode cc pc = .ok (.getfield ix, 3)) (k : V g L K own cc nL ret (wX g ad) inj z res σ (pc + 3) lv (.int (xI σ 0) :: st)) : V g L K own cc nL ret (wX g ad) inj z res σ pc lv (.ref (aMain ad) :: st) := v_get (q0 := 0) (C := RX4) (T := TX4) (N := 10) 7 rfl rfl inX4 (by decide) rfl rfl hl0 hd k
theorem pX4_textCount {x : Int32} (hl0 : Cond.fieldLink own ix RX4 "textCount" "I" ∈ tb) (hd : decode cc pc = .ok (.putfield ix, 3)) (k : V g L K own cc nL ret (wX g ad) inj z res (sI σ 0 x) (pc + 3) lv st) : V g L K own cc nL ret (wX g ad) inj z res σ pc lv (.int x :: .ref (aMain ad) :: st) := v_put (q0 := 0) (C := RX4) (T := TX4) (N := 10) (ty := .int) 7 rfl rfl inX4 tyX4_ok nmX4 (by decide) rfl rfl (by decide +kernel) rfl rfl (Nat.le_of_ble_eq_true rfl) rfl hl0 hd k
theorem gX4_tapeSize (hl0 : Cond.fieldLink own ix RX4 "tapeSize" "I" ∈ tb) (hd : decode cc pc = .ok (.getfield ix, 3)) (k : V g L K own cc nL ret (wX g ad) inj z res σ (pc + 3) lv (.int (xI σ 1) :: st)) : V g L K own cc nL ret (wX g ad) inj z res σ pc lv (.ref (aMain ad) :: st) := v_get (q0 := 0) (C := RX4) (T := TX4) (N := 10) 8 rfl rfl inX4 (by decide) rfl rfl hl0 hd k
theorem pX4_tapeSize {x : Int32} (hl0 : Cond.fieldLink own ix RX4 "tapeSize" "I" ∈ tb) (hd : decode cc pc = .ok (.putfield ix, 3)) (k : V g L K own cc nL ret (wX g ad) inj z res (sI σ 1 x) (pc + 3) lv st) : V g L K own cc nL ret (wX g ad) inj z res σ pc lv (.int x :: .ref (aMain ad) :: st) := v_put (q0 := 0) (C := RX4) (T := TX4) (N := 10) (ty := .int) 8 rfl rfl inX4 tyX4_ok nmX4 (by decide) rfl rfl (by decide +kernel) rfl rfl (Nat.le_of_ble_eq_true rfl) rfl hl0 hd k
theorem gX4_hasImage (hl0 : Cond.fieldLink own ix RX4 "hasImage" "Z" ∈ tb) (hd : decode cc pc = .ok (.getfield ix, 3)) (k : V g L K own cc nL ret (wX g ad) inj z res σ (pc + 3) lv (.int (xI σ 2) :: st)) : V g L K own cc nL ret (wX g ad) inj z res σ pc lv (.ref (aMain ad) :: st) := v_get (q0 := 0) (C := RX4) (T := TX4) (N := 10) 9 rfl rfl inX4 (by decide) rfl rfl hl0 hd k
theorem pX4_hasImage {x : Int32} (hb : narrow .boolean (.int x) = .int x) (hf : fits .boolean (.int x) = true) (hl0 : Cond.fieldLink own ix RX4 "hasImage" "Z" ∈ tb) (hd : decode cc pc = .ok (.putfield ix, 3)) (k : V g L K own cc nL ret (wX g ad) inj z res (sI σ 2 x) (pc + 3) lv st) : V g L K own cc nL ret (wX g ad) inj z res σ pc lv (.int x :: .ref (aMain ad) :: st) := v_put (q0 := 0) (C := RX4) (T := TX4) (N := 10) (ty := .boolean) 9 rfl rfl inX4 tyX4_ok nmX4 (by decide) rfl rfl (by decide +kernel) hb hf (Nat.le_of_ble_eq_true rfl) rfl hl0 hd k
theorem pX1_tape (hl0 : Cond.fieldLink own ix RX1 "tape" "[I" ∈ tb) (hd : decode cc pc = .ok (.putfield ix, 3)) (k : V g L K own cc nL ret (wX g ad) inj z res (sY σ (some ())) (pc + 3) lv st) : V g L K own cc nL ret (wX g ad) inj z res σ pc lv (.ref (aTape ad) :: .ref (aReader ad) :: st) := v_put (q0 := 4) (C := RX1) (T := TX1) (N := 7) (ty := .array .int) 0 rfl rfl inX1 tyX1_ok nmX1 (by decide) rfl rfl (by decide +kernel) rfl rfl (Nat.le_of_ble_eq_true rfl) rfl hl0 hd k
theorem lX_tape {i : Int32} (hd : decode cc pc = .ok (.iaload, 1)) (k : V g L K own cc nL ret (wX g ad) inj z res σ (pc + 1) lv (.int (xP σ i.toNatClampNeg) :: st)) : V g L K own cc nL ret (wX g ad) inj z (grd i 160 res) σ pc lv (.int i :: .ref (aTape ad) :: st) := v_iald (q0 := 3) rfl hd k
theorem sX_tape {i x : Int32} (hd : decode cc pc = .ok (.iastore, 1)) (k : V g L K own cc nL ret (wX g ad) inj z res (sP σ i.toNatClampNeg x) (pc + 1) lv st) : V g L K own cc nL ret (wX g ad) inj z (grd i 160 res) σ pc lv (.int x :: .int i :: .ref (aTape ad) :: st) := v_iast (q0 := 3) rfl rfl hd k
theorem nX_tape {v : Int32} (hv : Int32.ofNat 160 = v) (hd : decode cc pc = .ok (.arraylength, 1)) (k : V g L K own cc nL ret (wX g ad) inj z res σ (pc + 1) lv (.int v :: st)) : V g L K own cc nL ret (wX g ad) inj z res σ pc lv (.ref (aTape ad) :: st) := v_alen (q0 := 3) (t0 := 0) rfl rfl hv hd k
theorem lX_law0 {t : Nat} (h0 : t < 6) {i : Int32} (hd : decode cc pc = .ok (.iaload, 1)) (k : V g L K own cc nL ret (wX g ad) inj z res σ (pc + 1) lv (.int (xU σ t 0 i.toNatClampNeg) :: st)) : V g L K own cc nL ret (wX g ad) inj z (grd i 160 res) σ pc lv (.int i :: .ref (aLawA ad t 0) :: st) := by
  match t, h0 with
  | 0, _ => exact v_iald (q0 := 6) rfl hd k
  | 1, _ => exact v_iald (q0 := 10) rfl hd k
  | 2, _ => exact v_iald (q0 := 14) rfl hd k
  | 3, _ => exact v_iald (q0 := 18) rfl hd k
  | 4, _ => exact v_iald (q0 := 22) rfl hd k
  | 5, _ => exact v_iald (q0 := 26) rfl hd k
theorem sX_law0 {t : Nat} (h0 : t < 6) {i x : Int32} (hd : decode cc pc = .ok (.iastore, 1)) (k : V g L K own cc nL ret (wX g ad) inj z res (sU σ t 0 i.toNatClampNeg x) (pc + 1) lv st) : V g L K own cc nL ret (wX g ad) inj z (grd i 160 res) σ pc lv (.int x :: .int i :: .ref (aLawA ad t 0) :: st) := by
  match t, h0 with
  | 0, _ => exact v_iast (q0 := 6) rfl rfl hd k
  | 1, _ => exact v_iast (q0 := 10) rfl rfl hd k
  | 2, _ => exact v_iast (q0 := 14) rfl rfl hd k
  | 3, _ => exact v_iast (q0 := 18) rfl rfl hd k
  | 4, _ => exact v_iast (q0 := 22) rfl rfl hd k
  | 5, _ => exact v_iast (q0 := 26) rfl rfl hd k
theorem nX_law0 {t : Nat} (h0 : t < 6) {v : Int32} (hv : Int32.ofNat 160 = v) (hd : decode cc pc = .ok (.arraylength, 1)) (k : V g L K own cc nL ret (wX g ad) inj z res σ (pc + 1) lv (.int v :: st)) : V g L K own cc nL ret (wX g ad) inj z res σ pc lv (.ref (aLawA ad t 0) :: st) := by
  match t, h0 with
  | 0, _ => exact v_alen (q0 := 6) (t0 := 0) rfl rfl hv hd k
  | 1, _ => exact v_alen (q0 := 10) (t0 := 0) rfl rfl hv hd k
  | 2, _ => exact v_alen (q0 := 14) (t0 := 0) rfl rfl hv hd k
  | 3, _ => exact v_alen (q0 := 18) (t0 := 0) rfl rfl hv hd k
  | 4, _ => exact v_alen (q0 := 22) (t0 := 0) rfl rfl hv hd k
  | 5, _ => exact v_alen (q0 := 26) (t0 := 0) rfl rfl hv hd k
theorem lX_law1 {t : Nat} (h0 : t < 6) {i : Int32} (hd : decode cc pc = .ok (.iaload, 1)) (k : V g L K own cc nL ret (wX g ad) inj z res σ (pc + 1) lv (.int (xU σ t 1 i.toNatClampNeg) :: st)) : V g L K own cc nL ret (wX g ad) inj z (grd i 160 res) σ pc lv (.int i :: .ref (aLawA ad t 1) :: st) := by
  match t, h0 with
  | 0, _ => exact v_iald (q0 := 7) rfl hd k
  | 1, _ => exact v_iald (q0 := 11) rfl hd k
  | 2, _ => exact v_iald (q0 := 15) rfl hd k
  | 3, _ => exact v_iald (q0 := 19) rfl hd k
  | 4, _ => exact v_iald (q0 := 23) rfl hd k
  | 5, _ => exact v_iald (q0 := 27) rfl hd k
theorem sX_law1 {t : Nat} (h0 : t < 6) {i x : Int32} (hd : decode cc pc = .ok (.iastore, 1)) (k : V g L K own cc nL ret (wX g ad) inj z res (sU σ t 1 i.toNatClampNeg x) (pc + 1) lv st) : V g L K own cc nL ret (wX g ad) inj z (grd i 160 res) σ pc lv (.int x :: .int i :: .ref (aLawA ad t 1) :: st) := by
  match t, h0 with
  | 0, _ => exact v_iast (q0 := 7) rfl rfl hd k
  | 1, _ => exact v_iast (q0 := 11) rfl rfl hd k
  | 2, _ => exact v_iast (q0 := 15) rfl rfl hd k
  | 3, _ => exact v_iast (q0 := 19) rfl rfl hd k
  | 4, _ => exact v_iast (q0 := 23) rfl rfl hd k
  | 5, _ => exact v_iast (q0 := 27) rfl rfl hd k
theorem nX_law1 {t : Nat} (h0 : t < 6) {v : Int32} (hv : Int32.ofNat 160 = v) (hd : decode cc pc = .ok (.arraylength, 1)) (k : V g L K own cc nL ret (wX g ad) inj z res σ (pc + 1) lv (.int v :: st)) : V g L K own cc nL ret (wX g ad) inj z res σ pc lv (.ref (aLawA ad t 1) :: st) := by
  match t, h0 with
  | 0, _ => exact v_alen (q0 := 7) (t0 := 0) rfl rfl hv hd k
  | 1, _ => exact v_alen (q0 := 11) (t0 := 0) rfl rfl hv hd k
  | 2, _ => exact v_alen (q0 := 15) (t0 := 0) rfl rfl hv hd k
  | 3, _ => exact v_alen (q0 := 19) (t0 := 0) rfl rfl hv hd k
  | 4, _ => exact v_alen (q0 := 23) (t0 := 0) rfl rfl hv hd k
  | 5, _ => exact v_alen (q0 := 27) (t0 := 0) rfl rfl hv hd k
theorem lX_law2 {t : Nat} (h0 : t < 6) {i : Int32} (hd : decode cc pc = .ok (.iaload, 1)) (k : V g L K own cc nL ret (wX g ad) inj z res σ (pc + 1) lv (.int (xU σ t 2 i.toNatClampNeg) :: st)) : V g L K own cc nL ret (wX g ad) inj z (grd i 3 res) σ pc lv (.int i :: .ref (aLawA ad t 2) :: st) := by
  match t, h0 with
  | 0, _ => exact v_iald (q0 := 8) rfl hd k
  | 1, _ => exact v_iald (q0 := 12) rfl hd k
  | 2, _ => exact v_iald (q0 := 16) rfl hd k
  | 3, _ => exact v_iald (q0 := 20) rfl hd k
  | 4, _ => exact v_iald (q0 := 24) rfl hd k
  | 5, _ => exact v_iald (q0 := 28) rfl hd k
theorem sX_law2 {t : Nat} (h0 : t < 6) {i x : Int32} (hd : decode cc pc = .ok (.iastore, 1)) (k : V g L K own cc nL ret (wX g ad) inj z res (sU σ t 2 i.toNatClampNeg x) (pc + 1) lv st) : V g L K own cc nL ret (wX g ad) inj z (grd i 3 res) σ pc lv (.int x :: .int i :: .ref (aLawA ad t 2) :: st) := by
  match t, h0 with
  | 0, _ => exact v_iast (q0 := 8) rfl rfl hd k
  | 1, _ => exact v_iast (q0 := 12) rfl rfl hd k
  | 2, _ => exact v_iast (q0 := 16) rfl rfl hd k
  | 3, _ => exact v_iast (q0 := 20) rfl rfl hd k
  | 4, _ => exact v_iast (q0 := 24) rfl rfl hd k
  | 5, _ => exact v_iast (q0 := 28) rfl rfl hd k
theorem nX_law2 {t : Nat} (h0 : t < 6) {v : Int32} (hv : Int32.ofNat 3 = v) (hd : decode cc pc = .ok (.arraylength, 1)) (k : V g L K own cc nL ret (wX g ad) inj z res σ (pc + 1) lv (.int v :: st)) : V g L K own cc nL ret (wX g ad) inj z res σ pc lv (.ref (aLawA ad t 2) :: st) := by
  match t, h0 with
  | 0, _ => exact v_alen (q0 := 8) (t0 := 0) rfl rfl hv hd k
  | 1, _ => exact v_alen (q0 := 12) (t0 := 0) rfl rfl hv hd k
  | 2, _ => exact v_alen (q0 := 16) (t0 := 0) rfl rfl hv hd k
  | 3, _ => exact v_alen (q0 := 20) (t0 := 0) rfl rfl hv hd k
  | 4, _ => exact v_alen (q0 := 24) (t0 := 0) rfl rfl hv hd k
  | 5, _ => exact v_alen (q0 := 28) (t0 := 0) rfl rfl hv hd k
theorem lX_sea0 {y : Nat} (h0 : y < 3) {i : Int32} (hd : decode cc pc = .ok (.iaload, 1)) (k : V g L K own cc nL ret (wX g ad) inj z res σ (pc + 1) lv (.int (xB σ y 0 i.toNatClampNeg) :: st)) : V g L K own cc nL ret (wX g ad) inj z (grd i 36 res) σ pc lv (.int i :: .ref (aSeaA ad y 0) :: st) := by
  match y, h0 with
  | 0, _ => exact v_iald (q0 := 30) rfl hd k
  | 1, _ => exact v_iald (q0 := 36) rfl hd k
  | 2, _ => exact v_iald (q0 := 42) rfl hd k
theorem sX_sea0 {y : Nat} (h0 : y < 3) {i x : Int32} (hd : decode cc pc = .ok (.iastore, 1)) (k : V g L K own cc nL ret (wX g ad) inj z res (sB σ y 0 i.toNatClampNeg x) (pc + 1) lv st) : V g L K own cc nL ret (wX g ad) inj z (grd i 36 res) σ pc lv (.int x :: .int i :: .ref (aSeaA ad y 0) :: st) := by
  match y, h0 with
  | 0, _ => exact v_iast (q0 := 30) rfl rfl hd k
  | 1, _ => exact v_iast (q0 := 36) rfl rfl hd k
  | 2, _ => exact v_iast (q0 := 42) rfl rfl hd k
theorem nX_sea0 {y : Nat} (h0 : y < 3) {v : Int32} (hv : Int32.ofNat 36 = v) (hd : decode cc pc = .ok (.arraylength, 1)) (k : V g L K own cc nL ret (wX g ad) inj z res σ (pc + 1) lv (.int v :: st)) : V g L K own cc nL ret (wX g ad) inj z res σ pc lv (.ref (aSeaA ad y 0) :: st) := by
  match y, h0 with
  | 0, _ => exact v_alen (q0 := 30) (t0 := 0) rfl rfl hv hd k
  | 1, _ => exact v_alen (q0 := 36) (t0 := 0) rfl rfl hv hd k
  | 2, _ => exact v_alen (q0 := 42) (t0 := 0) rfl rfl hv hd k
theorem lX_sea1 {y : Nat} (h0 : y < 3) {i : Int32} (hd : decode cc pc = .ok (.iaload, 1)) (k : V g L K own cc nL ret (wX g ad) inj z res σ (pc + 1) lv (.int (xB σ y 1 i.toNatClampNeg) :: st)) : V g L K own cc nL ret (wX g ad) inj z (grd i 6 res) σ pc lv (.int i :: .ref (aSeaA ad y 1) :: st) := by
  match y, h0 with
  | 0, _ => exact v_iald (q0 := 31) rfl hd k
  | 1, _ => exact v_iald (q0 := 37) rfl hd k
  | 2, _ => exact v_iald (q0 := 43) rfl hd k
theorem sX_sea1 {y : Nat} (h0 : y < 3) {i x : Int32} (hd : decode cc pc = .ok (.iastore, 1)) (k : V g L K own cc nL ret (wX g ad) inj z res (sB σ y 1 i.toNatClampNeg x) (pc + 1) lv st) : V g L K own cc nL ret (wX g ad) inj z (grd i 6 res) σ pc lv (.int x :: .int i :: .ref (aSeaA ad y 1) :: st) := by
  match y, h0 with
  | 0, _ => exact v_iast (q0 := 31) rfl rfl hd k
  | 1, _ => exact v_iast (q0 := 37) rfl rfl hd k
  | 2, _ => exact v_iast (q0 := 43) rfl rfl hd k
theorem nX_sea1 {y : Nat} (h0 : y < 3) {v : Int32} (hv : Int32.ofNat 6 = v) (hd : decode cc pc = .ok (.arraylength, 1)) (k : V g L K own cc nL ret (wX g ad) inj z res σ (pc + 1) lv (.int v :: st)) : V g L K own cc nL ret (wX g ad) inj z res σ pc lv (.ref (aSeaA ad y 1) :: st) := by
  match y, h0 with
  | 0, _ => exact v_alen (q0 := 31) (t0 := 0) rfl rfl hv hd k
  | 1, _ => exact v_alen (q0 := 37) (t0 := 0) rfl rfl hv hd k
  | 2, _ => exact v_alen (q0 := 43) (t0 := 0) rfl rfl hv hd k
theorem lX_sea2 {y : Nat} (h0 : y < 3) {i : Int32} (hd : decode cc pc = .ok (.iaload, 1)) (k : V g L K own cc nL ret (wX g ad) inj z res σ (pc + 1) lv (.int (xB σ y 2 i.toNatClampNeg) :: st)) : V g L K own cc nL ret (wX g ad) inj z (grd i 6 res) σ pc lv (.int i :: .ref (aSeaA ad y 2) :: st) := by
  match y, h0 with
  | 0, _ => exact v_iald (q0 := 32) rfl hd k
  | 1, _ => exact v_iald (q0 := 38) rfl hd k
  | 2, _ => exact v_iald (q0 := 44) rfl hd k
theorem sX_sea2 {y : Nat} (h0 : y < 3) {i x : Int32} (hd : decode cc pc = .ok (.iastore, 1)) (k : V g L K own cc nL ret (wX g ad) inj z res (sB σ y 2 i.toNatClampNeg x) (pc + 1) lv st) : V g L K own cc nL ret (wX g ad) inj z (grd i 6 res) σ pc lv (.int x :: .int i :: .ref (aSeaA ad y 2) :: st) := by
  match y, h0 with
  | 0, _ => exact v_iast (q0 := 32) rfl rfl hd k
  | 1, _ => exact v_iast (q0 := 38) rfl rfl hd k
  | 2, _ => exact v_iast (q0 := 44) rfl rfl hd k
theorem nX_sea2 {y : Nat} (h0 : y < 3) {v : Int32} (hv : Int32.ofNat 6 = v) (hd : decode cc pc = .ok (.arraylength, 1)) (k : V g L K own cc nL ret (wX g ad) inj z res σ (pc + 1) lv (.int v :: st)) : V g L K own cc nL ret (wX g ad) inj z res σ pc lv (.ref (aSeaA ad y 2) :: st) := by
  match y, h0 with
  | 0, _ => exact v_alen (q0 := 32) (t0 := 0) rfl rfl hv hd k
  | 1, _ => exact v_alen (q0 := 38) (t0 := 0) rfl rfl hv hd k
  | 2, _ => exact v_alen (q0 := 44) (t0 := 0) rfl rfl hv hd k
theorem lX_sea3 {y : Nat} (h0 : y < 3) {i : Int32} (hd : decode cc pc = .ok (.iaload, 1)) (k : V g L K own cc nL ret (wX g ad) inj z res σ (pc + 1) lv (.int (xB σ y 3 i.toNatClampNeg) :: st)) : V g L K own cc nL ret (wX g ad) inj z (grd i 6 res) σ pc lv (.int i :: .ref (aSeaA ad y 3) :: st) := by
  match y, h0 with
  | 0, _ => exact v_iald (q0 := 33) rfl hd k
  | 1, _ => exact v_iald (q0 := 39) rfl hd k
  | 2, _ => exact v_iald (q0 := 45) rfl hd k
theorem sX_sea3 {y : Nat} (h0 : y < 3) {i x : Int32} (hd : decode cc pc = .ok (.iastore, 1)) (k : V g L K own cc nL ret (wX g ad) inj z res (sB σ y 3 i.toNatClampNeg x) (pc + 1) lv st) : V g L K own cc nL ret (wX g ad) inj z (grd i 6 res) σ pc lv (.int x :: .int i :: .ref (aSeaA ad y 3) :: st) := by
  match y, h0 with
  | 0, _ => exact v_iast (q0 := 33) rfl rfl hd k
  | 1, _ => exact v_iast (q0 := 39) rfl rfl hd k
  | 2, _ => exact v_iast (q0 := 45) rfl rfl hd k
theorem nX_sea3 {y : Nat} (h0 : y < 3) {v : Int32} (hv : Int32.ofNat 6 = v) (hd : decode cc pc = .ok (.arraylength, 1)) (k : V g L K own cc nL ret (wX g ad) inj z res σ (pc + 1) lv (.int v :: st)) : V g L K own cc nL ret (wX g ad) inj z res σ pc lv (.ref (aSeaA ad y 3) :: st) := by
  match y, h0 with
  | 0, _ => exact v_alen (q0 := 33) (t0 := 0) rfl rfl hv hd k
  | 1, _ => exact v_alen (q0 := 39) (t0 := 0) rfl rfl hv hd k
  | 2, _ => exact v_alen (q0 := 45) (t0 := 0) rfl rfl hv hd k
theorem lX_sea4 {y : Nat} (h0 : y < 3) {i : Int32} (hd : decode cc pc = .ok (.iaload, 1)) (k : V g L K own cc nL ret (wX g ad) inj z res σ (pc + 1) lv (.int (xB σ y 4 i.toNatClampNeg) :: st)) : V g L K own cc nL ret (wX g ad) inj z (grd i 6 res) σ pc lv (.int i :: .ref (aSeaA ad y 4) :: st) := by
  match y, h0 with
  | 0, _ => exact v_iald (q0 := 34) rfl hd k
  | 1, _ => exact v_iald (q0 := 40) rfl hd k
  | 2, _ => exact v_iald (q0 := 46) rfl hd k
theorem sX_sea4 {y : Nat} (h0 : y < 3) {i x : Int32} (hd : decode cc pc = .ok (.iastore, 1)) (k : V g L K own cc nL ret (wX g ad) inj z res (sB σ y 4 i.toNatClampNeg x) (pc + 1) lv st) : V g L K own cc nL ret (wX g ad) inj z (grd i 6 res) σ pc lv (.int x :: .int i :: .ref (aSeaA ad y 4) :: st) := by
  match y, h0 with
  | 0, _ => exact v_iast (q0 := 34) rfl rfl hd k
  | 1, _ => exact v_iast (q0 := 40) rfl rfl hd k
  | 2, _ => exact v_iast (q0 := 46) rfl rfl hd k
theorem nX_sea4 {y : Nat} (h0 : y < 3) {v : Int32} (hv : Int32.ofNat 6 = v) (hd : decode cc pc = .ok (.arraylength, 1)) (k : V g L K own cc nL ret (wX g ad) inj z res σ (pc + 1) lv (.int v :: st)) : V g L K own cc nL ret (wX g ad) inj z res σ pc lv (.ref (aSeaA ad y 4) :: st) := by
  match y, h0 with
  | 0, _ => exact v_alen (q0 := 34) (t0 := 0) rfl rfl hv hd k
  | 1, _ => exact v_alen (q0 := 40) (t0 := 0) rfl rfl hv hd k
  | 2, _ => exact v_alen (q0 := 46) (t0 := 0) rfl rfl hv hd k
theorem lX_nums {q : Nat} (h0 : q < 4) {i : Int32} (hd : decode cc pc = .ok (.iaload, 1)) (k : V g L K own cc nL ret (wX g ad) inj z res σ (pc + 1) lv (.int (xN σ q i.toNatClampNeg) :: st)) : V g L K own cc nL ret (wX g ad) inj z (grd i 40 res) σ pc lv (.int i :: .ref (aNums ad q) :: st) := by
  match q, h0 with
  | 0, _ => exact v_iald (q0 := 48) rfl hd k
  | 1, _ => exact v_iald (q0 := 50) rfl hd k
  | 2, _ => exact v_iald (q0 := 52) rfl hd k
  | 3, _ => exact v_iald (q0 := 54) rfl hd k
theorem sX_nums {q : Nat} (h0 : q < 4) {i x : Int32} (hd : decode cc pc = .ok (.iastore, 1)) (k : V g L K own cc nL ret (wX g ad) inj z res (sN σ q i.toNatClampNeg x) (pc + 1) lv st) : V g L K own cc nL ret (wX g ad) inj z (grd i 40 res) σ pc lv (.int x :: .int i :: .ref (aNums ad q) :: st) := by
  match q, h0 with
  | 0, _ => exact v_iast (q0 := 48) rfl rfl hd k
  | 1, _ => exact v_iast (q0 := 50) rfl rfl hd k
  | 2, _ => exact v_iast (q0 := 52) rfl rfl hd k
  | 3, _ => exact v_iast (q0 := 54) rfl rfl hd k
theorem nX_nums {q : Nat} (h0 : q < 4) {v : Int32} (hv : Int32.ofNat 40 = v) (hd : decode cc pc = .ok (.arraylength, 1)) (k : V g L K own cc nL ret (wX g ad) inj z res σ (pc + 1) lv (.int v :: st)) : V g L K own cc nL ret (wX g ad) inj z res σ pc lv (.ref (aNums ad q) :: st) := by
  match q, h0 with
  | 0, _ => exact v_alen (q0 := 48) (t0 := 0) rfl rfl hv hd k
  | 1, _ => exact v_alen (q0 := 50) (t0 := 0) rfl rfl hv hd k
  | 2, _ => exact v_alen (q0 := 52) (t0 := 0) rfl rfl hv hd k
  | 3, _ => exact v_alen (q0 := 54) (t0 := 0) rfl rfl hv hd k
theorem nX_texts {v : Int32} (hv : Int32.ofNat 6 = v) (hd : decode cc pc = .ok (.arraylength, 1)) (k : V g L K own cc nL ret (wX g ad) inj z res σ (pc + 1) lv (.int v :: st)) : V g L K own cc nL ret (wX g ad) inj z res σ pc lv (.ref (aTexts ad) :: st) := v_alen (q0 := 1) (t0 := 1) rfl rfl hv hd k
theorem aX_texts {i : Int32} (hd : decode cc pc = .ok (.aaload, 1)) (k : i.toNatClampNeg < 6 → V g L K own cc nL ret (wX g ad) inj z res σ (pc + 1) lv (.ref (aLaw ad i.toNatClampNeg) :: st)) : V g L K own cc nL ret (wX g ad) inj z (grd i 6 res) σ pc lv (.int i :: .ref (aTexts ad) :: st) := v_aald (q0 := 1) (t0 := 1) rfl rfl hd k
theorem aX_sheets {i : Int32} (hd : decode cc pc = .ok (.aaload, 1)) (k : i.toNatClampNeg < 4 → V g L K own cc nL ret (wX g ad) inj z res σ (pc + 1) lv (.ref (aSheet ad i.toNatClampNeg) :: st)) : V g L K own cc nL ret (wX g ad) inj z (grd i 4 res) σ pc lv (.int i :: .ref (aSheets ad) :: st) := v_aald (q0 := 2) (t0 := 2) rfl rfl hd k
theorem rcX0 {t : Nat} (h0 : t < 6) : RC (wX g ad) σ (aLaw ad t) RX0 := by
  match t, h0 with
  | 0, _ => exact ⟨5, 0, _, _, rfl, rfl, rfl⟩
  | 1, _ => exact ⟨9, 0, _, _, rfl, rfl, rfl⟩
  | 2, _ => exact ⟨13, 0, _, _, rfl, rfl, rfl⟩
  | 3, _ => exact ⟨17, 0, _, _, rfl, rfl, rfl⟩
  | 4, _ => exact ⟨21, 0, _, _, rfl, rfl, rfl⟩
  | 5, _ => exact ⟨25, 0, _, _, rfl, rfl, rfl⟩
theorem rcX1 : RC (wX g ad) σ (aReader ad) RX1 := ⟨4, 1, _, _, rfl, rfl, rfl⟩
theorem rcX2 {y : Nat} (h0 : y < 3) : RC (wX g ad) σ (aSea ad y) RX2 := by
  match y, h0 with
  | 0, _ => exact ⟨29, 2, _, _, rfl, rfl, rfl⟩
  | 1, _ => exact ⟨35, 2, _, _, rfl, rfl, rfl⟩
  | 2, _ => exact ⟨41, 2, _, _, rfl, rfl, rfl⟩
theorem rcX3 {q : Nat} (h0 : q < 4) : RC (wX g ad) σ (aSheet ad q) RX3 := by
  match q, h0 with
  | 0, _ => exact ⟨47, 3, _, _, rfl, rfl, rfl⟩
  | 1, _ => exact ⟨49, 3, _, _, rfl, rfl, rfl⟩
  | 2, _ => exact ⟨51, 3, _, _, rfl, rfl, rfl⟩
  | 3, _ => exact ⟨53, 3, _, _, rfl, rfl, rfl⟩
theorem rcX4 : RC (wX g ad) σ (aMain ad) RX4 := ⟨0, 4, _, _, rfl, rfl, rfl⟩
end WROWS
section WROWSM
variable {ρ : Type} {g : Gt} {ad : Nat → Nat} {L : List Nat} {K : Nat} {own : String} {cc : ByteArray} {nL : Nat} {ret : Option FieldType} {inj : ρ → Option Value} {z : Zt} {res : Option (ρ × GM)} {σ : GM} {pc ix : Nat} {lv : List (Nat × Value)} {st : List Value}
theorem in_r {ws : List Cond} (ps : List Nat) (hp : ws = ps.filterMap (fun i => lw_tbl[i]?)) (hg : ws.all goodWord = true) : ∀ w ∈ ws, w ∈ tb := by
  intro w hw
  have h1 := List.all_eq_true.mp hg w hw
  rw [hp] at hw
  obtain ⟨i, -, hi⟩ := List.mem_filterMap.mp hw
  exact tb_mem i hi h1
theorem inX5 : ∀ w ∈ u_ws RX5 TX5 37, w ∈ tb := in_r [791, 793, 795, 797, 799, 801, 803, 805, 807, 809, 811, 813, 815, 817, 819, 821, 823, 825, 827, 829, 831, 833, 835, 837, 839, 841, 843, 845, 847, 849, 851, 853, 855, 857, 859, 861, 863] (by decide +kernel) (by decide +kernel)
theorem gX5_ships (hl0 : Cond.fieldLink own ix RX5 "ships" "I" ∈ tb) (hd : decode cc pc = .ok (.getfield ix, 3)) (k : V g L K own cc nL ret (wM g ad) inj z res σ (pc + 3) lv (.int (mI σ 0) :: st)) : V g L K own cc nL ret (wM g ad) inj z res σ pc lv (.ref (aMo ad) :: st) := v_get (q0 := 0) (C := RX5) (T := TX5) (N := 37) 0 rfl rfl inX5 (by decide) rfl rfl hl0 hd k
theorem pX5_ships {x : Int32} (hl0 : Cond.fieldLink own ix RX5 "ships" "I" ∈ tb) (hd : decode cc pc = .ok (.putfield ix, 3)) (k : V g L K own cc nL ret (wM g ad) inj z res (tI σ 0 x) (pc + 3) lv st) : V g L K own cc nL ret (wM g ad) inj z res σ pc lv (.int x :: .ref (aMo ad) :: st) := v_put (q0 := 0) (C := RX5) (T := TX5) (N := 37) (ty := .int) 0 rfl rfl inX5 tyX5_ok nmX5 (by decide) rfl rfl (by decide +kernel) rfl rfl (Nat.le_of_ble_eq_true rfl) rfl hl0 hd k
theorem gX5_kind (hl0 : Cond.fieldLink own ix RX5 "kind" "[I" ∈ tb) (hd : decode cc pc = .ok (.getfield ix, 3)) (k : V g L K own cc nL ret (wM g ad) inj z res σ (pc + 3) lv (.ref (aMoA ad 0) :: st)) : V g L K own cc nL ret (wM g ad) inj z res σ pc lv (.ref (aMo ad) :: st) := v_get (q0 := 0) (C := RX5) (T := TX5) (N := 37) 1 rfl rfl inX5 (by decide) rfl rfl hl0 hd k
theorem gX5_moreOf (hl0 : Cond.fieldLink own ix RX5 "moreOf" "[I" ∈ tb) (hd : decode cc pc = .ok (.getfield ix, 3)) (k : V g L K own cc nL ret (wM g ad) inj z res σ (pc + 3) lv (.ref (aMoA ad 1) :: st)) : V g L K own cc nL ret (wM g ad) inj z res σ pc lv (.ref (aMo ad) :: st) := v_get (q0 := 0) (C := RX5) (T := TX5) (N := 37) 2 rfl rfl inX5 (by decide) rfl rfl hl0 hd k
theorem gX5_onOf (hl0 : Cond.fieldLink own ix RX5 "onOf" "[I" ∈ tb) (hd : decode cc pc = .ok (.getfield ix, 3)) (k : V g L K own cc nL ret (wM g ad) inj z res σ (pc + 3) lv (.ref (aMoA ad 2) :: st)) : V g L K own cc nL ret (wM g ad) inj z res σ pc lv (.ref (aMo ad) :: st) := v_get (q0 := 0) (C := RX5) (T := TX5) (N := 37) 3 rfl rfl inX5 (by decide) rfl rfl hl0 hd k
theorem gX5_draughtOf (hl0 : Cond.fieldLink own ix RX5 "draughtOf" "[I" ∈ tb) (hd : decode cc pc = .ok (.getfield ix, 3)) (k : V g L K own cc nL ret (wM g ad) inj z res σ (pc + 3) lv (.ref (aMoA ad 3) :: st)) : V g L K own cc nL ret (wM g ad) inj z res σ pc lv (.ref (aMo ad) :: st) := v_get (q0 := 0) (C := RX5) (T := TX5) (N := 37) 4 rfl rfl inX5 (by decide) rfl rfl hl0 hd k
theorem gX5_lost (hl0 : Cond.fieldLink own ix RX5 "lost" "[I" ∈ tb) (hd : decode cc pc = .ok (.getfield ix, 3)) (k : V g L K own cc nL ret (wM g ad) inj z res σ (pc + 3) lv (.ref (aMoA ad 4) :: st)) : V g L K own cc nL ret (wM g ad) inj z res σ pc lv (.ref (aMo ad) :: st) := v_get (q0 := 0) (C := RX5) (T := TX5) (N := 37) 5 rfl rfl inX5 (by decide) rfl rfl hl0 hd k
theorem gX5_beliefs (hl0 : Cond.fieldLink own ix RX5 "beliefs" "[I" ∈ tb) (hd : decode cc pc = .ok (.getfield ix, 3)) (k : V g L K own cc nL ret (wM g ad) inj z res σ (pc + 3) lv (.ref (aMoA ad 5) :: st)) : V g L K own cc nL ret (wM g ad) inj z res σ pc lv (.ref (aMo ad) :: st) := v_get (q0 := 0) (C := RX5) (T := TX5) (N := 37) 6 rfl rfl inX5 (by decide) rfl rfl hl0 hd k
theorem gX5_rocks (hl0 : Cond.fieldLink own ix RX5 "rocks" "J" ∈ tb) (hd : decode cc pc = .ok (.getfield ix, 3)) (k : V g L K own cc nL ret (wM g ad) inj z res σ (pc + 3) lv (.long (mL σ 0) :: st)) : V g L K own cc nL ret (wM g ad) inj z res σ pc lv (.ref (aMo ad) :: st) := v_get (q0 := 0) (C := RX5) (T := TX5) (N := 37) 7 rfl rfl inX5 (by decide) rfl rfl hl0 hd k
theorem pX5_rocks {x : Int64} (hl0 : Cond.fieldLink own ix RX5 "rocks" "J" ∈ tb) (hd : decode cc pc = .ok (.putfield ix, 3)) (k : V g L K own cc nL ret (wM g ad) inj z res (tL σ 0 x) (pc + 3) lv st) : V g L K own cc nL ret (wM g ad) inj z res σ pc lv (.long x :: .ref (aMo ad) :: st) := v_put (q0 := 0) (C := RX5) (T := TX5) (N := 37) (ty := .long) 7 rfl rfl inX5 tyX5_ok nmX5 (by decide) rfl rfl (by decide +kernel) rfl rfl (Nat.le_of_ble_eq_true rfl) rfl hl0 hd k
theorem gX5_nights (hl0 : Cond.fieldLink own ix RX5 "nights" "I" ∈ tb) (hd : decode cc pc = .ok (.getfield ix, 3)) (k : V g L K own cc nL ret (wM g ad) inj z res σ (pc + 3) lv (.int (mI σ 1) :: st)) : V g L K own cc nL ret (wM g ad) inj z res σ pc lv (.ref (aMo ad) :: st) := v_get (q0 := 0) (C := RX5) (T := TX5) (N := 37) 8 rfl rfl inX5 (by decide) rfl rfl hl0 hd k
theorem pX5_nights {x : Int32} (hl0 : Cond.fieldLink own ix RX5 "nights" "I" ∈ tb) (hd : decode cc pc = .ok (.putfield ix, 3)) (k : V g L K own cc nL ret (wM g ad) inj z res (tI σ 1 x) (pc + 3) lv st) : V g L K own cc nL ret (wM g ad) inj z res σ pc lv (.int x :: .ref (aMo ad) :: st) := v_put (q0 := 0) (C := RX5) (T := TX5) (N := 37) (ty := .int) 8 rfl rfl inX5 tyX5_ok nmX5 (by decide) rfl rfl (by decide +kernel) rfl rfl (Nat.le_of_ble_eq_true rfl) rfl hl0 hd k
theorem gX5_doubt (hl0 : Cond.fieldLink own ix RX5 "doubt" "I" ∈ tb) (hd : decode cc pc = .ok (.getfield ix, 3)) (k : V g L K own cc nL ret (wM g ad) inj z res σ (pc + 3) lv (.int (mI σ 2) :: st)) : V g L K own cc nL ret (wM g ad) inj z res σ pc lv (.ref (aMo ad) :: st) := v_get (q0 := 0) (C := RX5) (T := TX5) (N := 37) 9 rfl rfl inX5 (by decide) rfl rfl hl0 hd k
theorem pX5_doubt {x : Int32} (hl0 : Cond.fieldLink own ix RX5 "doubt" "I" ∈ tb) (hd : decode cc pc = .ok (.putfield ix, 3)) (k : V g L K own cc nL ret (wM g ad) inj z res (tI σ 2 x) (pc + 3) lv st) : V g L K own cc nL ret (wM g ad) inj z res σ pc lv (.int x :: .ref (aMo ad) :: st) := v_put (q0 := 0) (C := RX5) (T := TX5) (N := 37) (ty := .int) 9 rfl rfl inX5 tyX5_ok nmX5 (by decide) rfl rfl (by decide +kernel) rfl rfl (Nat.le_of_ble_eq_true rfl) rfl hl0 hd k
theorem gX5_tape (hl0 : Cond.fieldLink own ix RX5 "tape" "[I" ∈ tb) (hd : decode cc pc = .ok (.getfield ix, 3)) (k : V g L K own cc nL ret (wM g ad) inj z res σ (pc + 3) lv (.ref (aMoA ad 6) :: st)) : V g L K own cc nL ret (wM g ad) inj z res σ pc lv (.ref (aMo ad) :: st) := v_get (q0 := 0) (C := RX5) (T := TX5) (N := 37) 10 rfl rfl inX5 (by decide) rfl rfl hl0 hd k
theorem gX5_taped (hl0 : Cond.fieldLink own ix RX5 "taped" "I" ∈ tb) (hd : decode cc pc = .ok (.getfield ix, 3)) (k : V g L K own cc nL ret (wM g ad) inj z res σ (pc + 3) lv (.int (mI σ 3) :: st)) : V g L K own cc nL ret (wM g ad) inj z res σ pc lv (.ref (aMo ad) :: st) := v_get (q0 := 0) (C := RX5) (T := TX5) (N := 37) 11 rfl rfl inX5 (by decide) rfl rfl hl0 hd k
theorem pX5_taped {x : Int32} (hl0 : Cond.fieldLink own ix RX5 "taped" "I" ∈ tb) (hd : decode cc pc = .ok (.putfield ix, 3)) (k : V g L K own cc nL ret (wM g ad) inj z res (tI σ 3 x) (pc + 3) lv st) : V g L K own cc nL ret (wM g ad) inj z res σ pc lv (.int x :: .ref (aMo ad) :: st) := v_put (q0 := 0) (C := RX5) (T := TX5) (N := 37) (ty := .int) 11 rfl rfl inX5 tyX5_ok nmX5 (by decide) rfl rfl (by decide +kernel) rfl rfl (Nat.le_of_ble_eq_true rfl) rfl hl0 hd k
theorem gX5_codes (hl0 : Cond.fieldLink own ix RX5 "codes" "[I" ∈ tb) (hd : decode cc pc = .ok (.getfield ix, 3)) (k : V g L K own cc nL ret (wM g ad) inj z res σ (pc + 3) lv (.ref (aMoA ad 7) :: st)) : V g L K own cc nL ret (wM g ad) inj z res σ pc lv (.ref (aMo ad) :: st) := v_get (q0 := 0) (C := RX5) (T := TX5) (N := 37) 12 rfl rfl inX5 (by decide) rfl rfl hl0 hd k
theorem gX5_starts (hl0 : Cond.fieldLink own ix RX5 "starts" "[I" ∈ tb) (hd : decode cc pc = .ok (.getfield ix, 3)) (k : V g L K own cc nL ret (wM g ad) inj z res σ (pc + 3) lv (.ref (aMoA ad 8) :: st)) : V g L K own cc nL ret (wM g ad) inj z res σ pc lv (.ref (aMo ad) :: st) := v_get (q0 := 0) (C := RX5) (T := TX5) (N := 37) 13 rfl rfl inX5 (by decide) rfl rfl hl0 hd k
theorem gX5_texts (hl0 : Cond.fieldLink own ix RX5 "texts" "I" ∈ tb) (hd : decode cc pc = .ok (.getfield ix, 3)) (k : V g L K own cc nL ret (wM g ad) inj z res σ (pc + 3) lv (.int (mI σ 4) :: st)) : V g L K own cc nL ret (wM g ad) inj z res σ pc lv (.ref (aMo ad) :: st) := v_get (q0 := 0) (C := RX5) (T := TX5) (N := 37) 14 rfl rfl inX5 (by decide) rfl rfl hl0 hd k
theorem pX5_texts {x : Int32} (hl0 : Cond.fieldLink own ix RX5 "texts" "I" ∈ tb) (hd : decode cc pc = .ok (.putfield ix, 3)) (k : V g L K own cc nL ret (wM g ad) inj z res (tI σ 4 x) (pc + 3) lv st) : V g L K own cc nL ret (wM g ad) inj z res σ pc lv (.int x :: .ref (aMo ad) :: st) := v_put (q0 := 0) (C := RX5) (T := TX5) (N := 37) (ty := .int) 14 rfl rfl inX5 tyX5_ok nmX5 (by decide) rfl rfl (by decide +kernel) rfl rfl (Nat.le_of_ble_eq_true rfl) rfl hl0 hd k
theorem gX5_rule (hl0 : Cond.fieldLink own ix RX5 "rule" "I" ∈ tb) (hd : decode cc pc = .ok (.getfield ix, 3)) (k : V g L K own cc nL ret (wM g ad) inj z res σ (pc + 3) lv (.int (mI σ 5) :: st)) : V g L K own cc nL ret (wM g ad) inj z res σ pc lv (.ref (aMo ad) :: st) := v_get (q0 := 0) (C := RX5) (T := TX5) (N := 37) 15 rfl rfl inX5 (by decide) rfl rfl hl0 hd k
theorem pX5_rule {x : Int32} (hl0 : Cond.fieldLink own ix RX5 "rule" "I" ∈ tb) (hd : decode cc pc = .ok (.putfield ix, 3)) (k : V g L K own cc nL ret (wM g ad) inj z res (tI σ 5 x) (pc + 3) lv st) : V g L K own cc nL ret (wM g ad) inj z res σ pc lv (.int x :: .ref (aMo ad) :: st) := v_put (q0 := 0) (C := RX5) (T := TX5) (N := 37) (ty := .int) 15 rfl rfl inX5 tyX5_ok nmX5 (by decide) rfl rfl (by decide +kernel) rfl rfl (Nat.le_of_ble_eq_true rfl) rfl hl0 hd k
theorem gX5_hasImage (hl0 : Cond.fieldLink own ix RX5 "hasImage" "Z" ∈ tb) (hd : decode cc pc = .ok (.getfield ix, 3)) (k : V g L K own cc nL ret (wM g ad) inj z res σ (pc + 3) lv (.int (mI σ 6) :: st)) : V g L K own cc nL ret (wM g ad) inj z res σ pc lv (.ref (aMo ad) :: st) := v_get (q0 := 0) (C := RX5) (T := TX5) (N := 37) 16 rfl rfl inX5 (by decide) rfl rfl hl0 hd k
theorem pX5_hasImage {x : Int32} (hb : narrow .boolean (.int x) = .int x) (hf : fits .boolean (.int x) = true) (hl0 : Cond.fieldLink own ix RX5 "hasImage" "Z" ∈ tb) (hd : decode cc pc = .ok (.putfield ix, 3)) (k : V g L K own cc nL ret (wM g ad) inj z res (tI σ 6 x) (pc + 3) lv st) : V g L K own cc nL ret (wM g ad) inj z res σ pc lv (.int x :: .ref (aMo ad) :: st) := v_put (q0 := 0) (C := RX5) (T := TX5) (N := 37) (ty := .boolean) 16 rfl rfl inX5 tyX5_ok nmX5 (by decide) rfl rfl (by decide +kernel) hb hf (Nat.le_of_ble_eq_true rfl) rfl hl0 hd k
theorem gX5_imageRows (hl0 : Cond.fieldLink own ix RX5 "imageRows" "[I" ∈ tb) (hd : decode cc pc = .ok (.getfield ix, 3)) (k : V g L K own cc nL ret (wM g ad) inj z res σ (pc + 3) lv (.ref (aMoA ad 9) :: st)) : V g L K own cc nL ret (wM g ad) inj z res σ pc lv (.ref (aMo ad) :: st) := v_get (q0 := 0) (C := RX5) (T := TX5) (N := 37) 17 rfl rfl inX5 (by decide) rfl rfl hl0 hd k
theorem gX5_imageHeld (hl0 : Cond.fieldLink own ix RX5 "imageHeld" "[I" ∈ tb) (hd : decode cc pc = .ok (.getfield ix, 3)) (k : V g L K own cc nL ret (wM g ad) inj z res σ (pc + 3) lv (.ref (aMoA ad 10) :: st)) : V g L K own cc nL ret (wM g ad) inj z res σ pc lv (.ref (aMo ad) :: st) := v_get (q0 := 0) (C := RX5) (T := TX5) (N := 37) 18 rfl rfl inX5 (by decide) rfl rfl hl0 hd k
theorem gX5_imageRocks (hl0 : Cond.fieldLink own ix RX5 "imageRocks" "J" ∈ tb) (hd : decode cc pc = .ok (.getfield ix, 3)) (k : V g L K own cc nL ret (wM g ad) inj z res σ (pc + 3) lv (.long (mL σ 1) :: st)) : V g L K own cc nL ret (wM g ad) inj z res σ pc lv (.ref (aMo ad) :: st) := v_get (q0 := 0) (C := RX5) (T := TX5) (N := 37) 19 rfl rfl inX5 (by decide) rfl rfl hl0 hd k
theorem pX5_imageRocks {x : Int64} (hl0 : Cond.fieldLink own ix RX5 "imageRocks" "J" ∈ tb) (hd : decode cc pc = .ok (.putfield ix, 3)) (k : V g L K own cc nL ret (wM g ad) inj z res (tL σ 1 x) (pc + 3) lv st) : V g L K own cc nL ret (wM g ad) inj z res σ pc lv (.long x :: .ref (aMo ad) :: st) := v_put (q0 := 0) (C := RX5) (T := TX5) (N := 37) (ty := .long) 19 rfl rfl inX5 tyX5_ok nmX5 (by decide) rfl rfl (by decide +kernel) rfl rfl (Nat.le_of_ble_eq_true rfl) rfl hl0 hd k
theorem gX5_sheetSort (hl0 : Cond.fieldLink own ix RX5 "sheetSort" "[I" ∈ tb) (hd : decode cc pc = .ok (.getfield ix, 3)) (k : V g L K own cc nL ret (wM g ad) inj z res σ (pc + 3) lv (.ref (aMoA ad 11) :: st)) : V g L K own cc nL ret (wM g ad) inj z res σ pc lv (.ref (aMo ad) :: st) := v_get (q0 := 0) (C := RX5) (T := TX5) (N := 37) 20 rfl rfl inX5 (by decide) rfl rfl hl0 hd k
theorem gX5_sheetSize (hl0 : Cond.fieldLink own ix RX5 "sheetSize" "[I" ∈ tb) (hd : decode cc pc = .ok (.getfield ix, 3)) (k : V g L K own cc nL ret (wM g ad) inj z res σ (pc + 3) lv (.ref (aMoA ad 12) :: st)) : V g L K own cc nL ret (wM g ad) inj z res σ pc lv (.ref (aMo ad) :: st) := v_get (q0 := 0) (C := RX5) (T := TX5) (N := 37) 21 rfl rfl inX5 (by decide) rfl rfl hl0 hd k
theorem gX5_cells (hl0 : Cond.fieldLink own ix RX5 "cells" "[I" ∈ tb) (hd : decode cc pc = .ok (.getfield ix, 3)) (k : V g L K own cc nL ret (wM g ad) inj z res σ (pc + 3) lv (.ref (aMoA ad 13) :: st)) : V g L K own cc nL ret (wM g ad) inj z res σ pc lv (.ref (aMo ad) :: st) := v_get (q0 := 0) (C := RX5) (T := TX5) (N := 37) 22 rfl rfl inX5 (by decide) rfl rfl hl0 hd k
theorem gX5_law (hl0 : Cond.fieldLink own ix RX5 "law" "[I" ∈ tb) (hd : decode cc pc = .ok (.getfield ix, 3)) (k : V g L K own cc nL ret (wM g ad) inj z res σ (pc + 3) lv (.ref (aMoA ad 14) :: st)) : V g L K own cc nL ret (wM g ad) inj z res σ pc lv (.ref (aMo ad) :: st) := v_get (q0 := 0) (C := RX5) (T := TX5) (N := 37) 23 rfl rfl inX5 (by decide) rfl rfl hl0 hd k
theorem gX5_at (hl0 : Cond.fieldLink own ix RX5 "at" "I" ∈ tb) (hd : decode cc pc = .ok (.getfield ix, 3)) (k : V g L K own cc nL ret (wM g ad) inj z res σ (pc + 3) lv (.int (mI σ 7) :: st)) : V g L K own cc nL ret (wM g ad) inj z res σ pc lv (.ref (aMo ad) :: st) := v_get (q0 := 0) (C := RX5) (T := TX5) (N := 37) 24 rfl rfl inX5 (by decide) rfl rfl hl0 hd k
theorem pX5_at {x : Int32} (hl0 : Cond.fieldLink own ix RX5 "at" "I" ∈ tb) (hd : decode cc pc = .ok (.putfield ix, 3)) (k : V g L K own cc nL ret (wM g ad) inj z res (tI σ 7 x) (pc + 3) lv st) : V g L K own cc nL ret (wM g ad) inj z res σ pc lv (.int x :: .ref (aMo ad) :: st) := v_put (q0 := 0) (C := RX5) (T := TX5) (N := 37) (ty := .int) 24 rfl rfl inX5 tyX5_ok nmX5 (by decide) rfl rfl (by decide +kernel) rfl rfl (Nat.le_of_ble_eq_true rfl) rfl hl0 hd k
theorem gX5_begun (hl0 : Cond.fieldLink own ix RX5 "begun" "I" ∈ tb) (hd : decode cc pc = .ok (.getfield ix, 3)) (k : V g L K own cc nL ret (wM g ad) inj z res σ (pc + 3) lv (.int (mI σ 8) :: st)) : V g L K own cc nL ret (wM g ad) inj z res σ pc lv (.ref (aMo ad) :: st) := v_get (q0 := 0) (C := RX5) (T := TX5) (N := 37) 25 rfl rfl inX5 (by decide) rfl rfl hl0 hd k
theorem pX5_begun {x : Int32} (hl0 : Cond.fieldLink own ix RX5 "begun" "I" ∈ tb) (hd : decode cc pc = .ok (.putfield ix, 3)) (k : V g L K own cc nL ret (wM g ad) inj z res (tI σ 8 x) (pc + 3) lv st) : V g L K own cc nL ret (wM g ad) inj z res σ pc lv (.int x :: .ref (aMo ad) :: st) := v_put (q0 := 0) (C := RX5) (T := TX5) (N := 37) (ty := .int) 25 rfl rfl inX5 tyX5_ok nmX5 (by decide) rfl rfl (by decide +kernel) rfl rfl (Nat.le_of_ble_eq_true rfl) rfl hl0 hd k
theorem gX5_token (hl0 : Cond.fieldLink own ix RX5 "token" "I" ∈ tb) (hd : decode cc pc = .ok (.getfield ix, 3)) (k : V g L K own cc nL ret (wM g ad) inj z res σ (pc + 3) lv (.int (mI σ 9) :: st)) : V g L K own cc nL ret (wM g ad) inj z res σ pc lv (.ref (aMo ad) :: st) := v_get (q0 := 0) (C := RX5) (T := TX5) (N := 37) 26 rfl rfl inX5 (by decide) rfl rfl hl0 hd k
theorem pX5_token {x : Int32} (hl0 : Cond.fieldLink own ix RX5 "token" "I" ∈ tb) (hd : decode cc pc = .ok (.putfield ix, 3)) (k : V g L K own cc nL ret (wM g ad) inj z res (tI σ 9 x) (pc + 3) lv st) : V g L K own cc nL ret (wM g ad) inj z res σ pc lv (.int x :: .ref (aMo ad) :: st) := v_put (q0 := 0) (C := RX5) (T := TX5) (N := 37) (ty := .int) 26 rfl rfl inX5 tyX5_ok nmX5 (by decide) rfl rfl (by decide +kernel) rfl rfl (Nat.le_of_ble_eq_true rfl) rfl hl0 hd k
theorem gX5_value (hl0 : Cond.fieldLink own ix RX5 "value" "I" ∈ tb) (hd : decode cc pc = .ok (.getfield ix, 3)) (k : V g L K own cc nL ret (wM g ad) inj z res σ (pc + 3) lv (.int (mI σ 10) :: st)) : V g L K own cc nL ret (wM g ad) inj z res σ pc lv (.ref (aMo ad) :: st) := v_get (q0 := 0) (C := RX5) (T := TX5) (N := 37) 27 rfl rfl inX5 (by decide) rfl rfl hl0 hd k
theorem pX5_value {x : Int32} (hl0 : Cond.fieldLink own ix RX5 "value" "I" ∈ tb) (hd : decode cc pc = .ok (.putfield ix, 3)) (k : V g L K own cc nL ret (wM g ad) inj z res (tI σ 10 x) (pc + 3) lv st) : V g L K own cc nL ret (wM g ad) inj z res σ pc lv (.int x :: .ref (aMo ad) :: st) := v_put (q0 := 0) (C := RX5) (T := TX5) (N := 37) (ty := .int) 27 rfl rfl inX5 tyX5_ok nmX5 (by decide) rfl rfl (by decide +kernel) rfl rfl (Nat.le_of_ble_eq_true rfl) rfl hl0 hd k
theorem gX5_words (hl0 : Cond.fieldLink own ix RX5 "words" "[I" ∈ tb) (hd : decode cc pc = .ok (.getfield ix, 3)) (k : V g L K own cc nL ret (wM g ad) inj z res σ (pc + 3) lv (.ref (aMoA ad 15) :: st)) : V g L K own cc nL ret (wM g ad) inj z res σ pc lv (.ref (aMo ad) :: st) := v_get (q0 := 0) (C := RX5) (T := TX5) (N := 37) 28 rfl rfl inX5 (by decide) rfl rfl hl0 hd k
theorem gX5_held (hl0 : Cond.fieldLink own ix RX5 "held" "[I" ∈ tb) (hd : decode cc pc = .ok (.getfield ix, 3)) (k : V g L K own cc nL ret (wM g ad) inj z res σ (pc + 3) lv (.ref (aMoA ad 16) :: st)) : V g L K own cc nL ret (wM g ad) inj z res σ pc lv (.ref (aMo ad) :: st) := v_get (q0 := 0) (C := RX5) (T := TX5) (N := 37) 29 rfl rfl inX5 (by decide) rfl rfl hl0 hd k
theorem gX5_heldMany (hl0 : Cond.fieldLink own ix RX5 "heldMany" "I" ∈ tb) (hd : decode cc pc = .ok (.getfield ix, 3)) (k : V g L K own cc nL ret (wM g ad) inj z res σ (pc + 3) lv (.int (mI σ 11) :: st)) : V g L K own cc nL ret (wM g ad) inj z res σ pc lv (.ref (aMo ad) :: st) := v_get (q0 := 0) (C := RX5) (T := TX5) (N := 37) 30 rfl rfl inX5 (by decide) rfl rfl hl0 hd k
theorem pX5_heldMany {x : Int32} (hl0 : Cond.fieldLink own ix RX5 "heldMany" "I" ∈ tb) (hd : decode cc pc = .ok (.putfield ix, 3)) (k : V g L K own cc nL ret (wM g ad) inj z res (tI σ 11 x) (pc + 3) lv st) : V g L K own cc nL ret (wM g ad) inj z res σ pc lv (.int x :: .ref (aMo ad) :: st) := v_put (q0 := 0) (C := RX5) (T := TX5) (N := 37) (ty := .int) 30 rfl rfl inX5 tyX5_ok nmX5 (by decide) rfl rfl (by decide +kernel) rfl rfl (Nat.le_of_ble_eq_true rfl) rfl hl0 hd k
theorem gX5_opens (hl0 : Cond.fieldLink own ix RX5 "opens" "I" ∈ tb) (hd : decode cc pc = .ok (.getfield ix, 3)) (k : V g L K own cc nL ret (wM g ad) inj z res σ (pc + 3) lv (.int (mI σ 12) :: st)) : V g L K own cc nL ret (wM g ad) inj z res σ pc lv (.ref (aMo ad) :: st) := v_get (q0 := 0) (C := RX5) (T := TX5) (N := 37) 31 rfl rfl inX5 (by decide) rfl rfl hl0 hd k
theorem pX5_opens {x : Int32} (hl0 : Cond.fieldLink own ix RX5 "opens" "I" ∈ tb) (hd : decode cc pc = .ok (.putfield ix, 3)) (k : V g L K own cc nL ret (wM g ad) inj z res (tI σ 12 x) (pc + 3) lv st) : V g L K own cc nL ret (wM g ad) inj z res σ pc lv (.int x :: .ref (aMo ad) :: st) := v_put (q0 := 0) (C := RX5) (T := TX5) (N := 37) (ty := .int) 31 rfl rfl inX5 tyX5_ok nmX5 (by decide) rfl rfl (by decide +kernel) rfl rfl (Nat.le_of_ble_eq_true rfl) rfl hl0 hd k
theorem gX5_out (hl0 : Cond.fieldLink own ix RX5 "out" "I" ∈ tb) (hd : decode cc pc = .ok (.getfield ix, 3)) (k : V g L K own cc nL ret (wM g ad) inj z res σ (pc + 3) lv (.int (mI σ 13) :: st)) : V g L K own cc nL ret (wM g ad) inj z res σ pc lv (.ref (aMo ad) :: st) := v_get (q0 := 0) (C := RX5) (T := TX5) (N := 37) 32 rfl rfl inX5 (by decide) rfl rfl hl0 hd k
theorem pX5_out {x : Int32} (hl0 : Cond.fieldLink own ix RX5 "out" "I" ∈ tb) (hd : decode cc pc = .ok (.putfield ix, 3)) (k : V g L K own cc nL ret (wM g ad) inj z res (tI σ 13 x) (pc + 3) lv st) : V g L K own cc nL ret (wM g ad) inj z res σ pc lv (.int x :: .ref (aMo ad) :: st) := v_put (q0 := 0) (C := RX5) (T := TX5) (N := 37) (ty := .int) 32 rfl rfl inX5 tyX5_ok nmX5 (by decide) rfl rfl (by decide +kernel) rfl rfl (Nat.le_of_ble_eq_true rfl) rfl hl0 hd k
theorem gX5_stack (hl0 : Cond.fieldLink own ix RX5 "stack" "[I" ∈ tb) (hd : decode cc pc = .ok (.getfield ix, 3)) (k : V g L K own cc nL ret (wM g ad) inj z res σ (pc + 3) lv (.ref (aMoA ad 17) :: st)) : V g L K own cc nL ret (wM g ad) inj z res σ pc lv (.ref (aMo ad) :: st) := v_get (q0 := 0) (C := RX5) (T := TX5) (N := 37) 33 rfl rfl inX5 (by decide) rfl rfl hl0 hd k
theorem gX5_named (hl0 : Cond.fieldLink own ix RX5 "named" "[I" ∈ tb) (hd : decode cc pc = .ok (.getfield ix, 3)) (k : V g L K own cc nL ret (wM g ad) inj z res σ (pc + 3) lv (.ref (aMoA ad 18) :: st)) : V g L K own cc nL ret (wM g ad) inj z res σ pc lv (.ref (aMo ad) :: st) := v_get (q0 := 0) (C := RX5) (T := TX5) (N := 37) 34 rfl rfl inX5 (by decide) rfl rfl hl0 hd k
theorem gX5_kept (hl0 : Cond.fieldLink own ix RX5 "kept" "[I" ∈ tb) (hd : decode cc pc = .ok (.getfield ix, 3)) (k : V g L K own cc nL ret (wM g ad) inj z res σ (pc + 3) lv (.ref (aMoA ad 19) :: st)) : V g L K own cc nL ret (wM g ad) inj z res σ pc lv (.ref (aMo ad) :: st) := v_get (q0 := 0) (C := RX5) (T := TX5) (N := 37) 35 rfl rfl inX5 (by decide) rfl rfl hl0 hd k
theorem gX5_afloatThen (hl0 : Cond.fieldLink own ix RX5 "afloatThen" "I" ∈ tb) (hd : decode cc pc = .ok (.getfield ix, 3)) (k : V g L K own cc nL ret (wM g ad) inj z res σ (pc + 3) lv (.int (mI σ 14) :: st)) : V g L K own cc nL ret (wM g ad) inj z res σ pc lv (.ref (aMo ad) :: st) := v_get (q0 := 0) (C := RX5) (T := TX5) (N := 37) 36 rfl rfl inX5 (by decide) rfl rfl hl0 hd k
theorem pX5_afloatThen {x : Int32} (hl0 : Cond.fieldLink own ix RX5 "afloatThen" "I" ∈ tb) (hd : decode cc pc = .ok (.putfield ix, 3)) (k : V g L K own cc nL ret (wM g ad) inj z res (tI σ 14 x) (pc + 3) lv st) : V g L K own cc nL ret (wM g ad) inj z res σ pc lv (.int x :: .ref (aMo ad) :: st) := v_put (q0 := 0) (C := RX5) (T := TX5) (N := 37) (ty := .int) 36 rfl rfl inX5 tyX5_ok nmX5 (by decide) rfl rfl (by decide +kernel) rfl rfl (Nat.le_of_ble_eq_true rfl) rfl hl0 hd k
theorem lM_kind {i : Int32} (hd : decode cc pc = .ok (.iaload, 1)) (k : V g L K own cc nL ret (wM g ad) inj z res σ (pc + 1) lv (.int (mA σ 0 i.toNatClampNeg) :: st)) : V g L K own cc nL ret (wM g ad) inj z (grd i 6 res) σ pc lv (.int i :: .ref (aMoA ad 0) :: st) := v_iald (q0 := 1) rfl hd k
theorem sM_kind {i x : Int32} (hd : decode cc pc = .ok (.iastore, 1)) (k : V g L K own cc nL ret (wM g ad) inj z res (tA σ 0 i.toNatClampNeg x) (pc + 1) lv st) : V g L K own cc nL ret (wM g ad) inj z (grd i 6 res) σ pc lv (.int x :: .int i :: .ref (aMoA ad 0) :: st) := v_iast (q0 := 1) rfl rfl hd k
theorem nM_kind {v : Int32} (hv : Int32.ofNat 6 = v) (hd : decode cc pc = .ok (.arraylength, 1)) (k : V g L K own cc nL ret (wM g ad) inj z res σ (pc + 1) lv (.int v :: st)) : V g L K own cc nL ret (wM g ad) inj z res σ pc lv (.ref (aMoA ad 0) :: st) := v_alen (q0 := 1) (t0 := 0) rfl rfl hv hd k
theorem lM_moreOf {i : Int32} (hd : decode cc pc = .ok (.iaload, 1)) (k : V g L K own cc nL ret (wM g ad) inj z res σ (pc + 1) lv (.int (mA σ 1 i.toNatClampNeg) :: st)) : V g L K own cc nL ret (wM g ad) inj z (grd i 6 res) σ pc lv (.int i :: .ref (aMoA ad 1) :: st) := v_iald (q0 := 2) rfl hd k
theorem sM_moreOf {i x : Int32} (hd : decode cc pc = .ok (.iastore, 1)) (k : V g L K own cc nL ret (wM g ad) inj z res (tA σ 1 i.toNatClampNeg x) (pc + 1) lv st) : V g L K own cc nL ret (wM g ad) inj z (grd i 6 res) σ pc lv (.int x :: .int i :: .ref (aMoA ad 1) :: st) := v_iast (q0 := 2) rfl rfl hd k
theorem nM_moreOf {v : Int32} (hv : Int32.ofNat 6 = v) (hd : decode cc pc = .ok (.arraylength, 1)) (k : V g L K own cc nL ret (wM g ad) inj z res σ (pc + 1) lv (.int v :: st)) : V g L K own cc nL ret (wM g ad) inj z res σ pc lv (.ref (aMoA ad 1) :: st) := v_alen (q0 := 2) (t0 := 0) rfl rfl hv hd k
theorem lM_onOf {i : Int32} (hd : decode cc pc = .ok (.iaload, 1)) (k : V g L K own cc nL ret (wM g ad) inj z res σ (pc + 1) lv (.int (mA σ 2 i.toNatClampNeg) :: st)) : V g L K own cc nL ret (wM g ad) inj z (grd i 6 res) σ pc lv (.int i :: .ref (aMoA ad 2) :: st) := v_iald (q0 := 3) rfl hd k
theorem sM_onOf {i x : Int32} (hd : decode cc pc = .ok (.iastore, 1)) (k : V g L K own cc nL ret (wM g ad) inj z res (tA σ 2 i.toNatClampNeg x) (pc + 1) lv st) : V g L K own cc nL ret (wM g ad) inj z (grd i 6 res) σ pc lv (.int x :: .int i :: .ref (aMoA ad 2) :: st) := v_iast (q0 := 3) rfl rfl hd k
theorem nM_onOf {v : Int32} (hv : Int32.ofNat 6 = v) (hd : decode cc pc = .ok (.arraylength, 1)) (k : V g L K own cc nL ret (wM g ad) inj z res σ (pc + 1) lv (.int v :: st)) : V g L K own cc nL ret (wM g ad) inj z res σ pc lv (.ref (aMoA ad 2) :: st) := v_alen (q0 := 3) (t0 := 0) rfl rfl hv hd k
theorem lM_draughtOf {i : Int32} (hd : decode cc pc = .ok (.iaload, 1)) (k : V g L K own cc nL ret (wM g ad) inj z res σ (pc + 1) lv (.int (mA σ 3 i.toNatClampNeg) :: st)) : V g L K own cc nL ret (wM g ad) inj z (grd i 6 res) σ pc lv (.int i :: .ref (aMoA ad 3) :: st) := v_iald (q0 := 4) rfl hd k
theorem sM_draughtOf {i x : Int32} (hd : decode cc pc = .ok (.iastore, 1)) (k : V g L K own cc nL ret (wM g ad) inj z res (tA σ 3 i.toNatClampNeg x) (pc + 1) lv st) : V g L K own cc nL ret (wM g ad) inj z (grd i 6 res) σ pc lv (.int x :: .int i :: .ref (aMoA ad 3) :: st) := v_iast (q0 := 4) rfl rfl hd k
theorem nM_draughtOf {v : Int32} (hv : Int32.ofNat 6 = v) (hd : decode cc pc = .ok (.arraylength, 1)) (k : V g L K own cc nL ret (wM g ad) inj z res σ (pc + 1) lv (.int v :: st)) : V g L K own cc nL ret (wM g ad) inj z res σ pc lv (.ref (aMoA ad 3) :: st) := v_alen (q0 := 4) (t0 := 0) rfl rfl hv hd k
theorem lM_lost {i : Int32} (hd : decode cc pc = .ok (.iaload, 1)) (k : V g L K own cc nL ret (wM g ad) inj z res σ (pc + 1) lv (.int (mA σ 4 i.toNatClampNeg) :: st)) : V g L K own cc nL ret (wM g ad) inj z (grd i 6 res) σ pc lv (.int i :: .ref (aMoA ad 4) :: st) := v_iald (q0 := 5) rfl hd k
theorem sM_lost {i x : Int32} (hd : decode cc pc = .ok (.iastore, 1)) (k : V g L K own cc nL ret (wM g ad) inj z res (tA σ 4 i.toNatClampNeg x) (pc + 1) lv st) : V g L K own cc nL ret (wM g ad) inj z (grd i 6 res) σ pc lv (.int x :: .int i :: .ref (aMoA ad 4) :: st) := v_iast (q0 := 5) rfl rfl hd k
theorem nM_lost {v : Int32} (hv : Int32.ofNat 6 = v) (hd : decode cc pc = .ok (.arraylength, 1)) (k : V g L K own cc nL ret (wM g ad) inj z res σ (pc + 1) lv (.int v :: st)) : V g L K own cc nL ret (wM g ad) inj z res σ pc lv (.ref (aMoA ad 4) :: st) := v_alen (q0 := 5) (t0 := 0) rfl rfl hv hd k
theorem lM_beliefs {i : Int32} (hd : decode cc pc = .ok (.iaload, 1)) (k : V g L K own cc nL ret (wM g ad) inj z res σ (pc + 1) lv (.int (mA σ 5 i.toNatClampNeg) :: st)) : V g L K own cc nL ret (wM g ad) inj z (grd i 36 res) σ pc lv (.int i :: .ref (aMoA ad 5) :: st) := v_iald (q0 := 6) rfl hd k
theorem sM_beliefs {i x : Int32} (hd : decode cc pc = .ok (.iastore, 1)) (k : V g L K own cc nL ret (wM g ad) inj z res (tA σ 5 i.toNatClampNeg x) (pc + 1) lv st) : V g L K own cc nL ret (wM g ad) inj z (grd i 36 res) σ pc lv (.int x :: .int i :: .ref (aMoA ad 5) :: st) := v_iast (q0 := 6) rfl rfl hd k
theorem nM_beliefs {v : Int32} (hv : Int32.ofNat 36 = v) (hd : decode cc pc = .ok (.arraylength, 1)) (k : V g L K own cc nL ret (wM g ad) inj z res σ (pc + 1) lv (.int v :: st)) : V g L K own cc nL ret (wM g ad) inj z res σ pc lv (.ref (aMoA ad 5) :: st) := v_alen (q0 := 6) (t0 := 0) rfl rfl hv hd k
theorem lM_tape {i : Int32} (hd : decode cc pc = .ok (.iaload, 1)) (k : V g L K own cc nL ret (wM g ad) inj z res σ (pc + 1) lv (.int (mA σ 6 i.toNatClampNeg) :: st)) : V g L K own cc nL ret (wM g ad) inj z (grd i 160 res) σ pc lv (.int i :: .ref (aMoA ad 6) :: st) := v_iald (q0 := 7) rfl hd k
theorem sM_tape {i x : Int32} (hd : decode cc pc = .ok (.iastore, 1)) (k : V g L K own cc nL ret (wM g ad) inj z res (tA σ 6 i.toNatClampNeg x) (pc + 1) lv st) : V g L K own cc nL ret (wM g ad) inj z (grd i 160 res) σ pc lv (.int x :: .int i :: .ref (aMoA ad 6) :: st) := v_iast (q0 := 7) rfl rfl hd k
theorem nM_tape {v : Int32} (hv : Int32.ofNat 160 = v) (hd : decode cc pc = .ok (.arraylength, 1)) (k : V g L K own cc nL ret (wM g ad) inj z res σ (pc + 1) lv (.int v :: st)) : V g L K own cc nL ret (wM g ad) inj z res σ pc lv (.ref (aMoA ad 6) :: st) := v_alen (q0 := 7) (t0 := 0) rfl rfl hv hd k
theorem lM_codes {i : Int32} (hd : decode cc pc = .ok (.iaload, 1)) (k : V g L K own cc nL ret (wM g ad) inj z res σ (pc + 1) lv (.int (mA σ 7 i.toNatClampNeg) :: st)) : V g L K own cc nL ret (wM g ad) inj z (grd i 1200 res) σ pc lv (.int i :: .ref (aMoA ad 7) :: st) := v_iald (q0 := 8) rfl hd k
theorem sM_codes {i x : Int32} (hd : decode cc pc = .ok (.iastore, 1)) (k : V g L K own cc nL ret (wM g ad) inj z res (tA σ 7 i.toNatClampNeg x) (pc + 1) lv st) : V g L K own cc nL ret (wM g ad) inj z (grd i 1200 res) σ pc lv (.int x :: .int i :: .ref (aMoA ad 7) :: st) := v_iast (q0 := 8) rfl rfl hd k
theorem nM_codes {v : Int32} (hv : Int32.ofNat 1200 = v) (hd : decode cc pc = .ok (.arraylength, 1)) (k : V g L K own cc nL ret (wM g ad) inj z res σ (pc + 1) lv (.int v :: st)) : V g L K own cc nL ret (wM g ad) inj z res σ pc lv (.ref (aMoA ad 7) :: st) := v_alen (q0 := 8) (t0 := 0) rfl rfl hv hd k
theorem lM_starts {i : Int32} (hd : decode cc pc = .ok (.iaload, 1)) (k : V g L K own cc nL ret (wM g ad) inj z res σ (pc + 1) lv (.int (mA σ 8 i.toNatClampNeg) :: st)) : V g L K own cc nL ret (wM g ad) inj z (grd i 24 res) σ pc lv (.int i :: .ref (aMoA ad 8) :: st) := v_iald (q0 := 9) rfl hd k
theorem sM_starts {i x : Int32} (hd : decode cc pc = .ok (.iastore, 1)) (k : V g L K own cc nL ret (wM g ad) inj z res (tA σ 8 i.toNatClampNeg x) (pc + 1) lv st) : V g L K own cc nL ret (wM g ad) inj z (grd i 24 res) σ pc lv (.int x :: .int i :: .ref (aMoA ad 8) :: st) := v_iast (q0 := 9) rfl rfl hd k
theorem nM_starts {v : Int32} (hv : Int32.ofNat 24 = v) (hd : decode cc pc = .ok (.arraylength, 1)) (k : V g L K own cc nL ret (wM g ad) inj z res σ (pc + 1) lv (.int v :: st)) : V g L K own cc nL ret (wM g ad) inj z res σ pc lv (.ref (aMoA ad 8) :: st) := v_alen (q0 := 9) (t0 := 0) rfl rfl hv hd k
theorem lM_imageRows {i : Int32} (hd : decode cc pc = .ok (.iaload, 1)) (k : V g L K own cc nL ret (wM g ad) inj z res σ (pc + 1) lv (.int (mA σ 9 i.toNatClampNeg) :: st)) : V g L K own cc nL ret (wM g ad) inj z (grd i 54 res) σ pc lv (.int i :: .ref (aMoA ad 9) :: st) := v_iald (q0 := 10) rfl hd k
theorem sM_imageRows {i x : Int32} (hd : decode cc pc = .ok (.iastore, 1)) (k : V g L K own cc nL ret (wM g ad) inj z res (tA σ 9 i.toNatClampNeg x) (pc + 1) lv st) : V g L K own cc nL ret (wM g ad) inj z (grd i 54 res) σ pc lv (.int x :: .int i :: .ref (aMoA ad 9) :: st) := v_iast (q0 := 10) rfl rfl hd k
theorem nM_imageRows {v : Int32} (hv : Int32.ofNat 54 = v) (hd : decode cc pc = .ok (.arraylength, 1)) (k : V g L K own cc nL ret (wM g ad) inj z res σ (pc + 1) lv (.int v :: st)) : V g L K own cc nL ret (wM g ad) inj z res σ pc lv (.ref (aMoA ad 9) :: st) := v_alen (q0 := 10) (t0 := 0) rfl rfl hv hd k
theorem lM_imageHeld {i : Int32} (hd : decode cc pc = .ok (.iaload, 1)) (k : V g L K own cc nL ret (wM g ad) inj z res σ (pc + 1) lv (.int (mA σ 10 i.toNatClampNeg) :: st)) : V g L K own cc nL ret (wM g ad) inj z (grd i 4 res) σ pc lv (.int i :: .ref (aMoA ad 10) :: st) := v_iald (q0 := 11) rfl hd k
theorem sM_imageHeld {i x : Int32} (hd : decode cc pc = .ok (.iastore, 1)) (k : V g L K own cc nL ret (wM g ad) inj z res (tA σ 10 i.toNatClampNeg x) (pc + 1) lv st) : V g L K own cc nL ret (wM g ad) inj z (grd i 4 res) σ pc lv (.int x :: .int i :: .ref (aMoA ad 10) :: st) := v_iast (q0 := 11) rfl rfl hd k
theorem nM_imageHeld {v : Int32} (hv : Int32.ofNat 4 = v) (hd : decode cc pc = .ok (.arraylength, 1)) (k : V g L K own cc nL ret (wM g ad) inj z res σ (pc + 1) lv (.int v :: st)) : V g L K own cc nL ret (wM g ad) inj z res σ pc lv (.ref (aMoA ad 10) :: st) := v_alen (q0 := 11) (t0 := 0) rfl rfl hv hd k
theorem lM_sheetSort {i : Int32} (hd : decode cc pc = .ok (.iaload, 1)) (k : V g L K own cc nL ret (wM g ad) inj z res σ (pc + 1) lv (.int (mA σ 11 i.toNatClampNeg) :: st)) : V g L K own cc nL ret (wM g ad) inj z (grd i 4 res) σ pc lv (.int i :: .ref (aMoA ad 11) :: st) := v_iald (q0 := 12) rfl hd k
theorem sM_sheetSort {i x : Int32} (hd : decode cc pc = .ok (.iastore, 1)) (k : V g L K own cc nL ret (wM g ad) inj z res (tA σ 11 i.toNatClampNeg x) (pc + 1) lv st) : V g L K own cc nL ret (wM g ad) inj z (grd i 4 res) σ pc lv (.int x :: .int i :: .ref (aMoA ad 11) :: st) := v_iast (q0 := 12) rfl rfl hd k
theorem nM_sheetSort {v : Int32} (hv : Int32.ofNat 4 = v) (hd : decode cc pc = .ok (.arraylength, 1)) (k : V g L K own cc nL ret (wM g ad) inj z res σ (pc + 1) lv (.int v :: st)) : V g L K own cc nL ret (wM g ad) inj z res σ pc lv (.ref (aMoA ad 11) :: st) := v_alen (q0 := 12) (t0 := 0) rfl rfl hv hd k
theorem lM_sheetSize {i : Int32} (hd : decode cc pc = .ok (.iaload, 1)) (k : V g L K own cc nL ret (wM g ad) inj z res σ (pc + 1) lv (.int (mA σ 12 i.toNatClampNeg) :: st)) : V g L K own cc nL ret (wM g ad) inj z (grd i 4 res) σ pc lv (.int i :: .ref (aMoA ad 12) :: st) := v_iald (q0 := 13) rfl hd k
theorem sM_sheetSize {i x : Int32} (hd : decode cc pc = .ok (.iastore, 1)) (k : V g L K own cc nL ret (wM g ad) inj z res (tA σ 12 i.toNatClampNeg x) (pc + 1) lv st) : V g L K own cc nL ret (wM g ad) inj z (grd i 4 res) σ pc lv (.int x :: .int i :: .ref (aMoA ad 12) :: st) := v_iast (q0 := 13) rfl rfl hd k
theorem nM_sheetSize {v : Int32} (hv : Int32.ofNat 4 = v) (hd : decode cc pc = .ok (.arraylength, 1)) (k : V g L K own cc nL ret (wM g ad) inj z res σ (pc + 1) lv (.int v :: st)) : V g L K own cc nL ret (wM g ad) inj z res σ pc lv (.ref (aMoA ad 12) :: st) := v_alen (q0 := 13) (t0 := 0) rfl rfl hv hd k
theorem lM_cells {i : Int32} (hd : decode cc pc = .ok (.iaload, 1)) (k : V g L K own cc nL ret (wM g ad) inj z res σ (pc + 1) lv (.int (mA σ 13 i.toNatClampNeg) :: st)) : V g L K own cc nL ret (wM g ad) inj z (grd i 160 res) σ pc lv (.int i :: .ref (aMoA ad 13) :: st) := v_iald (q0 := 14) rfl hd k
theorem sM_cells {i x : Int32} (hd : decode cc pc = .ok (.iastore, 1)) (k : V g L K own cc nL ret (wM g ad) inj z res (tA σ 13 i.toNatClampNeg x) (pc + 1) lv st) : V g L K own cc nL ret (wM g ad) inj z (grd i 160 res) σ pc lv (.int x :: .int i :: .ref (aMoA ad 13) :: st) := v_iast (q0 := 14) rfl rfl hd k
theorem nM_cells {v : Int32} (hv : Int32.ofNat 160 = v) (hd : decode cc pc = .ok (.arraylength, 1)) (k : V g L K own cc nL ret (wM g ad) inj z res σ (pc + 1) lv (.int v :: st)) : V g L K own cc nL ret (wM g ad) inj z res σ pc lv (.ref (aMoA ad 13) :: st) := v_alen (q0 := 14) (t0 := 0) rfl rfl hv hd k
theorem lM_law {i : Int32} (hd : decode cc pc = .ok (.iaload, 1)) (k : V g L K own cc nL ret (wM g ad) inj z res σ (pc + 1) lv (.int (mA σ 14 i.toNatClampNeg) :: st)) : V g L K own cc nL ret (wM g ad) inj z (grd i 60 res) σ pc lv (.int i :: .ref (aMoA ad 14) :: st) := v_iald (q0 := 15) rfl hd k
theorem sM_law {i x : Int32} (hd : decode cc pc = .ok (.iastore, 1)) (k : V g L K own cc nL ret (wM g ad) inj z res (tA σ 14 i.toNatClampNeg x) (pc + 1) lv st) : V g L K own cc nL ret (wM g ad) inj z (grd i 60 res) σ pc lv (.int x :: .int i :: .ref (aMoA ad 14) :: st) := v_iast (q0 := 15) rfl rfl hd k
theorem nM_law {v : Int32} (hv : Int32.ofNat 60 = v) (hd : decode cc pc = .ok (.arraylength, 1)) (k : V g L K own cc nL ret (wM g ad) inj z res σ (pc + 1) lv (.int v :: st)) : V g L K own cc nL ret (wM g ad) inj z res σ pc lv (.ref (aMoA ad 14) :: st) := v_alen (q0 := 15) (t0 := 0) rfl rfl hv hd k
theorem lM_words {i : Int32} (hd : decode cc pc = .ok (.iaload, 1)) (k : V g L K own cc nL ret (wM g ad) inj z res σ (pc + 1) lv (.int (mA σ 15 i.toNatClampNeg) :: st)) : V g L K own cc nL ret (wM g ad) inj z (grd i 96 res) σ pc lv (.int i :: .ref (aMoA ad 15) :: st) := v_iald (q0 := 16) rfl hd k
theorem sM_words {i x : Int32} (hd : decode cc pc = .ok (.iastore, 1)) (k : V g L K own cc nL ret (wM g ad) inj z res (tA σ 15 i.toNatClampNeg x) (pc + 1) lv st) : V g L K own cc nL ret (wM g ad) inj z (grd i 96 res) σ pc lv (.int x :: .int i :: .ref (aMoA ad 15) :: st) := v_iast (q0 := 16) rfl rfl hd k
theorem nM_words {v : Int32} (hv : Int32.ofNat 96 = v) (hd : decode cc pc = .ok (.arraylength, 1)) (k : V g L K own cc nL ret (wM g ad) inj z res σ (pc + 1) lv (.int v :: st)) : V g L K own cc nL ret (wM g ad) inj z res σ pc lv (.ref (aMoA ad 15) :: st) := v_alen (q0 := 16) (t0 := 0) rfl rfl hv hd k
theorem lM_held {i : Int32} (hd : decode cc pc = .ok (.iaload, 1)) (k : V g L K own cc nL ret (wM g ad) inj z res σ (pc + 1) lv (.int (mA σ 16 i.toNatClampNeg) :: st)) : V g L K own cc nL ret (wM g ad) inj z (grd i 200 res) σ pc lv (.int i :: .ref (aMoA ad 16) :: st) := v_iald (q0 := 17) rfl hd k
theorem sM_held {i x : Int32} (hd : decode cc pc = .ok (.iastore, 1)) (k : V g L K own cc nL ret (wM g ad) inj z res (tA σ 16 i.toNatClampNeg x) (pc + 1) lv st) : V g L K own cc nL ret (wM g ad) inj z (grd i 200 res) σ pc lv (.int x :: .int i :: .ref (aMoA ad 16) :: st) := v_iast (q0 := 17) rfl rfl hd k
theorem nM_held {v : Int32} (hv : Int32.ofNat 200 = v) (hd : decode cc pc = .ok (.arraylength, 1)) (k : V g L K own cc nL ret (wM g ad) inj z res σ (pc + 1) lv (.int v :: st)) : V g L K own cc nL ret (wM g ad) inj z res σ pc lv (.ref (aMoA ad 16) :: st) := v_alen (q0 := 17) (t0 := 0) rfl rfl hv hd k
theorem lM_stack {i : Int32} (hd : decode cc pc = .ok (.iaload, 1)) (k : V g L K own cc nL ret (wM g ad) inj z res σ (pc + 1) lv (.int (mA σ 17 i.toNatClampNeg) :: st)) : V g L K own cc nL ret (wM g ad) inj z (grd i 200 res) σ pc lv (.int i :: .ref (aMoA ad 17) :: st) := v_iald (q0 := 18) rfl hd k
theorem sM_stack {i x : Int32} (hd : decode cc pc = .ok (.iastore, 1)) (k : V g L K own cc nL ret (wM g ad) inj z res (tA σ 17 i.toNatClampNeg x) (pc + 1) lv st) : V g L K own cc nL ret (wM g ad) inj z (grd i 200 res) σ pc lv (.int x :: .int i :: .ref (aMoA ad 17) :: st) := v_iast (q0 := 18) rfl rfl hd k
theorem nM_stack {v : Int32} (hv : Int32.ofNat 200 = v) (hd : decode cc pc = .ok (.arraylength, 1)) (k : V g L K own cc nL ret (wM g ad) inj z res σ (pc + 1) lv (.int v :: st)) : V g L K own cc nL ret (wM g ad) inj z res σ pc lv (.ref (aMoA ad 17) :: st) := v_alen (q0 := 18) (t0 := 0) rfl rfl hv hd k
theorem lM_named {i : Int32} (hd : decode cc pc = .ok (.iaload, 1)) (k : V g L K own cc nL ret (wM g ad) inj z res σ (pc + 1) lv (.int (mA σ 18 i.toNatClampNeg) :: st)) : V g L K own cc nL ret (wM g ad) inj z (grd i 6 res) σ pc lv (.int i :: .ref (aMoA ad 18) :: st) := v_iald (q0 := 19) rfl hd k
theorem sM_named {i x : Int32} (hd : decode cc pc = .ok (.iastore, 1)) (k : V g L K own cc nL ret (wM g ad) inj z res (tA σ 18 i.toNatClampNeg x) (pc + 1) lv st) : V g L K own cc nL ret (wM g ad) inj z (grd i 6 res) σ pc lv (.int x :: .int i :: .ref (aMoA ad 18) :: st) := v_iast (q0 := 19) rfl rfl hd k
theorem nM_named {v : Int32} (hv : Int32.ofNat 6 = v) (hd : decode cc pc = .ok (.arraylength, 1)) (k : V g L K own cc nL ret (wM g ad) inj z res σ (pc + 1) lv (.int v :: st)) : V g L K own cc nL ret (wM g ad) inj z res σ pc lv (.ref (aMoA ad 18) :: st) := v_alen (q0 := 19) (t0 := 0) rfl rfl hv hd k
theorem lM_kept {i : Int32} (hd : decode cc pc = .ok (.iaload, 1)) (k : V g L K own cc nL ret (wM g ad) inj z res σ (pc + 1) lv (.int (mA σ 19 i.toNatClampNeg) :: st)) : V g L K own cc nL ret (wM g ad) inj z (grd i 50 res) σ pc lv (.int i :: .ref (aMoA ad 19) :: st) := v_iald (q0 := 20) rfl hd k
theorem sM_kept {i x : Int32} (hd : decode cc pc = .ok (.iastore, 1)) (k : V g L K own cc nL ret (wM g ad) inj z res (tA σ 19 i.toNatClampNeg x) (pc + 1) lv st) : V g L K own cc nL ret (wM g ad) inj z (grd i 50 res) σ pc lv (.int x :: .int i :: .ref (aMoA ad 19) :: st) := v_iast (q0 := 20) rfl rfl hd k
theorem nM_kept {v : Int32} (hv : Int32.ofNat 50 = v) (hd : decode cc pc = .ok (.arraylength, 1)) (k : V g L K own cc nL ret (wM g ad) inj z res σ (pc + 1) lv (.int v :: st)) : V g L K own cc nL ret (wM g ad) inj z res σ pc lv (.ref (aMoA ad 19) :: st) := v_alen (q0 := 20) (t0 := 0) rfl rfl hv hd k
theorem rcX5 : RC (wM g ad) σ (aMo ad) RX5 := ⟨0, 5, _, _, rfl, rfl, rfl⟩
end WROWSM
