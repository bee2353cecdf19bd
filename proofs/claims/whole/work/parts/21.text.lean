
set_option maxRecDepth 4000 in
theorem lits : ((0 : Int32) = nI 0) ∧ ((1 : Int32) = nI 1) ∧ ((2 : Int32) = nI 2) ∧ ((3 : Int32) = nI 3) ∧ ((4 : Int32) = nI 4) ∧ ((5 : Int32) = nI 5) ∧ ((6 : Int32) = nI 6) ∧ ((7 : Int32) = nI 7) ∧ ((8 : Int32) = nI 8) ∧ ((9 : Int32) = nI 9) ∧ ((10 : Int32) = nI 10) ∧ ((11 : Int32) = nI 11) ∧ ((12 : Int32) = nI 12) ∧ ((13 : Int32) = nI 13) ∧ ((14 : Int32) = nI 14) ∧ ((15 : Int32) = nI 15) ∧ ((16 : Int32) = nI 16) ∧ ((17 : Int32) = nI 17) ∧ ((18 : Int32) = nI 18) ∧ ((19 : Int32) = nI 19) ∧ ((20 : Int32) = nI 20) ∧ ((21 : Int32) = nI 21) ∧ ((22 : Int32) = nI 22) ∧ ((23 : Int32) = nI 23) ∧ ((24 : Int32) = nI 24) ∧ ((25 : Int32) = nI 25) ∧ ((26 : Int32) = nI 26) ∧ ((27 : Int32) = nI 27) ∧ ((28 : Int32) = nI 28) ∧ ((29 : Int32) = nI 29) ∧ ((30 : Int32) = nI 30) ∧ ((31 : Int32) = nI 31) ∧ ((32 : Int32) = nI 32) ∧ ((33 : Int32) = nI 33) ∧ ((34 : Int32) = nI 34) ∧ ((35 : Int32) = nI 35) ∧ ((36 : Int32) = nI 36) ∧ ((37 : Int32) = nI 37) ∧ ((38 : Int32) = nI 38) ∧ ((39 : Int32) = nI 39) ∧ ((40 : Int32) = nI 40) ∧ ((41 : Int32) = nI 41) ∧ ((42 : Int32) = nI 42) ∧ ((43 : Int32) = nI 43) ∧ ((44 : Int32) = nI 44) ∧ ((45 : Int32) = nI 45) ∧ ((46 : Int32) = nI 46) ∧ ((47 : Int32) = nI 47) ∧ ((48 : Int32) = nI 48) ∧ ((49 : Int32) = nI 49) ∧ ((50 : Int32) = nI 50) ∧ ((51 : Int32) = nI 51) ∧ ((52 : Int32) = nI 52) ∧ ((53 : Int32) = nI 53) ∧ ((54 : Int32) = nI 54) ∧ ((55 : Int32) = nI 55) ∧ ((56 : Int32) = nI 56) ∧ ((57 : Int32) = nI 57) ∧ ((58 : Int32) = nI 58) ∧ ((59 : Int32) = nI 59) ∧ ((60 : Int32) = nI 60) ∧ ((61 : Int32) = nI 61) ∧ ((62 : Int32) = nI 62) ∧ ((63 : Int32) = nI 63) ∧ ((64 : Int32) = nI 64) ∧ ((65 : Int32) = nI 65) ∧ ((90 : Int32) = nI 90) ∧ ((97 : Int32) = nI 97) ∧ ((98 : Int32) = nI 98) ∧ ((99 : Int32) = nI 99) ∧ ((100 : Int32) = nI 100) ∧ ((122 : Int32) = nI 122) ∧ ((160 : Int32) = nI 160) ∧ ((200 : Int32) = nI 200) ∧ ((255 : Int32) = nI 255) ∧ ((400 : Int32) = nI 400) ∧ ((500 : Int32) = nI 500) ∧ ((999 : Int32) = nI 999) ∧ ((1000 : Int32) = nI 1000) ∧ ((1200 : Int32) = nI 1200) ∧ ((3599 : Int32) = nI 3599) ∧ ((9999 : Int32) = nI 9999) ∧ ((99999 : Int32) = nI 99999) ∧ ((100000 : Int32) = nI 100000) := by
  refine ⟨rfl, rfl, rfl, rfl, rfl, rfl, rfl, rfl, rfl, rfl, rfl, rfl, rfl, rfl, rfl, rfl, rfl, rfl, rfl, rfl, rfl, rfl, rfl, rfl, rfl, rfl, rfl, rfl, rfl, rfl, rfl, rfl, rfl, rfl, rfl, rfl, rfl, rfl, rfl, rfl, rfl, rfl, rfl, rfl, rfl, rfl, rfl, rfl, rfl, rfl, rfl, rfl, rfl, rfl, rfl, rfl, rfl, rfl, rfl, rfl, rfl, rfl, rfl, rfl, rfl, rfl, rfl, rfl, rfl, rfl, rfl, rfl, rfl, rfl, rfl, rfl, rfl, rfl, rfl, rfl, rfl, rfl, rfl, rfl⟩

def jn (s a b : Int32) : Int32 := if s = -12 then a - b else if s = -11 then a + b else if s = -10 then (if a = b then 1 else 0) else if s = -9 then (if a < b then 1 else 0) else if s = -8 then (if a ≠ 0 ∧ b ≠ 0 then 1 else 0) else if s = -7 then (if a ≠ 0 ∨ b ≠ 0 then 1 else 0) else a * b
theorem lt_of_nle {a b : Int32} (h : ¬ a ≤ b) : b < a := by
  rw [Int32.le_iff_toInt_le] at h
  rw [Int32.lt_iff_toInt_lt]; omega
theorem nlt_of_le {a b : Int32} (h : a ≤ b) : ¬ b < a := by
  rw [Int32.le_iff_toInt_le] at h
  rw [Int32.lt_iff_toInt_lt]; omega
theorem joined_eq (s a b : Int32) (σ : GX) : f_X0_joined s a b σ = some (jn s a b, σ) := by
  unfold f_X0_joined jn
  by_cases h1 : s = -12
  · rw [if_pos h1, if_pos h1]
  · rw [if_neg h1, if_neg h1]
    by_cases h2 : s = -11
    · rw [if_pos h2, if_pos h2]
    · rw [if_neg h2, if_neg h2]
      by_cases h3 : s = -10
      · rw [if_pos h3, if_pos h3]
        by_cases h : a = b
        · rw [if_neg (by simp [h]), if_pos h]
        · rw [if_pos h, if_neg h]
      · rw [if_neg h3, if_neg h3]
        by_cases h4 : s = -9
        · rw [if_pos h4, if_pos h4]
          by_cases h : b ≤ a
          · rw [if_pos h, if_neg (nlt_of_le h)]
          · rw [if_neg h, if_pos (lt_of_nle h)]
        · rw [if_neg h4, if_neg h4]
          by_cases h5 : s = -8
          · rw [if_pos h5, if_pos h5]
            by_cases ha : a = 0
            · rw [if_pos ha, if_neg (by simp [ha])]
            · by_cases hb : b = 0
              · rw [if_neg ha, if_pos hb, if_neg (by simp [hb])]
              · rw [if_neg ha, if_neg hb, if_pos ⟨ha, hb⟩]
          · rw [if_neg h5, if_neg h5]
            by_cases h6 : s = -7
            · rw [if_pos h6, if_pos h6]
              by_cases ha : a = 0
              · by_cases hb : b = 0
                · rw [if_neg (by simp [ha]), if_pos hb, if_neg (by simp [ha, hb])]
                · rw [if_neg (by simp [ha]), if_neg hb, if_pos (Or.inr hb)]
              · rw [if_pos ha, if_pos (Or.inl ha)]
            · rw [if_neg h6, if_neg h6]
def nmX (x : GX) (y cc : Nat) (dr s : Int32) : Int32 := if s = -5 then xS x y 2 else if s = -4 then xS x y 3 else if s = -3 then nI cc / 6 else if s = -2 then rI (nI cc) 6 else if s = -1 then xB x y 0 cc else dr
theorem named_eq {cc : Nat} (h : cc < 36) (y : Nat) (s dr : Int32) (σ : GX) : f_X0_named y s (nI cc) dr σ = some (nmX σ y cc dr s, σ) := by
  unfold f_X0_named nmX
  rw [grd_ok _ h (by decide), nI_clamp (by omega)]
  repeat' split
  all_goals first | rfl | simp_all
def pvX (x : GX) (y cc : Nat) (dr s : Int32) : Int32 := if s < 0 then nmX x y cc dr s else s
theorem ofint (x : Int32) (z : Int) : x = Int32.ofInt z → x = Int32.ofInt z := id
/-- one step of worth: a push -/
theorem wX_P {x : GX} {t y p cc e i d : Nat} {dr : Int32} {u : Nat → Nat → Int32} (F : Nat) (hc : cc < 36) (hp : p < 3) (he : xU x t 2 p = nI e) (hie : i < e) (he2 : e ≤ 160) (hd : d < 160) (hS : (-6 : Int32) ≤ xU x t 0 i) :
    k_X0_worth_32 t y (F + 1) (nI p) (nI cc) dr (nI d) (nI i) (wst x u) = k_X0_worth_32 t y F (nI p) (nI cc) dr (nI (d + 1)) (nI (i + 1)) (wst x (up u t (upd (u t) d (pvX x y cc dr (xU x t 0 i))))) := by
  show b_X0_worth_32 t y (k_X0_worth_32 t y F) (nI p) (nI cc) dr (nI d) (nI i) (wst x u) = _
  unfold b_X0_worth_32
  simp (disch := omega) only [lits, grd_ok, nI_clamp, wst_U2, wst_U0, he, le_nI, lt_nI, if_pos, if_neg, bnd_some, nIs]
  rw [if_neg (show ¬ xU x t 0 i < -nI 6 from nlt_of_le hS)]
  unfold pvX
  by_cases h0 : xU x t 0 i < 0
  · rw [if_pos (show xU x t 0 i < nI 0 from h0), if_pos h0, named_eq hc, bnd_some, sU_wst]
    rfl
  · rw [if_neg (show ¬ xU x t 0 i < nI 0 from h0), if_neg h0, sU_wst]

theorem dec_nI {d : Nat} (h : 1 ≤ d) : nI d + -nI 1 = nI (d - 1) := by
  obtain ⟨k, rfl⟩ : ∃ k, d = k + 1 := ⟨d - 1, by omega⟩
  exact pk_m1 k
def unS (s a : Int32) : Int32 := if s = -15 then -a else if a = 0 then 1 else 0
theorem wX_U {x : GX} {t y p cc e i d : Nat} {dr : Int32} {u : Nat → Nat → Int32} (F : Nat) (hp : p < 3) (he : xU x t 2 p = nI e) (hie : i < e) (he2 : e ≤ 160) (hd1 : 1 ≤ d) (hd : d ≤ 160) (hS : ¬ (-6 : Int32) ≤ xU x t 0 i) (hS2 : xU x t 0 i ≤ (-14 : Int32)) :
    k_X0_worth_32 t y (F + 1) (nI p) (nI cc) dr (nI d) (nI i) (wst x u) = k_X0_worth_32 t y F (nI p) (nI cc) dr (nI d) (nI (i + 1)) (wst x (up u t (upd (u t) (d - 1) (unS (xU x t 0 i) (u t (d - 1)))))) := by
  show b_X0_worth_32 t y (k_X0_worth_32 t y F) (nI p) (nI cc) dr (nI d) (nI i) (wst x u) = _
  unfold b_X0_worth_32
  simp (disch := omega) only [lits, grd_ok, nI_clamp, wst_U2, wst_U0, wst_U1, he, le_nI, lt_nI, if_pos, if_neg, bnd_some, nIs, sub_nI]
  rw [if_pos (show xU x t 0 i < -nI 6 from lt_of_nle hS), if_neg (show ¬ -nI 14 < xU x t 0 i from nlt_of_le hS2)]
  unfold unS
  by_cases h1 : xU x t 0 i = -15
  · rw [if_neg (show ¬ xU x t 0 i ≠ -nI 15 from fun q => q h1), if_pos h1, sU_wst]
  · rw [if_pos (show xU x t 0 i ≠ -nI 15 from h1), if_neg h1]
    by_cases h2 : u t (d - 1) = 0
    · rw [if_neg (show ¬ u t (d - 1) ≠ nI 0 from fun q => q h2), if_pos h2, sU_wst]; rfl
    · rw [if_pos (show u t (d - 1) ≠ nI 0 from h2), if_neg h2, sU_wst]; rfl
theorem wX_B {x : GX} {t y p cc e i d : Nat} {dr : Int32} {u : Nat → Nat → Int32} (F : Nat) (hp : p < 3) (he : xU x t 2 p = nI e) (hie : i < e) (he2 : e ≤ 160) (hd1 : 2 ≤ d) (hd : d ≤ 160) (hS : ¬ (-6 : Int32) ≤ xU x t 0 i) (hS2 : ¬ xU x t 0 i ≤ (-14 : Int32)) :
    k_X0_worth_32 t y (F + 1) (nI p) (nI cc) dr (nI d) (nI i) (wst x u) = k_X0_worth_32 t y F (nI p) (nI cc) dr (nI (d - 1)) (nI (i + 1)) (wst x (up u t (upd (u t) (d - 2) (jn (xU x t 0 i) (u t (d - 2)) (u t (d - 1)))))) := by
  show b_X0_worth_32 t y (k_X0_worth_32 t y F) (nI p) (nI cc) dr (nI d) (nI i) (wst x u) = _
  unfold b_X0_worth_32
  simp (disch := omega) only [lits, grd_ok, nI_clamp, wst_U2, wst_U0, wst_U1, he, le_nI, lt_nI, if_pos, if_neg, bnd_some, nIs, sub_nI, dec_nI]
  rw [if_pos (show xU x t 0 i < -nI 6 from lt_of_nle hS), if_pos (show -nI 14 < xU x t 0 i from lt_of_nle hS2)]
  rw [joined_eq, bnd_some, sU_wst, show d - 1 - 1 = d - 2 by omega]
theorem wX_end {x : GX} {t y p cc e i d : Nat} {dr : Int32} {u : Nat → Nat → Int32} (F : Nat) (hp : p < 3) (he : xU x t 2 p = nI e) (hie : e ≤ i) (hi : i ≤ 160) (hd1 : 1 ≤ d) (hd : d ≤ 160) :
    k_X0_worth_32 t y (F + 1) (nI p) (nI cc) dr (nI d) (nI i) (wst x u) = some (u t 0, wst x u) := by
  show b_X0_worth_32 t y (k_X0_worth_32 t y F) (nI p) (nI cc) dr (nI d) (nI i) (wst x u) = _
  unfold b_X0_worth_32 b_X0_worth_221
  simp (disch := omega) only [lits, grd_ok, nI_clamp, wst_U2, wst_U0, wst_U1, he, le_nI, lt_nI, if_pos, if_neg, bnd_some, nIs, sub_nI, dec_nI]
/-! the reference's side -/
def nmM (w : Nat → Int32) (s : Int32) : Int32 := if s = -1 then w 0 else if s = -2 then w 1 else if s = -3 then w 2 else if s = -4 then w 3 else if s = -5 then w 4 else w 5
def pvM (w : Nat → Int32) (s : Int32) : Int32 := if s < 0 then nmM w s else s

theorem big_le {k : Nat} (hk : k ≤ 9999) : (-6 : Int32) ≤ nI k := by
  rw [Int32.le_iff_toInt_le, nI_toInt (by omega), show (-6 : Int32).toInt = -6 from by decide]; omega

theorem two_11 (a b : Int32) (m : GM) : f_X5_two 11 a b m = some (jn (-7) a b, m) := by
  have e1 : f_X5_two 11 a b m = if a ≠ 0 then some (1, m) else if b = 0 then some (0, m) else some (1, m) := rfl
  have e2 : jn (-7) a b = if a ≠ 0 ∨ b ≠ 0 then 1 else 0 := rfl
  rw [e1, e2]
  by_cases ha : a = 0
  · by_cases hb : b = 0
    · rw [if_neg (by simp [ha]), if_pos hb, if_neg (by simp [ha, hb])]
    · rw [if_neg (by simp [ha]), if_neg hb, if_pos (Or.inr hb)]
  · rw [if_pos ha, if_pos (Or.inl ha)]
theorem two_12 (a b : Int32) (m : GM) : f_X5_two 12 a b m = some (jn (-8) a b, m) := by
  have e1 : f_X5_two 12 a b m = if a = 0 then some (0, m) else if b = 0 then some (0, m) else some (1, m) := rfl
  have e2 : jn (-8) a b = if a ≠ 0 ∧ b ≠ 0 then 1 else 0 := rfl
  rw [e1, e2]
  by_cases ha : a = 0
  · rw [if_pos ha, if_neg (by simp [ha])]
  · by_cases hb : b = 0
    · rw [if_neg ha, if_pos hb, if_neg (by simp [hb])]
    · rw [if_neg ha, if_neg hb, if_pos ⟨ha, hb⟩]
theorem two_14 (a b : Int32) (m : GM) : f_X5_two 14 a b m = some (jn (-9) a b, m) := by
  have e1 : f_X5_two 14 a b m = if b ≤ a then some (0, m) else some (1, m) := rfl
  have e2 : jn (-9) a b = if a < b then 1 else 0 := rfl
  rw [e1, e2]
  by_cases h : b ≤ a
  · rw [if_pos h, if_neg (nlt_of_le h)]
  · rw [if_neg h, if_pos (lt_of_nle h)]
theorem two_15 (a b : Int32) (m : GM) : f_X5_two 15 a b m = some (jn (-10) a b, m) := by
  have e1 : f_X5_two 15 a b m = if a ≠ b then some (0, m) else some (1, m) := rfl
  have e2 : jn (-10) a b = if a = b then 1 else 0 := rfl
  rw [e1, e2]
  by_cases h : a = b
  · rw [if_neg (by simp [h]), if_pos h]
  · rw [if_pos h, if_neg h]
theorem two_16 (a b : Int32) (m : GM) : f_X5_two 16 a b m = some (jn (-11) a b, m) := rfl
theorem two_17 (a b : Int32) (m : GM) : f_X5_two 17 a b m = some (jn (-12) a b, m) := rfl
theorem two_18 (a b : Int32) (m : GM) : f_X5_two 18 a b m = some (jn (-13) a b, m) := rfl
theorem two_eq {s : Int32} (h1 : (-15 : Int32) ≤ s) (h2 : s ≤ 9999) (hS : ¬ (-6 : Int32) ≤ s) (hS2 : ¬ s ≤ (-14 : Int32)) (a b : Int32) (m : GM) : f_X5_two (enc s) a b m = some (jn s a b, m) := by
  rcases step_cases h1 h2 with ⟨k, hk, rfl⟩ | rfl | rfl | rfl | rfl | rfl | rfl | rfl | rfl | rfl | rfl | rfl | rfl | rfl | rfl | rfl
  · exact absurd (big_le hk) hS
  · exact absurd (by decide) hS
  · exact absurd (by decide) hS
  · exact absurd (by decide) hS
  · exact absurd (by decide) hS
  · exact absurd (by decide) hS
  · exact absurd (by decide) hS
  · rw [show enc (-7) = 11 from by decide]; exact two_11 a b m
  · rw [show enc (-8) = 12 from by decide]; exact two_12 a b m
  · rw [show enc (-9) = 14 from by decide]; exact two_14 a b m
  · rw [show enc (-10) = 15 from by decide]; exact two_15 a b m
  · rw [show enc (-11) = 16 from by decide]; exact two_16 a b m
  · rw [show enc (-12) = 17 from by decide]; exact two_17 a b m
  · rw [show enc (-13) = 18 from by decide]; exact two_18 a b m
  · exact absurd (by decide) hS2
  · exact absurd (by decide) hS2
theorem enc_nI {k : Nat} (hk : k ≤ 9999) : enc (nI k) = nI (k + 100000) := by
  unfold enc
  rw [if_pos (show (0 : Int32) ≤ nI k from nI_pos' (by omega))]
  exact nI_add k 100000
/-- a step's code is in its range -/
theorem enc_B {s : Int32} (h1 : (-15 : Int32) ≤ s) (h2 : s ≤ 9999) (hS : ¬ (-6 : Int32) ≤ s) (hS2 : ¬ s ≤ (-14 : Int32)) : ¬ (nI 100000 ≤ enc s) ∧ nI 11 ≤ enc s ∧ enc s ≠ nI 13 ∧ enc s ≠ nI 19 := by
  rcases step_cases h1 h2 with ⟨k, hk, rfl⟩ | rfl | rfl | rfl | rfl | rfl | rfl | rfl | rfl | rfl | rfl | rfl | rfl | rfl | rfl | rfl
  · exact absurd (big_le hk) hS
  all_goals first
    | exact absurd (by decide) hS
    | exact absurd (by decide) hS2
    | decide
theorem enc_U {s : Int32} (h1 : (-15 : Int32) ≤ s) (hS2 : s ≤ (-14 : Int32)) : (s = -14 ∧ enc s = nI 13) ∨ (s = -15 ∧ enc s = nI 19) := by
  have h2 : s ≤ (9999 : Int32) := by
    rw [Int32.le_iff_toInt_le] at hS2 ⊢
    rw [show (-14 : Int32).toInt = -14 from by decide] at hS2
    rw [show (9999 : Int32).toInt = 9999 from by decide]
    omega
  rcases step_cases h1 h2 with ⟨k, hk, rfl⟩ | rfl | rfl | rfl | rfl | rfl | rfl | rfl | rfl | rfl | rfl | rfl | rfl | rfl | rfl | rfl
  · exfalso
    rw [Int32.le_iff_toInt_le, nI_toInt (by omega), show (-14 : Int32).toInt = -14 from by decide] at hS2
    omega
  all_goals first
    | exact absurd hS2 (by decide)
    | exact Or.inl ⟨rfl, by decide⟩
    | exact Or.inr ⟨rfl, by decide⟩
/-- what the reference's says needs of its state -/
theorem mM_head {m : GM} {t p e i d F : Nat} {v w : Nat → Int32} (ht : mI m 5 = nI t) (ht6 : t < 6) (hp : p < 3) (he : mA m 8 (4 * t + (p + 1)) = nI e) (hie : i < e) (he2 : e ≤ 160) :
    k_X5_says_16 (F + 1) (nI p) (nI d) (nI i) (wm m v w) = bnd (some (mA m 7 (200 * t + i))) (fun w2 => if (100000 : Int32) ≤ w2 then b_X5_says_66 (k_X5_says_16 F) (nI p) (nI d) (nI i) w2 (wm m v w) else (if (11 : Int32) ≤ w2 then (if w2 ≠ (13 : Int32) then (if w2 ≠ (19 : Int32) then (grd (nI d + (-1 : Int32) - (1 : Int32)) 200 (grd (nI d + (-1 : Int32)) 200 (bnd (f_X5_two w2 (v (nI d + (-1 : Int32) - (1 : Int32)).toNatClampNeg) (v (nI d + (-1 : Int32)).toNatClampNeg) (wm m v w)) fun q5 => grd (nI d + (-1 : Int32) - (1 : Int32)) 200 (bnd (some (tA q5.2 17 (nI d + (-1 : Int32) - (1 : Int32)).toNatClampNeg q5.1)) fun σ6 => k_X5_says_16 F (nI p) (nI d + (-1 : Int32)) (nI i + (1 : Int32)) σ6)))) else (grd (nI d - (1 : Int32)) 200 (grd (nI d - (1 : Int32)) 200 (bnd (some (tA (wm m v w) 17 (nI d - (1 : Int32)).toNatClampNeg (-(v (nI d - (1 : Int32)).toNatClampNeg)))) fun σ7 => k_X5_says_16 F (nI p) (nI d) (nI i + (1 : Int32)) σ7)))) else (grd (nI d - (1 : Int32)) 200 (if v (nI d - (1 : Int32)).toNatClampNeg ≠ 0 then (grd (nI d - (1 : Int32)) 200 (bnd (some (tA (wm m v w) 17 (nI d - (1 : Int32)).toNatClampNeg (0 : Int32))) fun σ8 => k_X5_says_16 F (nI p) (nI d) (nI i + (1 : Int32)) σ8)) else (grd (nI d - (1 : Int32)) 200 (bnd (some (tA (wm m v w) 17 (nI d - (1 : Int32)).toNatClampNeg (1 : Int32))) fun σ9 => k_X5_says_16 F (nI p) (nI d) (nI i + (1 : Int32)) σ9))))) else b_X5_says_66 (k_X5_says_16 F) (nI p) (nI d) (nI i) w2 (wm m v w))) := by
  show b_X5_says_16 (k_X5_says_16 F) (nI p) (nI d) (nI i) (wm m v w) = _
  unfold b_X5_says_16
  have e1 : ((4 : Int32) * mI (wm m v w) 5 + nI p) + (1 : Int32) = nI (4 * t + (p + 1)) := by
    rw [wm_I, ht, show (4 : Int32) = nI 4 from rfl, pk_mul, nIs, lt1, nIs]; congr 1
  have e2 : (200 : Int32) * mI (wm m v w) 5 + nI i = nI (200 * t + i) := by
    rw [wm_I, ht, show (200 : Int32) = nI 200 from rfl, pk_mul, nIs]
  rw [e1, e2, grd_ok _ (by omega) (by decide), nI_clamp (by omega), wm_o m v w (by decide) (by decide), he, if_neg (nI_ge hie (by omega)), grd_ok _ (by omega) (by decide), nI_clamp (by omega), wm_o m v w (by decide) (by decide)]
  rfl

theorem mM_P {m : GM} {t p e i d F : Nat} {v w : Nat → Int32} {s : Int32} (ht : mI m 5 = nI t) (ht6 : t < 6) (hp : p < 3) (he : mA m 8 (4 * t + (p + 1)) = nI e) (hie : i < e) (he2 : e ≤ 160) (hc : mA m 7 (200 * t + i) = enc s) (hs2 : s ≤ 9999) (hS : (-6 : Int32) ≤ s) (hd : d < 160) :
    k_X5_says_16 (F + 1) (nI p) (nI d) (nI i) (wm m v w) = k_X5_says_16 F (nI p) (nI (d + 1)) (nI (i + 1)) (wm m (upd v d (pvM w s)) w) := by
  rw [mM_head ht ht6 hp he hie he2, hc, bnd_some]
  have h1 : (-15 : Int32) ≤ s := by
    rw [Int32.le_iff_toInt_le] at hS ⊢
    rw [show (-6 : Int32).toInt = -6 from by decide] at hS
    rw [show (-15 : Int32).toInt = -15 from by decide]; omega
  have key : ∀ (c : Nat), c < 6 → (if (100000 : Int32) ≤ nI c then b_X5_says_66 (k_X5_says_16 F) (nI p) (nI d) (nI i) (nI c) (wm m v w) else (b_X5_says_66 (k_X5_says_16 F) (nI p) (nI d) (nI i) (nI c) (wm m v w))) = k_X5_says_16 F (nI p) (nI (d + 1)) (nI (i + 1)) (wm m (upd v d (w c)) w) := by
    intro c hc6
    unfold b_X5_says_66
    simp (disch := omega) only [lits, le_nI, if_pos, if_neg, grd_ok, nI_clamp, bnd_some, nIs, wm_18, tA17_wm]
  have neg : ∀ c : Nat, c < 6 → ¬ ((11 : Int32) ≤ nI c) := fun c hc6 => nI_ge (a := c) (b := 11) (by omega) (by decide)
  rcases step_cases h1 hs2 with ⟨k, hk, rfl⟩ | rfl | rfl | rfl | rfl | rfl | rfl | rfl | rfl | rfl | rfl | rfl | rfl | rfl | rfl | rfl
  · rw [enc_nI hk]
    have hpv : pvM w (nI k) = nI k := by unfold pvM; rw [if_neg (nI_pos (by omega))]
    rw [hpv, if_pos (show (100000 : Int32) ≤ nI (k + 100000) from nI_le (a := 100000) (by omega) (by omega))]
    unfold b_X5_says_66
    rw [if_pos (show (11 : Int32) ≤ nI (k + 100000) from nI_le (a := 11) (by omega) (by omega)), grd_ok _ (by omega) (by decide), nI_clamp (by omega), bnd_some, tA17_wm, lt1, nIs, nIs]
    rw [show nI (k + 100000) - (100000 : Int32) = nI k from by rw [show (100000 : Int32) = nI 100000 from rfl, sub_nI (by omega), Nat.add_sub_cancel]]
  · have h := key 0 (by omega); rw [show enc (-1) = nI 0 from by decide]; rw [if_neg (neg 0 (by omega))]; exact h
  · have h := key 1 (by omega); rw [show enc (-2) = nI 1 from by decide]; rw [if_neg (neg 1 (by omega))]; exact h
  · have h := key 2 (by omega); rw [show enc (-3) = nI 2 from by decide]; rw [if_neg (neg 2 (by omega))]; exact h
  · have h := key 3 (by omega); rw [show enc (-4) = nI 3 from by decide]; rw [if_neg (neg 3 (by omega))]; exact h
  · have h := key 4 (by omega); rw [show enc (-5) = nI 4 from by decide]; rw [if_neg (neg 4 (by omega))]; exact h
  · have h := key 5 (by omega); rw [show enc (-6) = nI 5 from by decide]; rw [if_neg (neg 5 (by omega))]; exact h
  all_goals exact absurd hS (by decide)
theorem mM_U {m : GM} {t p e i d F : Nat} {v w : Nat → Int32} {s : Int32} (ht : mI m 5 = nI t) (ht6 : t < 6) (hp : p < 3) (he : mA m 8 (4 * t + (p + 1)) = nI e) (hie : i < e) (he2 : e ≤ 160) (hc : mA m 7 (200 * t + i) = enc s) (h1 : (-15 : Int32) ≤ s) (hS2 : s ≤ (-14 : Int32)) (hd1 : 1 ≤ d) (hd : d ≤ 160) :
    k_X5_says_16 (F + 1) (nI p) (nI d) (nI i) (wm m v w) = k_X5_says_16 F (nI p) (nI d) (nI (i + 1)) (wm m (upd v (d - 1) (unS s (v (d - 1)))) w) := by
  rw [mM_head ht ht6 hp he hie he2, hc, bnd_some]
  rcases enc_U h1 hS2 with ⟨rfl, e9⟩ | ⟨rfl, e9⟩
  · rw [e9, if_neg (by decide), if_pos (by decide), if_neg (by decide)]
    have hu : unS (-14) (v (d - 1)) = if v (d - 1) = 0 then 1 else 0 := rfl
    rw [hu]
    simp (disch := omega) only [lits, grd_ok, nI_clamp, bnd_some, nIs, sub_nI, tA17_wm]
    by_cases h : v (d - 1) = nI 0
    · rw [if_neg (fun q => q h), if_pos h]
    · rw [if_pos h, if_neg h]
  · rw [e9, if_neg (by decide), if_pos (by decide), if_pos (by decide), if_neg (by decide)]
    have hu : unS (-15) (v (d - 1)) = -v (d - 1) := rfl
    rw [hu]
    simp (disch := omega) only [lits, grd_ok, nI_clamp, bnd_some, nIs, sub_nI, tA17_wm]
theorem mM_B {m : GM} {t p e i d F : Nat} {v w : Nat → Int32} {s : Int32} (ht : mI m 5 = nI t) (ht6 : t < 6) (hp : p < 3) (he : mA m 8 (4 * t + (p + 1)) = nI e) (hie : i < e) (he2 : e ≤ 160) (hc : mA m 7 (200 * t + i) = enc s) (h1 : (-15 : Int32) ≤ s) (h2 : s ≤ 9999) (hS : ¬ (-6 : Int32) ≤ s) (hS2 : ¬ s ≤ (-14 : Int32)) (hd1 : 2 ≤ d) (hd : d ≤ 160) :
    k_X5_says_16 (F + 1) (nI p) (nI d) (nI i) (wm m v w) = k_X5_says_16 F (nI p) (nI (d - 1)) (nI (i + 1)) (wm m (upd v (d - 2) (jn s (v (d - 2)) (v (d - 1)))) w) := by
  rw [mM_head ht ht6 hp he hie he2, hc, bnd_some]
  obtain ⟨g1, g2, g3, g4⟩ := enc_B h1 h2 hS hS2
  rw [if_neg (show ¬ (100000 : Int32) ≤ enc s from g1), if_pos (show (11 : Int32) ≤ enc s from g2), if_pos (show enc s ≠ (13 : Int32) from g3), if_pos (show enc s ≠ (19 : Int32) from g4), two_eq h1 h2 hS hS2]
  simp (disch := omega) only [lits, grd_ok, nI_clamp, bnd_some, nIs, sub_nI, dec_nI, tA17_wm]
  rw [show d - 1 - 1 = d - 2 by omega]
theorem mM_end {m : GM} {t p e i d F : Nat} {v w : Nat → Int32} (ht : mI m 5 = nI t) (ht6 : t < 6) (hp : p < 3) (he : mA m 8 (4 * t + (p + 1)) = nI e) (hie : e ≤ i) (hi : i ≤ 160) :
    k_X5_says_16 (F + 1) (nI p) (nI d) (nI i) (wm m v w) = some (v 0, wm m v w) := by
  show b_X5_says_16 (k_X5_says_16 F) (nI p) (nI d) (nI i) (wm m v w) = _
  unfold b_X5_says_16
  have e1 : ((4 : Int32) * mI (wm m v w) 5 + nI p) + (1 : Int32) = nI (4 * t + (p + 1)) := by
    rw [wm_I, ht, show (4 : Int32) = nI 4 from rfl, pk_mul, nIs, lt1, nIs]; congr 1
  rw [e1, grd_ok _ (by omega) (by decide), nI_clamp (by omega), wm_o m v w (by decide) (by decide), he, if_pos (nI_le hie (by omega))]
  rfl
/-- both walk a part's steps alike -/
theorem ws_loop {x : GX} {m : GM} {t y p cc e : Nat} {dr : Int32} {w : Nat → Int32} (ht : mI m 5 = nI t) (ht6 : t < 6) (hp : p < 3) (hcc : cc < 36) (hx : xU x t 2 p = nI e) (hm : mA m 8 (4 * t + (p + 1)) = nI e) (he : e ≤ 160) (hc : ∀ k, k < e → mA m 7 (200 * t + k) = enc (xU x t 0 k) ∧ (-15 : Int32) ≤ xU x t 0 k ∧ xU x t 0 k ≤ (9999 : Int32)) (hpv : ∀ s, pvX x y cc dr s = pvM w s) :
    ∀ (n i d F1 F2 : Nat) (u : Nat → Nat → Int32) (v : Nat → Int32), i + n = e → n < F1 → n < F2 → d ≤ i → dpt (xU x t 0) i n d = some 1 → (∀ j, j < d → u t j = v j) →
      ∃ (r : Int32) (u' : Nat → Nat → Int32) (v' : Nat → Int32), k_X0_worth_32 t y F1 (nI p) (nI cc) dr (nI d) (nI i) (wst x u) = some (r, wst x u') ∧ k_X5_says_16 F2 (nI p) (nI d) (nI i) (wm m v w) = some (r, wm m v' w) := by
  intro n
  induction n with
  | zero =>
    intro i d F1 F2 u v hi h1 h2 hdi hdp huv
    obtain ⟨F1, rfl⟩ : ∃ k, F1 = k + 1 := ⟨F1 - 1, by omega⟩
    obtain ⟨F2, rfl⟩ : ∃ k, F2 = k + 1 := ⟨F2 - 1, by omega⟩
    have hd1 : d = 1 := Option.some.inj hdp
    subst hd1
    exact ⟨u t 0, u, v, wX_end F1 hp hx (by omega) (by omega) (by omega) (by omega), by rw [mM_end ht ht6 hp hm (by omega) (by omega), huv 0 (by omega)]⟩
  | succ n ih =>
    intro i d F1 F2 u v hi h1 h2 hdi hdp huv
    obtain ⟨F1, rfl⟩ : ∃ k, F1 = k + 1 := ⟨F1 - 1, by omega⟩
    obtain ⟨F2, rfl⟩ : ∃ k, F2 = k + 1 := ⟨F2 - 1, by omega⟩
    obtain ⟨c1, c2, c3⟩ := hc i (by omega)
    unfold dpt at hdp
    by_cases hS : (-6 : Int32) ≤ xU x t 0 i
    · rw [if_pos hS] at hdp
      rw [wX_P F1 hcc hp hx (by omega) he (by omega) hS, mM_P ht ht6 hp hm (by omega) he c1 c3 hS (by omega)]
      refine ih (i + 1) (d + 1) F1 F2 _ _ (by omega) (by omega) (by omega) (by omega) hdp (fun j hj => ?_)
      rw [up_s]
      by_cases hjd : j = d
      · subst hjd; rw [upd_s, upd_s, hpv]
      · rw [upd_n _ _ hjd, upd_n _ _ hjd]; exact huv j (by omega)
    · rw [if_neg hS] at hdp
      by_cases hS2 : xU x t 0 i ≤ (-14 : Int32)
      · rw [if_pos hS2] at hdp
        by_cases hd1 : 1 ≤ d
        · rw [if_pos hd1] at hdp
          rw [wX_U F1 hp hx (by omega) he hd1 (by omega) hS hS2, mM_U ht ht6 hp hm (by omega) he c1 c2 hS2 hd1 (by omega)]
          refine ih (i + 1) d F1 F2 _ _ (by omega) (by omega) (by omega) (by omega) hdp (fun j hj => ?_)
          rw [up_s]
          by_cases hjd : j = d - 1
          · subst hjd; rw [upd_s, upd_s, huv _ (by omega)]
          · rw [upd_n _ _ hjd, upd_n _ _ hjd]; exact huv j (by omega)
        · rw [if_neg hd1] at hdp; cases hdp
      · rw [if_neg hS2] at hdp
        by_cases hd1 : 2 ≤ d
        · rw [if_pos hd1] at hdp
          rw [wX_B F1 hp hx (by omega) he hd1 (by omega) hS hS2, mM_B ht ht6 hp hm (by omega) he c1 c2 c3 hS hS2 hd1 (by omega)]
          refine ih (i + 1) (d - 1) F1 F2 _ _ (by omega) (by omega) (by omega) (by omega) hdp (fun j hj => ?_)
          rw [up_s]
          by_cases hjd : j = d - 2
          · subst hjd; rw [upd_s, upd_s, huv _ (by omega), huv _ (by omega)]
          · rw [upd_n _ _ hjd, upd_n _ _ hjd]; exact huv j (by omega)
        · rw [if_neg hd1] at hdp; cases hdp
