/-! ===== tokens: the reference's ===== -/
theorem wtab : ∀ k, k < 12 → ∀ j, j < 8 → mA mZ 15 (8 * k + j) = nI ((wd k).getD j 32) ∧ (wd k).getD j 32 < 256 := by decide +kernel
theorem wf_inner {g : Nat → Nat} {sz a e k : Nat} {m : GM} (kc : Int32 → Int32 → Int32 → GM → Option (Int32 × GM)) (hk : k < 12) (hT : TM g sz m) (hae : a ≤ e) (he : e ≤ sz) :
    ∀ (n j F : Nat), j + n = 8 → n + 1 < F → ∃ b : Bool, k_X5_wordFrom_26 kc F (nI a) (nI e) (nI k) 1 (nI j) m = (if b = true then some (nI k, m) else kc (nI a) (nI e) (nI (k + 1)) m) ∧ (b = true ↔ ∀ i, j ≤ i → i < 8 → (wd k).getD i 32 = chr g a e i) := by
  obtain ⟨t1, t2, t3, t4⟩ := hT
  intro n
  induction n with
  | zero =>
    intro j F hj hF
    obtain ⟨F, rfl⟩ : ∃ k, F = k + 1 := ⟨F - 1, by omega⟩
    have : j = 8 := by omega
    subst this
    refine ⟨true, ?_, ⟨fun _ i h1 h2 => by omega, fun _ => rfl⟩⟩
    show b_X5_wordFrom_26 kc (k_X5_wordFrom_26 kc F) (nI a) (nI e) (nI k) 1 (nI 8) m = _
    unfold b_X5_wordFrom_26 b_X5_wordFrom_88
    rw [if_pos (show (8 : Int32) ≤ nI 8 by decide), if_neg (show ¬ (1 : Int32) = 0 by decide), if_pos rfl]
  | succ n ih =>
    intro j F hj hF
    obtain ⟨F, rfl⟩ : ∃ k, F = k + 1 := ⟨F - 1, by omega⟩
    obtain ⟨w1, w2⟩ := wtab k hk j (by omega)
    have htab : mA m 15 (8 * k + j) = nI ((wd k).getD j 32) := by
      have : mA m 15 = mA mZ 15 := t3
      rw [this]; exact w1
    have ix8 : (8 : Int32) * nI k + nI j = nI (8 * k + j) := by
      rw [show (8 : Int32) = nI 8 from rfl, pk_mul, nIs]
    have hM : k_X5_wordFrom_26 kc (F + 1) (nI a) (nI e) (nI k) 1 (nI j) m = if (wd k).getD j 32 = chr g a e j then k_X5_wordFrom_26 kc F (nI a) (nI e) (nI k) 1 (nI (j + 1)) m else k_X5_wordFrom_26 kc F (nI a) (nI e) (nI k) 0 (nI (j + 1)) m := by
      show b_X5_wordFrom_26 kc (k_X5_wordFrom_26 kc F) (nI a) (nI e) (nI k) 1 (nI j) m = _
      unfold b_X5_wordFrom_26 b_X5_wordFrom_72
      rw [if_neg (show ¬ (8 : Int32) ≤ nI j from nI_ge (b := 8) (by omega) (by decide)), if_neg (show ¬ (1 : Int32) = 0 by decide), ix8, grd_ok _ (by omega) (by decide), nI_clamp (by omega), htab, nIs, show nI j + (1 : Int32) = nI (j + 1) from nI_add j 1]
      unfold chr
      by_cases q : a + j < e
      · obtain ⟨g1, g2⟩ := t4 (a + j) (by omega)
        rw [if_neg (nI_ge q (by omega)), if_pos q, grd_ok _ (by omega) (by decide), nI_clamp (by omega), g1]
        by_cases r : (wd k).getD j 32 = g (a + j)
        · rw [if_pos r, if_neg (fun s => s (by rw [r]))]
        · rw [if_neg r, if_pos (ne_lit _ _ (by omega) (by omega) r)]
      · rw [if_pos (nI_le (by omega) (by omega)), if_neg q]
        by_cases r : (wd k).getD j 32 = 32
        · rw [if_pos r, if_neg (fun s => s (by rw [r]; rfl))]
        · rw [if_neg r, if_pos (show nI ((wd k).getD j 32) ≠ (32 : Int32) from ne_lit _ 32 (by omega) (by decide) r)]
    by_cases q : (wd k).getD j 32 = chr g a e j
    · obtain ⟨b, e1, b1⟩ := ih (j + 1) F (by omega) (by omega)
      refine ⟨b, ?_, ?_⟩
      · rw [hM, if_pos q]; exact e1
      · rw [b1]
        exact ⟨fun h i h1 h2 => by
          by_cases r : i = j
          · subst r; exact q
          · exact h i (by omega) h2, fun h i h1 h2 => h i (by omega) h2⟩
    · refine ⟨false, ?_, ⟨fun h => absurd h (by decide), fun h => absurd (h j (Nat.le_refl _) (by omega)) q⟩⟩
      rw [hM, if_neg q, if_neg (show ¬ (false = true) by decide)]
      obtain ⟨F, rfl⟩ : ∃ k, F = k + 1 := ⟨F - 1, by omega⟩
      show b_X5_wordFrom_26 kc (k_X5_wordFrom_26 kc F) (nI a) (nI e) (nI k) 0 (nI (j + 1)) m = _
      unfold b_X5_wordFrom_26 b_X5_wordFrom_88
      simp only [ifs, if_true, show nI k + (1 : Int32) = nI (k + 1) from nI_add k 1]
      split <;> rfl
theorem wf_loop {g : Nat → Nat} {sz a e : Nat} {m : GM} (hT : TM g sz m) (hae : a ≤ e) (he : e ≤ sz) :
    ∀ (n k F : Nat), k + n = 12 → n < F → k_X5_wordFrom_2 F (nI a) (nI e) (nI k) m = some (nI (fkx g a e n k), m) := by
  have hsz := hT.1
  intro n
  induction n with
  | zero =>
    intro k F hk hF
    obtain ⟨F, rfl⟩ : ∃ k, F = k + 1 := ⟨F - 1, by omega⟩
    have : k = 12 := by omega
    subst this
    show b_X5_wordFrom_2 (k_X5_wordFrom_2 F) (nI a) (nI e) (nI 12) m = _
    unfold b_X5_wordFrom_2
    rw [if_pos (show (12 : Int32) ≤ nI 12 by decide)]
    rfl
  | succ n ih =>
    intro k F hk hF
    obtain ⟨F, rfl⟩ : ∃ k, F = k + 1 := ⟨F - 1, by omega⟩
    have hM : k_X5_wordFrom_2 (F + 1) (nI a) (nI e) (nI k) m = if mt g a e k then some (nI k, m) else k_X5_wordFrom_2 F (nI a) (nI e) (nI (k + 1)) m := by
      show b_X5_wordFrom_2 (k_X5_wordFrom_2 F) (nI a) (nI e) (nI k) m = _
      unfold b_X5_wordFrom_2
      rw [if_neg (show ¬ (12 : Int32) ≤ nI k from nI_ge (b := 12) (by omega) (by decide)), sub_nI hae]
      by_cases q : 8 < e - a
      · rw [if_pos (show (8 : Int32) < nI (e - a) from nI_lt q (by omega)), if_neg (fun h => by have := ((mt_d g a e k).mp h).1; omega)]
        show b_X5_wordFrom_26 (k_X5_wordFrom_2 F) (k_X5_wordFrom_26 (k_X5_wordFrom_2 F) 999) (nI a) (nI e) (nI k) 0 0 m = _
        unfold b_X5_wordFrom_26 b_X5_wordFrom_88
        rw [if_neg (show ¬ (8 : Int32) ≤ 0 by decide), if_pos rfl, if_pos rfl, show nI k + (1 : Int32) = nI (k + 1) from nI_add k 1]
      · rw [if_neg (show ¬ (8 : Int32) < nI (e - a) from nI_nlt (b := e - a) (a := 8) (by omega) (by decide))]
        obtain ⟨b, e1, b1⟩ := wf_inner (k_X5_wordFrom_2 F) (k := k) (by omega) hT hae he 8 0 FU rfl (by decide)
        rw [show k_X5_wordFrom_26 (k_X5_wordFrom_2 F) FU (nI a) (nI e) (nI k) (1 : Int32) (0 : Int32) m = _ from e1]
        by_cases r : b = true
        · rw [if_pos r, if_pos ((mt_d g a e k).mpr ⟨by omega, fun i hi => b1.mp r i (Nat.zero_le _) hi⟩)]
        · rw [if_neg r, if_neg (fun h => r (b1.mpr (fun i _ h2 => ((mt_d g a e k).mp h).2 i h2)))]
    rw [hM]
    show _ = some (nI (if mt g a e k then k else fkx g a e n (k + 1)), m)
    by_cases q : mt g a e k
    · rw [if_pos q, if_pos q]
    · rw [if_neg q, if_neg q]
      exact ih (k + 1) F (by omega) (by omega)
theorem wf_M {g : Nat → Nat} {sz a e : Nat} {m : GM} (hT : TM g sz m) (hae : a ≤ e) (he : e ≤ sz) : f_X5_wordFrom (nI a) (nI e) m = some (nI (fk g a e), m) := wf_loop hT hae he 12 0 FU rfl (by decide)
/-- a token's kind and value, as the reference tells them -/
def kd (c : Int32) : Int32 := if (0 : Int32) ≤ c then 1 else if (-6 : Int32) ≤ c then 2 else if c = -7 then 4 else if c = -8 then 5 else if c = -14 then 6 else if c = -19 then 3 else if c = -20 then 3 else if c = -21 then 3 else if c = -16 then 40 else if c = -17 then 41 else if c = -18 then 59 else if c = -11 then 43 else if c = -12 then 45 else if c = -13 then 42 else if c = -9 then 60 else if c = -10 then 61 else if c = -22 then 0 else -1
def vlp (c v : Int32) : Prop := ((0 : Int32) ≤ c → v = c) ∧ ((-6 : Int32) ≤ c → ¬ (0 : Int32) ≤ c → v = -1 - c) ∧ (c = -19 → v = 0) ∧ (c = -20 → v = 1) ∧ (c = -21 → v = 2)
def wkd (k : Nat) : Int32 := if 3 ≤ k then (if 9 ≤ k then (if k ≠ 12 then ((4 : Int32) + nI k) - 9 else -1) else 2) else 3
def wvl (k : Nat) : Int32 := if 3 ≤ k then nI k - 3 else nI k
theorem wkd_eq : ∀ k, k < 13 → wkd k = kd (cX k) ∧ ((0 : Int32) ≤ cX k → wvl k = cX k) ∧ ((-6 : Int32) ≤ cX k → ¬ (0 : Int32) ≤ cX k → wvl k = -1 - cX k) ∧ (cX k = -19 → wvl k = 0) ∧ (cX k = -20 → wvl k = 1) ∧ (cX k = -21 → wvl k = 2) := by decide +kernel
theorem fk_le (g : Nat → Nat) (a e : Nat) : fk g a e < 13 := by
  by_cases q : ∃ j, j < 12 ∧ mt g a e j
  · obtain ⟨j, hj, hm⟩ := q
    rw [fk_some hj hm]; omega
  · rw [fk_none (fun k hk h => q ⟨k, hk, h⟩)]; decide
def NXT (g : Nat → Nat) (sz p : Nat) (m m' : GM) : Prop := AM m m' ∧ mI m' 7 = nI (nx g sz p) ∧ mI m' 8 = nI (pl g sz p) ∧ mI m' 9 = kd (tk g sz p) ∧ vlp (tk g sz p) (mI m' 10)
theorem nlett_end {g : Nat → Nat} {sz a e : Nat} {m : GM} (hT : TM g sz m) (h8 : mI m 8 = nI a) (h7 : mI m 7 = nI e) (hae : a ≤ e) (he : e ≤ sz) : ∃ m', b_X5_next_146 m = some ((), m') ∧ AM m m' ∧ mI m' 7 = nI e ∧ mI m' 8 = nI a ∧ mI m' 9 = kd (cX (fk g a e)) ∧ vlp (cX (fk g a e)) (mI m' 10) := by
  have hk := fk_le g a e
  obtain ⟨w1, w2⟩ := wkd_eq _ hk
  have hM : b_X5_next_146 m = some ((), tI (tI m 9 (wkd (fk g a e))) 10 (wvl (fk g a e))) := by
    unfold b_X5_next_146 b_X5_next_195
    rw [h8, h7, wf_M hT hae he, bnd_some]
    generalize fk g a e = k at hk
    unfold wkd wvl
    by_cases q3 : 3 ≤ k
    · rw [if_pos (show (3 : Int32) ≤ nI k from nI_le q3 (by omega)), if_pos q3, if_pos q3]
      by_cases q9 : 9 ≤ k
      · rw [if_pos (show (9 : Int32) ≤ nI k from nI_le q9 (by omega)), if_pos q9]
        by_cases q12 : k ≠ 12
        · rw [if_pos (show nI k ≠ (12 : Int32) from ne_lit k 12 (by omega) (by decide) q12), if_pos q12, bnd_some, if_pos (show (3 : Int32) ≤ nI k from nI_le q3 (by omega)), bnd_some]
        · have : k = 12 := by omega
          subst this
          rw [if_neg (show ¬ nI 12 ≠ (12 : Int32) from fun q => q rfl), if_neg q12, bnd_some, if_pos (show (3 : Int32) ≤ nI 12 by decide), bnd_some]
      · rw [if_neg (show ¬ (9 : Int32) ≤ nI k from nI_ge (b := 9) (by omega) (by decide)), if_neg q9, bnd_some, if_pos (show (3 : Int32) ≤ nI k from nI_le q3 (by omega)), bnd_some]
    · rw [if_neg (show ¬ (3 : Int32) ≤ nI k from nI_ge (b := 3) (by omega) (by decide)), if_neg q3, if_neg q3, bnd_some, if_neg (show ¬ (3 : Int32) ≤ nI k from nI_ge (b := 3) (by omega) (by decide)), bnd_some]
  refine ⟨_, hM, AM_trans (AM_tI _ _ _ (by decide)) (AM_tI _ _ _ (by decide)), ?_, ?_, ?_, ?_⟩
  · rw [mI_n _ _ (by decide), mI_n _ _ (by decide)]; exact h7
  · rw [mI_n _ _ (by decide), mI_n _ _ (by decide)]; exact h8
  · rw [mI_n _ _ (by decide), mI_s]; exact w1
  · rw [mI_s]; exact w2
theorem nlett_loop {g : Nat → Nat} {sz a : Nat} : ∀ (k e F : Nat) (m : GM), e + k = sz → k < F → TM g sz m → mI m 8 = nI a → mI m 7 = nI e → a ≤ e → ∃ m', k_X5_next_103 F m = some ((), m') ∧ AM m m' ∧ mI m' 7 = nI (rn lett g sz e) ∧ mI m' 8 = nI a ∧ mI m' 9 = kd (cX (fk g a (rn lett g sz e))) ∧ vlp (cX (fk g a (rn lett g sz e))) (mI m' 10) := by
  intro k
  induction k with
  | zero =>
    intro e F m hk hF hT h8 h7 hae
    obtain ⟨F, rfl⟩ : ∃ k, F = k + 1 := ⟨F - 1, by omega⟩
    have hsz := hT.1
    rw [rn_end (show sz ≤ e by omega)]
    obtain ⟨m', e1, c⟩ := nlett_end hT h8 h7 hae (by omega)
    refine ⟨m', ?_, c⟩
    show b_X5_next_103 (k_X5_next_103 F) m = _
    unfold b_X5_next_103
    rw [hT.2.1, h7, if_pos (nI_le (by omega) (by omega))]
    exact e1
  | succ k ih =>
    intro e F m hk hF hT h8 h7 hae
    obtain ⟨F, rfl⟩ : ∃ k, F = k + 1 := ⟨F - 1, by omega⟩
    have hsz := hT.1
    obtain ⟨g1, g2⟩ := hT.2.2.2 e (by omega)
    have hM : k_X5_next_103 (F + 1) m = if lett (g e) = true then k_X5_next_103 F (tI m 7 (nI (e + 1))) else b_X5_next_146 m := by
      show b_X5_next_103 (k_X5_next_103 F) m = _
      unfold b_X5_next_103
      rw [hT.2.1, h7, if_neg (nI_ge (by omega) (by omega)), grd_ok _ (by omega) (by decide), nI_clamp (by omega), g1, in_lett _ g2, bnd_some]
      by_cases q : lett (g e) = true
      · simp only [if_pos q, ifs, if_false, bnd_some, h7, show nI e + (1 : Int32) = nI (e + 1) from nI_add e 1]
      · simp only [if_neg q, ifs, if_true]
    by_cases q : lett (g e) = true
    · obtain ⟨m', e1, a1, a2⟩ := ih (e + 1) F (tI m 7 (nI (e + 1))) (by omega) (by omega) (TM_AM hT (AM_tI m 7 _ (by decide))) ((mI_n _ _ (by decide)).trans h8) (mI_s _ _ _) (by omega)
      rw [rn_go (by omega) q]
      exact ⟨m', by rw [hM, if_pos q]; exact e1, AM_trans (AM_tI m 7 _ (by decide)) a1, a2⟩
    · rw [rn_no (show lett (g e) = false by simpa using q)]
      obtain ⟨m', e1, c⟩ := nlett_end hT h8 h7 hae (by omega)
      exact ⟨m', by rw [hM, if_neg q]; exact e1, c⟩
theorem kd_num {c : Int32} (h : (0 : Int32) ≤ c) : kd c = 1 := if_pos h
theorem vlp_num (n : Nat) (h : n < 2 ^ 31) : vlp (nI n) (nI n) := by
  have h0 : (0 : Int32) ≤ nI n := nI_pos' h
  have hne : ∀ k : Int32, k < 0 → nI n ≠ k := fun k hk q => by rw [← q] at hk; exact nI_pos h hk
  exact ⟨fun _ => rfl, fun _ q => absurd h0 q, fun q => absurd q (hne _ (by decide)), fun q => absurd q (hne _ (by decide)), fun q => absurd q (hne _ (by decide))⟩
theorem vlp_23 (v : Int32) : vlp (-23) v := ⟨fun q => absurd q (by decide), fun q _ => absurd q (by decide), fun q => absurd q (by decide), fun q => absurd q (by decide), fun q => absurd q (by decide)⟩
theorem vlp_22 (v : Int32) : vlp (-22) v := ⟨fun q => absurd q (by decide), fun q _ => absurd q (by decide), fun q => absurd q (by decide), fun q => absurd q (by decide), fun q => absurd q (by decide)⟩
def ntok (g : Nat → Nat) (a n : Nat) : Int32 := if n ≤ 4 then nI (nv g a n) else -23
theorem ndig_loop {g : Nat → Nat} {sz a : Nat} : ∀ (k e F : Nat) (m : GM), e + k = sz → k < F → TM g sz m → mI m 8 = nI a → mI m 7 = nI e → a ≤ e → (∀ i, i < e - a → digt (g (a + i)) = true) → (e - a ≤ 4 → mI m 10 = nI (nv g a (e - a))) → ∃ m', k_X5_next_230 F (nI (e - a)) m = some ((), m') ∧ AM m m' ∧ mI m' 7 = nI (rn digt g sz e) ∧ mI m' 8 = nI a ∧ mI m' 9 = kd (ntok g a (rn digt g sz e - a)) ∧ vlp (ntok g a (rn digt g sz e - a)) (mI m' 10) := by
  have fin : ∀ (e : Nat) (m : GM), e ≤ sz → TM g sz m → mI m 8 = nI a → mI m 7 = nI e → a ≤ e → (∀ i, i < e - a → digt (g (a + i)) = true) → (e - a ≤ 4 → mI m 10 = nI (nv g a (e - a))) → ∃ m', b_X5_next_309 (nI (e - a)) m = some ((), m') ∧ AM m m' ∧ mI m' 7 = nI e ∧ mI m' 8 = nI a ∧ mI m' 9 = kd (ntok g a (e - a)) ∧ vlp (ntok g a (e - a)) (mI m' 10) := by
    intro e m he hT h8 h7 hae hd hv
    have hsz := hT.1
    unfold b_X5_next_309 ntok
    by_cases q : e - a ≤ 4
    · have hlt := nv_lt g a (e - a) hd
      have h10 : (10 : Nat) ^ (e - a) ≤ 10 ^ 4 := Nat.pow_le_pow_right (by decide) q
      have h31 : nv g a (e - a) < 2 ^ 31 := Nat.lt_of_lt_of_le hlt (Nat.le_trans h10 (by decide))
      rw [if_pos (show nI (e - a) ≤ (4 : Int32) from nI_le q (by decide)), if_pos q, bnd_some]
      refine ⟨_, rfl, AM_tI _ _ _ (by decide), (mI_n _ _ (by decide)).trans h7, (mI_n _ _ (by decide)).trans h8, ?_, ?_⟩
      · rw [mI_s, kd_num (nI_pos' h31)]
      · rw [mI_n _ _ (by decide), hv q]; exact vlp_num _ h31
    · rw [if_neg (show ¬ nI (e - a) ≤ (4 : Int32) from nI_ge (a := 4) (by omega) (by omega)), if_neg q, bnd_some]
      refine ⟨_, rfl, AM_tI _ _ _ (by decide), (mI_n _ _ (by decide)).trans h7, (mI_n _ _ (by decide)).trans h8, ?_, vlp_23 _⟩
      rw [mI_s]; decide
  intro k
  induction k with
  | zero =>
    intro e F m hk hF hT h8 h7 hae hd hv
    obtain ⟨F, rfl⟩ : ∃ k, F = k + 1 := ⟨F - 1, by omega⟩
    have hsz := hT.1
    rw [rn_end (show sz ≤ e by omega)]
    obtain ⟨m', e1, c⟩ := fin e m (by omega) hT h8 h7 hae hd hv
    refine ⟨m', ?_, c⟩
    show b_X5_next_230 (k_X5_next_230 F) (nI (e - a)) m = _
    unfold b_X5_next_230
    rw [hT.2.1, h7, if_pos (nI_le (by omega) (by omega))]
    exact e1
  | succ k ih =>
    intro e F m hk hF hT h8 h7 hae hd hv
    obtain ⟨F, rfl⟩ : ∃ k, F = k + 1 := ⟨F - 1, by omega⟩
    have hsz := hT.1
    obtain ⟨g1, g2⟩ := hT.2.2.2 e (by omega)
    have hM : k_X5_next_230 (F + 1) (nI (e - a)) m = if digt (g e) = true then k_X5_next_230 F (nI (e + 1 - a)) (tI (tI m 10 (if 4 ≤ e - a then 0 else (10 : Int32) * mI m 10 + nI (g e) - 48)) 7 (nI (e + 1))) else b_X5_next_309 (nI (e - a)) m := by
      show b_X5_next_230 (k_X5_next_230 F) (nI (e - a)) m = _
      unfold b_X5_next_230 b_X5_next_290
      rw [hT.2.1, h7, if_neg (nI_ge (by omega) (by omega)), grd_ok _ (by omega) (by decide), nI_clamp (by omega), g1, in_digt _ g2, bnd_some]
      have i7 : ∀ v, mI (tI m 10 v) 7 = nI e := fun v => (mI_n _ _ (by decide)).trans h7
      have hcnt : nI (e - a) + (1 : Int32) = nI (e + 1 - a) := (nI_add _ 1).trans (congrArg nI (by omega))
      by_cases q : digt (g e) = true
      · simp only [if_pos q, ifs, if_false, bnd_some, h7, i7, hcnt, show nI e + (1 : Int32) = nI (e + 1) from nI_add e 1]
        by_cases r : 4 ≤ e - a
        · rw [if_pos (show (4 : Int32) ≤ nI (e - a) from nI_le r (by omega)), if_pos r]
        · rw [if_neg (show ¬ (4 : Int32) ≤ nI (e - a) from nI_ge (b := 4) (by omega) (by decide)), if_neg r, grd_ok _ (by omega) (by decide), nI_clamp (by omega), g1]
      · simp only [if_neg q, ifs, if_true]
    by_cases q : digt (g e) = true
    · obtain ⟨m', e1, a1, a2⟩ := ih (e + 1) F (tI (tI m 10 (if 4 ≤ e - a then 0 else (10 : Int32) * mI m 10 + nI (g e) - 48)) 7 (nI (e + 1))) (by omega) (by omega) (TM_AM hT (AM_trans (AM_tI m 10 _ (by decide)) (AM_tI _ 7 _ (by decide)))) (((mI_n _ _ (by decide)).trans (mI_n _ _ (by decide))).trans h8) (mI_s _ _ _) (by omega) (fun i hi => by
        by_cases r : i = e - a
        · subst r; rw [show a + (e - a) = e by omega]; exact q
        · exact hd i (by omega)) (fun h4' => by
        have hv' := hv (by omega)
        rw [mI_n _ _ (by decide), mI_s, if_neg (show ¬ 4 ≤ e - a by omega), hv', show (10 : Int32) = nI 10 from rfl, pk_mul, nIs]
        have h48 : 48 ≤ g e := by
          unfold digt at q
          simp at q
          exact q.1
        rw [show (48 : Int32) = nI 48 from rfl, sub_nI (by omega)]
        apply congrArg nI
        rw [show e + 1 - a = (e - a) + 1 by omega]
        show _ = 10 * nv g a (e - a) + (g (a + (e - a)) - 48)
        rw [show a + (e - a) = e by omega]
        omega)
      rw [rn_go (by omega) q]
      exact ⟨m', by rw [hM, if_pos q]; exact e1, AM_trans (AM_trans (AM_tI m 10 _ (by decide)) (AM_tI _ 7 _ (by decide))) a1, a2⟩
    · rw [rn_no (show digt (g e) = false by simpa using q)]
      obtain ⟨m', e1, c⟩ := fin e m (by omega) hT h8 h7 hae hd hv
      exact ⟨m', by rw [hM, if_neg q]; exact e1, c⟩
def skd (b : Nat) : Int32 := if b = 40 ∨ b = 41 ∨ b = 59 ∨ b = 43 ∨ b = 45 ∨ b = 42 ∨ b = 60 ∨ b = 61 then nI b else -1
theorem skd_eq : ∀ b, b < 256 → skd b = kd (sg b) ∧ ¬ (0 : Int32) ≤ sg b ∧ ¬ (-6 : Int32) ≤ sg b ∧ sg b ≠ -19 ∧ sg b ≠ -20 ∧ sg b ≠ -21 := by decide +kernel
theorem vlp_sg {b : Nat} (hb : b < 256) (v : Int32) : vlp (sg b) v := by
  obtain ⟨_, h1, h2, h3, h4, h5⟩ := skd_eq b hb
  exact ⟨fun q => absurd q h1, fun q _ => absurd q h2, fun q => absurd q h3, fun q => absurd q h4, fun q => absurd q h5⟩
theorem nsign_M {b e : Nat} (hb : b < 256) {m : GM} (h7 : mI m 7 = nI e) (he : e < 160) : (if nI b = (40 : Int32) then (b_X5_next_379 (nI b) (1 : Int32) m) else (if nI b = (41 : Int32) then (b_X5_next_379 (nI b) (1 : Int32) m) else (if nI b = (59 : Int32) then (b_X5_next_379 (nI b) (1 : Int32) m) else (if nI b = (43 : Int32) then (b_X5_next_379 (nI b) (1 : Int32) m) else (if nI b = (45 : Int32) then (b_X5_next_379 (nI b) (1 : Int32) m) else (if nI b = (42 : Int32) then (b_X5_next_379 (nI b) (1 : Int32) m) else (if nI b = (60 : Int32) then (b_X5_next_379 (nI b) (1 : Int32) m) else (if nI b ≠ (61 : Int32) then (b_X5_next_379 (nI b) (0 : Int32) m) else (b_X5_next_379 (nI b) (1 : Int32) m))))))))) = some ((), tI (tI m 9 (skd b)) 7 (nI (e + 1))) := by
  have c1 : b_X5_next_379 (nI b) (1 : Int32) m = some ((), tI (tI m 9 (nI b)) 7 (nI (e + 1))) := by
    unfold b_X5_next_379 b_X5_next_390
    rw [if_neg (show ¬ (1 : Int32) = 0 by decide), bnd_some, bnd_some, mI_n _ _ (by decide), h7, show nI e + (1 : Int32) = nI (e + 1) from nI_add e 1]
  have c0 : b_X5_next_379 (nI b) (0 : Int32) m = some ((), tI (tI m 9 (-1)) 7 (nI (e + 1))) := by
    unfold b_X5_next_379 b_X5_next_390
    rw [if_pos rfl, bnd_some, bnd_some, mI_n _ _ (by decide), h7, show nI e + (1 : Int32) = nI (e + 1) from nI_add e 1]
  rw [c1, c0]
  unfold skd
  have eqn : ∀ k : Nat, k < 256 → (nI b = nI k ↔ b = k) := fun k hk => eq_nI (by omega) (by omega)
  by_cases q1 : b = 40
  · rw [if_pos (show nI b = (40 : Int32) from (eqn 40 (by decide)).mpr q1), if_pos (Or.inl q1)]
  rw [if_neg (show ¬ nI b = (40 : Int32) from fun r => q1 ((eqn 40 (by decide)).mp r))]
  by_cases q2 : b = 41
  · rw [if_pos (show nI b = (41 : Int32) from (eqn 41 (by decide)).mpr q2), if_pos (by simp [q2])]
  rw [if_neg (show ¬ nI b = (41 : Int32) from fun r => q2 ((eqn 41 (by decide)).mp r))]
  by_cases q3 : b = 59
  · rw [if_pos (show nI b = (59 : Int32) from (eqn 59 (by decide)).mpr q3), if_pos (by simp [q3])]
  rw [if_neg (show ¬ nI b = (59 : Int32) from fun r => q3 ((eqn 59 (by decide)).mp r))]
  by_cases q4 : b = 43
  · rw [if_pos (show nI b = (43 : Int32) from (eqn 43 (by decide)).mpr q4), if_pos (by simp [q4])]
  rw [if_neg (show ¬ nI b = (43 : Int32) from fun r => q4 ((eqn 43 (by decide)).mp r))]
  by_cases q5 : b = 45
  · rw [if_pos (show nI b = (45 : Int32) from (eqn 45 (by decide)).mpr q5), if_pos (by simp [q5])]
  rw [if_neg (show ¬ nI b = (45 : Int32) from fun r => q5 ((eqn 45 (by decide)).mp r))]
  by_cases q6 : b = 42
  · rw [if_pos (show nI b = (42 : Int32) from (eqn 42 (by decide)).mpr q6), if_pos (by simp [q6])]
  rw [if_neg (show ¬ nI b = (42 : Int32) from fun r => q6 ((eqn 42 (by decide)).mp r))]
  by_cases q7 : b = 60
  · rw [if_pos (show nI b = (60 : Int32) from (eqn 60 (by decide)).mpr q7), if_pos (by simp [q7])]
  rw [if_neg (show ¬ nI b = (60 : Int32) from fun r => q7 ((eqn 60 (by decide)).mp r))]
  by_cases q8 : b = 61
  · rw [if_neg (show ¬ nI b ≠ (61 : Int32) from fun r => r ((eqn 61 (by decide)).mpr q8)), if_pos (by simp [q8])]
  rw [if_pos (show nI b ≠ (61 : Int32) from fun r => q8 ((eqn 61 (by decide)).mp r)), if_neg (by simp [q1, q2, q3, q4, q5, q6, q7, q8])]
theorem next_end {g : Nat → Nat} {sz p : Nat} {m : GM} (hp : p ≤ sz) (hT : TM g sz m) (h7 : mI m 7 = nI (pl g sz p)) : ∃ m', b_X5_next_52 m = some ((), m') ∧ NXT g sz p m m' := by
  have hsz := hT.1
  obtain ⟨a1, a2⟩ := pl_rng g hp
  unfold b_X5_next_52
  rw [h7, bnd_some, bnd_some, bnd_some]
  obtain ⟨m1, hm1⟩ : ∃ m1, m1 = tI (tI (tI m 8 (nI (pl g sz p))) 9 0) 10 0 := ⟨_, rfl⟩
  have A0 : AM m m1 := by rw [hm1]; exact AM_trans (AM_tI _ _ _ (by decide)) (AM_trans (AM_tI _ _ _ (by decide)) (AM_tI _ _ _ (by decide)))
  have hT1 := TM_AM hT A0
  have i7 : mI m1 7 = nI (pl g sz p) := by
    rw [hm1, mI_n _ _ (by decide), mI_n _ _ (by decide), mI_n _ _ (by decide)]; exact h7
  have i8 : mI m1 8 = nI (pl g sz p) := by
    rw [hm1, mI_n _ _ (by decide), mI_n _ _ (by decide), mI_s]
  have i9 : mI m1 9 = 0 := by rw [hm1, mI_n _ _ (by decide), mI_s]
  have i10 : mI m1 10 = 0 := by rw [hm1, mI_s]
  rw [← hm1, i7, hT1.2.1]
  unfold NXT nx tk
  by_cases q : pl g sz p < sz
  · obtain ⟨g1, g2⟩ := hT1.2.2.2 (pl g sz p) q
    rw [if_pos (ne_lit _ _ (by omega) (by omega) (by omega)), if_pos q, if_pos q, grd_ok _ (by omega) (by decide), nI_clamp (by omega), g1, bnd_some, in_lett _ g2, bnd_some]
    by_cases q1 : lett (g (pl g sz p)) = true
    · simp only [if_pos q1, ifs, if_false]
      obtain ⟨m2, c1, c2, c3⟩ := nlett_loop (g := g) (sz := sz) (a := pl g sz p) (sz - pl g sz p) (pl g sz p) FU m1 (by omega) (by show _ < 1000; omega) hT1 i8 i7 (Nat.le_refl _)
      exact ⟨m2, c1, AM_trans A0 c2, c3⟩
    · simp only [if_neg q1, ifs, if_true]
      rw [in_digt _ g2, bnd_some]
      by_cases q2 : digt (g (pl g sz p)) = true
      · simp only [if_pos q2, ifs, if_false]
        obtain ⟨m2, c1, c2, c3⟩ := ndig_loop (g := g) (sz := sz) (a := pl g sz p) (sz - pl g sz p) (pl g sz p) FU m1 (by omega) (by show _ < 1000; omega) hT1 i8 i7 (Nat.le_refl _) (fun i hi => by omega) (fun _ => by rw [i10, Nat.sub_self]; rfl)
        rw [Nat.sub_self] at c1
        exact ⟨m2, c1, AM_trans A0 c2, c3⟩
      · simp only [if_neg q2, ifs, if_true]
        have hb := nsign_M g2 i7 (show pl g sz p < 160 by omega)
        refine ⟨_, hb, AM_trans A0 (AM_trans (AM_tI _ _ _ (by decide)) (AM_tI _ _ _ (by decide))), mI_s _ _ _, ?_, ?_, ?_⟩
        · rw [mI_n _ _ (by decide), mI_n _ _ (by decide)]; exact i8
        · rw [mI_n _ _ (by decide), mI_s]; exact (skd_eq _ g2).1
        · exact vlp_sg g2 _
  · have : pl g sz p = sz := by omega
    rw [if_neg (show ¬ nI (pl g sz p) ≠ nI sz from fun r => r (by rw [this])), if_neg q, if_neg q]
    exact ⟨m1, rfl, A0, i7, i8, by rw [i9]; decide, vlp_22 _⟩
theorem next_loop {g : Nat → Nat} {sz p : Nat} (hp : p ≤ sz) : ∀ (k e F : Nat) (m : GM), e + k = sz → k < F → TM g sz m → mI m 7 = nI e → pl g sz p = rn blk g sz e → ∃ m', k_X5_next_0 F m = some ((), m') ∧ NXT g sz p m m' := by
  intro k
  induction k with
  | zero =>
    intro e F m hk hF hT h7 he
    obtain ⟨F, rfl⟩ : ∃ k, F = k + 1 := ⟨F - 1, by omega⟩
    have hsz := hT.1
    rw [rn_end (show sz ≤ e by omega)] at he
    obtain ⟨m', e1, c⟩ := next_end hp hT (h7.trans (by rw [he]))
    refine ⟨m', ?_, c⟩
    show b_X5_next_0 (k_X5_next_0 F) m = _
    unfold b_X5_next_0
    rw [hT.2.1, h7, if_pos (nI_le (by omega) (by omega))]
    exact e1
  | succ k ih =>
    intro e F m hk hF hT h7 he
    obtain ⟨F, rfl⟩ : ∃ k, F = k + 1 := ⟨F - 1, by omega⟩
    have hsz := hT.1
    obtain ⟨g1, g2⟩ := hT.2.2.2 e (by omega)
    have hM : k_X5_next_0 (F + 1) m = if blk (g e) = true then k_X5_next_0 F (tI m 7 (nI (e + 1))) else b_X5_next_52 m := by
      show b_X5_next_0 (k_X5_next_0 F) m = _
      unfold b_X5_next_0
      rw [hT.2.1, h7, if_neg (nI_ge (by omega) (by omega)), show nI e + (1 : Int32) = nI (e + 1) from nI_add e 1]
      simp only [grd_ok _ (show e < 160 by omega) (show 160 < 2 ^ 31 by decide), nI_clamp (show e < 2 ^ 31 by omega), g1, bnd_some]
      unfold blk
      by_cases q : g e = 32
      · rw [if_pos (show nI (g e) = (32 : Int32) by rw [q]; rfl), if_pos (by simp [q])]
      · rw [if_neg (show ¬ nI (g e) = (32 : Int32) from ne_lit _ 32 (by omega) (by decide) q)]
        by_cases q2 : g e = 10
        · rw [if_neg (show ¬ nI (g e) ≠ (10 : Int32) from fun r => r (by rw [q2]; rfl)), if_pos (by simp [q2])]
        · rw [if_pos (show nI (g e) ≠ (10 : Int32) from ne_lit _ 10 (by omega) (by decide) q2), if_neg (by simp [q, q2])]
    by_cases q : blk (g e) = true
    · obtain ⟨m', e1, a1, a2⟩ := ih (e + 1) F (tI m 7 (nI (e + 1))) (by omega) (by omega) (TM_AM hT (AM_tI m 7 _ (by decide))) (mI_s _ _ _) (by rw [he, rn_go (by omega) q])
      exact ⟨m', by rw [hM, if_pos q]; exact e1, AM_trans (AM_tI m 7 _ (by decide)) a1, a2⟩
    · rw [rn_no (show blk (g e) = false by simpa using q)] at he
      obtain ⟨m', e1, c⟩ := next_end hp hT (h7.trans (by rw [he]))
      exact ⟨m', by rw [hM, if_neg q]; exact e1, c⟩
/-- the reference reads a token -/
theorem next_M {g : Nat → Nat} {sz p : Nat} {m : GM} (hp : p ≤ sz) (hT : TM g sz m) (h7 : mI m 7 = nI p) : ∃ m', f_X5_next m = some ((), m') ∧ NXT g sz p m m' := by
  have hsz := hT.1
  exact next_loop hp (sz - p) p FU m (by omega) (by show _ < 1000; omega) hT h7 rfl
