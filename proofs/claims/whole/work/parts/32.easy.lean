/-! ===== the calls on the sea and the light ===== -/
def EQ {ρ : Type} (f : GX → Option (ρ × GX)) (h : GM → Option (ρ × GM)) : Prop := ∀ (x : GX) (m : GM), RR x m → PP (f x) (h m)
theorem wi_cell (a : Int32) : wi a 0 35 = 0 ∨ (wi a 0 35 = 1 ∧ ∃ c : Nat, c < 36 ∧ a = nI c) := by
  rcases wi_nat a 35 (by decide) with h | ⟨h, c, hc, e⟩
  · exact Or.inl h
  · exact Or.inr ⟨h, c, by omega, e⟩
theorem wi_b (a : Int32) : wi a 0 1 = 0 ∨ (wi a 0 1 = 1 ∧ (a = 0 ∨ a = 1)) := by
  rcases wi_nat a 1 (by decide) with h | ⟨h, c, hc, e⟩
  · exact Or.inl h
  · refine Or.inr ⟨h, ?_⟩
    match c, hc with
    | 0, _ => exact Or.inl e
    | 1, _ => exact Or.inr e
/-- a literal bound -/
theorem wi_lit (a : Int32) (hi : Nat) (hh : hi < 2 ^ 31) : wi a 0 (OfNat.ofNat hi) = 0 ∨ (wi a 0 (OfNat.ofNat hi) = 1 ∧ ∃ c : Nat, c ≤ hi ∧ a = nI c) := wi_nat a hi hh
theorem RR_n {x : GX} {m : GM} (h : RR x m) : ∃ n : Nat, n ≤ 6 ∧ mI m 0 = nI n ∧ xS x 0 1 = nI n := by
  obtain ⟨⟨h1, _, _, _, _, _, _, _, n, h11, h12, _⟩, _⟩ := h
  exact ⟨n, h11, h12, h1.trans h12⟩
theorem RR_b {x : GX} {m : GM} (h : RR x m) {c : Nat} (hc : c < 36) : xB x 0 0 c = mA m 5 c := by
  obtain ⟨⟨_, _, _, _, _, _, _, h10, _⟩, _⟩ := h
  exact (h10 c hc).1
theorem eq_believes (a : Int32) : EQ (f_X4_believes a) (f_X5_believes a) := by
  intro x m h
  simp only [f_X4_believes, f_X5_believes, isCell_X, isCell_M, bnd_some]
  rcases wi_cell a with e | ⟨e, c, hc, rfl⟩
  · simp only [e, ifs, if_true]
    exact PP_same h
  · simp only [e, ifs, if_false]
    rw [grd_ok _ hc (by decide), grd_ok _ hc (by decide), nI_clamp (by omega), RR_b h hc]
    exact PP_same h
theorem KR_m {x x' : GX} {m m' : GM} (h : RR x m) (hs : SR 0 x' m') (hx : KX x x') (hm : KM m m') : RR x' m' := ⟨hs, KR_fr h.2 hx hm⟩
theorem eq_doubts (a : Int32) : EQ (f_X4_doubts a) (f_X5_doubts a) := by
  intro x m h
  simp only [f_X4_doubts, f_X5_doubts, within_X, in_M, bnd_some]
  rcases wi_lit a 99 (by decide) with e | ⟨e, c, hc, rfl⟩
  · simp only [e, ifs, if_false]
    exact PP_same h
  · simp only [e, ifs, if_true]
    obtain ⟨_, h2, _⟩ := id h.1
    rw [h2]
    exact PP_mk rfl rfl (KR_m h (SR_doubt h.1 hc) (EX_KX (EX_sS 0 x _ _) (by decide)) ⟨mI_n _ _ (by decide), mI_n _ _ (by decide), mI_n _ _ (by decide), mI_n _ _ (by decide), mI_n _ _ (by decide), mI_n _ _ (by decide), rfl, rfl, rfl, fun _ _ _ => rfl⟩)
theorem b1L (c : Nat) (hc : c < 64) {i : Nat} (hi : i < 64) : bL (slL 1 (nI c)) i = decide (i = c) := by
  rw [bL_shl c hc _ hi, bL_1]
  by_cases h : i = c
  · subst h; simp
  · by_cases q : c ≤ i
    · have : ¬ (i - c = 0) := by omega
      simp [h, q, this]
    · simp [h, q]
theorem eq_rock (a b : Int32) : EQ (f_X4_rock a b) (f_X5_rock a b) := by
  intro x m h
  simp only [f_X4_rock, f_X5_rock, isCell_X, isCell_M, within_X, in_M, bnd_some]
  rcases wi_cell a with e | ⟨e, c, hc, rfl⟩
  · simp only [e, ifs, if_false]
    exact PP_same h
  · simp only [e, ifs, if_true]
    rcases wi_b b with e | ⟨e, hb⟩
    · simp only [e, ifs, if_false]
      exact PP_same h
    · simp only [e, ifs, if_true]
      rw [hasRock_X 0 c (by omega), hasRock_M c (by omega), bnd_some, bnd_some]
      have h5 : xR x 0 = mL m 0 := by obtain ⟨_, _, _, _, h5, _⟩ := id h.1; exact h5
      have key : ∀ (r : Int32), PP (b_X4_rock_38 (nI c) b r x) (b_X5_rock_35 (nI c) b r m) := by
        intro r
        have fin : ∀ v : Int64, (xR x 0 &&& (slL 1 (nI c) ^^^ -1) ||| slL b.toInt64 (nI c)) = v → (∀ i, i < 64 → 36 ≤ i → bL v i = false) → PP (b_X4_rock_38 (nI c) b r x) (some (r, tL m 0 v)) := by
          intro v hv hh
          subst hv
          have hR := SR_rocks (xR x 0 &&& (slL 1 (nI c) ^^^ -1) ||| slL b.toInt64 (nI c)) h.1
          obtain ⟨_, a1, a2, a3, a4, a5, a6, a7⟩ := h
          refine PP_mk (x' := sR x 0 (xR x 0 &&& (slL 1 (nI c) ^^^ -1) ||| slL b.toInt64 (nI c))) ?_ rfl ⟨hR, TXR_fr a1 rfl (fun _ => ⟨rfl, rfl⟩) rfl rfl rfl rfl, TPR_fr a2 rfl rfl rfl rfl, SHR_fr a3 rfl rfl rfl rfl rfl, IMR_fr a4 rfl rfl (xR_z _ _ (by decide)) rfl rfl rfl rfl (mL_n _ _ (by decide)) rfl rfl rfl rfl, KNR_fr a5 rfl rfl rfl, a6, ?_⟩
          · unfold b_X4_rock_38
            rw [bnd_some]
          · intro i h1 h2
            rw [mL_s, mL_n _ _ (by decide)]
            exact ⟨hh i h1 h2, (a7 i h1 h2).2⟩
        have hz : ∀ i, bL (slL (0 : Int64) (nI c)) i = false ∨ 64 ≤ i := by
          intro i
          rcases Nat.lt_or_ge i 64 with q | q
          · left; rw [bL_shl c (by omega) _ q, bL_0, Bool.and_false]
          · exact Or.inr q
        have hr : ∀ i, i < 64 → 36 ≤ i → bL (mL m 0) i = false := fun i h1 h2 => by
          obtain ⟨_, _, _, _, _, _, _, a7⟩ := h
          exact (a7 i h1 h2).1
        unfold b_X5_rock_35
        rcases hb with rfl | rfl
        · rw [if_pos (by decide), bnd_some]
          refine fin _ ?_ ?_
          · apply bL_ext
            intro i hi
            rw [bL_or, h5, show (0 : Int32).toInt64 = 0 by decide]
            rcases hz i with q | q
            · rw [q, Bool.or_false]
            · omega
          · intro i h1 h2
            rw [bL_and, hr i h1 h2, Bool.false_and]
        · rw [if_neg (by decide), bnd_some]
          refine fin _ ?_ ?_
          · apply bL_ext
            intro i hi
            rw [bL_or, bL_or, bL_and, bL_xor, h5, show (1 : Int32).toInt64 = 1 by decide, b1L c (by omega) hi, bL_m1 i hi]
            by_cases q : i = c
            · simp [q]
            · simp [q]
          · intro i h1 h2
            have : ¬ i = c := by omega
            rw [bL_or, hr i h1 h2, b1L c (by omega) h1]
            simp [this]
      by_cases q : bL (mL m 0) c = true
      · rw [h5, if_pos q]
        simp only [ifs, if_false]
        exact key 1
      · rw [h5, if_neg q]
        simp only [ifs, if_true]
        exact key 0
theorem eq_tell (a b : Int32) : EQ (f_X4_tell a b) (f_X5_tell a b) := by
  intro x m h
  simp only [f_X4_tell, f_X5_tell, isCell_X, isCell_M, within_X, in_M, bnd_some]
  rcases wi_cell a with e | ⟨e, c, hc, rfl⟩
  · simp only [e, ifs, if_false]
    exact PP_same h
  · simp only [e, ifs, if_true]
    rcases wi_rng b (-99) 99 with e | ⟨e, b1, b2⟩
    · simp only [e, ifs, if_false]
      exact PP_same h
    · simp only [e, ifs, if_true]
      obtain ⟨j, hj, e1, e2⟩ := hear_pair h.1 hc b1 b2
      rw [e1, e2, bnd_some, bnd_some, grd_ok _ hc (by decide), grd_ok _ hc (by decide), nI_clamp (by omega), xB_s, mA_s, upd_s, upd_s]
      exact PP_mk rfl rfl (KR_m h (SR_belief h.1 hj) (EX_KX (EX_sB 0 x _ _ _) (by decide)) ⟨rfl, rfl, rfl, rfl, rfl, rfl, rfl, mA_n _ _ _ (by decide), mA_n _ _ _ (by decide), fun a _ _ => mA_n _ _ _ (by omega)⟩)
theorem eq_force (a : Int32) : EQ (f_X4_force a) (f_X5_force a) := by
  intro x m h
  obtain ⟨nt, n1, n6, ex, em, hT, t, ht, et⟩ := h.2.1
  simp only [f_X4_force, f_X5_force, within_X, in_M, bnd_some, ex, em]
  rcases wi_ship a nt (by omega) with e | ⟨e, c, hc, rfl⟩
  · simp only [e, ifs, if_false]
    exact PP_same h
  · simp only [e, ifs, if_true]
    have h4 : xS x 0 4 = mI m 5 := by obtain ⟨_, _, _, h4, _⟩ := id h.1; exact h4
    rw [h4]
    have hL := SR_law h.1 (t' := c) (by omega) (hT c hc)
    obtain ⟨_, a1, a2, a3, a4, a5, a6, a7⟩ := h
    refine PP_mk rfl rfl ⟨hL, ⟨nt, n1, n6, ex, (mI_n _ _ (by decide)).trans em, fun t ht => TR_fr (hT t ht) rfl rfl rfl rfl, c, hc, mI_s _ _ _⟩, TPR_fr a2 rfl rfl (mI_n _ _ (by decide)) rfl, SHR_fr a3 rfl rfl rfl rfl rfl, IMR_fr a4 rfl (xS_z _ _ _ (by decide)) rfl rfl (mI_n _ _ (by decide)) (mI_n _ _ (by decide)) (mI_n _ _ (by decide)) rfl rfl rfl rfl rfl, KNR_fr a5 (mI_n _ _ (by decide)) (mI_n _ _ (by decide)) rfl, a6, a7⟩
