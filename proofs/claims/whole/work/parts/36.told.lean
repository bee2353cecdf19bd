/-! ===== told nights ===== -/
theorem ifs2 : (((0 : Int32) ≠ 1) = True) ∧ (((1 : Int32) ≠ 1) = False) := by decide
theorem other_loop {x : GX} {m0 : GM} {f : Nat → Int32} {n s q sz : Nat} (hk : KP m0 f) (hn : mI m0 0 = nI n) (hn6 : n ≤ 6) (hs : s < n) (hq : q < 4) (hz : sz ≤ 40) (z1 : xH x q 1 = nI sz) (z2 : mA m0 12 q = nI sz) (z3 : ∀ i, i < 40 → xN x q i = mA m0 13 (40 * q + i)) :
    ∀ (k c F1 F2 : Nat) (x1 : GX) (m1 : GM), c + k = sz → k < F1 → k + 1 < F2 → EX 1 x x1 → FM (mk m0 f) m1 → SR 1 x1 m1 → ∃ r x2 m2, k_X4_firstOtherwise_10 F1 (nI s) q (nI c) x1 = some (r, x2) ∧ k_X5_unlike_9 F2 (nI q) (nI s) (-1) (nI c) m1 = some (r, m2) ∧ EX 1 x x2 ∧ EM m0 m2 := by
  have hs6 : s < 6 := by omega
  intro k
  induction k with
  | zero =>
    intro c F1 F2 x1 m1 hc h1 h2 hx hf hs1
    obtain ⟨F1, rfl⟩ : ∃ k, F1 = k + 1 := ⟨F1 - 1, by omega⟩
    obtain ⟨F2, rfl⟩ : ∃ k, F2 = k + 1 := ⟨F2 - 1, by omega⟩
    have y1 : xH x1 q 1 = nI sz := by obtain ⟨_, _, _, _, _, _, h7, _⟩ := hx; rw [h7]; exact z1
    have y2 : mA m1 12 q = nI sz := by rw [hf.2.2 12 (by decide) (by decide) (by decide) (by decide) (by decide), mk_o _ _ (by decide)]; exact z2
    obtain ⟨m2, e, c1⟩ := lays_FM hk hf
    refine ⟨-1, x1, m2, ?_, ?_, hx, c1⟩
    · show b_X4_firstOtherwise_10 (k_X4_firstOtherwise_10 F1) (nI s) q (nI c) x1 = _
      unfold b_X4_firstOtherwise_10
      rw [y1, if_pos (nI_le (by omega) (by omega))]
    · show b_X5_unlike_9 (k_X5_unlike_9 F2) (nI q) (nI s) (-1) (nI c) m1 = _
      unfold b_X5_unlike_9
      rw [grd_ok _ hq (by decide), nI_clamp (by omega), y2, if_pos (nI_le (by omega) (by omega)), e, bnd_some]
  | succ k ih =>
    intro c F1 F2 x1 m1 hc h1 h2 hx hf hs1
    obtain ⟨F1, rfl⟩ : ∃ k, F1 = k + 1 := ⟨F1 - 1, by omega⟩
    obtain ⟨F2, rfl⟩ : ∃ k, F2 = k + 1 := ⟨F2 - 1, by omega⟩
    have hc40 : c < 40 := by omega
    have y1 : xH x1 q 1 = nI sz := by obtain ⟨_, _, _, _, _, _, h7, _⟩ := hx; rw [h7]; exact z1
    have y2 : mA m1 12 q = nI sz := by rw [hf.2.2 12 (by decide) (by decide) (by decide) (by decide) (by decide), mk_o _ _ (by decide)]; exact z2
    obtain ⟨x2, m2, bb, e1, e2, a1, a2, a3, a4, _⟩ := thought_night hs1 hf hn hn6
    have hx2 := EX_trans hx a2
    obtain ⟨_, _, k3, _⟩ := SR_ship a1 a4 hn6 hs
    have y3 : xN x2 q c = mA m0 13 (40 * q + c) := by obtain ⟨_, _, _, _, _, _, _, h8, _⟩ := hx2; rw [h8]; exact z3 c hc40
    have y4 : mA m2 13 (40 * q + c) = mA m0 13 (40 * q + c) := by rw [a3.2.2 13 (by decide) (by decide) (by decide) (by decide) (by decide), mk_o _ _ (by decide)]
    have hX : k_X4_firstOtherwise_10 (F1 + 1) (nI s) q (nI c) x1 = if mA m2 2 s = mA m0 13 (40 * q + c) then k_X4_firstOtherwise_10 F1 (nI s) q (nI (c + 1)) x2 else some (nI c, x2) := by
      show b_X4_firstOtherwise_10 (k_X4_firstOtherwise_10 F1) (nI s) q (nI c) x1 = _
      unfold b_X4_firstOtherwise_10
      rw [y1, if_neg (nI_ge (by omega) (by omega)), if_neg (show ¬ (40 : Int32) ≤ nI c from nI_ge (b := 40) hc40 (by decide)), e1, bnd_some, grd_ok _ hs6 (by decide), grd_ok _ hc40 (by decide), nI_clamp (by omega), nI_clamp (by omega), k3, y3, show nI c + (1 : Int32) = nI (c + 1) from nI_add c 1]
    have hM : k_X5_unlike_9 (F2 + 1) (nI q) (nI s) (-1) (nI c) m1 = if mA m0 13 (40 * q + c) ≠ mA m2 2 s then k_X5_unlike_9 F2 (nI q) (nI s) (nI c) (nI (c + 1)) m2 else k_X5_unlike_9 F2 (nI q) (nI s) (-1) (nI (c + 1)) m2 := by
      show b_X5_unlike_9 (k_X5_unlike_9 F2) (nI q) (nI s) (-1) (nI c) m1 = _
      unfold b_X5_unlike_9
      have ea : (40 : Int32) * nI q + nI c = nI (40 * q + c) := by
        rw [show (40 : Int32) = nI 40 from rfl, pk_mul, nIs]
      rw [grd_ok _ hq (by decide), nI_clamp (show q < 2 ^ 31 by omega), y2, if_neg (nI_ge (by omega) (by omega)), if_neg (show ¬ (-1 : Int32) ≠ -1 from fun q => q rfl), e2, bnd_some, ea, grd_ok _ (by omega) (by decide), nI_clamp (show 40 * q + c < 2 ^ 31 by omega), grd_ok _ hs6 (by decide), nI_clamp (show s < 2 ^ 31 by omega), y4, show nI c + (1 : Int32) = nI (c + 1) from nI_add c 1]
    by_cases q0 : mA m2 2 s = mA m0 13 (40 * q + c)
    · rw [hX, hM, if_pos q0, if_neg (show ¬ mA m0 13 (40 * q + c) ≠ mA m2 2 s from fun r => r q0.symm)]
      exact ih (c + 1) F1 F2 x2 m2 (by omega) (by omega) (by omega) hx2 a3 a1
    · obtain ⟨m3, e, c1⟩ := lays_FM hk a3
      refine ⟨nI c, x2, m3, ?_, ?_, hx2, c1⟩
      · rw [hX, if_neg q0]
      · rw [hM, if_pos (show mA m0 13 (40 * q + c) ≠ mA m2 2 s from fun r => q0 r.symm)]
        obtain ⟨F2, rfl⟩ : ∃ k, F2 = k + 1 := ⟨F2 - 1, by omega⟩
        have y5 : mA m2 12 q = nI sz := by rw [a3.2.2 12 (by decide) (by decide) (by decide) (by decide) (by decide), mk_o _ _ (by decide)]; exact z2
        show b_X5_unlike_9 (k_X5_unlike_9 F2) (nI q) (nI s) (nI c) (nI (c + 1)) m2 = _
        unfold b_X5_unlike_9
        rw [grd_ok _ hq (by decide), nI_clamp (show q < 2 ^ 31 by omega), y5, e, bnd_some, if_pos (nI_m1 (by omega))]
        split <;> rfl
/-- the first number that is otherwise: both alike -/
theorem other_pair {x1 : GX} {m1 : GM} {n s q : Nat} (hs1 : SR 1 x1 m1) (hH : SHR x1 m1) (hn : mI m1 0 = nI n) (hn6 : n ≤ 6) (hs : s < n) (hq : q < 4) :
    ∃ r x2 m2, f_X4_firstOtherwise (nI q) (nI s) x1 = some (r, x2) ∧ f_X5_unlike (nI q) (nI s) m1 = some (r, m2) ∧ EX 1 x1 x2 ∧ EM m1 m2 := by
  obtain ⟨_, ⟨sz, hz, z1, z2⟩, z3⟩ := hH q hq
  obtain ⟨f, e2, hk⟩ := keeps_spec m1
  obtain ⟨r, x2, m2, c1, c2, c3, c4⟩ := other_loop (x := x1) hk hn hn6 hs hq hz z1 z2 z3 sz 0 FU FU x1 (mk m1 f) (by omega) (by show _ < 1000; omega) (by show _ < 1000; omega) (EX_refl _ _) (FM_refl _) (SR_mk f hs1)
  refine ⟨r, x2, m2, ?_, ?_, c3, c4⟩
  · unfold f_X4_firstOtherwise
    rw [grd_ok _ hq (by decide), nI_clamp (by omega)]
    exact c1
  · unfold f_X5_unlike
    rw [e2, bnd_some]
    exact c2
theorem wi_sheet (a : Int32) : wi a 0 3 = 0 ∨ (wi a 0 3 = 1 ∧ ∃ q : Nat, q < 4 ∧ a = nI q) := by
  rcases wi_nat a 3 (by decide) with h | ⟨h, c, hc, e⟩
  · exact Or.inl h
  · exact Or.inr ⟨h, c, by omega, e⟩
theorem wrong_pair (a : Int32) {x : GX} {m : GM} (h : RR x m) : ∃ r : Int32, f_X4_refusalOfTold a x = some (r, x) ∧ f_X5_sheetWrong a m = some (r, m) ∧ (r = 0 ∨ r ≠ 0) ∧ (r = 0 → ∃ q : Nat, q < 4 ∧ a = nI q) := by
  obtain ⟨_, _, _, hS, _⟩ := id h
  unfold f_X4_refusalOfTold f_X5_sheetWrong
  rw [isSheet_X, in_M, bnd_some, bnd_some]
  rcases wi_sheet a with e | ⟨e, q, hq, rfl⟩
  · simp only [e, ifs, if_false]
    exact ⟨-2, rfl, rfl, Or.inr (by decide), fun r => absurd r (by decide)⟩
  · simp only [e, ifs, if_true]
    obtain ⟨z0, ⟨sz, hz, z1, z2⟩, z3⟩ := hS q hq
    have g1 : ∀ {α : Type} (r : Option α), grd (nI q) 4 r = r := fun r => grd_ok r hq (by decide)
    simp only [g1, nI_clamp (show q < 2 ^ 31 by omega), z0, z1, z2]
    by_cases q1 : mA m 11 q ≠ -1
    · rw [if_pos q1, if_pos q1]
      by_cases q2 : nI sz ≤ (20 : Int32)
      · rw [if_pos q2, if_pos q2]; exact ⟨0, rfl, rfl, Or.inl rfl, fun _ => ⟨q, hq, rfl⟩⟩
      · rw [if_neg q2, if_neg q2]; exact ⟨-2, rfl, rfl, Or.inr (by decide), fun r => absurd r (by decide)⟩
    · rw [if_neg q1, if_neg q1]; exact ⟨-11, rfl, rfl, Or.inr (by decide), fun r => absurd r (by decide)⟩
theorem refuse_pair (a b : Int32) {x : GX} {m : GM} {n : Nat} (h : RR x m) (hn : mI m 0 = nI n) (hx : xS x 0 1 = nI n) (hn6 : n ≤ 6) : ∃ r : Int32, f_X4_refusalToJudge a b x = some (r, x) ∧ f_X5_toldWrong a b m = some (r, m) ∧ (r = 0 → ∃ q s : Nat, q < 4 ∧ a = nI q ∧ s < n ∧ b = nI s) := by
  obtain ⟨r, e1, e2, hr, hq⟩ := wrong_pair a h
  unfold f_X4_refusalToJudge f_X5_toldWrong
  rw [e1, e2, bnd_some, bnd_some]
  rcases hr with rfl | hr
  · obtain ⟨q, hq4, rfl⟩ := hq rfl
    rw [if_pos rfl, if_pos rfl, isShip_X, isShip_M, hn, hx, bnd_some, bnd_some]
    rcases wi_ship b n (by omega) with e | ⟨e, s, hs, rfl⟩
    · simp only [e, ifs, if_true]
      exact ⟨-5, rfl, rfl, fun r => absurd r (by decide)⟩
    · simp only [e, ifs, if_false]
      exact ⟨0, rfl, rfl, fun _ => ⟨q, s, hq4, rfl, hs, rfl⟩⟩
  · rw [if_neg hr, if_neg hr]
    exact ⟨r, rfl, rfl, fun q => absurd q hr⟩
theorem SHR_EX {x x' : GX} {m m' : GM} {z : Nat} (h : SHR x m) (hx : EX z x x') (h3 : mA m' 11 = mA m 11) (h4 : mA m' 12 = mA m 12) (h5 : mA m' 13 = mA m 13) : SHR x' m' := by
  obtain ⟨_, _, _, _, _, _, h7, h8, _⟩ := hx
  exact SHR_fr h h7 h8 h3 h4 h5
theorem EM_sh {m m' : GM} (h : EM m m') : mA m' 11 = mA m 11 ∧ mA m' 12 = mA m 12 ∧ mA m' 13 = mA m 13 := ⟨h.2.2.1 11 (by decide) (by decide) (by decide) (by decide) (by decide) (by decide), h.2.2.1 12 (by decide) (by decide) (by decide) (by decide) (by decide) (by decide), h.2.2.1 13 (by decide) (by decide) (by decide) (by decide) (by decide) (by decide)⟩
/-- think, set one thing otherwise on both sides, and see which number is otherwise -/
theorem judge_iter {x : GX} {m : GM} {R : GM → GM} {x1 : GX} {m1 : GM} {n s q : Nat} (fx : GX → GX) (fm : GM → GM) (h : RR x m) (hb : RB x m R x1 m1) (hn : mI m 0 = nI n) (hn6 : n ≤ 6) (hs : s < n) (hq : q < 4)
    (hf : ∀ (y : GX), SR 1 y (R m1) → EX 1 x1 y → SR 1 (fx y) (fm m1)) (he : ∀ y, EX 1 y (fx y)) (hr : ∀ m2, EM (fm m1) m2 → EM (R m1) (R m2)) (hm : ∀ k, (k = 11 ∨ k = 12 ∨ k = 13) → mA (fm m1) k = mA (R m1) k) (hi : mI (fm m1) 0 = mI (R m1) 0) :
    ∃ x2 x3 m3 r, f_X4_think x1 = some ((), x2) ∧ f_X4_firstOtherwise (nI q) (nI s) (fx x2) = some (r, x3) ∧ f_X5_unlike (nI q) (nI s) (fm m1) = some (r, m3) ∧ RB x m R x3 m3 := by
  have hR : RR x1 (R m1) := RB_RR h hb
  obtain ⟨x2, e1, a1, a2⟩ := think_pair hR.1
  have hS := hf x2 a2 a1
  have hH : SHR (fx x2) (fm m1) := by
    obtain ⟨_, _, _, hH, _⟩ := id h
    obtain ⟨s1, s2, s3⟩ := EM_sh hb.2
    exact SHR_EX hH (EX_trans hb.1 (EX_trans a1 (he x2))) ((hm 11 (Or.inl rfl)).trans s1) ((hm 12 (Or.inr (Or.inl rfl))).trans s2) ((hm 13 (Or.inr (Or.inr rfl))).trans s3)
  have hn1 : mI (fm m1) 0 = nI n := (hi.trans (hb.2.2.1 0 (by decide))).trans hn
  obtain ⟨r, x3, m3, c1, c2, c3, c4⟩ := other_pair hS hH hn1 hn6 hs hq
  exact ⟨x2, x3, m3, r, e1, c1, c2, EX_trans hb.1 (EX_trans a1 (EX_trans (he x2) c3)), EM_trans hb.2 (hr m3 c4)⟩
theorem eq_judge (a b : Int32) : EQ (f_X4_judge a b) (f_X5_judge a b) := by
  intro x m h
  obtain ⟨n, hn6, hm, hx⟩ := RR_n h
  obtain ⟨r, e1, e2, hr⟩ := refuse_pair a b h hm hx hn6
  unfold f_X4_judge f_X5_judge
  rw [e1, e2, bnd_some, bnd_some]
  by_cases q0 : r = 0
  · obtain ⟨q, s, hq, rfl, hs, rfl⟩ := hr q0
    subst q0
    rw [if_pos rfl, if_neg (show ¬ (0 : Int32) ≠ 0 from fun q => q rfl)]
    obtain ⟨x2, x3, m3, r, c1, c2, c3, hb⟩ := judge_iter (R := id) (fun y => y) (fun m => m) h ⟨EX_refl _ _, EM_refl m⟩ hm hn6 hs hq (fun _ k _ => k) (fun y => EX_refl _ _) (fun _ k => k) (fun _ _ => rfl) rfl
    rw [c1, bnd_some, c2, bnd_some, c3, bnd_some]
    exact PP_same (RB_RR h hb)
  · rw [if_neg q0, if_pos q0]
    exact PP_same h
/-! ===== kinds ===== -/
theorem kinds_comm (m : GM) (s : Nat) (k v w : Int32) : tA (tA m 1 s v) 0 s k = tA (tA m 0 s k) 1 s v := tA_sw m s s v k (by decide)
theorem kinds_loop0 {x : GX} {m : GM} {n s q : Nat} {k0 m0 : Int32} (h : RR x m) (hn : mI m 0 = nI n) (hn6 : n ≤ 6) (hs : s < n) (hq : q < 4) :
    ∀ (k c F1 F2 : Nat) (A : Int32) (x1 : GX) (m1 : GM), c + k = 6 → k < F1 → k < F2 → RB x m (fun m => tA (tA m 0 s k0) 1 s m0) x1 m1 → PP (k_X4_kinds_70b F1 (nI q) (nI s) 6 A (nI c) x1) (k_X5_kinds_50 F2 (nI q) (nI s) 0 k0 m0 A (nI c) m1) := by
  have hs6 : s < 6 := by omega
  intro k
  induction k with
  | zero =>
    intro c F1 F2 A x1 m1 hc h1 h2 hb
    obtain ⟨F1, rfl⟩ : ∃ k, F1 = k + 1 := ⟨F1 - 1, by omega⟩
    obtain ⟨F2, rfl⟩ : ∃ k, F2 = k + 1 := ⟨F2 - 1, by omega⟩
    have : c = 6 := by omega
    subst this
    show PP (b_X4_kinds_70b (k_X4_kinds_70b F1) (nI q) (nI s) 6 A (nI 6) x1) (b_X5_kinds_50 (k_X5_kinds_50 F2) (nI q) (nI s) 0 k0 m0 A (nI 6) m1)
    unfold b_X4_kinds_70b b_X5_kinds_50 b_X5_kinds_63
    rw [if_pos (by decide), if_neg (by decide), if_pos (by decide), grd_ok _ hs6 (by decide), nI_clamp (by omega), bnd_some, grd_ok _ hs6 (by decide), bnd_some]
    exact PP_same (RB_RR h hb)
  | succ k ih =>
    intro c F1 F2 A x1 m1 hc h1 h2 hb
    obtain ⟨F1, rfl⟩ : ∃ k, F1 = k + 1 := ⟨F1 - 1, by omega⟩
    obtain ⟨F2, rfl⟩ : ∃ k, F2 = k + 1 := ⟨F2 - 1, by omega⟩
    have hc6 : c < 6 := by omega
    obtain ⟨x2, x3, m3, r, c1, c2, c3, hb'⟩ := judge_iter (fun y => sB y 1 1 s (nI c)) (fun m => tA (tA m 0 s (nI c)) 1 s m0) h hb hn hn6 hs hq
      (fun y hy _ => by
        have := SR_kind (s := s) (nI c) hy
        show SR 1 _ (tA (tA m1 0 s (nI c)) 1 s m0)
        have e : tA ((fun m => tA (tA m 0 s k0) 1 s m0) m1) 0 s (nI c) = tA (tA m1 0 s (nI c)) 1 s m0 := by
          show tA (tA (tA m1 0 s k0) 1 s m0) 0 s (nI c) = _
          rw [tA_sw _ s s m0 (nI c) (by decide), tA_tA]
        rw [e] at this
        exact this)
      (fun y => EX_sB _ _ _ _ _)
      (fun m2 k => by
        have := EM_tA 1 s m0 (EM_tA 0 s k0 k)
        show EM (tA (tA m1 0 s k0) 1 s m0) (tA (tA m2 0 s k0) 1 s m0)
        have e : tA (tA (tA (tA m1 0 s (nI c)) 1 s m0) 0 s k0) 1 s m0 = tA (tA m1 0 s k0) 1 s m0 := by
          rw [tA_sw _ s s m0 k0 (by decide), tA_tA, tA_tA]
        rw [← e]; exact this)
      (fun k hk => by rcases hk with rfl | rfl | rfl <;> rfl) rfl
    show PP (b_X4_kinds_70b (k_X4_kinds_70b F1) (nI q) (nI s) 6 A (nI c) x1) (b_X5_kinds_50 (k_X5_kinds_50 F2) (nI q) (nI s) 0 k0 m0 A (nI c) m1)
    unfold b_X4_kinds_70b b_X5_kinds_50 b_X5_kinds_63 b_X5_kinds_82 b_X5_kinds_100
    have hg : ¬ (6 : Int32) ≤ nI c := nI_ge (b := 6) hc6 (by decide)
    rw [if_neg hg, if_neg (show ¬ (0 : Int32) ≠ 0 from fun q => q rfl), if_neg hg, if_neg (show ¬ (0 : Int32) ≠ 0 from fun q => q rfl), c1, bnd_some]
    have g1 : ∀ {α : Type} (r : Option α), grd (nI s) 6 r = r := fun r => grd_ok r hs6 (by decide)
    simp only [g1, nI_clamp (show s < 2 ^ 31 by omega), bnd_some, ifs2, if_true, if_false, c2, c3, or0I, show nI c + (1 : Int32) = nI (c + 1) from nI_add c 1]
    by_cases q1 : r ≠ -1
    · rw [if_pos q1, if_pos q1]
      exact ih (c + 1) F1 F2 A x3 m3 (by omega) (by omega) (by omega) hb'
    · rw [if_neg q1, if_neg q1]
      exact ih (c + 1) F1 F2 _ x3 m3 (by omega) (by omega) (by omega) hb'
theorem kinds_loop1 {x : GX} {m : GM} {n s q : Nat} {k0 m0 : Int32} (h : RR x m) (hn : mI m 0 = nI n) (hn6 : n ≤ 6) (hs : s < n) (hq : q < 4) :
    ∀ (k c F1 F2 : Nat) (A : Int32) (x1 : GX) (m1 : GM), c + k = 10 → k < F1 → k < F2 → RB x m (fun m => tA (tA m 0 s k0) 1 s m0) x1 m1 → PP (k_X4_kinds_70 F1 (nI q) (nI s) 10 A (nI c) x1) (k_X5_kinds_50 F2 (nI q) (nI s) 1 k0 m0 A (nI c) m1) := by
  have hs6 : s < 6 := by omega
  intro k
  induction k with
  | zero =>
    intro c F1 F2 A x1 m1 hc h1 h2 hb
    obtain ⟨F1, rfl⟩ : ∃ k, F1 = k + 1 := ⟨F1 - 1, by omega⟩
    obtain ⟨F2, rfl⟩ : ∃ k, F2 = k + 1 := ⟨F2 - 1, by omega⟩
    have : c = 10 := by omega
    subst this
    show PP (b_X4_kinds_70 (k_X4_kinds_70 F1) (nI q) (nI s) 10 A (nI 10) x1) (b_X5_kinds_50 (k_X5_kinds_50 F2) (nI q) (nI s) 1 k0 m0 A (nI 10) m1)
    unfold b_X4_kinds_70 b_X5_kinds_50 b_X5_kinds_63
    rw [if_pos (by decide), if_pos (by decide), if_pos (by decide), grd_ok _ hs6 (by decide), nI_clamp (by omega), bnd_some, grd_ok _ hs6 (by decide), bnd_some]
    exact PP_same (RB_RR h hb)
  | succ k ih =>
    intro c F1 F2 A x1 m1 hc h1 h2 hb
    obtain ⟨F1, rfl⟩ : ∃ k, F1 = k + 1 := ⟨F1 - 1, by omega⟩
    obtain ⟨F2, rfl⟩ : ∃ k, F2 = k + 1 := ⟨F2 - 1, by omega⟩
    have hc6 : c < 10 := by omega
    obtain ⟨x2, x3, m3, r, c1, c2, c3, hb'⟩ := judge_iter (fun y => sB y 1 2 s (nI c)) (fun m => tA (tA m 0 s k0) 1 s (nI c)) h hb hn hn6 hs hq
      (fun y hy _ => by
        have := SR_more (s := s) (nI c) hy
        show SR 1 _ (tA (tA m1 0 s k0) 1 s (nI c))
        have e : tA ((fun m => tA (tA m 0 s k0) 1 s m0) m1) 1 s (nI c) = tA (tA m1 0 s k0) 1 s (nI c) := tA_tA _ _ _ _ _
        rw [e] at this
        exact this)
      (fun y => EX_sB _ _ _ _ _)
      (fun m2 k => by
        have := EM_tA 1 s m0 (EM_tA 0 s k0 k)
        show EM (tA (tA m1 0 s k0) 1 s m0) (tA (tA m2 0 s k0) 1 s m0)
        have e : tA (tA (tA (tA m1 0 s k0) 1 s (nI c)) 0 s k0) 1 s m0 = tA (tA m1 0 s k0) 1 s m0 := by
          rw [tA_sw _ s s (nI c) k0 (by decide), tA_tA, tA_tA]
        rw [← e]; exact this)
      (fun k hk => by rcases hk with rfl | rfl | rfl <;> rfl) rfl
    show PP (b_X4_kinds_70 (k_X4_kinds_70 F1) (nI q) (nI s) 10 A (nI c) x1) (b_X5_kinds_50 (k_X5_kinds_50 F2) (nI q) (nI s) 1 k0 m0 A (nI c) m1)
    unfold b_X4_kinds_70 b_X5_kinds_50 b_X5_kinds_63 b_X5_kinds_82 b_X5_kinds_100
    have hg : ¬ (10 : Int32) ≤ nI c := nI_ge (b := 10) hc6 (by decide)
    rw [if_neg hg, if_pos (show (1 : Int32) ≠ 0 by decide), if_neg hg, if_pos (show (1 : Int32) ≠ 0 by decide), c1, bnd_some]
    have g1 : ∀ {α : Type} (r : Option α), grd (nI s) 6 r = r := fun r => grd_ok r hs6 (by decide)
    simp only [g1, nI_clamp (show s < 2 ^ 31 by omega), bnd_some, ifs2, if_true, if_false, c2, c3, or0I, show nI c + (1 : Int32) = nI (c + 1) from nI_add c 1]
    by_cases q1 : r ≠ -1
    · rw [if_pos q1, if_pos q1]
      exact ih (c + 1) F1 F2 A x3 m3 (by omega) (by omega) (by omega) hb'
    · rw [if_neg q1, if_neg q1]
      exact ih (c + 1) F1 F2 _ x3 m3 (by omega) (by omega) (by omega) hb'
theorem eq_kinds (a b c : Int32) : EQ (f_X4_kinds a b c) (f_X5_kinds a b c) := by
  intro x m h
  obtain ⟨n, hn6, hm, hx⟩ := RR_n h
  obtain ⟨r, e1, e2, hr⟩ := refuse_pair a b h hm hx hn6
  unfold f_X4_kinds f_X5_kinds
  rw [e1, e2, bnd_some, bnd_some]
  by_cases q0 : r = 0
  · obtain ⟨q, s, hq, rfl, hs, rfl⟩ := hr q0
    subst q0
    rw [if_pos rfl, if_pos rfl, within_X, in_M, bnd_some, bnd_some]
    have hbase : RB x m (fun m' => tA (tA m' 0 s (mA m 0 s)) 1 s (mA m 1 s)) x m := by
      refine ⟨EX_refl _ _, ?_⟩
      show EM m (tA (tA m 0 s (mA m 0 s)) 1 s (mA m 1 s))
      rw [tA_id m 0 s _ rfl, tA_id m 1 s _ rfl]
      exact EM_refl m
    rcases wi_b c with e | ⟨e, hc⟩
    · simp only [e, ifs, if_false]
      exact PP_same h
    · simp only [e, ifs, if_true]
      rw [grd_ok _ (by omega) (by decide), bnd_some, grd_ok _ (by omega) (by decide), bnd_some, nI_clamp (by omega)]
      rcases hc with rfl | rfl
      · rw [if_neg (show ¬ (0 : Int32) ≠ 0 from fun q => q rfl)]
        unfold b_X4_kinds_49b
        rw [if_neg (show ¬ (0 : Int32) ≠ 0 from fun q => q rfl)]
        exact kinds_loop0 h hm hn6 hs hq 6 0 FU FU 0 x m rfl (by decide) (by decide) hbase
      · rw [if_pos (show (1 : Int32) ≠ 0 by decide)]
        unfold b_X4_kinds_49
        rw [if_pos (show (1 : Int32) ≠ 0 by decide)]
        exact kinds_loop1 h hm hn6 hs hq 10 0 FU FU 0 x m rfl (by decide) (by decide) hbase
  · rw [if_neg q0, if_neg q0]
    exact PP_same h
/-! ===== places, draughts, whose, laws ===== -/
theorem places_loop {x : GX} {m : GM} {n s q : Nat} {c0 : Int32} (h : RR x m) (hn : mI m 0 = nI n) (hn6 : n ≤ 6) (hs : s < n) (hq : q < 4) :
    ∀ (k c F1 F2 : Nat) (A : Int64) (x1 : GX) (m1 : GM), c + k = 36 → k < F1 → k < F2 → RB x m (fun m => tA m 2 s c0) x1 m1 → PP (k_X4_places_18 F1 (nI q) (nI s) A (nI c) x1) (k_X5_places_26 F2 (nI q) (nI s) c0 A (nI c) m1) := by
  have hs6 : s < 6 := by omega
  intro k
  induction k with
  | zero =>
    intro c F1 F2 A x1 m1 hc h1 h2 hb
    obtain ⟨F1, rfl⟩ : ∃ k, F1 = k + 1 := ⟨F1 - 1, by omega⟩
    obtain ⟨F2, rfl⟩ : ∃ k, F2 = k + 1 := ⟨F2 - 1, by omega⟩
    have : c = 36 := by omega
    subst this
    show PP (b_X4_places_18 (k_X4_places_18 F1) (nI q) (nI s) A (nI 36) x1) (b_X5_places_26 (k_X5_places_26 F2) (nI q) (nI s) c0 A (nI 36) m1)
    unfold b_X4_places_18 b_X5_places_26
    rw [if_pos (by decide), if_pos (by decide), grd_ok _ hs6 (by decide), nI_clamp (by omega), bnd_some]
    exact PP_same (RB_RR h hb)
  | succ k ih =>
    intro c F1 F2 A x1 m1 hc h1 h2 hb
    obtain ⟨F1, rfl⟩ : ∃ k, F1 = k + 1 := ⟨F1 - 1, by omega⟩
    obtain ⟨F2, rfl⟩ : ∃ k, F2 = k + 1 := ⟨F2 - 1, by omega⟩
    have hc6 : c < 36 := by omega
    obtain ⟨x2, x3, m3, r, c1, c2, c3, hb'⟩ := judge_iter (fun y => sB y 1 3 s (nI c)) (fun m => tA m 2 s (nI c)) h hb hn hn6 hs hq
      (fun y hy _ => by
        have := SR_cell (s := s) hy hc6
        have e : tA ((fun m => tA m 2 s c0) m1) 2 s (nI c) = tA m1 2 s (nI c) := tA_tA _ _ _ _ _
        rw [e] at this
        exact this)
      (fun y => EX_sB _ _ _ _ _)
      (fun m2 k => by
        have := EM_tA 2 s c0 k
        have e : tA (tA m1 2 s (nI c)) 2 s c0 = tA m1 2 s c0 := tA_tA _ _ _ _ _
        rw [e] at this; exact this)
      (fun k hk => by rcases hk with rfl | rfl | rfl <;> rfl) rfl
    show PP (b_X4_places_18 (k_X4_places_18 F1) (nI q) (nI s) A (nI c) x1) (b_X5_places_26 (k_X5_places_26 F2) (nI q) (nI s) c0 A (nI c) m1)
    unfold b_X4_places_18 b_X5_places_26
    have hg : ¬ (36 : Int32) ≤ nI c := nI_ge (b := 36) hc6 (by decide)
    rw [if_neg hg, if_neg hg, c1, bnd_some]
    have g1 : ∀ {α : Type} (r : Option α), grd (nI s) 6 r = r := fun r => grd_ok r hs6 (by decide)
    simp only [g1, nI_clamp (show s < 2 ^ 31 by omega), bnd_some, c2, c3, or0L, show nI c + (1 : Int32) = nI (c + 1) from nI_add c 1]
    by_cases q1 : r ≠ -1
    · rw [if_pos q1, if_pos q1]
      exact ih (c + 1) F1 F2 A x3 m3 (by omega) (by omega) (by omega) hb'
    · rw [if_neg q1, if_neg q1]
      exact ih (c + 1) F1 F2 _ x3 m3 (by omega) (by omega) (by omega) hb'
theorem eq_places (a b : Int32) : EQ (f_X4_places a b) (f_X5_places a b) := by
  intro x m h
  obtain ⟨n, hn6, hm, hx⟩ := RR_n h
  obtain ⟨r, e1, e2, hr⟩ := refuse_pair a b h hm hx hn6
  unfold f_X4_places f_X5_places
  rw [e1, e2, bnd_some, bnd_some]
  by_cases q0 : r = 0
  · obtain ⟨q, s, hq, rfl, hs, rfl⟩ := hr q0
    subst q0
    rw [if_pos rfl, if_pos rfl, grd_ok _ (by omega) (by decide), bnd_some, nI_clamp (by omega)]
    refine places_loop h hm hn6 hs hq 36 0 FU FU 0 x m rfl (by decide) (by decide) ⟨EX_refl _ _, ?_⟩
    show EM m (tA m 2 s (mA m 2 s))
    rw [tA_id m 2 s _ rfl]
    exact EM_refl m
  · rw [if_neg q0, if_neg q0]
    exact PP_same h
theorem draughts_loop {x : GX} {m : GM} {n s q : Nat} {d0 w : Int32} (h : RR x m) (hn : mI m 0 = nI n) (hn6 : n ≤ 6) (hs : s < n) (hq : q < 4) :
    ∀ (k c F1 F2 : Nat) (A B : Int32) (x1 : GX) (m1 : GM), c + k = 100 → k < F1 → k < F2 → RB x m (fun m => tA m 3 s d0) x1 m1 → PP (k_X4_draughts_37 F1 (nI q) (nI s) w A B (nI c) x1) (k_X5_draughts_45 F2 (nI q) (nI s) w d0 A B (nI c) m1) := by
  have hs6 : s < 6 := by omega
  intro k
  induction k with
  | zero =>
    intro c F1 F2 A B x1 m1 hc h1 h2 hb
    obtain ⟨F1, rfl⟩ : ∃ k, F1 = k + 1 := ⟨F1 - 1, by omega⟩
    obtain ⟨F2, rfl⟩ : ∃ k, F2 = k + 1 := ⟨F2 - 1, by omega⟩
    have : c = 100 := by omega
    subst this
    show PP (b_X4_draughts_37 (k_X4_draughts_37 F1) (nI q) (nI s) w A B (nI 100) x1) (b_X5_draughts_45 (k_X5_draughts_45 F2) (nI q) (nI s) w d0 A B (nI 100) m1)
    unfold b_X4_draughts_37 b_X5_draughts_45
    rw [if_pos (show (99 : Int32) < nI 100 by decide), if_pos (show (99 : Int32) < nI 100 by decide), grd_ok _ hs6 (by decide), nI_clamp (by omega), bnd_some]
    by_cases qw : w ≠ 0
    · rw [if_pos qw, if_pos qw]; exact PP_same (RB_RR h hb)
    · rw [if_neg qw, if_neg qw]; exact PP_same (RB_RR h hb)
  | succ k ih =>
    intro c F1 F2 A B x1 m1 hc h1 h2 hb
    obtain ⟨F1, rfl⟩ : ∃ k, F1 = k + 1 := ⟨F1 - 1, by omega⟩
    obtain ⟨F2, rfl⟩ : ∃ k, F2 = k + 1 := ⟨F2 - 1, by omega⟩
    obtain ⟨x2, x3, m3, r, c1, c2, c3, hb'⟩ := judge_iter (fun y => sB y 1 4 s (nI c)) (fun m => tA m 3 s (nI c)) h hb hn hn6 hs hq
      (fun y hy _ => by
        have := SR_draught (s := s) (nI c) hy
        have e : tA ((fun m => tA m 3 s d0) m1) 3 s (nI c) = tA m1 3 s (nI c) := tA_tA _ _ _ _ _
        rw [e] at this
        exact this)
      (fun y => EX_sB _ _ _ _ _)
      (fun m2 k => by
        have := EM_tA 3 s d0 k
        have e : tA (tA m1 3 s (nI c)) 3 s d0 = tA m1 3 s d0 := tA_tA _ _ _ _ _
        rw [e] at this; exact this)
      (fun k hk => by rcases hk with rfl | rfl | rfl <;> rfl) rfl
    show PP (b_X4_draughts_37 (k_X4_draughts_37 F1) (nI q) (nI s) w A B (nI c) x1) (b_X5_draughts_45 (k_X5_draughts_45 F2) (nI q) (nI s) w d0 A B (nI c) m1)
    unfold b_X4_draughts_37 b_X5_draughts_45 b_X5_draughts_75 b_X5_draughts_89
    have hg : ¬ (99 : Int32) < nI c := nI_nlt (b := c) (a := 99) (by omega) (by decide)
    rw [if_neg hg, if_neg hg, c1, bnd_some]
    have g1 : ∀ {α : Type} (r : Option α), grd (nI s) 6 r = r := fun r => grd_ok r hs6 (by decide)
    simp only [g1, nI_clamp (show s < 2 ^ 31 by omega), bnd_some, c2, c3, show nI c + (1 : Int32) = nI (c + 1) from nI_add c 1]
    by_cases q1 : r ≠ -1
    · rw [if_pos q1, if_pos q1]
      simp only [ifs, if_true, Int32.add_zero]
      exact ih (c + 1) F1 F2 A B x3 m3 (by omega) (by omega) (by omega) hb'
    · rw [if_neg q1, if_neg q1]
      simp only [ifs, if_false]
      by_cases q2 : B ≠ -1
      · rw [if_pos q2, if_pos q2]
        exact ih (c + 1) F1 F2 _ _ x3 m3 (by omega) (by omega) (by omega) hb'
      · rw [if_neg q2, if_neg q2]
        exact ih (c + 1) F1 F2 _ _ x3 m3 (by omega) (by omega) (by omega) hb'
theorem eq_draughts (a b c : Int32) : EQ (f_X4_draughts a b c) (f_X5_draughts a b c) := by
  intro x m h
  obtain ⟨n, hn6, hm, hx⟩ := RR_n h
  obtain ⟨r, e1, e2, hr⟩ := refuse_pair a b h hm hx hn6
  unfold f_X4_draughts f_X5_draughts
  rw [e1, e2, bnd_some, bnd_some]
  by_cases q0 : r = 0
  · obtain ⟨q, s, hq, rfl, hs, rfl⟩ := hr q0
    subst q0
    rw [if_pos rfl, if_pos rfl, within_X, in_M, bnd_some, bnd_some]
    rcases wi_rng c 0 1 with e | ⟨e, _, _⟩
    · simp only [e, ifs, if_false]
      exact PP_same h
    · simp only [e, ifs, if_true]
      rw [grd_ok _ (by omega) (by decide), bnd_some, nI_clamp (by omega)]
      refine draughts_loop h hm hn6 hs hq 100 0 FU FU 0 (-1) x m rfl (by decide) (by decide) ⟨EX_refl _ _, ?_⟩
      show EM m (tA m 3 s (mA m 3 s))
      rw [tA_id m 3 s _ rfl]
      exact EM_refl m
  · rw [if_neg q0, if_neg q0]
    exact PP_same h
theorem whose_loop {n q : Nat} (hn6 : n ≤ 6) (hq : q < 4) :
    ∀ (k c F1 F2 : Nat) (A : Int32) (x : GX) (m : GM), c + k = n → k < F1 → k < F2 → RR x m → mI m 0 = nI n → PP (k_X4_whose_17 F1 (nI q) A (nI c) x) (k_X5_whose_17 F2 (nI q) A (nI c) m) := by
  intro k
  induction k with
  | zero =>
    intro c F1 F2 A x m hc h1 h2 h hn
    obtain ⟨F1, rfl⟩ : ∃ k, F1 = k + 1 := ⟨F1 - 1, by omega⟩
    obtain ⟨F2, rfl⟩ : ∃ k, F2 = k + 1 := ⟨F2 - 1, by omega⟩
    have hx : xS x 0 1 = nI n := h.1.1.trans hn
    show PP (b_X4_whose_17 (k_X4_whose_17 F1) (nI q) A (nI c) x) (b_X5_whose_17 (k_X5_whose_17 F2) (nI q) A (nI c) m)
    unfold b_X4_whose_17 b_X5_whose_17
    rw [hx, hn, if_pos (nI_le (by omega) (by omega)), if_pos (nI_le (by omega) (by omega))]
    exact PP_same h
  | succ k ih =>
    intro c F1 F2 A x m hc h1 h2 h hn
    obtain ⟨F1, rfl⟩ : ∃ k, F1 = k + 1 := ⟨F1 - 1, by omega⟩
    obtain ⟨F2, rfl⟩ : ∃ k, F2 = k + 1 := ⟨F2 - 1, by omega⟩
    have hx : xS x 0 1 = nI n := h.1.1.trans hn
    obtain ⟨x2, x3, m3, r, c1, c2, c3, hb⟩ := judge_iter (s := c) (R := id) (fun y => y) (fun m => m) h ⟨EX_refl _ _, EM_refl m⟩ hn hn6 (by omega) hq (fun _ k _ => k) (fun y => EX_refl _ _) (fun _ k => k) (fun _ _ => rfl) rfl
    have hR : RR x3 m3 := RB_RR h hb
    have hn3 : mI m3 0 = nI n := (hb.2.2.1 0 (by decide)).trans hn
    show PP (b_X4_whose_17 (k_X4_whose_17 F1) (nI q) A (nI c) x) (b_X5_whose_17 (k_X5_whose_17 F2) (nI q) A (nI c) m)
    unfold b_X4_whose_17 b_X5_whose_17
    rw [hx, hn, if_neg (nI_ge (by omega) (by omega)), if_neg (nI_ge (by omega) (by omega)), c1, bnd_some]
    simp only [bnd_some, ifs2, if_true, if_false, c2, c3, or0I, show nI c + (1 : Int32) = nI (c + 1) from nI_add c 1]
    by_cases q1 : r ≠ -1
    · rw [if_pos q1, if_pos q1]
      exact ih (c + 1) F1 F2 A x3 m3 (by omega) (by omega) (by omega) hR hn3
    · rw [if_neg q1, if_neg q1]
      exact ih (c + 1) F1 F2 _ x3 m3 (by omega) (by omega) (by omega) hR hn3
theorem eq_whose (a : Int32) : EQ (f_X4_whose a) (f_X5_whose a) := by
  intro x m h
  obtain ⟨n, hn6, hm, hx⟩ := RR_n h
  obtain ⟨r, e1, e2, _, hr⟩ := wrong_pair a h
  unfold f_X4_whose f_X5_whose
  rw [e1, e2, bnd_some, bnd_some]
  by_cases q0 : r = 0
  · obtain ⟨q, hq, rfl⟩ := hr q0
    subst q0
    rw [if_pos rfl, if_pos rfl]
    exact whose_loop hn6 hq n 0 FU FU 0 x m (by omega) (by show _ < 1000; omega) (by show _ < 1000; omega) h hm
  · rw [if_neg q0, if_neg q0]
    exact PP_same h
theorem laws_loop {x : GX} {m : GM} {n s q nt t0 : Nat} (h : RR x m) (hn : mI m 0 = nI n) (hn6 : n ≤ 6) (hs : s < n) (hq : q < 4) (hnt : nt ≤ 6) (ex : xI x 0 = nI nt) (em : mI m 4 = nI nt) (hT : ∀ t, t < nt → TR x m t) :
    ∀ (k c F1 F2 : Nat) (A : Int32) (x1 : GX) (m1 : GM), c + k = nt → k < F1 → k < F2 → RB x m (fun m => tI m 5 (nI t0)) x1 m1 → PP (k_X4_laws_19 F1 (nI q) (nI s) A (nI c) x1) (k_X5_laws_25 F2 (nI q) (nI s) (nI t0) A (nI c) m1) := by
  intro k
  induction k with
  | zero =>
    intro c F1 F2 A x1 m1 hc h1 h2 hb
    obtain ⟨F1, rfl⟩ : ∃ k, F1 = k + 1 := ⟨F1 - 1, by omega⟩
    obtain ⟨F2, rfl⟩ : ∃ k, F2 = k + 1 := ⟨F2 - 1, by omega⟩
    have y1 : xI x1 0 = nI nt := by rw [hb.1.1]; exact ex
    have y2 : mI m1 4 = nI nt := (show mI m1 4 = mI m 4 from hb.2.2.1 4 (by decide)).trans em
    show PP (b_X4_laws_19 (k_X4_laws_19 F1) (nI q) (nI s) A (nI c) x1) (b_X5_laws_25 (k_X5_laws_25 F2) (nI q) (nI s) (nI t0) A (nI c) m1)
    unfold b_X4_laws_19 b_X5_laws_25
    rw [y1, y2, if_pos (nI_le (by omega) (by omega)), if_pos (nI_le (by omega) (by omega)), bnd_some]
    exact PP_same (RB_RR h hb)
  | succ k ih =>
    intro c F1 F2 A x1 m1 hc h1 h2 hb
    obtain ⟨F1, rfl⟩ : ∃ k, F1 = k + 1 := ⟨F1 - 1, by omega⟩
    obtain ⟨F2, rfl⟩ : ∃ k, F2 = k + 1 := ⟨F2 - 1, by omega⟩
    have y1 : xI x1 0 = nI nt := by rw [hb.1.1]; exact ex
    have y2 : mI m1 4 = nI nt := (show mI m1 4 = mI m 4 from hb.2.2.1 4 (by decide)).trans em
    obtain ⟨x2, x3, m3, r, c1, c2, c3, hb'⟩ := judge_iter (fun y => sS y 1 4 (nI c)) (fun m => tI m 5 (nI c)) h hb hn hn6 hs hq
      (fun y hy hy1 => by
        have hTc : TR y ((fun m => tI m 5 (nI t0)) m1) c := by
          refine TR_fr (hT c (by omega)) ?_ ?_ ?_ ?_
          · exact ((hy1.2.2.2.2.2.1 c 0 (by decide)).trans (hb.1.2.2.2.2.2.1 c 0 (by decide)))
          · exact ((hy1.2.2.2.2.2.1 c 2 (by decide)).trans (hb.1.2.2.2.2.2.1 c 2 (by decide)))
          · exact hb.2.2.2.1 7 (by decide) (by decide) (by decide) (by decide) (by decide) (by decide)
          · exact hb.2.2.2.1 8 (by decide) (by decide) (by decide) (by decide) (by decide) (by decide)
        have := SR_law (t' := c) hy (by omega) hTc
        have e : tI ((fun m => tI m 5 (nI t0)) m1) 5 (nI c) = tI m1 5 (nI c) := tI_tI _ _ _ _
        rw [e] at this
        exact this)
      (fun y => EX_sS _ _ _ _)
      (fun m2 k => by
        have := EM_tI 5 (nI t0) k
        have e : tI (tI m1 5 (nI c)) 5 (nI t0) = tI m1 5 (nI t0) := tI_tI _ _ _ _
        rw [e] at this; exact this)
      (fun k hk => by rcases hk with rfl | rfl | rfl <;> rfl) rfl
    show PP (b_X4_laws_19 (k_X4_laws_19 F1) (nI q) (nI s) A (nI c) x1) (b_X5_laws_25 (k_X5_laws_25 F2) (nI q) (nI s) (nI t0) A (nI c) m1)
    unfold b_X4_laws_19 b_X5_laws_25
    rw [y1, y2, if_neg (nI_ge (by omega) (by omega)), if_neg (nI_ge (by omega) (by omega)), c1, bnd_some]
    simp only [bnd_some, ifs2, if_true, if_false, c2, c3, or0I, show nI c + (1 : Int32) = nI (c + 1) from nI_add c 1]
    by_cases q1 : r ≠ -1
    · rw [if_pos q1, if_pos q1]
      exact ih (c + 1) F1 F2 A x3 m3 (by omega) (by omega) (by omega) hb'
    · rw [if_neg q1, if_neg q1]
      exact ih (c + 1) F1 F2 _ x3 m3 (by omega) (by omega) (by omega) hb'
theorem eq_laws (a b : Int32) : EQ (f_X4_laws a b) (f_X5_laws a b) := by
  intro x m h
  obtain ⟨n, hn6, hm, hx⟩ := RR_n h
  obtain ⟨nt, n1, n6, ex, em, hT, t, ht, et⟩ := h.2.1
  obtain ⟨r, e1, e2, hr⟩ := refuse_pair a b h hm hx hn6
  unfold f_X4_laws f_X5_laws
  rw [e1, e2, bnd_some, bnd_some]
  by_cases q0 : r = 0
  · obtain ⟨q, s, hq, rfl, hs, rfl⟩ := hr q0
    subst q0
    rw [if_pos rfl, if_pos rfl, bnd_some, et]
    refine laws_loop h hm hn6 hs hq n6 ex em hT nt 0 FU FU 0 x m (by omega) (by show _ < 1000; omega) (by show _ < 1000; omega) ⟨EX_refl _ _, ?_⟩
    show EM m (tI m 5 (nI t))
    rw [← et, tI_id]
    exact EM_refl m
  · rw [if_neg q0, if_neg q0]
    exact PP_same h
