/-! ===== feed ===== -/
theorem RR_fd {x : GX} {m : GM} {L b : Nat} (h : RR x m) (hL : L < 160) (ex : xI x 1 = nI L) (hb : b < 256) : RR (sI (sP x L (nI b)) 1 (nI (L + 1))) (tI (tA m 6 L (nI b)) 3 (nI (L + 1))) := by
  obtain ⟨hS, z1, z2, z3, z4, z5, z6, z7⟩ := h
  have I0 : ∀ i, i ≠ 1 → xI (sI (sP x L (nI b)) 1 (nI (L + 1))) i = xI x i := fun i hi => by rw [xI_n _ _ hi]; rfl
  have M0 : ∀ i, i ≠ 3 → mI (tI (tA m 6 L (nI b)) 3 (nI (L + 1))) i = mI m i := fun i hi => by rw [mI_n _ _ hi]; rfl
  have A0 : ∀ a, a ≠ 6 → mA (tI (tA m 6 L (nI b)) 3 (nI (L + 1))) a = mA m a := fun a ha => mA_n _ _ _ ha
  refine ⟨SR_fr hS (fun _ _ => rfl) rfl (fun _ _ => rfl) (fun _ => ⟨rfl, rfl⟩) (M0 0 (by decide)) (M0 1 (by decide)) (M0 2 (by decide)) (M0 5 (by decide)) rfl (fun a ha => A0 a (by omega)) (A0 7 (by decide)) (A0 8 (by decide)), TXR_fr z1 (I0 0 (by decide)) (fun _ => ⟨rfl, rfl⟩) (M0 4 (by decide)) (M0 5 (by decide)) (A0 7 (by decide)) (A0 8 (by decide)), ?_, SHR_fr z3 rfl rfl (A0 11 (by decide)) (A0 12 (by decide)) (A0 13 (by decide)), IMR_fr z4 (I0 2 (by decide)) rfl rfl rfl (M0 6 (by decide)) (M0 0 (by decide)) (M0 4 (by decide)) rfl (A0 9 (by decide)) (A0 10 (by decide)) (A0 0 (by decide)) (A0 1 (by decide)), KNR_fr z5 (M0 1 (by decide)) (M0 0 (by decide)) (A0 0 (by decide)), ?_, z7⟩
  · obtain ⟨L', l1, l2, l3, l4⟩ := z2
    have hLL : L' = L := (eq_nI (by omega) (by omega)).mp (l2.symm.trans ex)
    subst hLL
    refine ⟨L' + 1, by omega, xI_s _ _ _, mI_s _ _ _, ?_⟩
    intro i hi
    have e1 : xP (sI (sP x L' (nI b)) 1 (nI (L' + 1))) = upd (xP x) L' (nI b) := rfl
    have e2 : mA (tI (tA m 6 L' (nI b)) 3 (nI (L' + 1))) 6 = upd (mA m 6) L' (nI b) := by show mA (tA m 6 L' (nI b)) 6 = _; exact mA_s _ _ _ _
    rw [e1, e2]
    by_cases p : i = L'
    · subst p; rw [upd_s, upd_s]; exact ⟨b, hb, rfl, rfl⟩
    · rw [upd_n _ _ p, upd_n _ _ p]; exact l4 i (by omega)
  · show mA _ 15 = _
    rw [A0 15 (by decide)]; exact z6
def pick (i a b c d e : Int32) : Int32 := if i ≠ 0 then (if i ≠ 1 then (if i ≠ 2 then (if i ≠ 3 then e else d) else c) else b) else a
theorem pick_byte (i : Int32) {a b c d e : Nat} (ha : a < 256) (hb : b < 256) (hc : c < 256) (hd : d < 256) (he : e < 256) : ∃ v : Nat, v < 256 ∧ pick i (nI a) (nI b) (nI c) (nI d) (nI e) = nI v := by
  unfold pick
  split
  · split
    · split
      · split
        · exact ⟨e, he, rfl⟩
        · exact ⟨d, hd, rfl⟩
      · exact ⟨c, hc, rfl⟩
    · exact ⟨b, hb, rfl⟩
  · exact ⟨a, ha, rfl⟩
theorem feed_loop {N L a b c d e : Nat} (hN : N ≤ 5) (hL : L + N ≤ 160) (ha : a < 256) (hb : b < 256) (hc : c < 256) (hd : d < 256) (he : e < 256) :
    ∀ (k i F1 F2 : Nat) (x : GX) (m : GM), i + k = N → k < F1 → k < F2 → RR x m → xI x 1 = nI (L + i) → PP (k_X4_feed_68 F1 (nI N) (nI a) (nI b) (nI c) (nI d) (nI e) (nI i) x) (k_X5_feed_68 F2 (nI N) (nI a) (nI b) (nI c) (nI d) (nI e) (nI i) m) := by
  intro k
  induction k with
  | zero =>
    intro i F1 F2 x m hi h1 h2 h ex
    obtain ⟨F1, rfl⟩ : ∃ k, F1 = k + 1 := ⟨F1 - 1, by omega⟩
    obtain ⟨F2, rfl⟩ : ∃ k, F2 = k + 1 := ⟨F2 - 1, by omega⟩
    obtain ⟨L', l1, l2, l3, l4⟩ := h.2.2.1
    show PP (b_X4_feed_68 (k_X4_feed_68 F1) (nI N) (nI a) (nI b) (nI c) (nI d) (nI e) (nI i) x) (b_X5_feed_68 (k_X5_feed_68 F2) (nI N) (nI a) (nI b) (nI c) (nI d) (nI e) (nI i) m)
    unfold b_X4_feed_68 b_X5_feed_68
    rw [if_pos (nI_le (by omega) (by omega)), if_pos (nI_le (by omega) (by omega)), l2, l3]
    exact PP_same h
  | succ k ih =>
    intro i F1 F2 x m hi h1 h2 h ex
    obtain ⟨F1, rfl⟩ : ∃ k, F1 = k + 1 := ⟨F1 - 1, by omega⟩
    obtain ⟨F2, rfl⟩ : ∃ k, F2 = k + 1 := ⟨F2 - 1, by omega⟩
    obtain ⟨L', l1, l2, l3, l4⟩ := h.2.2.1
    have em : mI m 3 = nI (L + i) := by rw [l3, ← l2]; exact ex
    obtain ⟨v, hv, ev⟩ := pick_byte (nI i) ha hb hc hd he
    have hR := RR_fd h (show L + i < 160 by omega) ex hv
    have hX : k_X4_feed_68 (F1 + 1) (nI N) (nI a) (nI b) (nI c) (nI d) (nI e) (nI i) x = k_X4_feed_68 F1 (nI N) (nI a) (nI b) (nI c) (nI d) (nI e) (nI (i + 1)) (sI (sP x (L + i) (nI v)) 1 (nI (L + i + 1))) := by
      show b_X4_feed_68 (k_X4_feed_68 F1) (nI N) (nI a) (nI b) (nI c) (nI d) (nI e) (nI i) x = _
      rw [← ev]
      unfold b_X4_feed_68 b_X4_feed_135
      have s1 : ∀ (v : Int32), xI (sP x (L + i) v) 1 = nI (L + i) := fun _ => ex
      rw [ex, if_neg (nI_ge (by omega) (by omega)), if_neg (show ¬ (160 : Int32) ≤ nI (L + i) from nI_ge (b := 160) (by omega) (by decide))]
      simp only [grd_ok _ (show L + i < 160 by omega) (show 160 < 2 ^ 31 by decide), nI_clamp (show L + i < 2 ^ 31 by omega), bnd_some, s1, show nI i + (1 : Int32) = nI (i + 1) from nI_add i 1, show nI (L + i) + (1 : Int32) = nI (L + i + 1) from nI_add (L + i) 1]
      unfold pick
      by_cases c0 : nI i ≠ 0
      · simp only [if_pos c0]
        by_cases c1 : nI i ≠ 1
        · simp only [if_pos c1]
          by_cases c2 : nI i ≠ 2
          · simp only [if_pos c2]
            by_cases c3 : nI i ≠ 3
            · simp only [if_pos c3]
            · simp only [if_neg c3]
          · simp only [if_neg c2]
        · simp only [if_neg c1]
      · simp only [if_neg c0]
    have hM : k_X5_feed_68 (F2 + 1) (nI N) (nI a) (nI b) (nI c) (nI d) (nI e) (nI i) m = k_X5_feed_68 F2 (nI N) (nI a) (nI b) (nI c) (nI d) (nI e) (nI (i + 1)) (tI (tA m 6 (L + i) (nI v)) 3 (nI (L + i + 1))) := by
      show b_X5_feed_68 (k_X5_feed_68 F2) (nI N) (nI a) (nI b) (nI c) (nI d) (nI e) (nI i) m = _
      rw [← ev]
      unfold b_X5_feed_68 b_X5_feed_125
      have s1 : ∀ (v : Int32), mI (tA m 6 (L + i) v) 3 = nI (L + i) := fun _ => em
      rw [em, if_neg (nI_ge (by omega) (by omega))]
      simp only [grd_ok _ (show L + i < 160 by omega) (show 160 < 2 ^ 31 by decide), nI_clamp (show L + i < 2 ^ 31 by omega), bnd_some, s1, show nI i + (1 : Int32) = nI (i + 1) from nI_add i 1, show nI (L + i) + (1 : Int32) = nI (L + i + 1) from nI_add (L + i) 1]
      unfold pick
      by_cases c0 : nI i ≠ 0
      · simp only [if_pos c0]
        by_cases c1 : nI i ≠ 1
        · simp only [if_pos c1]
          by_cases c2 : nI i ≠ 2
          · simp only [if_pos c2]
            by_cases c3 : nI i ≠ 3
            · simp only [if_pos c3]
            · simp only [if_neg c3]
          · simp only [if_neg c2]
        · simp only [if_neg c1]
      · simp only [if_neg c0]
    rw [hX, hM]
    exact ih (i + 1) F1 F2 _ _ (by omega) (by omega) (by omega) hR (xI_s _ _ _)
theorem wi_byte (a : Int32) : wi a 0 255 = 0 ∨ (wi a 0 255 = 1 ∧ ∃ c : Nat, c < 256 ∧ a = nI c) := by
  rcases wi_nat a 255 (by decide) with h | ⟨h, c, hc, e⟩
  · exact Or.inl h
  · exact Or.inr ⟨h, c, by omega, e⟩
theorem eq_feed (n a b c d e : Int32) : EQ (f_X4_feed n a b c d e) (f_X5_feed n a b c d e) := by
  intro x m h
  simp only [f_X4_feed, f_X5_feed, within_X, in_M, isByte_X, isByte_M, bnd_some]
  rcases wi_lo n 1 5 (by decide) (by decide) with q | ⟨q, N, hN1, hN, rfl⟩
  · rw [show wi n 1 5 = 0 from q]
    simp only [ifs, if_true]
    exact PP_same h
  rw [show wi (nI N) 1 5 = 1 from q]
  simp only [ifs, if_false]
  rcases wi_byte a with q | ⟨q, a, ha, rfl⟩
  · simp only [q, ifs, if_true]; exact PP_same h
  simp only [q, ifs, if_false]
  rcases wi_byte b with q | ⟨q, b, hb, rfl⟩
  · simp only [q, ifs, if_true]; exact PP_same h
  simp only [q, ifs, if_false]
  rcases wi_byte c with q | ⟨q, c, hc, rfl⟩
  · simp only [q, ifs, if_true]; exact PP_same h
  simp only [q, ifs, if_false]
  rcases wi_byte d with q | ⟨q, d, hd, rfl⟩
  · simp only [q, ifs, if_true]; exact PP_same h
  simp only [q, ifs, if_false]
  rcases wi_byte e with q | ⟨q, e, he, rfl⟩
  · simp only [q, ifs, if_false]; exact PP_same h
  simp only [q, ifs, if_true]
  obtain ⟨L, l1, l2, l3, l4⟩ := h.2.2.1
  rw [l2, l3, nIs]
  by_cases p : L + N ≤ 160
  · rw [if_pos (show nI (L + N) ≤ (160 : Int32) from nI_le p (by decide)), if_pos (show nI (L + N) ≤ (160 : Int32) from nI_le p (by decide))]
    exact feed_loop hN p ha hb hc hd he N 0 FU FU x m (by omega) (by show _ < 1000; omega) (by show _ < 1000; omega) h l2
  · have : ¬ nI (L + N) ≤ (160 : Int32) := nI_ge (a := 160) (by omega) (by omega)
    rw [if_neg this, if_neg this]
    exact PP_same h
/-! ===== image, back ===== -/
def m9 (m : GM) (f : Nat → Int32) : GM := (mI m, mL m, up (mA m) 9 f)
theorem m9_9 (m : GM) (f) : mA (m9 m f) 9 = f := rfl
theorem m9_o (m : GM) (f) {a : Nat} (h : a ≠ 9) : mA (m9 m f) a = mA m a := by show up (mA m) 9 f a = _; rw [up_n _ _ h]
theorem tA_m9 (m : GM) (f) (i : Nat) (v) : tA (m9 m f) 9 i v = m9 m (upd f i v) := by
  unfold tA m9
  show (mI m, mL m, _) = (mI m, mL m, _)
  congr 1; congr 1
  funext a
  show up (up (mA m) 9 f) 9 (upd (up (mA m) 9 f 9) i v) a = up (mA m) 9 (upd f i v) a
  by_cases q : a = 9
  · subst q; rw [up_s, up_s, up_s]
  · rw [up_n _ _ q, up_n _ _ q, up_n _ _ q]
theorem m9_self (m : GM) : m = m9 m (mA m 9) := by
  obtain ⟨a, b, c⟩ := m
  show (a, b, c) = (a, b, _)
  congr 1; congr 1
  funext k
  show c k = up c 9 (c 9) k
  by_cases h : k = 9
  · subst h; rw [up_s]
  · rw [up_n _ _ h]
def K9 (m : GM) (f : Nat → Int32) : Prop := (∀ i, i < 36 → f i = mA m 5 i) ∧ ∀ i, i < 6 → f (36 + i) = mA m 2 i ∧ f (42 + i) = mA m 4 i ∧ f (48 + i) = mA m 3 i
def imM (m : GM) (f : Nat → Int32) : GM := tA (tA (tA (tA (tL (m9 m f) 1 (mL m 0)) 10 0 (mI m 0)) 10 1 (mI m 1)) 10 2 (mI m 2)) 10 3 (mI m 5)
theorem image_2 (m : GM) : ∀ (k c F : Nat) (f : Nat → Int32), c + k = 6 → k < F → (∀ i, i < 36 → f i = mA m 5 i) → (∀ i, i < c → f (36 + i) = mA m 2 i ∧ f (42 + i) = mA m 4 i ∧ f (48 + i) = mA m 3 i) → ∃ f', K9 m f' ∧ k_X5_image_33 F (nI c) (m9 m f) = some (mI m 0, imM m f') := by
  intro k
  induction k with
  | zero =>
    intro c F f hc hF h1 h2
    obtain ⟨F, rfl⟩ : ∃ k, F = k + 1 := ⟨F - 1, by omega⟩
    have : c = 6 := by omega
    subst this
    refine ⟨f, ⟨h1, h2⟩, ?_⟩
    show b_X5_image_33 (k_X5_image_33 F) (nI 6) (m9 m f) = _
    unfold b_X5_image_33
    rw [if_pos (by decide), bnd_some, show (0 : Int32) = nI 0 from rfl, grd_ok _ (by decide) (by decide), bnd_some, show (1 : Int32) = nI 1 from rfl, grd_ok _ (by decide) (by decide), bnd_some, show (2 : Int32) = nI 2 from rfl, grd_ok _ (by decide) (by decide), bnd_some, show (3 : Int32) = nI 3 from rfl, grd_ok _ (by decide) (by decide), bnd_some, nI_clamp (by decide), nI_clamp (by decide), nI_clamp (by decide), nI_clamp (by decide)]
    rfl
  | succ k ih =>
    intro c F f hc hF h1 h2
    obtain ⟨F, rfl⟩ : ∃ k, F = k + 1 := ⟨F - 1, by omega⟩
    obtain ⟨f', hf, e⟩ := ih (c + 1) F (upd (upd (upd f (36 + c) (mA m 2 c)) (42 + c) (mA m 4 c)) (48 + c) (mA m 3 c)) (by omega) (by omega)
      (fun i hi => by rw [upd_n _ _ (by omega), upd_n _ _ (by omega), upd_n _ _ (by omega)]; exact h1 i hi)
      (fun i hi => by
        by_cases q : i = c
        · subst q
          refine ⟨?_, ?_, upd_s _ _ _⟩
          · rw [upd_n _ _ (by omega), upd_n _ _ (by omega), upd_s]
          · rw [upd_n _ _ (by omega), upd_s]
        · rw [upd_n _ _ (by omega), upd_n _ _ (by omega), upd_n _ _ (by omega), upd_n _ _ (by omega), upd_n _ _ (by omega), upd_n _ _ (by omega), upd_n _ _ (by omega), upd_n _ _ (by omega), upd_n _ _ (by omega)]
          exact h2 i (by omega))
    refine ⟨f', hf, ?_⟩
    rw [← e]
    show b_X5_image_33 (k_X5_image_33 F) (nI c) (m9 m f) = _
    unfold b_X5_image_33
    rw [if_neg (show ¬ (6 : Int32) ≤ nI c from nI_ge (b := 6) (by omega) (by decide)), show (36 : Int32) + nI c = nI (36 + c) from nI_add 36 c, show (42 : Int32) + nI c = nI (42 + c) from nI_add 42 c, show (48 : Int32) + nI c = nI (48 + c) from nI_add 48 c, show nI c + (1 : Int32) = nI (c + 1) from nI_add c 1]
    simp (disch := first | omega | decide) only [grd_ok, nI_clamp, bnd_some, tA_m9, m9_o]
theorem image_1 (m : GM) : ∀ (k c F : Nat) (f : Nat → Int32), c + k = 36 → k < F → (∀ i, i < c → f i = mA m 5 i) → ∃ f', (∀ i, i < 36 → f' i = mA m 5 i) ∧ k_X5_image_7 F (nI c) (m9 m f) = k_X5_image_33 FU (nI 0) (m9 m f') := by
  intro k
  induction k with
  | zero =>
    intro c F f hc hF h1
    obtain ⟨F, rfl⟩ : ∃ k, F = k + 1 := ⟨F - 1, by omega⟩
    have : c = 36 := by omega
    subst this
    refine ⟨f, h1, ?_⟩
    show b_X5_image_7 (k_X5_image_7 F) (nI 36) (m9 m f) = _
    unfold b_X5_image_7
    rw [if_pos (by decide)]
    rfl
  | succ k ih =>
    intro c F f hc hF h1
    obtain ⟨F, rfl⟩ : ∃ k, F = k + 1 := ⟨F - 1, by omega⟩
    obtain ⟨f', hf, e⟩ := ih (c + 1) F (upd f c (mA m 5 c)) (by omega) (by omega)
      (fun i hi => by
        by_cases q : i = c
        · subst q; rw [upd_s]
        · rw [upd_n _ _ (by omega)]; exact h1 i (by omega))
    refine ⟨f', hf, ?_⟩
    rw [← e]
    show b_X5_image_7 (k_X5_image_7 F) (nI c) (m9 m f) = _
    unfold b_X5_image_7
    rw [if_neg (show ¬ (36 : Int32) ≤ nI c from nI_ge (b := 36) (by omega) (by decide)), show nI c + (1 : Int32) = nI (c + 1) from nI_add c 1]
    simp (disch := first | omega | decide) only [grd_ok, nI_clamp, bnd_some, tA_m9, m9_o]
theorem eq_image : EQ f_X4_image f_X5_image := by
  intro x m h
  obtain ⟨n, hn6, hm, hx⟩ := RR_n h
  obtain ⟨x1, e1, a0, a1, a2, a3, a4⟩ := become_spec (y := 2) (y1 := 0) x (by decide)
  obtain ⟨m1, hm1⟩ : ∃ m1, m1 = tI m 6 1 := ⟨_, rfl⟩
  obtain ⟨f1, h1, c1⟩ := image_1 m1 36 0 FU (mA m1 9) rfl (by decide) (fun i hi => absurd hi (Nat.not_lt_zero i))
  obtain ⟨f, hK, c2⟩ := image_2 m1 6 0 FU f1 rfl (by decide) h1 (fun i hi => absurd hi (Nat.not_lt_zero i))
  rw [← m9_self] at c1
  have hM : f_X5_image m = some (mI m1 0, imM m1 f) := by
    unfold f_X5_image
    rw [bnd_some, ← hm1]
    exact c1.trans c2
  have s0 : xS x1 0 = xS x 0 := a0.2.1 0 (by decide)
  have hX : f_X4_image x = some (mI m1 0, sI x1 2 1) := by
    unfold f_X4_image
    rw [e1, bnd_some, bnd_some]
    show some (xS x1 0 1, _) = _
    rw [s0, hx, hm1, mI_n _ _ (by decide), hm]
  rw [hX, hM]
  have Io : ∀ i, i ≠ 6 → mI (imM m1 f) i = mI m i := fun i hi => by
    show mI m1 i = _
    rw [hm1, mI_n _ _ hi]
  have I6 : mI (imM m1 f) 6 = 1 := by
    show mI m1 6 = _
    rw [hm1, mI_s]
  have Ao : ∀ a, a ≠ 9 → a ≠ 10 → mA (imM m1 f) a = mA m a := fun a p9 p10 => by
    unfold imM
    rw [mA_n _ _ _ p10, mA_n _ _ _ p10, mA_n _ _ _ p10, mA_n _ _ _ p10]
    show mA (m9 m1 f) a = _
    rw [m9_o _ _ p9, hm1]; rfl
  have A9 : mA (imM m1 f) 9 = f := by
    unfold imM
    rw [mA_n _ _ _ (by decide), mA_n _ _ _ (by decide), mA_n _ _ _ (by decide), mA_n _ _ _ (by decide)]
    rfl
  have A10 : mA (imM m1 f) 10 0 = mI m 0 ∧ mA (imM m1 f) 10 1 = mI m 1 ∧ mA (imM m1 f) 10 2 = mI m 2 ∧ mA (imM m1 f) 10 3 = mI m 5 := by
    unfold imM
    refine ⟨?_, ?_, ?_, ?_⟩ <;> simp (disch := decide) only [mA_s, upd_s, upd_n, hm1, mI_n]
  have L0 : mL (imM m1 f) 0 = mL m 0 := by
    unfold imM
    show mL (tL (m9 m1 f) 1 (mL m1 0)) 0 = _
    rw [mL_n _ _ (by decide), hm1]; rfl
  have L1 : mL (imM m1 f) 1 = mL m 0 := by
    unfold imM
    show mL (tL (m9 m1 f) 1 (mL m1 0)) 1 = _
    rw [mL_s, hm1]; rfl
  have K5 : ∀ i, i < 36 → f i = mA m 5 i := fun i hi => by rw [hK.1 i hi, hm1]; rfl
  have K2 : ∀ i, i < 6 → f (36 + i) = mA m 2 i ∧ f (42 + i) = mA m 4 i ∧ f (48 + i) = mA m 3 i := fun i hi => by
    have := hK.2 i hi
    rw [hm1] at this
    exact this
  obtain ⟨hS, z1, z2, z3, z4, z5, z6, z7⟩ := h
  obtain ⟨t1, t2, t3, t4, t5, t6, t7, t8, t9, _⟩ := a0
  have XI : ∀ i, i ≠ 2 → xI (sI x1 2 1) i = xI x i := fun i hi => by rw [xI_n _ _ hi, t1]
  refine PP_mk rfl rfl ⟨SR_fr hS (fun _ _ => by rw [show xS (sI x1 2 1) 0 = xS x1 0 from rfl, s0]) (t3 0 (by decide)) (fun _ _ => by rw [show xB (sI x1 2 1) 0 = xB x1 0 from rfl, t4 0 (by decide)]) (fun t => ⟨t6 t 0 (by decide), t6 t 2 (by decide)⟩) (Io 0 (by decide)) (Io 1 (by decide)) (Io 2 (by decide)) (Io 5 (by decide)) L0 (fun a ha => Ao a (by omega) (by omega)) (Ao 7 (by decide) (by decide)) (Ao 8 (by decide) (by decide)), TXR_fr z1 (XI 0 (by decide)) (fun t => ⟨t6 t 0 (by decide), t6 t 2 (by decide)⟩) (Io 4 (by decide)) (Io 5 (by decide)) (Ao 7 (by decide) (by decide)) (Ao 8 (by decide) (by decide)), TPR_fr z2 (XI 1 (by decide)) t9 (Io 3 (by decide)) (Ao 6 (by decide) (by decide)), SHR_fr z3 t7 t8 (Ao 11 (by decide) (by decide)) (Ao 12 (by decide) (by decide)) (Ao 13 (by decide) (by decide)), ?_, KNR_fr z5 (Io 1 (by decide)) (Io 0 (by decide)) (Ao 0 (by decide) (by decide)), ?_, ?_⟩
  · refine ⟨by rw [xI_s, I6], fun _ => ?_⟩
    obtain ⟨h1, h2, h3, h4, h5, ⟨d, hd, ed⟩, ⟨t, h7, h8, h9⟩, h10, n', h11, h12, h13⟩ := hS
    have hnn : n' = n := (eq_nI (by omega) (by omega)).mp (h12.symm.trans hm)
    subst hnn
    obtain ⟨nt, n1, n6, ex, em, hT, t', ht', et'⟩ := z1
    obtain ⟨⟨N, hN, eN⟩, _⟩ := z5
    have S2 : ∀ k, k < 5 → xS (sI x1 2 1) 2 k = xS x 0 k := a1
    have B2 : ∀ k, 1 ≤ k → k ≤ 4 → ∀ i, i < 6 → xB (sI x1 2 1) 2 k i = xB x 0 k i := a4
    have B0 : ∀ i, i < 36 → xB (sI x1 2 1) 2 0 i = xB x 0 0 i := a3
    refine ⟨n', n', nt, d, N, t', hn6, (Io 0 (by decide)).trans hm, Nat.le_refl _, A10.1.trans hm, by rw [S2 1 (by decide)]; exact h1.trans hm, hN, A10.2.1.trans eN, by rw [S2 3 (by decide)]; exact h3.trans eN, hd, A10.2.2.1.trans ed, by rw [S2 2 (by decide)]; exact h2.trans ed, n6, (Io 4 (by decide)).trans em, ht', A10.2.2.2.trans et', by rw [S2 4 (by decide)]; exact h4.trans et', ?_, ?_, ?_⟩
    · rw [L1]; exact a2.trans h5
    · intro i hi
      rw [B0 i hi, A9, K5 i hi]; exact h10 i hi
    · intro s hs
      obtain ⟨k1, k2, k3, k4, k5, k6⟩ := h13 s hs
      obtain ⟨u1, u2, u3⟩ := K2 s (by omega)
      rw [B2 1 (by decide) (by decide) s (by omega), B2 2 (by decide) (by decide) s (by omega), B2 3 (by decide) (by decide) s (by omega), B2 4 (by decide) (by decide) s (by omega), S2 0 (by decide), A9, u1, u2, u3, Ao 0 (by decide) (by decide), Ao 1 (by decide) (by decide)]
      exact ⟨k1, k2, k3, k5, k4, k6⟩
  · show mA _ 15 = _
    rw [Ao 15 (by decide) (by decide)]; exact z6
  · intro i p1 p2
    rw [L0, L1]
    exact ⟨(z7 i p1 p2).1, (z7 i p1 p2).1⟩
theorem back_1 : ∀ (k c F : Nat) (m : GM), c + k = 36 → k < F → ∃ m', k_X5_back_12 F (nI c) m = k_X5_back_38 FU (nI 0) m' ∧ mI m' = mI m ∧ mL m' = mL m ∧ (∀ a, a ≠ 5 → mA m' a = mA m a) ∧ (∀ i, c ≤ i → i < 36 → mA m' 5 i = mA m 9 i) ∧ ∀ i, i < c → mA m' 5 i = mA m 5 i := by
  intro k
  induction k with
  | zero =>
    intro c F m hc hF
    obtain ⟨F, rfl⟩ : ∃ k, F = k + 1 := ⟨F - 1, by omega⟩
    have : c = 36 := by omega
    subst this
    refine ⟨m, ?_, rfl, rfl, fun _ _ => rfl, fun i a b => by omega, fun _ _ => rfl⟩
    show b_X5_back_12 (k_X5_back_12 F) (nI 36) m = _
    unfold b_X5_back_12
    rw [if_pos (by decide)]
    rfl
  | succ k ih =>
    intro c F m hc hF
    obtain ⟨F, rfl⟩ : ∃ k, F = k + 1 := ⟨F - 1, by omega⟩
    obtain ⟨m', e, a1, a2, a3, a4, a5⟩ := ih (c + 1) F (tA m 5 c (mA m 9 c)) (by omega) (by omega)
    refine ⟨m', ?_, a1, a2, ?_, ?_, ?_⟩
    · rw [← e]
      show b_X5_back_12 (k_X5_back_12 F) (nI c) m = _
      unfold b_X5_back_12
      rw [if_neg (show ¬ (36 : Int32) ≤ nI c from nI_ge (b := 36) (by omega) (by decide)), show nI c + (1 : Int32) = nI (c + 1) from nI_add c 1]
      simp (disch := first | omega | decide) only [grd_ok, nI_clamp, bnd_some]
    · intro a ha
      rw [a3 a ha, mA_n _ _ _ ha]
    · intro i h1 h2
      by_cases q : i = c
      · subst q; rw [a5 i (by omega), mA_s, upd_s]
      · rw [a4 i (by omega) h2, mA_n _ _ _ (by decide)]
    · intro i hi
      rw [a5 i (by omega), mA_s, upd_n _ _ (by omega)]
theorem back_2 : ∀ (k c F : Nat) (m : GM), c + k = 6 → k < F → ∃ m', k_X5_back_38 F (nI c) m = some (mA m 10 0, m') ∧ mL m' 0 = mL m 1 ∧ mL m' 1 = mL m 1 ∧ (∀ i, i ≠ 0 → i ≠ 1 → i ≠ 2 → i ≠ 5 → mI m' i = mI m i) ∧ mI m' 0 = mA m 10 0 ∧ mI m' 1 = mA m 10 1 ∧ mI m' 2 = mA m 10 2 ∧ mI m' 5 = mA m 10 3 ∧ (∀ a, a ≠ 2 → a ≠ 3 → a ≠ 4 → mA m' a = mA m a) ∧ (∀ i, c ≤ i → i < 6 → mA m' 2 i = mA m 9 (36 + i) ∧ mA m' 4 i = mA m 9 (42 + i) ∧ mA m' 3 i = mA m 9 (48 + i)) ∧ ∀ i, i < c → mA m' 2 i = mA m 2 i ∧ mA m' 4 i = mA m 4 i ∧ mA m' 3 i = mA m 3 i := by
  intro k
  induction k with
  | zero =>
    intro c F m hc hF
    obtain ⟨F, rfl⟩ : ∃ k, F = k + 1 := ⟨F - 1, by omega⟩
    have : c = 6 := by omega
    subst this
    refine ⟨tI (tI (tI (tI (tL m 0 (mL m 1)) 0 (mA m 10 0)) 1 (mA m 10 1)) 2 (mA m 10 2)) 5 (mA m 10 3), ?_, mL_s _ _ _, mL_n _ _ (by decide), fun i p0 p1 p2 p5 => ?_, ?_, ?_, ?_, mI_s _ _ _, fun _ _ _ _ => rfl, fun i a b => by omega, fun _ _ => ⟨rfl, rfl, rfl⟩⟩
    · show b_X5_back_38 (k_X5_back_38 F) (nI 6) m = _
      unfold b_X5_back_38
      rw [if_pos (by decide), bnd_some, show (0 : Int32) = nI 0 from rfl, grd_ok _ (by decide) (by decide), bnd_some, show (1 : Int32) = nI 1 from rfl, grd_ok _ (by decide) (by decide), bnd_some, show (2 : Int32) = nI 2 from rfl, grd_ok _ (by decide) (by decide), bnd_some, show (3 : Int32) = nI 3 from rfl, grd_ok _ (by decide) (by decide), bnd_some, nI_clamp (by decide), nI_clamp (by decide), nI_clamp (by decide), nI_clamp (by decide)]
      simp (disch := decide) only [mI_n, mI_s, mset]
    · rw [mI_n _ _ p5, mI_n _ _ p2, mI_n _ _ p1, mI_n _ _ p0]; rfl
    · rw [mI_n _ _ (by decide), mI_n _ _ (by decide), mI_n _ _ (by decide), mI_s]
    · rw [mI_n _ _ (by decide), mI_n _ _ (by decide), mI_s]
    · rw [mI_n _ _ (by decide), mI_s]
  | succ k ih =>
    intro c F m hc hF
    obtain ⟨F, rfl⟩ : ∃ k, F = k + 1 := ⟨F - 1, by omega⟩
    obtain ⟨m', e, a1, a2, a3, a4, a5, a6, a7, a8, a9, a10⟩ := ih (c + 1) F (tA (tA (tA m 2 c (mA m 9 (36 + c))) 4 c (mA m 9 (42 + c))) 3 c (mA m 9 (48 + c))) (by omega) (by omega)
    simp (disch := decide) only [mA_n, mset] at e a1 a2 a3 a4 a5 a6 a7
    refine ⟨m', ?_, a1, a2, a3, a4, a5, a6, a7, ?_, ?_, ?_⟩
    · rw [← e]
      show b_X5_back_38 (k_X5_back_38 F) (nI c) m = _
      unfold b_X5_back_38
      rw [if_neg (show ¬ (6 : Int32) ≤ nI c from nI_ge (b := 6) (by omega) (by decide)), show (36 : Int32) + nI c = nI (36 + c) from nI_add 36 c, show (42 : Int32) + nI c = nI (42 + c) from nI_add 42 c, show (48 : Int32) + nI c = nI (48 + c) from nI_add 48 c, show nI c + (1 : Int32) = nI (c + 1) from nI_add c 1]
      simp (disch := first | omega | decide) only [grd_ok, nI_clamp, bnd_some, mA_n]
    · intro a h2 h3 h4
      rw [a8 a h2 h3 h4, mA_n _ _ _ h3, mA_n _ _ _ h4, mA_n _ _ _ h2]
    · intro i h1 h2
      by_cases q : i = c
      · subst q
        obtain ⟨b1, b2, b3⟩ := a10 i (by omega)
        rw [b1, b2, b3]
        simp (disch := decide) only [mA_s, mA_n, upd_s, and_self]
      · obtain ⟨b1, b2, b3⟩ := a9 i (by omega) h2
        rw [b1, b2, b3]
        simp (disch := decide) only [mA_n, and_self]
    · intro i hi
      obtain ⟨b1, b2, b3⟩ := a10 i (by omega)
      rw [b1, b2, b3]
      have hne : i ≠ c := by omega
      simp (disch := first | decide | exact hne) only [mA_s, mA_n, upd_n, and_self]
theorem eq_back : EQ f_X4_back f_X5_back := by
  intro x m h
  obtain ⟨hS, z1, z2, z3, z4, z5, z6, z7⟩ := id h
  obtain ⟨i1, i2⟩ := id z4
  unfold f_X4_back f_X5_back
  rw [i1]
  by_cases q : mI m 6 ≠ 0
  · rw [if_pos q, if_pos q]
    obtain ⟨k, n, nt, d, N, t, j1, j2, j3, j4, j5, j6, j7, j8, j9, j10, j11, j12, j13, j14, j15, j16, j17, j18, j19⟩ := i2 q
    obtain ⟨x1, e1, a0, a1, a2, a3, a4⟩ := become_spec (y := 0) (y1 := 2) x (by decide)
    obtain ⟨m1, c1, b1, b2, b3, b4, _⟩ := back_1 36 0 FU m rfl (by decide)
    obtain ⟨m2, c2, d1, d2, d3, d4, d5, d6, d7, d8, d9, _⟩ := back_2 6 0 FU m1 rfl (by decide)
    have r10 : mA m1 10 = mA m 10 := b3 10 (by decide)
    have r9 : mA m1 9 = mA m 9 := b3 9 (by decide)
    rw [e1, bnd_some, show k_X5_back_12 FU (0 : Int32) m = _ from c1.trans c2]
    have s1 : xS x1 0 1 = mA m1 10 0 := by rw [a1 1 (by decide), r10, j5, j4]
    rw [show ((), x1).2 = x1 from rfl, s1]
    rw [r10] at d4 d5 d6 d7
    rw [b2] at d1 d2
    have Ao : ∀ a, a ≠ 2 → a ≠ 3 → a ≠ 4 → a ≠ 5 → mA m2 a = mA m a := fun a p2 p3 p4 p5 => (d8 a p2 p3 p4).trans (b3 a p5)
    have Io : ∀ i, i ≠ 0 → i ≠ 1 → i ≠ 2 → i ≠ 5 → mI m2 i = mI m i := fun i p0 p1 p2 p5 => (d3 i p0 p1 p2 p5).trans (by rw [b1])
    have A5 : ∀ i, i < 36 → mA m2 5 i = mA m 9 i := fun i hi => by rw [d8 5 (by decide) (by decide) (by decide)]; exact b4 i (by omega) hi
    have Ar : ∀ i, i < 6 → mA m2 2 i = mA m 9 (36 + i) ∧ mA m2 4 i = mA m 9 (42 + i) ∧ mA m2 3 i = mA m 9 (48 + i) := fun i hi => by
      have := d9 i (by omega) hi
      rw [r9] at this
      exact this
    obtain ⟨t1, t2, t3, t4, t5, t6, t7, t8, t9, _⟩ := a0
    refine PP_mk rfl rfl ⟨?_, ?_, TPR_fr z2 (by rw [t1]) t9 (Io 3 (by decide) (by decide) (by decide) (by decide)) (Ao 6 (by decide) (by decide) (by decide) (by decide)), SHR_fr z3 t7 t8 (Ao 11 (by decide) (by decide) (by decide) (by decide)) (Ao 12 (by decide) (by decide) (by decide) (by decide)) (Ao 13 (by decide) (by decide) (by decide) (by decide)), ?_, ?_, ?_, ?_⟩
    · obtain ⟨nt', n1, n6, ex, em, hT, _⟩ := z1
      have hnt : nt' = nt := (eq_nI (by omega) (by omega)).mp (em.symm.trans j13)
      subst hnt
      refine ⟨by rw [a1 1 (by decide), d4, j5, j4], by rw [a1 2 (by decide), d6, j10, j11], by rw [a1 3 (by decide), d5, j7, j8], by rw [a1 4 (by decide), d7, j15, j16], by rw [a2, d1]; exact j17, ⟨d, j9, d6.trans j10⟩, ⟨t, by omega, d7.trans j15, TR_fr (hT t j14) (t6 t 0 (by decide)) (t6 t 2 (by decide)) (Ao 7 (by decide) (by decide) (by decide) (by decide)) (Ao 8 (by decide) (by decide) (by decide) (by decide))⟩, ?_, k, by omega, d4.trans j4, ?_⟩
      · intro i hi
        rw [a3 i hi, A5 i hi]; exact j18 i hi
      · intro s hs
        obtain ⟨u1, u2, u3⟩ := Ar s (by omega)
        obtain ⟨v1, v2, v3, v4, v5, v6⟩ := j19 s hs
        unfold ShR
        rw [a4 1 (by decide) (by decide) s (by omega), a4 2 (by decide) (by decide) s (by omega), a4 3 (by decide) (by decide) s (by omega), a4 4 (by decide) (by decide) s (by omega), a1 0 (by decide), u1, u2, u3, Ao 0 (by decide) (by decide) (by decide) (by decide), Ao 1 (by decide) (by decide) (by decide) (by decide)]
        exact ⟨v1, v2, v3, v5, v4, v6⟩
    · obtain ⟨nt', n1, n6, ex, em, hT, _⟩ := z1
      have hnt : nt' = nt := (eq_nI (by omega) (by omega)).mp (em.symm.trans j13)
      subst hnt
      exact ⟨nt', n1, n6, by rw [t1]; exact ex, (Io 4 (by decide) (by decide) (by decide) (by decide)).trans em, fun t ht => TR_fr (hT t ht) (t6 t 0 (by decide)) (t6 t 2 (by decide)) (Ao 7 (by decide) (by decide) (by decide) (by decide)) (Ao 8 (by decide) (by decide) (by decide) (by decide)), t, j14, d7.trans j15⟩
    · refine ⟨by rw [t1, Io 6 (by decide) (by decide) (by decide) (by decide)]; exact i1, fun _ => ?_⟩
      have S2 : xS x1 2 = xS x 2 := t2 2 (by decide)
      have B2 : xB x1 2 = xB x 2 := t4 2 (by decide)
      have R2 : xR x1 2 = xR x 2 := t3 2 (by decide)
      have o10 := Ao 10 (by decide) (by decide) (by decide) (by decide)
      have o9 := Ao 9 (by decide) (by decide) (by decide) (by decide)
      refine ⟨k, k, nt, d, N, t, by omega, d4.trans j4, Nat.le_refl _, by rw [o10]; exact j4, by rw [S2]; exact j5, j6, by rw [o10]; exact j7, by rw [S2]; exact j8, j9, by rw [o10]; exact j10, by rw [S2]; exact j11, j12, (Io 4 (by decide) (by decide) (by decide) (by decide)).trans j13, j14, by rw [o10]; exact j15, by rw [S2]; exact j16, by rw [R2, d2]; exact j17, ?_, ?_⟩
      · rw [B2, o9]; exact j18
      · intro s hs
        rw [B2, S2, o9, Ao 0 (by decide) (by decide) (by decide) (by decide), Ao 1 (by decide) (by decide) (by decide) (by decide)]
        exact j19 s hs
    · obtain ⟨_, n', p2, p3, p4⟩ := z5
      have hnn : n' = n := (eq_nI (by omega) (by omega)).mp (p3.symm.trans j2)
      subst hnn
      refine ⟨⟨N, j6, d5.trans j7⟩, k, by omega, d4.trans j4, ?_⟩
      intro s hs
      rw [Ao 0 (by decide) (by decide) (by decide) (by decide)]
      exact p4 s (by omega)
    · show mA _ 15 = _
      rw [Ao 15 (by decide) (by decide) (by decide) (by decide)]; exact z6
    · intro i p1 p2
      rw [d1, d2]
      exact ⟨(z7 i p1 p2).2, (z7 i p1 p2).2⟩
  · rw [if_neg q, if_neg q]
    exact PP_same h
/-! ===== sea ===== -/
theorem bright_loop : ∀ (k c F1 F2 : Nat) (A : Int64) (w : Int32) (x : GX) (m : GM), c + k = 36 → k < F1 → k < F2 → RR x m → PP (k_X2_brightest_8 0 F1 A w (nI c) x) (k_X5_brightest_8 F2 A w (nI c) m) := by
  intro k
  induction k with
  | zero =>
    intro c F1 F2 A w x m hc h1 h2 h
    obtain ⟨F1, rfl⟩ : ∃ k, F1 = k + 1 := ⟨F1 - 1, by omega⟩
    obtain ⟨F2, rfl⟩ : ∃ k, F2 = k + 1 := ⟨F2 - 1, by omega⟩
    have : c = 36 := by omega
    subst this
    show PP (b_X2_brightest_8 0 (k_X2_brightest_8 0 F1) A w (nI 36) x) (b_X5_brightest_8 (k_X5_brightest_8 F2) A w (nI 36) m)
    unfold b_X2_brightest_8 b_X5_brightest_8
    rw [if_pos (show (36 : Int32) ≤ nI 36 by decide), if_pos (show (36 : Int32) ≤ nI 36 by decide)]
    exact PP_same h
  | succ k ih =>
    intro c F1 F2 A w x m hc h1 h2 h
    obtain ⟨F1, rfl⟩ : ∃ k, F1 = k + 1 := ⟨F1 - 1, by omega⟩
    obtain ⟨F2, rfl⟩ : ∃ k, F2 = k + 1 := ⟨F2 - 1, by omega⟩
    have hc36 : c < 36 := by omega
    obtain ⟨r, u, v, ww, e1, e2, _⟩ := says_asks h.1 (p := 0) (by decide) hc36 (dr := 0) (sh := -1) (Or.inl ⟨rfl, rfl⟩)
    have hR := RR_wst h u v ww
    show PP (b_X2_brightest_8 0 (k_X2_brightest_8 0 F1) A w (nI c) x) (b_X5_brightest_8 (k_X5_brightest_8 F2) A w (nI c) m)
    unfold b_X2_brightest_8 b_X5_brightest_8 b_X2_brightest_36 b_X5_brightest_54
    rw [if_neg (show ¬ (36 : Int32) ≤ nI c from nI_ge (b := 36) hc36 (by decide)), if_neg (show ¬ (36 : Int32) ≤ nI c from nI_ge (b := 36) hc36 (by decide)), show f_X2_says 0 (0 : Int32) (nI c) (0 : Int32) x = _ from e1, show f_X5_asksOf (0 : Int32) (nI c) (-1 : Int32) m = _ from e2]
    simp only [bnd_some, show nI c + (1 : Int32) = nI (c + 1) from nI_add c 1]
    by_cases p1 : r ≤ w
    · simp only [if_pos p1]
      by_cases p2 : r ≠ w
      · simp only [if_pos p2]
        exact ih (c + 1) F1 F2 A w _ _ (by omega) (by omega) (by omega) hR
      · simp only [if_neg p2]
        exact ih (c + 1) F1 F2 _ w _ _ (by omega) (by omega) (by omega) hR
    · simp only [if_neg p1]
      rw [if_neg (show ¬ r ≠ r from fun q => q rfl)]
      have : (0 : Int64) ||| slL 1 (nI c) = slL 1 (nI c) := by
        apply bL_ext
        intro i hi
        rw [bL_or, bL_0, Bool.false_or]
      rw [this]
      exact ih (c + 1) F1 F2 _ r _ _ (by omega) (by omega) (by omega) hR
def sure (m : GM) (i : Nat) : Bool := decide ((50 : Int32) ≤ mA m 5 i)
theorem i50 (v : Int32) : (v < (50 : Int32)) ↔ ¬ (50 : Int32) ≤ v := by
  rw [Int32.lt_iff_toInt_lt, Int32.le_iff_toInt_le]; omega
theorem sure_X {x : GX} {m : GM} (h : RR x m) : ∀ (k c F : Nat) (A : Int64), c + k = 36 → k < F → ∃ R, k_X2_surelyRocks_4 0 F A (nI c) x = some (R, x) ∧ ∀ i, i < 64 → bL R i = (bL A i || (decide (c ≤ i) && decide (i < 36) && sure m i)) := by
  intro k
  induction k with
  | zero =>
    intro c F A hc hF
    obtain ⟨F, rfl⟩ : ∃ k, F = k + 1 := ⟨F - 1, by omega⟩
    have : c = 36 := by omega
    subst this
    refine ⟨A, ?_, fun i hi => ?_⟩
    · show b_X2_surelyRocks_4 0 (k_X2_surelyRocks_4 0 F) A (nI 36) x = _
      unfold b_X2_surelyRocks_4
      rw [if_pos (show (36 : Int32) ≤ nI 36 by decide)]
    · by_cases q : 36 ≤ i
      · have : ¬ i < 36 := by omega
        simp [this]
      · simp [q]
  | succ k ih =>
    intro c F A hc hF
    obtain ⟨F, rfl⟩ : ∃ k, F = k + 1 := ⟨F - 1, by omega⟩
    have hc36 : c < 36 := by omega
    have hb : xB x 0 0 c = mA m 5 c := RR_b h hc36
    have hX : k_X2_surelyRocks_4 0 (F + 1) A (nI c) x = k_X2_surelyRocks_4 0 F (if sure m c = true then A ||| slL 1 (nI c) else A) (nI (c + 1)) x := by
      show b_X2_surelyRocks_4 0 (k_X2_surelyRocks_4 0 F) A (nI c) x = _
      unfold b_X2_surelyRocks_4
      rw [if_neg (show ¬ (36 : Int32) ≤ nI c from nI_ge (b := 36) hc36 (by decide)), grd_ok _ hc36 (by decide), nI_clamp (by omega), hb, bnd_some, bnd_some, or0L, show nI c + (1 : Int32) = nI (c + 1) from nI_add c 1]
      unfold sure
      by_cases q : (50 : Int32) ≤ mA m 5 c
      · rw [if_neg (fun r => (i50 _).mp r q), if_pos (by simp [q])]
      · rw [if_pos ((i50 _).mpr q), if_neg (by simp [q])]
    obtain ⟨R, e, hR⟩ := ih (c + 1) F (if sure m c = true then A ||| slL 1 (nI c) else A) (by omega) (by omega)
    refine ⟨R, hX.trans e, fun i hi => ?_⟩
    rw [hR i hi]
    by_cases q : sure m c = true
    · rw [if_pos q, bL_or, b1L c (by omega) hi]
      by_cases qi : i = c
      · subst qi; simp [q, hc36]
      · by_cases ql : c ≤ i
        · have : c + 1 ≤ i := by omega
          simp [ql, this, qi]
        · have : ¬ c + 1 ≤ i := by omega
          simp [ql, this, qi]
    · rw [if_neg q]
      by_cases qi : i = c
      · subst qi; simp [q]
      · by_cases ql : c ≤ i
        · have : c + 1 ≤ i := by omega
          simp [ql, this]
        · have : ¬ c + 1 ≤ i := by omega
          simp [ql, this]
/-- what the reference gathers: rocks that are not thought to be, or thought rocks that are not -/
def gat (m : GM) (w : Int32) (i : Nat) : Bool := if w = 2 then (!bL (mL m 0) i && sure m i) else (bL (mL m 0) i && !sure m i)
theorem sea_M (m : GM) (w : Int32) : ∀ (k c F : Nat) (A : Int64), c + k = 36 → k < F → ∃ R, k_X5_sea_39 F w A (nI c) m = some (R, m) ∧ ∀ i, i < 64 → bL R i = (bL A i || (decide (c ≤ i) && decide (i < 36) && gat m w i)) := by
  intro k
  induction k with
  | zero =>
    intro c F A hc hF
    obtain ⟨F, rfl⟩ : ∃ k, F = k + 1 := ⟨F - 1, by omega⟩
    have : c = 36 := by omega
    subst this
    refine ⟨A, ?_, fun i hi => ?_⟩
    · show b_X5_sea_39 (k_X5_sea_39 F) w A (nI 36) m = _
      unfold b_X5_sea_39
      rw [if_pos (show (36 : Int32) ≤ nI 36 by decide)]
    · by_cases q : 36 ≤ i
      · have : ¬ i < 36 := by omega
        simp [this]
      · simp [q]
  | succ k ih =>
    intro c F A hc hF
    obtain ⟨F, rfl⟩ : ∃ k, F = k + 1 := ⟨F - 1, by omega⟩
    have hc36 : c < 36 := by omega
    have hM : k_X5_sea_39 (F + 1) w A (nI c) m = k_X5_sea_39 F w (if gat m w c = true then A ||| slL 1 (nI c) else A) (nI (c + 1)) m := by
      show b_X5_sea_39 (k_X5_sea_39 F) w A (nI c) m = _
      unfold b_X5_sea_39 b_X5_sea_106 gat sure
      rw [if_neg (show ¬ (36 : Int32) ≤ nI c from nI_ge (b := 36) hc36 (by decide)), hasRock_M c (by omega), bnd_some, bnd_some]
      simp only [grd_ok _ hc36 (show 36 < 2 ^ 31 by decide), nI_clamp (show c < 2 ^ 31 by omega), bnd_some, or0L, show nI c + (1 : Int32) = nI (c + 1) from nI_add c 1, ifs, if_true, if_false]
      by_cases w2 : w = 2
      · subst w2
        rw [if_neg (show ¬ (2 : Int32) ≠ 2 from fun q => q rfl), if_pos rfl]
        by_cases q1 : bL (mL m 0) c = true
        · simp only [if_pos q1, ifs, if_true]
          rw [if_neg (by simp [q1])]
        · have q1' : bL (mL m 0) c = false := by simpa using q1
          simp only [if_neg q1, ifs, if_false]
          by_cases q : (50 : Int32) ≤ mA m 5 c
          · rw [if_neg (fun r => (i50 _).mp r q), if_pos (by simp [q, q1'])]
          · rw [if_pos ((i50 _).mpr q), if_neg (by simp [q])]
      · rw [if_pos w2, if_neg w2]
        by_cases q1 : bL (mL m 0) c = true
        · simp only [if_pos q1, ifs, if_false]
          by_cases q : (50 : Int32) ≤ mA m 5 c
          · rw [if_pos q, if_neg (by simp [q])]
          · rw [if_neg q, if_pos (by simp [q, q1])]
        · simp only [if_neg q1, ifs, if_true]
          rw [if_neg (by simp [q1])]
    obtain ⟨R, e, hR⟩ := ih (c + 1) F (if gat m w c = true then A ||| slL 1 (nI c) else A) (by omega) (by omega)
    refine ⟨R, hM.trans e, fun i hi => ?_⟩
    rw [hR i hi]
    by_cases q : gat m w c = true
    · rw [if_pos q, bL_or, b1L c (by omega) hi]
      by_cases qi : i = c
      · subst qi; simp [q, hc36]
      · by_cases ql : c ≤ i
        · have : c + 1 ≤ i := by omega
          simp [ql, this, qi]
        · have : ¬ c + 1 ≤ i := by omega
          simp [ql, this, qi]
    · rw [if_neg q]
      by_cases qi : i = c
      · subst qi; simp [q]
      · by_cases ql : c ≤ i
        · have : c + 1 ≤ i := by omega
          simp [ql, this]
        · have : ¬ c + 1 ≤ i := by omega
          simp [ql, this]
theorem eq_sea (a : Int32) : EQ (f_X4_sea a) (f_X5_sea a) := by
  intro x m h
  have h5 : xR x 0 = mL m 0 := by obtain ⟨_, _, _, _, h5, _⟩ := id h.1; exact h5
  have hr := h.2.2.2.2.2.2.2
  unfold f_X4_sea f_X5_sea
  rw [in_M, bnd_some]
  rcases wi_lit a 3 (by decide) with e | ⟨e, c, hc, rfl⟩
  · rw [show wi a 0 3 = 0 from e, if_neg (show ¬ (0 : Int32) ≠ 0 from fun q => q rfl)]
    have ne : ∀ k : Nat, k ≤ 3 → a ≠ nI k := fun k hk q => by
      have : wi (nI k) 0 3 = 1 := by
        unfold wi
        rw [if_neg (nI_pos (by omega)), if_neg (show ¬ (3 : Int32) < nI k from nI_nlt (b := k) (a := 3) hk (by decide))]
      have e' : wi a 0 3 = 0 := e
      rw [q, this] at e'
      exact absurd e' (by decide)
    rw [if_neg (show ¬ a = 0 from ne 0 (by decide)), if_neg (show ¬ a = 1 from ne 1 (by decide)), if_neg (show ¬ a = 2 from ne 2 (by decide)), if_neg (show ¬ a = 3 from ne 3 (by decide))]
    exact PP_same h
  · rw [show wi (nI c) 0 3 = 1 from e, if_pos (show (1 : Int32) ≠ 0 by decide)]
    obtain ⟨S, e1, hS⟩ := sure_X h 36 0 FU 0 rfl (by decide)
    match c, hc with
    | 0, _ =>
      rw [if_pos (show nI 0 = (0 : Int32) from rfl), if_neg (show ¬ (2 : Int32) ≤ nI 0 by decide), if_neg (show ¬ nI 0 ≠ (0 : Int32) from fun q => q rfl), h5]
      exact PP_same h
    | 1, _ =>
      rw [if_neg (show ¬ nI 1 = (0 : Int32) by decide), if_pos (show nI 1 = (1 : Int32) from rfl), if_neg (show ¬ (2 : Int32) ≤ nI 1 by decide), if_pos (show nI 1 ≠ (0 : Int32) by decide)]
      obtain ⟨r, x', m', c1, c2, hR⟩ := bright_loop 36 0 FU FU 0 (-100) x m rfl (by decide) (by decide) h
      unfold f_X2_brightest f_X5_brightest
      rw [show k_X2_brightest_8 0 FU (0 : Int64) (-100 : Int32) (0 : Int32) x = _ from c1, show k_X5_brightest_8 FU (0 : Int64) (-100 : Int32) (0 : Int32) m = _ from c2, bnd_some, bnd_some]
      exact PP_mk rfl rfl hR
    | 2, _ =>
      rw [if_neg (show ¬ nI 2 = (0 : Int32) by decide), if_neg (show ¬ nI 2 = (1 : Int32) by decide), if_pos (show nI 2 = (2 : Int32) from rfl), if_pos (show (2 : Int32) ≤ nI 2 by decide)]
      obtain ⟨R, e2, hR⟩ := sea_M m (nI 2) 36 0 FU 0 rfl (by decide)
      unfold f_X2_surelyRocks
      rw [show k_X2_surelyRocks_4 0 FU (0 : Int64) (0 : Int32) x = _ from e1, bnd_some, show k_X5_sea_39 FU (nI 2) (0 : Int64) (0 : Int32) m = _ from e2]
      have : S &&& (xR x 0 ^^^ (-1 : Int64)) = R := by
        apply bL_ext
        intro i hi
        rw [bL_and, bL_xor, bL_m1 i hi, hS i hi, hR i hi, h5, bL_0, Bool.xor_true]
        unfold gat
        rw [if_pos (show nI 2 = (2 : Int32) from rfl)]
        cases bL (mL m 0) i <;> cases sure m i <;> cases decide (i < 36) <;> simp
      rw [this]
      exact PP_same h
    | 3, _ =>
      rw [if_neg (show ¬ nI 3 = (0 : Int32) by decide), if_neg (show ¬ nI 3 = (1 : Int32) by decide), if_neg (show ¬ nI 3 = (2 : Int32) by decide), if_pos (show nI 3 = (3 : Int32) from rfl), if_pos (show (2 : Int32) ≤ nI 3 by decide)]
      obtain ⟨R, e2, hR⟩ := sea_M m (nI 3) 36 0 FU 0 rfl (by decide)
      unfold f_X2_surelyRocks
      rw [show k_X2_surelyRocks_4 0 FU (0 : Int64) (0 : Int32) x = _ from e1, bnd_some, show k_X5_sea_39 FU (nI 3) (0 : Int64) (0 : Int32) m = _ from e2]
      have : xR x 0 &&& (S ^^^ (-1 : Int64)) = R := by
        apply bL_ext
        intro i hi
        rw [bL_and, bL_xor, bL_m1 i hi, hS i hi, hR i hi, h5, bL_0, Bool.xor_true]
        unfold gat
        rw [if_neg (show ¬ nI 3 = (2 : Int32) by decide)]
        by_cases q : i < 36
        · cases bL (mL m 0) i <;> cases sure m i <;> simp [q]
        · have := (hr i hi (by omega)).1
          simp [this]
      rw [this]
      exact PP_same h
