/-! ===== a text: both alike ===== -/
def XRF (t : Nat) (x x' : GX) : Prop := (∀ i, (i < 3 ∨ 7 < i) → xI x' i = xI x i) ∧ xS x' = xS x ∧ xR x' = xR x ∧ xB x' = xB x ∧ xH x' = xH x ∧ xN x' = xN x ∧ xP x' = xP x ∧ ∀ u, u ≠ t → xU x' u = xU x u
def MRF (t : Nat) (m m' : GM) : Prop := mL m' = mL m ∧ (∀ i, (i < 3 ∨ i = 5 ∨ i = 6 ∨ 13 < i) → mI m' i = mI m i) ∧ (∀ a, a ≠ 7 → a ≠ 8 → a ≠ 16 → mA m' a = mA m a) ∧ (∀ k, (k < 200 * t ∨ 200 * t + 200 ≤ k) → mA m' 7 k = mA m 7 k) ∧ ∀ k, (k < 4 * t ∨ 4 * t + 4 ≤ k) → mA m' 8 k = mA m 8 k
theorem dpt_s (f : Nat → Int32) (i n d : Nat) : dpt f i (n + 1) d = if (-6 : Int32) ≤ f i then dpt f (i + 1) n (d + 1) else if f i ≤ (-14 : Int32) then (if 1 ≤ d then dpt f (i + 1) n d else none) else (if 2 ≤ d then dpt f (i + 1) n (d - 1) else none) := by
  rw [dpt]
theorem dpt_1 (f : Nat → Int32) (n i d : Nat) : dpt f i (n + 1) d = bnd (stp (f i) d) (fun e => dpt f (i + 1) n e) := by
  rw [dpt_s]
  unfold stp
  by_cases a1 : (-6 : Int32) ≤ f i
  · rw [if_pos a1, if_pos a1, bnd_some]
  · rw [if_neg a1, if_neg a1]
    by_cases a2 : f i ≤ (-14 : Int32)
    · rw [if_pos a2, if_pos a2]
      by_cases a3 : 1 ≤ d
      · rw [if_pos a3, if_pos a3, bnd_some]
      · rw [if_neg a3, if_neg a3]; rfl
    · rw [if_neg a2, if_neg a2]
      by_cases a3 : 2 ≤ d
      · rw [if_pos a3, if_pos a3, bnd_some]
      · rw [if_neg a3, if_neg a3]; rfl
theorem dpt_0 (f : Nat → Int32) (i d : Nat) : dpt f i 0 d = some d := by rw [dpt]
theorem bnd_id {α : Type} (o : Option α) : bnd o some = o := by cases o <;> rfl
theorem dpt_z (f : Nat → Int32) (i d : Nat) : dpt f i 1 d = stp (f i) d := by
  have h := dpt_1 f 0 i d
  have : (fun e => dpt f (i + 1) 0 e) = some := by
    funext e
    exact dpt_0 f (i + 1) e
  rw [this, bnd_id] at h
  exact h
theorem bnd_bnd {α β γ : Type} (o : Option α) (k : α → Option β) (l : β → Option γ) : bnd (bnd o k) l = bnd o (fun a => bnd (k a) l) := by cases o <;> rfl
theorem dpt_snoc (f : Nat → Int32) : ∀ (n i d j : Nat), j = i + n → dpt f i (n + 1) d = bnd (dpt f i n d) (stp (f j)) := by
  intro n
  induction n with
  | zero =>
    intro i d j hj
    have hji : j = i := by omega
    rw [dpt_0, bnd_some, hji]
    exact dpt_z f i d
  | succ n ih =>
    intro i d j hj
    rw [dpt_1 f (n + 1), dpt_1 f n, bnd_bnd]
    have : (fun e => dpt f (i + 1) (n + 1) e) = fun e => bnd (dpt f (i + 1) n e) (stp (f j)) := by
      funext e
      exact ih (i + 1) e j (by omega)
    rw [this]
theorem stk_suf {f : Nat → Int32} {b : Nat} : ∀ (s l : List Int32), stk f b (s ++ l) → stk f b l
  | [], _, h => h
  | _ :: s, l, h => stk_suf s l h.2
theorem dpt_dep {f : Nat → Int32} {l : List Int32} (d : Nat) : ∀ s : List Int32, stk f 0 (s ++ l) → dpt f l.length s.length d = dep s d
  | [], _ => rfl
  | a :: s, h => by
    have hl : (a :: s).length = s.length + 1 := rfl
    have ha : f (0 + (s ++ l).length) = a := h.1
    rw [hl, dpt_snoc f s.length l.length d (0 + (s ++ l).length) (by rw [List.length_append]; omega), dpt_dep d s h.2, ha]
    rfl
theorem stk_enc {f h : Nat → Int32} {b : Nat} : ∀ {l : List Int32}, stk f 0 l → stk h b (l.map enc) → gdl l → ∀ k, k < l.length → h (b + k) = enc (f k) ∧ (-15 : Int32) ≤ f k ∧ f k ≤ (9999 : Int32)
  | [], _, _, _, k, hk => absurd hk (Nat.not_lt_zero k)
  | a :: l, h1, h2, h3, k, hk => by
    have hl : (a :: l).length = l.length + 1 := rfl
    by_cases q : k = l.length
    · subst q
      have e1 : f (0 + l.length) = a := h1.1
      have e2 : h (b + (l.map enc).length) = enc a := h2.1
      rw [Nat.zero_add] at e1
      rw [List.length_map] at e2
      rw [e1, e2]
      exact ⟨rfl, h3.1⟩
    · exact stk_enc h1.2 h2.2 h3.2 k (by omega)
theorem ops_12 : ∀ j, j < 24 → okk j = true → (kd (-(nI j)) = 0 ↔ j = 22) ∧ ((-(nI j)) = (-22 : Int32) ↔ j = 22) := by decide +kernel
theorem kd_end {c : Int32} (h : tkr c) : kd c = 0 ↔ c = -22 := by
  rcases h with ⟨n, hn, rfl⟩ | ⟨k, hk1, hk, hk15, rfl⟩
  · have hne : ∀ k : Int32, k < 0 → nI n ≠ k := fun k hk q => by rw [← q] at hk; exact nI_pos (by omega) hk
    rw [num_kd n hn]
    exact ⟨fun q => absurd q (by decide), fun q => absurd q (hne _ (by decide))⟩
  · have ok : okk k = true := by
      unfold okk
      rw [decide_eq_true hk1, decide_eq_true hk15]; rfl
    exact (ops_12 k hk ok).1.trans (ops_12 k hk ok).2.symm
/-- the class's fault, and what it leaves; or none, and the text -/
def TXT (t : Nat) (x : GX) (m : GM) (a b : Option (Int32 × GX)) (c : Option (Int32 × GM)) : Prop :=
  (∃ x' f m', a = b ∧ b = some (nI f, x') ∧ f ≤ 160 ∧ XRF t x x' ∧ xI x' 7 = nI f ∧ c = some ((-100 : Int32) - nI f, m') ∧ MRF t m m' ∧ mI m' 3 = 0 ∧ mI m' 4 = nI t) ∨
  (∃ x' m', a = b ∧ b = some (-1, x') ∧ XRF t x x' ∧ c = some (nI t, m') ∧ MRF t m m' ∧ mI m' 3 = 0 ∧ mI m' 4 = nI (t + 1) ∧ TR x' m' t)
theorem SEG_len {OX OX' : List Int32} (h : SEG OX OX') : OX.length ≤ OX'.length := by
  obtain ⟨s, e, _⟩ := h
  rw [e, List.length_append]; omega
theorem m_end {t : Nat} (ht : t < 6) {m m1 : GM} {f : Nat} (h : MTF t m m1) (h4 : mI m 4 = nI t) (h8 : mI m1 8 = nI f) : ∃ m', b_X5_text_101 0 m1 = some ((-100 : Int32) - nI f, m') ∧ MRF t m m' ∧ mI m' 3 = 0 ∧ mI m' 4 = nI t := by
  have i4 : mI m1 4 = nI t := (h.2.1 4 (by decide)).trans h4
  refine ⟨tI (tA m1 8 (4 * t + 3) (mI m1 13)) 3 0, ?_, ?_, mI_s _ _ _, (mI_n _ _ (by decide)).trans i4⟩
  · unfold b_X5_text_101
    rw [if_pos rfl, text_122 ht 0 i4, if_neg (show ¬ (0 : Int32) ≠ 0 from fun q => q rfl), h8]
  · obtain ⟨h1, h2, h3, h5, h6⟩ := h
    refine ⟨h1, fun i p => (mI_n _ _ (by omega)).trans (h2 i (by omega)), fun a p q r => ?_, fun k p => ?_, fun k p => ?_⟩
    · show mA (tA m1 8 _ _) a = _
      rw [mA_n _ _ _ q]; exact h3 a p q r
    · show mA (tA m1 8 _ _) 7 k = _
      rw [mA_n _ _ _ (by decide)]; exact h5 k p
    · show mA (tA m1 8 _ _) 8 k = _
      rw [mA_s, upd_n _ _ (by omega)]; exact h6 k p
theorem XRF_of {t : Nat} {x x1 x' : GX} (h0 : XRF t x x1) (h : XTF t x1 x') : XRF t x x' := by
  obtain ⟨h1, h2, h3, h4, h5, h6, h7, _, _, _, h11⟩ := h
  obtain ⟨k1, k2, k3, k4, k5, k6, k7, k8⟩ := h0
  exact ⟨fun i p => (h1 i (by omega)).trans (k1 i p), h2.trans k2, h3.trans k3, h4.trans k4, h5.trans k5, h6.trans k6, h7.trans k7, fun u p => (h11 u p).trans (k8 u p)⟩
theorem text_core {t sz : Nat} {g : Nat → Nat} {x : GX} {m : GM} (ht : t < 6) (hsz : sz ≤ 160) (hP : ∀ i, i < sz → xP x i = nI (g i) ∧ g i < 256) (hTM : TM g sz m) (h4 : mI m 4 = nI t) (h7 : mI m 7 = 0) (h13 : mI m 13 = 0) :
    ∃ b, TXT t x m (f_X1_read t (nI sz) x) b (k_X5_text_26 FU 1 0 m) := by
  obtain ⟨x1, hx1⟩ : ∃ x1, x1 = sT (sI (sI (sV (sI (sY x (some ())) 3 (nI sz)) (some t)) 4 0) 7 (-1)) t 0 := ⟨_, rfl⟩
  have hR0 : f_X1_read t (nI sz) x = bnd (f_X1_advance x1) fun q7 => k_X1_read_56 t FU (nI 0) q7.2 := by
    unfold f_X1_read f_X0_clear
    rw [if_neg (nI_pos (by omega)), if_pos (show nI sz ≤ (160 : Int32) from nI_le hsz (by decide)), bnd_some, bnd_some, bnd_some, bnd_some, bnd_some, bnd_some, bnd_some, ← hx1]
    rfl
  have i3 : xI x1 3 = nI sz := by
    rw [hx1]
    show xI (sI (sI (sV (sI (sY x (some ())) 3 (nI sz)) (some t)) 4 0) 7 (-1)) 3 = _
    rw [xI_n _ _ (by decide), xI_n _ _ (by decide)]
    show xI (sI (sY x (some ())) 3 (nI sz)) 3 = _
    exact xI_s _ _ _
  have i4 : xI x1 4 = nI 0 := by
    rw [hx1]
    show xI (sI (sI (sV (sI (sY x (some ())) 3 (nI sz)) (some t)) 4 0) 7 (-1)) 4 = _
    rw [xI_n _ _ (by decide), xI_s]; rfl
  have i7 : xI x1 7 = -1 := by
    rw [hx1]
    show xI (sI (sI (sV (sI (sY x (some ())) 3 (nI sz)) (some t)) 4 0) 7 (-1)) 7 = _
    exact xI_s _ _ _
  have hTX1 : TX g sz x1 := ⟨hsz, i3, by rw [hx1]; rfl, fun i hi => by rw [hx1]; exact hP i hi⟩
  have hF1 : XRF t x x1 := by
    rw [hx1]
    refine ⟨fun i p => ?_, rfl, rfl, rfl, rfl, rfl, rfl, fun _ _ => rfl⟩
    show xI (sI (sI (sV (sI (sY x (some ())) 3 (nI sz)) (some t)) 4 0) 7 (-1)) i = _
    rw [xI_n _ _ (by omega), xI_n _ _ (by omega)]
    show xI (sI (sY x (some ())) 3 (nI sz)) i = _
    rw [xI_n _ _ (by omega)]; rfl
  have hv1 : xV x1 = some t := by rw [hx1]; rfl
  have hT1 : xT x1 t = 0 := by rw [hx1]; exact sT_s _ _ _
  obtain ⟨x2, e2, A, c4, c5, c6⟩ := advance_X (g := g) (sz := sz) (p := 0) (Nat.zero_le _) hTX1 i4
  obtain ⟨A1, A2, A3, A4, A5, A6, A7, A8, A9, A10, A11⟩ := id A
  have hF2 : XRF t x x2 := by
    obtain ⟨k1, k2, k3, k4, k5, k6, k7, k8⟩ := hF1
    exact ⟨fun i p => (A1 i (by omega) (by omega) (by omega)).trans (k1 i p), A2.trans k2, A3.trans k3, A4.trans k4, A7.trans k5, A8.trans k6, A9.trans k7, fun u p => by rw [A6]; exact k8 u p⟩
  have hS0 : TxS t g sz x2 m 0 [] := ⟨⟨c4, c5, c6, (A1 7 (by decide) (by decide) (by decide)).trans i7, by rw [A5]; exact hT1, trivial, trivial, RxF_refl t x2⟩, TX_AX hTX1 A, A10.trans hv1, h7, h13, trivial, hTM, h4, Nat.zero_le _, Nat.zero_le _⟩
  have hRd : f_X1_read t (nI sz) x = k_X1_read_56 t 1000 (nI 0) x2 := by rw [hR0, e2, bnd_some]; rfl
  rw [hRd]
  have FUe : FU = 1000 := rfl
  rw [FUe]
  refine ⟨k_X1_read_56 t 1000 (nI 0) x2, ?_⟩
  -- a fault in part k
  have flt : ∀ (k F G : Nat) (xk x' : GX) (mk' m' : GM) (f : Nat), k < 3 → 3 < F → (∀ kc : Int32 → GX → Option (Int32 × GX), b_X1_read_86 t kc (nI k) (kwd k) xk = kc (nI (k + 1)) x') → FB x' f t → XTF t xk x' → XRF t x xk → k_X1_read_56 t 1000 (nI 0) x2 = k_X1_read_56 t (F + 1) (nI k) xk → (k_X5_text_26 1000 1 0 m = b_X5_text_101 0 m') → mI m' 8 = nI f → MTF t m m' → TXT t x m (k_X1_read_56 t 1000 (nI 0) x2) (k_X1_read_56 t 1000 (nI 0) x2) (k_X5_text_26 1000 1 0 m) := by
    intro k F G xk x' mk' m' f hk hF h1 h2 h3 h4' h5 h6 h7' h8
    left
    obtain ⟨x'', d1, d2, d3⟩ := rest_B ht (3 - (k + 1)) (k + 1) F x' f (by omega) (by omega) h2
    obtain ⟨m'', w1, w2, w3, w4⟩ := m_end ht h8 h4 h7'
    refine ⟨x'', f, m'', rfl, ?_, h2.2.1, XRF_of (XRF_of h4' h3) d2, d3, by rw [h6]; exact w1, w2, w3, w4⟩
    rw [h5, read_kw hk, h1, d1]
  rcases part_sim (k := 0) (by decide) ht hS0 with ⟨x', f, m', h1, h2, h3, h5, h6, h8⟩ | ⟨x3, p1, O1, m1, a1, a2, a3, a4, a5, a6, a7, a8⟩
  · exact flt 0 999 998 x2 x' m m' f (by decide) (by decide) h1 h2 h3 hF2 rfl (h5 998) h6 h8
  have X1 : k_X1_read_56 t 1000 (nI 0) x2 = k_X1_read_56 t 999 (nI 1) x3 := by rw [show (1000 : Nat) = 999 + 1 from rfl, read_kw (by decide), a1]
  have M1 : k_X5_text_26 1000 1 0 m = k_X5_text_26 999 1 (nI 1) m1 := a5 999
  have hF3 := XRF_of hF2 a3
  rcases part_sim (k := 1) (by decide) ht a2 with ⟨x', f, m', h1, h2, h3, h5, h6, h8⟩ | ⟨x4, p2, O2, m2, b1, b2, b3, b4, b5, b6, b7, b8⟩
  · exact flt 1 998 997 x3 x' m1 m' f (by decide) (by decide) h1 h2 h3 hF3 X1 (M1.trans (h5 997)) h6 (MTF_trans a6 h8)
  have X2 : k_X1_read_56 t 1000 (nI 0) x2 = k_X1_read_56 t 998 (nI 2) x4 := by rw [X1, show (999 : Nat) = 998 + 1 from rfl, read_kw (by decide), b1]
  have M2 : k_X5_text_26 1000 1 0 m = k_X5_text_26 998 1 (nI 2) m2 := M1.trans (b5 998)
  have hF4 := XRF_of hF3 b3
  rcases part_sim (k := 2) (by decide) ht b2 with ⟨x', f, m', h1, h2, h3, h5, h6, h8⟩ | ⟨x5, p3, O3, m3, d1, d2, d3, d4, d5, d6, d7, d8⟩
  · exact flt 2 997 996 x4 x' m2 m' f (by decide) (by decide) h1 h2 h3 hF4 X2 (M2.trans (h5 996)) h6 (MTF_trans a6 (MTF_trans b6 h8))
  have X3 : k_X1_read_56 t 1000 (nI 0) x2 = k_X1_read_56 t 997 (nI 3) x5 := by rw [X2, show (998 : Nat) = 997 + 1 from rfl, read_kw (by decide), d1]
  have M3 : k_X5_text_26 1000 1 0 m = k_X5_text_26 997 1 (nI 3) m3 := M2.trans (d5 997)
  have hF5 := XRF_of hF4 d3
  have hMT := MTF_trans a6 (MTF_trans b6 d6)
  -- the text's end
  obtain ⟨hX, hTX, hv, m7, m13, mO, hTM3, m4, hp, hl⟩ := id d2
  have hXe : k_X1_read_56 t 1000 (nI 0) x2 = bnd (f_X1_expect (-22 : Int32) x5) fun q8 => some ((xI q8.2 7), q8.2) := by
    rw [X3]
    show b_X1_read_56 t (k_X1_read_56 t 996) (nI 3) x5 = _
    unfold b_X1_read_56
    rw [if_pos (show (3 : Int32) ≤ nI 3 by decide)]
  obtain ⟨m5, e5, ⟨A5', n7, n8, n9, n10⟩⟩ := next_M hp hTM3 m7
  have hMe : k_X5_text_26 1000 1 0 m = if kd (tk g sz p3) ≠ 0 then b_X5_text_122 0 m5 else b_X5_text_122 1 m5 := by
    rw [M3]
    show b_X5_text_26 (k_X5_text_26 996) 1 (nI 3) m3 = _
    unfold b_X5_text_26 b_X5_text_101
    rw [if_pos (show (3 : Int32) ≤ nI 3 by decide), if_neg (show ¬ (1 : Int32) = 0 by decide), e5, bnd_some]
    show (if mI m5 9 ≠ 0 then _ else _) = _
    rw [n9]
  have hM5 : MTF t m m5 := MTF_trans hMT (MTF_Rd (RdF_AM A5'))
  have i54 : mI m5 4 = nI t := (hM5.2.1 4 (by decide)).trans h4
  have hke := kd_end (tk_ok hTM3 hp)
  rcases expect_S (-22) hTX hp (by omega) hX with ⟨q, x6, e6, hX6⟩ | ⟨q, x6, e6, hB6⟩
  · right
    obtain ⟨r1, r2, r3, r4, r5, r6, r7, r8⟩ := hX6
    rw [hXe, hMe, e6, bnd_some, if_neg (fun w => w (hke.mpr q)), text_122 ht 1 i54, if_pos (show (1 : Int32) ≠ 0 by decide)]
    have s1 := SEG_len a8
    have s2 := SEG_len b8
    have s3 := SEG_len d8
    have i13 : mI m5 13 = nI O3.length := (A5'.1 13 (by decide) (by decide) (by decide) (by decide)).trans m13
    rw [i13]
    refine ⟨x6, _, rfl, ?_, XRF_of hF5 (XTF_Rx r8), rfl, ?_, ?_, mI_s _ _ _, ?_⟩
    · show some (xI x6 7, x6) = _
      rw [r4]
    · obtain ⟨w1, w2, w3, w5, w6⟩ := hM5
      refine ⟨w1, fun i p => ?_, fun a p q r => ?_, fun k p => ?_, fun k p => ?_⟩
      · rw [mI_n _ _ (by omega), mI_n _ _ (by omega)]; exact w2 i (by omega)
      · show mA (tA m5 8 _ _) a = _
        rw [mA_n _ _ _ q]; exact w3 a p q r
      · show mA (tA m5 8 _ _) 7 k = _
        rw [mA_n _ _ _ (by decide)]; exact w5 k p
      · show mA (tA m5 8 _ _) 8 k = _
        rw [mA_s, upd_n _ _ (by omega)]; exact w6 k p
    · rw [mI_n _ _ (by decide), mI_s]
    · -- the text lies alike on both sides
      have hU2 : xU x6 t 2 = upd (upd (upd (xU x2 t 2) 0 (nI O1.length)) 1 (nI O2.length)) 2 (nI O3.length) := by
        rw [r8.2.2.2.2.2.2.2.2.2.2 t 2 (Or.inr (by decide)), d4, b4, a4]
      have h8' : mA m5 8 = upd (upd (upd (mA m 8) (4 * t + 0) (nI 0)) (4 * t + 1) (nI O1.length)) (4 * t + 2) (nI O2.length) := by
        rw [A5'.2.2, d7, b7, a7]; rfl
      have hst : stk (xU x6 t 0) 0 O3 := r6
      have hmO : stk (mA (tI (tI (tA m5 8 (4 * t + 3) (nI O3.length)) 3 0) 4 (nI (t + 1))) 7) (200 * t) (O3.map enc) := by
        show stk (mA (tA m5 8 (4 * t + 3) (nI O3.length)) 7) _ _
        rw [mA_n _ _ _ (by decide), A5'.2.2]; exact mO
      have hcode := stk_enc hst hmO r7
      refine ⟨fun p => if p = 0 then 0 else if p = 1 then O1.length else if p = 2 then O2.length else O3.length, rfl, Nat.zero_le _, s2, s3, ?_, ?_, ?_, ?_, ?_⟩
      · show O3.length ≤ 160
        omega
      · intro p hp3
        rw [hU2]
        match p, hp3 with
        | 0, _ => rw [upd_n _ _ (by decide), upd_n _ _ (by decide), upd_s]; rfl
        | 1, _ => rw [upd_n _ _ (by decide), upd_s]; rfl
        | 2, _ => rw [upd_s]; rfl
      · intro p hp4
        show mA (tA m5 8 (4 * t + 3) (nI O3.length)) 8 (4 * t + p) = _
        rw [mA_s, h8']
        match p, hp4 with
        | 0, _ => rw [upd_n _ _ (by omega), upd_n _ _ (by omega), upd_n _ _ (by omega), upd_s]; rfl
        | 1, _ => rw [upd_n _ _ (by omega), upd_n _ _ (by omega), upd_s]; rfl
        | 2, _ => rw [upd_n _ _ (by omega), upd_s]; rfl
        | 3, _ => rw [upd_s]; rfl
      · exact hcode
      · obtain ⟨g1, q1, hd1⟩ := a8
        obtain ⟨g2, q2, hd2⟩ := b8
        obtain ⟨g3, q3, hd3⟩ := d8
        intro p hp3
        match p, hp3 with
        | 0, _ =>
          show dpt (xU x6 t 0) 0 (O1.length - 0) 0 = some 1
          have e1 : O1 = g1 := by rw [q1, List.append_nil]
          rw [e1, Nat.sub_zero]
          have st1 : stk (xU x6 t 0) 0 (g1 ++ []) := by
            rw [← q1]
            refine stk_suf g2 _ ?_
            rw [← q2]
            refine stk_suf g3 _ ?_
            rw [← q3]; exact hst
          have := dpt_dep (l := []) 0 g1 st1
          rw [show ([] : List Int32).length = 0 from rfl] at this
          rw [this]; exact hd1 0
        | 1, _ =>
          show dpt (xU x6 t 0) O1.length (O2.length - O1.length) 0 = some 1
          have st2 : stk (xU x6 t 0) 0 (g2 ++ O1) := by
            rw [← q2]
            refine stk_suf g3 _ ?_
            rw [← q3]; exact hst
          rw [show O2.length - O1.length = g2.length by rw [q2, List.length_append]; omega, dpt_dep 0 g2 st2]
          exact hd2 0
        | 2, _ =>
          show dpt (xU x6 t 0) O2.length (O3.length - O2.length) 0 = some 1
          have st3 : stk (xU x6 t 0) 0 (g3 ++ O2) := by rw [← q3]; exact hst
          rw [show O3.length - O2.length = g3.length by rw [q3, List.length_append]; omega, dpt_dep 0 g3 st3]
          exact hd3 0
  · left
    have hB : k_X1_read_56 t 1000 (nI 0) x2 = some (nI (pl g sz p3), x6) := by
      rw [hXe, e6, bnd_some]
      show some (xI x6 7, x6) = _
      rw [hB6.1]
    obtain ⟨m6, w1, w2, w3, w4⟩ := m_end ht hM5 h4 n8
    refine ⟨x6, _, m6, rfl, hB, hB6.2.1, XRF_of hF5 (XTF_Rx hB6.2.2.2), hB6.1, ?_, w2, w3, w4⟩
    rw [hMe, if_pos (fun w => q (hke.mp w)), ← w1]
    unfold b_X5_text_101
    rw [if_pos rfl]
theorem TR_fr2 {x x' : GX} {m m' : GM} {t u : Nat} (h : TR x m u) (hu : u ≠ t) (hx : xU x' u = xU x u) (h7 : ∀ k, (k < 200 * t ∨ 200 * t + 200 ≤ k) → mA m' 7 k = mA m 7 k) (h8 : ∀ k, (k < 4 * t ∨ 4 * t + 4 ≤ k) → mA m' 8 k = mA m 8 k) : TR x' m' u := by
  obtain ⟨E, e0, e1, e2, e3, e4, c1, c2, c3, c4⟩ := h
  refine ⟨E, e0, e1, e2, e3, e4, ?_, ?_, ?_, ?_⟩
  · intro p hp; rw [hx]; exact c1 p hp
  · intro p hp; rw [h8 _ (by omega)]; exact c2 p hp
  · intro k hk; rw [hx, h7 _ (by omega)]; exact c3 k hk
  · intro p hp; rw [hx]; exact c4 p hp
theorem SR_txt {x x' : GX} {m m' : GM} {t : Nat} (hS : SR 0 x m) (hX : TXR x m) (ht : mI m 4 = nI t) (ht6 : t ≤ 6) (h1 : xS x' = xS x) (h2 : xR x' = xR x) (h3 : xB x' = xB x) (h4 : ∀ u, u ≠ t → xU x' u = xU x u) (k1 : mL m' = mL m) (k2 : ∀ i, (i < 3 ∨ i = 5) → mI m' i = mI m i) (k3 : ∀ a, a < 6 → mA m' a = mA m a) (h7 : ∀ k, (k < 200 * t ∨ 200 * t + 200 ≤ k) → mA m' 7 k = mA m 7 k) (h8 : ∀ k, (k < 4 * t ∨ 4 * t + 4 ≤ k) → mA m' 8 k = mA m 8 k) : SR 0 x' m' := by
  obtain ⟨s1, s2, s3, s4, s5, s6, ⟨u, s7, s8, s9⟩, s10, n, s11, s12, s13⟩ := hS
  obtain ⟨nt, n1, n6, ex, em, hT, v, hv, ev⟩ := hX
  have hnt : nt = t := (eq_nI (by omega) (by omega)).mp (em.symm.trans ht)
  have huv : u = v := (eq_nI (by omega) (by omega)).mp (s8.symm.trans ev)
  refine ⟨by rw [h1, k2 0 (by decide)]; exact s1, by rw [h1, k2 2 (by decide)]; exact s2, by rw [h1, k2 1 (by decide)]; exact s3, by rw [h1, k2 5 (by decide)]; exact s4, by rw [h2, k1]; exact s5, by rw [k2 2 (by decide)]; exact s6, ⟨u, s7, by rw [k2 5 (by decide)]; exact s8, TR_fr2 s9 (by omega) (h4 u (by omega)) h7 h8⟩, ?_, n, s11, by rw [k2 0 (by decide)]; exact s12, ?_⟩
  · intro i hi; rw [h3, k3 5 (by decide)]; exact s10 i hi
  · intro s hs
    have k := s13 s hs
    unfold ShR at k ⊢
    rw [h1, h3, k3 0 (by decide), k3 1 (by decide), k3 2 (by decide), k3 3 (by decide), k3 4 (by decide)]
    exact k
theorem eq_text : EQ f_X4_text f_X5_text := by
  intro x m h
  obtain ⟨hS, z1, z2, z3, z4, z5, z6, z7⟩ := id h
  obtain ⟨t, n1, n6, ex, em, hT, v, hv, ev⟩ := id z1
  obtain ⟨L, l1, l2, l3, l4⟩ := id z2
  unfold f_X4_text f_X5_text
  rw [ex, em]
  by_cases q6 : t = 6
  · subst q6
    rw [if_neg (show ¬ nI 6 < (6 : Int32) by decide), if_neg (show ¬ nI 6 ≠ (6 : Int32) from fun q => q rfl)]
    exact PP_same h
  · have ht : t < 6 := by omega
    rw [if_pos (show nI t < (6 : Int32) from nI_lt (b := 6) ht (by decide)), if_pos (show nI t ≠ (6 : Int32) from ne_lit t 6 (by omega) (by decide) q6), grd_ok _ ht (by decide), nI_clamp (by omega), l2, bnd_some, bnd_some]
    obtain ⟨m1, hm1⟩ : ∃ m1, m1 = tI (tI m 7 0) 13 0 := ⟨_, rfl⟩
    have I1 : ∀ i, i ≠ 7 → i ≠ 13 → mI m1 i = mI m i := fun i p q => by rw [hm1, mI_n _ _ q, mI_n _ _ p]
    have hb : ∀ i, i < L → xP x i = nI (mA m 6 i).toNatClampNeg ∧ mA m 6 i = nI (mA m 6 i).toNatClampNeg ∧ (mA m 6 i).toNatClampNeg < 256 := by
      intro i hi
      obtain ⟨b, hb, p1, p2⟩ := l4 i hi
      rw [p2, nI_clamp (by omega), p1]
      exact ⟨rfl, rfl, hb⟩
    have hTM : TM (fun i => (mA m 6 i).toNatClampNeg) L m1 := by
      refine ⟨l1, (I1 3 (by decide) (by decide)).trans l3, ?_, ?_⟩
      · rw [hm1]; exact z6
      · intro i hi
        rw [hm1]
        exact ⟨(hb i hi).2.1, (hb i hi).2.2⟩
    rw [← hm1]
    obtain ⟨b, hc⟩ := text_core (t := t) (g := fun i => (mA m 6 i).toNatClampNeg) (x := x) (m := m1) ht l1 (fun i hi => ⟨(hb i hi).1, (hb i hi).2.2⟩) hTM ((I1 4 (by decide) (by decide)).trans em) (by rw [hm1, mI_n _ _ (by decide), mI_s]) (by rw [hm1, mI_s])
    have M1A : mA m1 = mA m := by rw [hm1]; rfl
    have M1L : mL m1 = mL m := by rw [hm1]; rfl
    rcases hc with ⟨x', f, m', c1, c2, c3, c4, c5, c6, c7, c8, c9⟩ | ⟨x', m', c1, c2, c3, c4, c5, c6, c7, c8⟩
    · rw [c1, c2, bnd_some, c6, bnd_some, if_neg (show ¬ nI f < (0 : Int32) from nI_pos (by omega))]
      obtain ⟨w1, w2, w3, w4, w5, w6, w7, w8⟩ := c4
      obtain ⟨v1, v2, v3, v4, v5⟩ := c7
      have Ii : ∀ i, (i < 3 ∨ i = 5 ∨ i = 6) → mI m' i = mI m i := fun i p => (v2 i (by omega)).trans (I1 i (by omega) (by omega))
      have Ai : ∀ a, a ≠ 7 → a ≠ 8 → a ≠ 16 → mA m' a = mA m a := fun a p q r => by rw [v3 a p q r, M1A]
      have A7 : ∀ k, (k < 200 * t ∨ 200 * t + 200 ≤ k) → mA m' 7 k = mA m 7 k := fun k p => by rw [v4 k p, M1A]
      have A8 : ∀ k, (k < 4 * t ∨ 4 * t + 4 ≤ k) → mA m' 8 k = mA m 8 k := fun k p => by rw [v5 k p, M1A]
      have Xi : ∀ i, i < 3 → i ≠ 1 → xI (sI x' 1 0) i = xI x i := fun i p q => (xI_n _ _ q).trans (w1 i (Or.inl p))
      refine PP_mk rfl rfl ⟨SR_txt hS z1 em n6 w2 w3 w4 w8 (v1.trans M1L) (fun i p => Ii i (by omega)) (fun a p => Ai a (by omega) (by omega) (by omega)) A7 A8, ?_, ?_, SHR_fr z3 w5 w6 (Ai 11 (by decide) (by decide) (by decide)) (Ai 12 (by decide) (by decide) (by decide)) (Ai 13 (by decide) (by decide) (by decide)), IMR_fr z4 (Xi 2 (by decide) (by decide)) (by rw [show xS (sI x' 1 0) = xS x' from rfl, w2]) (by rw [show xR (sI x' 1 0) = xR x' from rfl, w3]) (by rw [show xB (sI x' 1 0) = xB x' from rfl, w4]) (Ii 6 (by decide)) (Ii 0 (by decide)) (c9.trans em.symm) (by rw [v1, M1L]) (Ai 9 (by decide) (by decide) (by decide)) (Ai 10 (by decide) (by decide) (by decide)) (Ai 0 (by decide) (by decide) (by decide)) (Ai 1 (by decide) (by decide) (by decide)), KNR_fr z5 (Ii 1 (by decide)) (Ii 0 (by decide)) (Ai 0 (by decide) (by decide) (by decide)), ?_, ?_⟩
      · exact ⟨t, n1, n6, (Xi 0 (by decide) (by decide)).trans ex, c9, fun u hu => TR_fr2 (hT u hu) (by omega) (w8 u (by omega)) A7 A8, v, hv, (Ii 5 (by decide)).trans ev⟩
      · exact ⟨0, Nat.zero_le _, xI_s _ _ _, c8, fun i hi => absurd hi (Nat.not_lt_zero i)⟩
      · show mA m' 15 = _
        rw [Ai 15 (by decide) (by decide) (by decide)]; exact z6
      · unfold RKR
        rw [v1, M1L]; exact z7
    · rw [c1, c2, bnd_some, c4, bnd_some, if_pos (show (-1 : Int32) < 0 by decide)]
      obtain ⟨w1, w2, w3, w4, w5, w6, w7, w8⟩ := c3
      obtain ⟨v1, v2, v3, v4, v5⟩ := c5
      have Ii : ∀ i, (i < 3 ∨ i = 5 ∨ i = 6) → mI m' i = mI m i := fun i p => (v2 i (by omega)).trans (I1 i (by omega) (by omega))
      have Ai : ∀ a, a ≠ 7 → a ≠ 8 → a ≠ 16 → mA m' a = mA m a := fun a p q r => by rw [v3 a p q r, M1A]
      have A7 : ∀ k, (k < 200 * t ∨ 200 * t + 200 ≤ k) → mA m' 7 k = mA m 7 k := fun k p => by rw [v4 k p, M1A]
      have A8 : ∀ k, (k < 4 * t ∨ 4 * t + 4 ≤ k) → mA m' 8 k = mA m 8 k := fun k p => by rw [v5 k p, M1A]
      have e0 : xI (sI x' 1 0) 0 = nI t := ((xI_n _ _ (by decide)).trans (w1 0 (by decide))).trans ex
      have e1 : xI (sI x' 1 0) 0 + (1 : Int32) = nI (t + 1) := by rw [e0]; exact nI_add t 1
      rw [show ((-1 : Int32), x').2 = x' from rfl, e1, bnd_some, xI_s, nI_pred]
      have Xi : ∀ i, i < 3 → i ≠ 0 → i ≠ 1 → xI (sI (sI x' 1 0) 0 (nI (t + 1))) i = xI x i := fun i p q r => (xI_n _ _ q).trans ((xI_n _ _ r).trans (w1 i (Or.inl p)))
      refine PP_mk rfl rfl ⟨SR_txt hS z1 em n6 w2 w3 w4 w8 (v1.trans M1L) (fun i p => Ii i (by omega)) (fun a p => Ai a (by omega) (by omega) (by omega)) A7 A8, ?_, ?_, SHR_fr z3 w5 w6 (Ai 11 (by decide) (by decide) (by decide)) (Ai 12 (by decide) (by decide) (by decide)) (Ai 13 (by decide) (by decide) (by decide)), ?_, KNR_fr z5 (Ii 1 (by decide)) (Ii 0 (by decide)) (Ai 0 (by decide) (by decide) (by decide)), ?_, ?_⟩
      · refine ⟨t + 1, by omega, by omega, xI_s _ _ _, c7, fun u hu => ?_, v, by omega, (Ii 5 (by decide)).trans ev⟩
        by_cases e : u = t
        · subst e; exact c8
        · exact TR_fr2 (hT u (by omega)) e (w8 u e) A7 A8
      · exact ⟨0, Nat.zero_le _, (xI_n _ _ (by decide)).trans (xI_s _ _ _), c6, fun i hi => absurd hi (Nat.not_lt_zero i)⟩
      · obtain ⟨i1, i2⟩ := z4
        refine ⟨by rw [Xi 2 (by decide) (by decide) (by decide), Ii 6 (by decide)]; exact i1, ?_⟩
        rw [Ii 6 (by decide)]
        intro h6
        obtain ⟨k', n', nt, d', N, t', j1, j2, j3, j4, j5, j6, j7, j8, j9, j10, j11, j12, j13, j14, j15, j16, j17, j18, j19⟩ := i2 h6
        have hnt : nt = t := (eq_nI (by omega) (by omega)).mp (j13.symm.trans em)
        subst hnt
        have sS' : xS (sI (sI x' 1 0) 0 (nI (nt + 1))) = xS x := w2
        have sR' : xR (sI (sI x' 1 0) 0 (nI (nt + 1))) = xR x := w3
        have sB' : xB (sI (sI x' 1 0) 0 (nI (nt + 1))) = xB x := w4
        have a10 := Ai 10 (by decide) (by decide) (by decide)
        have a9 := Ai 9 (by decide) (by decide) (by decide)
        refine ⟨k', n', nt + 1, d', N, t', j1, (Ii 0 (by decide)).trans j2, j3, by rw [a10]; exact j4, by rw [sS']; exact j5, j6, by rw [a10]; exact j7, by rw [sS']; exact j8, j9, by rw [a10]; exact j10, by rw [sS']; exact j11, by omega, c7, by omega, by rw [a10]; exact j15, by rw [sS']; exact j16, by rw [sR', v1, M1L]; exact j17, by rw [sB', a9]; exact j18, ?_⟩
        intro s hs
        rw [sB', sS', a9, Ai 0 (by decide) (by decide) (by decide), Ai 1 (by decide) (by decide) (by decide)]
        exact j19 s hs
      · show mA m' 15 = _
        rw [Ai 15 (by decide) (by decide) (by decide)]; exact z6
      · unfold RKR
        rw [v1, M1L]; exact z7
