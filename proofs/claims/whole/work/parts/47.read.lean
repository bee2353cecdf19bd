/-! ===== a text's parts ===== -/
theorem expect_S {t : Nat} {x0 : GX} {g : Nat → Nat} {sz : Nat} {x : GX} {p : Nat} {OX : List Int32} (c : Int32) (hT : TX g sz x0) (hp : p ≤ sz) (hl : OX.length ≤ 160) (h : RxS t x0 g sz x p OX) : (tk g sz p = c ∧ ∃ x', f_X1_expect c x = some ((), x') ∧ RxS t x0 g sz x' (nx g sz p) OX) ∨ (tk g sz p ≠ c ∧ ∃ x', f_X1_expect c x = some ((), x') ∧ RxB t x0 x' (pl g sz p)) := by
  unfold f_X1_expect
  rw [h.2.1]
  by_cases q : tk g sz p = c
  · left
    obtain ⟨x', e, hX⟩ := adv_S hT hp h
    rw [if_pos q]
    unfold b_X1_expect_12
    rw [h.2.2.2.1, if_neg (show ¬ (-1 : Int32) ≠ -1 from fun q => q rfl), e, bnd_some]
    exact ⟨q, x', rfl, hX⟩
  · right
    obtain ⟨x', e, hB⟩ := fail_S hT.1 hp hl h
    rw [if_neg q, e, bnd_some]
    unfold b_X1_expect_12
    rw [if_pos (RxB_ne hB)]
    exact ⟨q, x', rfl, hB⟩
theorem expect_B {t : Nat} {x0 x : GX} {f : Nat} (c : Int32) (h : RxB t x0 x f) : f_X1_expect c x = some ((), x) := by
  have e : b_X1_expect_12 x = some ((), x) := by
    unfold b_X1_expect_12
    rw [if_pos (RxB_ne h)]
  unfold f_X1_expect
  rw [fail_B h, bnd_some, e]
  split <;> rfl
theorem jo_B {t : Nat} {x0 x : GX} {f : Nat} (h : RxB t x0 x f) : ∀ d : Nat, (∀ r, r ≤ 5 → (5 - r) + 2 ≤ d → f_jo d 0 (nI r) (nI 0) x = some ((), x)) ∧ (1 ≤ d → f_jo d 1 0 (nI 0) x = some ((), x)) := by
  intro d
  induction d with
  | zero => exact ⟨fun r _ h => by omega, fun h => by omega⟩
  | succ d ih =>
    obtain ⟨i0, i1⟩ := ih
    have hne := RxB_ne h
    constructor
    · intro r hr hd
      show f_X1_joined (f_jo d) (nI r) (nI 0) x = _
      unfold f_X1_joined
      by_cases r5 : r = 5
      · subst r5
        rw [if_neg (show ¬ nI 5 < (5 : Int32) by decide), i1 (by omega), bnd_some]
      · have hb : b_X1_joined_55 (f_jo d) (nI r) (nI 0) x = some ((), x) := by
          unfold b_X1_joined_55
          rw [show nI r + (1 : Int32) = nI (r + 1) from nI_add r 1, i0 (r + 1) (by omega) (by omega), bnd_some]
          rw [show k_X1_joined_79 (f_jo d) FU (nI r) (nI 0) (160 : Int32) (0 : Int32) x = _ from loop_B (f_jo d) h 999 _ _ _ _, show k_X1_joined_79 (f_jo d) FU (nI r) (nI 0) (1 : Int32) (0 : Int32) x = _ from loop_B (f_jo d) h 999 _ _ _ _]
          split <;> rfl
        have hm : f_X1_mayOpen (nI 0) x = some (0, x) := by
          unfold f_X1_mayOpen b_X1_mayOpen_9
          rw [if_pos (show nI 0 < (5 : Int32) by decide), if_pos hne]
        rw [if_pos (show nI r < (5 : Int32) from nI_lt (b := 5) (by omega) (by decide)), hb, hm, bnd_some, if_pos rfl]
        split
        · rfl
        · split <;> rfl
    · intro _
      show f_X1_one (f_jo d) (nI 0) x = _
      unfold f_X1_one
      rw [if_neg hne]
theorem sU_2 (x : GX) (t i : Nat) (v) : xU (sU x t 2 i v) t 2 = upd (xU x t 2) i v := by show up (xU x) t (up (xU x t) 2 (upd (xU x t 2) i v)) t 2 = _; rw [up_s, up_s]
theorem sU_2o (x : GX) (t i : Nat) (v) {u k : Nat} (h : u ≠ t ∨ k ≠ 2) : xU (sU x t 2 i v) u k = xU x u k := by
  show up (xU x) t (up (xU x t) 2 (upd (xU x t 2) i v)) u k = _
  by_cases q : u = t
  · subst q
    rcases h with h | h
    · exact absurd rfl h
    · rw [up_s, up_n _ _ h]
  · rw [up_n _ _ q]
theorem endPart_X {t k : Nat} (hk : k < 3) (x : GX) : f_X0_endPart t (nI k) x = some ((), sU x t 2 k (xT x t)) := by
  unfold f_X0_endPart
  rw [if_neg (nI_pos (by omega)), if_neg (show ¬ (3 : Int32) ≤ nI k from nI_ge (b := 3) hk (by decide)), grd_ok _ hk (by decide), nI_clamp (by omega), bnd_some]
/-- what reading a text leaves of the class -/
def XTF (t : Nat) (x x' : GX) : Prop := (∀ i, (i < 4 ∨ 7 < i) → xI x' i = xI x i) ∧ xS x' = xS x ∧ xR x' = xR x ∧ xB x' = xB x ∧ xH x' = xH x ∧ xN x' = xN x ∧ xP x' = xP x ∧ xV x' = xV x ∧ xY x' = xY x ∧ (∀ u, u ≠ t → xT x' u = xT x u) ∧ ∀ u, u ≠ t → xU x' u = xU x u
theorem XTF_refl (t : Nat) (x : GX) : XTF t x x := ⟨fun _ _ => rfl, rfl, rfl, rfl, rfl, rfl, rfl, rfl, rfl, fun _ _ => rfl, fun _ _ => rfl⟩
theorem XTF_trans {t : Nat} {a b c : GX} (h : XTF t a b) (k : XTF t b c) : XTF t a c := by
  obtain ⟨h1, h2, h3, h4, h5, h6, h7, h8, h9, h10, h11⟩ := h
  obtain ⟨k1, k2, k3, k4, k5, k6, k7, k8, k9, k10, k11⟩ := k
  exact ⟨fun i p => (k1 i p).trans (h1 i p), k2.trans h2, k3.trans h3, k4.trans h4, k5.trans h5, k6.trans h6, k7.trans h7, k8.trans h8, k9.trans h9, fun u p => (k10 u p).trans (h10 u p), fun u p => (k11 u p).trans (h11 u p)⟩
theorem XTF_Rx {t : Nat} {a b : GX} (h : RxF t a b) : XTF t a b := by
  obtain ⟨h1, h2, h3, h4, h5, h6, h7, h8, h9, h10, h11⟩ := h
  exact ⟨h1, h2, h3, h4, h5, h6, h7, h8, h9, h10, fun u p => funext fun k => h11 u k (Or.inl p)⟩
theorem XTF_sU (t k : Nat) (x : GX) (v) : XTF t x (sU x t 2 k v) := ⟨fun _ _ => rfl, rfl, rfl, rfl, rfl, rfl, rfl, rfl, rfl, fun _ _ => rfl, fun u p => funext fun j => sU_2o x t k v (Or.inl p)⟩
/-- what reading a text leaves of the reference -/
def MTF (t : Nat) (m m' : GM) : Prop := mL m' = mL m ∧ (∀ i, (i < 7 ∨ 13 < i) → mI m' i = mI m i) ∧ (∀ a, a ≠ 7 → a ≠ 8 → a ≠ 16 → mA m' a = mA m a) ∧ (∀ k, (k < 200 * t ∨ 200 * t + 200 ≤ k) → mA m' 7 k = mA m 7 k) ∧ ∀ k, (k < 4 * t ∨ 4 * t + 4 ≤ k) → mA m' 8 k = mA m 8 k
theorem MTF_refl (t : Nat) (m : GM) : MTF t m m := ⟨rfl, fun _ _ => rfl, fun _ _ _ _ => rfl, fun _ _ => rfl, fun _ _ => rfl⟩
theorem MTF_trans {t : Nat} {a b c : GM} (h : MTF t a b) (k : MTF t b c) : MTF t a c := ⟨k.1.trans h.1, fun i p => (k.2.1 i p).trans (h.2.1 i p), fun a p q r => (k.2.2.1 a p q r).trans (h.2.2.1 a p q r), fun i p => (k.2.2.2.1 i p).trans (h.2.2.2.1 i p), fun i p => (k.2.2.2.2 i p).trans (h.2.2.2.2 i p)⟩
theorem MTF_Rd {t : Nat} {a b : GM} (h : RdF t a b) : MTF t a b := ⟨h.1, h.2.1, fun a p _ r => h.2.2.1 a p r, h.2.2.2, fun _ _ => by rw [h.2.2.1 8 (by decide) (by decide)]⟩
theorem MTF_8 (t k : Nat) (hk : k < 4) (m : GM) (v) : MTF t m (tA m 8 (4 * t + k) v) := ⟨rfl, fun _ _ => rfl, fun _ _ p _ => mA_n _ _ _ p, fun _ _ => by rw [mA_n _ _ _ (by decide)], fun j p => by rw [mA_s, upd_n _ _ (by omega)]⟩
/-- both stand ahead of a part (or of the text's end) -/
def TxS (t : Nat) (g : Nat → Nat) (sz : Nat) (x : GX) (m : GM) (p : Nat) (OX : List Int32) : Prop := RxS t x g sz x p OX ∧ TX g sz x ∧ xV x = some t ∧ mI m 7 = nI p ∧ mI m 13 = nI OX.length ∧ stk (mA m 7) (200 * t) (OX.map enc) ∧ TM g sz m ∧ mI m 4 = nI t ∧ p ≤ sz ∧ OX.length ≤ p
def FB (x : GX) (f t : Nat) : Prop := xI x 7 = nI f ∧ f ≤ 160 ∧ ∃ n : Nat, n ≤ 160 ∧ xT x t = nI n
theorem FB_B {x : GX} {f t : Nat} (h : FB x f t) : RxB t x x f := ⟨h.1, h.2.1, h.2.2, RxF_refl t x⟩
def kwd (k : Nat) : Int32 := if k = 0 then -19 else if k = 1 then -20 else -21
theorem ops_11 : ∀ j, j < 24 → okk j = true → (kd (-(nI j)) = 3 ↔ (j = 19 ∨ j = 20 ∨ j = 21)) := by decide +kernel
theorem kd_3 {c : Int32} (h : tkr c) : kd c = 3 ↔ (c = -19 ∨ c = -20 ∨ c = -21) := by
  rcases h with ⟨n, hn, rfl⟩ | ⟨k, hk1, hk, hk15, rfl⟩
  · have hne : ∀ k : Int32, k < 0 → nI n ≠ k := fun k hk q => by rw [← q] at hk; exact nI_pos (by omega) hk
    rw [num_kd n hn]
    exact ⟨fun q => absurd q (by decide), fun q => by rcases q with q | q | q <;> exact absurd q (hne _ (by decide))⟩
  · have ok : okk k = true := by
      unfold okk
      rw [decide_eq_true hk1, decide_eq_true hk15]; rfl
    rw [ops_11 k hk ok]
    have := (by decide +kernel : ∀ k, k < 24 → okk k = true → ((-(nI k) = (-19 : Int32) ↔ k = 19) ∧ (-(nI k) = (-20 : Int32) ↔ k = 20) ∧ (-(nI k) = (-21 : Int32) ↔ k = 21))) k hk ok
    rw [this.1, this.2.1, this.2.2]
/-- a part: both alike -/
theorem part_sim {t k : Nat} {g : Nat → Nat} {sz : Nat} {x : GX} {m : GM} {p : Nat} {OX : List Int32} (hk : k < 3) (ht : t < 6) (h : TxS t g sz x m p OX) :
    (∃ x' f m', (∀ kc : Int32 → GX → Option (Int32 × GX), b_X1_read_86 t kc (nI k) (kwd k) x = kc (nI (k + 1)) x') ∧ FB x' f t ∧ XTF t x x' ∧ (∀ F, k_X5_text_26 (F + 2) 1 (nI k) m = b_X5_text_101 0 m') ∧ mI m' 8 = nI f ∧ MTF t m m') ∨
    (∃ x' q OX' m', (∀ kc : Int32 → GX → Option (Int32 × GX), b_X1_read_86 t kc (nI k) (kwd k) x = kc (nI (k + 1)) x') ∧ TxS t g sz x' m' q OX' ∧ XTF t x x' ∧ xU x' t 2 = upd (xU x t 2) k (nI OX'.length) ∧ (∀ F, k_X5_text_26 (F + 1) 1 (nI k) m = k_X5_text_26 F 1 (nI (k + 1)) m') ∧ MTF t m m' ∧ mA m' 8 = upd (mA m 8) (4 * t + k) (nI OX.length) ∧ SEG OX OX') := by
  obtain ⟨hX, hTX, hv, m7, m13, mO, hTM, m4, hp, hl⟩ := h
  have hsz := hTX.1
  have hlO : (OX.map enc).length = OX.length := List.length_map _
  have htk := tk_ok hTM hp
  obtain ⟨m1, e1, ⟨A, n7, n8, n9, n10⟩⟩ := next_M hp hTM m7
  obtain ⟨a1, a2, a3⟩ := id A
  have i13 : mI m1 13 = nI OX.length := (a1 13 (by decide) (by decide) (by decide) (by decide)).trans m13
  have i4 : mI m1 4 = nI t := (a1 4 (by decide) (by decide) (by decide) (by decide)).trans m4
  have hx4 : (4 : Int32) * mI m1 4 + nI k = nI (4 * t + k) := by rw [i4, show (4 : Int32) = nI 4 from rfl, pk_mul, nIs]
  -- the reference: is it the part's word
  have hM : ∀ F, k_X5_text_26 (F + 1) 1 (nI k) m = b_X5_text_60 (k_X5_text_26 F) (nI k) (if tk g sz p = kwd k then 1 else 0) m1 := by
    intro F
    show b_X5_text_26 (k_X5_text_26 F) 1 (nI k) m = _
    unfold b_X5_text_26
    rw [if_neg (show ¬ (3 : Int32) ≤ nI k from nI_ge (b := 3) hk (by decide)), if_neg (show ¬ (1 : Int32) = 0 by decide), e1, bnd_some]
    show (if mI m1 9 ≠ 3 then _ else if mI m1 10 ≠ nI k then _ else _) = _
    rw [n9]
    obtain ⟨_, _, v19, v20, v21⟩ := n10
    by_cases q3 : kd (tk g sz p) = 3
    · rw [if_neg (fun w => w q3)]
      have hval : mI m1 10 = nI k ↔ tk g sz p = kwd k := by
        rcases (kd_3 htk).mp q3 with e | e | e
        · rw [v19 e, e]
          match k, hk with
          | 0, _ => exact ⟨fun _ => rfl, fun _ => rfl⟩
          | 1, _ => exact ⟨fun w => absurd w (by decide), fun w => absurd w (by decide)⟩
          | 2, _ => exact ⟨fun w => absurd w (by decide), fun w => absurd w (by decide)⟩
        · rw [v20 e, e]
          match k, hk with
          | 0, _ => exact ⟨fun w => absurd w (by decide), fun w => absurd w (by decide)⟩
          | 1, _ => exact ⟨fun _ => rfl, fun _ => rfl⟩
          | 2, _ => exact ⟨fun w => absurd w (by decide), fun w => absurd w (by decide)⟩
        · rw [v21 e, e]
          match k, hk with
          | 0, _ => exact ⟨fun w => absurd w (by decide), fun w => absurd w (by decide)⟩
          | 1, _ => exact ⟨fun w => absurd w (by decide), fun w => absurd w (by decide)⟩
          | 2, _ => exact ⟨fun _ => rfl, fun _ => rfl⟩
      by_cases q : tk g sz p = kwd k
      · rw [if_neg (fun w => w (hval.mpr q)), if_pos q]
      · rw [if_pos (fun w => q (hval.mp w)), if_neg q]
    · rw [if_pos q3, if_neg]
      intro w
      apply q3
      rw [w]
      match k, hk with
      | 0, _ => decide
      | 1, _ => decide
      | 2, _ => decide
  obtain ⟨m2, hm2⟩ : ∃ m2, m2 = tA m1 8 (4 * t + k) (nI OX.length) := ⟨_, rfl⟩
  have hF2 : MTF t m m2 := by rw [hm2]; exact MTF_trans (MTF_Rd (RdF_AM A)) (MTF_8 t k (by omega) _ _)
  have hM60 : ∀ F (b : Int32), b_X5_text_60 (k_X5_text_26 F) (nI k) b m1 = if b = 0 then k_X5_text_26 F 0 (nI (k + 1)) m2 else bnd (f_X5_eRead m2) fun q9 => if q9.1 = 0 then (k_X5_text_26 F 0 (nI (k + 1)) q9.2) else (k_X5_text_26 F 1 (nI (k + 1)) q9.2) := by
    intro F b
    unfold b_X5_text_60
    rw [hx4, grd_ok _ (by omega) (by decide), nI_clamp (by omega), i13, bnd_some, ← hm2, show nI k + (1 : Int32) = nI (k + 1) from nI_add k 1]
  have hzero : ∀ F (y : GM), k_X5_text_26 (F + 1) 0 (nI (k + 1)) y = b_X5_text_101 0 y := by
    intro F y
    show b_X5_text_26 (k_X5_text_26 F) 0 (nI (k + 1)) y = _
    unfold b_X5_text_26
    rw [if_pos rfl]
    split <;> rfl
  -- the class
  have h86 : ∀ (kc : Int32 → GX → Option (Int32 × GX)), b_X1_read_86 t kc (nI k) (kwd k) x = bnd (f_X1_expect (kwd k) x) fun q9 => bnd (f_jo JD 0 (nI 0) (nI 0) q9.2) fun q10 => bnd (f_X1_expect (-18 : Int32) q10.2) fun q11 => kc (nI (k + 1)) (sU q11.2 t 2 k (xT q11.2 t)) := by
    intro kc
    unfold b_X1_read_86
    simp only [endPart_X hk, bnd_some, show nI k + (1 : Int32) = nI (k + 1) from nI_add k 1]
    rfl
  have fault : ∀ (y : GX) (f : Nat) (m' : GM), RxB t x y f → (∀ kc : Int32 → GX → Option (Int32 × GX), b_X1_read_86 t kc (nI k) (kwd k) x = kc (nI (k + 1)) (sU y t 2 k (xT y t))) → (∀ F, k_X5_text_26 (F + 2) 1 (nI k) m = b_X5_text_101 0 m') → mI m' 8 = nI f → MTF t m m' → ∃ x' f m', (∀ kc : Int32 → GX → Option (Int32 × GX), b_X1_read_86 t kc (nI k) (kwd k) x = kc (nI (k + 1)) x') ∧ FB x' f t ∧ XTF t x x' ∧ (∀ F, k_X5_text_26 (F + 2) 1 (nI k) m = b_X5_text_101 0 m') ∧ mI m' 8 = nI f ∧ MTF t m m' := by
    intro y f m' hB hk1 hk2 h8 hmf
    exact ⟨_, f, m', hk1, ⟨hB.1, hB.2.1, hB.2.2.1⟩, XTF_trans (XTF_Rx hB.2.2.2) (XTF_sU t k _ _), hk2, h8, hmf⟩
  rcases expect_S (kwd k) hTX hp (by omega) hX with ⟨q, x1, e2, hX1⟩ | ⟨q, x1, e2, hB1⟩
  · -- the word stands there
    have hnx := nx_rng g hp
    have hq1 := hnx.2.2 (by
      rw [q]
      match k, hk with
      | 0, _ => decide
      | 1, _ => decide
      | 2, _ => decide)
    obtain ⟨m3, hm3⟩ : ∃ m3, m3 = tI (tI m2 11 0) 12 0 := ⟨_, rfl⟩
    have hE : f_X5_eRead m2 = k_X5_eRead_14 FU 1 1 m3 := by
      unfold f_X5_eRead
      rw [bnd_some, bnd_some, ← hm3]
    have hF3 : MTF t m m3 := by rw [hm3]; exact MTF_trans hF2 (MTF_trans (MTF_Rd (RdF_tI t _ 11 _ (by decide))) (MTF_Rd (RdF_tI t _ 12 _ (by decide))))
    have hTM3 : TM g sz m3 := by
      obtain ⟨w1, w2, w3, w4⟩ := hTM
      obtain ⟨_, z2, z3, _⟩ := hF3
      refine ⟨w1, (z2 3 (by decide)).trans w2, ?_, by rw [z3 6 (by decide) (by decide) (by decide)]; exact w4⟩
      unfold WDR
      rw [z3 15 (by decide) (by decide) (by decide)]; exact w3
    have hB : Bs t x m3 g sz := ⟨hTX, hTM3, ht, hv, (hF3.2.1 4 (by decide)).trans m4⟩
    have hR3 : RdS t m3 m3 (nx g sz p) [] (OX.map enc) := by
      refine ⟨?_, ?_, ?_, ?_, trivial, ?_, RdF_refl t m3⟩
      · rw [hm3, mI_n _ _ (by decide), mI_n _ _ (by decide), hm2]; exact n7
      · rw [hm3, mI_n _ _ (by decide), mI_s]; rfl
      · rw [hm3, mI_s]; rfl
      · rw [hlO, hm3, mI_n _ _ (by decide), mI_n _ _ (by decide), hm2]; exact i13
      · rw [hm3]
        show stk (mA m2 7) _ _
        rw [hm2, mA_n _ _ _ (by decide), a3]; exact mO
    have h8 : mA m3 8 = upd (mA m 8) (4 * t + k) (nI OX.length) := by
      rw [hm3]
      show mA m2 8 = _
      rw [hm2, mA_s, a3]
    rcases (sim_all hB JD).1 0 0 (by decide) (by decide) (by decide) x1 m3 (nx g sz p) [] OX 1 FU hX1 hR3 rfl (by decide) (by show 0 + OX.length ≤ _; omega) hnx.2.1 (fun _ => rfl) (fun w => absurd w (by decide)) (by show 400 ≤ 1000 + _; omega) with ⟨x2, m4', f, b1, b2, b3, b4, b5⟩ | ⟨x2, OX', q2, m4', S', O', F', y2, b1, b2, b3, b4, b5, b6, b7, b8, b9, b10, b11⟩
    · left
      refine fault x2 f m4' b2 (fun kc => ?_) (fun F => ?_) b4 (MTF_trans hF3 (MTF_Rd b5))
      · rw [h86, e2, bnd_some, b1, bnd_some, expect_B _ b2, bnd_some]
      · rw [hM, if_pos q, hM60, if_neg (show ¬ (1 : Int32) = 0 by decide), hE, b3, bnd_some, if_pos rfl]
        exact hzero F m4'
    · obtain ⟨F', rfl⟩ : ∃ k, F' = k + 1 := ⟨F' - 1, by omega⟩
      have hTm' := TM_Rd hTM3 b3.2.2.2.2.2.2
      have i43 : mI m3 4 = nI t := hB.2.2.2.2
      have b9' : unw 1 S' O' = ([], OX'.map enc) := b9
      have hl2 : S'.length + O'.length = OX'.length := by
        have := unw_len 1 S' O'
        rw [b9'] at this
        have e2 : ([] : List Int32).length + (OX'.map enc).length = OX'.length := by
          rw [List.length_map]; exact Nat.zero_add _
        rw [← this]
        exact e2
      rcases expect_S (-18) hTX b7 (by omega) b2 with ⟨c18, x3, e3, hX3⟩ | ⟨c18, x3, e3, hB3⟩
      · right
        rcases W0_stop (F := F') (x2 := y2) hTm' b7 i43 ht (by omega) b3 c18 with ⟨_, m5, d1, d2⟩ | ⟨w, _⟩
        · have hnx2 := nx_rng g b7
          have hq2 := hnx2.2.2 (by rw [c18]; decide)
          rw [b9'] at d2
          obtain ⟨d7, _, _, d13, _, dO, dF⟩ := d2
          obtain ⟨r1, r2, r3, r4, r5, r6, r7, r8⟩ := hX3
          have hX4 : XTF t x (sU x3 t 2 k (xT x3 t)) := XTF_trans (XTF_Rx r8) (XTF_sU t k _ _)
          refine ⟨sU x3 t 2 k (xT x3 t), nx g sz q2, OX', m5, fun kc => ?_, ⟨⟨r1, r2, r3, r4, r5, ?_, r7, RxF_refl t _⟩, ?_, ?_, d7, ?_, dO, TM_Rd hTM3 dF, (dF.2.1 4 (by decide)).trans i43, hnx2.2.1, by omega⟩, hX4, ?_, fun F => ?_, MTF_trans hF3 (MTF_Rd dF), ?_, b11⟩
          · rw [h86, e2, bnd_some, b1, bnd_some, e3, bnd_some]
          · rw [sU_2o x3 t k _ (Or.inr (by decide))]; exact r6
          · have hTX3 := TX_Rx hTX r8
            exact hTX3
          · exact r8.2.2.2.2.2.2.2.1.trans hv
          · rw [d13, List.length_map]
          · rw [sU_2, r5, r8.2.2.2.2.2.2.2.2.2.2 t 2 (Or.inr (by decide))]
          · rw [hM, if_pos q, hM60, if_neg (show ¬ (1 : Int32) = 0 by decide), hE, b4, d1, bnd_some, if_neg (show ¬ (1 : Int32) = 0 by decide)]
          · rw [dF.2.2.1 8 (by decide) (by decide)]; exact h8
        · rw [b9'] at w; exact absurd rfl w
      · left
        have fin : ∀ m5, k_X5_eRead_14 (F' + 1) 0 y2 m4' = some (0, m5) → RdF t m3 m5 → mI m5 8 = nI (pl g sz q2) → ∃ x' f m', (∀ kc : Int32 → GX → Option (Int32 × GX), b_X1_read_86 t kc (nI k) (kwd k) x = kc (nI (k + 1)) x') ∧ FB x' f t ∧ XTF t x x' ∧ (∀ F, k_X5_text_26 (F + 2) 1 (nI k) m = b_X5_text_101 0 m') ∧ mI m' 8 = nI f ∧ MTF t m m' := by
          intro m5 w1 w2 w3
          refine fault x3 _ m5 hB3 (fun kc => ?_) (fun F => ?_) w3 (MTF_trans hF3 (MTF_Rd w2))
          · rw [h86, e2, bnd_some, b1, bnd_some, e3, bnd_some]
          · rw [hM, if_pos q, hM60, if_neg (show ¬ (1 : Int32) = 0 by decide), hE, b4, w1, bnd_some, if_pos rfl]
            exact hzero F m5
        by_cases c17 : tk g sz q2 = -17
        · rcases W0_close (F := F') (x2 := y2) hTm' b7 i43 ht (by omega) b3 c17 with ⟨_, m5, w1, w2, w3⟩ | ⟨a, S1, w, _⟩
          · exact fin m5 w1 w2 w3
          · rw [b9'] at w; exact absurd w (by simp)
        · rcases b10 with w | w | ⟨_, w1, w2⟩
          · omega
          · obtain ⟨m5, w1, w2, w3⟩ := W0_bad (F := F') (x2 := y2) hTm' b7 b3 w c17 c18
            exact fin m5 w1 w2 w3
          · rcases W0_bin (F := F') (x2 := y2) hTm' b7 i43 ht (by omega) b3 (by omega) with ⟨_, _, m5, v1, v2, v3⟩ | ⟨v, _⟩
            · exact fin m5 v1 v2 v3
            · exact absurd ⟨w1, w2⟩ v
  · -- it doesn't
    left
    refine fault x1 _ m2 hB1 (fun kc => ?_) (fun F => ?_) ?_ hF2
    · rw [h86, e2, bnd_some, (jo_B hB1 JD).1 0 (by decide) (by decide), bnd_some, expect_B _ hB1, bnd_some]
    · rw [hM, if_neg q, hM60, if_pos rfl]
      exact hzero F m2
    · rw [hm2]; exact n8
/-- behind a fault the class reads on and tells it -/
theorem rest_B {t : Nat} (ht : t < 6) : ∀ (n k F : Nat) (x : GX) (f : Nat), k + n = 3 → n < F → FB x f t → ∃ x', k_X1_read_56 t F (nI k) x = some (nI f, x') ∧ XTF t x x' ∧ xI x' 7 = nI f := by
  intro n
  induction n with
  | zero =>
    intro k F x f hk hF h
    obtain ⟨F, rfl⟩ : ∃ k, F = k + 1 := ⟨F - 1, by omega⟩
    have : k = 3 := by omega
    subst this
    refine ⟨x, ?_, XTF_refl t x, h.1⟩
    show b_X1_read_56 t (k_X1_read_56 t F) (nI 3) x = _
    unfold b_X1_read_56
    rw [if_pos (show (3 : Int32) ≤ nI 3 by decide), expect_B _ (FB_B h), bnd_some]
    show some (xI x 7, x) = _
    rw [h.1]
  | succ n ih =>
    intro k F x f hk hF h
    obtain ⟨F, rfl⟩ : ∃ k, F = k + 1 := ⟨F - 1, by omega⟩
    have hB := FB_B h
    have h86 : ∀ c : Int32, b_X1_read_86 t (k_X1_read_56 t F) (nI k) c x = k_X1_read_56 t F (nI (k + 1)) (sU x t 2 k (xT x t)) := by
      intro c
      unfold b_X1_read_86
      rw [expect_B _ hB, bnd_some, show f_jo JD 0 (0 : Int32) (0 : Int32) x = _ from (jo_B hB JD).1 0 (by decide) (by decide), bnd_some, expect_B _ hB, bnd_some, endPart_X (by omega), bnd_some, show nI k + (1 : Int32) = nI (k + 1) from nI_add k 1]
    obtain ⟨x', e, hx⟩ := ih (k + 1) F (sU x t 2 k (xT x t)) f (by omega) (by omega) ⟨h.1, h.2.1, h.2.2⟩
    refine ⟨x', ?_, XTF_trans (XTF_sU t k x _) hx.1, hx.2⟩
    show b_X1_read_56 t (k_X1_read_56 t F) (nI k) x = _
    unfold b_X1_read_56
    rw [if_neg (show ¬ (3 : Int32) ≤ nI k from nI_ge (b := 3) (by omega) (by decide)), h86, h86, h86, e]
    split
    · split <;> rfl
    · rfl
theorem read_kw {t k : Nat} (hk : k < 3) (F : Nat) (x : GX) : k_X1_read_56 t (F + 1) (nI k) x = b_X1_read_86 t (k_X1_read_56 t F) (nI k) (kwd k) x := by
  show b_X1_read_56 t (k_X1_read_56 t F) (nI k) x = _
  unfold b_X1_read_56
  match k, hk with
  | 0, _ => rw [if_neg (by decide), if_neg (by decide)]; rfl
  | 1, _ => rw [if_neg (by decide), if_pos (by decide), if_neg (by decide)]; rfl
  | 2, _ => rw [if_neg (by decide), if_pos (by decide), if_pos (by decide)]; rfl
/-- the reference's last step -/
theorem text_122 {t : Nat} (ht : t < 6) (b : Int32) {m : GM} (h4 : mI m 4 = nI t) : b_X5_text_122 b m = if b ≠ 0 then some (nI t, tI (tI (tA m 8 (4 * t + 3) (mI m 13)) 3 0) 4 (nI (t + 1))) else some ((-100 : Int32) - mI m 8, tI (tA m 8 (4 * t + 3) (mI m 13)) 3 0) := by
  have hx : (4 : Int32) * mI m 4 + (3 : Int32) = nI (4 * t + 3) := by rw [h4, show (4 : Int32) = nI 4 from rfl, pk_mul, show (3 : Int32) = nI 3 from rfl, nIs]
  unfold b_X5_text_122
  rw [hx, grd_ok _ (by omega) (by decide), nI_clamp (by omega), bnd_some, bnd_some]
  have i4 : mI (tI (tA m 8 (4 * t + 3) (mI m 13)) 3 0) 4 = nI t := (mI_n _ _ (by decide)).trans h4
  have i8 : mI (tI (tA m 8 (4 * t + 3) (mI m 13)) 3 0) 8 = mI m 8 := mI_n _ _ (by decide)
  rw [i4, i8, bnd_some, mI_s, show nI t + (1 : Int32) = nI (t + 1) from nI_add t 1, nI_pred]
