/-! ===== ahead of a ONE ===== -/
theorem ops_7 : ∀ k, k < 24 → okk k = true → (kd (-(nI k)) = 45 ↔ k = 12) ∧ (kd (-(nI k)) = 40 ↔ k = 16) ∧ (kd (-(nI k)) = 6 ↔ k = 14) := by decide +kernel
theorem ops_8 : ∀ k, k < 24 → okk k = true → (kd (-(nI k)) = 1 ↔ False) ∧ (kd (-(nI k)) = 2 ↔ (-6 : Int32) ≤ -(nI k)) := by decide +kernel
theorem ops_9 : ∀ k, k < 24 → okk k = true → ((0 : Int32) ≤ -(nI k) ↔ False) ∧ ((-(nI k)) = (-12 : Int32) ↔ k = 12) ∧ ((-(nI k)) = (-16 : Int32) ↔ k = 16) ∧ ((-(nI k)) = (-14 : Int32) ↔ k = 14) := by decide +kernel
theorem kd_facts {c : Int32} (h : tkr c) : (kd c = 45 ↔ c = -12) ∧ (kd c = 40 ↔ c = -16) ∧ (kd c = 6 ↔ c = -14) ∧ (kd c = 1 ↔ (0 : Int32) ≤ c) ∧ (kd c = 2 ↔ ((-6 : Int32) ≤ c ∧ ¬ (0 : Int32) ≤ c)) := by
  rcases h with ⟨n, hn, rfl⟩ | ⟨k, hk1, hk, hk15, rfl⟩
  · have h0 : (0 : Int32) ≤ nI n := nI_pos' (by omega)
    have hne : ∀ k : Int32, k < 0 → nI n ≠ k := fun k hk q => by rw [← q] at hk; exact nI_pos (by omega) hk
    rw [num_kd n hn]
    refine ⟨⟨fun q => absurd q (by decide), fun q => absurd q (hne _ (by decide))⟩, ⟨fun q => absurd q (by decide), fun q => absurd q (hne _ (by decide))⟩, ⟨fun q => absurd q (by decide), fun q => absurd q (hne _ (by decide))⟩, ⟨fun _ => h0, fun _ => rfl⟩, ⟨fun q => absurd q (by decide), fun q => absurd h0 q.2⟩⟩
  · have ok : okk k = true := by
      unfold okk
      rw [decide_eq_true hk1, decide_eq_true hk15]; rfl
    obtain ⟨a1, a2, a3⟩ := ops_7 k hk ok
    obtain ⟨b1, b2⟩ := ops_8 k hk ok
    obtain ⟨c1, c2, c3, c4⟩ := ops_9 k hk ok
    refine ⟨a1.trans c2.symm, a2.trans c3.symm, a3.trans c4.symm, b1.trans c1.symm, b2.trans ⟨fun q => ⟨q, fun r => c1.mp r⟩, fun q => q.1⟩⟩
theorem tk_ok {g : Nat → Nat} {sz p : Nat} {m : GM} (hT : TM g sz m) (hp : p ≤ sz) : tkr (tk g sz p) := tk_tkr g sz p (fun i hi => (hT.2.2.2 i hi).2) hp
theorem W1_go {g : Nat → Nat} {sz p F : Nat} {x2 : Int32} {m m1 : GM} (e1 : f_X5_next m = some ((), m1)) (n9 : mI m1 9 = kd (tk g sz p)) : k_X5_eRead_14 (F + 1) 1 x2 m = if kd (tk g sz p) = 1 then b_X5_eRead_38 (k_X5_eRead_14 F) x2 m1 else (if kd (tk g sz p) ≠ 2 then (if kd (tk g sz p) ≠ 6 then b_X5_eRead_99 (k_X5_eRead_14 F) 1 m1 else (if x2 = 0 then b_X5_eRead_99 (k_X5_eRead_14 F) 1 m1 else (bnd (f_X5_opensOne (13 : Int32) m1) fun q15 => if q15.1 ≠ 0 then (k_X5_eRead_14 F 1 x2 q15.2) else (some ((0 : Int32), q15.2))))) else b_X5_eRead_38 (k_X5_eRead_14 F) x2 m1) := by
  show b_X5_eRead_14 (k_X5_eRead_14 F) 1 x2 m = _
  unfold b_X5_eRead_14
  rw [e1, bnd_some, if_neg (show ¬ (1 : Int32) = 0 by decide)]
  show (if mI m1 9 = 1 then _ else _) = _
  rw [n9]
theorem W1_one {g : Nat → Nat} {sz t p F : Nat} {x2 : Int32} {m0 m : GM} {S O : List Int32} (hT : TM g sz m) (hp : p ≤ sz) (h4 : mI m0 4 = nI t) (ht : t < 6) (hl : S.length + O.length < 160) (h : RdS t m0 m p S O) (hx : (-6 : Int32) ≤ tk g sz p) :
    ∃ m', k_X5_eRead_14 (F + 1) 1 x2 m = k_X5_eRead_14 F 0 x2 m' ∧ RdS t m0 m' (nx g sz p) (unw 7 S (enc (tk g sz p) :: O)).1 (unw 7 S (enc (tk g sz p) :: O)).2 := by
  obtain ⟨m1, e1, hN⟩ := next_M hp hT h.1
  have h1 := RdS_next h hN
  obtain ⟨A, n7, n8, n9, n10⟩ := hN
  obtain ⟨f1, f2, f3, f4, f5⟩ := kd_facts (tk_ok hT hp)
  obtain ⟨v1, v2, _⟩ := n10
  have key : ∃ w, w = enc (tk g sz p) ∧ k_X5_eRead_14 (F + 1) 1 x2 m = b_X5_eRead_61 (k_X5_eRead_14 F) x2 w m1 := by
    rw [W1_go e1 n9]
    unfold b_X5_eRead_38
    rw [n9]
    by_cases q : (0 : Int32) ≤ tk g sz p
    · refine ⟨(100000 : Int32) + mI m1 10, ?_, ?_⟩
      · rw [v1 q]
        unfold enc
        rw [if_pos q, Int32.add_comm]
      · rw [if_pos (f4.mpr q), if_neg (fun r => r (f4.mpr q))]
    · refine ⟨mI m1 10, ?_, ?_⟩
      · rw [v2 hx q]
        unfold enc
        rw [if_neg q, if_pos hx]
      · rw [if_neg (fun r => q (f4.mp r)), if_neg (fun r => r (f5.mpr ⟨hx, q⟩)), if_pos (fun r => q (f4.mp r))]
  obtain ⟨w, hw, hM⟩ := key
  rw [hM, ← hw]
  obtain ⟨m2, e2, h2, k2⟩ := puts_M w h4 ht h1 (by omega)
  obtain ⟨m3, e3, h3, k3⟩ := unwinds_M h4 ht (r := 7) (by decide) (by decide) (by show S.length + (O.length + 1) ≤ 160; omega) h2
  refine ⟨m3, ?_, h3⟩
  unfold b_X5_eRead_61
  rw [e2, bnd_some, show f_X5_unwinds (7 : Int32) m2 = _ from e3, bnd_some]
/-- a bracket, a not, a minus ahead of a ONE -/
theorem W1_opens {g : Nat → Nat} {sz t p F : Nat} {x2 : Int32} {m0 m : GM} {S O : List Int32} (hT : TM g sz m) (hp : p ≤ sz) (hl : S.length + O.length ≤ 160) (h : RdS t m0 m p S O) (hc5 : cntO S ≤ 5) (a y2 : Int32)
    (hx : (tk g sz p = -14 ∧ x2 ≠ 0 ∧ a = 13 ∧ y2 = x2) ∨ (tk g sz p = -12 ∧ a = 19 ∧ y2 = 0) ∨ (tk g sz p = -16 ∧ a = 0 ∧ y2 = 1)) :
    (cntO S = 5 ∧ ∃ m', k_X5_eRead_14 (F + 1) 1 x2 m = some (0, m') ∧ RdF t m0 m' ∧ mI m' 8 = nI (pl g sz p)) ∨ (cntO S < 5 ∧ ∃ m', k_X5_eRead_14 (F + 1) 1 x2 m = k_X5_eRead_14 F 1 y2 m' ∧ RdS t m0 m' (nx g sz p) (a :: S) O) := by
  obtain ⟨m1, e1, hN⟩ := next_M hp hT h.1
  have h1 := RdS_next h hN
  obtain ⟨A, n7, n8, n9, n10⟩ := hN
  have hM : k_X5_eRead_14 (F + 1) 1 x2 m = bnd (f_X5_opensOne a m1) fun q15 => if q15.1 ≠ 0 then (k_X5_eRead_14 F 1 y2 q15.2) else (some ((0 : Int32), q15.2)) := by
    rw [W1_go e1 n9]
    rcases hx with ⟨c1, c2, rfl, rfl⟩ | ⟨c1, rfl, rfl⟩ | ⟨c1, rfl, rfl⟩
    · rw [c1, if_neg (by decide), if_pos (by decide), if_neg (by decide), if_neg c2]
    · rw [c1, if_neg (by decide), if_pos (by decide), if_pos (by decide)]
      unfold b_X5_eRead_99
      rw [n9, c1, if_neg (by decide)]
    · rw [c1, if_neg (by decide), if_pos (by decide), if_pos (by decide)]
      unfold b_X5_eRead_99
      rw [n9, c1, if_pos (by decide), if_neg (by decide)]
  have ho : opn a = 1 := by
    rcases hx with ⟨_, _, rfl, _⟩ | ⟨_, rfl, _⟩ | ⟨_, rfl, _⟩ <;> decide
  rw [hM]
  rcases opens_M a h1 (by omega) ho hc5 with ⟨q, e2⟩ | ⟨q, m2, e2, h2, k2⟩
  · left
    rw [e2, bnd_some, if_neg (show ¬ (0 : Int32) ≠ 0 from fun q => q rfl)]
    exact ⟨q, m1, rfl, h1.2.2.2.2.2.2, n8⟩
  · right
    rw [e2, bnd_some, if_pos (show (1 : Int32) ≠ 0 by decide)]
    exact ⟨q, m2, rfl, h2⟩
theorem W1_bad {g : Nat → Nat} {sz t p F : Nat} {x2 : Int32} {m0 m : GM} {S O : List Int32} (hT : TM g sz m) (hp : p ≤ sz) (h : RdS t m0 m p S O) (h1 : ¬ (-6 : Int32) ≤ tk g sz p) (h2 : tk g sz p ≠ -12) (h3 : tk g sz p ≠ -16) (h5 : x2 = 0 ∨ tk g sz p ≠ -14) :
    ∃ m', k_X5_eRead_14 (F + 1) 1 x2 m = some (0, m') ∧ RdF t m0 m' ∧ mI m' 8 = nI (pl g sz p) := by
  obtain ⟨m1, e1, hN⟩ := next_M hp hT h.1
  have hR := RdS_next h hN
  obtain ⟨A, n7, n8, n9, n10⟩ := hN
  obtain ⟨f1, f2, f3, f4, f5⟩ := kd_facts (tk_ok hT hp)
  refine ⟨m1, ?_, hR.2.2.2.2.2.2, n8⟩
  have h0 : ¬ (0 : Int32) ≤ tk g sz p := fun q => h1 (by
    rw [Int32.le_iff_toInt_le] at q ⊢
    have e0 : (0 : Int32).toInt = 0 := by decide
    have e6 : (-6 : Int32).toInt = -6 := by decide
    omega)
  have h99 : b_X5_eRead_99 (k_X5_eRead_14 F) 1 m1 = some ((0 : Int32), m1) := by
    unfold b_X5_eRead_99
    rw [n9, if_pos (fun r => h2 (f1.mp r)), if_pos (fun r => h3 (f2.mp r))]
  rw [W1_go e1 n9, if_neg (fun r => h0 (f4.mp r)), if_pos (fun r => h1 (f5.mp r).1), h99]
  by_cases q : kd (tk g sz p) ≠ 6
  · rw [if_pos q]
  · rw [if_neg q, if_pos]
    rcases h5 with h5 | h5
    · exact h5
    · exact absurd (f3.mp (Decidable.not_not.mp q)) h5
/-! ===== the class's reading ===== -/
def gdl : List Int32 → Prop
  | [] => True
  | a :: l => ((-15 : Int32) ≤ a ∧ a ≤ (9999 : Int32)) ∧ gdl l
def RxF (t : Nat) (x0 x : GX) : Prop := (∀ i, (i < 4 ∨ 7 < i) → xI x i = xI x0 i) ∧ xS x = xS x0 ∧ xR x = xR x0 ∧ xB x = xB x0 ∧ xH x = xH x0 ∧ xN x = xN x0 ∧ xP x = xP x0 ∧ xV x = xV x0 ∧ xY x = xY x0 ∧ (∀ u, u ≠ t → xT x u = xT x0 u) ∧ ∀ u k, (u ≠ t ∨ k ≠ 0) → xU x u k = xU x0 u k
theorem RxF_refl (t : Nat) (x : GX) : RxF t x x := ⟨fun _ _ => rfl, rfl, rfl, rfl, rfl, rfl, rfl, rfl, rfl, fun _ _ => rfl, fun _ _ _ => rfl⟩
theorem RxF_trans {t : Nat} {a b c : GX} (h : RxF t a b) (k : RxF t b c) : RxF t a c := by
  obtain ⟨h1, h2, h3, h4, h5, h6, h7, h8, h9, h10, h11⟩ := h
  obtain ⟨k1, k2, k3, k4, k5, k6, k7, k8, k9, k10, k11⟩ := k
  exact ⟨fun i p => (k1 i p).trans (h1 i p), k2.trans h2, k3.trans h3, k4.trans h4, k5.trans h5, k6.trans h6, k7.trans h7, k8.trans h8, k9.trans h9, fun u p => (k10 u p).trans (h10 u p), fun u k p => (k11 u k p).trans (h11 u k p)⟩
theorem RxF_AX {t : Nat} {a b : GX} (h : AX a b) : RxF t a b := by
  obtain ⟨h1, h2, h3, h4, h5, h6, h7, h8, h9, h10, h11⟩ := h
  exact ⟨fun i p => h1 i (by omega) (by omega) (by omega), h2, h3, h4, h7, h8, h9, h10, h11, fun _ _ => by rw [h5], fun _ _ _ => by rw [h6]⟩
theorem RxF_7 (t : Nat) (x : GX) (v) : RxF t x (sI x 7 v) := ⟨fun i p => xI_n _ _ (by omega), rfl, rfl, rfl, rfl, rfl, rfl, rfl, rfl, fun _ _ => rfl, fun _ _ _ => rfl⟩
theorem TX_Rx {g : Nat → Nat} {sz t : Nat} {x0 x : GX} (h : TX g sz x0) (e : RxF t x0 x) : TX g sz x := by
  obtain ⟨h1, h2, h3, h4⟩ := h
  obtain ⟨e1, _, _, _, _, _, e7, _, e9, _⟩ := e
  exact ⟨h1, (e1 3 (by decide)).trans h2, e9.trans h3, by rw [e7]; exact h4⟩
theorem TM_Rd {g : Nat → Nat} {sz t : Nat} {m0 m : GM} (h : TM g sz m0) (e : RdF t m0 m) : TM g sz m := by
  obtain ⟨h1, h2, h3, h4⟩ := h
  obtain ⟨_, e2, e3, _⟩ := e
  refine ⟨h1, (e2 3 (by decide)).trans h2, ?_, by rw [e3 6 (by decide) (by decide)]; exact h4⟩
  unfold WDR
  rw [e3 15 (by decide) (by decide)]; exact h3
def RxS (t : Nat) (x0 : GX) (g : Nat → Nat) (sz : Nat) (x : GX) (p : Nat) (OX : List Int32) : Prop := xI x 4 = nI (nx g sz p) ∧ xI x 5 = tk g sz p ∧ xI x 6 = nI (pl g sz p) ∧ xI x 7 = -1 ∧ xT x t = nI OX.length ∧ stk (xU x t 0) 0 OX ∧ gdl OX ∧ RxF t x0 x
def RxB (t : Nat) (x0 x : GX) (f : Nat) : Prop := xI x 7 = nI f ∧ f ≤ 160 ∧ (∃ n : Nat, n ≤ 160 ∧ xT x t = nI n) ∧ RxF t x0 x
theorem RxB_ne {t : Nat} {x0 x : GX} {f : Nat} (h : RxB t x0 x f) : xI x 7 ≠ -1 := by
  rw [h.1]; exact nI_m1 (by have := h.2.1; omega)
theorem sU_0 (x : GX) (t i : Nat) (v) : xU (sU x t 0 i v) t 0 = upd (xU x t 0) i v := by show up (xU x) t (up (xU x t) 0 (upd (xU x t 0) i v)) t 0 = _; rw [up_s, up_s]
theorem sU_o (x : GX) (t i : Nat) (v) {u k : Nat} (h : u ≠ t ∨ k ≠ 0) : xU (sU x t 0 i v) u k = xU x u k := by
  show up (xU x) t (up (xU x t) 0 (upd (xU x t 0) i v)) u k = _
  by_cases q : u = t
  · subst q
    rcases h with h | h
    · exact absurd rfl h
    · rw [up_s, up_n _ _ h]
  · rw [up_n _ _ q]
theorem sT_s (x : GX) (t : Nat) (v) : xT (sT x t v) t = v := up_s _ _ _
theorem sT_o (x : GX) {t u : Nat} (v) (h : u ≠ t) : xT (sT x t v) u = xT x u := up_n _ _ h
theorem add_eq {t n : Nat} {x : GX} (a : Int32) (hn : n < 160) (h : xT x t = nI n) : f_X0_add t a x = some ((), sT (sU x t 0 n a) t (nI (n + 1))) := by
  unfold f_X0_add
  rw [h, if_neg (show ¬ (160 : Int32) ≤ nI n from nI_ge (b := 160) hn (by decide)), grd_ok _ hn (by decide), nI_clamp (by omega), bnd_some, show xT (sU x t 0 n a) t = nI n from h, show nI n + (1 : Int32) = nI (n + 1) from nI_add n 1, bnd_some]
theorem RxF_add (t n : Nat) (x : GX) (a v) : RxF t x (sT (sU x t 0 n a) t v) := ⟨fun _ _ => rfl, rfl, rfl, rfl, rfl, rfl, rfl, rfl, rfl, fun u p => (sT_o _ _ p).trans rfl, fun u k p => sU_o x t n a p⟩
theorem add_S {t : Nat} {x0 : GX} {g : Nat → Nat} {sz : Nat} {x : GX} {p : Nat} {OX : List Int32} (a : Int32) (h : RxS t x0 g sz x p OX) (hl : OX.length < 160) (ha : (-15 : Int32) ≤ a ∧ a ≤ (9999 : Int32)) : ∃ x', f_X0_add t a x = some ((), x') ∧ RxS t x0 g sz x' p (a :: OX) := by
  obtain ⟨h4, h5, h6, h7, hT, hU, hg, hF⟩ := h
  refine ⟨_, add_eq a hl hT, h4, h5, h6, h7, sT_s _ _ _, ?_, ⟨ha, hg⟩, RxF_trans hF (RxF_add _ _ _ _ _)⟩
  show stk (xU (sU x t 0 OX.length a) t 0) 0 (a :: OX)
  rw [sU_0]
  have := stk_push (v := a) hU
  rw [Nat.zero_add] at this
  exact this
theorem add_B {t : Nat} {x0 x : GX} {f : Nat} (a : Int32) (h : RxB t x0 x f) : ∃ x', f_X0_add t a x = some ((), x') ∧ RxB t x0 x' f := by
  obtain ⟨h7, hf, ⟨n, hn, hT⟩, hF⟩ := h
  by_cases q : n < 160
  · exact ⟨_, add_eq a q hT, h7, hf, ⟨n + 1, by omega, sT_s _ _ _⟩, RxF_trans hF (RxF_add _ _ _ _ _)⟩
  · refine ⟨x, ?_, h7, hf, ⟨n, hn, hT⟩, hF⟩
    unfold f_X0_add
    rw [hT, if_pos (show (160 : Int32) ≤ nI n from nI_le (a := 160) (by omega) (by omega))]
theorem adv_S {t : Nat} {x0 : GX} {g : Nat → Nat} {sz : Nat} {x : GX} {p : Nat} {OX : List Int32} (hT : TX g sz x0) (hp : p ≤ sz) (h : RxS t x0 g sz x p OX) : ∃ x', f_X1_advance x = some ((), x') ∧ RxS t x0 g sz x' (nx g sz p) OX := by
  obtain ⟨h4, h5, h6, h7, hXT, hU, hg, hF⟩ := h
  obtain ⟨x', e, A, c4, c5, c6⟩ := advance_X (g := g) (sz := sz) (p := nx g sz p) (nx_rng g hp).2.1 (TX_Rx hT hF) h4
  obtain ⟨a1, _, _, _, a5, a6, _⟩ := id A
  exact ⟨x', e, c4, c5, c6, (a1 7 (by decide) (by decide) (by decide)).trans h7, by rw [a5]; exact hXT, by rw [a6]; exact hU, hg, RxF_trans hF (RxF_AX A)⟩
theorem fail_S {t : Nat} {x0 : GX} {g : Nat → Nat} {sz : Nat} {x : GX} {p : Nat} {OX : List Int32} (hsz : sz ≤ 160) (hp : p ≤ sz) (hl : OX.length ≤ 160) (h : RxS t x0 g sz x p OX) : ∃ x', f_X1_fail x = some ((), x') ∧ RxB t x0 x' (pl g sz p) := by
  obtain ⟨h4, h5, h6, h7, hXT, hU, hg, hF⟩ := h
  have := (pl_rng g hp).2
  refine ⟨sI x 7 (nI (pl g sz p)), ?_, xI_s _ _ _, by omega, ⟨OX.length, hl, hXT⟩, RxF_trans hF (RxF_7 _ _ _)⟩
  unfold f_X1_fail
  rw [h7, if_neg (show ¬ (-1 : Int32) ≠ -1 from fun q => q rfl), h6, bnd_some]
theorem fail_B {t : Nat} {x0 x : GX} {f : Nat} (h : RxB t x0 x f) : f_X1_fail x = some ((), x) := by
  unfold f_X1_fail
  rw [if_pos (RxB_ne h)]
theorem law_t {t : Nat} {x0 x : GX} (ht : t < 6) (hv : xV x0 = some t) (hF : RxF t x0 x) {α : Type} (k : Nat → Option α) : lawB (xV x) k = k t := by
  rw [hF.2.2.2.2.2.2.2.1, hv]
  exact if_pos ht
theorem may_S {t : Nat} {x0 : GX} {g : Nat → Nat} {sz : Nat} {x : GX} {p o : Nat} {OX : List Int32} (hsz : sz ≤ 160) (hp : p ≤ sz) (hl : OX.length ≤ 160) (ho : o ≤ 5) (h : RxS t x0 g sz x p OX) : (o < 5 ∧ f_X1_mayOpen (nI o) x = some (1, x)) ∨ (o = 5 ∧ ∃ x', f_X1_mayOpen (nI o) x = some (0, x') ∧ RxB t x0 x' (pl g sz p)) := by
  unfold f_X1_mayOpen
  by_cases q : o < 5
  · left
    rw [if_pos (show nI o < (5 : Int32) from nI_lt q (by decide))]
    unfold b_X1_mayOpen_9
    rw [h.2.2.2.1, if_neg (show ¬ (-1 : Int32) ≠ -1 from fun q => q rfl)]
    exact ⟨q, rfl⟩
  · right
    obtain ⟨x', e, hB⟩ := fail_S hsz hp hl h
    rw [if_neg (show ¬ nI o < (5 : Int32) from nI_nlt (b := 5) (a := o) (by omega) (by omega)), e, bnd_some]
    unfold b_X1_mayOpen_9
    rw [if_pos (RxB_ne hB)]
    exact ⟨by omega, x', rfl, hB⟩
def rkI (x0 : Int32) : Int32 := if x0 = (-13 : Int32) then 4 else (if x0 = (-12 : Int32) then 3 else (if x0 = (-11 : Int32) then 3 else (if x0 = (-10 : Int32) then 2 else (if x0 = (-9 : Int32) then 2 else (if x0 = (-8 : Int32) then 1 else (if x0 = (-7 : Int32) then 0 else -1))))))
theorem rankOf_X (v : Int32) (x : GX) : f_X1_rankOf v x = some (rkI v, x) := by
  unfold f_X1_rankOf rkI
  exact ite_p (α := Nat) (ite_p (α := Nat) (ite_p (α := Nat) (ite_p (α := Nat) (ite_p (α := Nat) (ite_p (α := Nat) (ite_p (α := Nat) rfl))))))
theorem ops_10 : ∀ k, k < 24 → okk k = true → rkI (-(nI k)) = (if xr (-(nI k)) = 9 then -1 else nI (xr (-(nI k)))) := by decide +kernel
theorem rkI_xr {c : Int32} (h : tkr c) : rkI c = (if xr c = 9 then -1 else nI (xr c)) := by
  rcases h with ⟨n, hn, rfl⟩ | ⟨k, hk1, hk, hk15, rfl⟩
  · have hne : ∀ k : Int32, k < 0 → nI n ≠ k := fun k hk q => by rw [← q] at hk; exact nI_pos (by omega) hk
    rw [xr_num n (by omega), if_pos rfl]
    unfold rkI
    rw [if_neg (hne _ (by decide)), if_neg (hne _ (by decide)), if_neg (hne _ (by decide)), if_neg (hne _ (by decide)), if_neg (hne _ (by decide)), if_neg (hne _ (by decide)), if_neg (hne _ (by decide))]
  · refine ops_10 k hk ?_
    unfold okk
    rw [decide_eq_true hk1, decide_eq_true hk15]; rfl
theorem xr_lt {c : Int32} (h : tkr c) : xr c < 5 ∨ xr c = 9 := by
  unfold xr
  repeat' split
  all_goals omega
theorem rkI_ne {c : Int32} (h : tkr c) {r : Nat} (hr : r ≤ 4) : rkI c = nI r ↔ xr c = r := by
  rw [rkI_xr h]
  rcases xr_lt h with q | q
  · rw [if_neg (by omega)]; exact eq_nI (by omega) (by omega)
  · rw [if_pos q]
    exact ⟨fun e => absurd e.symm (nI_m1 (by omega)), fun e => by omega⟩
/-! ===== what a text puts down: its depth ===== -/
def stp (a : Int32) (e : Nat) : Option Nat := if (-6 : Int32) ≤ a then some (e + 1) else if a ≤ (-14 : Int32) then (if 1 ≤ e then some e else none) else (if 2 ≤ e then some (e - 1) else none)
def dep : List Int32 → Nat → Option Nat
  | [], d => some d
  | a :: l, d => bnd (dep l d) (stp a)
theorem dep_app (s2 s1 : List Int32) (d e : Nat) (h : dep s1 d = some e) : dep (s2 ++ s1) d = dep s2 e := by
  induction s2 with
  | nil => exact h
  | cons a l ih =>
    show bnd (dep (l ++ s1) d) (stp a) = bnd (dep l e) (stp a)
    rw [ih]
def SEG (OX OX' : List Int32) : Prop := ∃ s, OX' = s ++ OX ∧ ∀ d, dep s d = some (d + 1)
theorem SEG_one (OX : List Int32) {a : Int32} (h : (-6 : Int32) ≤ a) : SEG OX (a :: OX) := ⟨[a], rfl, fun d => by show bnd (some d) (stp a) = _; rw [bnd_some]; exact if_pos h⟩
theorem SEG_un {OX OX' : List Int32} {a : Int32} (h : SEG OX OX') (h1 : ¬ (-6 : Int32) ≤ a) (h2 : a ≤ (-14 : Int32)) : SEG OX (a :: OX') := by
  obtain ⟨s, e, hd⟩ := h
  refine ⟨a :: s, by rw [e]; rfl, fun d => ?_⟩
  show bnd (dep s d) (stp a) = _
  rw [hd d, bnd_some]
  unfold stp
  rw [if_neg h1, if_pos h2, if_pos (by omega)]
theorem SEG_two {OX OX1 OX2 : List Int32} {a : Int32} (h : SEG OX OX1) (k : SEG OX1 OX2) (h1 : ¬ (-6 : Int32) ≤ a) (h2 : ¬ a ≤ (-14 : Int32)) : SEG OX (a :: OX2) := by
  obtain ⟨s, e, hd⟩ := h
  obtain ⟨s2, e2, hd2⟩ := k
  refine ⟨a :: (s2 ++ s), by rw [e2, e]; simp, fun d => ?_⟩
  show bnd (dep (s2 ++ s) d) (stp a) = _
  rw [dep_app s2 s d (d + 1) (hd d), hd2, bnd_some]
  unfold stp
  rw [if_neg h1, if_neg h2, if_pos (by omega)]
  rfl
/-! ===== a part of the grammar: both alike ===== -/
def FLT (t : Nat) (x0 : GX) (m0 : GM) (a : Option (Unit × GX)) (b : Option (Int32 × GM)) : Prop := ∃ x' m' f, a = some ((), x') ∧ RxB t x0 x' f ∧ b = some (0, m') ∧ mI m' 8 = nI f ∧ RdF t m0 m'
def NB (r : Nat) (c : Int32) (S O : List Int32) : Prop := xr c < r ∨ xr c = 9 ∨ (r ≤ 2 ∧ xr c = 2 ∧ tpr (unw 5 S O).1 = 4)
def OKS (t : Nat) (x0 : GX) (m0 : GM) (g : Nat → Nat) (sz r : Nat) (S OX : List Int32) (p : Nat) (a : Option (Unit × GX)) (b : Option (Int32 × GM)) : Prop :=
  ∃ x' OX' q m' S' O' F' y2, a = some ((), x') ∧ RxS t x0 g sz x' q OX' ∧ RdS t m0 m' q S' O' ∧ b = k_X5_eRead_14 F' 0 y2 m' ∧ 400 ≤ F' + q ∧ p < q ∧ q ≤ sz ∧ S'.length + O'.length ≤ q ∧ unw (mr r) S' O' = unw (mr r) S (OX'.map enc) ∧ NB r (tk g sz q) S' O' ∧ SEG OX OX'
def lm (r : Nat) : Nat := [1, 2, 4, 5, 6, 8].getD r 8
def SimF (t : Nat) (x0 : GX) (m0 : GM) (g : Nat → Nat) (sz : Nat) (fx : GX → Option (Unit × GX)) (r o : Nat) : Prop :=
  ∀ (x : GX) (m : GM) (p : Nat) (S OX : List Int32) (x2 : Int32) (F : Nat), RxS t x0 g sz x p OX → RdS t m0 m p S (OX.map enc) → cntO S = o → tpr S < lm r → S.length + OX.length ≤ p → p ≤ sz → (r ≤ 2 → x2 = 1) → (3 ≤ r → x2 = 0 ∨ tk g sz p ≠ -14) → 400 ≤ F + p → FLT t x0 m0 (fx x) (k_X5_eRead_14 F 1 x2 m) ∨ OKS t x0 m0 g sz r S OX p (fx x) (k_X5_eRead_14 F 1 x2 m)
def Bs (t : Nat) (x0 : GX) (m0 : GM) (g : Nat → Nat) (sz : Nat) : Prop := TX g sz x0 ∧ TM g sz m0 ∧ t < 6 ∧ xV x0 = some t ∧ mI m0 4 = nI t
theorem len_eq {r : Nat} {S O S' O' : List Int32} (h : unw r S O = unw r S' O') : S.length + O.length = S'.length + O'.length := by
  rw [← unw_len r S O, ← unw_len r S' O', h]
theorem loop_B {t : Nat} {x0 x : GX} {f : Nat} (rc : Nat → Int32 → Int32 → GX → Option (Unit × GX)) (h : RxB t x0 x f) (F : Nat) (a b c d : Int32) : k_X1_joined_79 rc (F + 1) a b c d x = some ((), x) := by
  show b_X1_joined_79 rc (k_X1_joined_79 rc F) a b c d x = _
  unfold b_X1_joined_79
  rw [if_pos (RxB_ne h)]
  split <;> rfl
theorem NB_5 {c : Int32} (h : tkr c) (S O : List Int32) : NB 5 c S O := by
  rcases xr_lt h with q | q
  · exact Or.inl q
  · exact Or.inr (Or.inl q)
theorem enc_bin {c : Int32} (h : tkr c) (hx : xr c ≠ 9) : opn (enc c) = 0 ∧ xr c < 5 ∧ rk (enc c) = [1, 2, 4, 5, 6].getD (xr c) 0 ∧ (-15 : Int32) ≤ c ∧ c ≤ (9999 : Int32) ∧ ¬ (-6 : Int32) ≤ c ∧ ¬ c ≤ (-14 : Int32) ∧ c ≠ -22 := by
  rcases h with ⟨n, hn, rfl⟩ | ⟨k, hk1, hk, hk15, rfl⟩
  · exact absurd (xr_num n (by omega)) hx
  · obtain ⟨_, t2, _⟩ := ops_tab k hk hk1 hk15
    obtain ⟨s1, s2, s3, s4, s5, s6, s7, s8, s9, s10, s11, s12, s13⟩ := t2 hx
    refine ⟨s3, s4, s5, s9, s10, s11, s13, fun q => ?_⟩
    rw [q] at hx
    exact hx (by decide)
theorem five_sim {t : Nat} {x0 : GX} {m0 : GM} {g : Nat → Nat} {sz o : Nat} (rc : Nat → Int32 → Int32 → GX → Option (Unit × GX)) (h : SimF t x0 m0 g sz (rc 1 0 (nI o)) 5 o) : SimF t x0 m0 g sz (f_X1_joined rc (nI 5) (nI o)) 5 o := by
  intro x m p S OX x2 F h1 h2 h3 h4 h5 h6 h7 h8 h9
  have e : ∀ y, rc 1 0 (nI o) x = some ((), y) → f_X1_joined rc (nI 5) (nI o) x = some ((), y) := by
    intro y hy
    unfold f_X1_joined
    rw [if_neg (show ¬ nI 5 < (5 : Int32) by decide), hy, bnd_some]
  rcases h x m p S OX x2 F h1 h2 h3 h4 h5 h6 h7 h8 h9 with ⟨x', m', f, a1, a2⟩ | ⟨x', OX', q, m', S', O', F', y2, a1, a2⟩
  · exact Or.inl ⟨x', m', f, e _ a1, a2⟩
  · exact Or.inr ⟨x', OX', q, m', S', O', F', y2, e _ a1, a2⟩
theorem lvl_loop {t : Nat} {x0 : GX} {m0 : GM} {g : Nat → Nat} {sz r o p : Nat} {S OX : List Int32} (rc : Nat → Int32 → Int32 → GX → Option (Unit × GX)) (H : Bs t x0 m0 g sz) (hr : r = 0 ∨ r = 1 ∨ r = 3 ∨ r = 4) (hsub : SimF t x0 m0 g sz (rc 0 (nI (r + 1)) (nI o)) (r + 1) o) (hc : cntO S = o) (htp : tpr S < lm r) :
    ∀ (n i F1 : Nat) (x : GX) (m : GM) (q : Nat) (S' O' OXc : List Int32) (F : Nat) (x2 : Int32), sz < q + n → n < F1 → RxS t x0 g sz x q OXc → RdS t m0 m q S' O' → 400 ≤ F + q → q ≤ sz → S'.length + O'.length ≤ q → unw (mr r) S' O' = unw (mr r) S (OXc.map enc) → (xr (tk g sz q) = r ∨ NB r (tk g sz q) S' O') → SEG OX OXc → i < q → p < q →
      FLT t x0 m0 (k_X1_joined_79 rc F1 (nI r) (nI o) 160 (nI i) x) (k_X5_eRead_14 F 0 x2 m) ∨ OKS t x0 m0 g sz r S OX p (k_X1_joined_79 rc F1 (nI r) (nI o) 160 (nI i) x) (k_X5_eRead_14 F 0 x2 m) := by
  obtain ⟨hTX, hTM, ht, hv, h4⟩ := H
  have hsz := hTX.1
  have hlm : lm r = mr r := by rcases hr with rfl | rfl | rfl | rfl <;> rfl
  have hm1 : 1 ≤ mr r := by rcases hr with rfl | rfl | rfl | rfl <;> decide
  have hr4 : r ≤ 4 := by omega
  intro n
  induction n with
  | zero => intro i F1 x m q S' O' OXc F x2 hn; intros; omega
  | succ n ih =>
    intro i F1 x m q S' O' OXc F x2 hn hF1 hX hM hF hq hl hu hNB hseg hi hpq
    obtain ⟨F1, rfl⟩ : ∃ k, F1 = k + 1 := ⟨F1 - 1, by omega⟩
    obtain ⟨F, rfl⟩ : ∃ k, F = k + 1 := ⟨F - 1, by omega⟩
    have htk := tk_ok hTM hq
    have hTm := TM_Rd hTM hM.2.2.2.2.2.2
    have hXs : k_X1_joined_79 rc (F1 + 1) (nI r) (nI o) 160 (nI i) x = if rkI (tk g sz q) ≠ nI r then some ((), x) else (bnd (f_X1_advance x) fun q4 => bnd (rc 0 (nI (r + 1)) (nI o) q4.2) fun q5 => lawB (xV q5.2) fun t6 => (bnd (f_X0_add t6 (tk g sz q) q5.2) fun q7 => k_X1_joined_79 rc F1 (nI r) (nI o) 160 (nI (i + 1)) q7.2)) := by
      show b_X1_joined_79 rc (k_X1_joined_79 rc F1) (nI r) (nI o) 160 (nI i) x = _
      unfold b_X1_joined_79
      rw [if_neg (show ¬ (160 : Int32) ≤ nI i from nI_ge (b := 160) (by omega) (by decide)), hX.2.2.2.1, if_neg (show ¬ (-1 : Int32) ≠ -1 from fun q => q rfl), hX.2.1, rankOf_X, bnd_some]
      show (if rkI (tk g sz q) ≠ nI r then _ else bnd (some (xI x 5)) _) = _
      rw [bnd_some, hX.2.1, show nI r + (1 : Int32) = nI (r + 1) from nI_add r 1, show nI i + (1 : Int32) = nI (i + 1) from nI_add i 1]
    rw [hXs]
    by_cases hxr : xr (tk g sz q) = r
    · rw [if_neg (fun w => w ((rkI_ne htk hr4).mpr hxr))]
      have h9 : xr (tk g sz q) ≠ 9 := by omega
      obtain ⟨b1, b2, b3, b4, b5, b6, b7, b8⟩ := enc_bin htk h9
      have hnx := nx_rng g hq
      have hq1 := hnx.2.2 b8
      have hlu := len_eq hu
      rw [List.length_map] at hlu
      have hS : unw (mr r) S (OXc.map enc) = (S, OXc.map enc) := unw_top hm1 (by rw [← hlm]; exact htp)
      have hth : tht (enc (tk g sz q)) = mr r := by
        unfold tht
        rw [b3, hxr]
        rcases hr with rfl | rfl | rfl | rfl <;> rfl
      rcases W0_bin (F := F) (x2 := x2) hTm hq h4 ht (by omega) hM h9 with ⟨w1, _⟩ | ⟨_, m1, c1, c2⟩
      · omega
      · rw [hth, hu, hS] at c2
        rw [hxr] at c1
        rw [c1]
        obtain ⟨x1, e1, hX1⟩ := adv_S hTX hq hX
        rw [e1, bnd_some]
        have hsub1 := hsub x1 m1 (nx g sz q) (enc (tk g sz q) :: S) OXc (if 2 ≤ r then 0 else 1) F hX1 c2 (by show opn _ + cntO S = o; rw [b1, Nat.zero_add]; exact hc) (by
          show rk (enc (tk g sz q)) < lm (r + 1)
          rw [b3, hxr]
          rcases hr with rfl | rfl | rfl | rfl <;> decide) (by show S.length + 1 + OXc.length ≤ _; omega) hnx.2.1 (fun w => if_neg (by omega)) (fun w => Or.inl (if_pos (by omega))) (by omega)
        rcases hsub1 with ⟨x2', m2, f, d1, d2, d3, d4, d5⟩ | ⟨x2', OX2, q2, m2, S2, O2, F2, y2, d1, d2, d3, d4, d5, d6, d7, d8, d9, d10, d11⟩
        · left
          rw [d1, bnd_some, law_t ht hv d2.2.2.2]
          obtain ⟨x3, e3, hB3⟩ := add_B (tk g sz q) d2
          rw [e3, bnd_some]
          obtain ⟨F1, rfl⟩ : ∃ k, F1 = k + 1 := ⟨F1 - 1, by omega⟩
          exact ⟨x3, m2, f, loop_B rc hB3 F1 _ _ _ _, hB3, d3, d4, d5⟩
        · have hl2 := len_eq d9
          rw [List.length_map] at hl2
          have hl3 : (enc (tk g sz q) :: S).length = S.length + 1 := rfl
          obtain ⟨x3, e3, hX3⟩ := add_S (tk g sz q) d2 (by omega) ⟨b4, b5⟩
          rw [d1, bnd_some, law_t ht hv d2.2.2.2.2.2.2.2, e3, bnd_some, d4]
          have hu3 : unw (mr r) S2 O2 = unw (mr r) S ((tk g sz q :: OX2).map enc) := by
            have := unw_low (r' := mr r) (r := mr (r + 1)) (by rcases hr with rfl | rfl | rfl | rfl <;> decide) d9
            rw [this]
            exact unw_pop (by rw [← hth]; unfold tht; rw [b3, hxr]; rcases hr with rfl | rfl | rfl | rfl <;> decide)
          have hnb : xr (tk g sz q2) = r ∨ NB r (tk g sz q2) S2 O2 := by
            rcases d10 with w | w | ⟨w1, w2⟩
            · by_cases e : xr (tk g sz q2) = r
              · exact Or.inl e
              · exact Or.inr (Or.inl (by omega))
            · exact Or.inr (Or.inr (Or.inl w))
            · exact Or.inr (Or.inr (Or.inr ⟨by omega, w2⟩))
          exact ih (i + 1) F1 x3 m2 q2 S2 O2 (tk g sz q :: OX2) F2 y2 (by omega) (by omega) hX3 d3 d5 d7 d8 hu3 hnb (SEG_two hseg d11 b6 b7) (by omega) (by omega)
    · right
      rw [if_pos (fun w => hxr ((rkI_ne htk hr4).mp w))]
      rcases hNB with w | w
      · exact absurd w hxr
      · exact ⟨x, OXc, q, m, S', O', F + 1, x2, rfl, hX, hM, rfl, hF, hpq, hq, hl, hu, w, hseg⟩
theorem lvl_sim {t : Nat} {x0 : GX} {m0 : GM} {g : Nat → Nat} {sz r o : Nat} (rc : Nat → Int32 → Int32 → GX → Option (Unit × GX)) (H : Bs t x0 m0 g sz) (hr : r = 0 ∨ r = 1 ∨ r = 3 ∨ r = 4) (hsub : SimF t x0 m0 g sz (rc 0 (nI (r + 1)) (nI o)) (r + 1) o) : SimF t x0 m0 g sz (f_X1_joined rc (nI r) (nI o)) r o := by
  intro x m p S OX x2 F h1 h2 h3 h4 h5 h6 h7 h8 h9
  have hsz := H.1.1
  have hX : f_X1_joined rc (nI r) (nI o) x = bnd (rc 0 (nI (r + 1)) (nI o) x) fun q1 => k_X1_joined_79 rc FU (nI r) (nI o) 160 (nI 0) q1.2 := by
    unfold f_X1_joined b_X1_joined_55
    have hne : nI r ≠ (2 : Int32) := ne_lit r 2 (by omega) (by decide) (by omega)
    rw [if_pos (show nI r < (5 : Int32) from nI_lt (b := 5) (by omega) (by decide)), if_pos hne, show nI r + (1 : Int32) = nI (r + 1) from nI_add r 1]
    simp only [if_pos hne]
    rfl
  rw [hX]
  have hlm : lm r ≤ lm (r + 1) := by rcases hr with rfl | rfl | rfl | rfl <;> decide
  rcases hsub x m p S OX x2 F h1 h2 h3 (by omega) h5 h6 (fun w => h7 (by omega)) (fun w => h8 (by omega)) h9 with ⟨x', m', f, a1, a2, a3⟩ | ⟨x', OX', q, m', S', O', F', y2, a1, a2, a3, a4, a5, a6, a7, a8, a9, a10, a11⟩
  · left
    rw [a1, bnd_some]
    exact ⟨x', m', f, loop_B rc a2 999 _ _ _ _, a2, a3⟩
  · rw [a1, bnd_some, a4]
    have hu : unw (mr r) S' O' = unw (mr r) S (OX'.map enc) := unw_low (by rcases hr with rfl | rfl | rfl | rfl <;> decide) a9
    have hnb : xr (tk g sz q) = r ∨ NB r (tk g sz q) S' O' := by
      rcases a10 with w | w | ⟨w1, w2⟩
      · by_cases e : xr (tk g sz q) = r
        · exact Or.inl e
        · exact Or.inr (Or.inl (by omega))
      · exact Or.inr (Or.inr (Or.inl w))
      · exact Or.inr (Or.inr (Or.inr ⟨by omega, w2⟩))
    exact lvl_loop rc H hr hsub h3 h4 (sz + 1) 0 FU x' m' q S' O' OX' F' y2 (by omega) (by show _ < 1000; omega) a2 a3 a5 a7 a8 hu hnb a11 (by omega) a6
theorem cmp_sim {t : Nat} {x0 : GX} {m0 : GM} {g : Nat → Nat} {sz o : Nat} (rc : Nat → Int32 → Int32 → GX → Option (Unit × GX)) (H : Bs t x0 m0 g sz) (ho : o ≤ 5) (h3 : SimF t x0 m0 g sz (rc 0 (nI 3) (nI o)) 3 o) (h2 : o < 5 → SimF t x0 m0 g sz (rc 0 (nI 2) (nI (o + 1))) 2 (o + 1)) : SimF t x0 m0 g sz (f_X1_joined rc (nI 2) (nI o)) 2 o := by
  intro x m p S OX x2 F k1 k2 k3 k4 k5 k6 k7 k8 k9
  obtain ⟨hTX, hTM, ht, hv, h4⟩ := id H
  have hsz := hTX.1
  have hx21 : x2 = 1 := k7 (by decide)
  have hTm := TM_Rd hTM k2.2.2.2.2.2.2
  have htp : tpr S < 4 := k4
  by_cases hn : tk g sz p = -14
  · -- not
    have hX : f_X1_joined rc (nI 2) (nI o) x = bnd (f_X1_mayOpen (nI o) x) fun q8 => if q8.1 = 0 then (some ((), q8.2)) else (bnd (f_X1_advance q8.2) fun q9 => bnd (rc 0 (nI 2) (nI (o + 1)) q9.2) fun q10 => lawB (xV q10.2) fun t11 => (bnd (f_X0_add t11 (-14 : Int32) q10.2) fun q12 => some ((), q12.2))) := by
      unfold f_X1_joined
      rw [if_pos (show nI 2 < (5 : Int32) by decide), if_neg (show ¬ nI 2 ≠ (2 : Int32) from fun q => q rfl), k1.2.1, hn, if_neg (show ¬ (-14 : Int32) ≠ -14 from fun q => q rfl), show nI o + (1 : Int32) = nI (o + 1) from nI_add o 1]
      rfl
    rw [hX]
    obtain ⟨F, rfl⟩ : ∃ k, F = k + 1 := ⟨F - 1, by omega⟩
    have hlO : (OX.map enc).length = OX.length := List.length_map _
    have hW := W1_opens (F := F) (x2 := x2) (a := 13) (y2 := x2) hTm k6 (by rw [hlO]; omega) k2 (by omega) (Or.inl ⟨hn, by rw [hx21]; decide, rfl, rfl⟩)
    rcases may_S hsz k6 (by omega) ho k1 with ⟨o5, e1⟩ | ⟨o5, x1, e1, hB⟩
    · rcases hW with ⟨w1, _⟩ | ⟨_, m1, c1, c2⟩
      · omega
      · rw [e1, bnd_some, if_neg (show ¬ (1 : Int32) = 0 by decide), c1]
        obtain ⟨x1, e2, hX1⟩ := adv_S hTX k6 k1
        have hnx := nx_rng g k6
        have hq1 := hnx.2.2 (by rw [hn]; decide)
        rw [e2, bnd_some]
        rcases h2 o5 x1 m1 (nx g sz p) (13 :: S) OX x2 F hX1 c2 (by show opn 13 + cntO S = o + 1; rw [k3]; exact Nat.add_comm 1 o) (by show rk 13 < lm 2; decide) (by show S.length + 1 + OX.length ≤ _; omega) hnx.2.1 (fun _ => hx21) (fun w => absurd w (by decide)) (by omega) with ⟨x', m', f, a1, a2, a3⟩ | ⟨x', OX', q, m', S', O', F', y2, a1, a2, a3, a4, a5, a6, a7, a8, a9, a10, a11⟩
        · left
          obtain ⟨x3, e3, hB3⟩ := add_B (-14) a2
          rw [a1, bnd_some, law_t ht hv a2.2.2.2, e3, bnd_some]
          exact ⟨x3, m', f, rfl, hB3, a3⟩
        · right
          have hl2 := len_eq a9
          rw [List.length_map] at hl2
          have hl3 : ((13 : Int32) :: S).length = S.length + 1 := rfl
          obtain ⟨x3, e3, hX3⟩ := add_S (-14) a2 (by omega) (by decide)
          rw [a1, bnd_some, law_t ht hv a2.2.2.2.2.2.2.2, e3, bnd_some]
          refine ⟨x3, _, q, m', S', O', F', y2, rfl, hX3, a3, a4, a5, by omega, a7, a8, ?_, a10, SEG_un a11 (by decide) (by decide)⟩
          rw [a9]
          exact unw_pop (show mr 2 ≤ rk 13 by decide)
    · left
      rw [e1, bnd_some, if_pos rfl]
      rcases hW with ⟨_, m1, c1, c2, c3⟩ | ⟨w1, _⟩
      · exact ⟨x1, m1, _, rfl, hB, c1, c3, c2⟩
      · omega
  · -- compared
    have hX : f_X1_joined rc (nI 2) (nI o) x = bnd (rc 0 (nI 3) (nI o) x) fun q1 => k_X1_joined_79 rc FU (nI 2) (nI o) 1 (nI 0) q1.2 := by
      unfold f_X1_joined b_X1_joined_55
      rw [if_pos (show nI 2 < (5 : Int32) by decide), if_neg (show ¬ nI 2 ≠ (2 : Int32) from fun q => q rfl), k1.2.1, if_pos hn, show nI 2 + (1 : Int32) = nI 3 from nI_add 2 1]
      simp only [if_neg (show ¬ nI 2 ≠ (2 : Int32) from fun q => q rfl)]
      rfl
    rw [hX]
    rcases h3 x m p S OX x2 F k1 k2 k3 (by show tpr S < 5; omega) k5 k6 (fun w => absurd w (by decide)) (fun _ => Or.inr hn) k9 with ⟨x', m', f, a1, a2, a3⟩ | ⟨x', OX', q, m', S', O', F', y2, a1, a2, a3, a4, a5, a6, a7, a8, a9, a10, a11⟩
    · left
      rw [a1, bnd_some]
      exact ⟨x', m', f, loop_B rc a2 999 _ _ _ _, a2, a3⟩
    · rw [a1, bnd_some, a4]
      obtain ⟨F', rfl⟩ : ∃ k, F' = k + 1 := ⟨F' - 1, by omega⟩
      have htk := tk_ok hTM a7
      have hTm' := TM_Rd hTM a3.2.2.2.2.2.2
      have a9' : unw 5 S' O' = unw 5 S (OX'.map enc) := a9
      have hS : unw 5 S (OX'.map enc) = (S, OX'.map enc) := unw_top (by decide) (by omega)
      have hXs : k_X1_joined_79 rc FU (nI 2) (nI o) 1 (nI 0) x' = if rkI (tk g sz q) ≠ nI 2 then some ((), x') else (bnd (f_X1_advance x') fun q4 => bnd (rc 0 (nI 3) (nI o) q4.2) fun q5 => lawB (xV q5.2) fun t6 => (bnd (f_X0_add t6 (tk g sz q) q5.2) fun q7 => k_X1_joined_79 rc 999 (nI 2) (nI o) 1 (nI 1) q7.2)) := by
        show b_X1_joined_79 rc (k_X1_joined_79 rc 999) (nI 2) (nI o) 1 (nI 0) x' = _
        unfold b_X1_joined_79
        rw [if_neg (show ¬ (1 : Int32) ≤ nI 0 by decide), a2.2.2.2.1, if_neg (show ¬ (-1 : Int32) ≠ -1 from fun q => q rfl), a2.2.1, rankOf_X, bnd_some]
        show (if rkI (tk g sz q) ≠ nI 2 then _ else bnd (some (xI x' 5)) _) = _
        rw [bnd_some, a2.2.1, show nI 2 + (1 : Int32) = nI 3 from nI_add 2 1, show nI 0 + (1 : Int32) = nI 1 from nI_add 0 1]
      rw [hXs]
      by_cases hxr : xr (tk g sz q) = 2
      · rw [if_neg (fun w => w ((rkI_ne htk (by decide)).mpr hxr))]
        have h9 : xr (tk g sz q) ≠ 9 := by omega
        obtain ⟨b1, b2, b3, b4, b5, b6, b7, b8⟩ := enc_bin htk h9
        have hnx := nx_rng g a7
        have hq1 := hnx.2.2 b8
        have hlu := len_eq a9'
        rw [List.length_map] at hlu
        have hrk : rk (enc (tk g sz q)) = 4 := by rw [b3, hxr]; rfl
        have hth : tht (enc (tk g sz q)) = 5 := if_pos hrk
        rcases W0_bin (F := F') (x2 := y2) hTm' a7 h4 ht (by omega) a3 h9 with ⟨_, w2, _⟩ | ⟨_, m1, c1, c2⟩
        · rw [a9', hS] at w2
          have w3 : tpr S = 4 := w2
          omega
        · rw [hth, a9', hS] at c2
          rw [hxr] at c1
          rw [c1]
          obtain ⟨x1, e1, hX1⟩ := adv_S hTX a7 a2
          rw [e1, bnd_some]
          rcases h3 x1 m1 (nx g sz q) (enc (tk g sz q) :: S) OX' (if 2 ≤ 2 then 0 else 1) F' hX1 c2 (by show opn _ + cntO S = o; rw [b1, Nat.zero_add]; exact k3) (by show rk (enc (tk g sz q)) < lm 3; rw [hrk]; decide) (by show S.length + 1 + OX'.length ≤ _; omega) hnx.2.1 (fun w => absurd w (by decide)) (fun w => Or.inl rfl) (by omega) with ⟨x2', m2, f, d1, d2, d3, d4, d5⟩ | ⟨x2', OX2, q2, m2, S2, O2, F2, z2, d1, d2, d3, d4, d5, d6, d7, d8, d9, d10, d11⟩
          · left
            obtain ⟨x3, e3, hB3⟩ := add_B (tk g sz q) d2
            rw [d1, bnd_some, law_t ht hv d2.2.2.2, e3, bnd_some]
            exact ⟨x3, m2, f, loop_B rc hB3 998 _ _ _ _, hB3, d3, d4, d5⟩
          · right
            have hl2 := len_eq d9
            rw [List.length_map] at hl2
            have hl3 : (enc (tk g sz q) :: S).length = S.length + 1 := rfl
            obtain ⟨x3, e3, hX3⟩ := add_S (tk g sz q) d2 (by omega) ⟨b4, b5⟩
            rw [d1, bnd_some, law_t ht hv d2.2.2.2.2.2.2.2, e3, bnd_some]
            have d9' : unw 5 S2 O2 = unw 5 (enc (tk g sz q) :: S) (OX2.map enc) := d9
            have hend : k_X1_joined_79 rc 999 (nI 2) (nI o) 1 (nI 1) x3 = some ((), x3) := by
              show b_X1_joined_79 rc (k_X1_joined_79 rc 998) (nI 2) (nI o) 1 (nI 1) x3 = _
              unfold b_X1_joined_79
              rw [if_pos (show (1 : Int32) ≤ nI 1 by decide)]
            have htop : unw 5 (enc (tk g sz q) :: S) (OX2.map enc) = (enc (tk g sz q) :: S, OX2.map enc) := unw_top (by decide) (by show rk _ < 5; rw [hrk]; decide)
            refine ⟨x3, _, q2, m2, S2, O2, F2, z2, hend, hX3, d3, d4, d5, by omega, d7, d8, ?_, ?_, SEG_two a11 d11 b6 b7⟩
            · rw [unw_low (r := 5) (r' := mr 2) (by decide) d9']
              exact unw_pop (by rw [hrk]; decide)
            · rcases d10 with w | w | ⟨w1, _⟩
              · by_cases e : xr (tk g sz q2) = 2
                · refine Or.inr (Or.inr ⟨Nat.le_refl _, e, ?_⟩)
                  rw [d9', htop]
                  exact hrk
                · exact Or.inl (by omega)
              · exact Or.inr (Or.inl w)
              · omega
      · right
        rw [if_pos (fun w => hxr ((rkI_ne htk (by decide)).mp w))]
        refine ⟨x', OX', q, m', S', O', F' + 1, y2, rfl, a2, a3, rfl, a5, a6, a7, a8, unw_low (r := 5) (r' := mr 2) (by decide) a9', ?_, a11⟩
        rcases a10 with w | w | ⟨w1, _⟩
        · exact Or.inl (by omega)
        · exact Or.inr (Or.inl w)
        · omega
theorem tok_enc {c : Int32} (h : tkr c) (h6 : (-6 : Int32) ≤ c) : (-15 : Int32) ≤ c ∧ c ≤ (9999 : Int32) ∧ c ≠ -22 := by
  rcases h with ⟨n, hn, rfl⟩ | ⟨k, hk1, hk, hk15, rfl⟩
  · have h0 : (nI n).toInt = n := nI_toInt (by omega)
    refine ⟨?_, nI_le hn (by decide), fun q => ?_⟩
    · rw [Int32.le_iff_toInt_le, h0, show (-15 : Int32).toInt = -15 by decide]; omega
    · rw [q] at h6; exact absurd h6 (by decide)
  · have := (by decide +kernel : ∀ k, k < 24 → okk k = true → (-6 : Int32) ≤ -(nI k) → (-15 : Int32) ≤ -(nI k) ∧ -(nI k) ≤ (9999 : Int32) ∧ -(nI k) ≠ (-22 : Int32)) k hk (by unfold okk; rw [decide_eq_true hk1, decide_eq_true hk15]; rfl) h6
    exact this
theorem one_sim {t : Nat} {x0 : GX} {m0 : GM} {g : Nat → Nat} {sz o : Nat} (rc : Nat → Int32 → Int32 → GX → Option (Unit × GX)) (H : Bs t x0 m0 g sz) (ho : o ≤ 5) (h0 : o < 5 → SimF t x0 m0 g sz (rc 0 (nI 0) (nI (o + 1))) 0 (o + 1)) (h1 : o < 5 → SimF t x0 m0 g sz (rc 1 0 (nI (o + 1))) 5 (o + 1)) : SimF t x0 m0 g sz (f_X1_one rc (nI o)) 5 o := by
  intro x m p S OX x2 F k1 k2 k3 k4 k5 k6 k7 k8 k9
  obtain ⟨hTX, hTM, ht, hv, h4⟩ := id H
  have hsz := hTX.1
  have hTm := TM_Rd hTM k2.2.2.2.2.2.2
  have htk := tk_ok hTM k6
  have hlO : (OX.map enc).length = OX.length := List.length_map _
  have hnx := nx_rng g k6
  obtain ⟨F, rfl⟩ : ∃ k, F = k + 1 := ⟨F - 1, by omega⟩
  unfold f_X1_one
  rw [k1.2.2.2.1, if_pos rfl, k1.2.1]
  by_cases c6 : (-6 : Int32) ≤ tk g sz p
  · -- a number, a name
    right
    obtain ⟨b1, b2, b3⟩ := tok_enc htk c6
    have hq1 := hnx.2.2 b3
    rw [if_neg (nlt_of_le c6), law_t ht hv k1.2.2.2.2.2.2.2]
    obtain ⟨x1, e1, hX1⟩ := add_S (tk g sz p) k1 (by omega) ⟨b1, b2⟩
    obtain ⟨x3, e3, hX3⟩ := adv_S hTX k6 hX1
    obtain ⟨m1, c1, c2⟩ := W1_one (F := F) (x2 := x2) hTm k6 h4 ht (by rw [hlO]; omega) k2 c6
    rw [e1, bnd_some, e3, bnd_some, c1]
    have hlen := unw_len 7 S (enc (tk g sz p) :: OX.map enc)
    have hl3 : (enc (tk g sz p) :: OX.map enc).length = OX.length + 1 := by show (OX.map enc).length + 1 = _; rw [hlO]
    refine ⟨x3, _, nx g sz p, m1, _, _, F, x2, rfl, hX3, c2, rfl, by omega, hq1, hnx.2.1, by omega, ?_, NB_5 (tk_ok hTM hnx.2.1) _ _, SEG_one OX c6⟩
    exact unw_unw (Nat.le_refl 7) _ _
  · rw [if_pos (show tk g sz p < (-6 : Int32) by rw [Int32.lt_iff_toInt_lt]; rw [Int32.le_iff_toInt_le] at c6; omega)]
    by_cases c12 : tk g sz p = -12
    · -- minus
      rw [if_neg (fun w => w c12)]
      have hq1 := hnx.2.2 (by rw [c12]; decide)
      have hW := W1_opens (F := F) (x2 := x2) (a := 19) (y2 := 0) hTm k6 (by rw [hlO]; omega) k2 (by omega) (Or.inr (Or.inl ⟨c12, rfl, rfl⟩))
      rcases may_S hsz k6 (by omega) ho k1 with ⟨o5, e1⟩ | ⟨o5, x1, e1, hB⟩
      · rcases hW with ⟨w1, _⟩ | ⟨_, m1, c1, c2⟩
        · omega
        · rw [e1, bnd_some, if_neg (show ¬ (1 : Int32) = 0 by decide), c1]
          obtain ⟨x1, e2, hX1⟩ := adv_S hTX k6 k1
          rw [e2, bnd_some, show nI o + (1 : Int32) = nI (o + 1) from nI_add o 1]
          rcases h1 o5 x1 m1 (nx g sz p) (19 :: S) OX 0 F hX1 c2 (by show opn 19 + cntO S = o + 1; rw [k3]; exact Nat.add_comm 1 o) (by show rk 19 < lm 5; decide) (by show S.length + 1 + OX.length ≤ _; omega) hnx.2.1 (fun w => absurd w (by decide)) (fun _ => Or.inl rfl) (by omega) with ⟨x', m', f, a1, a2, a3⟩ | ⟨x', OX', q, m', S', O', F', y2, a1, a2, a3, a4, a5, a6, a7, a8, a9, a10, a11⟩
          · left
            obtain ⟨x3, e3, hB3⟩ := add_B (-15) a2
            rw [a1, bnd_some, law_t ht hv a2.2.2.2, e3, bnd_some]
            exact ⟨x3, m', f, rfl, hB3, a3⟩
          · right
            have hl2 := len_eq a9
            rw [List.length_map] at hl2
            have hl3 : ((19 : Int32) :: S).length = S.length + 1 := rfl
            obtain ⟨x3, e3, hX3⟩ := add_S (-15) a2 (by omega) (by decide)
            rw [a1, bnd_some, law_t ht hv a2.2.2.2.2.2.2.2, e3, bnd_some]
            refine ⟨x3, _, q, m', S', O', F', y2, rfl, hX3, a3, a4, a5, by omega, a7, a8, ?_, a10, SEG_un a11 (by decide) (by decide)⟩
            rw [a9]
            exact unw_pop (show mr 5 ≤ rk 19 by decide)
      · left
        rw [e1, bnd_some, if_pos rfl]
        rcases hW with ⟨_, m1, c1, c2, c3⟩ | ⟨w1, _⟩
        · exact ⟨x1, m1, _, rfl, hB, c1, c3, c2⟩
        · omega
    · rw [if_pos c12]
      by_cases c16 : tk g sz p = -16
      · -- a bracket
        rw [if_neg (fun w => w c16)]
        have hq1 := hnx.2.2 (by rw [c16]; decide)
        have hW := W1_opens (F := F) (x2 := x2) (a := 0) (y2 := 1) hTm k6 (by rw [hlO]; omega) k2 (by omega) (Or.inr (Or.inr ⟨c16, rfl, rfl⟩))
        rcases may_S hsz k6 (by omega) ho k1 with ⟨o5, e1⟩ | ⟨o5, x1, e1, hB⟩
        · rcases hW with ⟨w1, _⟩ | ⟨_, m1, c1, c2⟩
          · omega
          · rw [e1, bnd_some, if_neg (show ¬ (1 : Int32) = 0 by decide), c1]
            obtain ⟨x1, e2, hX1⟩ := adv_S hTX k6 k1
            rw [e2, bnd_some, show nI o + (1 : Int32) = nI (o + 1) from nI_add o 1]
            rcases h0 o5 x1 m1 (nx g sz p) (0 :: S) OX 1 F hX1 c2 (by show opn 0 + cntO S = o + 1; rw [k3]; exact Nat.add_comm 1 o) (by show rk 0 < lm 0; decide) (by show S.length + 1 + OX.length ≤ _; omega) hnx.2.1 (fun _ => rfl) (fun w => absurd w (by decide)) (by omega) with ⟨x', m', f, a1, a2, a3⟩ | ⟨x', OX', q, m', S', O', F', y2, a1, a2, a3, a4, a5, a6, a7, a8, a9, a10, a11⟩
            · left
              have hB1 : b_X1_one_118 rc x' = some ((), x') := by
                unfold b_X1_one_118
                rw [if_pos (RxB_ne a2)]
              rw [show rc 0 (0 : Int32) (nI (o + 1)) x1 = _ from a1, bnd_some, fail_B a2, bnd_some, hB1]
              refine ⟨x', m', f, ?_, a2, a3⟩
              split <;> rfl
            · rw [show rc 0 (0 : Int32) (nI (o + 1)) x1 = _ from a1, bnd_some, a4]
              show FLT t x0 m0 (if xI x' 5 = -17 then _ else _) _ ∨ OKS t x0 m0 g sz 5 S OX p (if xI x' 5 = -17 then _ else _) _
              rw [a2.2.1]
              obtain ⟨F', rfl⟩ : ∃ k, F' = k + 1 := ⟨F' - 1, by omega⟩
              have hTm' := TM_Rd hTM a3.2.2.2.2.2.2
              have a9' : unw 1 S' O' = unw 1 (0 :: S) (OX'.map enc) := a9
              have htop : unw 1 ((0 : Int32) :: S) (OX'.map enc) = (0 :: S, OX'.map enc) := unw_top (Nat.le_refl 1) (by show rk 0 < 1; decide)
              have hl2 := len_eq a9'
              rw [List.length_map] at hl2
              have hl3 : ((0 : Int32) :: S).length = S.length + 1 := rfl
              by_cases c17 : tk g sz q = -17
              · right
                rw [if_pos c17]
                rcases W0_close (F := F') (x2 := y2) hTm' a7 h4 ht (by omega) a3 c17 with ⟨w, _⟩ | ⟨a, S1, w, m2, d1, d2⟩
                · rw [a9', htop] at w; exact absurd w (by simp)
                · rw [a9', htop] at w d2
                  have hS1 : S = S1 := by
                    have w' : (0 : Int32) :: S = a :: S1 := w
                    injection w'
                  subst hS1
                  have d2' : RdS t m0 m2 (nx g sz q) (unw 7 S (OX'.map enc)).1 (unw 7 S (OX'.map enc)).2 := d2
                  obtain ⟨x3, e3, hX3⟩ := adv_S hTX a7 a2
                  unfold b_X1_one_118
                  rw [a2.2.2.2.1, if_neg (show ¬ (-1 : Int32) ≠ -1 from fun q => q rfl), e3, bnd_some, d1]
                  have hnx2 := nx_rng g a7
                  have hq2 := hnx2.2.2 (by rw [c17]; decide)
                  have hlen := unw_len 7 S (OX'.map enc)
                  rw [List.length_map] at hlen
                  refine ⟨x3, OX', nx g sz q, m2, _, _, F', y2, rfl, hX3, d2', rfl, by omega, by omega, hnx2.2.1, by omega, unw_unw (Nat.le_refl 7) _ _, NB_5 (tk_ok hTM hnx2.2.1) _ _, a11⟩
              · left
                rw [if_neg c17]
                obtain ⟨x3, e3, hB3⟩ := fail_S hsz a7 (by omega) a2
                have hB1 : b_X1_one_118 rc x3 = some ((), x3) := by
                  unfold b_X1_one_118
                  rw [if_pos (RxB_ne hB3)]
                rw [e3, bnd_some, hB1]
                have fin : ∀ m2, k_X5_eRead_14 (F' + 1) 0 y2 m' = some (0, m2) → RdF t m0 m2 → mI m2 8 = nI (pl g sz q) → FLT t x0 m0 (some ((), x3)) (k_X5_eRead_14 (F' + 1) 0 y2 m') := fun m2 w1 w2 w3 => ⟨x3, m2, _, rfl, hB3, w1, w3, w2⟩
                by_cases c18 : tk g sz q = -18
                · rcases W0_stop (F := F') (x2 := y2) hTm' a7 h4 ht (by omega) a3 c18 with ⟨w, _⟩ | ⟨_, m2, w1, w2, w3⟩
                  · rw [a9', htop] at w; exact absurd w (by simp)
                  · exact fin m2 w1 w2 w3
                · rcases a10 with w | w | ⟨_, w1, w2⟩
                  · omega
                  · obtain ⟨m2, w1, w2, w3⟩ := W0_bad (F := F') (x2 := y2) hTm' a7 a3 w c17 c18
                    exact fin m2 w1 w2 w3
                  · rcases W0_bin (F := F') (x2 := y2) hTm' a7 h4 ht (by omega) a3 (by omega) with ⟨_, _, m2, v1, v2, v3⟩ | ⟨v, _⟩
                    · exact fin m2 v1 v2 v3
                    · exact absurd ⟨w1, w2⟩ v
        · left
          rw [e1, bnd_some, if_pos rfl]
          rcases hW with ⟨_, m1, c1, c2, c3⟩ | ⟨w1, _⟩
          · exact ⟨x1, m1, _, rfl, hB, c1, c3, c2⟩
          · omega
      · -- nothing that can stand there
        left
        rw [if_pos c16]
        obtain ⟨x3, e3, hB3⟩ := fail_S hsz k6 (by omega) k1
        obtain ⟨m2, w1, w2, w3⟩ := W1_bad (F := F) hTm k6 k2 c6 c12 c16 (k8 (by decide))
        rw [e3, bnd_some]
        exact ⟨x3, m2, _, rfl, hB3, w1, w3, w2⟩
theorem sim_all {t : Nat} {x0 : GX} {m0 : GM} {g : Nat → Nat} {sz : Nat} (H : Bs t x0 m0 g sz) : ∀ d : Nat, (∀ r o, r ≤ 5 → o ≤ 5 → (5 - o) * 7 + (5 - r) + 2 ≤ d → SimF t x0 m0 g sz (f_jo d 0 (nI r) (nI o)) r o) ∧ ∀ o, o ≤ 5 → (5 - o) * 7 + 1 ≤ d → SimF t x0 m0 g sz (f_jo d 1 0 (nI o)) 5 o := by
  intro d
  induction d with
  | zero => exact ⟨fun r o _ _ h => by omega, fun o _ h => by omega⟩
  | succ d ih =>
    obtain ⟨i0, i1⟩ := ih
    constructor
    · intro r o hr ho hd
      show SimF t x0 m0 g sz (f_X1_joined (f_jo d) (nI r) (nI o)) r o
      by_cases r5 : r = 5
      · subst r5
        exact five_sim (f_jo d) (i1 o ho (by omega))
      · by_cases r2 : r = 2
        · subst r2
          exact cmp_sim (f_jo d) H ho (i0 3 o (by decide) ho (by omega)) (fun h => i0 2 (o + 1) (by decide) (by omega) (by omega))
        · exact lvl_sim (f_jo d) H (by omega) (i0 (r + 1) o (by omega) ho (by omega))
    · intro o ho hd
      show SimF t x0 m0 g sz (f_X1_one (f_jo d) (nI o)) 5 o
      exact one_sim (f_jo d) H ho (fun h => i0 0 (o + 1) (by decide) (by omega) (by omega)) (fun h => i1 (o + 1) (by omega) (by omega))
