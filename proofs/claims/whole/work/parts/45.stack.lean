/-! ===== the reference's stack and what it has put down ===== -/
def stk (f : Nat → Int32) (b : Nat) : List Int32 → Prop
  | [] => True
  | a :: l => f (b + l.length) = a ∧ stk f b l
theorem stk_upd {f : Nat → Int32} {b i : Nat} {v : Int32} : ∀ {l : List Int32}, stk f b l → b + l.length ≤ i → stk (upd f i v) b l
  | [], _, _ => trivial
  | a :: l, h, hi => by
    have hl : (a :: l).length = l.length + 1 := rfl
    refine ⟨?_, stk_upd h.2 (by omega)⟩
    rw [upd_n _ _ (by omega)]; exact h.1
theorem stk_push {f : Nat → Int32} {b : Nat} {v : Int32} {l : List Int32} (h : stk f b l) : stk (upd f (b + l.length) v) b (v :: l) := ⟨upd_s _ _ _, stk_upd h (Nat.le_refl _)⟩
def rk (x : Int32) : Nat := if x ≠ 0 then (if x ≠ 11 then (if x ≠ 12 then (if x ≠ 13 then (if (15 : Int32) < x then (if (17 : Int32) < x then (if x ≠ 18 then 7 else 6) else 5) else 4) else 3) else 2) else 1) else 0
theorem rank_M (x : Int32) (m : GM) : f_X5_rank x m = some (nI (rk x), m) := by
  unfold f_X5_rank rk
  by_cases h0 : x ≠ 0
  · rw [if_pos h0, if_pos h0]
    by_cases h1 : x ≠ 11
    · rw [if_pos h1, if_pos h1]
      by_cases h2 : x ≠ 12
      · rw [if_pos h2, if_pos h2]
        by_cases h3 : x ≠ 13
        · rw [if_pos h3, if_pos h3]
          by_cases h4 : (15 : Int32) < x
          · rw [if_pos h4, if_pos h4]
            by_cases h5 : (17 : Int32) < x
            · rw [if_pos h5, if_pos h5]
              by_cases h6 : x ≠ 18
              · rw [if_pos h6, if_pos h6]; rfl
              · rw [if_neg h6, if_neg h6]; rfl
            · rw [if_neg h5, if_neg h5]; rfl
          · rw [if_neg h4, if_neg h4]; rfl
        · rw [if_neg h3, if_neg h3]; rfl
      · rw [if_neg h2, if_neg h2]; rfl
    · rw [if_neg h1, if_neg h1]; rfl
  · rw [if_neg h0, if_neg h0]; rfl
theorem rk_le (x : Int32) : rk x ≤ 7 := by
  unfold rk
  repeat' split
  all_goals omega
theorem rk_0 {x : Int32} (h : rk x < 1) : x = 0 := by
  unfold rk at h
  by_cases h0 : x ≠ 0
  · exfalso
    rw [if_pos h0] at h
    revert h
    repeat' split
    all_goals omega
  · exact Decidable.not_not.mp h0
def opn (a : Int32) : Nat := if a = 0 then 1 else if a = 13 then 1 else if a = 19 then 1 else 0
def cntO : List Int32 → Nat
  | [] => 0
  | a :: l => opn a + cntO l
def unw (r : Nat) : List Int32 → List Int32 → List Int32 × List Int32
  | [], O => ([], O)
  | a :: S, O => if rk a < r then (a :: S, O) else unw r S (a :: O)
def tpr : List Int32 → Nat
  | [] => 0
  | a :: _ => rk a
theorem unw_top {r : Nat} (hr : 1 ≤ r) {S O : List Int32} (h : tpr S < r) : unw r S O = (S, O) := by
  cases S with
  | nil => rfl
  | cons a S => exact if_pos h
theorem unw_pop {r : Nat} {a : Int32} {S O : List Int32} (h : r ≤ rk a) : unw r (a :: S) O = unw r S (a :: O) := if_neg (by omega)
theorem unw_unw {r r' : Nat} (h : r' ≤ r) : ∀ (S O : List Int32), unw r' (unw r S O).1 (unw r S O).2 = unw r' S O
  | [], O => rfl
  | a :: S, O => by
    by_cases q : rk a < r
    · rw [show unw r (a :: S) O = (a :: S, O) from if_pos q]
    · rw [unw_pop (by omega), unw_pop (show r' ≤ rk a by omega)]
      exact unw_unw h S (a :: O)
theorem unw_low {r r' : Nat} (h : r' ≤ r) {S O S' O' : List Int32} (e : unw r S O = unw r S' O') : unw r' S O = unw r' S' O' := by
  rw [← unw_unw h S O, ← unw_unw h S' O', e]
theorem unw_len (r : Nat) : ∀ (S O : List Int32), (unw r S O).1.length + (unw r S O).2.length = S.length + O.length
  | [], O => rfl
  | a :: S, O => by
    by_cases q : rk a < r
    · rw [show unw r (a :: S) O = (a :: S, O) from if_pos q]
    · rw [unw_pop (by omega), unw_len r S (a :: O)]
      show S.length + (O.length + 1) = S.length + 1 + O.length
      omega
theorem unw_stop (r : Nat) : ∀ (S O : List Int32), tpr (unw r S O).1 < r ∨ (unw r S O).1 = []
  | [], O => Or.inr rfl
  | a :: S, O => by
    by_cases q : rk a < r
    · rw [show unw r (a :: S) O = (a :: S, O) from if_pos q]; exact Or.inl q
    · rw [unw_pop (by omega)]; exact unw_stop r S (a :: O)
/-- what the reading leaves of the reference's state -/
def RdF (t : Nat) (m0 m : GM) : Prop := mL m = mL m0 ∧ (∀ i, (i < 7 ∨ 13 < i) → mI m i = mI m0 i) ∧ (∀ a, a ≠ 7 → a ≠ 16 → mA m a = mA m0 a) ∧ ∀ k, (k < 200 * t ∨ 200 * t + 200 ≤ k) → mA m 7 k = mA m0 7 k
theorem RdF_refl (t : Nat) (m : GM) : RdF t m m := ⟨rfl, fun _ _ => rfl, fun _ _ _ => rfl, fun _ _ => rfl⟩
theorem RdF_trans {t : Nat} {a b c : GM} (h : RdF t a b) (k : RdF t b c) : RdF t a c := ⟨k.1.trans h.1, fun i p => (k.2.1 i p).trans (h.2.1 i p), fun a p q => (k.2.2.1 a p q).trans (h.2.2.1 a p q), fun i p => (k.2.2.2 i p).trans (h.2.2.2 i p)⟩
theorem RdF_tI (t : Nat) (m : GM) (i : Nat) (v) (h : 7 ≤ i ∧ i ≤ 13) : RdF t m (tI m i v) := ⟨rfl, fun j p => mI_n _ _ (by omega), fun _ _ _ => rfl, fun _ _ => rfl⟩
theorem RdF_AM {t : Nat} {a b : GM} (h : AM a b) : RdF t a b := ⟨h.2.1, fun i p => h.1 i (by omega) (by omega) (by omega) (by omega), fun _ _ _ => by rw [h.2.2], fun _ _ => by rw [h.2.2]⟩
def RdS (t : Nat) (m0 m : GM) (p : Nat) (S O : List Int32) : Prop := mI m 7 = nI p ∧ mI m 11 = nI S.length ∧ mI m 12 = nI (cntO S) ∧ mI m 13 = nI O.length ∧ stk (mA m 16) 0 S ∧ stk (mA m 7) (200 * t) O ∧ RdF t m0 m
def K89 (m m' : GM) : Prop := mI m' 8 = mI m 8 ∧ mI m' 9 = mI m 9 ∧ mI m' 10 = mI m 10
theorem K89_refl (m : GM) : K89 m m := ⟨rfl, rfl, rfl⟩
theorem K89_trans {a b c : GM} (h : K89 a b) (k : K89 b c) : K89 a c := ⟨k.1.trans h.1, k.2.1.trans h.2.1, k.2.2.trans h.2.2⟩
theorem puts_M {t p : Nat} {m0 m : GM} {S O : List Int32} (a : Int32) (h4 : mI m0 4 = nI t) (ht : t < 6) (h : RdS t m0 m p S O) (hO : O.length < 200) : ∃ m', f_X5_puts a m = some ((), m') ∧ RdS t m0 m' p S (a :: O) ∧ K89 m m' := by
  obtain ⟨h7, h11, h12, h13, hS, hO', hF⟩ := h
  have i4 : mI m 4 = nI t := (hF.2.1 4 (by decide)).trans h4
  have ix : (200 : Int32) * mI m 4 + mI m 13 = nI (200 * t + O.length) := by rw [i4, h13, show (200 : Int32) = nI 200 from rfl, pk_mul, nIs]
  refine ⟨tI (tA m 7 (200 * t + O.length) a) 13 (nI (O.length + 1)), ?_, ⟨?_, ?_, ?_, mI_s _ _ _, ?_, ?_, ?_⟩, ⟨?_, ?_, ?_⟩⟩
  · unfold f_X5_puts
    rw [ix, grd_ok _ (by omega) (by decide), nI_clamp (by omega), bnd_some, show mI (tA m 7 (200 * t + O.length) a) 13 = nI O.length from h13, show nI O.length + (1 : Int32) = nI (O.length + 1) from nI_add _ 1, bnd_some]
  · rw [mI_n _ _ (by decide)]; exact h7
  · rw [mI_n _ _ (by decide)]; exact h11
  · rw [mI_n _ _ (by decide)]; exact h12
  · show stk (mA (tA m 7 (200 * t + O.length) a) 16) 0 S
    rw [mA_n _ _ _ (by decide)]; exact hS
  · show stk (mA (tA m 7 (200 * t + O.length) a) 7) (200 * t) (a :: O)
    rw [mA_s]; exact stk_push hO'
  · refine RdF_trans hF ⟨rfl, fun j q => (mI_n _ _ (by omega)).trans rfl, fun b q1 q2 => ?_, fun k q => ?_⟩
    · show mA (tA m 7 (200 * t + O.length) a) b = _
      exact mA_n _ _ _ q1
    · show mA (tA m 7 (200 * t + O.length) a) 7 k = _
      rw [mA_s, upd_n _ _ (by omega)]
  · exact mI_n _ _ (by decide)
  · exact mI_n _ _ (by decide)
  · exact mI_n _ _ (by decide)
theorem push_M {t p : Nat} {m0 m : GM} {S O : List Int32} (a : Int32) (h : RdS t m0 m p S O) (hS : S.length < 200) (hc : mI m 12 = nI (cntO S) → True) (m1 : GM) (h1 : m1 = tI m 12 (nI (cntO (a :: S)))) : ∃ m', f_X5_holds a m1 = some ((), m') ∧ RdS t m0 m' p (a :: S) O ∧ K89 m m' := by
  obtain ⟨h7, h11, h12, h13, hS', hO', hF⟩ := h
  have i11 : mI m1 11 = nI S.length := by rw [h1, mI_n _ _ (by decide)]; exact h11
  refine ⟨tI (tA m1 16 S.length a) 11 (nI (S.length + 1)), ?_, ⟨?_, mI_s _ _ _, ?_, ?_, ?_, ?_, ?_⟩, ⟨?_, ?_, ?_⟩⟩
  · unfold f_X5_holds
    rw [i11, grd_ok _ hS (by decide), nI_clamp (by omega), bnd_some, show mI (tA m1 16 S.length a) 11 = nI S.length from i11, show nI S.length + (1 : Int32) = nI (S.length + 1) from nI_add _ 1, bnd_some]
  · rw [mI_n _ _ (by decide)]
    show mI m1 7 = _
    rw [h1, mI_n _ _ (by decide)]; exact h7
  · rw [mI_n _ _ (by decide)]
    show mI m1 12 = _
    rw [h1, mI_s]
  · rw [mI_n _ _ (by decide)]
    show mI m1 13 = _
    rw [h1, mI_n _ _ (by decide)]; exact h13
  · show stk (mA (tA m1 16 S.length a) 16) 0 (a :: S)
    rw [mA_s, h1]
    have := stk_push (v := a) hS'
    rw [Nat.zero_add] at this
    exact this
  · show stk (mA (tA m1 16 S.length a) 7) (200 * t) O
    rw [mA_n _ _ _ (by decide), h1]; exact hO'
  · refine RdF_trans hF ⟨by rw [h1]; rfl, fun j q => ?_, fun b q1 q2 => ?_, fun k q => ?_⟩
    · rw [mI_n _ _ (by omega)]
      show mI m1 j = _
      rw [h1, mI_n _ _ (by omega)]
    · show mA (tA m1 16 S.length a) b = _
      rw [mA_n _ _ _ q2, h1]; rfl
    · show mA (tA m1 16 S.length a) 7 k = _
      rw [mA_n _ _ _ (by decide), h1]; rfl
  · rw [mI_n _ _ (by decide)]
    show mI m1 8 = _
    rw [h1, mI_n _ _ (by decide)]
  · rw [mI_n _ _ (by decide)]
    show mI m1 9 = _
    rw [h1, mI_n _ _ (by decide)]
  · rw [mI_n _ _ (by decide)]
    show mI m1 10 = _
    rw [h1, mI_n _ _ (by decide)]
theorem tI_same (m : GM) (k : Nat) (v : Int32) (h : mI m k = v) : tI m k v = m := by rw [← h, tI_id]
/-- a binary sign is held -/
theorem holds_M {t p : Nat} {m0 m : GM} {S O : List Int32} (a : Int32) (h : RdS t m0 m p S O) (hS : S.length < 200) (ha : opn a = 0) : ∃ m', f_X5_holds a m = some ((), m') ∧ RdS t m0 m' p (a :: S) O ∧ K89 m m' := by
  refine push_M a h hS (fun _ => trivial) m ?_
  rw [tI_same]
  have := h.2.2.1
  rw [this]
  show _ = nI (opn a + cntO S)
  rw [ha, Nat.zero_add]
/-- a bracket, a not, a minus is opened, or there are five -/
theorem opens_M {t p : Nat} {m0 m : GM} {S O : List Int32} (a : Int32) (h : RdS t m0 m p S O) (hS : S.length < 200) (ha : opn a = 1) (hc : cntO S ≤ 5) : (cntO S = 5 ∧ f_X5_opensOne a m = some (0, m)) ∨ (cntO S < 5 ∧ ∃ m', f_X5_opensOne a m = some (1, m') ∧ RdS t m0 m' p (a :: S) O ∧ K89 m m') := by
  unfold f_X5_opensOne
  rw [h.2.2.1]
  by_cases q : cntO S = 5
  · left
    rw [q, if_neg (show ¬ nI 5 ≠ (5 : Int32) from fun r => r rfl)]
    exact ⟨rfl, rfl⟩
  · right
    obtain ⟨m', e, h', k⟩ := push_M a h hS (fun _ => trivial) _ rfl
    refine ⟨by omega, m', ?_, h', k⟩
    rw [if_pos (show nI (cntO S) ≠ (5 : Int32) from ne_lit _ 5 (by omega) (by decide) q), bnd_some]
    have e2 : nI (cntO S) + (1 : Int32) = nI (cntO (a :: S)) := by
      show _ = nI (opn a + cntO S)
      rw [ha, Nat.add_comm]; exact nI_add _ 1
    rw [e2, e, bnd_some]
theorem pop_M {t p : Nat} {m0 m : GM} {S O : List Int32} {a : Int32} (h : RdS t m0 m p (a :: S) O) : RdS t m0 (tI (tI m 11 (nI S.length)) 12 (nI (cntO S))) p S O := by
  obtain ⟨h7, h11, h12, h13, hS, hO, hF⟩ := h
  refine ⟨?_, ?_, mI_s _ _ _, ?_, hS.2, hO, RdF_trans hF (RdF_trans (RdF_tI t m 11 _ (by decide)) (RdF_tI t _ 12 _ (by decide)))⟩
  · rw [mI_n _ _ (by decide), mI_n _ _ (by decide)]; exact h7
  · rw [mI_n _ _ (by decide), mI_s]
  · rw [mI_n _ _ (by decide), mI_n _ _ (by decide)]; exact h13
theorem unwinds_loop {t p r : Nat} {m0 : GM} (h4 : mI m0 4 = nI t) (ht : t < 6) (hr : 1 ≤ r) (hr7 : r ≤ 7) : ∀ (S O : List Int32) (m : GM) (F : Nat), S.length < F → S.length + O.length ≤ 160 → RdS t m0 m p S O → ∃ m', k_X5_unwinds_0 F (nI r) m = some ((), m') ∧ RdS t m0 m' p (unw r S O).1 (unw r S O).2 ∧ K89 m m' := by
  intro S
  induction S with
  | nil =>
    intro O m F hF hl h
    obtain ⟨F, rfl⟩ : ∃ k, F = k + 1 := ⟨F - 1, by omega⟩
    refine ⟨m, ?_, h, K89_refl m⟩
    show b_X5_unwinds_0 (k_X5_unwinds_0 F) (nI r) m = _
    unfold b_X5_unwinds_0
    rw [h.2.1, if_pos (show nI ([] : List Int32).length ≤ (0 : Int32) by decide)]
  | cons a S ih =>
    intro O m F hF hl h
    obtain ⟨F, rfl⟩ : ∃ k, F = k + 1 := ⟨F - 1, by omega⟩
    have hlen : (a :: S).length = S.length + 1 := rfl
    have h11 : mI m 11 = nI (S.length + 1) := h.2.1
    have htop : mA m 16 S.length = a := by
      have := h.2.2.2.2.1.1
      rw [Nat.zero_add] at this
      exact this
    have e1 : nI (S.length + 1) - (1 : Int32) = nI S.length := nI_pred _
    show ∃ m', b_X5_unwinds_0 (k_X5_unwinds_0 F) (nI r) m = _ ∧ _
    unfold b_X5_unwinds_0
    rw [h11, if_neg (show ¬ nI (S.length + 1) ≤ (0 : Int32) from nI_ge (a := 0) (by omega) (by omega)), e1, grd_ok _ (by omega) (by decide), nI_clamp (by omega), htop, rank_M, bnd_some]
    have hk := rk_le a
    by_cases q : rk a < r
    · rw [show unw r (a :: S) O = (a :: S, O) from if_pos q, if_pos (nI_lt q (by omega))]
      exact ⟨m, rfl, h, K89_refl m⟩
    · rw [unw_pop (by omega), if_neg (nI_nlt (by omega) (by omega))]
      have ha0 : a ≠ 0 := fun e => by
        rw [e] at q
        exact q (by show rk 0 < r; have : rk 0 = 0 := by decide
                    omega)
      have hP := pop_M h
      obtain ⟨m2, c1, c2, c3⟩ := puts_M a h4 ht hP (by omega)
      obtain ⟨m3, d1, d2, d3⟩ := ih (a :: O) m2 F (by omega) (by show S.length + (O.length + 1) ≤ 160; omega) c2
      have kk : K89 m (tI (tI m 11 (nI S.length)) 12 (nI (cntO S))) := ⟨by rw [mI_n _ _ (by decide), mI_n _ _ (by decide)], by rw [mI_n _ _ (by decide), mI_n _ _ (by decide)], by rw [mI_n _ _ (by decide), mI_n _ _ (by decide)]⟩
      refine ⟨m3, ?_, d2, K89_trans kk (K89_trans c3 d3)⟩
      rw [← d1]
      have f1 : mI m 11 = nI (S.length + 1) := h11
      simp only [f1, e1, bnd_some, mI_s]
      rw [grd_ok _ (by omega) (by decide), nI_clamp (by omega), show mA (tI m 11 (nI S.length)) 16 S.length = a from htop]
      unfold b_X5_unwinds_67
      have h12 : mI m 12 = nI (opn a + cntO S) := h.2.2.1
      have i12 : mI (tI m 11 (nI S.length)) 12 = nI (opn a + cntO S) := (mI_n _ _ (by decide)).trans h12
      rw [i12]
      have o1 : opn a = 1 → nI (opn a + cntO S) - (1 : Int32) = nI (cntO S) := fun o => by
        rw [o, Nat.add_comm]; exact nI_pred _
      have o0 : opn a = 0 → nI (opn a + cntO S) - (0 : Int32) = nI (cntO S) := fun o => by
        rw [o, Nat.zero_add, Int32.sub_zero]
      by_cases q13 : a = 13
      · rw [if_pos q13, o1 (by rw [q13]; decide), bnd_some, c1, bnd_some]
      · rw [if_neg q13]
        by_cases q19 : a ≠ 19
        · have : opn a = 0 := by
            unfold opn
            rw [if_neg ha0, if_neg q13, if_neg q19]
          rw [if_pos q19, o0 this, bnd_some, c1, bnd_some]
        · have q19' : a = 19 := Decidable.not_not.mp q19
          rw [if_neg q19, o1 (by rw [q19']; decide), bnd_some, c1, bnd_some]
theorem unwinds_M {t p r : Nat} {m0 m : GM} {S O : List Int32} (h4 : mI m0 4 = nI t) (ht : t < 6) (hr : 1 ≤ r) (hr7 : r ≤ 7) (hl : S.length + O.length ≤ 160) (h : RdS t m0 m p S O) : ∃ m', f_X5_unwinds (nI r) m = some ((), m') ∧ RdS t m0 m' p (unw r S O).1 (unw r S O).2 ∧ K89 m m' := unwinds_loop h4 ht hr hr7 S O m FU (by show _ < 1000; omega) hl h
def tht (a : Int32) : Nat := if rk a = 4 then 5 else rk a
theorem between_M {t p : Nat} {m0 m : GM} {S O : List Int32} {a : Int32} (h4 : mI m0 4 = nI t) (ht : t < 6) (ha : opn a = 0) (hr : 1 ≤ rk a) (hl : S.length + O.length ≤ 160) (h : RdS t m0 m p S O) :
    (rk a = 4 ∧ tpr (unw 5 S O).1 = 4 ∧ ∃ m', f_X5_between a m = some (0, m') ∧ RdF t m0 m' ∧ K89 m m') ∨ (¬ (rk a = 4 ∧ tpr (unw 5 S O).1 = 4) ∧ ∃ m', f_X5_between a m = some (1, m') ∧ RdS t m0 m' p (a :: (unw (tht a) S O).1) (unw (tht a) S O).2 ∧ K89 m m') := by
  have hk := rk_le a
  have hB : f_X5_between a m = b_X5_between_17 a (nI (tht a)) m := by
    unfold f_X5_between tht
    rw [rank_M, bnd_some, rank_M]
    by_cases q : rk a = 4
    · rw [q, if_neg (show ¬ nI 4 ≠ (4 : Int32) from fun r => r rfl), if_pos rfl]; rfl
    · rw [if_pos (show nI (rk a) ≠ (4 : Int32) from ne_lit _ 4 (by omega) (by decide) q), bnd_some, if_neg q]
  have ht1 : 1 ≤ tht a := by unfold tht; split <;> omega
  have ht7 : tht a ≤ 7 := by unfold tht; split <;> omega
  obtain ⟨m1, e1, h1, k1⟩ := unwinds_M h4 ht ht1 ht7 hl h
  have hl1 := unw_len (tht a) S O
  rw [hB]
  unfold b_X5_between_17 b_X5_between_55
  rw [e1, bnd_some, rank_M, bnd_some]
  obtain ⟨m2, e2, h2, k2⟩ := holds_M a h1 (by omega) ha
  rw [e2, bnd_some]
  by_cases q : rk a = 4
  · have e5 : tht a = 5 := if_pos q
    rw [e5] at h1 h2 hl1 ⊢
    rw [q, if_neg (show ¬ nI 4 ≠ (4 : Int32) from fun r => r rfl)]
    show (_ ∧ _ ∧ ∃ m', (if mI m1 11 ≤ 0 then _ else _) = _ ∧ _) ∨ (_ ∧ ∃ m', (if mI m1 11 ≤ 0 then _ else _) = _ ∧ _)
    rw [h1.2.1]
    cases hS : (unw 5 S O).1 with
    | nil =>
      right
      rw [hS] at h2
      refine ⟨fun r => absurd r.2 (by decide), m2, ?_, h2, K89_trans k1 k2⟩
      rw [if_pos (show nI ([] : List Int32).length ≤ (0 : Int32) by decide)]
    | cons b S1 =>
      have hlen : (b :: S1).length = S1.length + 1 := rfl
      rw [hS] at h1 h2 hl1
      have htop : mA m1 16 S1.length = b := by
        have := h1.2.2.2.2.1.1
        rw [Nat.zero_add] at this
        exact this
      rw [hlen, if_neg (show ¬ nI (S1.length + 1) ≤ (0 : Int32) from nI_ge (a := 0) (by omega) (by omega)), nI_pred, grd_ok _ (by omega) (by decide), nI_clamp (by omega), htop, rank_M, bnd_some]
      have hkb := rk_le b
      by_cases q2 : rk b = 4
      · left
        rw [q2, if_neg (show ¬ nI 4 ≠ (4 : Int32) from fun r => r rfl)]
        exact ⟨rfl, q2, m1, rfl, h1.2.2.2.2.2.2, k1⟩
      · right
        rw [if_pos (show nI (rk b) ≠ (4 : Int32) from ne_lit _ 4 (by omega) (by decide) q2)]
        refine ⟨fun r => q2 r.2, m2, ?_, h2, K89_trans k1 k2⟩
        show (bnd (f_X5_holds a m1) fun q5 => some ((1 : Int32), q5.2)) = _
        rw [e2, bnd_some]
  · right
    rw [if_pos (show nI (rk a) ≠ (4 : Int32) from ne_lit _ 4 (by omega) (by decide) q)]
    exact ⟨fun r => q r.1, m2, rfl, h2, K89_trans k1 k2⟩
/-! ===== one token of the reference's reading ===== -/
def tkr (c : Int32) : Prop := (∃ n : Nat, n ≤ 9999 ∧ c = nI n) ∨ ∃ k : Nat, 1 ≤ k ∧ k < 24 ∧ k ≠ 15 ∧ c = -(nI k)
theorem tkr_wd : ∀ k, k < 13 → ∃ j, j < 24 ∧ 1 ≤ j ∧ j ≠ 15 ∧ cX k = -(nI j) := by decide +kernel
theorem tkr_sg : ∀ b, b < 256 → ∃ j, j < 24 ∧ 1 ≤ j ∧ j ≠ 15 ∧ sg b = -(nI j) := by
  intro b hb
  unfold sg
  repeat' split
  · exact ⟨16, by decide, by decide, by decide, rfl⟩
  · exact ⟨17, by decide, by decide, by decide, rfl⟩
  · exact ⟨13, by decide, by decide, by decide, rfl⟩
  · exact ⟨11, by decide, by decide, by decide, rfl⟩
  · exact ⟨12, by decide, by decide, by decide, rfl⟩
  · exact ⟨18, by decide, by decide, by decide, rfl⟩
  · exact ⟨9, by decide, by decide, by decide, rfl⟩
  · exact ⟨10, by decide, by decide, by decide, rfl⟩
  · exact ⟨23, by decide, by decide, by decide, rfl⟩
theorem tk_tkr (g : Nat → Nat) (sz p : Nat) (hg : ∀ i, i < sz → g i < 256) (hp : p ≤ sz) : tkr (tk g sz p) := by
  unfold tk
  by_cases q : pl g sz p < sz
  · rw [if_pos q]
    by_cases q1 : lett (g (pl g sz p)) = true
    · rw [if_pos q1]
      obtain ⟨j, h1, h2, h3, h4⟩ := tkr_wd _ (fk_le g (pl g sz p) (rn lett g sz (pl g sz p)))
      exact Or.inr ⟨j, h2, h1, h3, h4⟩
    · rw [if_neg q1]
      by_cases q2 : digt (g (pl g sz p)) = true
      · rw [if_pos q2]
        by_cases q3 : rn digt g sz (pl g sz p) - pl g sz p ≤ 4
        · rw [if_pos q3]
          obtain ⟨a1, a2⟩ := pl_rng g hp
          obtain ⟨_, _, hd, _⟩ := rn_rng (P := digt) (g := g) (sz := sz) (sz - pl g sz p) (pl g sz p) (by omega)
          have hlt := nv_lt g (pl g sz p) (rn digt g sz (pl g sz p) - pl g sz p) (fun i hi => hd _ (by omega) (by omega))
          have h10 : (10 : Nat) ^ (rn digt g sz (pl g sz p) - pl g sz p) ≤ 10 ^ 4 := Nat.pow_le_pow_right (by decide) q3
          have h4 : (10 : Nat) ^ 4 = 10000 := by decide
          exact Or.inl ⟨_, by omega, rfl⟩
        · rw [if_neg q3]; exact Or.inr ⟨23, by decide, by decide, by decide, rfl⟩
      · rw [if_neg q2]
        obtain ⟨j, h1, h2, h3, h4⟩ := tkr_sg _ (hg _ q)
        exact Or.inr ⟨j, h2, h1, h3, h4⟩
  · rw [if_neg q]; exact Or.inr ⟨22, by decide, by decide, by decide, rfl⟩
/-- the class's rank of a token; 9: none -/
def xr (c : Int32) : Nat := if c = -7 then 0 else if c = -8 then 1 else if c = -9 then 2 else if c = -10 then 2 else if c = -11 then 3 else if c = -12 then 3 else if c = -13 then 4 else 9
def mr (r : Nat) : Nat := [1, 2, 3, 5, 6, 7].getD r 7
theorem xr_num (n : Nat) (h : n < 2 ^ 31) : xr (nI n) = 9 := by
  have hne : ∀ k : Int32, k < 0 → nI n ≠ k := fun k hk q => by rw [← q] at hk; exact nI_pos h hk
  unfold xr
  rw [if_neg (hne _ (by decide)), if_neg (hne _ (by decide)), if_neg (hne _ (by decide)), if_neg (hne _ (by decide)), if_neg (hne _ (by decide)), if_neg (hne _ (by decide)), if_neg (hne _ (by decide))]
/-- what a sign's kind says -/
def sgo (kd : Int32) : Int32 := if kd ≠ 4 then (if kd ≠ 5 then (if kd ≠ 60 then (if kd ≠ 61 then (if kd ≠ 43 then (if kd ≠ 45 then (if kd ≠ 42 then -1 else 18) else 17) else 16) else 15) else 14) else 12) else 11
theorem ite_q {c : Prop} [Decidable c] {a : Int32} {r : Option (Int32 × GM)} {s : Int32} {m : GM} (h : r = some (s, m)) : (if c then r else (some (a, m))) = some ((if c then s else a), m) := by
  rw [h]
  split <;> rfl
theorem signOf_M (m : GM) : f_X5_signOf m = some (sgo (mI m 9), m) := by
  unfold f_X5_signOf sgo
  exact ite_q (ite_q (ite_q (ite_q (ite_q (ite_q (ite_q rfl))))))
def okk (k : Nat) : Bool := decide (1 ≤ k) && decide (k ≠ 15)
theorem ops_1 : ∀ k, k < 24 → okk k = true → xr (-(nI k)) = 9 → sgo (kd (-(nI k))) = -1 := by decide +kernel
theorem ops_2 : ∀ k, k < 24 → okk k = true → xr (-(nI k)) ≠ 9 → sgo (kd (-(nI k))) = enc (-(nI k)) ∧ enc (-(nI k)) ≠ -1 ∧ opn (enc (-(nI k))) = 0 ∧ xr (-(nI k)) < 5 := by decide +kernel
theorem ops_3 : ∀ k, k < 24 → okk k = true → xr (-(nI k)) ≠ 9 → rk (enc (-(nI k))) = [1, 2, 4, 5, 6].getD (xr (-(nI k))) 0 ∧ kd (-(nI k)) ≠ 59 ∧ kd (-(nI k)) ≠ 41 := by decide +kernel
theorem ops_4 : ∀ k, k < 24 → okk k = true → xr (-(nI k)) ≠ 9 → ((12 : Int32) < enc (-(nI k)) ↔ 2 ≤ xr (-(nI k))) := by decide +kernel
theorem ops_5 : ∀ k, k < 24 → okk k = true → xr (-(nI k)) ≠ 9 → (-15 : Int32) ≤ (-(nI k)) ∧ (-(nI k)) ≤ (9999 : Int32) ∧ ¬ (-6 : Int32) ≤ (-(nI k)) ∧ (-(nI k)) ≤ (-7 : Int32) ∧ ¬ (-(nI k)) ≤ (-14 : Int32) := by decide +kernel
theorem ops_6 : ∀ k, k < 24 → okk k = true → (kd (-(nI k)) = 41 ↔ k = 17) ∧ (kd (-(nI k)) = 59 ↔ k = 18) := by decide +kernel
theorem ops_tab (k : Nat) (hk : k < 24) (h1 : 1 ≤ k) (h15 : k ≠ 15) : (xr (-(nI k)) = 9 → sgo (kd (-(nI k))) = -1) ∧ (xr (-(nI k)) ≠ 9 → sgo (kd (-(nI k))) = enc (-(nI k)) ∧ enc (-(nI k)) ≠ -1 ∧ opn (enc (-(nI k))) = 0 ∧ xr (-(nI k)) < 5 ∧ rk (enc (-(nI k))) = [1, 2, 4, 5, 6].getD (xr (-(nI k))) 0 ∧ kd (-(nI k)) ≠ 59 ∧ kd (-(nI k)) ≠ 41 ∧ ((12 : Int32) < enc (-(nI k)) ↔ 2 ≤ xr (-(nI k))) ∧ (-15 : Int32) ≤ (-(nI k)) ∧ (-(nI k)) ≤ (9999 : Int32) ∧ ¬ (-6 : Int32) ≤ (-(nI k)) ∧ (-(nI k)) ≤ (-7 : Int32) ∧ ¬ (-(nI k)) ≤ (-14 : Int32)) ∧ (kd (-(nI k)) = 41 ↔ k = 17) ∧ (kd (-(nI k)) = 59 ↔ k = 18) := by
  have ok : okk k = true := by
    unfold okk
    rw [decide_eq_true h1, decide_eq_true h15]; rfl
  refine ⟨ops_1 k hk ok, fun hx => ?_, ops_6 k hk ok⟩
  obtain ⟨a1, a2, a3, a4⟩ := ops_2 k hk ok hx
  obtain ⟨b1, b2, b3⟩ := ops_3 k hk ok hx
  exact ⟨a1, a2, a3, a4, b1, b2, b3, ops_4 k hk ok hx, ops_5 k hk ok hx⟩
theorem num_kd (n : Nat) (h : n ≤ 9999) : kd (nI n) = 1 := kd_num (nI_pos' (by omega))
/-- after a ONE: a sign between -/
theorem W0_bin {g : Nat → Nat} {sz t p F : Nat} {x2 : Int32} {m0 m : GM} {S O : List Int32} (hT : TM g sz m) (hp : p ≤ sz) (h4 : mI m0 4 = nI t) (ht : t < 6) (hl : S.length + O.length ≤ 160) (h : RdS t m0 m p S O) (hx : xr (tk g sz p) ≠ 9) :
    (xr (tk g sz p) = 2 ∧ tpr (unw 5 S O).1 = 4 ∧ ∃ m', k_X5_eRead_14 (F + 1) 0 x2 m = some (0, m') ∧ RdF t m0 m' ∧ mI m' 8 = nI (pl g sz p)) ∨ (¬ (xr (tk g sz p) = 2 ∧ tpr (unw 5 S O).1 = 4) ∧ ∃ m', k_X5_eRead_14 (F + 1) 0 x2 m = k_X5_eRead_14 F 1 (if 2 ≤ xr (tk g sz p) then 0 else 1) m' ∧ RdS t m0 m' (nx g sz p) (enc (tk g sz p) :: (unw (tht (enc (tk g sz p))) S O).1) (unw (tht (enc (tk g sz p))) S O).2) := by
  obtain ⟨m1, e1, ⟨A, n7, n8, n9, n10⟩⟩ := next_M hp hT h.1
  have hc := tk_tkr g sz p (fun i hi => (hT.2.2.2 i hi).2) hp
  generalize tk g sz p = c at hx n9 n10 hc ⊢
  rcases hc with ⟨n, hn, rfl⟩ | ⟨k, hk1, hk, hk15, rfl⟩
  · exact absurd (xr_num n (by omega)) hx
  obtain ⟨_, t2, t3, t4⟩ := ops_tab k hk hk1 hk15
  obtain ⟨s1, s2, s3, s4, s5, s6, s7, s8, _⟩ := t2 hx
  have h1 : RdS t m0 m1 (nx g sz p) S O := by
    obtain ⟨h7, h11, h12, h13, hS, hO, hF⟩ := h
    obtain ⟨a1, a2, a3⟩ := A
    exact ⟨n7, (a1 11 (by decide) (by decide) (by decide) (by decide)).trans h11, (a1 12 (by decide) (by decide) (by decide) (by decide)).trans h12, (a1 13 (by decide) (by decide) (by decide) (by decide)).trans h13, by rw [a3]; exact hS, by rw [a3]; exact hO, RdF_trans hF (RdF_AM ⟨a1, a2, a3⟩)⟩
  have hM : k_X5_eRead_14 (F + 1) 0 x2 m = bnd (f_X5_between (enc (-(nI k))) m1) fun q5 => if q5.1 ≠ 0 then (if (12 : Int32) < enc (-(nI k)) then (k_X5_eRead_14 F (1 : Int32) (0 : Int32) q5.2) else (k_X5_eRead_14 F (1 : Int32) (1 : Int32) q5.2)) else (some ((0 : Int32), q5.2)) := by
    show b_X5_eRead_14 (k_X5_eRead_14 F) 0 x2 m = _
    unfold b_X5_eRead_14
    rw [e1, bnd_some, if_pos rfl]
    show (if mI m1 9 ≠ 59 then _ else _) = _
    rw [n9, if_pos s6, if_pos s7, signOf_M, n9, s1, bnd_some, if_neg s2]
  rw [hM]
  have hrk : 1 ≤ rk (enc (-(nI k))) := by
    rw [s5]
    have : ∀ j, j < 5 → 1 ≤ [1, 2, 4, 5, 6].getD j 0 := by decide
    exact this _ s4
  have h2iff : xr (-(nI k)) = 2 ↔ rk (enc (-(nI k))) = 4 := by
    rw [s5]
    have : ∀ j, j < 5 → (j = 2 ↔ [1, 2, 4, 5, 6].getD j 0 = 4) := by decide
    exact this _ s4
  rcases between_M h4 ht s3 hrk hl h1 with ⟨b1, b2, m2, e2, f2, k2⟩ | ⟨b1, m2, e2, f2, k2⟩
  · left
    refine ⟨h2iff.mpr b1, b2, m2, ?_, f2, k2.1.trans n8⟩
    rw [e2, bnd_some, if_neg (show ¬ (0 : Int32) ≠ 0 from fun q => q rfl)]
  · right
    refine ⟨fun q => b1 ⟨h2iff.mp q.1, q.2⟩, m2, ?_, f2⟩
    rw [e2, bnd_some, if_pos (show (1 : Int32) ≠ 0 by decide)]
    by_cases q : 2 ≤ xr (-(nI k))
    · rw [if_pos (s8.mpr q), if_pos q]
    · rw [if_neg (fun r => q (s8.mp r)), if_neg q]
theorem RdS_next {g : Nat → Nat} {sz t p : Nat} {m0 m m1 : GM} {S O : List Int32} (h : RdS t m0 m p S O) (hN : NXT g sz p m m1) : RdS t m0 m1 (nx g sz p) S O := by
  obtain ⟨h7, h11, h12, h13, hS, hO, hF⟩ := h
  obtain ⟨⟨a1, a2, a3⟩, n7, _⟩ := hN
  exact ⟨n7, (a1 11 (by decide) (by decide) (by decide) (by decide)).trans h11, (a1 12 (by decide) (by decide) (by decide) (by decide)).trans h12, (a1 13 (by decide) (by decide) (by decide) (by decide)).trans h13, by rw [a3]; exact hS, by rw [a3]; exact hO, RdF_trans hF (RdF_AM ⟨a1, a2, a3⟩)⟩
/-- after a ONE: a bracket's end -/
theorem W0_close {g : Nat → Nat} {sz t p F : Nat} {x2 : Int32} {m0 m : GM} {S O : List Int32} (hT : TM g sz m) (hp : p ≤ sz) (h4 : mI m0 4 = nI t) (ht : t < 6) (hl : S.length + O.length ≤ 160) (h : RdS t m0 m p S O) (hx : tk g sz p = -17) :
    ((unw 1 S O).1 = [] ∧ ∃ m', k_X5_eRead_14 (F + 1) 0 x2 m = some (0, m') ∧ RdF t m0 m' ∧ mI m' 8 = nI (pl g sz p)) ∨ ∃ a S1, (unw 1 S O).1 = a :: S1 ∧ ∃ m', k_X5_eRead_14 (F + 1) 0 x2 m = k_X5_eRead_14 F 0 x2 m' ∧ RdS t m0 m' (nx g sz p) (unw 7 S1 (unw 1 S O).2).1 (unw 7 S1 (unw 1 S O).2).2 := by
  obtain ⟨m1, e1, hN⟩ := next_M hp hT h.1
  have h1 := RdS_next h hN
  obtain ⟨A, n7, n8, n9, n10⟩ := hN
  rw [hx] at n9
  obtain ⟨m2, e2, h2, k2⟩ := unwinds_M h4 ht (r := 1) (by decide) (by decide) hl h1
  have hl2 := unw_len 1 S O
  have hM : k_X5_eRead_14 (F + 1) 0 x2 m = if mI m2 11 ≠ 0 then (bnd (some (tI m2 11 ((mI m2 11) - (1 : Int32)))) fun σ7 => bnd (some (tI σ7 12 ((mI σ7 12) - (1 : Int32)))) fun σ8 => bnd (f_X5_unwinds (7 : Int32) σ8) fun q9 => k_X5_eRead_14 F 0 x2 q9.2) else (some ((0 : Int32), m2)) := by
    show b_X5_eRead_14 (k_X5_eRead_14 F) 0 x2 m = _
    unfold b_X5_eRead_14
    rw [e1, bnd_some, if_pos rfl]
    show (if mI m1 9 ≠ 59 then _ else _) = _
    rw [n9, if_pos (show kd (-17) ≠ 59 by decide), if_neg (show ¬ kd (-17) ≠ 41 by decide), show f_X5_unwinds (1 : Int32) m1 = _ from e2, bnd_some]
  rw [hM]
  cases hS : (unw 1 S O).1 with
  | nil =>
    left
    rw [hS] at h2
    refine ⟨rfl, m2, ?_, h2.2.2.2.2.2.2, k2.1.trans n8⟩
    rw [h2.2.1, if_neg (show ¬ nI ([] : List Int32).length ≠ (0 : Int32) from fun q => q rfl)]
  | cons a S1 =>
    right
    rw [hS] at h2 hl2
    have hlen : (a :: S1).length = S1.length + 1 := rfl
    have ha : a = 0 := by
      rcases unw_stop 1 S O with q | q
      · rw [hS] at q; exact rk_0 q
      · rw [hS] at q; exact absurd q (by simp)
    have h11 : mI m2 11 = nI (S1.length + 1) := h2.2.1
    have h12 : mI m2 12 = nI (cntO S1 + 1) := by
      have : mI m2 12 = nI (opn a + cntO S1) := h2.2.2.1
      rw [this, ha]
      exact congrArg nI (Nat.add_comm 1 (cntO S1))
    have hP := pop_M h2
    obtain ⟨m3, e3, h3, k3⟩ := unwinds_M h4 ht (r := 7) (by decide) (by decide) (by omega) hP
    refine ⟨a, S1, rfl, m3, ?_, h3⟩
    have i12 : mI (tI m2 11 (nI S1.length)) 12 = nI (cntO S1 + 1) := (mI_n _ _ (by decide)).trans h12
    rw [h11, if_pos (show nI (S1.length + 1) ≠ (0 : Int32) from nI_ne0 (by omega) (by omega)), nI_pred, bnd_some, i12, nI_pred, bnd_some, show f_X5_unwinds (7 : Int32) _ = _ from e3, bnd_some]
/-- after a ONE: the part's end -/
theorem W0_stop {g : Nat → Nat} {sz t p F : Nat} {x2 : Int32} {m0 m : GM} {S O : List Int32} (hT : TM g sz m) (hp : p ≤ sz) (h4 : mI m0 4 = nI t) (ht : t < 6) (hl : S.length + O.length ≤ 160) (h : RdS t m0 m p S O) (hx : tk g sz p = -18) :
    ((unw 1 S O).1 = [] ∧ ∃ m', k_X5_eRead_14 (F + 1) 0 x2 m = some (1, m') ∧ RdS t m0 m' (nx g sz p) [] (unw 1 S O).2) ∨ ((unw 1 S O).1 ≠ [] ∧ ∃ m', k_X5_eRead_14 (F + 1) 0 x2 m = some (0, m') ∧ RdF t m0 m' ∧ mI m' 8 = nI (pl g sz p)) := by
  obtain ⟨m1, e1, hN⟩ := next_M hp hT h.1
  have h1 := RdS_next h hN
  obtain ⟨A, n7, n8, n9, n10⟩ := hN
  rw [hx] at n9
  obtain ⟨m2, e2, h2, k2⟩ := unwinds_M h4 ht (r := 1) (by decide) (by decide) hl h1
  have hl2 := unw_len 1 S O
  have hM : k_X5_eRead_14 (F + 1) 0 x2 m = if mI m2 11 ≠ 0 then (some ((0 : Int32), m2)) else (some ((1 : Int32), m2)) := by
    show b_X5_eRead_14 (k_X5_eRead_14 F) 0 x2 m = _
    unfold b_X5_eRead_14
    rw [e1, bnd_some, if_pos rfl]
    show (if mI m1 9 ≠ 59 then _ else _) = _
    rw [n9, if_neg (show ¬ kd (-18) ≠ 59 by decide), show f_X5_unwinds (1 : Int32) m1 = _ from e2, bnd_some]
  rw [hM]
  cases hS : (unw 1 S O).1 with
  | nil =>
    left
    rw [hS] at h2
    refine ⟨rfl, m2, ?_, h2⟩
    rw [h2.2.1, if_neg (show ¬ nI ([] : List Int32).length ≠ (0 : Int32) from fun q => q rfl)]
  | cons a S1 =>
    right
    rw [hS] at h2 hl2
    have hlen : (a :: S1).length = S1.length + 1 := rfl
    refine ⟨by simp, m2, ?_, h2.2.2.2.2.2.2, k2.1.trans n8⟩
    rw [h2.2.1, hlen, if_pos (show nI (S1.length + 1) ≠ (0 : Int32) from nI_ne0 (by omega) (by omega))]
/-- after a ONE: nothing that can stand there -/
theorem W0_bad {g : Nat → Nat} {sz t p F : Nat} {x2 : Int32} {m0 m : GM} {S O : List Int32} (hT : TM g sz m) (hp : p ≤ sz) (h : RdS t m0 m p S O) (h1 : xr (tk g sz p) = 9) (h2 : tk g sz p ≠ -17) (h3 : tk g sz p ≠ -18) :
    ∃ m', k_X5_eRead_14 (F + 1) 0 x2 m = some (0, m') ∧ RdF t m0 m' ∧ mI m' 8 = nI (pl g sz p) := by
  obtain ⟨m1, e1, ⟨A, n7, n8, n9, n10⟩⟩ := next_M hp hT h.1
  have hc := tk_tkr g sz p (fun i hi => (hT.2.2.2 i hi).2) hp
  generalize tk g sz p = c at h1 h2 h3 n9 n10 hc
  have key : kd c ≠ 59 ∧ kd c ≠ 41 ∧ sgo (kd c) = -1 := by
    rcases hc with ⟨n, hn, rfl⟩ | ⟨k, hk1, hk, hk15, rfl⟩
    · rw [num_kd n hn]; decide
    · obtain ⟨t1, _, t3, t4⟩ := ops_tab k hk hk1 hk15
      refine ⟨fun q => h3 ?_, fun q => h2 ?_, t1 h1⟩
      · rw [t4.mp q]; rfl
      · rw [t3.mp q]; rfl
  obtain ⟨k1, k2, k3⟩ := key
  refine ⟨m1, ?_, RdF_trans h.2.2.2.2.2.2 (RdF_AM A), n8⟩
  show b_X5_eRead_14 (k_X5_eRead_14 F) 0 x2 m = _
  unfold b_X5_eRead_14
  rw [e1, bnd_some, if_pos rfl]
  show (if mI m1 9 ≠ 59 then _ else _) = _
  rw [n9, if_pos k1, if_pos k2, signOf_M, n9, k3, bnd_some, if_pos rfl]
