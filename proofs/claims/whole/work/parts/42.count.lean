/-! ===== how many bits a long has: by halves, and one by one ===== -/
def fb_ct (p : Nat → Bool) : Nat → Nat
  | 0 => 0
  | n + 1 => fb_ct p n + (if p n then 1 else 0)
theorem fb_ct_succ (p : Nat → Bool) (n : Nat) : fb_ct p (n + 1) = fb_ct p n + (if p n then 1 else 0) := rfl
theorem fb_ct_cong {p q : Nat → Bool} : ∀ {n : Nat}, (∀ k, k < n → p k = q k) → fb_ct p n = fb_ct q n
  | 0, _ => rfl
  | n + 1, h => by
    rw [fb_ct_succ, fb_ct_succ, fb_ct_cong (fun k hk => h k (by omega)), h n (by omega)]
theorem fb_ct_split (p : Nat → Bool) (m : Nat) : ∀ n, fb_ct p (m + n) = fb_ct p m + fb_ct (fun k => p (m + k)) n
  | 0 => rfl
  | n + 1 => by
    have h := fb_ct_split p m n
    show fb_ct p (m + n + 1) = _
    rw [fb_ct_succ, fb_ct_succ, h, Nat.add_assoc]
theorem wb_tb (n : Nat) : (lN n).toBitVec = BitVec.ofNat 64 n := rfl
theorem wb_inj {a b : Int64} (h : a.toBitVec = b.toBitVec) : a = b := Int64.toBitVec_inj.mp h
theorem wb_tn {n : Nat} (h : n < 2 ^ 64) : (lN n).toBitVec.toNat = n := by rw [wb_tb, BitVec.toNat_ofNat, Nat.mod_eq_of_lt h]
theorem wb_of (x : Int64) : ∃ n, n < 2 ^ 64 ∧ x = lN n := ⟨x.toBitVec.toNat, x.toBitVec.isLt, wb_inj (by rw [wb_tb]; simp)⟩
theorem wb_cu : ∀ k, k < 64 → ((nI k).toInt64.toUInt64 &&& Int64.toUInt64 63) = UInt64.ofNat k := by decide +kernel
theorem wb_shr {n k : Nat} (hn : n < 2 ^ 64) (hk : k < 64) : ((lN n).toUInt64 >>> ((nI k).toInt64.toUInt64 &&& Int64.toUInt64 63)).toInt64 = lN (n / 2 ^ k) := by
  rw [wb_cu k hk]
  apply wb_inj
  apply BitVec.eq_of_toNat_eq
  show ((lN n).toUInt64 >>> UInt64.ofNat k).toNat = (BitVec.ofNat 64 _).toNat
  have h1 : (UInt64.ofNat k).toNat = k := by
    show (BitVec.ofNat 64 k).toNat = k
    rw [BitVec.toNat_ofNat, Nat.mod_eq_of_lt (by omega)]
  have h2 : (lN n).toUInt64.toNat = n := wb_tn hn
  rw [UInt64.toNat_shiftRight, h1, h2, Nat.mod_eq_of_lt hk, Nat.shiftRight_eq_div_pow, BitVec.toNat_ofNat, Nat.mod_eq_of_lt (Nat.lt_of_le_of_lt (Nat.div_le_self _ _) hn)]
theorem wb_and {a b : Nat} (ha : a < 2 ^ 64) (hb : b < 2 ^ 64) : lN a &&& lN b = lN (a &&& b) := by
  apply wb_inj
  rw [Int64.toBitVec_and, wb_tb, wb_tb, wb_tb]
  apply BitVec.eq_of_toNat_eq
  rw [BitVec.toNat_and, BitVec.toNat_ofNat, BitVec.toNat_ofNat, BitVec.toNat_ofNat, Nat.mod_eq_of_lt ha, Nat.mod_eq_of_lt hb, Nat.mod_eq_of_lt (Nat.and_lt_two_pow _ hb)]
theorem and_sp (a b c d : Nat) (ha : a < 256) (hc : c < 256) : (a + 256 * b) &&& (c + 256 * d) = (a &&& c) + 256 * (b &&& d) := by
  have h8 : (256 : Nat) = 2 ^ 8 := rfl
  have hac : (a &&& c) < 256 := Nat.lt_of_le_of_lt Nat.and_le_left ha
  rw [h8] at ha hc hac
  apply Nat.eq_of_testBit_eq
  intro i
  rw [Nat.testBit_and, Nat.add_comm a, Nat.add_comm c, Nat.add_comm (a &&& c), h8, Nat.testBit_two_pow_mul_add _ ha, Nat.testBit_two_pow_mul_add _ hc, Nat.testBit_two_pow_mul_add _ hac]
  by_cases q : i < 8
  · rw [if_pos q, if_pos q, if_pos q, Nat.testBit_and]
  · rw [if_neg q, if_neg q, if_neg q, Nat.testBit_and]
def Mk : Nat → Nat → Nat
  | 0, _ => 0
  | n + 1, v => v + 256 * Mk n v
def s1 (a : Nat) : Nat := a - (a / 2 &&& 85)
def s2 (a : Nat) : Nat := (a &&& 51) + (a / 4 &&& 51)
def s3 (a : Nat) : Nat := (a + a / 16) &&& 15
def pcb (a : Nat) : Nat := s3 (s2 (s1 a))
theorem tb1 : ∀ a, a < 256 → ∀ t, t < 2 → (a / 2 + 128 * t) &&& 85 = a / 2 &&& 85 := by decide +kernel
theorem tb2 : ∀ a, a < 256 → ∀ t, t < 4 → (a / 4 + 64 * t) &&& 51 = a / 4 &&& 51 := by decide +kernel
theorem tb3 : ∀ a, a < 256 → ∀ t, t < 5 → s2 (s1 a) + s2 (s1 a) / 16 + 16 * t < 256 ∧ (s2 (s1 a) + s2 (s1 a) / 16 + 16 * t) &&& 15 = s3 (s2 (s1 a)) := by decide +kernel
theorem tb4 : ∀ a, a < 256 → s1 a < 256 ∧ s2 (s1 a) < 256 ∧ s2 (s1 a) % 16 ≤ 4 ∧ pcb a ≤ 8 ∧ pcb a = fb_ct (fun i => a.testBit i) 8 := by decide +kernel
def G1 (n x : Nat) : Nat := x - (x / 2 &&& Mk n 85)
def G2 (n x : Nat) : Nat := (x &&& Mk n 51) + (x / 4 &&& Mk n 51)
def G3 (n x : Nat) : Nat := (x + x / 16) &&& Mk n 15
theorem G1_s (n a b : Nat) (ha : a < 256) : G1 (n + 1) (a + 256 * b) = s1 a + 256 * G1 n b := by
  unfold G1 s1
  have e : (a + 256 * b) / 2 = (a / 2 + 128 * (b % 2)) + 256 * (b / 2) := by omega
  rw [e]
  show _ - (_ &&& (85 + 256 * Mk n 85)) = _
  rw [and_sp _ _ _ _ (by omega) (by decide), tb1 a ha _ (by omega)]
  have h1 : (a / 2 &&& 85) ≤ a / 2 := Nat.and_le_left
  have h2 : (b / 2 &&& Mk n 85) ≤ b / 2 := Nat.and_le_left
  omega
theorem G2_s (n a b : Nat) (ha : a < 256) : G2 (n + 1) (a + 256 * b) = s2 a + 256 * G2 n b := by
  unfold G2 s2
  have e : (a + 256 * b) / 4 = (a / 4 + 64 * (b % 4)) + 256 * (b / 4) := by omega
  rw [e]
  show (_ &&& (51 + 256 * Mk n 51)) + (_ &&& (51 + 256 * Mk n 51)) = _
  rw [and_sp _ _ _ _ ha (by decide), and_sp _ _ _ _ (by omega) (by decide), tb2 a ha _ (by omega)]
  omega
theorem G3_s (n a b : Nat) (h : a + a / 16 + 16 * (b % 16) < 256) : G3 (n + 1) (a + 256 * b) = ((a + a / 16 + 16 * (b % 16)) &&& 15) + 256 * G3 n b := by
  unfold G3
  have e : a + 256 * b + (a + 256 * b) / 16 = (a + a / 16 + 16 * (b % 16)) + 256 * (b + b / 16) := by omega
  rw [e]
  show _ &&& (15 + 256 * Mk n 15) = _
  rw [and_sp _ _ _ _ h (by decide)]
def PC (n x : Nat) : Nat := G3 n (G2 n (G1 n x))
theorem G_lo (n x : Nat) : G2 n (G1 n x) % 16 < 5 := by
  cases n with
  | zero =>
    have : G2 0 (G1 0 x) = 0 := by
      unfold G2
      show (_ &&& 0) + (_ &&& 0) = 0
      rw [Nat.and_zero, Nat.and_zero]
    rw [this]; decide
  | succ n =>
    have ha : x % 256 < 256 := Nat.mod_lt _ (by decide)
    obtain ⟨h1, h2, h3, _⟩ := tb4 (x % 256) ha
    rw [show x = x % 256 + 256 * (x / 256) by omega, G1_s n _ _ ha, G2_s n _ _ h1]
    omega
theorem PC_s (n x : Nat) : PC (n + 1) x = pcb (x % 256) + 256 * PC n (x / 256) := by
  have ha : x % 256 < 256 := Nat.mod_lt _ (by decide)
  obtain ⟨h1, h2, h3, _⟩ := tb4 (x % 256) ha
  have hl := G_lo n (x / 256)
  obtain ⟨t1, t2⟩ := tb3 (x % 256) ha _ hl
  unfold PC pcb
  have e : G1 (n + 1) x = s1 (x % 256) + 256 * G1 n (x / 256) := by
    rw [← G1_s n _ _ ha]
    congr 1; omega
  rw [e, G2_s n _ _ h1, G3_s n _ _ t1, t2]
theorem ct_s (x n : Nat) : fb_ct (fun i => x.testBit i) (8 + n) = pcb (x % 256) + fb_ct (fun i => (x / 256).testBit i) n := by
  have ha : x % 256 < 256 := Nat.mod_lt _ (by decide)
  obtain ⟨_, _, _, _, h5⟩ := tb4 (x % 256) ha
  rw [fb_ct_split, h5]
  congr 1
  · apply fb_ct_cong
    intro k hk
    rw [show (256 : Nat) = 2 ^ 8 from rfl, Nat.testBit_mod_two_pow, decide_eq_true hk, Bool.true_and]
  · apply fb_ct_cong
    intro k hk
    rw [show (256 : Nat) = 2 ^ 8 from rfl, Nat.testBit_div_two_pow, Nat.add_comm]
theorem ct_4 : ∀ a, a < 16 → fb_ct (fun i => a.testBit i) 4 = pcb a := by decide +kernel
theorem pc_sum (N : Nat) (h : N < 2 ^ 36) : ∃ p0 p1 p2 p3 p4 : Nat, p0 ≤ 8 ∧ p1 ≤ 8 ∧ p2 ≤ 8 ∧ p3 ≤ 8 ∧ p4 ≤ 8 ∧ PC 8 N = p0 + 256 * (p1 + 256 * (p2 + 256 * (p3 + 256 * p4))) ∧ fb_ct (fun i => N.testBit i) 36 = p0 + p1 + p2 + p3 + p4 := by
  have hp : ∀ y : Nat, pcb (y % 256) ≤ 8 := fun y => (tb4 (y % 256) (Nat.mod_lt _ (by decide))).2.2.2.1
  have h0 : PC 3 0 = 0 := by decide +kernel
  refine ⟨pcb (N % 256), pcb (N / 256 % 256), pcb (N / 256 / 256 % 256), pcb (N / 256 / 256 / 256 % 256), pcb (N / 256 / 256 / 256 / 256 % 256), hp _, hp _, hp _, hp _, hp _, ?_, ?_⟩
  · rw [PC_s 7, PC_s 6, PC_s 5, PC_s 4, PC_s 3, show N / 256 / 256 / 256 / 256 / 256 = 0 by omega, h0, Nat.mul_zero, Nat.add_zero]
  · rw [ct_s N 28, ct_s (N / 256) 20, ct_s (N / 256 / 256) 12, ct_s (N / 256 / 256 / 256) 4, ct_4 _ (by omega), show N / 256 / 256 / 256 / 256 % 256 = N / 256 / 256 / 256 / 256 by omega]
    omega
theorem and127 (W : Nat) : nI W &&& (127 : Int32) = nI (W % 128) := by
  rw [pk_and (nI W) 7 (by decide)]
  congr 1
  show (BitVec.ofNat 32 W).toNat % 2 ^ 7 = _
  rw [BitVec.toNat_ofNat]
  omega
theorem bc64 (N : Nat) (h : N < 2 ^ 36) (x : GX) : f_J13_bitCount_95d88 (lN N) x = some (nI (fb_ct (fun i => N.testBit i) 36), x) := by
  obtain ⟨p0, p1, p2, p3, p4, q0, q1, q2, q3, q4, hP, hC⟩ := pc_sum N h
  have us : ∀ (n k : Nat), n < 2 ^ 64 → k < 64 → usL (lN n) (nI k) = lN (n / 2 ^ k) := fun n k hn hk => wb_shr hn hk
  unfold f_J13_bitCount_95d88
  simp only [bnd_some]
  have m5 : (6148914691236517205 : Int64) = lN (Mk 8 85) := by decide +kernel
  have m3 : (3689348814741910323 : Int64) = lN (Mk 8 51) := by decide +kernel
  have mf : (1085102592571150095 : Int64) = lN (Mk 8 15) := by decide +kernel
  have b5 : Mk 8 85 < 2 ^ 63 := by decide +kernel
  have b3 : Mk 8 51 < 2 ^ 63 := by decide +kernel
  have bf : Mk 8 15 < 2 ^ 60 := by decide +kernel
  have e1 : lN N - (usL (lN N) (1 : Int32) &&& (6148914691236517205 : Int64)) = lN (G1 8 N) := by
    rw [show (1 : Int32) = nI 1 from rfl, us N 1 (by omega) (by decide), m5, wb_and (by omega) (by omega), lN_sub (Nat.le_trans Nat.and_le_left (Nat.div_le_self _ _))]
    rfl
  have h1 : G1 8 N ≤ N := Nat.sub_le _ _
  rw [e1]
  have e2 : (lN (G1 8 N) &&& (3689348814741910323 : Int64)) + (usL (lN (G1 8 N)) (2 : Int32) &&& (3689348814741910323 : Int64)) = lN (G2 8 (G1 8 N)) := by
    rw [show (2 : Int32) = nI 2 from rfl, us _ 2 (by omega) (by decide), m3, wb_and (by omega) (by omega), wb_and (by omega) (by omega), lN_add]
    rfl
  have h2 : G2 8 (G1 8 N) ≤ 2 * N := by
    unfold G2
    have a1 : (G1 8 N &&& Mk 8 51) ≤ G1 8 N := Nat.and_le_left
    have a2 : (G1 8 N / 4 &&& Mk 8 51) ≤ G1 8 N / 4 := Nat.and_le_left
    omega
  rw [e2]
  have e3 : (lN (G2 8 (G1 8 N)) + usL (lN (G2 8 (G1 8 N))) (4 : Int32)) &&& (1085102592571150095 : Int64) = lN (PC 8 N) := by
    rw [show (4 : Int32) = nI 4 from rfl, us _ 4 (by omega) (by decide), mf, lN_add, wb_and (by omega) (by omega)]
    rfl
  rw [e3, hP]
  have e4 : ∀ n k : Nat, n < 2 ^ 60 → k < 64 → lN n + usL (lN n) (nI k) = lN (n + n / 2 ^ k) := fun n k hn hk => by rw [us n k (by omega) hk, lN_add]
  have e5 := e4 (p0 + 256 * (p1 + 256 * (p2 + 256 * (p3 + 256 * p4)))) 8 (by omega) (by decide)
  rw [show (8 : Int32) = nI 8 from rfl, e5]
  have f5 : p0 + 256 * (p1 + 256 * (p2 + 256 * (p3 + 256 * p4))) + (p0 + 256 * (p1 + 256 * (p2 + 256 * (p3 + 256 * p4)))) / 2 ^ 8 = (p0 + p1) + 256 * (p1 + p2) + 65536 * (p2 + p3) + 16777216 * (p3 + p4) + 4294967296 * p4 := by omega
  rw [f5]
  have e6 := e4 ((p0 + p1) + 256 * (p1 + p2) + 65536 * (p2 + p3) + 16777216 * (p3 + p4) + 4294967296 * p4) 16 (by omega) (by decide)
  rw [show (16 : Int32) = nI 16 from rfl, e6]
  have f6 : (p0 + p1) + 256 * (p1 + p2) + 65536 * (p2 + p3) + 16777216 * (p3 + p4) + 4294967296 * p4 + ((p0 + p1) + 256 * (p1 + p2) + 65536 * (p2 + p3) + 16777216 * (p3 + p4) + 4294967296 * p4) / 2 ^ 16 = (p0 + p1 + p2 + p3) + 256 * (p1 + p2 + p3 + p4) + 65536 * (p2 + p3 + p4) + 16777216 * (p3 + p4) + 4294967296 * p4 := by omega
  rw [f6]
  have e7 := e4 ((p0 + p1 + p2 + p3) + 256 * (p1 + p2 + p3 + p4) + 65536 * (p2 + p3 + p4) + 16777216 * (p3 + p4) + 4294967296 * p4) 32 (by omega) (by decide)
  rw [show (32 : Int32) = nI 32 from rfl, e7, lN_i, and127, hC]
  have f7 : ((p0 + p1 + p2 + p3) + 256 * (p1 + p2 + p3 + p4) + 65536 * (p2 + p3 + p4) + 16777216 * (p3 + p4) + 4294967296 * p4) / 2 ^ 32 = p4 := by omega
  rw [f7, show ((p0 + p1 + p2 + p3) + 256 * (p1 + p2 + p3 + p4) + 65536 * (p2 + p3 + p4) + 16777216 * (p3 + p4) + 4294967296 * p4 + p4) % 128 = p0 + p1 + p2 + p3 + p4 by omega]
theorem rocks_loop (m : GM) : ∀ (k c F : Nat), c + k = 36 → k < F → k_X5_rockMany_4 F (nI (fb_ct (fun i => bL (mL m 0) i) c)) (nI c) m = some (nI (fb_ct (fun i => bL (mL m 0) i) 36), m) := by
  intro k
  induction k with
  | zero =>
    intro c F hc hF
    obtain ⟨F, rfl⟩ : ∃ k, F = k + 1 := ⟨F - 1, by omega⟩
    have : c = 36 := by omega
    subst this
    show b_X5_rockMany_4 (k_X5_rockMany_4 F) _ (nI 36) m = _
    unfold b_X5_rockMany_4
    rw [if_pos (show (36 : Int32) ≤ nI 36 by decide)]
  | succ k ih =>
    intro c F hc hF
    obtain ⟨F, rfl⟩ : ∃ k, F = k + 1 := ⟨F - 1, by omega⟩
    rw [← ih (c + 1) F (by omega) (by omega)]
    show b_X5_rockMany_4 (k_X5_rockMany_4 F) _ (nI c) m = _
    unfold b_X5_rockMany_4
    rw [if_neg (show ¬ (36 : Int32) ≤ nI c from nI_ge (b := 36) (by omega) (by decide)), hasRock_M c (by omega), bnd_some, fb_ct_succ, show nI c + (1 : Int32) = nI (c + 1) from nI_add c 1]
    by_cases q : bL (mL m 0) c = true
    · rw [if_pos q, if_neg (show ¬ (1 : Int32) = 0 by decide), bnd_some, if_pos q, lt1, nIs]
    · simp only [if_neg q, ifs, if_true, bnd_some, Int32.add_zero, Nat.add_zero]
theorem bc6 {A : Int32} {n : Nat} (hn : n ≤ 6) (h : ∀ i, i < 32 → n ≤ i → bt A i = false) (x : GX) (m : GM) : ∃ r, f_J6_bitCount_0f7a4 A x = some (r, x) ∧ f_X5_ones A m = some (r, m) := by
  obtain ⟨K, hK, eK⟩ := low6 (v := A) (fun i hi h6 => h i hi (by omega))
  obtain ⟨r, _, e1, e2, _⟩ := bc_ones K hK m
  exact ⟨nI r, by rw [eK]; exact e1 x, by rw [eK]; exact e2⟩
theorem eq_count (a : Int32) : EQ (f_X4_count a) (f_X5_count a) := by
  intro x m h
  obtain ⟨n, hn6, hm, hx⟩ := RR_n h
  obtain ⟨nt, n1, n6, ex, em, _⟩ := h.2.1
  obtain ⟨L, l1, l2, l3, _⟩ := h.2.2.1
  obtain ⟨h1, h2, h3, h4, h5, _⟩ := id h.1
  unfold f_X4_count f_X5_count
  by_cases q0 : a = 0
  · rw [if_pos q0, if_pos q0, h1]; exact PP_same h
  rw [if_neg q0, if_neg q0]
  by_cases q1 : a = 1
  · rw [if_pos q1, if_pos q1]
    obtain ⟨A, c1, c2, c3⟩ := afloat_pair h.1 hm hn6
    obtain ⟨r, d1, d2⟩ := bc6 (A := A) hn6 (fun i hi hn => by
      rw [c3 i hi]
      have : ¬ i < n := by omega
      simp [this]) x m
    rw [c1, c2, bnd_some, bnd_some, d1, d2, bnd_some, bnd_some]
    exact PP_same h
  rw [if_neg q1, if_neg q1]
  by_cases q2 : a = 2
  · rw [if_pos q2, if_pos q2, h3]; exact PP_same h
  rw [if_neg q2, if_neg q2]
  by_cases q3 : a = 3
  · rw [if_pos q3, if_pos q3, h2]; exact PP_same h
  rw [if_neg q3, if_neg q3]
  by_cases q4 : a = 4
  · rw [if_pos q4, if_pos q4]
    have hr := h.2.2.2.2.2.2.2
    obtain ⟨N, hN, eN⟩ := wb_of (mL m 0)
    have hb : ∀ i, i < 64 → bL (mL m 0) i = N.testBit i := fun i hi => by
      rw [eN]
      show (BitVec.ofNat 64 N).getLsbD i = _
      rw [BitVec.getLsbD_ofNat, decide_eq_true hi, Bool.true_and]
    have hN36 : N < 2 ^ 36 := by
      apply Nat.lt_pow_two_of_testBit
      intro i hi
      rcases Nat.lt_or_ge i 64 with q | q
      · rw [← hb i q]; exact (hr i q hi).1
      · exact Nat.testBit_lt_two_pow (Nat.lt_of_lt_of_le hN (Nat.pow_le_pow_right (by decide) q))
    unfold f_X5_rockMany
    have e := rocks_loop m 36 0 FU rfl (by decide)
    rw [show k_X5_rockMany_4 FU (0 : Int32) (0 : Int32) m = _ from e, h5, eN, bc64 N hN36, bnd_some, bnd_some]
    have : fb_ct (fun i => bL (lN N) i) 36 = fb_ct (fun i => N.testBit i) 36 := fb_ct_cong (fun k hk => by rw [← eN]; exact hb k (by omega))
    rw [this]
    exact PP_same h
  rw [if_neg q4, if_neg q4]
  by_cases q5 : a = 5
  · rw [if_pos q5, if_pos q5, ex, em]; exact PP_same h
  rw [if_neg q5, if_neg q5]
  by_cases q6 : a = 6
  · rw [if_pos q6, if_pos q6, h4]; exact PP_same h
  rw [if_neg q6, if_neg q6]
  by_cases q7 : a = 7
  · rw [if_pos q7, if_pos q7, l2, l3]; exact PP_same h
  rw [if_neg q7, if_neg q7]
  exact PP_same h
