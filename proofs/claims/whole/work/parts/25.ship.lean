/-! ===== rocks and losses as bits; a ship's night ===== -/
def bL (x : Int64) (i : Nat) : Bool := x.toBitVec.getLsbD i
theorem bL_ext {x y : Int64} (h : ∀ i, i < 64 → bL x i = bL y i) : x = y := Int64.toBitVec_inj.mp (BitVec.eq_of_getLsbD_eq (fun i hi => h i hi))
theorem bL_big {x : Int64} {i : Nat} (h : 64 ≤ i) : bL x i = false := BitVec.getLsbD_of_ge _ _ h
theorem bL_and (x y : Int64) (i : Nat) : bL (x &&& y) i = (bL x i && bL y i) := by unfold bL; rw [Int64.toBitVec_and, BitVec.getLsbD_and]
theorem bL_or (x y : Int64) (i : Nat) : bL (x ||| y) i = (bL x i || bL y i) := by unfold bL; rw [Int64.toBitVec_or, BitVec.getLsbD_or]
theorem bL_xor (x y : Int64) (i : Nat) : bL (x ^^^ y) i = (bL x i ^^ bL y i) := by unfold bL; rw [Int64.toBitVec_xor, BitVec.getLsbD_xor]
theorem bL_m1 : ∀ i, i < 64 → bL (-1) i = true := by decide +kernel
theorem bL_0 (i : Nat) : bL 0 i = false := BitVec.getLsbD_zero
theorem bL_1 (i : Nat) : bL 1 i = decide (i = 0) := by
  rcases Nat.lt_or_ge i 64 with h | h
  · exact (by decide +kernel : ∀ i, i < 64 → bL 1 i = decide (i = 0)) i h
  · rw [bL_big h, decide_eq_false (by omega)]
theorem bt_1 (i : Nat) : bt 1 i = decide (i = 0) := by
  rcases Nat.lt_or_ge i 32 with h | h
  · exact (by decide +kernel : ∀ i, i < 32 → bt 1 i = decide (i = 0)) i h
  · rw [b_big h, decide_eq_false (by omega)]
theorem sL_l : ∀ n, n < 64 → (((nI n).toInt64 &&& 63).toBitVec.smod 64).toNat = n := by decide +kernel
theorem sL_u : ∀ n, n < 64 → ((((nI n).toInt64.toUInt64) &&& Int64.toUInt64 63).toBitVec % 64).toNat = n := by decide +kernel
theorem bL_shl (n : Nat) (hn : n < 64) (x : Int64) {i : Nat} (hi : i < 64) : bL (slL x (nI n)) i = (decide (n ≤ i) && bL x (i - n)) := by
  unfold bL slL
  rw [Int64.toBitVec_shiftLeft]
  show (x.toBitVec <<< (((nI n).toInt64 &&& 63).toBitVec.smod 64).toNat).getLsbD i = _
  rw [sL_l n hn, BitVec.getLsbD_shiftLeft]
  rcases Nat.lt_or_ge i n with h | h
  · simp [h, Nat.not_le.mpr h]
  · simp [hi, h, Nat.not_lt.mpr h]
theorem bL_ushr (n : Nat) (hn : n < 64) (x : Int64) (i : Nat) : bL (usL x (nI n)) i = bL x (n + i) := by
  show (x.toUInt64 >>> ((nI n).toInt64.toUInt64 &&& Int64.toUInt64 63)).toBitVec.getLsbD i = x.toUInt64.toBitVec.getLsbD (n + i)
  rw [UInt64.toBitVec_shiftRight]
  show (x.toUInt64.toBitVec >>> (((nI n).toInt64.toUInt64 &&& Int64.toUInt64 63).toBitVec % 64).toNat).getLsbD i = _
  rw [sL_u n hn, BitVec.getLsbD_ushiftRight]
theorem bL_sshr (n : Nat) (hn : n < 64) (x : Int64) {i : Nat} (hi : i < 64) : bL (srL x (nI n)) i = if n + i < 64 then bL x (n + i) else bL x 63 := by
  unfold bL srL
  rw [Int64.toBitVec_shiftRight]
  show (x.toBitVec.sshiftRight (((nI n).toInt64 &&& 63).toBitVec.smod 64).toNat).getLsbD i = _
  rw [sL_l n hn, BitVec.getLsbD_sshiftRight, BitVec.msb_eq_getLsbD_last]
  simp [hi]
/-- one bit of a long, by either shift -/
theorem bL_one (x : Int64) (n : Nat) (hn : n < 64) : usL x (nI n) &&& 1 = (if bL x n = true then 1 else 0) := by
  apply bL_ext
  intro i hi
  rw [bL_and, bL_ushr n hn, bL_1]
  by_cases h : i = 0
  · subst h
    by_cases q : bL x n = true
    · rw [if_pos q, bL_1]; simp [q]
    · rw [if_neg q, bL_0]; simp [q]
  · by_cases q : bL x n = true
    · rw [if_pos q, bL_1]; simp [h]
    · rw [if_neg q, bL_0]; simp [h]
theorem bL_one' (x : Int64) (n : Nat) (hn : n < 64) : srL x (nI n) &&& 1 = (if bL x n = true then 1 else 0) := by
  apply bL_ext
  intro i hi
  rw [bL_and, bL_sshr n hn _ hi, bL_1]
  by_cases h : i = 0
  · subst h
    rw [if_pos (by omega)]
    by_cases q : bL x n = true
    · rw [if_pos q, bL_1]; simp [q]
    · rw [if_neg q, bL_0]; simp [q]
  · by_cases q : bL x n = true
    · rw [if_pos q, bL_1]; simp [h]
    · rw [if_neg q, bL_0]; simp [h]
theorem bt_one (x : Int32) (n : Nat) (hn : n < 32) : usI x (nI n) &&& 1 = (if bt x n = true then 1 else 0) := by
  apply b_ext
  intro i hi
  rw [b_and, show usI x (nI n) = (x.toUInt32 >>> ((nI n).toUInt32 &&& Int32.toUInt32 31)).toInt32 from rfl, b_ushr n hn, bt_1]
  by_cases h : i = 0
  · subst h
    by_cases q : bt x n = true
    · rw [if_pos q, bt_1]; simp [q]
    · rw [if_neg q, b_0]; simp [q]
  · by_cases q : bt x n = true
    · rw [if_pos q, bt_1]; simp [h]
    · rw [if_neg q, b_0]; simp [h]
theorem bt_bit (n : Nat) (hn : n < 32) {i : Nat} (hi : i < 32) : bt (slI 1 (nI n)) i = decide (i = n) := by
  show bt ((1 : Int32) <<< (nI n &&& 31)) i = _
  rw [b_shl n hn _ hi, bt_1]
  by_cases h : i = n
  · subst h; simp
  · by_cases q : n ≤ i
    · have : ¬ (i - n = 0) := by omega
      simp [h, q, this]
    · simp [h, q]
theorem hasRock_X (z c : Nat) (hc : c < 64) (x : GX) : f_X2_hasRock z (nI c) x = some ((if bL (xR x z) c = true then 1 else 0), x) := by
  unfold f_X2_hasRock
  rw [bL_one _ c hc]
  by_cases q : bL (xR x z) c = true
  · rw [if_pos q, if_neg (by decide), if_pos q]
  · rw [if_neg q, if_pos (by decide), if_neg q]
theorem hasRock_M (c : Nat) (hc : c < 64) (m : GM) : f_X5_hasRock (nI c) m = some ((if bL (mL m 0) c = true then 1 else 0), m) := by
  unfold f_X5_hasRock
  rw [bL_one' _ c hc]
  by_cases q : bL (mL m 0) c = true
  · rw [if_pos q, if_neg (by decide), if_pos q]
  · rw [if_neg q, if_pos (by decide), if_neg q]
theorem isLost_X (z s : Nat) (hs : s < 32) (x : GX) : f_X2_isLost z (nI s) x = some ((if bt (xS x z 0) s = true then 1 else 0), x) := by
  unfold f_X2_isLost
  rw [bt_one _ s hs]
  by_cases q : bt (xS x z 0) s = true
  · rw [if_pos q, if_neg (by decide)]
  · rw [if_neg q, if_pos (by decide)]
theorem TR_fr {x x' : GX} {m m' : GM} {t : Nat} (h : TR x m t) (h1 : xU x' t 0 = xU x t 0) (h2 : xU x' t 2 = xU x t 2) (h3 : mA m' 7 = mA m 7) (h4 : mA m' 8 = mA m 8) : TR x' m' t := by
  obtain ⟨E, h⟩ := h
  refine ⟨E, ?_⟩
  rw [h1, h2, h3, h4]
  exact h
theorem SR_cell {z s c : Nat} {x : GX} {m : GM} (h : SR z x m) (hc : c < 36) : SR z (sB x z 3 s (nI c)) (tA m 2 s (nI c)) := by
  obtain ⟨h1, h2, h3, h4, h5, h6, ⟨t, h7, h8, h9⟩, h10, n, h11, h12, h13⟩ := h
  refine ⟨h1, h2, h3, h4, h5, h6, ⟨t, h7, h8, TR_fr h9 rfl rfl (mA_n _ _ _ (by decide)) (mA_n _ _ _ (by decide))⟩, ?_, n, h11, h12, ?_⟩
  · intro i hi
    rw [xB_n _ _ _ _ (by decide), mA_n _ _ _ (by decide)]
    exact h10 i hi
  · intro i hi
    obtain ⟨k1, k2, k3, k4, k5, k6⟩ := h13 i hi
    unfold ShR
    simp (disch := decide) only [xB_s, xB_n, xS_s, xS_n, mA_s, mA_n]
    refine ⟨k1, k2, ?_, k4, ?_, k6⟩
    · by_cases q : i = s
      · subst q; rw [upd_s, upd_s]
      · rw [upd_n _ _ q, upd_n _ _ q]; exact k3
    · by_cases q : i = s
      · subst q; rw [upd_s]; exact ⟨c, hc, rfl⟩
      · rw [upd_n _ _ q]; exact k5
theorem SR_lost {z s : Nat} {x : GX} {m : GM} (h : SR z x m) (hs : s < 6) : SR z (sS x z 0 (xS x z 0 ||| slI 1 (nI s))) (tA m 4 s 1) := by
  obtain ⟨h1, h2, h3, h4, h5, h6, ⟨t, h7, h8, h9⟩, h10, n, h11, h12, h13⟩ := h
  refine ⟨by rw [xS_n _ _ _ (by decide)]; exact h1, by rw [xS_n _ _ _ (by decide)]; exact h2, by rw [xS_n _ _ _ (by decide)]; exact h3, by rw [xS_n _ _ _ (by decide)]; exact h4, h5, h6, ⟨t, h7, h8, TR_fr h9 rfl rfl (mA_n _ _ _ (by decide)) (mA_n _ _ _ (by decide))⟩, ?_, n, h11, h12, ?_⟩
  · intro i hi
    rw [mA_n _ _ _ (by decide)]
    exact h10 i hi
  · intro i hi
    obtain ⟨k1, k2, k3, k4, k5, k6⟩ := h13 i hi
    unfold ShR
    simp (disch := decide) only [xB_s, xB_n, xS_s, xS_n, mA_s, mA_n]
    refine ⟨k1, k2, k3, k4, k5, ?_⟩
    rw [b_or, bt_bit s (by omega) (by omega)]
    by_cases q : i = s
    · subst q; rw [upd_s]; simp
    · rw [upd_n _ _ q, k6]; simp [q]
theorem SR_doubt {z d : Nat} {x : GX} {m : GM} (h : SR z x m) (hd : d ≤ 99) : SR z (sS x z 2 (nI d)) (tI m 2 (nI d)) := by
  obtain ⟨h1, h2, h3, h4, h5, h6, ⟨t, h7, h8, h9⟩, h10, n, h11, h12, h13⟩ := h
  refine ⟨by rw [xS_n _ _ _ (by decide), mI_n _ _ (by decide)]; exact h1, by rw [xS_s, mI_s], by rw [xS_n _ _ _ (by decide), mI_n _ _ (by decide)]; exact h3, by rw [xS_n _ _ _ (by decide), mI_n _ _ (by decide)]; exact h4, h5, ⟨d, hd, mI_s _ _ _⟩, ⟨t, h7, by rw [mI_n _ _ (by decide)]; exact h8, TR_fr h9 rfl rfl rfl rfl⟩, h10, n, h11, by rw [mI_n _ _ (by decide)]; exact h12, ?_⟩
  intro i hi
  obtain ⟨k1, k2, k3, k4, k5, k6⟩ := h13 i hi
  exact ⟨k1, k2, k3, k4, k5, by rw [xS_n _ _ _ (by decide)]; exact k6⟩
theorem SR_night {z : Nat} {x : GX} {m : GM} (v) (h : SR z x m) : SR z (sS x z 3 v) (tI m 1 v) := by
  obtain ⟨h1, h2, h3, h4, h5, h6, ⟨t, h7, h8, h9⟩, h10, n, h11, h12, h13⟩ := h
  refine ⟨by rw [xS_n _ _ _ (by decide), mI_n _ _ (by decide)]; exact h1, by rw [xS_n _ _ _ (by decide), mI_n _ _ (by decide)]; exact h2, by rw [xS_s, mI_s], by rw [xS_n _ _ _ (by decide), mI_n _ _ (by decide)]; exact h4, h5, by rw [mI_n _ _ (by decide)]; exact h6, ⟨t, h7, by rw [mI_n _ _ (by decide)]; exact h8, TR_fr h9 rfl rfl rfl rfl⟩, h10, n, h11, by rw [mI_n _ _ (by decide)]; exact h12, ?_⟩
  intro i hi
  obtain ⟨k1, k2, k3, k4, k5, k6⟩ := h13 i hi
  exact ⟨k1, k2, k3, k4, k5, by rw [xS_n _ _ _ (by decide)]; exact k6⟩
theorem SR_law {z t' : Nat} {x : GX} {m : GM} (h : SR z x m) (ht : t' < 6) (hT : TR x m t') : SR z (sS x z 4 (nI t')) (tI m 5 (nI t')) := by
  obtain ⟨h1, h2, h3, h4, h5, h6, ⟨t, h7, h8, h9⟩, h10, n, h11, h12, h13⟩ := h
  refine ⟨by rw [xS_n _ _ _ (by decide), mI_n _ _ (by decide)]; exact h1, by rw [xS_n _ _ _ (by decide), mI_n _ _ (by decide)]; exact h2, by rw [xS_n _ _ _ (by decide), mI_n _ _ (by decide)]; exact h3, by rw [xS_s, mI_s], h5, by rw [mI_n _ _ (by decide)]; exact h6, ⟨t', ht, mI_s _ _ _, TR_fr hT rfl rfl rfl rfl⟩, h10, n, h11, by rw [mI_n _ _ (by decide)]; exact h12, ?_⟩
  intro i hi
  obtain ⟨k1, k2, k3, k4, k5, k6⟩ := h13 i hi
  exact ⟨k1, k2, k3, k4, k5, by rw [xS_n _ _ _ (by decide)]; exact k6⟩
theorem SR_rocks {z : Nat} {x : GX} {m : GM} (v) (h : SR z x m) : SR z (sR x z v) (tL m 0 v) := by
  obtain ⟨h1, h2, h3, h4, h5, h6, ⟨t, h7, h8, h9⟩, h10, n, h11, h12, h13⟩ := h
  exact ⟨h1, h2, h3, h4, by rw [xR_s, mL_s], h6, ⟨t, h7, h8, TR_fr h9 rfl rfl rfl rfl⟩, h10, n, h11, h12, h13⟩
theorem SR_belief {z c k : Nat} {x : GX} {m : GM} (h : SR z x m) (hk : k ≤ 99) : SR z (sB x z 0 c (nI k)) (tA m 5 c (nI k)) := by
  obtain ⟨h1, h2, h3, h4, h5, h6, ⟨t, h7, h8, h9⟩, h10, n, h11, h12, h13⟩ := h
  refine ⟨h1, h2, h3, h4, h5, h6, ⟨t, h7, h8, TR_fr h9 rfl rfl (mA_n _ _ _ (by decide)) (mA_n _ _ _ (by decide))⟩, ?_, n, h11, h12, ?_⟩
  · intro i hi
    rw [xB_s, mA_s]
    by_cases q : i = c
    · subst q; rw [upd_s, upd_s]; exact ⟨rfl, k, hk, rfl⟩
    · rw [upd_n _ _ q, upd_n _ _ q]; exact h10 i hi
  · intro i hi
    unfold ShR
    simp (disch := decide) only [xB_s, xB_n, xS_s, xS_n, mA_s, mA_n]
    exact h13 i hi
theorem SR_kind {z s : Nat} {x : GX} {m : GM} (v : Int32) (h : SR z x m) : SR z (sB x z 1 s v) (tA m 0 s v) := by
  obtain ⟨h1, h2, h3, h4, h5, h6, ⟨t, h7, h8, h9⟩, h10, n, h11, h12, h13⟩ := h
  refine ⟨h1, h2, h3, h4, h5, h6, ⟨t, h7, h8, TR_fr h9 rfl rfl (mA_n _ _ _ (by decide)) (mA_n _ _ _ (by decide))⟩, ?_, n, h11, h12, ?_⟩
  · intro i hi
    rw [xB_n _ _ _ _ (by decide), mA_n _ _ _ (by decide)]
    exact h10 i hi
  · intro i hi
    obtain ⟨k1, k2, k3, k4, k5, k6⟩ := h13 i hi
    have key : ∀ (f g : Nat → Int32), f i = g i → upd f s v i = upd g s v i := by
      intro f g hfg
      by_cases q : i = s
      · subst q; rw [upd_s, upd_s]
      · rw [upd_n _ _ q, upd_n _ _ q]; exact hfg
    unfold ShR
    simp (disch := decide) only [xB_s, xB_n, xS_s, xS_n, mA_s, mA_n]
    exact ⟨key _ _ k1, k2, k3, k4, k5, k6⟩
theorem SR_more {z s : Nat} {x : GX} {m : GM} (v : Int32) (h : SR z x m) : SR z (sB x z 2 s v) (tA m 1 s v) := by
  obtain ⟨h1, h2, h3, h4, h5, h6, ⟨t, h7, h8, h9⟩, h10, n, h11, h12, h13⟩ := h
  refine ⟨h1, h2, h3, h4, h5, h6, ⟨t, h7, h8, TR_fr h9 rfl rfl (mA_n _ _ _ (by decide)) (mA_n _ _ _ (by decide))⟩, ?_, n, h11, h12, ?_⟩
  · intro i hi
    rw [xB_n _ _ _ _ (by decide), mA_n _ _ _ (by decide)]
    exact h10 i hi
  · intro i hi
    obtain ⟨k1, k2, k3, k4, k5, k6⟩ := h13 i hi
    have key : ∀ (f g : Nat → Int32), f i = g i → upd f s v i = upd g s v i := by
      intro f g hfg
      by_cases q : i = s
      · subst q; rw [upd_s, upd_s]
      · rw [upd_n _ _ q, upd_n _ _ q]; exact hfg
    unfold ShR
    simp (disch := decide) only [xB_s, xB_n, xS_s, xS_n, mA_s, mA_n]
    exact ⟨k1, key _ _ k2, k3, k4, k5, k6⟩
theorem SR_draught {z s : Nat} {x : GX} {m : GM} (v : Int32) (h : SR z x m) : SR z (sB x z 4 s v) (tA m 3 s v) := by
  obtain ⟨h1, h2, h3, h4, h5, h6, ⟨t, h7, h8, h9⟩, h10, n, h11, h12, h13⟩ := h
  refine ⟨h1, h2, h3, h4, h5, h6, ⟨t, h7, h8, TR_fr h9 rfl rfl (mA_n _ _ _ (by decide)) (mA_n _ _ _ (by decide))⟩, ?_, n, h11, h12, ?_⟩
  · intro i hi
    rw [xB_n _ _ _ _ (by decide), mA_n _ _ _ (by decide)]
    exact h10 i hi
  · intro i hi
    obtain ⟨k1, k2, k3, k4, k5, k6⟩ := h13 i hi
    have key : ∀ (f g : Nat → Int32), f i = g i → upd f s v i = upd g s v i := by
      intro f g hfg
      by_cases q : i = s
      · subst q; rw [upd_s, upd_s]
      · rw [upd_n _ _ q, upd_n _ _ q]; exact hfg
    unfold ShR
    simp (disch := decide) only [xB_s, xB_n, xS_s, xS_n, mA_s, mA_n]
    exact ⟨k1, k2, k3, key _ _ k4, k5, k6⟩
