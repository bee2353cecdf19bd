/-! ===== tokens: both read the same ===== -/
def run (P : Nat → Bool) (g : Nat → Nat) (sz : Nat) : Nat → Nat → Nat
  | 0, p => p
  | n + 1, p => if p < sz ∧ P (g p) = true then run P g sz n (p + 1) else p
def rn (P : Nat → Bool) (g : Nat → Nat) (sz p : Nat) : Nat := run P g sz (sz - p) p
theorem rn_go {P : Nat → Bool} {g : Nat → Nat} {sz p : Nat} (h : p < sz) (hP : P (g p) = true) : rn P g sz p = rn P g sz (p + 1) := by
  unfold rn
  rw [show sz - p = (sz - (p + 1)) + 1 by omega]
  show (if p < sz ∧ P (g p) = true then run P g sz (sz - (p + 1)) (p + 1) else p) = _
  rw [if_pos ⟨h, hP⟩]
theorem rn_no {P : Nat → Bool} {g : Nat → Nat} {sz p : Nat} (hP : P (g p) = false) : rn P g sz p = p := by
  unfold rn
  generalize sz - p = n
  cases n with
  | zero => rfl
  | succ n =>
    show (if p < sz ∧ P (g p) = true then run P g sz n (p + 1) else p) = _
    rw [if_neg (fun q => by rw [hP] at q; exact absurd q.2 (by decide))]
theorem rn_end {P : Nat → Bool} {g : Nat → Nat} {sz p : Nat} (h : sz ≤ p) : rn P g sz p = p := by
  unfold rn
  rw [show sz - p = 0 by omega]
  rfl
theorem rn_rng {P : Nat → Bool} {g : Nat → Nat} {sz : Nat} : ∀ (k p : Nat), p + k = sz → p ≤ rn P g sz p ∧ rn P g sz p ≤ sz ∧ (∀ i, p ≤ i → i < rn P g sz p → P (g i) = true) ∧ (rn P g sz p < sz → P (g (rn P g sz p)) = false) := by
  intro k
  induction k with
  | zero =>
    intro p hp
    rw [rn_end (by omega)]
    exact ⟨by omega, by omega, fun i a b => by omega, fun q => by omega⟩
  | succ k ih =>
    intro p hp
    by_cases q : P (g p) = true
    · rw [rn_go (by omega) q]
      obtain ⟨a1, a2, a3, a4⟩ := ih (p + 1) (by omega)
      refine ⟨by omega, a2, fun i h1 h2 => ?_, a4⟩
      by_cases e : i = p
      · subst e; exact q
      · exact a3 i (by omega) h2
    · have q' : P (g p) = false := by simpa using q
      rw [rn_no q']
      exact ⟨by omega, by omega, fun i a b => by omega, fun _ => q'⟩
def blk (b : Nat) : Bool := b == 32 || b == 10
def lett (b : Nat) : Bool := decide (97 ≤ b) && decide (b ≤ 122)
def digt (b : Nat) : Bool := decide (48 ≤ b) && decide (b ≤ 57)
def wds : List (List Nat) := [[115, 104, 105, 110, 101, 115], [102, 97, 100, 101, 115], [102, 101, 97, 114, 115], [98, 101, 108, 105, 101, 102], [99, 111, 108, 117, 109, 110], [114, 111, 119], [110, 105, 103, 104, 116], [100, 111, 117, 98, 116], [100, 114, 97, 117, 103, 104, 116], [111, 114], [97, 110, 100], [110, 111, 116]]
def wd (k : Nat) : List Nat := wds.getD k []
def cX (k : Nat) : Int32 := [(-19 : Int32), -20, -21, -1, -2, -3, -4, -5, -6, -7, -8, -14].getD k (-23)
def chr (g : Nat → Nat) (a e i : Nat) : Nat := if a + i < e then g (a + i) else 32
def mtB (g : Nat → Nat) (a e k : Nat) : Bool := decide (e - a ≤ 8) && (List.range 8).all (fun i => (wd k).getD i 32 == chr g a e i)
abbrev mt (g : Nat → Nat) (a e k : Nat) : Prop := mtB g a e k = true
theorem mt_d (g : Nat → Nat) (a e k : Nat) : mt g a e k ↔ (e - a ≤ 8 ∧ ∀ i, i < 8 → (wd k).getD i 32 = chr g a e i) := by
  show mtB g a e k = true ↔ _
  unfold mtB
  simp only [Bool.and_eq_true, decide_eq_true_iff, List.all_eq_true, List.mem_range, beq_iff_eq]
def fkx (g : Nat → Nat) (a e : Nat) : Nat → Nat → Nat
  | 0, k => k
  | n + 1, k => if mt g a e k then k else fkx g a e n (k + 1)
def fk (g : Nat → Nat) (a e : Nat) : Nat := fkx g a e 12 0
def nv (g : Nat → Nat) (a : Nat) : Nat → Nat
  | 0 => 0
  | n + 1 => 10 * nv g a n + (g (a + n) - 48)
def sg (b : Nat) : Int32 := if b = 40 then -16 else if b = 41 then -17 else if b = 42 then -13 else if b = 43 then -11 else if b = 45 then -12 else if b = 59 then -18 else if b = 60 then -9 else if b = 61 then -10 else -23
def pl (g : Nat → Nat) (sz p : Nat) : Nat := rn blk g sz p
def nx (g : Nat → Nat) (sz p : Nat) : Nat := if pl g sz p < sz then (if lett (g (pl g sz p)) = true then rn lett g sz (pl g sz p) else if digt (g (pl g sz p)) = true then rn digt g sz (pl g sz p) else pl g sz p + 1) else pl g sz p
def tk (g : Nat → Nat) (sz p : Nat) : Int32 := if pl g sz p < sz then (if lett (g (pl g sz p)) = true then cX (fk g (pl g sz p) (rn lett g sz (pl g sz p))) else if digt (g (pl g sz p)) = true then (if rn digt g sz (pl g sz p) - pl g sz p ≤ 4 then nI (nv g (pl g sz p) (rn digt g sz (pl g sz p) - pl g sz p)) else -23) else sg (g (pl g sz p))) else -22
theorem pl_rng (g : Nat → Nat) {sz p : Nat} (h : p ≤ sz) : p ≤ pl g sz p ∧ pl g sz p ≤ sz := by
  obtain ⟨a, b, _⟩ := rn_rng (P := blk) (g := g) (sz := sz) (sz - p) p (by omega)
  exact ⟨a, b⟩
theorem nx_rng (g : Nat → Nat) {sz p : Nat} (h : p ≤ sz) : pl g sz p ≤ nx g sz p ∧ nx g sz p ≤ sz ∧ (tk g sz p ≠ -22 → p < nx g sz p) := by
  obtain ⟨a1, a2⟩ := pl_rng g h
  unfold nx tk
  by_cases q : pl g sz p < sz
  · rw [if_pos q, if_pos q]
    by_cases q1 : lett (g (pl g sz p)) = true
    · rw [if_pos q1, if_pos q1, rn_go q q1]
      obtain ⟨b1, b2, _⟩ := rn_rng (P := lett) (g := g) (sz := sz) (sz - (pl g sz p + 1)) (pl g sz p + 1) (by omega)
      exact ⟨by omega, b2, fun _ => by omega⟩
    · rw [if_neg q1, if_neg q1]
      by_cases q2 : digt (g (pl g sz p)) = true
      · rw [if_pos q2, if_pos q2, rn_go q q2]
        obtain ⟨b1, b2, _⟩ := rn_rng (P := digt) (g := g) (sz := sz) (sz - (pl g sz p + 1)) (pl g sz p + 1) (by omega)
        exact ⟨by omega, b2, fun _ => by omega⟩
      · rw [if_neg q2, if_neg q2]
        exact ⟨by omega, by omega, fun _ => by omega⟩
  · rw [if_neg q, if_neg q]
    exact ⟨Nat.le_refl _, by omega, fun r => absurd rfl r⟩
/-- the tape as both hold it -/
def TX (g : Nat → Nat) (sz : Nat) (x : GX) : Prop := sz ≤ 160 ∧ xI x 3 = nI sz ∧ xY x = some () ∧ ∀ i, i < sz → xP x i = nI (g i) ∧ g i < 256
def TM (g : Nat → Nat) (sz : Nat) (m : GM) : Prop := sz ≤ 160 ∧ mI m 3 = nI sz ∧ WDR m ∧ ∀ i, i < sz → mA m 6 i = nI (g i) ∧ g i < 256
/-- what reading a token leaves -/
def AX (x x' : GX) : Prop := (∀ i, i ≠ 4 → i ≠ 5 → i ≠ 6 → xI x' i = xI x i) ∧ xS x' = xS x ∧ xR x' = xR x ∧ xB x' = xB x ∧ xT x' = xT x ∧ xU x' = xU x ∧ xH x' = xH x ∧ xN x' = xN x ∧ xP x' = xP x ∧ xV x' = xV x ∧ xY x' = xY x
def AM (m m' : GM) : Prop := (∀ i, i ≠ 7 → i ≠ 8 → i ≠ 9 → i ≠ 10 → mI m' i = mI m i) ∧ mL m' = mL m ∧ mA m' = mA m
theorem AX_refl (x : GX) : AX x x := ⟨fun _ _ _ _ => rfl, rfl, rfl, rfl, rfl, rfl, rfl, rfl, rfl, rfl, rfl⟩
theorem AX_trans {a b c : GX} (h : AX a b) (k : AX b c) : AX a c := by
  obtain ⟨h1, h2, h3, h4, h5, h6, h7, h8, h9, h10, h11⟩ := h
  obtain ⟨k1, k2, k3, k4, k5, k6, k7, k8, k9, k10, k11⟩ := k
  exact ⟨fun i p q r => (k1 i p q r).trans (h1 i p q r), k2.trans h2, k3.trans h3, k4.trans h4, k5.trans h5, k6.trans h6, k7.trans h7, k8.trans h8, k9.trans h9, k10.trans h10, k11.trans h11⟩
theorem AM_refl (m : GM) : AM m m := ⟨fun _ _ _ _ _ => rfl, rfl, rfl⟩
theorem AM_trans {a b c : GM} (h : AM a b) (k : AM b c) : AM a c := ⟨fun i p q r s => (k.1 i p q r s).trans (h.1 i p q r s), k.2.1.trans h.2.1, k.2.2.trans h.2.2⟩
theorem AX_sI (x : GX) (k : Nat) (v) (h : k = 4 ∨ k = 5 ∨ k = 6) : AX x (sI x k v) := ⟨fun i p q r => xI_n _ _ (by omega), rfl, rfl, rfl, rfl, rfl, rfl, rfl, rfl, rfl, rfl⟩
theorem AM_tI (m : GM) (k : Nat) (v) (h : k = 7 ∨ k = 8 ∨ k = 9 ∨ k = 10) : AM m (tI m k v) := ⟨fun i p q r s => mI_n _ _ (by omega), rfl, rfl⟩
theorem TX_AX {g : Nat → Nat} {sz : Nat} {x x' : GX} (h : TX g sz x) (a : AX x x') : TX g sz x' := by
  obtain ⟨h1, h2, h3, h4⟩ := h
  obtain ⟨a1, _, _, _, _, _, _, _, a9, _, a11⟩ := a
  exact ⟨h1, (a1 3 (by decide) (by decide) (by decide)).trans h2, a11.trans h3, by rw [a9]; exact h4⟩
theorem TM_AM {g : Nat → Nat} {sz : Nat} {m m' : GM} (h : TM g sz m) (a : AM m m') : TM g sz m' := by
  obtain ⟨h1, h2, h3, h4⟩ := h
  obtain ⟨a1, a2, a3⟩ := a
  refine ⟨h1, (a1 3 (by decide) (by decide) (by decide) (by decide)).trans h2, ?_, by rw [a3]; exact h4⟩
  unfold WDR
  rw [a3]; exact h3
/-! ===== the class's letters, digits, words, signs ===== -/
def inb (b lo hi : Nat) : Int32 := if lo ≤ b ∧ b ≤ hi then 1 else 0
theorem wi_inb (b lo hi : Nat) (hb : b < 2 ^ 31) (hl : lo < 2 ^ 31) (hh : hi < 2 ^ 31) : wi (nI b) (nI lo) (nI hi) = inb b lo hi := by
  unfold wi inb
  by_cases h1 : b < lo
  · rw [if_pos (nI_lt h1 hl), if_neg (by omega)]
  · rw [if_neg (nI_nlt (by omega) hb)]
    by_cases h2 : hi < b
    · rw [if_pos (nI_lt h2 hb), if_neg (by omega)]
    · rw [if_neg (nI_nlt (by omega) hh), if_pos (by omega)]
theorem isLetter_X (b : Nat) (hb : b < 256) (x : GX) : f_X1_isLetter (nI b) x = some ((if lett b = true then 1 else 0), x) := by
  have e : f_X1_isLetter (nI b) x = some (wi (nI b) 97 122, x) := by
    unfold f_X1_isLetter wi
    split
    · rfl
    · split <;> rfl
  rw [e, show wi (nI b) 97 122 = _ from wi_inb b 97 122 (by omega) (by decide) (by decide)]
  unfold inb lett
  by_cases q : 97 ≤ b ∧ b ≤ 122
  · rw [if_pos q, if_pos (by simp [q.1, q.2])]
  · rw [if_neg q, if_neg (by simpa using q)]
theorem isDigit_X (b : Nat) (hb : b < 256) (x : GX) : f_X1_isDigit (nI b) x = some ((if digt b = true then 1 else 0), x) := by
  have e : f_X1_isDigit (nI b) x = some (wi (nI b) 48 57, x) := by
    unfold f_X1_isDigit wi
    split
    · rfl
    · split <;> rfl
  rw [e, show wi (nI b) 48 57 = _ from wi_inb b 48 57 (by omega) (by decide) (by decide)]
  unfold inb digt
  by_cases q : 48 ≤ b ∧ b ≤ 57
  · rw [if_pos q, if_pos (by simp [q.1, q.2])]
  · rw [if_neg q, if_neg (by simpa using q)]
theorem in_lett (b : Nat) (hb : b < 256) (m : GM) : f_X5_in (nI b) 97 122 m = some ((if lett b = true then 1 else 0), m) := by
  rw [in_M, show wi (nI b) 97 122 = _ from wi_inb b 97 122 (by omega) (by decide) (by decide)]
  unfold inb lett
  by_cases q : 97 ≤ b ∧ b ≤ 122
  · rw [if_pos q, if_pos (by simp [q.1, q.2])]
  · rw [if_neg q, if_neg (by simpa using q)]
theorem in_digt (b : Nat) (hb : b < 256) (m : GM) : f_X5_in (nI b) 48 57 m = some ((if digt b = true then 1 else 0), m) := by
  rw [in_M, show wi (nI b) 48 57 = _ from wi_inb b 48 57 (by omega) (by decide) (by decide)]
  unfold inb digt
  by_cases q : 48 ≤ b ∧ b ≤ 57
  · rw [if_pos q, if_pos (by simp [q.1, q.2])]
  · rw [if_neg q, if_neg (by simpa using q)]
def sgI (x0 : Int32) : Int32 := if x0 = (40 : Int32) then -16 else (if x0 = (41 : Int32) then -17 else (if x0 = (42 : Int32) then -13 else (if x0 = (43 : Int32) then -11 else (if x0 = (44 : Int32) then -23 else (if x0 = (45 : Int32) then -12 else (if x0 = (46 : Int32) then -23 else (if x0 = (47 : Int32) then -23 else (if x0 = (48 : Int32) then -23 else (if x0 = (49 : Int32) then -23 else (if x0 = (50 : Int32) then -23 else (if x0 = (51 : Int32) then -23 else (if x0 = (52 : Int32) then -23 else (if x0 = (53 : Int32) then -23 else (if x0 = (54 : Int32) then -23 else (if x0 = (55 : Int32) then -23 else (if x0 = (56 : Int32) then -23 else (if x0 = (57 : Int32) then -23 else (if x0 = (58 : Int32) then -23 else (if x0 = (59 : Int32) then -18 else (if x0 = (60 : Int32) then -9 else (if x0 = (61 : Int32) then -10 else -23)))))))))))))))))))))
theorem sgI_b : ∀ b, b < 256 → sgI (nI b) = sg b := by decide +kernel
theorem ite_p {c : Prop} [Decidable c] {α : Type} {a : Int32} {r : Option (Int32 × GX)} {s : Int32} {x : GX} (h : r = some (s, x)) : (if c then (some (a, x)) else r) = some ((if c then a else s), x) := by
  rw [h]
  split <;> rfl
theorem signOf_X (v : Int32) (x : GX) : f_X1_signOf v x = some (sgI v, x) := by
  unfold f_X1_signOf sgI
  exact ite_p (α := Nat) (ite_p (α := Nat) (ite_p (α := Nat) (ite_p (α := Nat) (ite_p (α := Nat) (ite_p (α := Nat) (ite_p (α := Nat) (ite_p (α := Nat) (ite_p (α := Nat) (ite_p (α := Nat) (ite_p (α := Nat) (ite_p (α := Nat) (ite_p (α := Nat) (ite_p (α := Nat) (ite_p (α := Nat) (ite_p (α := Nat) (ite_p (α := Nat) (ite_p (α := Nat) (ite_p (α := Nat) (ite_p (α := Nat) (ite_p (α := Nat) (ite_p (α := Nat) rfl)))))))))))))))))))))
theorem lat_X (w : Nat) (x : GX) : f_J0_isLatin1_aae02 w x = some (1, x) := rfl
def bW (w i : Nat) : Int32 := (bytJS.getD w []).getD i 0
theorem chars : ∀ w, w < 13 → ∀ i, i < lenJS.getD w 0 → i < 100 ∧ lenJS.getD w 0 < 100 ∧ ((((((bW w i) &&& (255 : Int32)).toUInt32 % 65536).toInt32).toUInt32 % 65536).toInt32 = ((((bW w i) &&& (255 : Int32)).toUInt32 % 65536).toInt32)) ∧ ((((bW w i) &&& (255 : Int32)).toUInt32 % 65536).toInt32) = nI (bW w i).toNatClampNeg := by decide +kernel
theorem char_X {w i : Nat} (hw : w < 13) (hi : i < lenJS.getD w 0) (x : GX) : f_J0_charAt_5068e w (nI i) x = some (nI (bW w i).toNatClampNeg, x) := by
  obtain ⟨h1, h2, h3, h4⟩ := chars w hw i hi
  have e1 : f_J0_checkIndex_df160 (nI i) (nI (lenJS.getD w 0)) x = some ((), x) := by
    unfold f_J0_checkIndex_df160 f_J3_checkIndex_8e157
    rw [if_neg (nI_pos (by omega)), if_pos (nI_lt hi (by omega)), bnd_some]
  have e2 : f_J1_charAt_3b067 w (nI i) x = some (nI (bW w i).toNatClampNeg, x) := by
    unfold f_J1_charAt_3b067
    rw [e1, bnd_some, grd_ok _ hi (by omega), nI_clamp (by omega)]
    rw [show (bytJS.getD w []).getD i 0 = bW w i from rfl, if_pos h3, h4]
  unfold f_J0_charAt_5068e
  rw [lat_X, bnd_some, if_neg (show ¬ (1 : Int32) = 0 by decide), e2, bnd_some]
  have h5 : ((nI (bW w i).toNatClampNeg).toUInt32 % 65536).toInt32 = nI (bW w i).toNatClampNeg := by rw [← h4]; exact h3
  rw [if_pos h5]
theorem len_X {w : Nat} (hw : w < 13) (x : GX) : f_J0_length_8abf5 w x = some (nI (lenJS.getD w 0), x) := by
  have h : ∀ w, w < 13 → srI (nI (lenJS.getD w 0)) 0 = nI (lenJS.getD w 0) := by decide +kernel
  unfold f_J0_length_8abf5 f_J0_coder_7d493
  rw [if_neg (show ¬ (1 : Int32) = 0 by decide), bnd_some, h w hw]
/-- the class's words by the numbers of the reference's -/
def wj (k : Nat) : Nat := [10, 11, 12, 1, 2, 3, 4, 5, 6, 7, 8, 9].getD k 0
theorem wj_len : ∀ k, k < 12 → wj k < 13 ∧ lenJS.getD (wj k) 0 = (wd k).length ∧ (wd k).length ≤ 7 ∧ 0 < (wd k).length := by decide +kernel
theorem wj_chr : ∀ k, k < 12 → ∀ i, i < (wd k).length → (bW (wj k) i).toNatClampNeg = (wd k).getD i 32 ∧ (wd k).getD i 32 ≠ 32 ∧ (wd k).getD i 32 < 256 := by decide +kernel
theorem wd_pad : ∀ k, k < 12 → ∀ i, i < 8 → (wd k).length ≤ i → (wd k).getD i 32 = 32 := by decide +kernel
theorem wd_one : ∀ k, k < 12 → ∀ j, j < 12 → (∀ i, i < 8 → (wd k).getD i 32 = (wd j).getD i 32) → k = j := by decide +kernel
theorem mt_one {g : Nat → Nat} {a e k j : Nat} (hk : k < 12) (hj : j < 12) (h1 : mt g a e k) (h2 : mt g a e j) : k = j := wd_one k hk j hj (fun i hi => (((mt_d g a e k).mp h1).2 i hi).trans (((mt_d g a e j).mp h2).2 i hi).symm)
theorem mt_iff {g : Nat → Nat} {a e k : Nat} (hk : k < 12) (hl : ∀ i, a ≤ i → i < e → g i ≠ 32) : mt g a e k ↔ (e - a = (wd k).length ∧ ∀ i, i < (wd k).length → g (a + i) = (wd k).getD i 32) := by
  obtain ⟨_, _, h7, h0⟩ := wj_len k hk
  rw [mt_d]
  constructor
  · intro ⟨h8, hm⟩
    have hlen : e - a = (wd k).length := by
      rcases Nat.lt_trichotomy (e - a) (wd k).length with q | q | q
      · have h1 := hm (e - a) (by omega)
        unfold chr at h1
        rw [if_neg (by omega)] at h1
        exact absurd h1 (wj_chr k hk _ q).2.1
      · exact q
      · have h1 := hm (wd k).length (by omega)
        rw [wd_pad k hk _ (by omega) (Nat.le_refl _)] at h1
        unfold chr at h1
        rw [if_pos (by omega)] at h1
        exact absurd h1.symm (hl _ (by omega) (by omega))
    refine ⟨hlen, fun i hi => ?_⟩
    have h1 := hm i (by omega)
    unfold chr at h1
    rw [if_pos (by omega)] at h1
    exact h1.symm
  · intro ⟨hlen, hm⟩
    refine ⟨by omega, fun i hi => ?_⟩
    unfold chr
    by_cases q : i < (wd k).length
    · rw [if_pos (by omega)]; exact (hm i q).symm
    · rw [if_neg (by omega)]; exact wd_pad k hk i hi (by omega)
theorem spell_loop {g : Nat → Nat} {sz a e k : Nat} {x : GX} (hk : k < 12) (hT : TX g sz x) (ha : xI x 6 = nI a) (he : a + (wd k).length ≤ sz) :
    ∀ (j i F : Nat), i + j = (wd k).length → j < F → ∃ r : Int32, k_X1_spells_20 (wj k) F (nI i) x = some (r, x) ∧ (r = 0 ∨ r = 1) ∧ (r = 1 ↔ ∀ i', i ≤ i' → i' < (wd k).length → g (a + i') = (wd k).getD i' 32) := by
  obtain ⟨w13, wl, h7, h0⟩ := wj_len k hk
  obtain ⟨t1, t2, t3, t4⟩ := hT
  intro j
  induction j with
  | zero =>
    intro i F hi hF
    obtain ⟨F, rfl⟩ : ∃ k, F = k + 1 := ⟨F - 1, by omega⟩
    refine ⟨1, ?_, Or.inr rfl, ⟨fun _ i' h1 h2 => by omega, fun _ => rfl⟩⟩
    show b_X1_spells_20 (wj k) (k_X1_spells_20 (wj k) F) (nI i) x = _
    unfold b_X1_spells_20
    rw [len_X w13, bnd_some, wl, if_pos (nI_le (by omega) (by omega))]
  | succ j ih =>
    intro i F hi hF
    obtain ⟨F, rfl⟩ : ∃ k, F = k + 1 := ⟨F - 1, by omega⟩
    obtain ⟨b1, b2, b3⟩ := wj_chr k hk i (by omega)
    obtain ⟨g1, g2⟩ := t4 (a + i) (by omega)
    have hX : k_X1_spells_20 (wj k) (F + 1) (nI i) x = if g (a + i) = (wd k).getD i 32 then k_X1_spells_20 (wj k) F (nI (i + 1)) x else some (0, x) := by
      show b_X1_spells_20 (wj k) (k_X1_spells_20 (wj k) F) (nI i) x = _
      unfold b_X1_spells_20
      rw [len_X w13, bnd_some, wl, if_neg (nI_ge (by omega) (by omega)), t3]
      show grd _ _ _ = _
      rw [show xI (nI (wd k).length, x).2 6 = nI a from ha, nIs, grd_ok _ (by omega) (by decide), char_X w13 (by rw [wl]; omega), bnd_some, nI_clamp (by omega), b1, show nI i + (1 : Int32) = nI (i + 1) from nI_add i 1]
      show (if xP x (a + i) = nI ((wd k).getD i 32) then _ else _) = _
      rw [g1]
      by_cases q : g (a + i) = (wd k).getD i 32
      · rw [if_pos q, if_pos (by rw [q])]
      · rw [if_neg q, if_neg (ne_lit _ _ (by omega) (by omega) q)]
    by_cases q : g (a + i) = (wd k).getD i 32
    · obtain ⟨r, e1, r1, r2⟩ := ih (i + 1) F (by omega) (by omega)
      refine ⟨r, ?_, r1, ?_⟩
      · rw [hX, if_pos q]; exact e1
      · rw [r2]
        exact ⟨fun h i' h1 h2 => by
          by_cases e : i' = i
          · subst e; exact q
          · exact h i' (by omega) h2, fun h i' h1 h2 => h i' (by omega) h2⟩
    · refine ⟨0, ?_, Or.inl rfl, ⟨fun h => absurd h (by decide), fun h => absurd (h i (Nat.le_refl _) (by omega)) q⟩⟩
      rw [hX, if_neg q]
theorem spell_X {g : Nat → Nat} {sz a e k : Nat} {x : GX} (hk : k < 12) (hT : TX g sz x) (ha : xI x 6 = nI a) (h4 : xI x 4 = nI e) (hae : a ≤ e) (he : e ≤ sz) (hl : ∀ i, a ≤ i → i < e → g i ≠ 32) : f_X1_spells (wj k) x = some ((if mt g a e k then 1 else 0), x) := by
  obtain ⟨w13, wl, h7, h0⟩ := wj_len k hk
  have hsz : sz ≤ 160 := hT.1
  unfold f_X1_spells
  rw [len_X w13, bnd_some, wl]
  show (if nI (wd k).length = xI x 4 - xI x 6 then k_X1_spells_20 (wj k) FU 0 x else some (0, x)) = _
  rw [ha, h4, sub_nI hae]
  by_cases q : (wd k).length = e - a
  · rw [if_pos (by rw [q])]
    obtain ⟨r, e1, r1, r2⟩ := spell_loop hk hT ha (e := e) (by omega) (wd k).length 0 FU (by omega) (by show _ < 1000; omega)
    rw [show k_X1_spells_20 (wj k) FU (0 : Int32) x = _ from e1]
    rcases r1 with rfl | rfl
    · rw [if_neg]
      intro hm
      have := r2.mpr (fun i' _ h2 => ((mt_iff hk hl).mp hm).2 i' h2)
      exact absurd this (by decide)
    · rw [if_pos]
      exact (mt_iff hk hl).mpr ⟨q.symm, fun i hi => r2.mp rfl i (Nat.zero_le _) hi⟩
  · rw [if_neg (ne_lit _ _ (by omega) (by omega) q), if_neg]
    intro hm
    exact q ((mt_iff hk hl).mp hm).1.symm
theorem fk_none {g : Nat → Nat} {a e : Nat} (h : ∀ k, k < 12 → ¬ mt g a e k) : fk g a e = 12 := by
  unfold fk
  have : ∀ (n k : Nat), k + n = 12 → fkx g a e n k = 12 := by
    intro n
    induction n with
    | zero => intro k hk; show k = 12; omega
    | succ n ih =>
      intro k hk
      show (if mt g a e k then k else fkx g a e n (k + 1)) = 12
      rw [if_neg (h k (by omega))]
      exact ih (k + 1) (by omega)
  exact this 12 0 rfl
theorem fk_some {g : Nat → Nat} {a e j : Nat} (hj : j < 12) (h : mt g a e j) : fk g a e = j := by
  unfold fk
  have : ∀ (n k : Nat), k + n = 12 → k ≤ j → fkx g a e n k = j := by
    intro n
    induction n with
    | zero => intro k hk hkj; omega
    | succ n ih =>
      intro k hk hkj
      show (if mt g a e k then k else fkx g a e n (k + 1)) = j
      by_cases q : mt g a e k
      · rw [if_pos q]; exact mt_one (by omega) hj q h
      · rw [if_neg q]
        refine ih (k + 1) (by omega) ?_
        rcases Nat.lt_or_ge k j with r | r
        · omega
        · have : k = j := by omega
          subst this; exact absurd h q
  exact this 12 0 rfl (Nat.zero_le _)
theorem word_end {g : Nat → Nat} {sz a e : Nat} {x : GX} (hT : TX g sz x) (ha : xI x 6 = nI a) (h4 : xI x 4 = nI e) (hae : a ≤ e) (he : e ≤ sz) (hl : ∀ i, a ≤ i → i < e → g i ≠ 32) : b_X1_word_39 x = some (cX (fk g a e), x) := by
  have S : ∀ k, k < 12 → f_X1_spells (wj k) x = some ((if mt g a e k then 1 else 0), x) := fun k hk => spell_X hk hT ha h4 hae he hl
  have S0 : f_X1_spells 10 x = _ := S 0 (by decide)
  have S1 : f_X1_spells 11 x = _ := S 1 (by decide)
  have S2 : f_X1_spells 12 x = _ := S 2 (by decide)
  have S3 : f_X1_spells 1 x = _ := S 3 (by decide)
  have S4 : f_X1_spells 2 x = _ := S 4 (by decide)
  have S5 : f_X1_spells 3 x = _ := S 5 (by decide)
  have S6 : f_X1_spells 4 x = _ := S 6 (by decide)
  have S7 : f_X1_spells 5 x = _ := S 7 (by decide)
  have S8 : f_X1_spells 6 x = _ := S 8 (by decide)
  have S9 : f_X1_spells 7 x = _ := S 9 (by decide)
  have S10 : f_X1_spells 8 x = _ := S 10 (by decide)
  have S11 : f_X1_spells 9 x = _ := S 11 (by decide)
  unfold b_X1_word_39
  simp only [S0, S1, S2, S3, S4, S5, S6, S7, S8, S9, S10, S11, bnd_some]
  by_cases q : ∃ j, j < 12 ∧ mt g a e j
  · obtain ⟨j, hj, hm⟩ := q
    rw [fk_some hj hm]
    have no : ∀ k, k < 12 → k ≠ j → ¬ mt g a e k := fun k hk hkj h => hkj (mt_one hk hj h hm)
    match j, hj with
    | 0, _ => simp only [if_neg (no 3 (by decide) (by decide)), if_neg (no 4 (by decide) (by decide)), if_neg (no 5 (by decide) (by decide)), if_neg (no 6 (by decide) (by decide)), if_neg (no 7 (by decide) (by decide)), if_neg (no 8 (by decide) (by decide)), if_neg (no 9 (by decide) (by decide)), if_neg (no 10 (by decide) (by decide)), if_neg (no 11 (by decide) (by decide)), if_pos hm, ifs, if_true, if_false]; rfl
    | 1, _ => simp only [if_neg (no 3 (by decide) (by decide)), if_neg (no 4 (by decide) (by decide)), if_neg (no 5 (by decide) (by decide)), if_neg (no 6 (by decide) (by decide)), if_neg (no 7 (by decide) (by decide)), if_neg (no 8 (by decide) (by decide)), if_neg (no 9 (by decide) (by decide)), if_neg (no 10 (by decide) (by decide)), if_neg (no 11 (by decide) (by decide)), if_neg (no 0 (by decide) (by decide)), if_pos hm, ifs, if_true, if_false]; rfl
    | 2, _ => simp only [if_neg (no 3 (by decide) (by decide)), if_neg (no 4 (by decide) (by decide)), if_neg (no 5 (by decide) (by decide)), if_neg (no 6 (by decide) (by decide)), if_neg (no 7 (by decide) (by decide)), if_neg (no 8 (by decide) (by decide)), if_neg (no 9 (by decide) (by decide)), if_neg (no 10 (by decide) (by decide)), if_neg (no 11 (by decide) (by decide)), if_neg (no 0 (by decide) (by decide)), if_neg (no 1 (by decide) (by decide)), if_pos hm, ifs, if_true, if_false]; rfl
    | 3, _ => simp only [if_pos hm, ifs, if_true, if_false]; rfl
    | 4, _ => simp only [if_neg (no 3 (by decide) (by decide)), if_pos hm, ifs, if_true, if_false]; rfl
    | 5, _ => simp only [if_neg (no 3 (by decide) (by decide)), if_neg (no 4 (by decide) (by decide)), if_pos hm, ifs, if_true, if_false]; rfl
    | 6, _ => simp only [if_neg (no 3 (by decide) (by decide)), if_neg (no 4 (by decide) (by decide)), if_neg (no 5 (by decide) (by decide)), if_pos hm, ifs, if_true, if_false]; rfl
    | 7, _ => simp only [if_neg (no 3 (by decide) (by decide)), if_neg (no 4 (by decide) (by decide)), if_neg (no 5 (by decide) (by decide)), if_neg (no 6 (by decide) (by decide)), if_pos hm, ifs, if_true, if_false]; rfl
    | 8, _ => simp only [if_neg (no 3 (by decide) (by decide)), if_neg (no 4 (by decide) (by decide)), if_neg (no 5 (by decide) (by decide)), if_neg (no 6 (by decide) (by decide)), if_neg (no 7 (by decide) (by decide)), if_pos hm, ifs, if_true, if_false]; rfl
    | 9, _ => simp only [if_neg (no 3 (by decide) (by decide)), if_neg (no 4 (by decide) (by decide)), if_neg (no 5 (by decide) (by decide)), if_neg (no 6 (by decide) (by decide)), if_neg (no 7 (by decide) (by decide)), if_neg (no 8 (by decide) (by decide)), if_pos hm, ifs, if_true, if_false]; rfl
    | 10, _ => simp only [if_neg (no 3 (by decide) (by decide)), if_neg (no 4 (by decide) (by decide)), if_neg (no 5 (by decide) (by decide)), if_neg (no 6 (by decide) (by decide)), if_neg (no 7 (by decide) (by decide)), if_neg (no 8 (by decide) (by decide)), if_neg (no 9 (by decide) (by decide)), if_pos hm, ifs, if_true, if_false]; rfl
    | 11, _ => simp only [if_neg (no 3 (by decide) (by decide)), if_neg (no 4 (by decide) (by decide)), if_neg (no 5 (by decide) (by decide)), if_neg (no 6 (by decide) (by decide)), if_neg (no 7 (by decide) (by decide)), if_neg (no 8 (by decide) (by decide)), if_neg (no 9 (by decide) (by decide)), if_neg (no 10 (by decide) (by decide)), if_pos hm, ifs, if_true, if_false]; rfl
  · have no : ∀ k, k < 12 → ¬ mt g a e k := fun k hk h => q ⟨k, hk, h⟩
    rw [fk_none no]
    simp only [if_neg (no 0 (by decide)), if_neg (no 1 (by decide)), if_neg (no 2 (by decide)), if_neg (no 3 (by decide)), if_neg (no 4 (by decide)), if_neg (no 5 (by decide)), if_neg (no 6 (by decide)), if_neg (no 7 (by decide)), if_neg (no 8 (by decide)), if_neg (no 9 (by decide)), if_neg (no 10 (by decide)), if_neg (no 11 (by decide)), ifs, if_true]
    rfl
theorem lett_32 {b : Nat} (h : lett b = true) : b ≠ 32 := by
  intro q; subst q; exact absurd h (by decide)
theorem word_loop {g : Nat → Nat} {sz a : Nat} : ∀ (k e F : Nat) (x : GX), e + k = sz → k < F → TX g sz x → xI x 6 = nI a → xI x 4 = nI e → a ≤ e → (∀ i, a ≤ i → i < e → lett (g i) = true) → ∃ x', k_X1_word_0 F x = some (cX (fk g a (rn lett g sz e)), x') ∧ AX x x' ∧ xI x' 4 = nI (rn lett g sz e) ∧ xI x' 6 = nI a := by
  intro k
  induction k with
  | zero =>
    intro e F x hk hF hT ha h4 hae hl
    obtain ⟨F, rfl⟩ : ∃ k, F = k + 1 := ⟨F - 1, by omega⟩
    have hsz := hT.1
    have h3 := hT.2.1
    rw [rn_end (show sz ≤ e by omega)]
    refine ⟨x, ?_, AX_refl x, h4, ha⟩
    show b_X1_word_0 (k_X1_word_0 F) x = _
    unfold b_X1_word_0
    rw [h3, h4, if_pos (nI_le (by omega) (by omega))]
    exact word_end hT ha h4 hae (by omega) (fun i h1 h2 => lett_32 (hl i h1 h2))
  | succ k ih =>
    intro e F x hk hF hT ha h4 hae hl
    obtain ⟨F, rfl⟩ : ∃ k, F = k + 1 := ⟨F - 1, by omega⟩
    have hsz := hT.1
    have h3 := hT.2.1
    obtain ⟨g1, g2⟩ := hT.2.2.2 e (by omega)
    have hX : k_X1_word_0 (F + 1) x = if lett (g e) = true then k_X1_word_0 F (sI x 4 (nI (e + 1))) else b_X1_word_39 x := by
      show b_X1_word_0 (k_X1_word_0 F) x = _
      unfold b_X1_word_0
      rw [h3, h4, if_neg (nI_ge (by omega) (by omega)), hT.2.2.1]
      show grd _ _ _ = _
      rw [grd_ok _ (by omega) (by decide), nI_clamp (by omega), g1, isLetter_X _ g2, bnd_some]
      by_cases q : lett (g e) = true
      · simp only [if_pos q, ifs, if_false, bnd_some, h4, show nI e + (1 : Int32) = nI (e + 1) from nI_add e 1]
      · simp only [if_neg q, ifs, if_true]
    by_cases q : lett (g e) = true
    · obtain ⟨x', e1, a1, a2, a3⟩ := ih (e + 1) F (sI x 4 (nI (e + 1))) (by omega) (by omega) (TX_AX hT (AX_sI x 4 _ (by decide))) ((xI_n _ _ (by decide)).trans ha) (xI_s _ _ _) (by omega) (fun i h1 h2 => by
        by_cases r : i = e
        · subst r; exact q
        · exact hl i h1 (by omega))
      rw [rn_go (by omega) q]
      exact ⟨x', by rw [hX, if_pos q]; exact e1, AX_trans (AX_sI x 4 _ (by decide)) a1, a2, a3⟩
    · rw [rn_no (show lett (g e) = false by simpa using q)]
      refine ⟨x, ?_, AX_refl x, h4, ha⟩
      rw [hX, if_neg q]
      exact word_end hT ha h4 hae (by omega) (fun i h1 h2 => lett_32 (hl i h1 h2))
theorem nv_lt (g : Nat → Nat) (a : Nat) : ∀ n, (∀ i, i < n → digt (g (a + i)) = true) → nv g a n < 10 ^ n
  | 0, _ => by show 0 < 1; decide
  | n + 1, h => by
    have h1 := nv_lt g a n (fun i hi => h i (by omega))
    have h2 := h n (by omega)
    unfold digt at h2
    simp at h2
    show 10 * nv g a n + (g (a + n) - 48) < 10 ^ (n + 1)
    rw [Nat.pow_succ]
    omega
theorem dig_val {b : Nat} (h : digt b = true) (hb : b < 256) : nI b - (48 : Int32) = nI (b - 48) := by
  unfold digt at h
  simp at h
  exact sub_nI (b := 48) h.1
theorem num_loop {g : Nat → Nat} {sz a : Nat} : ∀ (k e F : Nat) (v : Int32) (x : GX), e + k = sz → k < F → TX g sz x → xI x 6 = nI a → xI x 4 = nI e → a ≤ e → (∀ i, i < e - a → digt (g (a + i)) = true) → (e - a ≤ 4 → v = nI (nv g a (e - a))) → ∃ x', k_X1_number_2 F v x = some ((if rn digt g sz e - a ≤ 4 then nI (nv g a (rn digt g sz e - a)) else -23), x') ∧ AX x x' ∧ xI x' 4 = nI (rn digt g sz e) ∧ xI x' 6 = nI a := by
  have fin : ∀ (e : Nat) (v : Int32) (x : GX), e ≤ sz → TX g sz x → xI x 6 = nI a → xI x 4 = nI e → a ≤ e → (e - a ≤ 4 → v = nI (nv g a (e - a))) → b_X1_number_59 v x = some ((if e - a ≤ 4 then nI (nv g a (e - a)) else -23), x) := by
    intro e v x he hT ha h4 hae hv
    have hsz := hT.1
    unfold b_X1_number_59
    rw [ha, h4, sub_nI hae]
    by_cases q : e - a ≤ 4
    · rw [if_pos (show nI (e - a) ≤ (4 : Int32) from nI_le q (by decide)), if_pos q, hv q]
    · rw [if_neg (show ¬ nI (e - a) ≤ (4 : Int32) from nI_ge (a := 4) (by omega) (by omega)), if_neg q]
  intro k
  induction k with
  | zero =>
    intro e F v x hk hF hT ha h4 hae hd hv
    obtain ⟨F, rfl⟩ : ∃ k, F = k + 1 := ⟨F - 1, by omega⟩
    have hsz := hT.1
    have h3 := hT.2.1
    rw [rn_end (show sz ≤ e by omega)]
    refine ⟨x, ?_, AX_refl x, h4, ha⟩
    show b_X1_number_2 (k_X1_number_2 F) v x = _
    unfold b_X1_number_2
    rw [h3, h4, if_pos (nI_le (by omega) (by omega))]
    exact fin e v x (by omega) hT ha h4 hae hv
  | succ k ih =>
    intro e F v x hk hF hT ha h4 hae hd hv
    obtain ⟨F, rfl⟩ : ∃ k, F = k + 1 := ⟨F - 1, by omega⟩
    have hsz := hT.1
    have h3 := hT.2.1
    obtain ⟨g1, g2⟩ := hT.2.2.2 e (by omega)
    have hX : k_X1_number_2 (F + 1) v x = if digt (g e) = true then k_X1_number_2 F (v * 10 + (nI (g e) - 48)) (sI x 4 (nI (e + 1))) else b_X1_number_59 v x := by
      show b_X1_number_2 (k_X1_number_2 F) v x = _
      unfold b_X1_number_2
      rw [h3, h4, if_neg (nI_ge (by omega) (by omega)), hT.2.2.1]
      show grd _ _ _ = _
      rw [grd_ok _ (by omega) (by decide), nI_clamp (by omega), g1, isDigit_X _ g2, bnd_some]
      by_cases q : digt (g e) = true
      · simp only [if_pos q, ifs, if_false, hT.2.2.1]
        show grd _ _ _ = _
        simp only [h4, grd_ok _ (show e < 160 by omega) (show 160 < 2 ^ 31 by decide), nI_clamp (show e < 2 ^ 31 by omega), bnd_some, g1, show nI e + (1 : Int32) = nI (e + 1) from nI_add e 1]
      · simp only [if_neg q, ifs, if_true]
    by_cases q : digt (g e) = true
    · obtain ⟨x', e1, a1, a2, a3⟩ := ih (e + 1) F (v * 10 + (nI (g e) - 48)) (sI x 4 (nI (e + 1))) (by omega) (by omega) (TX_AX hT (AX_sI x 4 _ (by decide))) ((xI_n _ _ (by decide)).trans ha) (xI_s _ _ _) (by omega) (fun i hi => by
        by_cases r : i = e - a
        · subst r; rw [show a + (e - a) = e by omega]; exact q
        · exact hd i (by omega)) (fun h4' => by
        have hv' := hv (by omega)
        rw [hv', dig_val q g2, show (10 : Int32) = nI 10 from rfl, pk_mul, nIs]
        apply congrArg nI
        rw [show e + 1 - a = (e - a) + 1 by omega]
        show _ = 10 * nv g a (e - a) + (g (a + (e - a)) - 48)
        rw [show a + (e - a) = e by omega, Nat.mul_comm])
      rw [rn_go (by omega) q]
      exact ⟨x', by rw [hX, if_pos q]; exact e1, AX_trans (AX_sI x 4 _ (by decide)) a1, a2, a3⟩
    · rw [rn_no (show digt (g e) = false by simpa using q)]
      refine ⟨x, ?_, AX_refl x, h4, ha⟩
      rw [hX, if_neg q]
      exact fin e v x (by omega) hT ha h4 hae hv
theorem adv_end {g : Nat → Nat} {sz p : Nat} {x : GX} (hp : p ≤ sz) (hT : TX g sz x) (h4 : xI x 4 = nI (pl g sz p)) : ∃ x', b_X1_advance_52 x = some ((), x') ∧ AX x x' ∧ xI x' 4 = nI (nx g sz p) ∧ xI x' 5 = tk g sz p ∧ xI x' 6 = nI (pl g sz p) := by
  have hsz := hT.1
  have h3 := hT.2.1
  obtain ⟨a1, a2⟩ := pl_rng g hp
  have hT1 : TX g sz (sI x 6 (nI (pl g sz p))) := TX_AX hT (AX_sI x 6 _ (by decide))
  have e6 : xI (sI x 6 (nI (pl g sz p))) 6 = nI (pl g sz p) := xI_s _ _ _
  have e4 : xI (sI x 6 (nI (pl g sz p))) 4 = nI (pl g sz p) := (xI_n _ _ (by decide)).trans h4
  have A0 := AX_sI x 6 (nI (pl g sz p)) (by decide)
  unfold b_X1_advance_52
  rw [h4, bnd_some]
  generalize sI x 6 (nI (pl g sz p)) = x1 at hT1 e6 e4 A0
  rw [e4, hT1.2.1, hT1.2.2.1]
  unfold nx tk
  by_cases q : pl g sz p < sz
  · obtain ⟨g1, g2⟩ := hT1.2.2.2 (pl g sz p) q
    rw [if_pos (nI_lt q (by omega)), if_pos q, if_pos q]
    show ∃ x', grd _ _ _ = _ ∧ _
    rw [grd_ok _ (by omega) (by decide), nI_clamp (by omega), g1, isLetter_X _ g2, bnd_some]
    by_cases q1 : lett (g (pl g sz p)) = true
    · simp only [if_pos q1, ifs, if_false]
      obtain ⟨x2, c1, c2, c3, c4⟩ := word_loop (g := g) (sz := sz) (a := pl g sz p) (sz - pl g sz p) (pl g sz p) FU x1 (by omega) (by show _ < 1000; omega) hT1 e6 e4 (Nat.le_refl _) (fun i h1 h2 => by omega)
      unfold f_X1_word
      rw [c1, bnd_some, bnd_some]
      exact ⟨_, rfl, AX_trans A0 (AX_trans c2 (AX_sI x2 5 _ (by decide))), (xI_n _ _ (by decide)).trans c3, xI_s _ _ _, (xI_n _ _ (by decide)).trans c4⟩
    · simp only [if_neg q1, ifs, if_true]
      rw [hT1.2.2.1]
      show ∃ x', grd _ _ _ = _ ∧ _
      rw [e4, grd_ok _ (by omega) (by decide), nI_clamp (by omega), g1, isDigit_X _ g2, bnd_some]
      by_cases q2 : digt (g (pl g sz p)) = true
      · simp only [if_pos q2, ifs, if_false]
        obtain ⟨x2, c1, c2, c3, c4⟩ := num_loop (g := g) (sz := sz) (a := pl g sz p) (sz - pl g sz p) (pl g sz p) FU 0 x1 (by omega) (by show _ < 1000; omega) hT1 e6 e4 (Nat.le_refl _) (fun i hi => by omega) (fun _ => by rw [Nat.sub_self]; rfl)
        unfold f_X1_number
        rw [c1, bnd_some, bnd_some]
        exact ⟨_, rfl, AX_trans A0 (AX_trans c2 (AX_sI x2 5 _ (by decide))), (xI_n _ _ (by decide)).trans c3, xI_s _ _ _, (xI_n _ _ (by decide)).trans c4⟩
      · simp only [if_neg q2, ifs, if_true]
        rw [hT1.2.2.1]
        show ∃ x', grd _ _ _ = _ ∧ _
        rw [e4, grd_ok _ (by omega) (by decide), nI_clamp (by omega), g1, signOf_X, sgI_b _ g2, bnd_some, bnd_some, bnd_some]
        refine ⟨_, rfl, AX_trans A0 (AX_trans (AX_sI x1 5 _ (by decide)) (AX_sI _ 4 _ (by decide))), ?_, ?_, ?_⟩
        · rw [xI_s, xI_n _ _ (by decide), e4]; exact nI_add _ 1
        · rw [xI_n _ _ (by decide), xI_s]
        · rw [xI_n _ _ (by decide), xI_n _ _ (by decide)]; exact e6
  · rw [if_neg (nI_nlt (by omega) (by omega)), if_neg q, if_neg q, bnd_some]
    exact ⟨_, rfl, AX_trans A0 (AX_sI x1 5 _ (by decide)), (xI_n _ _ (by decide)).trans e4, xI_s _ _ _, (xI_n _ _ (by decide)).trans e6⟩
theorem adv_loop {g : Nat → Nat} {sz p : Nat} (hp : p ≤ sz) : ∀ (k e F : Nat) (x : GX), e + k = sz → k < F → TX g sz x → xI x 4 = nI e → pl g sz p = rn blk g sz e → ∃ x', k_X1_advance_0 F x = some ((), x') ∧ AX x x' ∧ xI x' 4 = nI (nx g sz p) ∧ xI x' 5 = tk g sz p ∧ xI x' 6 = nI (pl g sz p) := by
  intro k
  induction k with
  | zero =>
    intro e F x hk hF hT h4 he
    obtain ⟨F, rfl⟩ : ∃ k, F = k + 1 := ⟨F - 1, by omega⟩
    have hsz := hT.1
    have h3 := hT.2.1
    rw [rn_end (show sz ≤ e by omega)] at he
    obtain ⟨x', e1, c⟩ := adv_end hp hT (h4.trans (by rw [he]))
    refine ⟨x', ?_, c⟩
    show b_X1_advance_0 (k_X1_advance_0 F) x = _
    unfold b_X1_advance_0
    rw [h3, h4, if_pos (nI_le (by omega) (by omega))]
    exact e1
  | succ k ih =>
    intro e F x hk hF hT h4 he
    obtain ⟨F, rfl⟩ : ∃ k, F = k + 1 := ⟨F - 1, by omega⟩
    have hsz := hT.1
    have h3 := hT.2.1
    obtain ⟨g1, g2⟩ := hT.2.2.2 e (by omega)
    have hX : k_X1_advance_0 (F + 1) x = if blk (g e) = true then k_X1_advance_0 F (sI x 4 (nI (e + 1))) else b_X1_advance_52 x := by
      show b_X1_advance_0 (k_X1_advance_0 F) x = _
      unfold b_X1_advance_0
      rw [h3, h4, if_neg (nI_ge (by omega) (by omega)), hT.2.2.1]
      show grd _ _ _ = _
      rw [grd_ok _ (by omega) (by decide), nI_clamp (by omega), g1, bnd_some, show nI e + (1 : Int32) = nI (e + 1) from nI_add e 1]
      unfold blk
      by_cases q : g e = 32
      · rw [if_pos (show nI (g e) = (32 : Int32) by rw [q]; rfl), if_pos (by simp [q])]
      · rw [if_neg (show ¬ nI (g e) = (32 : Int32) from ne_lit _ 32 (by omega) (by decide) q)]
        show grd _ _ _ = _
        rw [grd_ok _ (by omega) (by decide)]
        by_cases q2 : g e = 10
        · rw [if_neg (show ¬ nI (g e) ≠ (10 : Int32) from fun r => r (by rw [q2]; rfl)), if_pos (by simp [q2])]
        · rw [if_pos (show nI (g e) ≠ (10 : Int32) from ne_lit _ 10 (by omega) (by decide) q2), if_neg (by simp [q, q2])]
    by_cases q : blk (g e) = true
    · obtain ⟨x', e1, a1, a2⟩ := ih (e + 1) F (sI x 4 (nI (e + 1))) (by omega) (by omega) (TX_AX hT (AX_sI x 4 _ (by decide))) (xI_s _ _ _) (by rw [he, rn_go (by omega) q])
      exact ⟨x', by rw [hX, if_pos q]; exact e1, AX_trans (AX_sI x 4 _ (by decide)) a1, a2⟩
    · rw [rn_no (show blk (g e) = false by simpa using q)] at he
      obtain ⟨x', e1, c⟩ := adv_end hp hT (h4.trans (by rw [he]))
      exact ⟨x', by rw [hX, if_neg q]; exact e1, c⟩
/-- the class reads a token -/
theorem advance_X {g : Nat → Nat} {sz p : Nat} {x : GX} (hp : p ≤ sz) (hT : TX g sz x) (h4 : xI x 4 = nI p) : ∃ x', f_X1_advance x = some ((), x') ∧ AX x x' ∧ xI x' 4 = nI (nx g sz p) ∧ xI x' 5 = tk g sz p ∧ xI x' 6 = nI (pl g sz p) := by
  have hsz := hT.1
  exact adv_loop hp (sz - p) p FU x (by omega) (by show _ < 1000; omega) hT h4 rfl
