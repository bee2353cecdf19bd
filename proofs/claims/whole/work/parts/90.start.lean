set_option maxRecDepth 100000 in
theorem q_64 : Cond.classLink RL 7 RX4 ∈ tb := tb_mem 64 rfl rfl
set_option maxRecDepth 100000 in
theorem q_65 : Cond.instantiable RX4 10 ∈ tb := tb_mem 65 rfl rfl
set_option maxRecDepth 100000 in
theorem q_66 : Cond.methodLink RL 9 yX4_init ∈ tb := tb_mem 66 rfl rfl
set_option maxRecDepth 100000 in
theorem q_67 : Cond.instanceMethod yX4_init ∈ tb := tb_mem 67 rfl rfl
set_option maxRecDepth 100000 in
theorem q_68 : Cond.code yX4_init cX4_init 2 none ∈ tb := tb_mem 68 rfl rfl
set_option maxRecDepth 100000 in
theorem q_701 : Cond.classLink RL 10 RX5 ∈ tb := tb_mem 701 rfl rfl
set_option maxRecDepth 100000 in
theorem q_702 : Cond.instantiable RX5 37 ∈ tb := tb_mem 702 rfl rfl
set_option maxRecDepth 100000 in
theorem q_703 : Cond.methodLink RL 12 yX5_init ∈ tb := tb_mem 703 rfl rfl
set_option maxRecDepth 100000 in
theorem q_704 : Cond.instanceMethod yX5_init ∈ tb := tb_mem 704 rfl rfl
set_option maxRecDepth 100000 in
theorem q_705 : Cond.code yX5_init cX5_init 2 none ∈ tb := tb_mem 705 rfl rfl

/-! ===== the start ===== -/
def nvC : List Cond := flatC (Jvm.Cond.and given_1 narrow_1)
def tmJS (i : Nat) : Term := .string (ownJS.getD i ("", 0)).1 (ownJS.getD i ("", 0)).2
theorem nv_ex : ∀ i : Nat, i < 13 → Cond.exactly (tmJS i) "java/lang/String" ∈ nvC := fun i hi => co_dec (P := fun i => Cond.exactly (tmJS i) "java/lang/String" ∈ nvC) (by decide +kernel) hi
theorem nv_co : ∀ i : Nat, i < 13 → Cond.eq (.field (tmJS i) "java/lang/String" "coder" "B") (.int 0) ∈ nvC := fun i hi => co_dec (P := fun i => Cond.eq (.field (tmJS i) "java/lang/String" "coder" "B") (.int 0) ∈ nvC) (by decide +kernel) hi
theorem nv_ar : ∀ i : Nat, i < 13 → Cond.arrayOf (.field (tmJS i) "java/lang/String" "value" "[B") .byte ∈ nvC := fun i hi => co_dec (P := fun i => Cond.arrayOf (.field (tmJS i) "java/lang/String" "value" "[B") .byte ∈ nvC) (by decide +kernel) hi
theorem nv_le : ∀ i : Nat, i < 13 → Cond.eq (.length (.field (tmJS i) "java/lang/String" "value" "[B")) (.int (Int32.ofNat (lenJS.getD i 0))) ∈ nvC := fun i hi => co_dec (P := fun i => Cond.eq (.length (.field (tmJS i) "java/lang/String" "value" "[B")) (.int (Int32.ofNat (lenJS.getD i 0))) ∈ nvC) (by decide +kernel) hi
theorem nv_el : ∀ i : Nat, i < 13 → ∀ j : Nat, j < lenJS.getD i 0 → Cond.eq (.elem (.field (tmJS i) "java/lang/String" "value" "[B") (.int (Int32.ofNat j))) (.int ((bytJS.getD i []).getD j 0)) ∈ nvC := fun i hi => co_dec (P := fun i => ∀ j : Nat, j < lenJS.getD i 0 → Cond.eq (.elem (.field (tmJS i) "java/lang/String" "value" "[B") (.int (Int32.ofNat j))) (.int ((bytJS.getD i []).getD j 0)) ∈ nvC) (by decide +kernel) hi
theorem nv_ne1 : ∀ i : Nat, i < 13 → ∀ j : Nat, j < 13 → i < j → Cond.not (Cond.eq (tmJS i) (tmJS j)) ∈ nvC := by
  intro i hi
  match i, hi with
  | 0, _ => exact fun j hj => co_dec (N := 13) (P := fun j => 0 < j → Cond.not (Cond.eq (tmJS 0) (tmJS j)) ∈ nvC) (by decide +kernel) hj
  | 1, _ => exact fun j hj => co_dec (N := 13) (P := fun j => 1 < j → Cond.not (Cond.eq (tmJS 1) (tmJS j)) ∈ nvC) (by decide +kernel) hj
  | 2, _ => exact fun j hj => co_dec (N := 13) (P := fun j => 2 < j → Cond.not (Cond.eq (tmJS 2) (tmJS j)) ∈ nvC) (by decide +kernel) hj
  | 3, _ => exact fun j hj => co_dec (N := 13) (P := fun j => 3 < j → Cond.not (Cond.eq (tmJS 3) (tmJS j)) ∈ nvC) (by decide +kernel) hj
  | 4, _ => exact fun j hj => co_dec (N := 13) (P := fun j => 4 < j → Cond.not (Cond.eq (tmJS 4) (tmJS j)) ∈ nvC) (by decide +kernel) hj
  | 5, _ => exact fun j hj => co_dec (N := 13) (P := fun j => 5 < j → Cond.not (Cond.eq (tmJS 5) (tmJS j)) ∈ nvC) (by decide +kernel) hj
  | 6, _ => exact fun j hj => co_dec (N := 13) (P := fun j => 6 < j → Cond.not (Cond.eq (tmJS 6) (tmJS j)) ∈ nvC) (by decide +kernel) hj
  | 7, _ => exact fun j hj => co_dec (N := 13) (P := fun j => 7 < j → Cond.not (Cond.eq (tmJS 7) (tmJS j)) ∈ nvC) (by decide +kernel) hj
  | 8, _ => exact fun j hj => co_dec (N := 13) (P := fun j => 8 < j → Cond.not (Cond.eq (tmJS 8) (tmJS j)) ∈ nvC) (by decide +kernel) hj
  | 9, _ => exact fun j hj => co_dec (N := 13) (P := fun j => 9 < j → Cond.not (Cond.eq (tmJS 9) (tmJS j)) ∈ nvC) (by decide +kernel) hj
  | 10, _ => exact fun j hj => co_dec (N := 13) (P := fun j => 10 < j → Cond.not (Cond.eq (tmJS 10) (tmJS j)) ∈ nvC) (by decide +kernel) hj
  | 11, _ => exact fun j hj => co_dec (N := 13) (P := fun j => 11 < j → Cond.not (Cond.eq (tmJS 11) (tmJS j)) ∈ nvC) (by decide +kernel) hj
  | 12, _ => exact fun j hj => co_dec (N := 13) (P := fun j => 12 < j → Cond.not (Cond.eq (tmJS 12) (tmJS j)) ∈ nvC) (by decide +kernel) hj
theorem nv_ne (i : Nat) (hi : i < 13) (j : Nat) (hj : j < 13) (hij : i ≠ j) : Cond.not (Cond.eq (tmJS i) (tmJS j)) ∈ nvC ∨ Cond.not (Cond.eq (tmJS j) (tmJS i)) ∈ nvC := by
  rcases Nat.lt_or_gt_of_ne hij with h | h
  · exact Or.inl (nv_ne1 i hi j hj h)
  · exact Or.inr (nv_ne1 j hj i hi h)
theorem nv_len : ∀ i : Nat, i < 13 → lenJS.getD i 0 < 2 ^ 31 := fun i hi => co_dec (P := fun i => lenJS.getD i 0 < 2 ^ 31) (by decide +kernel) hi
theorem tw_sr : ∀ i : Nat, i < 13 → Cond.stringRef (ownJS.getD i ("", 0)).1 (ownJS.getD i ("", 0)).2 (txtJS.getD i "") ∈ lw_tbl := fun i hi => co_dec (P := fun i => Cond.stringRef (ownJS.getD i ("", 0)).1 (ownJS.getD i ("", 0)).2 (txtJS.getD i "") ∈ lw_tbl) (by decide +kernel) hi
theorem nv_kel : ∀ j : Nat, j < 6 → Cond.eq (.elem (.static RX2 "KIND_ABOVE" "[I") (.int (Int32.ofNat j))) (.int (kabF j)) ∈ nvC := fun i hi => co_dec (P := fun j => Cond.eq (.elem (.static RX2 "KIND_ABOVE" "[I") (.int (Int32.ofNat j))) (.int (kabF j)) ∈ nvC) (by decide +kernel) hi
theorem tm (i : Nat) {w : Cond} (h : lw_tbl[i]? = some w) : w ∈ lw_tbl := List.mem_of_getElem? h
theorem start_facts {s : State} {args : Array Value} (hts : ∀ w ∈ lw_tbl, w.before args s = true) (hgv : (Jvm.Cond.and given_1 narrow_1).before args s = true) : ∃ g : Gt, KG g s ∧ Ex g (fun q => s.heap.size ≤ q) s s.heap ∧ EN s := by
  have hnv : ∀ w ∈ nvC, w.before args s = true := flat_of_before _ hgv
  have htb : ∀ w ∈ tb, w.before args s = true := fun w hw => hts w (List.mem_filter.mp hw).1
  have hA : ∀ a : Nat, a < s.heap.size → ¬ s.heap.size ≤ a := fun a h => Nat.not_le.mpr h
  obtain ⟨c0, i0, k0⟩ := u_known (C := RX0) (T := TX0) (N := 4) (n := 4) htb inX0 (htb _ q_105)
  obtain ⟨c1, i1, k1⟩ := u_known (C := RX1) (T := TX1) (N := 7) (n := 7) htb inX1 (htb _ q_77)
  obtain ⟨c2, i2, k2⟩ := u_known (C := RX2) (T := TX2) (N := 12) (n := 12) htb inX2 (htb _ q_142)
  obtain ⟨c3, i3, k3⟩ := u_known (C := RX3) (T := TX3) (N := 3) (n := 3) htb inX3 (htb _ q_123)
  obtain ⟨c4, i4, k4⟩ := u_known (C := RX4) (T := TX4) (N := 10) (n := 10) htb inX4 (htb _ q_65)
  obtain ⟨c5, i5, k5⟩ := u_known (C := RX5) (T := TX5) (N := 37) (n := 37) htb inX5 (htb _ q_702)
  obtain ⟨cI, kI, compI, hI1, hI2, hI3⟩ := Cond.arrayClass_spec (htb _ q_104)
  have hoL : (Cond.arrayOver (.object "LighthouseLiedTo$Law")).before args s = true := hts _ (tm 73 (by decide +kernel))
  have hoS : (Cond.arrayOver (.object "LighthouseLiedTo$Sheet")).before args s = true := hts _ (tm 75 (by decide +kernel))
  obtain ⟨compL, cL, kL, hL1, hL2, hL3, hL4, hL5⟩ := Cond.arrayOver_spec hoL
  obtain ⟨compS, cS, kS, hS1, hS2, hS3, hS4, hS5⟩ := Cond.arrayOver_spec hoS
  obtain ⟨tK, hK1, hK2⟩ := va_Tof (args := args) (s := s) (tm := .static RX2 "KIND_ABOVE" "[I") (ty := .int) (N := 6) (f := fun j => .int (kabF j)) (A := fun q => s.heap.size ≤ q) (by decide) (hnv _ (by decide +kernel)) (va_eqt (hnv _ (by decide +kernel))) (fun j hj => va_eqt (hnv _ (nv_kel j hj))) hA
  have hKZ : va_Z RX2 "KIND_ABOVE" "[I" (.ref tK) (fun q => s.heap.size ≤ q) s s.heap := va_Zof (hts _ (tm 700 (by decide +kernel))) (htb _ q_54) hK1 hA
  have hCZ : va_Z RJ0 "COMPACT_STRINGS" "Z" (.int 1) (fun q => s.heap.size ≤ q) s s.heap := va_Zof (hts _ (tm 208 (by decide +kernel))) (htb _ q_55) (va_eqi (hnv _ (by decide +kernel))) hA
  have hFq : va_Zq RJ3 "SIOOBE_FORMATTER" "Ljava/util/function/BiFunction;" (fun q => s.heap.size ≤ q) s s.heap := va_Zqof (hts _ (tm 224 (by decide +kernel))) (htb _ q_57) (hnv _ (by decide +kernel)) hA
  obtain ⟨fm, hFZ⟩ : ∃ fm : Option Nat, va_Z RJ3 "SIOOBE_FORMATTER" "Ljava/util/function/BiFunction;" (va_rf fm) (fun q => s.heap.size ≤ q) s s.heap := by
    rcases hFq with h | ⟨t, h⟩
    · exact ⟨none, h⟩
    · exact ⟨some t, h⟩
  obtain ⟨adK, adV, hSS, hSe⟩ := vk_Sof (args := args) (s := s) (N := 13) (tm := tmJS) (len := lenJS) (byt := bytJS) (A := fun q => s.heap.size ≤ q) nv_len (fun i hi => hnv _ (nv_ex i hi)) (fun i hi => hnv _ (nv_co i hi)) (fun i hi => hnv _ (nv_ar i hi)) (fun i hi => hnv _ (nv_le i hi)) (fun i hi j hj => hnv _ (nv_el i hi j hj)) (fun i j hi hj hij => (nv_ne i hi j hj hij).elim (fun h => Or.inl (hnv _ h)) (fun h => Or.inr (hnv _ h))) hA
  refine ⟨((fun k => match k with
    | 0 => c0
    | 1 => c1
    | 2 => c2
    | 3 => c3
    | 4 => c4
    | _ => c5, fun k => match k with
    | 0 => i0
    | 1 => i1
    | 2 => i2
    | 3 => i3
    | 4 => i4
    | _ => i5), cI, cL, cS, tK, fm, adK, adV), ⟨fun k q hq => ?_, fun k q hq => ?_⟩, ⟨hKZ, hK2, hCZ, hFZ, hSS, fun i hi => vk_R.of (hts _ (tw_sr i hi)) (hSe i hi)⟩, ?_⟩
  · match k, hq with
    | 0, hq => cases hq; exact k0
    | 1, hq => cases hq; exact k1
    | 2, hq => cases hq; exact k2
    | 3, hq => cases hq; exact k3
    | 4, hq => cases hq; exact k4
    | 5, hq => cases hq; exact k5
    | k + 6, hq => simp [classes] at hq
  · match k, hq with
    | 0, hq => cases hq; exact ⟨fun n z => ⟨fun k h => (by cases h), kI, hI2, compI, hI3⟩, hI1⟩
    | 1, hq => cases hq; exact ⟨fun n z => ⟨fun k h => (by cases h), kL, hL3, compL, hL4⟩, kL, compL, hL3, hL4, hL1, hL5⟩
    | 2, hq => cases hq; exact ⟨fun n z => ⟨fun k h => (by cases h), kS, hS3, compS, hS4⟩, kS, compS, hS3, hS4, hS1, hS5⟩
    | k + 3, hq => simp [tysG] at hq
  · exact ⟨va_AO.of hoL, va_AO.of hoS, va_Nw.of rfl (hts (.methodLinkNest RX4 27 yX1_init "LighthouseLiedTo") (tm 78 (by decide +kernel))), va_Nw.of rfl (hts (.methodLinkNest RX4 32 yX0_init "LighthouseLiedTo") (tm 106 (by decide +kernel))), va_Nw.of rfl (hts (.methodLinkNest RX4 33 yX3_init "LighthouseLiedTo") (tm 124 (by decide +kernel)))⟩
theorem c_callX {g : Gt} {K mc ms : Nat} {own : String} {cc : ByteArray} {nL : Nat} {p : Program} {l : Launch} {e : Env} {R : Room} {s : State} {m : MethodId} {args : Array Value} {below : List Frame} {meth : Method} {c : Code} {Q : State → Prop} {wr : va_W} {nc ns pc : Nat} {lv : List (Nat × Value)} {st rest : List Value} {y : MethodName} {bytes : ByteArray} {maxL k mc2 ms2 ix b : Nat} {en : va_E} {wl : (Nat → Nat) → va_W} (hE : Ex g (fun q => s.heap.size ≤ q) s s.heap) (hN : EN s) (hc : CCX g y bytes maxL k mc2 ms2 b [(b, en)] wl) (hcode : Cond.code y bytes maxL none ∈ tb) (hini : Cond.initialized y.cls ∈ tb) (hin : Cond.instanceMethod y ∈ tb) (hnm : y.name = "<init>") (hdd : y.cls ≠ "java/lang/invoke/MethodHandle" ∧ y.cls ≠ "java/lang/invoke/VarHandle" ∧ (parseMethodDescriptor y.desc).map (fun d => d.parameters.length) = some 0) (hmL : maxL ≤ 80) (hlink : Cond.methodLink own ix y ∈ tb) (hk : k + 1 ≤ K) (hst : st = .ref b :: rest) (hrest : (rest.map fun v => v.category).sum ≤ 8) (hd : decode cc pc = .ok (.invokespecial ix, 3)) (hnc : nc + mc2 ≤ mc) (hns : ns + ms2 ≤ ms)
    (kk : ∀ ad : Nat → Nat, ad 0 = b → CV g (fun q => s.heap.size ≤ q) K mc ms own cc nL (p, l, e, R, s, m, args, below, meth, c) Q (wr ++ wl ad) (nc + mc2) (ns + ms2) (pc + 3) lv rest) : CV g (fun q => s.heap.size ≤ q) K mc ms own cc nL (p, l, e, R, s, m, args, below, meth, c) Q (wr ++ [(b, en)]) nc ns pc lv st := by
  intro hF H locs ls hP hD hS hl
  obtain ⟨hx, hb, hml, ho, hts, hK, hA, hRf, hRl, hRc, hRs⟩ := id hF
  have hC : [wr.length].map (fun i => (wr ++ [(b, en)])[i]?) = [(b, en)].map some := by simp
  have hR : (List.range wr.length).map (fun i => (wr ++ [(b, en)])[i]?) = wr.map some := by
    apply List.ext_getElem
    · simp
    · intro i h1 h2
      simp at h1
      simp [List.getElem?_append_left h1, h1]
  have hPc := hP.sub (ws' := [(b, en)]) [wr.length] (by simp)
  have hDc := hD.sub (ws' := [(b, en)]) [wr.length] (by simp [va_nd]) hC
  have hFc := va_free (wc := [(b, en)]) hD hS hA [wr.length] hC
  have hM := hc l H.size
  have hbl : FrameBlind (va_Pc [.ref b] (fun U => U.heap.size = H.size ∧ va_P g.1 classes [(b, en)] U.heap ∧ KG g U ∧ va_D (fun _ => True) [(b, en)] ∧ Ex g (va_A [(b, en)] H.size) U U.heap ∧ EN U)) := by
    intro a U g0 mk q
    obtain ⟨h1, h2, h3, h4, h5, h6, h7⟩ := q
    exact ⟨h1, h2, h3, va_K.moved (u := U) (U := U.calling g0 mk a) (Vm.Alike.refl U.vm) h4, h5, Ex.same rfl h6, EN.same rfl h7⟩
  have hpre : PreS s H (va_Pc [.ref b] (fun U => U.heap.size = H.size ∧ va_P g.1 classes [(b, en)] U.heap ∧ KG g U ∧ va_D (fun _ => True) [(b, en)] ∧ Ex g (va_A [(b, en)] H.size) U U.heap ∧ EN U)) [.ref b] := ⟨hbl, fun U hU hW => ⟨rfl, by rw [hU], by rw [hU]; exact hPc, va_K.moved hW.alike hK, hDc.weaken (fun _ _ _ _ => trivial), by rw [hU]; exact Ex.warm hW ((hE.kept hS.2.1).narrow hFc), EN.warm hW hN⟩⟩
  have hrun := va_runI (l := l) (e := e) (R := R) (below := below) (meth := meth) (locs := locs) (cells := nc) (slots := ns) (g := F0 m pc ls st) (b := b) (As := []) (rest := rest) ⟨hx, hb, hml, ho, hts⟩ hM (cwI 0 hts (tbl_inC hcode) rfl rfl rfl (hts _ hini) (hts _ hlink) (hts _ hin) hnm hdd ⟨by show k + 1 ≤ R.frames; omega, by show 8 + (maxL + 11) + 100 * k ≤ R.locals; omega⟩) hpre rfl rfl hl.1 hst (lv_room hrest) hd ⟨by omega, by omega⟩
  intro T hT X
  obtain ⟨v, st₀, t, T', Ls, h0, X', hL, e1, e2, ⟨hv, ⟨u, hu0, hPu, hDu⟩, hz, hk2⟩, stp⟩ := hrun T hT X
  have hv : v = none := by injection hv
  subst hv
  rw [h0] at hz hk2
  obtain ⟨hPj, hDj⟩ := va_join (wr := wr) (w1 := wl u) hP hD [wr.length] (List.range wr.length) hC hR (va_nd_range _) (by intro i hi; simp at hi; simp; omega) hk2 hFc hPu hDu
  obtain ⟨t2, a1, b1⟩ := kk u hu0 hF T'.heap (locs ++ Ls) ls (by rw [e1]; exact hPj) hDj ⟨Nat.le_trans hS.1 (by rw [e1]; exact hz), fun q h1 h2 => by rw [e1, hk2 q (Nat.lt_of_lt_of_le h1 hS.1) (fun zz => h2 (hFc q zz))]; exact hS.2.1 q h1 h2, fun q hq => by
      rcases List.mem_append.mp hq with h | h
      · exact hS.2.2 q h
      · exact hFc _ (hL q h)⟩ hl T' rfl X'
  exact ⟨t2, stp t2 a1, b1⟩
theorem va_D_nodup {A : Nat → Prop} {ws : va_W} (hD : va_D A ws) : (ws.map Prod.fst).Nodup := by
  refine List.pairwise_iff_getElem.mpr (fun i j hi hj hij heq => ?_)
  have hj' : j < ws.length := by simpa using hj
  have hi' : i < ws.length := by omega
  rw [List.getElem_map, List.getElem_map] at heq
  have := hD.1 i j _ _ (List.getElem?_eq_getElem hi') (List.getElem?_eq_getElem hj') heq
  omega
theorem cv_to_lj {g : Gt} {adx adm : Nat → Nat} {b L : Nat} {xs : Nat → Int32} {K : Nat} {p : Program} {l : Launch} {e : Env} {s : State} {m : MethodId} {below : List Frame} {meth : Method} {c : Code} {x : GX} {μ : GM} {pc : Nat} {lv : List (Nat × Value)} {st : List Value} (hr : meth.sig.returnType = ret) (hX : va_X b L xs s s.heap) (hbl : b < s.heap.size) (hlk : meth.locks = false) (hE : Ex g (fun q => s.heap.size ≤ q) s s.heap) (h : LJ g adx adm b L xs (p, l, e, s, m, below, meth, c) x μ pc lv st) : CV g (fun q => s.heap.size ≤ q) K 600000 7302250 RL code 4 (p, l, e, room_1, s, m, #[Value.ref b], below, meth, c) (lw_Z below #[Value.ref b] s) (([] ++ wX g adx x) ++ wM g adm μ) 76 4862 pc lv st := by
  intro hF H locs ls hP hD hS hl
  obtain ⟨hx, hb, hml, ho, hts, hK, hA, hRf, hRl, hRc, hRs⟩ := id hF
  have hnd := va_D_nodup hD
  rw [List.map_append, List.map_append, wX_L, wM_L, List.map_nil, List.nil_append] at hnd
  obtain ⟨n1, n2, n3⟩ := List.nodup_append.mp hnd
  have hPx : va_P g.1 classes (wX g adx x) H := fun k q hq => hP k q (by
    have hk : k < (wX g adx x).length := (List.getElem?_eq_some_iff.mp hq).1
    rw [List.nil_append, List.getElem?_append_left hk]; exact hq)
  have hPm : va_P g.1 classes (wM g adm μ) H := fun k q hq => hP ((wX g adx x).length + k) q (by
    rw [List.nil_append, List.getElem?_append_right (by omega)]
    rw [Nat.add_sub_cancel_left]; exact hq)
  have hge : ∀ a ∈ ((([] ++ wX g adx x) ++ wM g adm μ).map Prod.fst), s.heap.size ≤ a := by
    intro a ha
    obtain ⟨q, hq, rfl⟩ := List.mem_map.mp ha
    obtain ⟨k, hk⟩ := List.getElem?_of_mem hq
    exact hD.2 k q hk
  rw [List.map_append, List.map_append, wX_L, wM_L, List.map_nil, List.nil_append] at hge
  exact h ⟨hx, hb, hr, hml, ho, hts, hX, hbl, hlk, hK, hE, n1, n2, fun a ha => hge a (List.mem_append_left _ ha), fun a ha => hge a (List.mem_append_right _ ha), fun a h1 h2 => n3 a h1 a h2 rfl⟩ H locs ls hPx hPm hS hl
set_option maxRecDepth 20000 in
theorem whole_start {p : Program} {e : Env} {s : State} {m : MethodId} {below : List Frame} {meth : Method} {c : Code} (l : Launch) (hflags : l.flags = flags0) {b L : Nat} {xs : Nat → Int32} (hL : L ≤ 3584) (C0 : lw_At p s m meth c b L xs) : W p l e room_1 s m #[Value.ref b] below meth c s.heap [] 0 0 (lw_Z below #[Value.ref b] s) (entryFrame m ([Value.ref b] : List Value).toArray 4) := by
  obtain ⟨hx, hb, hr, hml, hown, hts, hX, hbl, hlocks, hgv⟩ := id C0
  obtain ⟨g, hK, hE, hN⟩ := start_facts hts hgv
  obtain ⟨RR, hall, x1, μ1, hx1, hm1, hRR⟩ := pure_main
  have htb : ∀ w ∈ tb, w.before #[Value.ref b] s = true := fun w hw => hts w (List.mem_filter.mp hw).1
  have key : CV g (fun q => s.heap.size ≤ q) 80 600000 7302250 RL code 4 (p, l, e, room_1, s, m, #[Value.ref b], below, meth, c) (lw_Z below #[Value.ref b] s) [] 0 0 0 [(0, .ref b)] [] := by
    refine c_new (pc := 0) (ci := 4) (fs := [.null, .null, .null, .null, .null, .null, .null, .int 0, .int 0, .int 0]) (C0 := RX4) (T := TX4) (N := 10) tyX4 tyX4_ok inX4 rfl q_64 q_65 q_50 (by decide) (by decide) (by decide) dL_law_0 (fun b0 => ?_)
    refine c_dup (pc := 3) dL_law_3 rfl ?_
    refine c_callX (pc := 4) (rest := [.ref b0]) hE hN (cc_X4_init b0 hx1) q_68 q_50 q_67 rfl (by decide +kernel) (by decide) q_66 (by decide) rfl (Nat.le_of_ble_eq_true rfl) dL_law_4 (by decide) (by decide) (fun adx hax => ?_)
    subst hax
    refine c_astore_n (pc := 7) (i := 1) (lv' := [(1, .ref (aMain adx)), (0, .ref b)]) dL_law_7 rfl (by decide) rfl ?_
    refine c_new (pc := 8) (ci := 5) (fs := [.int 0, .null, .null, .null, .null, .null, .null, .long 0, .int 0, .int 0, .null, .int 0, .null, .null, .int 0, .int 0, .int 0, .null, .null, .long 0, .null, .null, .null, .null, .int 0, .int 0, .int 0, .int 0, .null, .null, .int 0, .int 0, .int 0, .null, .null, .null, .int 0]) (C0 := RX5) (T := TX5) (N := 37) tyX5 tyX5_ok inX5 rfl q_701 q_702 q_59 (by decide) (by decide) (by decide) dL_law_8 (fun b1 => ?_)
    refine c_dup (pc := 11) dL_law_11 rfl ?_
    refine c_callX (pc := 12) (rest := [.ref b1]) hE hN (cc_X5_init b1 hm1) q_705 q_59 q_704 rfl (by decide +kernel) (by decide) q_703 (by decide) rfl (Nat.le_of_ble_eq_true rfl) dL_law_12 (by decide) (by decide) (fun adm ham => ?_)
    subst ham
    refine c_astore_n (pc := 15) (i := 2) (lv' := [(2, .ref (aMo adm)), (1, .ref (aMain adx)), (0, .ref b)]) dL_law_15 rfl (by decide) rfl ?_
    refine c_iconst (pc := 16) dL_law_16 ic_0 ?_
    refine c_istore_n (pc := 17) (i := 3) (lv' := [(3, .int (0 : Int32)), (2, .ref (aMo adm)), (1, .ref (aMain adx)), (0, .ref b)]) dL_law_17 rfl (by decide) rfl ?_
    refine cv_to_lj hr hX hbl hlocks hE ?_
    exact j_sub [3, 2, 1, 0] rfl (law_loop (RR := RR) hall hL (L + 1) 0 x1 μ1 (Nat.zero_le _) (by omega) hRR)
  have hl := lv_entry ([.ref b]) (n := 4) (Nat.le_of_ble_eq_true rfl)
  rw [lg_entry_eq]
  exact key ⟨hx, hb, hml, hown, htb, hK, fun q h => h, by decide, by decide, by decide, by decide⟩ s.heap [] _ (fun k q h => by simp at h) ⟨fun i j p q h => by simp at h, fun k q h => by simp at h⟩ va_S.rf hl

-- ===== YOUR PART ENDS =====
set_option maxHeartbeats 4000000 in
theorem lw_walk (l : Launch) (hflags : l.flags = flags0) (b : Addr) (xs : List Int32) : MetFree l x (headSpec (Jvm.Cond.code x code maxLocals ret :: tables_1) room_1) (lw_P b xs) (fun _ _ _ _ _ => True) lw_Q := by
  refine MetFree.of_bodyS (code := code) (maxLocals := maxLocals) (ret := ret) (by decide) ?_ ?_
  · intro args s m h hn
    obtain ⟨meth, c, h1, h2, h3, h4, h5, h6, -, -⟩ := Cond.code_spec hn (atoms_spec (ws := Jvm.Cond.code x code maxLocals ret :: tables_1) h _ List.mem_cons_self)
    exact ⟨meth, c, h1, h2, h3, h4, h5, h6⟩
  · intro p e s m args below meth c s₁ B hml0 hP _
    obtain ⟨rfl, hx, hbd, hgv⟩ := hP
    obtain ⟨scr, harrAt, hlist, hof, hsmall⟩ := hx
    obtain ⟨hcb, hkn, -, -⟩ := State.arrayAt?_spec harrAt
    have hown : s.vm.findClass R_law = some m.cls := findClass_of_methodNamed B.named
    have hts0 : ∀ c ∈ (Jvm.Cond.code x code maxLocals ret :: tables_1), c.before #[Value.ref b] s = true := atoms_spec (ws := Jvm.Cond.code x code maxLocals ret :: tables_1) B.pre
    have hts : ∀ w ∈ lw_tbl, w.before #[Value.ref b] s = true := k2_hts_sels lw_privs (fun w hw => hts0 w (List.mem_cons_of_mem _ hw)) lw_privs_ok
    have hml : c.maxLocals = 4 := B.maxLocals_eq (hts0 _ List.mem_cons_self)
    have X₀ : Stand p l e room_1 s m #[Value.ref b] below meth c s₁ [] 0 0 := Stand.of_body B
    have hh0 : s₁.heap = s.heap := by rw [B.state]; rfl
    have hsz : scr.slots.size = xs.length := by rw [← Array.length_toList, hlist, List.length_map]
    have hval : ∀ j : Nat, j < xs.length → scr.slots[j]? = some (.int (xs.getD j 0)) := fun j hj => by
      rw [← Array.getElem?_toList, hlist]
      simp [hj]
    have hbl : b < s.heap.size := (Array.getElem?_eq_some_iff.mp hcb).1
    have hX : va_X b xs.length (fun j => xs.getD j 0) s s.heap := ⟨scr, hcb, hof, hkn, hsz, hval⟩
    have K : W p l e room_1 s m #[Value.ref b] below meth c s₁.heap [] 0 0 (lw_Z below #[Value.ref b] s) (entryFrame m ([Value.ref b] : List Value).toArray 4) := by
      rw [hh0]
      exact whole_start l hflags hbd ⟨B.exec, B.bytes, B.returns, hml, hown, hts, hX, hbl, B.notSynchronized, hgv⟩
    obtain ⟨t, a1, o, b1, b2, b3⟩ := K s₁ rfl X₀
    exact ⟨t, o, a1, b1, b2, b3⟩
theorem lw_pre_spec {args : Array Value} {s : State} (h : (Jvm.Cond.and given_1 narrow_1).before args s = true) (hr : rest_1_c.before args s = true) : ∃ (b : Addr) (xs : List Int32), lw_P b xs args s := by
  have hs := flat_of_before _ h
  have hq := flat_of_before _ hr
  have hc : (Cond.count 1).before args s = true := hs _ (by decide +kernel)
  have harr : (Cond.arrayOf (.arg 0) .int).before args s = true := hs _ (by decide +kernel)
  have hle : (Cond.le (.length (.arg 0)) (.int 3584)).before args s = true := hs _ (by decide +kernel)
  have hlen : (Cond.isInt (.length (.arg 0))).before args s = true := hq _ (by decide +kernel)
  have hall : (Cond.all (.arg 0) (.isInt (.elem (.arg 0) (.index 0)))).before args s = true := hq _ (by decide +kernel)
  obtain ⟨b, xs, hb, hx⟩ := State.ints_of_pre rfl harr hlen hall
  have hsm : xs.length < 2 ^ 31 := hx.choose_spec.2.2.2
  have hev : (Term.length (.arg 0)).eval args s none [] s = some (.int xs.length.toInt32) := hx.length_eval hb
  have hv := Cond.le_ints hev (show (Term.int 3584).eval args s none [] s = some (.int 3584) from rfl)
  have hd : xs.length.toInt32 ≤ 3584 := by
    simpa [Cond.before, Cond.holds, hv] using hle
  have hN : xs.length ≤ 3584 := (Int32.ofNat_le_ofNat hsm (by decide)).mp (show Int32.ofNat xs.length ≤ Int32.ofNat 3584 from hd)
  exact ⟨b, xs, Cond.one_arg hc (show args[0]? = some (.ref b) from hb), hx, hN, h⟩
theorem lw_comes (l : Launch) (hflags : l.flags = flags0) : Comes l x (Jvm.Cond.code x code maxLocals ret :: tables_1) room_1 (fun tb e args s => Calls_1 tb e args s ∧ rest_1 tb e args s ∧ Pre_1 tb e args s)
    (fun _ _ args s o t => lw_Q args s o t) := by
  intro p e ha hc hk s m args below hf hfit hheap happ hpre
  obtain ⟨b, xs, hP⟩ := lw_pre_spec hpre.2.2 hpre.2.1
  obtain ⟨k, o, h1, h2, h3, hQ⟩ := lw_walk l hflags b xs p e ha hc hk s m args below hf ((Spec.applies_iff_loose hf).mp happ).1 hP trivial
  exact ⟨k, o, h1, h2, h3, hQ⟩
theorem lw_frame {s t : State} {o : Outcome} {args : Array Value} (h : Framed s o t [] 600000 7302250) :
    Framed s o t (fieldLocs frame_1_writes args s ++ arrayLocs frame_1_arrays args s ++ staticLocs frame_1_statics s) 600000 7302250 := h
theorem lw_limb (L : Cond) (hL : ∀ (args : Array Value) (s t : State), L.after args s (.returned (some (.int 1))) t = true) :
    ArmFor flags0 classFile x code maxLocals ret World_1 tables_1 room_1 Calls_1 rest_1 Pre_1
      (fun tb e a s o t => postC L tb e a s o t ∧ Framed s o t (fieldLocs frame_1_writes a s ++ arrayLocs frame_1_arrays a s ++ staticLocs frame_1_statics s) 600000 7302250) := by
  intro l hflags _ _ p e ha hc hk s m args below hf hfit hheap happ hpre
  obtain ⟨k, o, h1, h2, h3, rfl, hF⟩ := lw_comes l hflags p e ha hc hk s m args below hf hfit hheap happ hpre
  exact ⟨k, _, h1, h2, h3, hL args s _, lw_frame hF⟩
theorem i_vc : Claimed_1_1 ∧ Claimed_1_2 := ⟨lw_limb limb_1_1 (fun args s t => by simp [limb_1_1, Cond.after, Cond.holds, Cond.value]), lw_limb limb_1_2 (fun args s t => Cond.after_iff.mpr (by
  first | (rw [show limb_1_2 = Cond.eq .result (.int 1) from rfl, Cond.eq_ints (x := 1) (y := 1) rfl rfl]; simp; done) | (simp [limb_1_2, Cond.value, Term.eval]; done)))⟩

