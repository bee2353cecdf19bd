def FU : Nat := 1000
def JD : Nat := 60
theorem va_rf_cat (o : Option Nat) : (va_rf o).category = 1 := by cases o <;> rfl
def cpG {α : Type} (sp dp n : Int32) (n0 n1 : Nat) (r : Option α) : Option α := if (¬ sp < 0 ∧ ¬ dp < 0 ∧ ¬ n < 0) ∧ (sp.toNatClampNeg + n.toNatClampNeg ≤ n0 ∧ dp.toNatClampNeg + n.toNatClampNeg ≤ n1) then r else none
theorem cp_nat : Cond.native arraycopyName ∈ tb := tb_mem 527 (by decide +kernel) (by decide +kernel)
theorem cp_st : Cond.static arraycopyName ∈ tb := tb_mem 526 (by decide +kernel) (by decide +kernel)
theorem cp_ini : Cond.initialized "java/lang/System" ∈ tb := tb_mem 63 (by decide +kernel) (by decide +kernel)
theorem cp_words : nativeFrameWords "java/lang/System" "arraycopy" 5 + 11 ≤ 80 := by decide +kernel
section VMORE
variable {τ ρ α : Type} {g : Gt} {L : List Nat} {K : Nat} {own : String} {cc : ByteArray} {nL : Nat} {ret : Option FieldType} {wl : τ → va_W} {inj : ρ → Option Value} {z : Zt} {res r1 r2 : Option (ρ × τ)} {σ : τ} {pc ix : Nat} {lv lv' : List (Nat × Value)} {st rest : List Value}
theorem v_nmi {e : Int32} {kf : Int32 → Option (ρ × τ)} (h : ∀ x : Int32, V g L K own cc nL ret wl inj z (kf x) σ pc lv (.int x :: st)) : V g L K own cc nL ret wl inj z (bnd (some e) kf) σ pc lv (.int e :: st) := h e
theorem v_nml {e : Int64} {kf : Int64 → Option (ρ × τ)} (h : ∀ x : Int64, V g L K own cc nL ret wl inj z (kf x) σ pc lv (.long x :: st)) : V g L K own cc nL ret wl inj z (bnd (some e) kf) σ pc lv (.long e :: st) := h e
theorem v_nms {e : τ} {kf : τ → Option (ρ × τ)} (h : ∀ s : τ, V g L K own cc nL ret wl inj z (kf s) s pc lv st) : V g L K own cc nL ret wl inj z (bnd (some e) kf) e pc lv st := h e
theorem v_cret {x : Int32} (hd : decode cc pc = .ok (.ireturn, 1)) : V g L K own cc nL (some .char) wl iI z (if (x.toUInt32 % 65536).toInt32 = x then some (x, σ) else none) σ pc lv [.int x] := by
  refine v_case (fun h => v_nret (by show Value.int ((x.toUInt32 % 65536).toInt32) = .int x; rw [h]) hd) (fun _ => v_none)
theorem v_cpy {a0 a1 q0 q1 n0 n1 : Nat} {f1 f2 : Nat → Int32} {σ1 : τ} {sp dp n : Int32} (he0 : (wl σ)[q0]? = some (a0, .inl (g.2.1, n0, .inl f1))) (he1 : (wl σ)[q1]? = some (a1, .inl (g.2.1, n1, .inl f2))) (hset : (wl σ).set q1 (a1, .inl (g.2.1, n1, .inl (va_cpy f1 f2 sp.toNatClampNeg dp.toNatClampNeg n.toNatClampNeg))) = wl σ1) (hlink : Cond.methodLink own ix arraycopyName ∈ tb) (hK1 : 1 ≤ K) (hrest : (rest.map fun v => v.category).sum ≤ 8) (hd : decode cc pc = .ok (.invokestatic ix, 3)) (kk : V g L K own cc nL ret wl inj z res σ1 (pc + 3) lv rest) : V g L K own cc nL ret wl inj z (cpG sp dp n n0 n1 res) σ pc lv (.int n :: .int dp :: .ref a1 :: .int sp :: .ref a0 :: rest) := by
  unfold cpG
  refine v_case (fun h => ?_) (fun _ => v_none)
  obtain ⟨p, l, e, R, s, m, args, below, meth, c, nc, ns⟩ := z
  intro hF hW r σ' hr H locs ls hP hS hl
  obtain ⟨hx, hb, hml, hret, hlk, ho, hts, hK, hE, hnd, hRf, hRl, hRc, hRs⟩ := id hF
  exact va_copyi hx hb (hml.trans hl.1.symm) ho (hts _ hlink) (hts _ cp_nat) (hts _ cp_st) (hts _ cp_ini) hK hP (va_D_wl hnd hW _ σ) hS q0 q1 0 0 he0 he1 rfl rfl rfl h.1.1 h.1.2.1 h.1.2.2 h.2.1 h.2.2 (fun _ _ => rfl) (by omega) (by have := cp_words; rw [hRl]; omega) hd (fun H1 locs1 hP1 _ hS1 => kk hF hW r σ' hr H1 locs1 ls (by rw [← hset]; exact hP1) hS1 hl)
theorem v_astore_nN {k0 : Fin 4} {i : Nat} (hd : decode cc pc = .ok (.astore_n k0, 1)) (hi : (k0 : Nat) = i) (hn : i < nL) (h : ls1 i .null lv = lv') (k : V g L K own cc nL ret wl inj z res σ (pc + 1) lv' st) : V g L K own cc nL ret wl inj z res σ pc lv (.null :: st) := by
  obtain ⟨p, l, e, R, s, m, args, below, meth, c, nc, ns⟩ := z
  intro hF hW r σ' hr H locs ls hP hS hl
  exact lv_astore_nN hF.1 hF.2.1 hd hi hl hn h (fun ls hl => k hF hW r σ' hr H locs ls hP hS hl)
theorem v_astoreN {i : Nat} (hd : decode cc pc = .ok (.astore i, 2)) (hn : i < nL) (h : ls1 i .null lv = lv') (k : V g L K own cc nL ret wl inj z res σ (pc + 2) lv' st) : V g L K own cc nL ret wl inj z res σ pc lv (.null :: st) := by
  obtain ⟨p, l, e, R, s, m, args, below, meth, c, nc, ns⟩ := z
  intro hF hW r σ' hr H locs ls hP hS hl
  exact lv_astoreN hF.1 hF.2.1 hd hl hn h (fun ls hl => k hF hW r σ' hr H locs ls hP hS hl)
theorem v_aloadN {i : Nat} (hd : decode cc pc = .ok (.aload i, 2)) (h : lk lv i = some .null) (k : V g L K own cc nL ret wl inj z res σ (pc + 2) lv (.null :: st)) : V g L K own cc nL ret wl inj z res σ pc lv st := by
  obtain ⟨p, l, e, R, s, m, args, below, meth, c, nc, ns⟩ := z
  intro hF hW r σ' hr H locs ls hP hS hl
  exact lv_aloadN hF.1 hF.2.1 hd (hl.2.2 _ (lk_mem h)) (k hF hW r σ' hr H locs ls hP hS hl)
variable {ρ2 : Type} {y : MethodName} {bytes : ByteArray} {maxL k n b : Nat} {ret2 : Option FieldType} {av As : List Value}
theorem v_callSi {f : τ → Option (Int32 × τ)} {kf : Int32 × τ → Option (ρ × τ)} (hc : CT g L y bytes maxL ret2 k av iI wl f) (mi : MS y bytes maxL ret2 n) (hlink : Cond.methodLink own ix y ∈ tb) (hk : k + 1 ≤ K) (hn : av.length = n) (hst : st = av.reverse ++ rest) (hrest : (rest.map fun v => v.category).sum ≤ 8) (hd : decode cc pc = .ok (.invokestatic ix, 3)) (kk : ∀ (q : Int32 × τ), V g L K own cc nL ret wl inj z (kf q) q.2 (pc + 3) lv (.int q.1 :: rest)) : V g L K own cc nL ret wl inj z (bnd (f σ) kf) σ pc lv st := v_callS hc mi hlink hk hn hst hrest hd kk
theorem v_callVi {f : τ → Option (Int32 × τ)} {kf : Int32 × τ → Option (ρ × τ)} (hrc : RC wl σ b y.cls) (hc : CT g L y bytes maxL ret2 k (.ref b :: As) iI wl f) (mi : MV y bytes maxL ret2 n) (hlink : Cond.methodLink own ix y ∈ tb) (hk : k + 1 ≤ K) (hn : As.length = n) (hst : st = As.reverse ++ .ref b :: rest) (hrest : (rest.map fun v => v.category).sum ≤ 8) (hd : decode cc pc = .ok (.invokevirtual ix, 3)) (kk : ∀ (q : Int32 × τ), V g L K own cc nL ret wl inj z (kf q) q.2 (pc + 3) lv (.int q.1 :: rest)) : V g L K own cc nL ret wl inj z (bnd (f σ) kf) σ pc lv st := v_callV hrc hc mi hlink hk hn hst hrest hd kk
theorem v_callTi {i : Nat} {f : τ → Option (Int32 × τ)} {kf : Int32 × τ → Option (ρ × τ)} (hi : i < 13) (hy : y.cls = RJ0) (hc : CT g L y bytes maxL ret2 k (.ref (g.2.2.2.2.2.2.1 i) :: As) iI wl f) (mi : MV y bytes maxL ret2 n) (hlink : Cond.methodLink own ix y ∈ tb) (hk : k + 1 ≤ K) (hn : As.length = n) (hst : st = As.reverse ++ .ref (g.2.2.2.2.2.2.1 i) :: rest) (hrest : (rest.map fun v => v.category).sum ≤ 8) (hd : decode cc pc = .ok (.invokevirtual ix, 3)) (kk : ∀ (q : Int32 × τ), V g L K own cc nL ret wl inj z (kf q) q.2 (pc + 3) lv (.int q.1 :: rest)) : V g L K own cc nL ret wl inj z (bnd (f σ) kf) σ pc lv st := v_callVr (fun H hP s hK locs hE hS => by rw [hy]; exact vk_recv hE.2.2.2.2.1 hi hS) hc mi hlink hk hn hst hrest hd kk
theorem v_callSl {f : τ → Option (Int64 × τ)} {kf : Int64 × τ → Option (ρ × τ)} (hc : CT g L y bytes maxL ret2 k av iL wl f) (mi : MS y bytes maxL ret2 n) (hlink : Cond.methodLink own ix y ∈ tb) (hk : k + 1 ≤ K) (hn : av.length = n) (hst : st = av.reverse ++ rest) (hrest : (rest.map fun v => v.category).sum ≤ 8) (hd : decode cc pc = .ok (.invokestatic ix, 3)) (kk : ∀ (q : Int64 × τ), V g L K own cc nL ret wl inj z (kf q) q.2 (pc + 3) lv (.long q.1 :: rest)) : V g L K own cc nL ret wl inj z (bnd (f σ) kf) σ pc lv st := v_callS hc mi hlink hk hn hst hrest hd kk
theorem v_callVl {f : τ → Option (Int64 × τ)} {kf : Int64 × τ → Option (ρ × τ)} (hrc : RC wl σ b y.cls) (hc : CT g L y bytes maxL ret2 k (.ref b :: As) iL wl f) (mi : MV y bytes maxL ret2 n) (hlink : Cond.methodLink own ix y ∈ tb) (hk : k + 1 ≤ K) (hn : As.length = n) (hst : st = As.reverse ++ .ref b :: rest) (hrest : (rest.map fun v => v.category).sum ≤ 8) (hd : decode cc pc = .ok (.invokevirtual ix, 3)) (kk : ∀ (q : Int64 × τ), V g L K own cc nL ret wl inj z (kf q) q.2 (pc + 3) lv (.long q.1 :: rest)) : V g L K own cc nL ret wl inj z (bnd (f σ) kf) σ pc lv st := v_callV hrc hc mi hlink hk hn hst hrest hd kk
theorem v_callTl {i : Nat} {f : τ → Option (Int64 × τ)} {kf : Int64 × τ → Option (ρ × τ)} (hi : i < 13) (hy : y.cls = RJ0) (hc : CT g L y bytes maxL ret2 k (.ref (g.2.2.2.2.2.2.1 i) :: As) iL wl f) (mi : MV y bytes maxL ret2 n) (hlink : Cond.methodLink own ix y ∈ tb) (hk : k + 1 ≤ K) (hn : As.length = n) (hst : st = As.reverse ++ .ref (g.2.2.2.2.2.2.1 i) :: rest) (hrest : (rest.map fun v => v.category).sum ≤ 8) (hd : decode cc pc = .ok (.invokevirtual ix, 3)) (kk : ∀ (q : Int64 × τ), V g L K own cc nL ret wl inj z (kf q) q.2 (pc + 3) lv (.long q.1 :: rest)) : V g L K own cc nL ret wl inj z (bnd (f σ) kf) σ pc lv st := v_callVr (fun H hP s hK locs hE hS => by rw [hy]; exact vk_recv hE.2.2.2.2.1 hi hS) hc mi hlink hk hn hst hrest hd kk
theorem v_callSv {f : τ → Option (Unit × τ)} {kf : Unit × τ → Option (ρ × τ)} (hc : CT g L y bytes maxL ret2 k av iU wl f) (mi : MS y bytes maxL ret2 n) (hlink : Cond.methodLink own ix y ∈ tb) (hk : k + 1 ≤ K) (hn : av.length = n) (hst : st = av.reverse ++ rest) (hrest : (rest.map fun v => v.category).sum ≤ 8) (hd : decode cc pc = .ok (.invokestatic ix, 3)) (kk : ∀ (q : Unit × τ), V g L K own cc nL ret wl inj z (kf q) q.2 (pc + 3) lv rest) : V g L K own cc nL ret wl inj z (bnd (f σ) kf) σ pc lv st := v_callS hc mi hlink hk hn hst hrest hd kk
theorem v_callVv {f : τ → Option (Unit × τ)} {kf : Unit × τ → Option (ρ × τ)} (hrc : RC wl σ b y.cls) (hc : CT g L y bytes maxL ret2 k (.ref b :: As) iU wl f) (mi : MV y bytes maxL ret2 n) (hlink : Cond.methodLink own ix y ∈ tb) (hk : k + 1 ≤ K) (hn : As.length = n) (hst : st = As.reverse ++ .ref b :: rest) (hrest : (rest.map fun v => v.category).sum ≤ 8) (hd : decode cc pc = .ok (.invokevirtual ix, 3)) (kk : ∀ (q : Unit × τ), V g L K own cc nL ret wl inj z (kf q) q.2 (pc + 3) lv rest) : V g L K own cc nL ret wl inj z (bnd (f σ) kf) σ pc lv st := v_callV hrc hc mi hlink hk hn hst hrest hd kk
theorem v_callTv {i : Nat} {f : τ → Option (Unit × τ)} {kf : Unit × τ → Option (ρ × τ)} (hi : i < 13) (hy : y.cls = RJ0) (hc : CT g L y bytes maxL ret2 k (.ref (g.2.2.2.2.2.2.1 i) :: As) iU wl f) (mi : MV y bytes maxL ret2 n) (hlink : Cond.methodLink own ix y ∈ tb) (hk : k + 1 ≤ K) (hn : As.length = n) (hst : st = As.reverse ++ .ref (g.2.2.2.2.2.2.1 i) :: rest) (hrest : (rest.map fun v => v.category).sum ≤ 8) (hd : decode cc pc = .ok (.invokevirtual ix, 3)) (kk : ∀ (q : Unit × τ), V g L K own cc nL ret wl inj z (kf q) q.2 (pc + 3) lv rest) : V g L K own cc nL ret wl inj z (bnd (f σ) kf) σ pc lv st := v_callVr (fun H hP s hK locs hE hS => by rw [hy]; exact vk_recv hE.2.2.2.2.1 hi hS) hc mi hlink hk hn hst hrest hd kk
theorem v_kab (hl0 : Cond.fieldLink own ix RX2 "KIND_ABOVE" "[I" ∈ tb) (hd : decode cc pc = .ok (.getstatic ix, 3)) (k : V g L K own cc nL ret wl inj z res σ (pc + 3) lv (.ref g.2.2.2.2.1 :: st)) : V g L K own cc nL ret wl inj z res σ pc lv st := by
  obtain ⟨p, l, e, R, s, m, args, below, meth, c, nc, ns⟩ := z
  intro hF hW r σ' hr H locs ls hP hS hl
  exact va_gets hF.1 hF.2.1 hF.2.2.2.2.2.2.2.2.1.1 hS hF.2.2.2.2.2.1 (hF.2.2.2.2.2.2.1 _ hl0) (fun _ h => h) hd (k hF hW r σ' hr H locs ls hP hS hl)
theorem v_cstr (hl0 : Cond.fieldLink own ix RJ0 "COMPACT_STRINGS" "Z" ∈ tb) (hd : decode cc pc = .ok (.getstatic ix, 3)) (k : V g L K own cc nL ret wl inj z res σ (pc + 3) lv (.int 1 :: st)) : V g L K own cc nL ret wl inj z res σ pc lv st := by
  obtain ⟨p, l, e, R, s, m, args, below, meth, c, nc, ns⟩ := z
  intro hF hW r σ' hr H locs ls hP hS hl
  exact va_gets hF.1 hF.2.1 hF.2.2.2.2.2.2.2.2.1.2.2.1 hS hF.2.2.2.2.2.1 (hF.2.2.2.2.2.2.1 _ hl0) (fun _ h => h) hd (k hF hW r σ' hr H locs ls hP hS hl)
theorem v_fmt (hl0 : Cond.fieldLink own ix RJ3 "SIOOBE_FORMATTER" "Ljava/util/function/BiFunction;" ∈ tb) (hd : decode cc pc = .ok (.getstatic ix, 3)) (k : V g L K own cc nL ret wl inj z res σ (pc + 3) lv (va_rf g.2.2.2.2.2.1 :: st)) : V g L K own cc nL ret wl inj z res σ pc lv st := by
  obtain ⟨p, l, e, R, s, m, args, below, meth, c, nc, ns⟩ := z
  intro hF hW r σ' hr H locs ls hP hS hl
  exact va_gets hF.1 hF.2.1 hF.2.2.2.2.2.2.2.2.1.2.2.2.1 hS hF.2.2.2.2.2.1 (hF.2.2.2.2.2.2.1 _ hl0) (fun _ h => h) hd (k hF hW r σ' hr H locs ls hP hS hl)
theorem v_kabn (hd : decode cc pc = .ok (.arraylength, 1)) (k : V g L K own cc nL ret wl inj z res σ (pc + 1) lv (.int 6 :: st)) : V g L K own cc nL ret wl inj z res σ pc lv (.ref g.2.2.2.2.1 :: st) := by
  obtain ⟨p, l, e, R, s, m, args, below, meth, c, nc, ns⟩ := z
  intro hF hW r σ' hr H locs ls hP hS hl
  exact va_tlen hF.1 hF.2.1 hF.2.2.2.2.2.2.2.2.1.2.1 hS rfl hd (k hF hW r σ' hr H locs ls hP hS hl)
theorem v_kabl {i : Int32} (hd : decode cc pc = .ok (.iaload, 1)) (k : V g L K own cc nL ret wl inj z res σ (pc + 1) lv (.int (kabF i.toNatClampNeg) :: st)) : V g L K own cc nL ret wl inj z (grd i 6 res) σ pc lv (.int i :: .ref g.2.2.2.2.1 :: st) := by
  unfold grd
  refine v_case (fun h => ?_) (fun _ => v_none)
  obtain ⟨p, l, e, R, s, m, args, below, meth, c, nc, ns⟩ := z
  intro hF hW r σ' hr H locs ls hP hS hl
  exact va_ti hF.1 hF.2.1 hF.2.2.2.2.2.2.2.2.1.2.1 hS h rfl hd (k hF hW r σ' hr H locs ls hP hS hl)
theorem v_ldcS {i : Nat} (hi : i < 13) (ho : ownJS.getD i ("", 0) = (own, ix)) (hd : decode cc pc = .ok (.ldc ix, 2)) (k : V g L K own cc nL ret wl inj z res σ (pc + 2) lv (.ref (g.2.2.2.2.2.2.1 i) :: st)) : V g L K own cc nL ret wl inj z res σ pc lv st := by
  obtain ⟨p, l, e, R, s, m, args, below, meth, c, nc, ns⟩ := z
  intro hF hW r σ' hr H locs ls hP hS hl
  have h := hF.2.2.2.2.2.2.2.2.1.2.2.2.2.2 i hi
  rw [ho] at h
  exact va_ldcS hF.1 hF.2.1 hF.2.2.2.2.2.1 h hd (k hF hW r σ' hr H locs ls hP hS hl)
theorem v_sval {i : Nat} (hi : i < 13) (hl0 : Cond.fieldLink own ix RJ0 "value" "[B" ∈ tb) (hd : decode cc pc = .ok (.getfield ix, 3)) (k : V g L K own cc nL ret wl inj z res σ (pc + 3) lv (.ref (g.2.2.2.2.2.2.2 i) :: st)) : V g L K own cc nL ret wl inj z res σ pc lv (.ref (g.2.2.2.2.2.2.1 i) :: st) := by
  obtain ⟨p, l, e, R, s, m, args, below, meth, c, nc, ns⟩ := z
  intro hF hW r σ' hr H locs ls hP hS hl
  exact vk_getf hF.1 hF.2.1 (hF.2.2.2.2.2.2.2.2.1.2.2.2.2.1.1 i hi).2.2.1 hS hF.2.2.2.2.2.1 (hF.2.2.2.2.2.2.1 _ hl0) (fun _ h => h) hd (k hF hW r σ' hr H locs ls hP hS hl)
theorem v_scod {i : Nat} (hi : i < 13) (hl0 : Cond.fieldLink own ix RJ0 "coder" "B" ∈ tb) (hd : decode cc pc = .ok (.getfield ix, 3)) (k : V g L K own cc nL ret wl inj z res σ (pc + 3) lv (.int 0 :: st)) : V g L K own cc nL ret wl inj z res σ pc lv (.ref (g.2.2.2.2.2.2.1 i) :: st) := by
  obtain ⟨p, l, e, R, s, m, args, below, meth, c, nc, ns⟩ := z
  intro hF hW r σ' hr H locs ls hP hS hl
  exact vk_getf hF.1 hF.2.1 (hF.2.2.2.2.2.2.2.2.1.2.2.2.2.1.1 i hi).2.1 hS hF.2.2.2.2.2.1 (hF.2.2.2.2.2.2.1 _ hl0) (fun _ h => h) hd (k hF hW r σ' hr H locs ls hP hS hl)
theorem v_svn {i : Nat} (hi : i < 13) (hd : decode cc pc = .ok (.arraylength, 1)) (k : V g L K own cc nL ret wl inj z res σ (pc + 1) lv (.int (nI (lenJS.getD i 0)) :: st)) : V g L K own cc nL ret wl inj z res σ pc lv (.ref (g.2.2.2.2.2.2.2 i) :: st) := by
  obtain ⟨p, l, e, R, s, m, args, below, meth, c, nc, ns⟩ := z
  intro hF hW r σ' hr H locs ls hP hS hl
  exact va_tlen hF.1 hF.2.1 (hF.2.2.2.2.2.2.2.2.1.2.2.2.2.1.1 i hi).2.2.2 hS rfl hd (k hF hW r σ' hr H locs ls hP hS hl)
theorem v_svl {i : Nat} {x : Int32} (hi : i < 13) (hd : decode cc pc = .ok (.baload, 1)) (k : V g L K own cc nL ret wl inj z res σ (pc + 1) lv (.int ((bytJS.getD i []).getD x.toNatClampNeg 0) :: st)) : V g L K own cc nL ret wl inj z (grd x (lenJS.getD i 0) res) σ pc lv (.int x :: .ref (g.2.2.2.2.2.2.2 i) :: st) := by
  unfold grd
  refine v_case (fun h => ?_) (fun _ => v_none)
  obtain ⟨p, l, e, R, s, m, args, below, meth, c, nc, ns⟩ := z
  intro hF hW r σ' hr H locs ls hP hS hl
  exact va_tb hF.1 hF.2.1 (hF.2.2.2.2.2.2.2.2.1.2.2.2.2.1.1 i hi).2.2.2 hS h rfl hd (k hF hW r σ' hr H locs ls hP hS hl)
end VMORE
section VCPX
variable {ρ : Type} {g : Gt} {ad : Nat → Nat} {L : List Nat} {K : Nat} {own : String} {cc : ByteArray} {nL : Nat} {ret : Option FieldType} {inj : ρ → Option Value} {z : Zt} {res : Option (ρ × GX)} {σ : GX} {pc ix : Nat} {lv : List (Nat × Value)} {rest : List Value}
theorem v_cpy_sea0 {y1 y : Nat} (h1 : y1 < 3) (h0 : y < 3) {sp dp n : Int32} (hlink : Cond.methodLink own ix arraycopyName ∈ tb) (hK1 : 1 ≤ K) (hrest : (rest.map fun v => v.category).sum ≤ 8) (hd : decode cc pc = .ok (.invokestatic ix, 3)) (kk : V g L K own cc nL ret (wX g ad) inj z res (cB σ y1 0 y 0 sp.toNatClampNeg dp.toNatClampNeg n.toNatClampNeg) (pc + 3) lv rest) : V g L K own cc nL ret (wX g ad) inj z (cpG sp dp n 36 36 res) σ pc lv (.int n :: .int dp :: .ref (aSeaA ad y 0) :: .int sp :: .ref (aSeaA ad y1 0) :: rest) := by
  match y1, y, h1, h0 with
  | 0, 0, _, _ => exact v_cpy (q0 := 30) (q1 := 30) rfl rfl rfl hlink hK1 hrest hd kk
  | 0, 1, _, _ => exact v_cpy (q0 := 30) (q1 := 36) rfl rfl rfl hlink hK1 hrest hd kk
  | 0, 2, _, _ => exact v_cpy (q0 := 30) (q1 := 42) rfl rfl rfl hlink hK1 hrest hd kk
  | 1, 0, _, _ => exact v_cpy (q0 := 36) (q1 := 30) rfl rfl rfl hlink hK1 hrest hd kk
  | 1, 1, _, _ => exact v_cpy (q0 := 36) (q1 := 36) rfl rfl rfl hlink hK1 hrest hd kk
  | 1, 2, _, _ => exact v_cpy (q0 := 36) (q1 := 42) rfl rfl rfl hlink hK1 hrest hd kk
  | 2, 0, _, _ => exact v_cpy (q0 := 42) (q1 := 30) rfl rfl rfl hlink hK1 hrest hd kk
  | 2, 1, _, _ => exact v_cpy (q0 := 42) (q1 := 36) rfl rfl rfl hlink hK1 hrest hd kk
  | 2, 2, _, _ => exact v_cpy (q0 := 42) (q1 := 42) rfl rfl rfl hlink hK1 hrest hd kk
theorem v_cpy_sea1 {y1 y : Nat} (h1 : y1 < 3) (h0 : y < 3) {sp dp n : Int32} (hlink : Cond.methodLink own ix arraycopyName ∈ tb) (hK1 : 1 ≤ K) (hrest : (rest.map fun v => v.category).sum ≤ 8) (hd : decode cc pc = .ok (.invokestatic ix, 3)) (kk : V g L K own cc nL ret (wX g ad) inj z res (cB σ y1 1 y 1 sp.toNatClampNeg dp.toNatClampNeg n.toNatClampNeg) (pc + 3) lv rest) : V g L K own cc nL ret (wX g ad) inj z (cpG sp dp n 6 6 res) σ pc lv (.int n :: .int dp :: .ref (aSeaA ad y 1) :: .int sp :: .ref (aSeaA ad y1 1) :: rest) := by
  match y1, y, h1, h0 with
  | 0, 0, _, _ => exact v_cpy (q0 := 31) (q1 := 31) rfl rfl rfl hlink hK1 hrest hd kk
  | 0, 1, _, _ => exact v_cpy (q0 := 31) (q1 := 37) rfl rfl rfl hlink hK1 hrest hd kk
  | 0, 2, _, _ => exact v_cpy (q0 := 31) (q1 := 43) rfl rfl rfl hlink hK1 hrest hd kk
  | 1, 0, _, _ => exact v_cpy (q0 := 37) (q1 := 31) rfl rfl rfl hlink hK1 hrest hd kk
  | 1, 1, _, _ => exact v_cpy (q0 := 37) (q1 := 37) rfl rfl rfl hlink hK1 hrest hd kk
  | 1, 2, _, _ => exact v_cpy (q0 := 37) (q1 := 43) rfl rfl rfl hlink hK1 hrest hd kk
  | 2, 0, _, _ => exact v_cpy (q0 := 43) (q1 := 31) rfl rfl rfl hlink hK1 hrest hd kk
  | 2, 1, _, _ => exact v_cpy (q0 := 43) (q1 := 37) rfl rfl rfl hlink hK1 hrest hd kk
  | 2, 2, _, _ => exact v_cpy (q0 := 43) (q1 := 43) rfl rfl rfl hlink hK1 hrest hd kk
theorem v_cpy_sea2 {y1 y : Nat} (h1 : y1 < 3) (h0 : y < 3) {sp dp n : Int32} (hlink : Cond.methodLink own ix arraycopyName ∈ tb) (hK1 : 1 ≤ K) (hrest : (rest.map fun v => v.category).sum ≤ 8) (hd : decode cc pc = .ok (.invokestatic ix, 3)) (kk : V g L K own cc nL ret (wX g ad) inj z res (cB σ y1 2 y 2 sp.toNatClampNeg dp.toNatClampNeg n.toNatClampNeg) (pc + 3) lv rest) : V g L K own cc nL ret (wX g ad) inj z (cpG sp dp n 6 6 res) σ pc lv (.int n :: .int dp :: .ref (aSeaA ad y 2) :: .int sp :: .ref (aSeaA ad y1 2) :: rest) := by
  match y1, y, h1, h0 with
  | 0, 0, _, _ => exact v_cpy (q0 := 32) (q1 := 32) rfl rfl rfl hlink hK1 hrest hd kk
  | 0, 1, _, _ => exact v_cpy (q0 := 32) (q1 := 38) rfl rfl rfl hlink hK1 hrest hd kk
  | 0, 2, _, _ => exact v_cpy (q0 := 32) (q1 := 44) rfl rfl rfl hlink hK1 hrest hd kk
  | 1, 0, _, _ => exact v_cpy (q0 := 38) (q1 := 32) rfl rfl rfl hlink hK1 hrest hd kk
  | 1, 1, _, _ => exact v_cpy (q0 := 38) (q1 := 38) rfl rfl rfl hlink hK1 hrest hd kk
  | 1, 2, _, _ => exact v_cpy (q0 := 38) (q1 := 44) rfl rfl rfl hlink hK1 hrest hd kk
  | 2, 0, _, _ => exact v_cpy (q0 := 44) (q1 := 32) rfl rfl rfl hlink hK1 hrest hd kk
  | 2, 1, _, _ => exact v_cpy (q0 := 44) (q1 := 38) rfl rfl rfl hlink hK1 hrest hd kk
  | 2, 2, _, _ => exact v_cpy (q0 := 44) (q1 := 44) rfl rfl rfl hlink hK1 hrest hd kk
theorem v_cpy_sea3 {y1 y : Nat} (h1 : y1 < 3) (h0 : y < 3) {sp dp n : Int32} (hlink : Cond.methodLink own ix arraycopyName ∈ tb) (hK1 : 1 ≤ K) (hrest : (rest.map fun v => v.category).sum ≤ 8) (hd : decode cc pc = .ok (.invokestatic ix, 3)) (kk : V g L K own cc nL ret (wX g ad) inj z res (cB σ y1 3 y 3 sp.toNatClampNeg dp.toNatClampNeg n.toNatClampNeg) (pc + 3) lv rest) : V g L K own cc nL ret (wX g ad) inj z (cpG sp dp n 6 6 res) σ pc lv (.int n :: .int dp :: .ref (aSeaA ad y 3) :: .int sp :: .ref (aSeaA ad y1 3) :: rest) := by
  match y1, y, h1, h0 with
  | 0, 0, _, _ => exact v_cpy (q0 := 33) (q1 := 33) rfl rfl rfl hlink hK1 hrest hd kk
  | 0, 1, _, _ => exact v_cpy (q0 := 33) (q1 := 39) rfl rfl rfl hlink hK1 hrest hd kk
  | 0, 2, _, _ => exact v_cpy (q0 := 33) (q1 := 45) rfl rfl rfl hlink hK1 hrest hd kk
  | 1, 0, _, _ => exact v_cpy (q0 := 39) (q1 := 33) rfl rfl rfl hlink hK1 hrest hd kk
  | 1, 1, _, _ => exact v_cpy (q0 := 39) (q1 := 39) rfl rfl rfl hlink hK1 hrest hd kk
  | 1, 2, _, _ => exact v_cpy (q0 := 39) (q1 := 45) rfl rfl rfl hlink hK1 hrest hd kk
  | 2, 0, _, _ => exact v_cpy (q0 := 45) (q1 := 33) rfl rfl rfl hlink hK1 hrest hd kk
  | 2, 1, _, _ => exact v_cpy (q0 := 45) (q1 := 39) rfl rfl rfl hlink hK1 hrest hd kk
  | 2, 2, _, _ => exact v_cpy (q0 := 45) (q1 := 45) rfl rfl rfl hlink hK1 hrest hd kk
theorem v_cpy_sea4 {y1 y : Nat} (h1 : y1 < 3) (h0 : y < 3) {sp dp n : Int32} (hlink : Cond.methodLink own ix arraycopyName ∈ tb) (hK1 : 1 ≤ K) (hrest : (rest.map fun v => v.category).sum ≤ 8) (hd : decode cc pc = .ok (.invokestatic ix, 3)) (kk : V g L K own cc nL ret (wX g ad) inj z res (cB σ y1 4 y 4 sp.toNatClampNeg dp.toNatClampNeg n.toNatClampNeg) (pc + 3) lv rest) : V g L K own cc nL ret (wX g ad) inj z (cpG sp dp n 6 6 res) σ pc lv (.int n :: .int dp :: .ref (aSeaA ad y 4) :: .int sp :: .ref (aSeaA ad y1 4) :: rest) := by
  match y1, y, h1, h0 with
  | 0, 0, _, _ => exact v_cpy (q0 := 34) (q1 := 34) rfl rfl rfl hlink hK1 hrest hd kk
  | 0, 1, _, _ => exact v_cpy (q0 := 34) (q1 := 40) rfl rfl rfl hlink hK1 hrest hd kk
  | 0, 2, _, _ => exact v_cpy (q0 := 34) (q1 := 46) rfl rfl rfl hlink hK1 hrest hd kk
  | 1, 0, _, _ => exact v_cpy (q0 := 40) (q1 := 34) rfl rfl rfl hlink hK1 hrest hd kk
  | 1, 1, _, _ => exact v_cpy (q0 := 40) (q1 := 40) rfl rfl rfl hlink hK1 hrest hd kk
  | 1, 2, _, _ => exact v_cpy (q0 := 40) (q1 := 46) rfl rfl rfl hlink hK1 hrest hd kk
  | 2, 0, _, _ => exact v_cpy (q0 := 46) (q1 := 34) rfl rfl rfl hlink hK1 hrest hd kk
  | 2, 1, _, _ => exact v_cpy (q0 := 46) (q1 := 40) rfl rfl rfl hlink hK1 hrest hd kk
  | 2, 2, _, _ => exact v_cpy (q0 := 46) (q1 := 46) rfl rfl rfl hlink hK1 hrest hd kk
theorem v_cpy_nums {q1 q : Nat} (h1 : q1 < 4) (h0 : q < 4) {sp dp n : Int32} (hlink : Cond.methodLink own ix arraycopyName ∈ tb) (hK1 : 1 ≤ K) (hrest : (rest.map fun v => v.category).sum ≤ 8) (hd : decode cc pc = .ok (.invokestatic ix, 3)) (kk : V g L K own cc nL ret (wX g ad) inj z res (cN σ q1 q sp.toNatClampNeg dp.toNatClampNeg n.toNatClampNeg) (pc + 3) lv rest) : V g L K own cc nL ret (wX g ad) inj z (cpG sp dp n 40 40 res) σ pc lv (.int n :: .int dp :: .ref (aNums ad q) :: .int sp :: .ref (aNums ad q1) :: rest) := by
  match q1, q, h1, h0 with
  | 0, 0, _, _ => exact v_cpy (q0 := 48) (q1 := 48) rfl rfl rfl hlink hK1 hrest hd kk
  | 0, 1, _, _ => exact v_cpy (q0 := 48) (q1 := 50) rfl rfl rfl hlink hK1 hrest hd kk
  | 0, 2, _, _ => exact v_cpy (q0 := 48) (q1 := 52) rfl rfl rfl hlink hK1 hrest hd kk
  | 0, 3, _, _ => exact v_cpy (q0 := 48) (q1 := 54) rfl rfl rfl hlink hK1 hrest hd kk
  | 1, 0, _, _ => exact v_cpy (q0 := 50) (q1 := 48) rfl rfl rfl hlink hK1 hrest hd kk
  | 1, 1, _, _ => exact v_cpy (q0 := 50) (q1 := 50) rfl rfl rfl hlink hK1 hrest hd kk
  | 1, 2, _, _ => exact v_cpy (q0 := 50) (q1 := 52) rfl rfl rfl hlink hK1 hrest hd kk
  | 1, 3, _, _ => exact v_cpy (q0 := 50) (q1 := 54) rfl rfl rfl hlink hK1 hrest hd kk
  | 2, 0, _, _ => exact v_cpy (q0 := 52) (q1 := 48) rfl rfl rfl hlink hK1 hrest hd kk
  | 2, 1, _, _ => exact v_cpy (q0 := 52) (q1 := 50) rfl rfl rfl hlink hK1 hrest hd kk
  | 2, 2, _, _ => exact v_cpy (q0 := 52) (q1 := 52) rfl rfl rfl hlink hK1 hrest hd kk
  | 2, 3, _, _ => exact v_cpy (q0 := 52) (q1 := 54) rfl rfl rfl hlink hK1 hrest hd kk
  | 3, 0, _, _ => exact v_cpy (q0 := 54) (q1 := 48) rfl rfl rfl hlink hK1 hrest hd kk
  | 3, 1, _, _ => exact v_cpy (q0 := 54) (q1 := 50) rfl rfl rfl hlink hK1 hrest hd kk
  | 3, 2, _, _ => exact v_cpy (q0 := 54) (q1 := 52) rfl rfl rfl hlink hK1 hrest hd kk
  | 3, 3, _, _ => exact v_cpy (q0 := 54) (q1 := 54) rfl rfl rfl hlink hK1 hrest hd kk
end VCPX
