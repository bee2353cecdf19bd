
/-! ===== constructors ===== -/
abbrev Ct : Type := Program × Launch × Env × Room × State × MethodId × Array Value × List Frame × Method × Code
def CFx (g : Gt) (A : Nat → Prop) (K mc ms : Nat) (own : String) (cc : ByteArray) (nL : Nat) (z : Ct) : Prop :=
  match z with
  | (p, _, _, R, s, m, args, _, _, c) => p.tables.exec = Jvm.exec ∧ c.code = cc ∧ c.maxLocals = nL ∧ s.vm.findClass own = some m.cls ∧ (∀ w ∈ tb, w.before args s = true) ∧ KG g s ∧ (∀ q, s.heap.size ≤ q → A q) ∧ K ≤ R.frames ∧ 100 * K ≤ R.locals ∧ mc ≤ R.cells ∧ ms ≤ R.slots
def CV (g : Gt) (A : Nat → Prop) (K mc ms : Nat) (own : String) (cc : ByteArray) (nL : Nat) (z : Ct) (Q : State → Prop) (ws : va_W) (nc ns : Nat) (pc : Nat) (lv : List (Nat × Value)) (st : List Value) : Prop :=
  match z with
  | (p, l, e, R, s, m, args, below, meth, c) => CFx g A K mc ms own cc nL (p, l, e, R, s, m, args, below, meth, c) → ∀ (H : Heap) (locs : List Loc) (ls : Array Slot), va_P g.1 classes ws H → va_D A ws → va_S A s.heap H locs → lv_has ls nL lv →
    W p l e R s m args below meth c H locs nc ns Q (F0 m pc ls st)
def CName (z : Ct) : Prop := z.2.2.2.2.2.2.2.2.1.name = "<init>"
section CROWS
variable {g : Gt} {A : Nat → Prop} {K mc ms : Nat} {own : String} {cc : ByteArray} {nL : Nat} {z : Ct} {Q : State → Prop} {ws : va_W} {nc ns pc : Nat} {lv lv' : List (Nat × Value)} {st rest : List Value}
theorem c_aload_n {k0 : Fin 4} {i : Nat} {x : Nat} (hd : decode cc pc = .ok (.aload_n k0, 1)) (hi : (k0 : Nat) = i) (h : lk lv i = some (.ref x)) (k : CV g A K mc ms own cc nL z Q ws nc ns (pc + 1) lv (.ref x :: st)) : CV g A K mc ms own cc nL z Q ws nc ns pc lv st := by
  obtain ⟨p, l, e, R, s, m, args, below, meth, c⟩ := z
  intro hF H locs ls hP hD hS hl
  exact lv_aload_n hF.1 hF.2.1 hd hi (hl.2.2 _ (lk_mem h)) (k hF H locs ls hP hD hS hl)
theorem c_iload_n {k0 : Fin 4} {i : Nat} {x : Int32} (hd : decode cc pc = .ok (.iload_n k0, 1)) (hi : (k0 : Nat) = i) (h : lk lv i = some (.int x)) (k : CV g A K mc ms own cc nL z Q ws nc ns (pc + 1) lv (.int x :: st)) : CV g A K mc ms own cc nL z Q ws nc ns pc lv st := by
  obtain ⟨p, l, e, R, s, m, args, below, meth, c⟩ := z
  intro hF H locs ls hP hD hS hl
  exact lv_iload_n hF.1 hF.2.1 hd hi (hl.2.2 _ (lk_mem h)) (k hF H locs ls hP hD hS hl)
theorem c_iconst {n : Int} {v : Int32} (hd : decode cc pc = .ok (.iconst n, 1)) (hv : Int32.ofInt n = v) (k : CV g A K mc ms own cc nL z Q ws nc ns (pc + 1) lv (.int v :: st)) : CV g A K mc ms own cc nL z Q ws nc ns pc lv st := by
  obtain ⟨p, l, e, R, s, m, args, below, meth, c⟩ := z
  intro hF H locs ls hP hD hS hl
  exact lv_iconst hF.1 hF.2.1 hd hv (k hF H locs ls hP hD hS hl)
theorem c_bipush {n : Int} {v : Int32} (hd : decode cc pc = .ok (.bipush n, 2)) (hv : (Int8.ofInt n).toInt32 = v) (k : CV g A K mc ms own cc nL z Q ws nc ns (pc + 2) lv (.int v :: st)) : CV g A K mc ms own cc nL z Q ws nc ns pc lv st := by
  obtain ⟨p, l, e, R, s, m, args, below, meth, c⟩ := z
  intro hF H locs ls hP hD hS hl
  exact lv_bipush hF.1 hF.2.1 hd hv (k hF H locs ls hP hD hS hl)
theorem c_sipush {n : Int} {v : Int32} (hd : decode cc pc = .ok (.sipush n, 3)) (hv : (Int16.ofInt n).toInt32 = v) (k : CV g A K mc ms own cc nL z Q ws nc ns (pc + 3) lv (.int v :: st)) : CV g A K mc ms own cc nL z Q ws nc ns pc lv st := by
  obtain ⟨p, l, e, R, s, m, args, below, meth, c⟩ := z
  intro hF H locs ls hP hD hS hl
  exact lv_sipush hF.1 hF.2.1 hd hv (k hF H locs ls hP hD hS hl)
theorem c_dup {va : Value} (hd : decode cc pc = .ok (.dup, 1)) (hva : va.category = 1) (k : CV g A K mc ms own cc nL z Q ws nc ns (pc + 1) lv (va :: va :: st)) : CV g A K mc ms own cc nL z Q ws nc ns pc lv (va :: st) := by
  obtain ⟨p, l, e, R, s, m, args, below, meth, c⟩ := z
  intro hF H locs ls hP hD hS hl
  exact lv_dup hF.1 hF.2.1 hd hva (k hF H locs ls hP hD hS hl)
theorem c_istore_n {k0 : Fin 4} {i : Nat} {x : Int32} (hd : decode cc pc = .ok (.istore_n k0, 1)) (hi : (k0 : Nat) = i) (hn : i < nL) (h : ls1 i (.int x) lv = lv') (k : CV g A K mc ms own cc nL z Q ws nc ns (pc + 1) lv' st) : CV g A K mc ms own cc nL z Q ws nc ns pc lv (.int x :: st) := by
  obtain ⟨p, l, e, R, s, m, args, below, meth, c⟩ := z
  intro hF H locs ls hP hD hS hl
  exact lv_istore_n hF.1 hF.2.1 hd hi hl hn h (fun ls hl => k hF H locs ls hP hD hS hl)
theorem c_astore_n {k0 : Fin 4} {i : Nat} {x : Nat} (hd : decode cc pc = .ok (.astore_n k0, 1)) (hi : (k0 : Nat) = i) (hn : i < nL) (h : ls1 i (.ref x) lv = lv') (k : CV g A K mc ms own cc nL z Q ws nc ns (pc + 1) lv' st) : CV g A K mc ms own cc nL z Q ws nc ns pc lv (.ref x :: st) := by
  obtain ⟨p, l, e, R, s, m, args, below, meth, c⟩ := z
  intro hF H locs ls hP hD hS hl
  exact lv_astore_n hF.1 hF.2.1 hd hi hl hn h (fun ls hl => k hF H locs ls hP hD hS hl)
theorem c_iinc {i : Nat} {n : Int} {x v : Int32} (hd : decode cc pc = .ok (.iinc i n, 3)) (hx : lk lv i = some (.int x)) (hv : x + Int32.ofInt n = v) (hn : i < nL) (h : ls1 i (.int v) lv = lv') (k : CV g A K mc ms own cc nL z Q ws nc ns (pc + 3) lv' st) : CV g A K mc ms own cc nL z Q ws nc ns pc lv st := by
  obtain ⟨p, l, e, R, s, m, args, below, meth, c⟩ := z
  intro hF H locs ls hP hD hS hl
  obtain ⟨k0, hk0⟩ := List.getElem?_of_mem (lk_mem hx)
  exact lv_iinc hF.1 hF.2.1 hd hl hk0 hv hn h (fun ls hl => k hF H locs ls hP hD hS hl)
theorem c_goto {off : Int} {tgt : Nat} (hd : decode cc pc = .ok (.goto off, 3)) (ht : (pc : Int) + off = (tgt : Int)) (k : CV g A K mc ms own cc nL z Q ws nc ns tgt lv st) : CV g A K mc ms own cc nL z Q ws nc ns pc lv st := by
  obtain ⟨p, l, e, R, s, m, args, below, meth, c⟩ := z
  intro hF H locs ls hP hD hS hl
  exact lv_goto hF.1 hF.2.1 hd ht (k hF H locs ls hP hD hS hl)
theorem c_geT {x y : Int32} {off : Int} {tgt : Nat} (hd : decode cc pc = .ok (.if_icmp .ge off, 3)) (ht : (pc : Int) + off = (tgt : Int)) (h : y ≤ x) (k : CV g A K mc ms own cc nL z Q ws nc ns tgt lv st) : CV g A K mc ms own cc nL z Q ws nc ns pc lv (.int y :: .int x :: st) := by
  obtain ⟨p, l, e, R, s, m, args, below, meth, c⟩ := z
  intro hF H locs ls hP hD hS hl
  exact lv_icmp_ge hF.1 hF.2.1 hd ht (fun _ => (k hF H locs ls hP hD hS hl)) (fun hc => absurd h hc)
theorem c_geF {x y : Int32} {off : Int} {tgt : Nat} (hd : decode cc pc = .ok (.if_icmp .ge off, 3)) (ht : (pc : Int) + off = (tgt : Int)) (h : ¬ y ≤ x) (k : CV g A K mc ms own cc nL z Q ws nc ns (pc + 3) lv st) : CV g A K mc ms own cc nL z Q ws nc ns pc lv (.int y :: .int x :: st) := by
  obtain ⟨p, l, e, R, s, m, args, below, meth, c⟩ := z
  intro hF H locs ls hP hD hS hl
  exact lv_icmp_ge hF.1 hF.2.1 hd ht (fun hc => absurd hc h) (fun _ => (k hF H locs ls hP hD hS hl))
theorem c_obj {ix a : Nat} (hl0 : Cond.methodLink own ix objectInit ∈ tb) (hin : Cond.instanceMethod objectInit ∈ tb) (hco : Cond.code objectInit ⟨#[0xb1]⟩ 1 none ∈ tb) (hd : decode cc pc = .ok (.invokespecial ix, 3)) (hK1 : 1 ≤ K) (hst : (st.map fun v => v.category).sum ≤ 8) (k : CV g A K mc ms own cc nL z Q ws nc ns (pc + 3) lv st) : CV g A K mc ms own cc nL z Q ws nc ns pc lv (.ref a :: st) := by
  obtain ⟨p, l, e, R, s, m, args, below, meth, c⟩ := z
  intro hF H locs ls hP hD hS hl
  obtain ⟨hx, hb, hml, ho, hts, hK, hA, hRf, hRl, hRc, hRs⟩ := id hF
  refine W.objInit hx hb ho (hts _ hl0) (hts _ hin) (hts _ hco) rfl (hl.1.trans hml.symm) rfl hd (by omega) (by have := lv_room (m := m) (pc := pc) (ls := ls) (rest := Value.ref a :: st) hst; omega) ?_
  exact W.eq (g2 := F0 m (pc + 3) ls st) rfl (k hF H locs ls hP hD hS hl)
theorem c_get {a ci N ix q0 : Nat} {C0 ref : String} {T : u_T} {fs : List Value} {v : Value} (k0 : Nat) (he : ws[q0]? = some (a, .inr (ci, fs))) (hc : classes[ci]? = some (C0, T, N)) (hin : ∀ w ∈ u_ws C0 T N, w ∈ tb) (hk : k0 < N) (hv : fs[k0]? = some v) (href : (T k0).1 = ref) (hl0 : Cond.fieldLink own ix ref (T k0).2.1 (T k0).2.2.1 ∈ tb) (hd : decode cc pc = .ok (.getfield ix, 3)) (k : CV g A K mc ms own cc nL z Q ws nc ns (pc + 3) lv (v :: st)) : CV g A K mc ms own cc nL z Q ws nc ns pc lv (.ref a :: st) := by
  obtain ⟨p, l, e, R, s, m, args, below, meth, c⟩ := z
  intro hF H locs ls hP hD hS hl
  subst href
  exact va_get (C := C0) (T := T) (N := N) hF.1 hF.2.1 hF.2.2.2.2.1 hin hF.2.2.2.1 hF.2.2.2.2.2.1 hP q0 he hc k0 hk (hF.2.2.2.2.1 _ hl0) (fun _ h9 => h9) hv hd (k hF H locs ls hP hD hS hl)
theorem c_put {a ci N ix q0 : Nat} {C0 ref : String} {T : u_T} {fs : List Value} {v : Value} {ty : FieldType} {ty0 : Nat → FieldType} (k0 : Nat) (he : ws[q0]? = some (a, .inr (ci, fs))) (hc : classes[ci]? = some (C0, T, N)) (hin : ∀ w ∈ u_ws C0 T N, w ∈ tb) (hty : ∀ k, k < N → parseFieldDescriptor (T k).2.2.1 = some (ty0 k)) (hnm : ∀ a, a < N → ∀ b, b < N → a ≠ b → (T a).2.1 ≠ (T b).2.1) (hk : k0 < N) (href : (T k0).1 = ref) (hfin : (T k0).2.2.2 = false) (hpd : parseFieldDescriptor (T k0).2.2.1 = some ty) (hn : narrow ty v = v) (hfit : fits ty v = true) (hlen : k0 < fs.length) (hl0 : Cond.fieldLink own ix ref (T k0).2.1 (T k0).2.2.1 ∈ tb) (hd : decode cc pc = .ok (.putfield ix, 3)) (k : CV g A K mc ms own cc nL z Q (ws.set q0 (a, .inr (ci, fs.set k0 v))) nc ns (pc + 3) lv st) : CV g A K mc ms own cc nL z Q ws nc ns pc lv (v :: .ref a :: st) := by
  obtain ⟨p, l, e, R, s, m, args, below, meth, c⟩ := z
  intro hF H locs ls hP hD hS hl
  subst href
  exact va_put (C := C0) (T := T) (N := N) hF.1 hF.2.1 hF.2.2.2.2.1 hin ty0 hty hnm hF.2.2.2.1 hF.2.2.2.2.2.1 hP hD hS q0 he hc k0 hk (hF.2.2.2.2.1 _ hl0) (fun _ h9 => h9) hfin hpd hn hfit hlen hd (fun H1 locs1 hP1 hD1 hS1 => k hF H1 locs1 ls hP1 hD1 hS1 hl)
theorem c_putF {a ci N ix q0 : Nat} {C0 : String} {T : u_T} {fs : List Value} {v : Value} {ty : FieldType} {ty0 : Nat → FieldType} (hz : CName z) (k0 : Nat) (he : ws[q0]? = some (a, .inr (ci, fs))) (hc : classes[ci]? = some (C0, T, N)) (hin : ∀ w ∈ u_ws C0 T N, w ∈ tb) (hty : ∀ k, k < N → parseFieldDescriptor (T k).2.2.1 = some (ty0 k)) (hnm : ∀ a, a < N → ∀ b, b < N → a ≠ b → (T a).2.1 ≠ (T b).2.1) (hk : k0 < N) (href : (T k0).1 = own) (hfin : (T k0).2.2.2 = true) (hpd : parseFieldDescriptor (T k0).2.2.1 = some ty) (hn : narrow ty v = v) (hfit : fits ty v = true) (hlen : k0 < fs.length) (hl0 : Cond.fieldLink own ix own (T k0).2.1 (T k0).2.2.1 ∈ tb) (hd : decode cc pc = .ok (.putfield ix, 3)) (k : CV g A K mc ms own cc nL z Q (ws.set q0 (a, .inr (ci, fs.set k0 v))) nc ns (pc + 3) lv st) : CV g A K mc ms own cc nL z Q ws nc ns pc lv (v :: .ref a :: st) := by
  obtain ⟨p, l, e, R, s, m, args, below, meth, c⟩ := z
  intro hF H locs ls hP hD hS hl
  subst href
  exact va_putF (C := C0) (T := T) (N := N) hF.1 hF.2.1 hF.2.2.2.2.1 hin ty0 hty hnm hF.2.2.2.1 hF.2.2.2.2.2.1 hP hD hS q0 he hc k0 hk (hF.2.2.2.2.1 _ hl0) (fun _ h9 => h9) hfin hz rfl hpd hn hfit hlen hd (fun H1 locs1 hP1 hD1 hS1 => k hF H1 locs1 ls hP1 hD1 hS1 hl)
theorem KG_int {g : Gt} {s : State} (hK : KG g s) {cA : ClassId} (h : va_K g.1 classes (tysG g ++ [(cA, .int)]) s) : cA = g.2.1 := by
  have h1 : s.vm.findClass _ = some cA := (h.2 3 (cA, .int) rfl).2
  have h2 : s.vm.findClass _ = some g.2.1 := (hK.2 0 (g.2.1, .int) rfl).2
  exact Option.some.inj (h1.symm.trans h2)
theorem KG_law {g : Gt} {s : State} (hK : KG g s) {cA : ClassId} (h : va_K g.1 classes (tysG g ++ [(cA, .object "LighthouseLiedTo$Law")]) s) : cA = g.2.2.1 := by
  obtain ⟨_, _, _, _, _, h1⟩ := (h.2 3 (cA, .object "LighthouseLiedTo$Law") rfl).2
  obtain ⟨_, _, _, _, _, h2⟩ := (hK.2 1 (g.2.2.1, .object "LighthouseLiedTo$Law") rfl).2
  exact Option.some.inj (h1.symm.trans h2)
theorem KG_sheet {g : Gt} {s : State} (hK : KG g s) {cA : ClassId} (h : va_K g.1 classes (tysG g ++ [(cA, .object "LighthouseLiedTo$Sheet")]) s) : cA = g.2.2.2.1 := by
  obtain ⟨_, _, _, _, _, h1⟩ := (h.2 3 (cA, .object "LighthouseLiedTo$Sheet") rfl).2
  obtain ⟨_, _, _, _, _, h2⟩ := (hK.2 2 (g.2.2.2.1, .object "LighthouseLiedTo$Sheet") rfl).2
  exact Option.some.inj (h1.symm.trans h2)
theorem c_newa {n : Int32} {N' : Nat} (harr : Cond.arrayClass .int ∈ tb) (hn : ¬ n < 0) (hN : n.toNatClampNeg = N') (hby : N' * 4 ≤ 536870912) (hnc : nc + 1 ≤ mc) (hns : ns + N' ≤ ms) (hd : decode cc pc = .ok (.newarray .int, 2)) (k : ∀ q : Nat, CV g A K mc ms own cc nL z Q (ws ++ [(q, .inl (g.2.1, N', .inl (fun _ => 0)))]) (nc + 1) (ns + N') (pc + 2) lv (.ref q :: st)) : CV g A K mc ms own cc nL z Q ws nc ns pc lv (.int n :: st) := by
  obtain ⟨p, l, e, R, s, m, args, below, meth, c⟩ := z
  intro hF H locs ls hP hD hS hl
  obtain ⟨hx, hb, hml, ho, hts, hK, hA, hRf, hRl, hRc, hRs⟩ := id hF
  refine va_newa (atype := .int) (a0 := (N', .inl (fun _ => 0))) hx hb (hts _ harr) rfl hK hP hD hS hA (fun _ => rfl) hn hN hby (by omega) (by omega) hd (fun q cA H1 hK1 hP1 hD1 hS1 => ?_)
  cases KG_int hK hK1
  exact k q hF H1 locs ls hP1 hD1 hS1 hl
theorem c_newL {n : Int32} {N' ix : Nat} (hcl : Cond.classLink own ix RX0 ∈ tb) (hov : va_AO "LighthouseLiedTo$Law" z.2.2.2.2.1) (hn : ¬ n < 0) (hN : n.toNatClampNeg = N') (hby : N' * 4 ≤ 536870912) (hnc : nc + 1 ≤ mc) (hns : ns + N' ≤ ms) (hd : decode cc pc = .ok (.anewarray ix, 3)) (k : ∀ q : Nat, CV g A K mc ms own cc nL z Q (ws ++ [(q, .inl (g.2.2.1, N', .inr (.inr (.inr (.inr (fun _ => none))))))]) (nc + 1) (ns + N') (pc + 3) lv (.ref q :: st)) : CV g A K mc ms own cc nL z Q ws nc ns pc lv (.int n :: st) := by
  obtain ⟨p, l, e, R, s, m, args, below, meth, c⟩ := z
  intro hF H locs ls hP hD hS hl
  obtain ⟨hx, hb, hml, ho, hts, hK, hA, hRf, hRl, hRc, hRs⟩ := id hF
  refine va_newq (C := "LighthouseLiedTo$Law") hx hb ho (hts _ hcl) hov hK hP hD hS hA hn hN hby (by omega) (by omega) hd (fun q cA H1 hK1 hP1 hD1 hS1 => ?_)
  cases KG_law hK hK1
  exact k q hF H1 locs ls hP1 hD1 hS1 hl
theorem c_newS {n : Int32} {N' ix : Nat} (hcl : Cond.classLink own ix RX3 ∈ tb) (hov : va_AO "LighthouseLiedTo$Sheet" z.2.2.2.2.1) (hn : ¬ n < 0) (hN : n.toNatClampNeg = N') (hby : N' * 4 ≤ 536870912) (hnc : nc + 1 ≤ mc) (hns : ns + N' ≤ ms) (hd : decode cc pc = .ok (.anewarray ix, 3)) (k : ∀ q : Nat, CV g A K mc ms own cc nL z Q (ws ++ [(q, .inl (g.2.2.2.1, N', .inr (.inr (.inr (.inr (fun _ => none))))))]) (nc + 1) (ns + N') (pc + 3) lv (.ref q :: st)) : CV g A K mc ms own cc nL z Q ws nc ns pc lv (.int n :: st) := by
  obtain ⟨p, l, e, R, s, m, args, below, meth, c⟩ := z
  intro hF H locs ls hP hD hS hl
  obtain ⟨hx, hb, hml, ho, hts, hK, hA, hRf, hRl, hRc, hRs⟩ := id hF
  refine va_newq (C := "LighthouseLiedTo$Sheet") hx hb ho (hts _ hcl) hov hK hP hD hS hA hn hN hby (by omega) (by omega) hd (fun q cA H1 hK1 hP1 hD1 hS1 => ?_)
  cases KG_sheet hK hK1
  exact k q hF H1 locs ls hP1 hD1 hS1 hl
theorem c_new {ci N ix : Nat} {C0 : String} {T : u_T} {fs : List Value} (ty0 : Nat → FieldType) (hty : ∀ k, k < N → parseFieldDescriptor (T k).2.2.1 = some (ty0 k)) (hin : ∀ w ∈ u_ws C0 T N, w ∈ tb) (hc : classes[ci]? = some (C0, T, N)) (hcl : Cond.classLink own ix C0 ∈ tb) (hinst : Cond.instantiable C0 N ∈ tb) (hini : Cond.initialized C0 ∈ tb) (hfs : ∀ j, j < N → defaultValue (ty0 j) = vp_V fs j) (hnc : nc + 1 ≤ mc) (hns : ns + N ≤ ms) (hd : decode cc pc = .ok (.new ix, 3)) (k : ∀ q : Nat, CV g A K mc ms own cc nL z Q (ws ++ [(q, .inr (ci, fs))]) (nc + 1) (ns + N) (pc + 3) lv (.ref q :: st)) : CV g A K mc ms own cc nL z Q ws nc ns pc lv st := by
  obtain ⟨p, l, e, R, s, m, args, below, meth, c⟩ := z
  intro hF H locs ls hP hD hS hl
  obtain ⟨hx, hb, hml, ho, hts, hK, hA, hRf, hRl, hRc, hRs⟩ := id hF
  exact va_new (C := C0) (T := T) (N := N) hx hb hts hin ty0 hty ho (hts _ hcl) (hts _ hinst) (hts _ hini) hK hP hD hS hA hc hfs (by omega) (by omega) hd (fun q H1 hP1 hD1 hS1 => k q hF H1 locs ls hP1 hD1 hS1 hl)
theorem c_ast {a q0 t0 qk ci n v : Nat} {cA : ClassId} {r : vw_C} {vs : List Value} {f : Nat → Option Nat} {i : Int32} (ha : ws[q0]? = some (a, .inl (cA, n, .inr (.inr (.inr (.inr f)))))) (ht : (tysG g)[t0]? = some (cA, .object r.1)) (hv : ws[qk]? = some (v, .inr (ci, vs))) (hc : classes[ci]? = some r) (hin : vp_in i n) (hd : decode cc pc = .ok (.aastore, 1)) (k : CV g A K mc ms own cc nL z Q (ws.set q0 (a, .inl (cA, n, .inr (.inr (.inr (.inr (va_up f i.toNatClampNeg (some v)))))))) nc ns (pc + 1) lv st) : CV g A K mc ms own cc nL z Q ws nc ns pc lv (.ref v :: .int i :: .ref a :: st) := by
  obtain ⟨p, l, e, R, s, m, args, below, meth, c⟩ := z
  intro hF H locs ls hP hD hS hl
  exact va_astq hF.1 hF.2.1 hF.2.2.2.2.2.1 hP hD hS q0 t0 qk ci ha ht hv hc hin hd (fun H1 locs1 hP1 hD1 hS1 => k hF H1 locs1 ls hP1 hD1 hS1 hl)
theorem c_ist {a q0 n : Nat} {f : Nat → Int32} {i x : Int32} (ha : ws[q0]? = some (a, .inl (g.2.1, n, .inl f))) (hin : vp_in i n) (hd : decode cc pc = .ok (.iastore, 1)) (k : CV g A K mc ms own cc nL z Q (ws.set q0 (a, .inl (g.2.1, n, .inl (upd f i.toNatClampNeg x)))) nc ns (pc + 1) lv st) : CV g A K mc ms own cc nL z Q ws nc ns pc lv (.int x :: .int i :: .ref a :: st) := by
  obtain ⟨p, l, e, R, s, m, args, below, meth, c⟩ := z
  intro hF H locs ls hP hD hS hl
  exact va_iast hF.1 hF.2.1 hF.2.2.2.2.2.1 hP hD hS q0 0 ha rfl hin hd (fun H1 locs1 hP1 hD1 hS1 => k hF H1 locs1 ls hP1 hD1 hS1 hl)
theorem c_ws {ws' : va_W} (h : ws = ws') (k : CV g A K mc ms own cc nL z Q ws' nc ns pc lv st) : CV g A K mc ms own cc nL z Q ws nc ns pc lv st := by subst h; exact k
/-- the numbers that an array's initialiser writes -/
def fillF (f : Nat → Int32) : Nat → List Int32 → (Nat → Int32)
  | _, [] => f
  | k, v :: vs => fillF (upd f k v) (k + 1) vs
def pushC (cc : ByteArray) (pc : Nat) : Option (Int32 × Nat) := match decode cc pc with
  | .ok (.iconst n, 1) => some (Int32.ofInt n, pc + 1)
  | .ok (.bipush n, 2) => some ((Int8.ofInt n).toInt32, pc + 2)
  | .ok (.sipush n, 3) => some ((Int16.ofInt n).toInt32, pc + 3)
  | _ => none
theorem c_pushC {x : Int32} {pc' : Nat} (h : pushC cc pc = some (x, pc')) (k : CV g A K mc ms own cc nL z Q ws nc ns pc' lv (.int x :: st)) : CV g A K mc ms own cc nL z Q ws nc ns pc lv st := by
  unfold pushC at h
  split at h
  · next n hd => cases h; exact c_iconst hd rfl k
  · next n hd => cases h; exact c_bipush hd rfl k
  · next n hd => cases h; exact c_sipush hd rfl k
  · cases h
def isDup (cc : ByteArray) (pc : Nat) : Bool := match decode cc pc with
  | .ok (.dup, 1) => true
  | _ => false
def isIast (cc : ByteArray) (pc : Nat) : Bool := match decode cc pc with
  | .ok (.iastore, 1) => true
  | _ => false
theorem isDup_ok {cc : ByteArray} {pc : Nat} (h : isDup cc pc = true) : decode cc pc = .ok (.dup, 1) := by
  unfold isDup at h
  split at h
  · next hd => exact hd
  · cases h
theorem isIast_ok {cc : ByteArray} {pc : Nat} (h : isIast cc pc = true) : decode cc pc = .ok (.iastore, 1) := by
  unfold isIast at h
  split at h
  · next hd => exact hd
  · cases h
def litEnd (cc : ByteArray) : Nat → Nat → List Int32 → Option Nat
  | pc, _, [] => some pc
  | pc, k, v :: vs => if isDup cc pc = true then bnd (pushC cc (pc + 1)) (fun a => if a.1 = nI k then bnd (pushC cc a.2) (fun b => if b.1 = v then (if isIast cc b.2 = true then litEnd cc (b.2 + 1) (k + 1) vs else none) else none) else none) else none
theorem c_fill {wf : (Nat → Int32) → va_W} {a q0 n : Nat} (hn : n < 2 ^ 31) (hq : ∀ f, (wf f)[q0]? = some (a, .inl (g.2.1, n, .inl f))) (hs : ∀ f f', (wf f).set q0 (a, .inl (g.2.1, n, .inl f')) = wf f') : ∀ (vs : List Int32) (k pc pc' : Nat) (f : Nat → Int32), litEnd cc pc k vs = some pc' → k + vs.length ≤ n → CV g A K mc ms own cc nL z Q (wf (fillF f k vs)) nc ns pc' lv (.ref a :: st) → CV g A K mc ms own cc nL z Q (wf f) nc ns pc lv (.ref a :: st) := by
  intro vs
  induction vs with
  | nil => intro k pc pc' f h _ kk; cases h; exact kk
  | cons v vs ih =>
    intro k pc pc' f h hlen kk
    have hlen' : k + (vs.length + 1) ≤ n := hlen
    unfold litEnd at h
    by_cases h1 : isDup cc pc = true
    · rw [if_pos h1] at h
      cases e1 : pushC cc (pc + 1) with
      | none => rw [e1] at h; cases h
      | some a1 =>
        obtain ⟨i, p2⟩ := a1
        rw [e1, bnd_some] at h
        by_cases h2 : i = nI k
        · rw [if_pos h2] at h
          cases e2 : pushC cc p2 with
          | none => rw [e2] at h; cases h
          | some a2 =>
            obtain ⟨x, p3⟩ := a2
            rw [e2, bnd_some] at h
            by_cases h3 : x = v
            · rw [if_pos h3] at h
              by_cases h4 : isIast cc p3 = true
              · rw [if_pos h4] at h
                refine c_dup (isDup_ok h1) rfl (c_pushC e1 (c_pushC e2 ?_))
                subst h2; subst h3
                refine c_ist (hq f) (vp_in_nI (by omega) hn) (isIast_ok h4) ?_
                rw [hs f, nI_clamp (by omega)]
                exact ih (k + 1) (p3 + 1) pc' _ h (by omega) kk
              · rw [if_neg h4] at h; cases h
            · rw [if_neg h3] at h; cases h
        · rw [if_neg h2] at h; cases h
    · rw [if_neg h1] at h; cases h
end CROWS
/-- a nested constructor's contract -/
def CC (g : Gt) (y : MethodName) (cc : ByteArray) (nL k mc ms : Nat) (av : List Value) (win : va_W) (wout : (Nat → Nat) → va_W) : Prop := ∀ (l : Launch) (sz : Nat),
  Met l y (Cond.code y cc nL none :: tb) ({ frames := k, cells := mc, slots := ms, locals := 100 * k } : Room) (va_Pc av (fun U => U.heap.size = sz ∧ va_P g.1 classes win U.heap ∧ KG g U ∧ va_D (fun _ => True) win)) (fun _ st oc t => oc = .returned none ∧ (∃ u : Nat → Nat, va_P g.1 classes (wout u) t.heap ∧ va_D (va_A win sz) (wout u)) ∧ va_F (va_A win sz) st t) mc ms (va_A win sz)
theorem cc_of_CV {g : Gt} {y : MethodName} {own : String} {cc : ByteArray} {nL K mc ms : Nat} {av : List Value} {lv0 : List (Nat × Value)} {win : va_W} {wout : (Nat → Nat) → va_W} (hy : plainName y.cls = true) (hown : y.cls = own) (hnm : y.name = "<init>") (hls : (lg_sl av).length ≤ nL) (hlv : lv_args 0 av = lv0)
    (h : ∀ (p : Program) (l : Launch) (e : Env) (R : Room) (s : State) (m : MethodId) (args : Array Value) (below : List Frame) (meth : Method) (c : Code), meth.sig.returnType = none → meth.locks = false → CName (p, l, e, R, s, m, args, below, meth, c) → va_D (fun _ => True) win → CV g (va_A win s.heap.size) K mc ms own cc nL (p, l, e, R, s, m, args, below, meth, c) (MQ below (fun _ st oc t => oc = .returned none ∧ (∃ u : Nat → Nat, va_P g.1 classes (wout u) t.heap ∧ va_D (va_A win st.heap.size) (wout u)) ∧ va_F (va_A win st.heap.size) st t) args s mc ms (va_A win s.heap.size)) win 0 0 0 lv0 []) : CC g y cc nL K mc ms av win wout := by
  intro l sz
  refine Met.ofW (cc := cc) (maxL := nL) (ret := none) hy rfl ?_
  intro p e s m args below meth c s₁ B hml hv
  obtain ⟨rfl, hsz, hP, hK, hD⟩ := hv
  subst hsz
  have hts := atoms_spec (ws := Cond.code y cc nL none :: tb) B.pre
  have ho : s.vm.findClass own = some m.cls := hown ▸ findClass_of_methodNamed B.named
  have hl := lv_entry av (n := nL) hls
  rw [hlv] at hl
  rw [lg_entry_eq]
  have hin : meth.name = "<init>" := hnm ▸ (name_of_methodNamed B.named B.method).1
  have h1 := h p l e (headSpec (Cond.code y cc nL none :: tb) ({ frames := K, cells := mc, slots := ms, locals := 100 * K } : Room)).room s m av.toArray below meth c B.returns B.notSynchronized hin hD
  have h2 := h1 ⟨B.exec, B.bytes, hml, ho, fun w hw => hts w (List.mem_cons_of_mem _ hw), hK, fun q hq => Or.inr hq, Nat.le_refl _, Nat.le_refl _, Nat.le_refl _, Nat.le_refl _⟩ s.heap [] _ hP (hD.self (sz := s.heap.size)) va_S.rf hl
  exact h2
section CROWS2
variable {g : Gt} {A : Nat → Prop} {K mc ms : Nat} {own : String} {cc : ByteArray} {nL : Nat} {z : Ct} {Q : State → Prop} {ws wr : va_W} {nc ns pc : Nat} {lv lv' : List (Nat × Value)} {st rest : List Value}
theorem c_vret {p : Program} {l : Launch} {e : Env} {R : Room} {s : State} {m : MethodId} {args : Array Value} {below : List Frame} {meth : Method} {c : Code} {win : va_W} {wout : (Nat → Nat) → va_W} (hr : meth.sig.returnType = none) (hlk : meth.locks = false) (u : Nat → Nat) (is : List Nat) (h1 : is.filterMap (fun i => ws[i]?) = wout u) (h2 : is.map (fun i => ws[i]?) = (wout u).map some) (hnd : va_nd is = true) (hd : decode cc pc = .ok (.return_, 1)) : CV g (va_A win s.heap.size) K mc ms own cc nL (p, l, e, R, s, m, args, below, meth, c) (MQ below (fun _ st oc t => oc = .returned none ∧ (∃ u : Nat → Nat, va_P g.1 classes (wout u) t.heap ∧ va_D (va_A win st.heap.size) (wout u)) ∧ va_F (va_A win st.heap.size) st t) args s nc ns (va_A win s.heap.size)) ws nc ns pc lv [] := by
  intro hF H locs ls hP hD hS hl
  exact W.vret hF.1 hF.2.1 hr (fun t ht hW => ⟨rfl, ⟨u, by rw [ht]; exact hP.sub is h1, hD.sub is hnd h2⟩, hS.F ht⟩) hS.2.2 hd hlk
theorem va_nd_range (n : Nat) : va_nd (List.range n) = true := by
  have h : ∀ l : List Nat, l.Nodup → va_nd l = true := by
    intro l hl
    induction l with
    | nil => rfl
    | cons a l ih =>
      have h1 := List.nodup_cons.mp hl
      simp [va_nd, h1.1, ih h1.2]
  exact h _ List.nodup_range
theorem c_callC {y : MethodName} {bytes : ByteArray} {maxL k mc2 ms2 n ix b : Nat} {As : List Value} {en : va_E} {wout : (Nat → Nat) → va_W} (nest : Bool) (hc : CC g y bytes maxL k mc2 ms2 (.ref b :: As) [(b, en)] wout) (hcode : Cond.code y bytes maxL none ∈ tb) (hini : Cond.initialized y.cls ∈ tb) (hin : Cond.instanceMethod y ∈ tb) (hnm : y.name = "<init>") (hdd : y.cls ≠ "java/lang/invoke/MethodHandle" ∧ y.cls ≠ "java/lang/invoke/VarHandle" ∧ (parseMethodDescriptor y.desc).map (fun d => d.parameters.length) = some n) (hmL : maxL ≤ 80) (host : String) (hlink : if nest = true then va_Nw (.methodLinkNest own ix y host) z.2.2.2.2.1 else Cond.methodLink own ix y ∈ tb) (hk : k + 1 ≤ K) (hn : As.length = n) (hst : st = As.reverse ++ .ref b :: rest) (hrest : (rest.map fun v => v.category).sum ≤ 8) (hd : decode cc pc = .ok (.invokespecial ix, 3)) (hnc : nc + mc2 ≤ mc) (hns : ns + ms2 ≤ ms)
    (kk : ∀ u : Nat → Nat, CV g A K mc ms own cc nL z Q (wr ++ wout u) (nc + mc2) (ns + ms2) (pc + 3) lv rest) : CV g A K mc ms own cc nL z Q (wr ++ [(b, en)]) nc ns pc lv st := by
  obtain ⟨p, l, e, R, s, m, args, below, meth, c⟩ := z
  intro hF H locs ls hP hD hS hl
  obtain ⟨hx, hb, hml, ho, hts, hK, hA, hRf, hRl, hRc, hRs⟩ := id hF
  have hC : [wr.length].map (fun i => (wr ++ [(b, en)])[i]?) = [(b, en)].map some := by simp
  have hR : (List.range wr.length).map (fun i => (wr ++ [(b, en)])[i]?) = wr.map some := by
    apply List.ext_getElem
    · simp
    · intro i h1 h2
      simp at h1
      simp [List.getElem?_append_left h1, h1]
  have hPc := hP.sub (ws' := [(b, en)]) [wr.length] (by simp)
  have hDc := hD.sub (ws' := [(b, en)]) [wr.length] (by simp [va_nd]) hC
  have hFc := va_free (wc := [(b, en)]) hD hS hA [wr.length] hC
  have hM := hc l H.size
  have hbl : FrameBlind (va_Pc (.ref b :: As) (fun U => U.heap.size = H.size ∧ va_P g.1 classes [(b, en)] U.heap ∧ KG g U ∧ va_D (fun _ => True) [(b, en)])) := by
    intro a U g0 mk q
    obtain ⟨h1, h2, h3, h4, h5⟩ := q
    exact ⟨h1, h2, h3, va_K.moved (u := U) (U := U.calling g0 mk a) (Vm.Alike.refl U.vm) h4, h5⟩
  have hpre : PreS s H (va_Pc (.ref b :: As) (fun U => U.heap.size = H.size ∧ va_P g.1 classes [(b, en)] U.heap ∧ KG g U ∧ va_D (fun _ => True) [(b, en)])) (.ref b :: As) := ⟨hbl, fun U hU hW => ⟨rfl, by rw [hU], by rw [hU]; exact hPc, va_K.moved hW.alike hK, hDc.weaken (fun _ _ _ _ => trivial)⟩⟩
  have hrun : va_Run p l e R s m args below meth c H locs nc ns mc2 ms2 (F0 m pc ls st) rest ((fun _ st oc t => oc = .returned none ∧ (∃ u : Nat → Nat, va_P g.1 classes (wout u) t.heap ∧ va_D (va_A [(b, en)] H.size) (wout u)) ∧ va_F (va_A [(b, en)] H.size) st t) (Value.ref b :: As).toArray) (va_A [(b, en)] H.size) := by
    cases nest with
    | true =>
      have hlink : va_Nw (.methodLinkNest own ix y host) s := hlink
      exact va_runIN (b := b) (As := As) (rest := rest) ⟨hx, hb, hml, ho, hts⟩ hM ⟨va_cnB n hts (tbl_inC hcode) rfl rfl rfl hlink (hts _ hini) hdd ⟨by show k + 1 ≤ R.frames; omega, by show 8 + (maxL + 11) + 100 * k ≤ R.locals; omega⟩, hnm, hts _ hin⟩ hpre rfl hn hl.1 hst (lv_room hrest) hd ⟨by omega, by omega⟩
    | false =>
      have hlink : Cond.methodLink own ix y ∈ tb := hlink
      exact va_runI (b := b) (As := As) (rest := rest) ⟨hx, hb, hml, ho, hts⟩ hM (cwI n hts (tbl_inC hcode) rfl rfl rfl (hts _ hini) (hts _ hlink) (hts _ hin) hnm hdd ⟨by show k + 1 ≤ R.frames; omega, by show 8 + (maxL + 11) + 100 * k ≤ R.locals; omega⟩) hpre rfl hn hl.1 hst (lv_room hrest) hd ⟨by omega, by omega⟩
  intro T hT X
  obtain ⟨v, st₀, t, T', Ls, h0, X', hL, e1, e2, ⟨hv, ⟨u, hPu, hDu⟩, hz, hk2⟩, stp⟩ := hrun T hT X
  have hv : v = none := by injection hv
  subst hv
  rw [h0] at hz hk2
  obtain ⟨hPj, hDj⟩ := va_join (wr := wr) (w1 := wout u) hP hD [wr.length] (List.range wr.length) hC hR (by
      have hnd : ∀ n : Nat, va_nd (List.range n) = true := fun n => va_nd_range n
      exact hnd _) (by intro i hi; simp at hi; simp; omega) hk2 hFc hPu hDu
  obtain ⟨t2, a1, b1⟩ := kk u hF T'.heap (locs ++ Ls) ls (by rw [e1]; exact hPj) hDj ⟨Nat.le_trans hS.1 (by rw [e1]; exact hz), fun q h1 h2 => by rw [e1, hk2 q (Nat.lt_of_lt_of_le h1 hS.1) (fun zz => h2 (hFc q zz))]; exact hS.2.1 q h1 h2, fun q hq => by
      rcases List.mem_append.mp hq with h | h
      · exact hS.2.2 q h
      · exact hFc _ (hL q h)⟩ hl T' rfl X'
  exact ⟨t2, stp t2 a1, b1⟩
end CROWS2
