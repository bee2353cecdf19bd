
/-- the words of the tables that stay through a call -/
def tb : List Cond := lw_tbl.filter goodWord
theorem tb_mem {w : Cond} (i : Nat) (h : lw_tbl[i]? = some w) (hg : goodWord w = true) : w ∈ tb := List.mem_filter.mpr ⟨List.mem_of_getElem? h, hg⟩
/-! ===== the judgement V: from an abstract state (world of σ, pc, locals, stack) the method ends with what 'res' says, if it says anything ===== -/
abbrev Zt : Type := Program × Launch × Env × Room × State × MethodId × Array Value × List Frame × Method × Code × Nat × Nat
abbrev Gt : Type := va_G × ClassId × ClassId × ClassId × Nat × Option Nat × (Nat → Nat) × (Nat → Nat)
abbrev classes : List vw_C := [(RX0, TX0, 4), (RX1, TX1, 7), (RX2, TX2, 12), (RX3, TX3, 3), (RX4, TX4, 10), (RX5, TX5, 37)]
abbrev tysG (g : Gt) : List (ClassId × FieldType) := [(g.2.1, .int), (g.2.2.1, .object "LighthouseLiedTo$Law"), (g.2.2.2.1, .object "LighthouseLiedTo$Sheet")]
def KG (g : Gt) (U : State) : Prop := va_K g.1 classes (tysG g) U
def kabF (j : Nat) : Int32 := [-1, 0, 0, 1, 2, 0].getD j 0
def txtJS : List String := ["shines 50 + column + row - belief ; fades 3 ; fears belief ;", "belief", "column", "row", "night", "doubt", "draught", "or", "and", "not", "shines", "fades", "fears"]
def lenJS : List Nat := txtJS.map String.length
def bytJS : List (List Int32) := txtJS.map (fun t => t.toList.map (fun c => Int32.ofNat c.toNat))
def ownJS : List (String × Nat) := [(RX4, 49), (RX1, 87), (RX1, 93), (RX1, 95), (RX1, 97), (RX1, 99), (RX1, 101), (RX1, 103), (RX1, 105), (RX1, 107), (RX1, 109), (RX1, 111), (RX1, 113)]
def Ex (g : Gt) (A : Nat → Prop) (U : State) (H : Heap) : Prop :=
  va_Z RX2 "KIND_ABOVE" "[I" (.ref g.2.2.2.2.1) A U H ∧ va_T .int g.2.2.2.2.1 6 (fun j => .int (kabF j)) A U H ∧
  va_Z RJ0 "COMPACT_STRINGS" "Z" (.int 1) A U H ∧ va_Z RJ3 "SIOOBE_FORMATTER" "Ljava/util/function/BiFunction;" (va_rf g.2.2.2.2.2.1) A U H ∧
  vk_S 13 lenJS bytJS g.2.2.2.2.2.2.1 g.2.2.2.2.2.2.2 A U H ∧ ∀ i : Nat, i < 13 → vk_R (ownJS.getD i ("", 0)).1 (ownJS.getD i ("", 0)).2 (txtJS.getD i "") (g.2.2.2.2.2.2.1 i) U
theorem Ex.kept {g : Gt} {A : Nat → Prop} {U : State} {H H1 : Heap} (h : Ex g A U H) (hq : ∀ a : Nat, a < H.size → ¬ A a → H1[a]? = H[a]?) : Ex g A U H1 :=
  ⟨h.1.kept hq, h.2.1.kept hq, h.2.2.1.kept hq, h.2.2.2.1.kept hq, h.2.2.2.2.1.kept hq, h.2.2.2.2.2⟩
theorem Ex.narrow {g : Gt} {A B : Nat → Prop} {U : State} {H : Heap} (h : Ex g A U H) (hAB : ∀ q, B q → A q) : Ex g B U H :=
  ⟨h.1.narrow hAB, h.2.1.narrow hAB, h.2.2.1.narrow hAB, h.2.2.2.1.narrow hAB, h.2.2.2.2.1.narrow hAB, h.2.2.2.2.2⟩
theorem Ex.warm {g : Gt} {A : Nat → Prop} {s U : State} {H : Heap} (hW : s.WarmedH U.vm) (h : Ex g A s H) : Ex g A U H :=
  ⟨va_Z.moved hW.alike h.1, va_T.moved hW.alike h.2.1, va_Z.moved hW.alike h.2.2.1, va_Z.moved hW.alike h.2.2.2.1, vk_S.moved hW.alike h.2.2.2.2.1, fun i hi => vk_R.warm hW (h.2.2.2.2.2 i hi)⟩
theorem Ex.same {g : Gt} {A : Nat → Prop} {u U : State} {H : Heap} (hv : U.vm = u.vm) (h : Ex g A u H) : Ex g A U H := by
  have ha : u.vm.Alike U.vm := by rw [hv]; exact Vm.Alike.refl u.vm
  exact ⟨va_Z.moved ha h.1, va_T.moved ha h.2.1, va_Z.moved ha h.2.2.1, va_Z.moved ha h.2.2.2.1, vk_S.moved ha h.2.2.2.2.1, fun i hi => vk_R.same hv (h.2.2.2.2.2 i hi)⟩
def AA (L : List Nat) (sz : Nat) : Nat → Prop := fun q => q ∈ L ∨ sz ≤ q
theorem AA.mono {L : List Nat} {a b : Nat} (h : a ≤ b) : ∀ q, AA L b q → AA L a q := fun q hq => hq.elim Or.inl (fun x => Or.inr (Nat.le_trans h x))
def rmk (k : Nat) : Room := { frames := k, cells := 0, slots := 0, locals := 100 * k }
def Fx (g : Gt) (L : List Nat) (K : Nat) (own : String) (cc : ByteArray) (nL : Nat) (ret : Option FieldType) (z : Zt) : Prop :=
  match z with
  | (p, _, _, R, s, m, args, _, meth, c, nc, ns) => p.tables.exec = Jvm.exec ∧ c.code = cc ∧ c.maxLocals = nL ∧ meth.sig.returnType = ret ∧ meth.locks = false ∧ s.vm.findClass own = some m.cls ∧ (∀ w ∈ tb, w.before args s = true) ∧ KG g s ∧ Ex g (AA L s.heap.size) s s.heap ∧ L.Nodup ∧ R.frames = K ∧ R.locals = 100 * K ∧ nc ≤ R.cells ∧ ns ≤ R.slots
def CQ {τ ρ : Type} (g : Gt) (wl : τ → va_W) (inj : ρ → Option Value) (L : List Nat) (r : ρ) (σ : τ) : Array Value → State → Outcome → State → Prop := fun _ st oc t =>
  oc = .returned (inj r) ∧ va_P g.1 classes (wl σ) t.heap ∧ va_F (AA L st.heap.size) st t
def V {τ ρ : Type} (g : Gt) (L : List Nat) (K : Nat) (own : String) (cc : ByteArray) (nL : Nat) (ret : Option FieldType) (wl : τ → va_W) (inj : ρ → Option Value) (z : Zt) (res : Option (ρ × τ)) (σ : τ) (pc : Nat) (lv : List (Nat × Value)) (st : List Value) : Prop :=
  match z with
  | (p, l, e, R, s, m, args, below, meth, c, nc, ns) => Fx g L K own cc nL ret (p, l, e, R, s, m, args, below, meth, c, nc, ns) → (∀ σ : τ, (wl σ).map Prod.fst = L) → ∀ (r : ρ) (σ' : τ), res = some (r, σ') → ∀ (H : Heap) (locs : List Loc) (ls : Array Slot), va_P g.1 classes (wl σ) H → va_S (AA L s.heap.size) s.heap H locs → lv_has ls nL lv →
    W p l e R s m args below meth c H locs nc ns (MQ below (CQ g wl inj L r σ') args s nc ns (AA L s.heap.size)) (F0 m pc ls st)
def PRE {τ : Type} (g : Gt) (L : List Nat) (wl : τ → va_W) (σ : τ) (sz : Nat) : State → Prop := fun U => U.heap.size = sz ∧ va_P g.1 classes (wl σ) U.heap ∧ KG g U ∧ Ex g (AA L sz) U U.heap
/-- a method's contract: it does what f says, where f says anything -/
def CT {τ ρ : Type} (g : Gt) (L : List Nat) (y : MethodName) (cc : ByteArray) (nL : Nat) (ret : Option FieldType) (k : Nat) (av : List Value) (inj : ρ → Option Value) (wl : τ → va_W) (f : τ → Option (ρ × τ)) : Prop :=
  L.Nodup → (∀ σ : τ, (wl σ).map Prod.fst = L) → ∀ (l : Launch) (σ : τ) (sz : Nat) (r : ρ) (σ' : τ), f σ = some (r, σ') →
    Met l y (Cond.code y cc nL ret :: tb) (rmk k) (va_Pc av (PRE g L wl σ sz)) (CQ g wl inj L r σ') 0 0 (AA L sz)
def bnd {α β : Type} (o : Option α) (k : α → Option β) : Option β := match o with
  | none => none
  | some q => k q
theorem bnd_some {α β : Type} (a : α) (k : α → Option β) : bnd (some a) k = k a := rfl
theorem bnd_none {α β : Type} (k : α → Option β) : bnd (none : Option α) k = none := rfl
def iI : Int32 → Option Value := fun x => some (.int x)
def iL : Int64 → Option Value := fun x => some (.long x)
def iU : Unit → Option Value := fun _ => none
/-- the locals' list: lookup and store -/
def lk : List (Nat × Value) → Nat → Option Value
  | [], _ => none
  | q :: l, i => bif Nat.beq q.1 i then some q.2 else lk l i
theorem lk_mem {i : Nat} {v : Value} : ∀ {lv : List (Nat × Value)}, lk lv i = some v → (i, v) ∈ lv
  | [], h => by cases h
  | q :: l, h => by
    unfold lk at h
    cases hq : Nat.beq q.1 i with
    | true =>
      rw [hq] at h
      have e : q.1 = i := Nat.eq_of_beq_eq_true hq
      have e2 : q.2 = v := Option.some.inj h
      have : q = (i, v) := Prod.ext e e2
      rw [this]; exact List.mem_cons_self
    | false => rw [hq] at h; exact List.mem_cons_of_mem _ (lk_mem h)
def ls1 (i : Nat) (v : Value) (lv : List (Nat × Value)) : List (Nat × Value) := (i, v) :: lv.filter (fun q => !(q.1 == i) && !(q.1 + 1 == i && q.2.category == 2))
def ls2 (i : Nat) (v : Value) (lv : List (Nat × Value)) : List (Nat × Value) := (i, v) :: lv.filter (fun q => !(q.1 == i) && (!(q.1 == i + 1) && !(q.1 + 1 == i && q.2.category == 2)))
/-- an index guard -/
def grd {α : Type} (i : Int32) (n : Nat) (r : Option α) : Option α := if ¬ (i < 0 ∨ n ≤ i.toNatClampNeg) then r else none
def rI (x y : Int32) : Int32 := x - x / y * y
def rL (x y : Int64) : Int64 := x - x / y * y
def usI (x y : Int32) : Int32 := (x.toUInt32 >>> (y.toUInt32 &&& Int32.toUInt32 31)).toInt32
def slI (x y : Int32) : Int32 := x <<< (y &&& 31)
def srI (x y : Int32) : Int32 := x >>> (y &&& 31)
def slL (x : Int64) (y : Int32) : Int64 := x <<< (y.toInt64 &&& 63)
def srL (x : Int64) (y : Int32) : Int64 := x >>> (y.toInt64 &&& 63)
def usL (x : Int64) (y : Int32) : Int64 := (x.toUInt64 >>> (y.toInt64.toUInt64 &&& Int64.toUInt64 63)).toInt64
def mxI (x y : Int32) : Int32 := if x < y then y else x
def mnI (x y : Int32) : Int32 := if y < x then y else x
section VROWS
variable {τ ρ : Type} {g : Gt} {L : List Nat} {K : Nat} {own : String} {cc : ByteArray} {nL : Nat} {ret : Option FieldType} {wl : τ → va_W} {inj : ρ → Option Value} {z : Zt} {res r1 r2 : Option (ρ × τ)} {σ : τ} {pc : Nat} {lv lv' : List (Nat × Value)} {st : List Value}

theorem v_iload_n {k0 : Fin 4} {i : Nat} {x : Int32} (hd : decode cc pc = .ok (.iload_n k0, 1)) (hi : (k0 : Nat) = i) (h : lk lv i = some (.int x)) (k : V g L K own cc nL ret wl inj z res σ (pc + 1) lv (.int x :: st)) : V g L K own cc nL ret wl inj z res σ pc lv st := by
  obtain ⟨p, l, e, R, s, m, args, below, meth, c, nc, ns⟩ := z
  intro hF hW r σ' hr H locs ls hP hS hl
  exact lv_iload_n hF.1 hF.2.1 hd hi (hl.2.2 _ (lk_mem h)) (k hF hW r σ' hr H locs ls hP hS hl)
theorem v_iload {i : Nat} {x : Int32} (hd : decode cc pc = .ok (.iload i, 2)) (h : lk lv i = some (.int x)) (k : V g L K own cc nL ret wl inj z res σ (pc + 2) lv (.int x :: st)) : V g L K own cc nL ret wl inj z res σ pc lv st := by
  obtain ⟨p, l, e, R, s, m, args, below, meth, c, nc, ns⟩ := z
  intro hF hW r σ' hr H locs ls hP hS hl
  exact lv_iload hF.1 hF.2.1 hd (hl.2.2 _ (lk_mem h)) (k hF hW r σ' hr H locs ls hP hS hl)
theorem v_lload_n {k0 : Fin 4} {i : Nat} {x : Int64} (hd : decode cc pc = .ok (.lload_n k0, 1)) (hi : (k0 : Nat) = i) (h : lk lv i = some (.long x)) (k : V g L K own cc nL ret wl inj z res σ (pc + 1) lv (.long x :: st)) : V g L K own cc nL ret wl inj z res σ pc lv st := by
  obtain ⟨p, l, e, R, s, m, args, below, meth, c, nc, ns⟩ := z
  intro hF hW r σ' hr H locs ls hP hS hl
  exact lv_lload_n hF.1 hF.2.1 hd hi (hl.2.2 _ (lk_mem h)) (k hF hW r σ' hr H locs ls hP hS hl)
theorem v_lload {i : Nat} {x : Int64} (hd : decode cc pc = .ok (.lload i, 2)) (h : lk lv i = some (.long x)) (k : V g L K own cc nL ret wl inj z res σ (pc + 2) lv (.long x :: st)) : V g L K own cc nL ret wl inj z res σ pc lv st := by
  obtain ⟨p, l, e, R, s, m, args, below, meth, c, nc, ns⟩ := z
  intro hF hW r σ' hr H locs ls hP hS hl
  exact lv_lload hF.1 hF.2.1 hd (hl.2.2 _ (lk_mem h)) (k hF hW r σ' hr H locs ls hP hS hl)
theorem v_aload_n {k0 : Fin 4} {i : Nat} {x : Nat} (hd : decode cc pc = .ok (.aload_n k0, 1)) (hi : (k0 : Nat) = i) (h : lk lv i = some (.ref x)) (k : V g L K own cc nL ret wl inj z res σ (pc + 1) lv (.ref x :: st)) : V g L K own cc nL ret wl inj z res σ pc lv st := by
  obtain ⟨p, l, e, R, s, m, args, below, meth, c, nc, ns⟩ := z
  intro hF hW r σ' hr H locs ls hP hS hl
  exact lv_aload_n hF.1 hF.2.1 hd hi (hl.2.2 _ (lk_mem h)) (k hF hW r σ' hr H locs ls hP hS hl)
theorem v_aload {i : Nat} {x : Nat} (hd : decode cc pc = .ok (.aload i, 2)) (h : lk lv i = some (.ref x)) (k : V g L K own cc nL ret wl inj z res σ (pc + 2) lv (.ref x :: st)) : V g L K own cc nL ret wl inj z res σ pc lv st := by
  obtain ⟨p, l, e, R, s, m, args, below, meth, c, nc, ns⟩ := z
  intro hF hW r σ' hr H locs ls hP hS hl
  exact lv_aload hF.1 hF.2.1 hd (hl.2.2 _ (lk_mem h)) (k hF hW r σ' hr H locs ls hP hS hl)
theorem v_aload_nN {k0 : Fin 4} {i : Nat} (hd : decode cc pc = .ok (.aload_n k0, 1)) (hi : (k0 : Nat) = i) (h : lk lv i = some .null) (k : V g L K own cc nL ret wl inj z res σ (pc + 1) lv (.null :: st)) : V g L K own cc nL ret wl inj z res σ pc lv st := by
  obtain ⟨p, l, e, R, s, m, args, below, meth, c, nc, ns⟩ := z
  intro hF hW r σ' hr H locs ls hP hS hl
  exact lv_aload_nN hF.1 hF.2.1 hd hi (hl.2.2 _ (lk_mem h)) (k hF hW r σ' hr H locs ls hP hS hl)
theorem v_iconst {n : Int} {v : Int32} (hd : decode cc pc = .ok (.iconst n, 1)) (hv : Int32.ofInt n = v) (k : V g L K own cc nL ret wl inj z res σ (pc + 1) lv (.int v :: st)) : V g L K own cc nL ret wl inj z res σ pc lv st := by
  obtain ⟨p, l, e, R, s, m, args, below, meth, c, nc, ns⟩ := z
  intro hF hW r σ' hr H locs ls hP hS hl
  exact lv_iconst hF.1 hF.2.1 hd hv (k hF hW r σ' hr H locs ls hP hS hl)
theorem v_bipush {n : Int} {v : Int32} (hd : decode cc pc = .ok (.bipush n, 2)) (hv : (Int8.ofInt n).toInt32 = v) (k : V g L K own cc nL ret wl inj z res σ (pc + 2) lv (.int v :: st)) : V g L K own cc nL ret wl inj z res σ pc lv st := by
  obtain ⟨p, l, e, R, s, m, args, below, meth, c, nc, ns⟩ := z
  intro hF hW r σ' hr H locs ls hP hS hl
  exact lv_bipush hF.1 hF.2.1 hd hv (k hF hW r σ' hr H locs ls hP hS hl)
theorem v_sipush {n : Int} {v : Int32} (hd : decode cc pc = .ok (.sipush n, 3)) (hv : (Int16.ofInt n).toInt32 = v) (k : V g L K own cc nL ret wl inj z res σ (pc + 3) lv (.int v :: st)) : V g L K own cc nL ret wl inj z res σ pc lv st := by
  obtain ⟨p, l, e, R, s, m, args, below, meth, c, nc, ns⟩ := z
  intro hF hW r σ' hr H locs ls hP hS hl
  exact lv_sipush hF.1 hF.2.1 hd hv (k hF hW r σ' hr H locs ls hP hS hl)
theorem v_lconst {n : Fin 2} {v : Int64} (hd : decode cc pc = .ok (.lconst n, 1)) (hv : Int64.ofNat (n : Nat) = v) (k : V g L K own cc nL ret wl inj z res σ (pc + 1) lv (.long v :: st)) : V g L K own cc nL ret wl inj z res σ pc lv st := by
  obtain ⟨p, l, e, R, s, m, args, below, meth, c, nc, ns⟩ := z
  intro hF hW r σ' hr H locs ls hP hS hl
  exact lv_lconst hF.1 hF.2.1 hd hv (k hF hW r σ' hr H locs ls hP hS hl)
theorem v_ldc {ix : Nat} {v : Int32} (hd : decode cc pc = .ok (.ldc ix, 2)) (hc : Cond.constant own ix v ∈ tb) (k : V g L K own cc nL ret wl inj z res σ (pc + 2) lv (.int v :: st)) : V g L K own cc nL ret wl inj z res σ pc lv st := by
  obtain ⟨p, l, e, R, s, m, args, below, meth, c, nc, ns⟩ := z
  intro hF hW r σ' hr H locs ls hP hS hl
  exact lv_ldc hF.1 hF.2.1 hF.2.2.2.2.2.1 (hF.2.2.2.2.2.2.1 _ hc) hd (k hF hW r σ' hr H locs ls hP hS hl)
theorem v_ldcw {ix : Nat} {v : Int32} (hd : decode cc pc = .ok (.ldc_w ix, 3)) (hc : Cond.constant own ix v ∈ tb) (k : V g L K own cc nL ret wl inj z res σ (pc + 3) lv (.int v :: st)) : V g L K own cc nL ret wl inj z res σ pc lv st := by
  obtain ⟨p, l, e, R, s, m, args, below, meth, c, nc, ns⟩ := z
  intro hF hW r σ' hr H locs ls hP hS hl
  exact lv_ldcw hF.1 hF.2.1 hF.2.2.2.2.2.1 (hF.2.2.2.2.2.2.1 _ hc) hd (k hF hW r σ' hr H locs ls hP hS hl)
theorem v_ldc2 {ix : Nat} {v : Int64} (hd : decode cc pc = .ok (.ldc2_w ix, 3)) (hc : Cond.constantLong own ix v ∈ tb) (k : V g L K own cc nL ret wl inj z res σ (pc + 3) lv (.long v :: st)) : V g L K own cc nL ret wl inj z res σ pc lv st := by
  obtain ⟨p, l, e, R, s, m, args, below, meth, c, nc, ns⟩ := z
  intro hF hW r σ' hr H locs ls hP hS hl
  exact lv_ldc2 hF.1 hF.2.1 hF.2.2.2.2.2.1 (hF.2.2.2.2.2.2.1 _ hc) hd (k hF hW r σ' hr H locs ls hP hS hl)
theorem v_istore_n {k0 : Fin 4} {i : Nat} {x : Int32} (hd : decode cc pc = .ok (.istore_n k0, 1)) (hi : (k0 : Nat) = i) (hn : i < nL) (h : ls1 i (.int x) lv = lv') (k : V g L K own cc nL ret wl inj z res σ (pc + 1) lv' st) : V g L K own cc nL ret wl inj z res σ pc lv (.int x :: st) := by
  obtain ⟨p, l, e, R, s, m, args, below, meth, c, nc, ns⟩ := z
  intro hF hW r σ' hr H locs ls hP hS hl
  exact lv_istore_n hF.1 hF.2.1 hd hi hl hn h (fun ls hl => k hF hW r σ' hr H locs ls hP hS hl)
theorem v_istore {i : Nat} {x : Int32} (hd : decode cc pc = .ok (.istore i, 2)) (hn : i < nL) (h : ls1 i (.int x) lv = lv') (k : V g L K own cc nL ret wl inj z res σ (pc + 2) lv' st) : V g L K own cc nL ret wl inj z res σ pc lv (.int x :: st) := by
  obtain ⟨p, l, e, R, s, m, args, below, meth, c, nc, ns⟩ := z
  intro hF hW r σ' hr H locs ls hP hS hl
  exact lv_istore hF.1 hF.2.1 hd hl hn h (fun ls hl => k hF hW r σ' hr H locs ls hP hS hl)
theorem v_lstore_n {k0 : Fin 4} {i : Nat} {x : Int64} (hd : decode cc pc = .ok (.lstore_n k0, 1)) (hi : (k0 : Nat) = i) (hn : i + 1 < nL) (h : ls2 i (.long x) lv = lv') (k : V g L K own cc nL ret wl inj z res σ (pc + 1) lv' st) : V g L K own cc nL ret wl inj z res σ pc lv (.long x :: st) := by
  obtain ⟨p, l, e, R, s, m, args, below, meth, c, nc, ns⟩ := z
  intro hF hW r σ' hr H locs ls hP hS hl
  exact lv_lstore_n hF.1 hF.2.1 hd hi hl hn h (fun ls hl => k hF hW r σ' hr H locs ls hP hS hl)
theorem v_lstore {i : Nat} {x : Int64} (hd : decode cc pc = .ok (.lstore i, 2)) (hn : i + 1 < nL) (h : ls2 i (.long x) lv = lv') (k : V g L K own cc nL ret wl inj z res σ (pc + 2) lv' st) : V g L K own cc nL ret wl inj z res σ pc lv (.long x :: st) := by
  obtain ⟨p, l, e, R, s, m, args, below, meth, c, nc, ns⟩ := z
  intro hF hW r σ' hr H locs ls hP hS hl
  exact lv_lstore hF.1 hF.2.1 hd hl hn h (fun ls hl => k hF hW r σ' hr H locs ls hP hS hl)
theorem v_astore_n {k0 : Fin 4} {i : Nat} {x : Nat} (hd : decode cc pc = .ok (.astore_n k0, 1)) (hi : (k0 : Nat) = i) (hn : i < nL) (h : ls1 i (.ref x) lv = lv') (k : V g L K own cc nL ret wl inj z res σ (pc + 1) lv' st) : V g L K own cc nL ret wl inj z res σ pc lv (.ref x :: st) := by
  obtain ⟨p, l, e, R, s, m, args, below, meth, c, nc, ns⟩ := z
  intro hF hW r σ' hr H locs ls hP hS hl
  exact lv_astore_n hF.1 hF.2.1 hd hi hl hn h (fun ls hl => k hF hW r σ' hr H locs ls hP hS hl)
theorem v_astore {i : Nat} {x : Nat} (hd : decode cc pc = .ok (.astore i, 2)) (hn : i < nL) (h : ls1 i (.ref x) lv = lv') (k : V g L K own cc nL ret wl inj z res σ (pc + 2) lv' st) : V g L K own cc nL ret wl inj z res σ pc lv (.ref x :: st) := by
  obtain ⟨p, l, e, R, s, m, args, below, meth, c, nc, ns⟩ := z
  intro hF hW r σ' hr H locs ls hP hS hl
  exact lv_astore hF.1 hF.2.1 hd hl hn h (fun ls hl => k hF hW r σ' hr H locs ls hP hS hl)
theorem v_iinc {i : Nat} {n : Int} {x w : Int32} (hd : decode cc pc = .ok (.iinc i n, 3)) (hx : lk lv i = some (.int x)) (hv : Int32.ofInt n = w) (hn : i < nL) (h : ls1 i (.int (x + w)) lv = lv') (k : V g L K own cc nL ret wl inj z res σ (pc + 3) lv' st) : V g L K own cc nL ret wl inj z res σ pc lv st := by
  obtain ⟨p, l, e, R, s, m, args, below, meth, c, nc, ns⟩ := z
  intro hF hW r σ' hr H locs ls hP hS hl
  obtain ⟨k0, hk0⟩ := List.getElem?_of_mem (lk_mem hx)
  exact lv_iinc hF.1 hF.2.1 hd hl hk0 (by rw [hv]) hn h (fun ls hl => k hF hW r σ' hr H locs ls hP hS hl)
theorem v_iadd {x y : Int32} (hd : decode cc pc = .ok (.iadd, 1)) (k : V g L K own cc nL ret wl inj z res σ (pc + 1) lv (.int (x + y) :: st)) : V g L K own cc nL ret wl inj z res σ pc lv (.int y :: .int x :: st) := by
  obtain ⟨p, l, e, R, s, m, args, below, meth, c, nc, ns⟩ := z
  intro hF hW r σ' hr H locs ls hP hS hl
  exact lv_iadd hF.1 hF.2.1 hd (k hF hW r σ' hr H locs ls hP hS hl)
theorem v_isub {x y : Int32} (hd : decode cc pc = .ok (.isub, 1)) (k : V g L K own cc nL ret wl inj z res σ (pc + 1) lv (.int (x - y) :: st)) : V g L K own cc nL ret wl inj z res σ pc lv (.int y :: .int x :: st) := by
  obtain ⟨p, l, e, R, s, m, args, below, meth, c, nc, ns⟩ := z
  intro hF hW r σ' hr H locs ls hP hS hl
  exact lv_isub hF.1 hF.2.1 hd (k hF hW r σ' hr H locs ls hP hS hl)
theorem v_imul {x y : Int32} (hd : decode cc pc = .ok (.imul, 1)) (k : V g L K own cc nL ret wl inj z res σ (pc + 1) lv (.int (x * y) :: st)) : V g L K own cc nL ret wl inj z res σ pc lv (.int y :: .int x :: st) := by
  obtain ⟨p, l, e, R, s, m, args, below, meth, c, nc, ns⟩ := z
  intro hF hW r σ' hr H locs ls hP hS hl
  exact lv_imul hF.1 hF.2.1 hd (k hF hW r σ' hr H locs ls hP hS hl)
theorem v_iand {x y : Int32} (hd : decode cc pc = .ok (.iand, 1)) (k : V g L K own cc nL ret wl inj z res σ (pc + 1) lv (.int (x &&& y) :: st)) : V g L K own cc nL ret wl inj z res σ pc lv (.int y :: .int x :: st) := by
  obtain ⟨p, l, e, R, s, m, args, below, meth, c, nc, ns⟩ := z
  intro hF hW r σ' hr H locs ls hP hS hl
  exact lv_iand hF.1 hF.2.1 hd (k hF hW r σ' hr H locs ls hP hS hl)
theorem v_ior {x y : Int32} (hd : decode cc pc = .ok (.ior, 1)) (k : V g L K own cc nL ret wl inj z res σ (pc + 1) lv (.int (x ||| y) :: st)) : V g L K own cc nL ret wl inj z res σ pc lv (.int y :: .int x :: st) := by
  obtain ⟨p, l, e, R, s, m, args, below, meth, c, nc, ns⟩ := z
  intro hF hW r σ' hr H locs ls hP hS hl
  exact lv_ior hF.1 hF.2.1 hd (k hF hW r σ' hr H locs ls hP hS hl)
theorem v_ixor {x y : Int32} (hd : decode cc pc = .ok (.ixor, 1)) (k : V g L K own cc nL ret wl inj z res σ (pc + 1) lv (.int (x ^^^ y) :: st)) : V g L K own cc nL ret wl inj z res σ pc lv (.int y :: .int x :: st) := by
  obtain ⟨p, l, e, R, s, m, args, below, meth, c, nc, ns⟩ := z
  intro hF hW r σ' hr H locs ls hP hS hl
  exact lv_ixor hF.1 hF.2.1 hd (k hF hW r σ' hr H locs ls hP hS hl)
theorem v_ishl {x y : Int32} (hd : decode cc pc = .ok (.ishl, 1)) (k : V g L K own cc nL ret wl inj z res σ (pc + 1) lv (.int (slI x y) :: st)) : V g L K own cc nL ret wl inj z res σ pc lv (.int y :: .int x :: st) := by
  obtain ⟨p, l, e, R, s, m, args, below, meth, c, nc, ns⟩ := z
  intro hF hW r σ' hr H locs ls hP hS hl
  exact lv_ishl hF.1 hF.2.1 hd (k hF hW r σ' hr H locs ls hP hS hl)
theorem v_ishr {x y : Int32} (hd : decode cc pc = .ok (.ishr, 1)) (k : V g L K own cc nL ret wl inj z res σ (pc + 1) lv (.int (srI x y) :: st)) : V g L K own cc nL ret wl inj z res σ pc lv (.int y :: .int x :: st) := by
  obtain ⟨p, l, e, R, s, m, args, below, meth, c, nc, ns⟩ := z
  intro hF hW r σ' hr H locs ls hP hS hl
  exact lv_ishr hF.1 hF.2.1 hd (k hF hW r σ' hr H locs ls hP hS hl)
theorem v_iushr {x y : Int32} (hd : decode cc pc = .ok (.iushr, 1)) (k : V g L K own cc nL ret wl inj z res σ (pc + 1) lv (.int (usI x y) :: st)) : V g L K own cc nL ret wl inj z res σ pc lv (.int y :: .int x :: st) := by
  obtain ⟨p, l, e, R, s, m, args, below, meth, c, nc, ns⟩ := z
  intro hF hW r σ' hr H locs ls hP hS hl
  exact lv_iushr hF.1 hF.2.1 hd rfl (k hF hW r σ' hr H locs ls hP hS hl)
theorem v_idiv {x y : Int32} (hd : decode cc pc = .ok (.idiv, 1)) (hne : ¬ y = 0) (k : V g L K own cc nL ret wl inj z res σ (pc + 1) lv (.int (x / y) :: st)) : V g L K own cc nL ret wl inj z res σ pc lv (.int y :: .int x :: st) := by
  obtain ⟨p, l, e, R, s, m, args, below, meth, c, nc, ns⟩ := z
  intro hF hW r σ' hr H locs ls hP hS hl
  exact lv_idiv hF.1 hF.2.1 hd hne (k hF hW r σ' hr H locs ls hP hS hl)
theorem v_idivG {x y : Int32} (hd : decode cc pc = .ok (.idiv, 1)) (k : V g L K own cc nL ret wl inj z res σ (pc + 1) lv (.int (x / y) :: st)) : V g L K own cc nL ret wl inj z (if ¬ y = 0 then res else none) σ pc lv (.int y :: .int x :: st) := by
  obtain ⟨p, l, e, R, s, m, args, below, meth, c, nc, ns⟩ := z
  intro hF hW r σ' hr H locs ls hP hS hl
  by_cases hne : ¬ y = 0
  · rw [if_pos hne] at hr
    exact lv_idiv hF.1 hF.2.1 hd hne (k hF hW r σ' hr H locs ls hP hS hl)
  · rw [if_neg hne] at hr; cases hr
theorem v_irem {x y : Int32} (hd : decode cc pc = .ok (.irem, 1)) (hne : ¬ y = 0) (k : V g L K own cc nL ret wl inj z res σ (pc + 1) lv (.int (rI x y) :: st)) : V g L K own cc nL ret wl inj z res σ pc lv (.int y :: .int x :: st) := by
  obtain ⟨p, l, e, R, s, m, args, below, meth, c, nc, ns⟩ := z
  intro hF hW r σ' hr H locs ls hP hS hl
  exact lv_irem hF.1 hF.2.1 hd hne (k hF hW r σ' hr H locs ls hP hS hl)
theorem v_iremG {x y : Int32} (hd : decode cc pc = .ok (.irem, 1)) (k : V g L K own cc nL ret wl inj z res σ (pc + 1) lv (.int (rI x y) :: st)) : V g L K own cc nL ret wl inj z (if ¬ y = 0 then res else none) σ pc lv (.int y :: .int x :: st) := by
  obtain ⟨p, l, e, R, s, m, args, below, meth, c, nc, ns⟩ := z
  intro hF hW r σ' hr H locs ls hP hS hl
  by_cases hne : ¬ y = 0
  · rw [if_pos hne] at hr
    exact lv_irem hF.1 hF.2.1 hd hne (k hF hW r σ' hr H locs ls hP hS hl)
  · rw [if_neg hne] at hr; cases hr
theorem v_ineg {x : Int32} (hd : decode cc pc = .ok (.ineg, 1)) (k : V g L K own cc nL ret wl inj z res σ (pc + 1) lv (.int (-x) :: st)) : V g L K own cc nL ret wl inj z res σ pc lv (.int x :: st) := by
  obtain ⟨p, l, e, R, s, m, args, below, meth, c, nc, ns⟩ := z
  intro hF hW r σ' hr H locs ls hP hS hl
  exact lv_ineg hF.1 hF.2.1 hd (k hF hW r σ' hr H locs ls hP hS hl)
theorem v_ladd {x y : Int64} (hd : decode cc pc = .ok (.ladd, 1)) (k : V g L K own cc nL ret wl inj z res σ (pc + 1) lv (.long (x + y) :: st)) : V g L K own cc nL ret wl inj z res σ pc lv (.long y :: .long x :: st) := by
  obtain ⟨p, l, e, R, s, m, args, below, meth, c, nc, ns⟩ := z
  intro hF hW r σ' hr H locs ls hP hS hl
  exact lv_ladd hF.1 hF.2.1 hd (k hF hW r σ' hr H locs ls hP hS hl)
theorem v_lsub {x y : Int64} (hd : decode cc pc = .ok (.lsub, 1)) (k : V g L K own cc nL ret wl inj z res σ (pc + 1) lv (.long (x - y) :: st)) : V g L K own cc nL ret wl inj z res σ pc lv (.long y :: .long x :: st) := by
  obtain ⟨p, l, e, R, s, m, args, below, meth, c, nc, ns⟩ := z
  intro hF hW r σ' hr H locs ls hP hS hl
  exact lv_lsub hF.1 hF.2.1 hd (k hF hW r σ' hr H locs ls hP hS hl)
theorem v_lmul {x y : Int64} (hd : decode cc pc = .ok (.lmul, 1)) (k : V g L K own cc nL ret wl inj z res σ (pc + 1) lv (.long (x * y) :: st)) : V g L K own cc nL ret wl inj z res σ pc lv (.long y :: .long x :: st) := by
  obtain ⟨p, l, e, R, s, m, args, below, meth, c, nc, ns⟩ := z
  intro hF hW r σ' hr H locs ls hP hS hl
  exact lv_lmul hF.1 hF.2.1 hd (k hF hW r σ' hr H locs ls hP hS hl)
theorem v_land {x y : Int64} (hd : decode cc pc = .ok (.land, 1)) (k : V g L K own cc nL ret wl inj z res σ (pc + 1) lv (.long (x &&& y) :: st)) : V g L K own cc nL ret wl inj z res σ pc lv (.long y :: .long x :: st) := by
  obtain ⟨p, l, e, R, s, m, args, below, meth, c, nc, ns⟩ := z
  intro hF hW r σ' hr H locs ls hP hS hl
  exact lv_land hF.1 hF.2.1 hd (k hF hW r σ' hr H locs ls hP hS hl)
theorem v_lor {x y : Int64} (hd : decode cc pc = .ok (.lor, 1)) (k : V g L K own cc nL ret wl inj z res σ (pc + 1) lv (.long (x ||| y) :: st)) : V g L K own cc nL ret wl inj z res σ pc lv (.long y :: .long x :: st) := by
  obtain ⟨p, l, e, R, s, m, args, below, meth, c, nc, ns⟩ := z
  intro hF hW r σ' hr H locs ls hP hS hl
  exact lv_lor hF.1 hF.2.1 hd (k hF hW r σ' hr H locs ls hP hS hl)
theorem v_lxor {x y : Int64} (hd : decode cc pc = .ok (.lxor, 1)) (k : V g L K own cc nL ret wl inj z res σ (pc + 1) lv (.long (x ^^^ y) :: st)) : V g L K own cc nL ret wl inj z res σ pc lv (.long y :: .long x :: st) := by
  obtain ⟨p, l, e, R, s, m, args, below, meth, c, nc, ns⟩ := z
  intro hF hW r σ' hr H locs ls hP hS hl
  exact lv_lxor hF.1 hF.2.1 hd (k hF hW r σ' hr H locs ls hP hS hl)
theorem v_lshl {x : Int64} {y : Int32} (hd : decode cc pc = .ok (.lshl, 1)) (k : V g L K own cc nL ret wl inj z res σ (pc + 1) lv (.long (slL x y) :: st)) : V g L K own cc nL ret wl inj z res σ pc lv (.int y :: .long x :: st) := by
  obtain ⟨p, l, e, R, s, m, args, below, meth, c, nc, ns⟩ := z
  intro hF hW r σ' hr H locs ls hP hS hl
  exact lv_lshl hF.1 hF.2.1 hd rfl (k hF hW r σ' hr H locs ls hP hS hl)
theorem v_lshr {x : Int64} {y : Int32} (hd : decode cc pc = .ok (.lshr, 1)) (k : V g L K own cc nL ret wl inj z res σ (pc + 1) lv (.long (srL x y) :: st)) : V g L K own cc nL ret wl inj z res σ pc lv (.int y :: .long x :: st) := by
  obtain ⟨p, l, e, R, s, m, args, below, meth, c, nc, ns⟩ := z
  intro hF hW r σ' hr H locs ls hP hS hl
  exact lv_lshr hF.1 hF.2.1 hd rfl (k hF hW r σ' hr H locs ls hP hS hl)
theorem v_lushr {x : Int64} {y : Int32} (hd : decode cc pc = .ok (.lushr, 1)) (k : V g L K own cc nL ret wl inj z res σ (pc + 1) lv (.long (usL x y) :: st)) : V g L K own cc nL ret wl inj z res σ pc lv (.int y :: .long x :: st) := by
  obtain ⟨p, l, e, R, s, m, args, below, meth, c, nc, ns⟩ := z
  intro hF hW r σ' hr H locs ls hP hS hl
  exact lv_lushr hF.1 hF.2.1 hd rfl (k hF hW r σ' hr H locs ls hP hS hl)
theorem v_ldiv {x y : Int64} (hd : decode cc pc = .ok (.ldiv, 1)) (hne : ¬ y = 0) (k : V g L K own cc nL ret wl inj z res σ (pc + 1) lv (.long (x / y) :: st)) : V g L K own cc nL ret wl inj z res σ pc lv (.long y :: .long x :: st) := by
  obtain ⟨p, l, e, R, s, m, args, below, meth, c, nc, ns⟩ := z
  intro hF hW r σ' hr H locs ls hP hS hl
  exact lv_ldiv hF.1 hF.2.1 hd hne (k hF hW r σ' hr H locs ls hP hS hl)
theorem v_ldivG {x y : Int64} (hd : decode cc pc = .ok (.ldiv, 1)) (k : V g L K own cc nL ret wl inj z res σ (pc + 1) lv (.long (x / y) :: st)) : V g L K own cc nL ret wl inj z (if ¬ y = 0 then res else none) σ pc lv (.long y :: .long x :: st) := by
  obtain ⟨p, l, e, R, s, m, args, below, meth, c, nc, ns⟩ := z
  intro hF hW r σ' hr H locs ls hP hS hl
  by_cases hne : ¬ y = 0
  · rw [if_pos hne] at hr
    exact lv_ldiv hF.1 hF.2.1 hd hne (k hF hW r σ' hr H locs ls hP hS hl)
  · rw [if_neg hne] at hr; cases hr
theorem v_lrem {x y : Int64} (hd : decode cc pc = .ok (.lrem, 1)) (hne : ¬ y = 0) (k : V g L K own cc nL ret wl inj z res σ (pc + 1) lv (.long (rL x y) :: st)) : V g L K own cc nL ret wl inj z res σ pc lv (.long y :: .long x :: st) := by
  obtain ⟨p, l, e, R, s, m, args, below, meth, c, nc, ns⟩ := z
  intro hF hW r σ' hr H locs ls hP hS hl
  exact lv_lrem hF.1 hF.2.1 hd hne (k hF hW r σ' hr H locs ls hP hS hl)
theorem v_lremG {x y : Int64} (hd : decode cc pc = .ok (.lrem, 1)) (k : V g L K own cc nL ret wl inj z res σ (pc + 1) lv (.long (rL x y) :: st)) : V g L K own cc nL ret wl inj z (if ¬ y = 0 then res else none) σ pc lv (.long y :: .long x :: st) := by
  obtain ⟨p, l, e, R, s, m, args, below, meth, c, nc, ns⟩ := z
  intro hF hW r σ' hr H locs ls hP hS hl
  by_cases hne : ¬ y = 0
  · rw [if_pos hne] at hr
    exact lv_lrem hF.1 hF.2.1 hd hne (k hF hW r σ' hr H locs ls hP hS hl)
  · rw [if_neg hne] at hr; cases hr
theorem v_i2l {x : Int32} (hd : decode cc pc = .ok (.i2l, 1)) (k : V g L K own cc nL ret wl inj z res σ (pc + 1) lv (.long x.toInt64 :: st)) : V g L K own cc nL ret wl inj z res σ pc lv (.int x :: st) := by
  obtain ⟨p, l, e, R, s, m, args, below, meth, c, nc, ns⟩ := z
  intro hF hW r σ' hr H locs ls hP hS hl
  exact lv_i2l hF.1 hF.2.1 hd rfl (k hF hW r σ' hr H locs ls hP hS hl)
theorem v_l2i {x : Int64} (hd : decode cc pc = .ok (.l2i, 1)) (k : V g L K own cc nL ret wl inj z res σ (pc + 1) lv (.int x.toInt32 :: st)) : V g L K own cc nL ret wl inj z res σ pc lv (.long x :: st) := by
  obtain ⟨p, l, e, R, s, m, args, below, meth, c, nc, ns⟩ := z
  intro hF hW r σ' hr H locs ls hP hS hl
  exact lv_l2i hF.1 hF.2.1 hd rfl (k hF hW r σ' hr H locs ls hP hS hl)
theorem v_i2b {x : Int32} (hd : decode cc pc = .ok (.i2b, 1)) (k : V g L K own cc nL ret wl inj z res σ (pc + 1) lv (.int x.toInt8.toInt32 :: st)) : V g L K own cc nL ret wl inj z res σ pc lv (.int x :: st) := by
  obtain ⟨p, l, e, R, s, m, args, below, meth, c, nc, ns⟩ := z
  intro hF hW r σ' hr H locs ls hP hS hl
  exact lv_i2b hF.1 hF.2.1 hd rfl (k hF hW r σ' hr H locs ls hP hS hl)
theorem v_i2s {x : Int32} (hd : decode cc pc = .ok (.i2s, 1)) (k : V g L K own cc nL ret wl inj z res σ (pc + 1) lv (.int x.toInt16.toInt32 :: st)) : V g L K own cc nL ret wl inj z res σ pc lv (.int x :: st) := by
  obtain ⟨p, l, e, R, s, m, args, below, meth, c, nc, ns⟩ := z
  intro hF hW r σ' hr H locs ls hP hS hl
  exact lv_i2s hF.1 hF.2.1 hd rfl (k hF hW r σ' hr H locs ls hP hS hl)
theorem v_i2c {x : Int32} (hd : decode cc pc = .ok (.i2c, 1)) (k : V g L K own cc nL ret wl inj z res σ (pc + 1) lv (.int (x.toUInt32 % 65536).toInt32 :: st)) : V g L K own cc nL ret wl inj z res σ pc lv (.int x :: st) := by
  obtain ⟨p, l, e, R, s, m, args, below, meth, c, nc, ns⟩ := z
  intro hF hW r σ' hr H locs ls hP hS hl
  exact lv_i2c hF.1 hF.2.1 hd rfl (k hF hW r σ' hr H locs ls hP hS hl)
theorem v_lcmp {x y : Int64} (hd : decode cc pc = .ok (.lcmp, 1)) (k : V g L K own cc nL ret wl inj z res σ (pc + 1) lv (.int (lg_cmp x y) :: st)) : V g L K own cc nL ret wl inj z res σ pc lv (.long y :: .long x :: st) := by
  obtain ⟨p, l, e, R, s, m, args, below, meth, c, nc, ns⟩ := z
  intro hF hW r σ' hr H locs ls hP hS hl
  exact W.lcmp hF.1 hF.2.1 hd (k hF hW r σ' hr H locs ls hP hS hl)
theorem v_dup {va : Value} (hd : decode cc pc = .ok (.dup, 1)) (hva : va.category = 1) (k : V g L K own cc nL ret wl inj z res σ (pc + 1) lv (va :: va :: st)) : V g L K own cc nL ret wl inj z res σ pc lv (va :: st) := by
  obtain ⟨p, l, e, R, s, m, args, below, meth, c, nc, ns⟩ := z
  intro hF hW r σ' hr H locs ls hP hS hl
  exact lv_dup hF.1 hF.2.1 hd hva (k hF hW r σ' hr H locs ls hP hS hl)
theorem v_pop {va : Value} (hd : decode cc pc = .ok (.pop, 1)) (hva : va.category = 1) (k : V g L K own cc nL ret wl inj z res σ (pc + 1) lv st) : V g L K own cc nL ret wl inj z res σ pc lv (va :: st) := by
  obtain ⟨p, l, e, R, s, m, args, below, meth, c, nc, ns⟩ := z
  intro hF hW r σ' hr H locs ls hP hS hl
  exact lv_pop hF.1 hF.2.1 hd hva (k hF hW r σ' hr H locs ls hP hS hl)
theorem v_if_eq {x : Int32} {off : Int} {tgt : Nat} (hd : decode cc pc = .ok (.ifCond .eq off, 3)) (ht : (pc : Int) + off = (tgt : Int)) (k1 : V g L K own cc nL ret wl inj z r1 σ tgt lv st) (k2 : V g L K own cc nL ret wl inj z r2 σ (pc + 3) lv st) : V g L K own cc nL ret wl inj z (if x = 0 then r1 else r2) σ pc lv (.int x :: st) := by
  obtain ⟨p, l, e, R, s, m, args, below, meth, c, nc, ns⟩ := z
  intro hF hW r σ' hr H locs ls hP hS hl
  refine lv_if_eq hF.1 hF.2.1 hd ht (fun hc => ?_) (fun hc => ?_)
  · exact k1 hF hW r σ' (by rw [← hr]; first | exact (if_pos hc).symm | simp_all) H locs ls hP hS hl
  · exact k2 hF hW r σ' (by rw [← hr]; first | exact (if_neg hc).symm | simp_all) H locs ls hP hS hl
theorem v_if_ne {x : Int32} {off : Int} {tgt : Nat} (hd : decode cc pc = .ok (.ifCond .ne off, 3)) (ht : (pc : Int) + off = (tgt : Int)) (k1 : V g L K own cc nL ret wl inj z r1 σ tgt lv st) (k2 : V g L K own cc nL ret wl inj z r2 σ (pc + 3) lv st) : V g L K own cc nL ret wl inj z (if x ≠ 0 then r1 else r2) σ pc lv (.int x :: st) := by
  obtain ⟨p, l, e, R, s, m, args, below, meth, c, nc, ns⟩ := z
  intro hF hW r σ' hr H locs ls hP hS hl
  refine lv_if_ne hF.1 hF.2.1 hd ht (fun hc => ?_) (fun hc => ?_)
  · exact k1 hF hW r σ' (by rw [← hr]; first | exact (if_pos hc).symm | simp_all) H locs ls hP hS hl
  · exact k2 hF hW r σ' (by rw [← hr]; first | exact (if_neg hc).symm | simp_all) H locs ls hP hS hl
theorem v_if_lt {x : Int32} {off : Int} {tgt : Nat} (hd : decode cc pc = .ok (.ifCond .lt off, 3)) (ht : (pc : Int) + off = (tgt : Int)) (k1 : V g L K own cc nL ret wl inj z r1 σ tgt lv st) (k2 : V g L K own cc nL ret wl inj z r2 σ (pc + 3) lv st) : V g L K own cc nL ret wl inj z (if x < 0 then r1 else r2) σ pc lv (.int x :: st) := by
  obtain ⟨p, l, e, R, s, m, args, below, meth, c, nc, ns⟩ := z
  intro hF hW r σ' hr H locs ls hP hS hl
  refine lv_if_lt hF.1 hF.2.1 hd ht (fun hc => ?_) (fun hc => ?_)
  · exact k1 hF hW r σ' (by rw [← hr]; first | exact (if_pos hc).symm | simp_all) H locs ls hP hS hl
  · exact k2 hF hW r σ' (by rw [← hr]; first | exact (if_neg hc).symm | simp_all) H locs ls hP hS hl
theorem v_if_ge {x : Int32} {off : Int} {tgt : Nat} (hd : decode cc pc = .ok (.ifCond .ge off, 3)) (ht : (pc : Int) + off = (tgt : Int)) (k1 : V g L K own cc nL ret wl inj z r1 σ tgt lv st) (k2 : V g L K own cc nL ret wl inj z r2 σ (pc + 3) lv st) : V g L K own cc nL ret wl inj z (if 0 ≤ x then r1 else r2) σ pc lv (.int x :: st) := by
  obtain ⟨p, l, e, R, s, m, args, below, meth, c, nc, ns⟩ := z
  intro hF hW r σ' hr H locs ls hP hS hl
  refine lv_if_ge hF.1 hF.2.1 hd ht (fun hc => ?_) (fun hc => ?_)
  · exact k1 hF hW r σ' (by rw [← hr]; first | exact (if_pos hc).symm | simp_all) H locs ls hP hS hl
  · exact k2 hF hW r σ' (by rw [← hr]; first | exact (if_neg hc).symm | simp_all) H locs ls hP hS hl
theorem v_if_gt {x : Int32} {off : Int} {tgt : Nat} (hd : decode cc pc = .ok (.ifCond .gt off, 3)) (ht : (pc : Int) + off = (tgt : Int)) (k1 : V g L K own cc nL ret wl inj z r1 σ tgt lv st) (k2 : V g L K own cc nL ret wl inj z r2 σ (pc + 3) lv st) : V g L K own cc nL ret wl inj z (if 0 < x then r1 else r2) σ pc lv (.int x :: st) := by
  obtain ⟨p, l, e, R, s, m, args, below, meth, c, nc, ns⟩ := z
  intro hF hW r σ' hr H locs ls hP hS hl
  refine lv_if_gt hF.1 hF.2.1 hd ht (fun hc => ?_) (fun hc => ?_)
  · exact k1 hF hW r σ' (by rw [← hr]; first | exact (if_pos hc).symm | simp_all) H locs ls hP hS hl
  · exact k2 hF hW r σ' (by rw [← hr]; first | exact (if_neg hc).symm | simp_all) H locs ls hP hS hl
theorem v_if_le {x : Int32} {off : Int} {tgt : Nat} (hd : decode cc pc = .ok (.ifCond .le off, 3)) (ht : (pc : Int) + off = (tgt : Int)) (k1 : V g L K own cc nL ret wl inj z r1 σ tgt lv st) (k2 : V g L K own cc nL ret wl inj z r2 σ (pc + 3) lv st) : V g L K own cc nL ret wl inj z (if x ≤ 0 then r1 else r2) σ pc lv (.int x :: st) := by
  obtain ⟨p, l, e, R, s, m, args, below, meth, c, nc, ns⟩ := z
  intro hF hW r σ' hr H locs ls hP hS hl
  refine lv_if_le hF.1 hF.2.1 hd ht (fun hc => ?_) (fun hc => ?_)
  · exact k1 hF hW r σ' (by rw [← hr]; first | exact (if_pos hc).symm | simp_all) H locs ls hP hS hl
  · exact k2 hF hW r σ' (by rw [← hr]; first | exact (if_neg hc).symm | simp_all) H locs ls hP hS hl
theorem v_icmp_eq {x y : Int32} {off : Int} {tgt : Nat} (hd : decode cc pc = .ok (.if_icmp .eq off, 3)) (ht : (pc : Int) + off = (tgt : Int)) (k1 : V g L K own cc nL ret wl inj z r1 σ tgt lv st) (k2 : V g L K own cc nL ret wl inj z r2 σ (pc + 3) lv st) : V g L K own cc nL ret wl inj z (if x = y then r1 else r2) σ pc lv (.int y :: .int x :: st) := by
  obtain ⟨p, l, e, R, s, m, args, below, meth, c, nc, ns⟩ := z
  intro hF hW r σ' hr H locs ls hP hS hl
  refine lv_icmp_eq hF.1 hF.2.1 hd ht (fun hc => ?_) (fun hc => ?_)
  · exact k1 hF hW r σ' (by rw [← hr]; first | exact (if_pos hc).symm | simp_all) H locs ls hP hS hl
  · exact k2 hF hW r σ' (by rw [← hr]; first | exact (if_neg hc).symm | simp_all) H locs ls hP hS hl
theorem v_icmp_ne {x y : Int32} {off : Int} {tgt : Nat} (hd : decode cc pc = .ok (.if_icmp .ne off, 3)) (ht : (pc : Int) + off = (tgt : Int)) (k1 : V g L K own cc nL ret wl inj z r1 σ tgt lv st) (k2 : V g L K own cc nL ret wl inj z r2 σ (pc + 3) lv st) : V g L K own cc nL ret wl inj z (if x ≠ y then r1 else r2) σ pc lv (.int y :: .int x :: st) := by
  obtain ⟨p, l, e, R, s, m, args, below, meth, c, nc, ns⟩ := z
  intro hF hW r σ' hr H locs ls hP hS hl
  refine lv_icmp_ne hF.1 hF.2.1 hd ht (fun hc => ?_) (fun hc => ?_)
  · exact k1 hF hW r σ' (by rw [← hr]; first | exact (if_pos hc).symm | simp_all) H locs ls hP hS hl
  · exact k2 hF hW r σ' (by rw [← hr]; first | exact (if_neg hc).symm | simp_all) H locs ls hP hS hl
theorem v_icmp_lt {x y : Int32} {off : Int} {tgt : Nat} (hd : decode cc pc = .ok (.if_icmp .lt off, 3)) (ht : (pc : Int) + off = (tgt : Int)) (k1 : V g L K own cc nL ret wl inj z r1 σ tgt lv st) (k2 : V g L K own cc nL ret wl inj z r2 σ (pc + 3) lv st) : V g L K own cc nL ret wl inj z (if x < y then r1 else r2) σ pc lv (.int y :: .int x :: st) := by
  obtain ⟨p, l, e, R, s, m, args, below, meth, c, nc, ns⟩ := z
  intro hF hW r σ' hr H locs ls hP hS hl
  refine lv_icmp_lt hF.1 hF.2.1 hd ht (fun hc => ?_) (fun hc => ?_)
  · exact k1 hF hW r σ' (by rw [← hr]; first | exact (if_pos hc).symm | simp_all) H locs ls hP hS hl
  · exact k2 hF hW r σ' (by rw [← hr]; first | exact (if_neg hc).symm | simp_all) H locs ls hP hS hl
theorem v_icmp_ge {x y : Int32} {off : Int} {tgt : Nat} (hd : decode cc pc = .ok (.if_icmp .ge off, 3)) (ht : (pc : Int) + off = (tgt : Int)) (k1 : V g L K own cc nL ret wl inj z r1 σ tgt lv st) (k2 : V g L K own cc nL ret wl inj z r2 σ (pc + 3) lv st) : V g L K own cc nL ret wl inj z (if y ≤ x then r1 else r2) σ pc lv (.int y :: .int x :: st) := by
  obtain ⟨p, l, e, R, s, m, args, below, meth, c, nc, ns⟩ := z
  intro hF hW r σ' hr H locs ls hP hS hl
  refine lv_icmp_ge hF.1 hF.2.1 hd ht (fun hc => ?_) (fun hc => ?_)
  · exact k1 hF hW r σ' (by rw [← hr]; first | exact (if_pos hc).symm | simp_all) H locs ls hP hS hl
  · exact k2 hF hW r σ' (by rw [← hr]; first | exact (if_neg hc).symm | simp_all) H locs ls hP hS hl
theorem v_icmp_gt {x y : Int32} {off : Int} {tgt : Nat} (hd : decode cc pc = .ok (.if_icmp .gt off, 3)) (ht : (pc : Int) + off = (tgt : Int)) (k1 : V g L K own cc nL ret wl inj z r1 σ tgt lv st) (k2 : V g L K own cc nL ret wl inj z r2 σ (pc + 3) lv st) : V g L K own cc nL ret wl inj z (if y < x then r1 else r2) σ pc lv (.int y :: .int x :: st) := by
  obtain ⟨p, l, e, R, s, m, args, below, meth, c, nc, ns⟩ := z
  intro hF hW r σ' hr H locs ls hP hS hl
  refine lv_icmp_gt hF.1 hF.2.1 hd ht (fun hc => ?_) (fun hc => ?_)
  · exact k1 hF hW r σ' (by rw [← hr]; first | exact (if_pos hc).symm | simp_all) H locs ls hP hS hl
  · exact k2 hF hW r σ' (by rw [← hr]; first | exact (if_neg hc).symm | simp_all) H locs ls hP hS hl
theorem v_icmp_le {x y : Int32} {off : Int} {tgt : Nat} (hd : decode cc pc = .ok (.if_icmp .le off, 3)) (ht : (pc : Int) + off = (tgt : Int)) (k1 : V g L K own cc nL ret wl inj z r1 σ tgt lv st) (k2 : V g L K own cc nL ret wl inj z r2 σ (pc + 3) lv st) : V g L K own cc nL ret wl inj z (if x ≤ y then r1 else r2) σ pc lv (.int y :: .int x :: st) := by
  obtain ⟨p, l, e, R, s, m, args, below, meth, c, nc, ns⟩ := z
  intro hF hW r σ' hr H locs ls hP hS hl
  refine lv_icmp_le hF.1 hF.2.1 hd ht (fun hc => ?_) (fun hc => ?_)
  · exact k1 hF hW r σ' (by rw [← hr]; first | exact (if_pos hc).symm | simp_all) H locs ls hP hS hl
  · exact k2 hF hW r σ' (by rw [← hr]; first | exact (if_neg hc).symm | simp_all) H locs ls hP hS hl
theorem v_goto {off : Int} {tgt : Nat} (hd : decode cc pc = .ok (.goto off, 3)) (ht : (pc : Int) + off = (tgt : Int)) (k : V g L K own cc nL ret wl inj z res σ tgt lv st) : V g L K own cc nL ret wl inj z res σ pc lv st := by
  obtain ⟨p, l, e, R, s, m, args, below, meth, c, nc, ns⟩ := z
  intro hF hW r σ' hr H locs ls hP hS hl
  exact lv_goto hF.1 hF.2.1 hd ht (k hF hW r σ' hr H locs ls hP hS hl)
theorem v_ifnull {x : Nat} {off : Int} (hd : decode cc pc = .ok (.ifnull off, 3)) (k : V g L K own cc nL ret wl inj z res σ (pc + 3) lv st) : V g L K own cc nL ret wl inj z res σ pc lv (.ref x :: st) := by
  obtain ⟨p, l, e, R, s, m, args, below, meth, c, nc, ns⟩ := z
  intro hF hW r σ' hr H locs ls hP hS hl
  exact lv_ifnull hF.1 hF.2.1 hd (k hF hW r σ' hr H locs ls hP hS hl)
theorem v_ifnullN {off : Int} {tgt : Nat} (hd : decode cc pc = .ok (.ifnull off, 3)) (ht : (pc : Int) + off = (tgt : Int)) (k : V g L K own cc nL ret wl inj z res σ tgt lv st) : V g L K own cc nL ret wl inj z res σ pc lv (.null :: st) := by
  obtain ⟨p, l, e, R, s, m, args, below, meth, c, nc, ns⟩ := z
  intro hF hW r σ' hr H locs ls hP hS hl
  exact lv_ifnullN hF.1 hF.2.1 hd ht (k hF hW r σ' hr H locs ls hP hS hl)
theorem v_ifnonnull {x : Nat} {off : Int} {tgt : Nat} (hd : decode cc pc = .ok (.ifnonnull off, 3)) (ht : (pc : Int) + off = (tgt : Int)) (k : V g L K own cc nL ret wl inj z res σ tgt lv st) : V g L K own cc nL ret wl inj z res σ pc lv (.ref x :: st) := by
  obtain ⟨p, l, e, R, s, m, args, below, meth, c, nc, ns⟩ := z
  intro hF hW r σ' hr H locs ls hP hS hl
  exact lv_ifnonnull hF.1 hF.2.1 hd ht (k hF hW r σ' hr H locs ls hP hS hl)
theorem v_ifnonnullN {off : Int} (hd : decode cc pc = .ok (.ifnonnull off, 3)) (k : V g L K own cc nL ret wl inj z res σ (pc + 3) lv st) : V g L K own cc nL ret wl inj z res σ pc lv (.null :: st) := by
  obtain ⟨p, l, e, R, s, m, args, below, meth, c, nc, ns⟩ := z
  intro hF hW r σ' hr H locs ls hP hS hl
  exact lv_ifnonnullN hF.1 hF.2.1 hd (k hF hW r σ' hr H locs ls hP hS hl)
theorem v_aconst_null  (hd : decode cc pc = .ok (.aconst_null, 1)) (k : V g L K own cc nL ret wl inj z res σ (pc + 1) lv (.null :: st)) : V g L K own cc nL ret wl inj z res σ pc lv st := by
  obtain ⟨p, l, e, R, s, m, args, below, meth, c, nc, ns⟩ := z
  intro hF hW r σ' hr H locs ls hP hS hl
  exact lv_null hF.1 hF.2.1 hd (k hF hW r σ' hr H locs ls hP hS hl)
theorem v_case {c : Prop} [Decidable c] (k1 : c → V g L K own cc nL ret wl inj z r1 σ pc lv st) (k2 : ¬ c → V g L K own cc nL ret wl inj z r2 σ pc lv st) : V g L K own cc nL ret wl inj z (if c then r1 else r2) σ pc lv st := by
  by_cases h : c
  · rw [if_pos h]; exact k1 h
  · rw [if_neg h]; exact k2 h
theorem v_tin {d lo hi : Int} {offs : Array Int} {len : Nat} {x : Int32} {off : Int} {tgt : Nat} {n : Int32} (hx : x = n) (hd : decode cc pc = .ok (.tableswitch d lo hi offs, len)) (h1 : ¬ n.toInt < lo) (h2 : ¬ hi < n.toInt) (ho : offs[(n.toInt - lo).toNat]? = some off) (ht : (pc : Int) + off = (tgt : Int)) (k : V g L K own cc nL ret wl inj z res σ tgt lv st) : V g L K own cc nL ret wl inj z res σ pc lv (.int x :: st) := by
  subst hx
  obtain ⟨p, l, e, R, s, m, args, below, meth, c, nc, ns⟩ := z
  intro hF hW r σ' hr H locs ls hP hS hl
  exact lv_tableIn hF.1 hF.2.1 hd h1 h2 ho ht (k hF hW r σ' hr H locs ls hP hS hl)
theorem v_tout {d lo hi : Int} {offs : Array Int} {len : Nat} {x : Int32} {tgt : Nat} (hd : decode cc pc = .ok (.tableswitch d lo hi offs, len)) (h : x.toInt < lo ∨ hi < x.toInt) (ht : (pc : Int) + d = (tgt : Int)) (k : V g L K own cc nL ret wl inj z res σ tgt lv st) : V g L K own cc nL ret wl inj z res σ pc lv (.int x :: st) := by
  obtain ⟨p, l, e, R, s, m, args, below, meth, c, nc, ns⟩ := z
  intro hF hW r σ' hr H locs ls hP hS hl
  exact lv_tableOut hF.1 hF.2.1 hd h ht (k hF hW r σ' hr H locs ls hP hS hl)

theorem tsw_out {x : Int32} (lo : Int) (n : Nat) (h : ∀ k : Nat, k < n → ¬ x.toInt = lo + (k : Int)) : x.toInt < lo ∨ lo + (n : Int) - 1 < x.toInt := by
  by_cases h1 : x.toInt < lo
  · exact Or.inl h1
  · refine Or.inr ?_
    by_cases h2 : lo + (n : Int) - 1 < x.toInt
    · exact h2
    · have h3 := h (x.toInt - lo).toNat (by omega)
      omega
theorem tsw_ne {x n : Int32} {a : Int} (h : ¬ x = n) (e : n.toInt = a) : ¬ x.toInt = a := fun q => h (Int32.toInt_inj.mp (q.trans e.symm))
theorem v_none : V g L K own cc nL ret wl inj z none σ pc lv st := by
  obtain ⟨p, l, e, R, s, m, args, below, meth, c, nc, ns⟩ := z
  intro hF hW r σ' hr H locs ls hP hS hl
  cases hr
theorem v_eq (h : res = r1) (k : V g L K own cc nL ret wl inj z r1 σ pc lv st) : V g L K own cc nL ret wl inj z res σ pc lv st := by rw [h]; exact k
theorem v_sub (ks : List Nat) (h : lv_pick lv ks = lv') (k : V g L K own cc nL ret wl inj z res σ pc lv' st) : V g L K own cc nL ret wl inj z res σ pc lv st := by
  obtain ⟨p, l, e, R, s, m, args, below, meth, c, nc, ns⟩ := z
  intro hF hW r σ' hr H locs ls hP hS hl
  exact k hF hW r σ' hr H locs ls hP hS (lv_sub hl ks h)
theorem v_get {a ci N ix q0 : Nat} {C ref : String} {T : u_T} {fs : List Value} {v : Value} (k0 : Nat) (he : (wl σ)[q0]? = some (a, .inr (ci, fs))) (hc : classes[ci]? = some (C, T, N)) (hin : ∀ w ∈ u_ws C T N, w ∈ tb) (hk : k0 < N) (hv : fs[k0]? = some v) (href : (T k0).1 = ref) (hl0 : Cond.fieldLink own ix ref (T k0).2.1 (T k0).2.2.1 ∈ tb) (hd : decode cc pc = .ok (.getfield ix, 3)) (k : V g L K own cc nL ret wl inj z res σ (pc + 3) lv (v :: st)) : V g L K own cc nL ret wl inj z res σ pc lv (.ref a :: st) := by
  obtain ⟨p, l, e, R, s, m, args, below, meth, c, nc, ns⟩ := z
  intro hF hW r σ' hr H locs ls hP hS hl
  subst href
  exact va_get (C := C) (T := T) (N := N) hF.1 hF.2.1 hF.2.2.2.2.2.2.1 hin hF.2.2.2.2.2.1 hF.2.2.2.2.2.2.2.1 hP q0 he hc k0 hk (hF.2.2.2.2.2.2.1 _ hl0) (fun _ h9 => h9) hv hd (k hF hW r σ' hr H locs ls hP hS hl)
theorem va_D_of {A : Nat → Prop} {ws : va_W} (hn : (ws.map Prod.fst).Nodup) (hA : ∀ a ∈ ws.map Prod.fst, A a) : va_D A ws := by
  refine ⟨fun i j p q hi hj hpq => ?_, fun k q hk => hA _ (List.mem_map.mpr ⟨q, List.mem_of_getElem? hk, rfl⟩)⟩
  have h1 : (ws.map Prod.fst)[i]? = some p.1 := by rw [List.getElem?_map, hi]; rfl
  have h2 : (ws.map Prod.fst)[j]? = some p.1 := by rw [List.getElem?_map, hj, hpq]; rfl
  obtain ⟨l1, e1⟩ := List.getElem?_eq_some_iff.mp h1
  obtain ⟨l2, e2⟩ := List.getElem?_eq_some_iff.mp h2
  exact (List.getElem_inj hn).mp (e1.trans e2.symm)
theorem va_D_wl {L : List Nat} {wl : τ → va_W} (hn : L.Nodup) (hW : ∀ σ : τ, (wl σ).map Prod.fst = L) (sz : Nat) (σ : τ) : va_D (AA L sz) (wl σ) := va_D_of (by rw [hW]; exact hn) (fun a h => Or.inl (by rw [hW] at h; exact h))
theorem v_put {a ci N ix q0 : Nat} {C ref : String} {T : u_T} {fs : List Value} {v : Value} {σ1 : τ} {ty : FieldType} {ty0 : Nat → FieldType} (k0 : Nat) (he : (wl σ)[q0]? = some (a, .inr (ci, fs))) (hc : classes[ci]? = some (C, T, N)) (hin : ∀ w ∈ u_ws C T N, w ∈ tb) (hty : ∀ k, k < N → parseFieldDescriptor (T k).2.2.1 = some (ty0 k)) (hnm : ∀ a, a < N → ∀ b, b < N → a ≠ b → (T a).2.1 ≠ (T b).2.1) (hk : k0 < N) (href : (T k0).1 = ref) (hfin : (T k0).2.2.2 = false) (hpd : parseFieldDescriptor (T k0).2.2.1 = some ty) (hn : narrow ty v = v) (hfit : fits ty v = true) (hlen : k0 < fs.length) (hset : (wl σ).set q0 (a, .inr (ci, fs.set k0 v)) = wl σ1) (hl0 : Cond.fieldLink own ix ref (T k0).2.1 (T k0).2.2.1 ∈ tb) (hd : decode cc pc = .ok (.putfield ix, 3)) (k : V g L K own cc nL ret wl inj z res σ1 (pc + 3) lv st) : V g L K own cc nL ret wl inj z res σ pc lv (v :: .ref a :: st) := by
  obtain ⟨p, l, e, R, s, m, args, below, meth, c, nc, ns⟩ := z
  intro hF hW r σ' hr H locs ls hP hS hl
  subst href
  exact va_put (C := C) (T := T) (N := N) hF.1 hF.2.1 hF.2.2.2.2.2.2.1 hin ty0 hty hnm hF.2.2.2.2.2.1 hF.2.2.2.2.2.2.2.1 hP (va_D_wl hF.2.2.2.2.2.2.2.2.2.1 hW _ σ) hS q0 he hc k0 hk (hF.2.2.2.2.2.2.1 _ hl0) (fun _ h9 => h9) hfin hpd hn hfit hlen hd (fun H1 locs1 hP1 _ hS1 => k hF hW r σ' hr H1 locs1 ls (by rw [← hset]; exact hP1) hS1 hl)
theorem v_ialdI {a q0 n : Nat} {f : Nat → Int32} {i : Int32} (he : (wl σ)[q0]? = some (a, .inl (g.2.1, n, .inl f))) (hin : vp_in i n) (hd : decode cc pc = .ok (.iaload, 1)) (k : V g L K own cc nL ret wl inj z res σ (pc + 1) lv (.int (f i.toNatClampNeg) :: st)) : V g L K own cc nL ret wl inj z res σ pc lv (.int i :: .ref a :: st) := by
  obtain ⟨p, l, e, R, s, m, args, below, meth, c, nc, ns⟩ := z
  intro hF hW r σ' hr H locs ls hP hS hl
  exact va_iald hF.1 hF.2.1 hF.2.2.2.2.2.2.2.1 hP q0 0 he rfl hin hd (k hF hW r σ' hr H locs ls hP hS hl)
theorem v_iald {a q0 n : Nat} {f : Nat → Int32} {i : Int32} (he : (wl σ)[q0]? = some (a, .inl (g.2.1, n, .inl f))) (hd : decode cc pc = .ok (.iaload, 1)) (k : V g L K own cc nL ret wl inj z res σ (pc + 1) lv (.int (f i.toNatClampNeg) :: st)) : V g L K own cc nL ret wl inj z (grd i n res) σ pc lv (.int i :: .ref a :: st) := by
  unfold grd
  exact v_case (fun h => v_ialdI he h hd k) (fun _ => v_none)
theorem v_iastI {a q0 n : Nat} {f : Nat → Int32} {i x : Int32} {σ1 : τ} (he : (wl σ)[q0]? = some (a, .inl (g.2.1, n, .inl f))) (hin : vp_in i n) (hset : (wl σ).set q0 (a, .inl (g.2.1, n, .inl (upd f i.toNatClampNeg x))) = wl σ1) (hd : decode cc pc = .ok (.iastore, 1)) (k : V g L K own cc nL ret wl inj z res σ1 (pc + 1) lv st) : V g L K own cc nL ret wl inj z res σ pc lv (.int x :: .int i :: .ref a :: st) := by
  obtain ⟨p, l, e, R, s, m, args, below, meth, c, nc, ns⟩ := z
  intro hF hW r σ' hr H locs ls hP hS hl
  exact va_iast hF.1 hF.2.1 hF.2.2.2.2.2.2.2.1 hP (va_D_wl hF.2.2.2.2.2.2.2.2.2.1 hW _ σ) hS q0 0 he rfl hin hd (fun H1 locs1 hP1 _ hS1 => k hF hW r σ' hr H1 locs1 ls (by rw [← hset]; exact hP1) hS1 hl)
theorem v_iast {a q0 n : Nat} {f : Nat → Int32} {i x : Int32} {σ1 : τ} (he : (wl σ)[q0]? = some (a, .inl (g.2.1, n, .inl f))) (hset : (wl σ).set q0 (a, .inl (g.2.1, n, .inl (upd f i.toNatClampNeg x))) = wl σ1) (hd : decode cc pc = .ok (.iastore, 1)) (k : V g L K own cc nL ret wl inj z res σ1 (pc + 1) lv st) : V g L K own cc nL ret wl inj z (grd i n res) σ pc lv (.int x :: .int i :: .ref a :: st) := by
  unfold grd
  exact v_case (fun h => v_iastI he h hset hd k) (fun _ => v_none)
theorem v_alen {a q0 : Nat} {x : vp_A} {cA : ClassId} {ty : FieldType} {t0 : Nat} {v : Int32} (he : (wl σ)[q0]? = some (a, .inl (cA, x))) (ht : (tysG g)[t0]? = some (cA, ty)) (hv : Int32.ofNat x.1 = v) (hd : decode cc pc = .ok (.arraylength, 1)) (k : V g L K own cc nL ret wl inj z res σ (pc + 1) lv (.int v :: st)) : V g L K own cc nL ret wl inj z res σ pc lv (.ref a :: st) := by
  obtain ⟨p, l, e, R, s, m, args, below, meth, c, nc, ns⟩ := z
  intro hF hW r σ' hr H locs ls hP hS hl
  exact va_alen hF.1 hF.2.1 hF.2.2.2.2.2.2.2.1 hP q0 t0 he ht hv hd (k hF hW r σ' hr H locs ls hP hS hl)
theorem v_aald {a q0 n : Nat} {cA : ClassId} {C : String} {t0 : Nat} {f : Nat → Option Nat} {i : Int32} (he : (wl σ)[q0]? = some (a, .inl (cA, n, .inr (.inr (.inr (.inr f)))))) (ht : (tysG g)[t0]? = some (cA, .object C)) (hd : decode cc pc = .ok (.aaload, 1)) (k : i.toNatClampNeg < n → V g L K own cc nL ret wl inj z res σ (pc + 1) lv (va_rf (f i.toNatClampNeg) :: st)) : V g L K own cc nL ret wl inj z (grd i n res) σ pc lv (.int i :: .ref a :: st) := by
  unfold grd
  refine v_case (fun h => ?_) (fun _ => v_none)
  have hn : i.toNatClampNeg < n := by
    rcases Nat.lt_or_ge i.toNatClampNeg n with q | q
    · exact q
    · exact absurd (Or.inr q) h
  replace k := k hn
  obtain ⟨p, l, e, R, s, m, args, below, meth, c, nc, ns⟩ := z
  intro hF hW r σ' hr H locs ls hP hS hl
  exact va_aldq hF.1 hF.2.1 hF.2.2.2.2.2.2.2.1 hP q0 t0 he ht h hd (k hF hW r σ' hr H locs ls hP hS hl)
theorem v_iret {x : Int32} (hd : decode cc pc = .ok (.ireturn, 1)) : V g L K own cc nL (some .int) wl iI z (some (x, σ)) σ pc lv [.int x] := by
  obtain ⟨p, l, e, R, s, m, args, below, meth, c, nc, ns⟩ := z
  intro hF hW r σ' hr H locs ls hP hS hl
  cases hr
  exact W.iret hF.1 hF.2.1 hF.2.2.2.1 (fun t ht hW => ⟨rfl, by rw [ht]; exact hP, hS.F ht⟩) hS.2.2 hd hF.2.2.2.2.1
theorem v_nret {x : Int32} {ty : FieldType} (hn : narrow ty (.int x) = .int x) (hd : decode cc pc = .ok (.ireturn, 1)) : V g L K own cc nL (some ty) wl iI z (some (x, σ)) σ pc lv [.int x] := by
  obtain ⟨p, l, e, R, s, m, args, below, meth, c, nc, ns⟩ := z
  intro hF hW r σ' hr H locs ls hP hS hl
  cases hr
  exact W.zret hF.1 hF.2.1 hF.2.2.2.1 hn (fun t ht hW => ⟨rfl, by rw [ht]; exact hP, hS.F ht⟩) hS.2.2 hd hF.2.2.2.2.1
theorem v_zret {x : Int32} (hd : decode cc pc = .ok (.ireturn, 1)) : V g L K own cc nL (some .boolean) wl iI z (if x = 0 ∨ x = 1 then some (x, σ) else none) σ pc lv [.int x] := by
  refine v_case (fun h => v_nret (by rcases h with h | h <;> (subst h; rfl)) hd) (fun _ => v_none)
theorem v_lret {x : Int64} (hd : decode cc pc = .ok (.lreturn, 1)) : V g L K own cc nL (some .long) wl iL z (some (x, σ)) σ pc lv [.long x] := by
  obtain ⟨p, l, e, R, s, m, args, below, meth, c, nc, ns⟩ := z
  intro hF hW r σ' hr H locs ls hP hS hl
  cases hr
  exact W.lret hF.1 hF.2.1 hF.2.2.2.1 (fun t ht hW => ⟨rfl, by rw [ht]; exact hP, hS.F ht⟩) hS.2.2 hd hF.2.2.2.2.1
theorem v_ret {u : Unit} (hd : decode cc pc = .ok (.return_, 1)) : V g L K own cc nL none wl iU z (some (u, σ)) σ pc lv [] := by
  obtain ⟨p, l, e, R, s, m, args, below, meth, c, nc, ns⟩ := z
  intro hF hW r σ' hr H locs ls hP hS hl
  cases hr
  exact W.vret hF.1 hF.2.1 hF.2.2.2.1 (fun t ht hW => ⟨rfl, by rw [ht]; exact hP, hS.F ht⟩) hS.2.2 hd hF.2.2.2.2.1
theorem ct_of_V {y : MethodName} {av : List Value} {lv0 : List (Nat × Value)} {f : τ → Option (ρ × τ)} (hy : plainName y.cls = true) (hown : y.cls = own) (hls : (lg_sl av).length ≤ nL) (hlv : lv_args 0 av = lv0) (h : ∀ (z : Zt) (σ : τ), V g L K own cc nL ret wl inj z (f σ) σ 0 lv0 []) : CT g L y cc nL ret K av inj wl f := by
  intro hnd hwl l σ sz r σ' hr
  refine Met.ofW (cc := cc) (maxL := nL) (ret := ret) hy rfl ?_
  intro p e s m args below meth c s₁ B hml hv
  obtain ⟨rfl, hsz, hP, hK, hE⟩ := hv
  subst hsz
  have hts := atoms_spec (ws := Cond.code y cc nL ret :: tb) B.pre
  have ho : s.vm.findClass own = some m.cls := hown ▸ findClass_of_methodNamed B.named
  have hl := lv_entry av (n := nL) hls
  rw [hlv] at hl
  rw [lg_entry_eq]
  exact h (p, l, e, _, s, m, _, below, meth, c, 0, 0) σ ⟨B.exec, B.bytes, hml, B.returns, B.notSynchronized, ho, fun w hw => hts w (List.mem_cons_of_mem _ hw), hK, hE, hnd, rfl, rfl, Nat.zero_le _, Nat.zero_le _⟩ hwl r σ' hr s.heap [] _ hP va_S.rf hl
end VROWS

theorem tbl_in : GoodIn tb tb := fun w hw => ⟨hw, good_of_word (List.mem_filter.mp hw).2⟩
theorem tbl_inC {w : Cond} (h : w ∈ tb) : GoodIn tb (w :: tb) := fun v hv => by
  rcases List.mem_cons.mp hv with rfl | hv
  · exact tbl_in _ h
  · exact tbl_in _ hv
/-- what a call needs of a method -/
def MS (y : MethodName) (cc : ByteArray) (nL : Nat) (ret : Option FieldType) (n : Nat) : Prop := Cond.code y cc nL ret ∈ tb ∧ Cond.initialized y.cls ∈ tb ∧ Cond.static y ∈ tb ∧ (y.cls ≠ "java/lang/invoke/MethodHandle" ∧ y.cls ≠ "java/lang/invoke/VarHandle" ∧ (parseMethodDescriptor y.desc).map (fun d => d.parameters.length) = some n) ∧ nL ≤ 80
def MV (y : MethodName) (cc : ByteArray) (nL : Nat) (ret : Option FieldType) (n : Nat) : Prop := Cond.code y cc nL ret ∈ tb ∧ Cond.initialized y.cls ∈ tb ∧ (Cond.instanceMethod y ∈ tb ∧ Cond.selects y.cls y y ∈ tb) ∧ (y.cls ≠ "java/lang/invoke/MethodHandle" ∧ y.cls ≠ "java/lang/invoke/VarHandle" ∧ (parseMethodDescriptor y.desc).map (fun d => d.parameters.length) = some n) ∧ nL ≤ 80
theorem pre_blind {τ : Type} {g : Gt} {L : List Nat} {wl : τ → va_W} {σ : τ} {sz : Nat} (av : List Value) : FrameBlind (va_Pc av (PRE g L wl σ sz)) := by
  intro a U g0 mk q
  obtain ⟨h1, h2, h3, h4, h5⟩ := q
  exact ⟨h1, h2, h3, va_K.moved (u := U) (U := U.calling g0 mk a) (Vm.Alike.refl U.vm) h4, Ex.same rfl h5⟩
theorem pre_of {τ : Type} {g : Gt} {L : List Nat} {wl : τ → va_W} {σ : τ} {s : State} {H : Heap} {locs : List Loc} (hK : KG g s) (hE : Ex g (AA L s.heap.size) s s.heap) (hP : va_P g.1 classes (wl σ) H) (hS : va_S (AA L s.heap.size) s.heap H locs) : ∀ U : State, U.heap = H → s.WarmedH U.vm → PRE g L wl σ H.size U := by
  intro U hU hW
  refine ⟨by rw [hU], by rw [hU]; exact hP, va_K.moved hW.alike hK, ?_⟩
  rw [hU]
  exact Ex.warm hW ((hE.kept hS.2.1).narrow (AA.mono hS.1))
section VCALL
variable {p : Program} {l : Launch} {e : Env} {R : Room} {s : State} {m : MethodId} {args : Array Value} {below : List Frame} {meth : Method} {c : Code} {H : Heap} {locs : List Loc} {Q : State → Prop} {τ ρ : Type} {g : Gt} {L : List Nat} {wl : τ → va_W} {inj : ρ → Option Value} {pc : Nat} {ls : Array Slot} {st0 rest : List Value} {r1 : ρ} {σ1 : τ} {aa : Array Value}
theorem w_call {nc ns : Nat} (hr : va_Run p l e R s m args below meth c H locs nc ns 0 0 (F0 m pc ls st0) rest (CQ g wl inj L r1 σ1 aa) (AA L H.size)) (hS : va_S (AA L s.heap.size) s.heap H locs)
    (kk : ∀ (H1 : Heap) (locs1 : List Loc), va_P g.1 classes (wl σ1) H1 → va_S (AA L s.heap.size) s.heap H1 locs1 → W p l e R s m args below meth c H1 locs1 nc ns Q (F0 m (pc + 3) ls ((inj r1).toList ++ rest))) : W p l e R s m args below meth c H locs nc ns Q (F0 m pc ls st0) := by
  intro T hT X
  obtain ⟨v, st₀, t, T', Ls, h0, X', hL, e1, e2, ⟨hv, hp, hz, hk⟩, stp⟩ := hr T hT X
  have hv : v = inj r1 := by injection hv
  subst hv
  rw [h0] at hz hk
  have hA := AA.mono (L := L) hS.1
  obtain ⟨t2, a1, b1⟩ := kk T'.heap (locs ++ Ls) (by rw [e1]; exact hp)
    ⟨Nat.le_trans hS.1 (by rw [e1]; exact hz), fun q h1 h2 => by rw [e1, hk q (Nat.lt_of_lt_of_le h1 hS.1) (fun z => h2 (hA q z))]; exact hS.2.1 q h1 h2, fun q hq => by
      rcases List.mem_append.mp hq with h | h
      · exact hS.2.2 q h
      · exact hA _ (hL q h)⟩ T' rfl X'
  exact ⟨t2, stp t2 a1, b1⟩
end VCALL
/-- a receiver's class -/
def RC {τ : Type} (wl : τ → va_W) (σ : τ) (b : Nat) (C : String) : Prop := ∃ (q0 ci : Nat) (fs : List Value) (q : vw_C), (wl σ)[q0]? = some (b, .inr (ci, fs)) ∧ classes[ci]? = some q ∧ q.1 = C
section VROWS2
variable {τ ρ ρ2 : Type} {g : Gt} {L : List Nat} {K : Nat} {own : String} {cc : ByteArray} {nL : Nat} {ret : Option FieldType} {wl : τ → va_W} {inj : ρ → Option Value} {z : Zt} {res r1 r2 : Option (ρ × τ)} {σ : τ} {pc : Nat} {lv lv' : List (Nat × Value)} {st rest : List Value}
  {y : MethodName} {bytes : ByteArray} {maxL k n ix b : Nat} {ret2 : Option FieldType} {av As : List Value} {inj2 : ρ2 → Option Value} {f : τ → Option (ρ2 × τ)} {kf : ρ2 × τ → Option (ρ × τ)}
theorem v_callS (hc : CT g L y bytes maxL ret2 k av inj2 wl f) (mi : MS y bytes maxL ret2 n) (hlink : Cond.methodLink own ix y ∈ tb) (hk : k + 1 ≤ K) (hn : av.length = n) (hst : st = av.reverse ++ rest) (hrest : (rest.map fun v => v.category).sum ≤ 8) (hd : decode cc pc = .ok (.invokestatic ix, 3))
    (kk : ∀ (q : ρ2 × τ), V g L K own cc nL ret wl inj z (kf q) q.2 (pc + 3) lv ((inj2 q.1).toList ++ rest)) : V g L K own cc nL ret wl inj z (bnd (f σ) kf) σ pc lv st := by
  obtain ⟨p, l, e, R, s, m, args, below, meth, c, nc, ns⟩ := z
  intro hF hW r σ' hr H locs ls hP hS hl
  cases hf : f σ with
  | none => rw [hf] at hr; cases hr
  | some q =>
    obtain ⟨q1, q2⟩ := q
    rw [hf, bnd_some] at hr
    obtain ⟨hx, hb, hml, hret, hlk, ho, hts, hK, hE, hnd, hRf, hRl, hRc, hRs⟩ := hF
    have hM := hc hnd hW l σ H.size q1 q2 hf
    have hcw := va_cwS (own := own) (index := ix) (R := R) (bytes := bytes) (maxL := maxL) (ret := ret2) (mc := 0) (ms := 0) (Ts := tb) (ws := Cond.code y bytes maxL ret2 :: tb) (ws' := tb) (rm := rmk k) n hts (fun w hw => by
      rcases List.mem_append.mp (show w ∈ ([.methodLink own ix y, .static y, .initialized y.cls] : List Cond) ++ (Cond.code y bytes maxL ret2 :: tb) from hw) with h | h
      · rcases List.mem_cons.mp h with rfl | h
        · exact tbl_in _ hlink
        · rcases List.mem_cons.mp h with rfl | h
          · exact tbl_in _ mi.2.2.1
          · rcases List.mem_cons.mp h with rfl | h
            · exact tbl_in _ mi.2.1
            · cases h
      · exact tbl_inC mi.1 _ h) rfl rfl rfl mi.2.2.2.1 ⟨by show k + 1 ≤ R.frames; omega, by have := mi.2.2.2.2; show 8 + (maxL + 11) + 100 * k ≤ R.locals; omega⟩
    refine w_call (va_runS (As := av) (rest := rest) ⟨hx, hb, hml, ho, hts⟩ hM hcw ⟨pre_blind av, fun U hU hWm => ⟨rfl, pre_of hK hE hP hS U hU hWm⟩⟩ rfl hn hl.1 hst (lv_room hrest) hd ⟨hRc, hRs⟩) hS (fun H1 locs1 hP1 hS1 => ?_)
    exact kk (q1, q2) ⟨hx, hb, hml, hret, hlk, ho, hts, hK, hE, hnd, hRf, hRl, hRc, hRs⟩ hW r σ' hr H1 locs1 ls hP1 hS1 hl
theorem v_callVr (hrecv : ∀ (H : Heap), va_P g.1 classes (wl σ) H → ∀ s : State, KG g s → ∀ locs, Ex g (AA L s.heap.size) s s.heap → va_S (AA L s.heap.size) s.heap H locs → ∃ cellB : Cell, H[b]? = some cellB ∧ cellB.vm.isStatics = false ∧ s.vm.findClass y.cls = some cellB.cls) (hc : CT g L y bytes maxL ret2 k (.ref b :: As) inj2 wl f) (mi : MV y bytes maxL ret2 n) (hlink : Cond.methodLink own ix y ∈ tb) (hk : k + 1 ≤ K) (hn : As.length = n) (hst : st = As.reverse ++ .ref b :: rest) (hrest : (rest.map fun v => v.category).sum ≤ 8) (hd : decode cc pc = .ok (.invokevirtual ix, 3))
    (kk : ∀ (q : ρ2 × τ), V g L K own cc nL ret wl inj z (kf q) q.2 (pc + 3) lv ((inj2 q.1).toList ++ rest)) : V g L K own cc nL ret wl inj z (bnd (f σ) kf) σ pc lv st := by
  obtain ⟨p, l, e, R, s, m, args, below, meth, c, nc, ns⟩ := z
  intro hF hW r σ' hr H locs ls hP hS hl
  cases hf : f σ with
  | none => rw [hf] at hr; cases hr
  | some q =>
    obtain ⟨q1, q2⟩ := q
    rw [hf, bnd_some] at hr
    obtain ⟨hx, hb, hml, hret, hlk, ho, hts, hK, hE, hnd, hRf, hRl, hRc, hRs⟩ := hF
    have hM := hc hnd hW l σ H.size q1 q2 hf
    have hcw := cwV (own := own) (index := ix) (C := y.cls) (R := R) (bytes := bytes) (maxL := maxL) (ret := ret2) (mc := 0) (ms := 0) (Ts := tb) (ws := Cond.code y bytes maxL ret2 :: tb) (ws' := tb) (rm := rmk k) n hts (fun w hw => by
      rcases List.mem_append.mp (show w ∈ ([.methodLink own ix y, .instanceMethod y, .selects y.cls y y, .initialized y.cls] : List Cond) ++ (Cond.code y bytes maxL ret2 :: tb) from hw) with h | h
      · rcases List.mem_cons.mp h with rfl | h
        · exact tbl_in _ hlink
        · rcases List.mem_cons.mp h with rfl | h
          · exact tbl_in _ mi.2.2.1.1
          · rcases List.mem_cons.mp h with rfl | h
            · exact tbl_in _ mi.2.2.1.2
            · rcases List.mem_cons.mp h with rfl | h
              · exact tbl_in _ mi.2.1
              · cases h
      · exact tbl_inC mi.1 _ h) rfl rfl rfl ⟨rfl, mi.2.2.2.1⟩ ⟨by show k + 1 ≤ R.frames; omega, by have := mi.2.2.2.2; show 8 + (maxL + 11) + 100 * k ≤ R.locals; omega⟩
    refine w_call (va_runV (b := b) (As := As) (rest := rest) ⟨hx, hb, hml, ho, hts⟩ hM hcw ⟨pre_blind _, hrecv H hP s hK locs hE hS, fun U hU hWm => ⟨rfl, pre_of hK hE hP hS U hU hWm⟩⟩ rfl hn hl.1 hst (lv_room hrest) hd ⟨hRc, hRs⟩) hS (fun H1 locs1 hP1 hS1 => ?_)
    exact kk (q1, q2) ⟨hx, hb, hml, hret, hlk, ho, hts, hK, hE, hnd, hRf, hRl, hRc, hRs⟩ hW r σ' hr H1 locs1 ls hP1 hS1 hl
theorem v_callV (hrc : RC wl σ b y.cls) (hc : CT g L y bytes maxL ret2 k (.ref b :: As) inj2 wl f) (mi : MV y bytes maxL ret2 n) (hlink : Cond.methodLink own ix y ∈ tb) (hk : k + 1 ≤ K) (hn : As.length = n) (hst : st = As.reverse ++ .ref b :: rest) (hrest : (rest.map fun v => v.category).sum ≤ 8) (hd : decode cc pc = .ok (.invokevirtual ix, 3))
    (kk : ∀ (q : ρ2 × τ), V g L K own cc nL ret wl inj z (kf q) q.2 (pc + 3) lv ((inj2 q.1).toList ++ rest)) : V g L K own cc nL ret wl inj z (bnd (f σ) kf) σ pc lv st := by
  refine v_callVr (fun H hP s hK _ _ _ => ?_) hc mi hlink hk hn hst hrest hd kk
  obtain ⟨q0, ci, fs, q, h1, h2, h3⟩ := hrc
  have h4 := va_recv hK hP h2 h1
  rw [h3] at h4
  exact h4
theorem v_mmax {x y0 : Int32} (hlink : Cond.methodLink own ix yJ9_max_7cf53 ∈ tb) (hs : Cond.static yJ9_max_7cf53 ∈ tb) (hi : Cond.initialized "java/lang/Math" ∈ tb) (hco : Cond.code yJ9_max_7cf53 cJ9_max_7cf53 2 (some .int) ∈ tb) (hK1 : 1 ≤ K) (hrest : (rest.map fun v => v.category).sum ≤ 8) (hd : decode cc pc = .ok (.invokestatic ix, 3)) (kk : V g L K own cc nL ret wl inj z res σ (pc + 3) lv (.int (mxI x y0) :: rest)) : V g L K own cc nL ret wl inj z res σ pc lv (.int y0 :: .int x :: rest) := by
  obtain ⟨p, l, e, R, s, m, args, below, meth, c, nc, ns⟩ := z
  intro hF hW r σ' hr H locs ls hP hS hl
  obtain ⟨hx, hb, hml, hret, hlk, ho, hts, hK, hE, hnd, hRf, hRl, hRc, hRs⟩ := id hF
  exact va_mmax hx hb (hml.trans hl.1.symm) ho (hts _ hlink) (hts _ hs) (hts _ hi) (hts _ hco) (by omega) (by rw [hRl]; omega) hRc hRs hd (kk hF hW r σ' hr H locs ls hP hS hl)
theorem v_mmin {x y0 : Int32} (hlink : Cond.methodLink own ix yJ9_min_7cf53 ∈ tb) (hs : Cond.static yJ9_min_7cf53 ∈ tb) (hi : Cond.initialized "java/lang/Math" ∈ tb) (hco : Cond.code yJ9_min_7cf53 cJ9_min_7cf53 2 (some .int) ∈ tb) (hK1 : 1 ≤ K) (hrest : (rest.map fun v => v.category).sum ≤ 8) (hd : decode cc pc = .ok (.invokestatic ix, 3)) (kk : V g L K own cc nL ret wl inj z res σ (pc + 3) lv (.int (mnI x y0) :: rest)) : V g L K own cc nL ret wl inj z res σ pc lv (.int y0 :: .int x :: rest) := by
  obtain ⟨p, l, e, R, s, m, args, below, meth, c, nc, ns⟩ := z
  intro hF hW r σ' hr H locs ls hP hS hl
  obtain ⟨hx, hb, hml, hret, hlk, ho, hts, hK, hE, hnd, hRf, hRl, hRc, hRs⟩ := id hF
  exact va_mmin hx hb (hml.trans hl.1.symm) ho (hts _ hlink) (hts _ hs) (hts _ hi) (hts _ hco) (by omega) (by rw [hRl]; omega) hRc hRs hd (kk hF hW r σ' hr H locs ls hP hS hl)
end VROWS2
