-- PURE SIDE: the state of a class's cells (cell, slot), and the small words that the printed functions are made of
abbrev St : Type := Nat → Nat → Int32
def sta (s : St) (k : Nat) (f : Nat → Int32) : St := fun a => if a = k then f else s a
def stp (s : St) (k j : Nat) (v : Int32) : St := sta s k (upd (s k) j v)
def FU : Nat := 1000000
def lt1 {α β : Type} (v : α) (k : α → β) : β := k v
theorem lt1_e {α β : Type} {v : α} {k : α → β} {z : β} (h : lt1 v k = z) : ∃ r, r = v ∧ k r = z := ⟨v, rfl, h⟩
def bd {α σ β : Type} (o : Option (α × σ)) (k : α → σ → Option β) : Option β := match o with
  | some q => k q.1 q.2
  | none => none
theorem bd_e {α σ β : Type} {o : Option (α × σ)} {k : α → σ → Option β} {z : β} (h : bd o k = some z) : ∃ r s, o = some (r, s) ∧ k r s = some z := by
  cases o with
  | none => cases h
  | some q => exact ⟨q.1, q.2, rfl, h⟩
def bd1 {α β : Type} (o : Option α) (k : α → Option β) : Option β := match o with
  | some r => k r
  | none => none
theorem bd1_e {α β : Type} {o : Option α} {k : α → Option β} {z : β} (h : bd1 o k = some z) : ∃ r, o = some r ∧ k r = some z := by
  cases o with
  | none => cases h
  | some q => exact ⟨q, rfl, h⟩
def gi {β : Type} (i : Int32) (n : Nat) (o : Option β) : Option β := if ¬ (i < 0 ∨ n ≤ i.toNatClampNeg) then o else none
theorem gi_e {β : Type} {i : Int32} {n : Nat} {o : Option β} {z : β} (h : gi i n o = some z) : vp_in i n ∧ o = some z := by
  unfold gi at h
  split at h
  · exact ⟨by assumption, h⟩
  · cases h
def gzl {β : Type} (y : Int64) (o : Option β) : Option β := if y = 0 then none else o
theorem gzl_e {β : Type} {y : Int64} {o : Option β} {z : β} (h : gzl y o = some z) : ¬ y = 0 ∧ o = some z := by
  unfold gzl at h
  split at h
  · cases h
  · exact ⟨by assumption, h⟩
def gzi {β : Type} (y : Int32) (o : Option β) : Option β := if y = 0 then none else o
theorem gzi_e {β : Type} {y : Int32} {o : Option β} {z : β} (h : gzi y o = some z) : ¬ y = 0 ∧ o = some z := by
  unfold gzi at h
  split at h
  · cases h
  · exact ⟨by assumption, h⟩
def bz {β : Type} (v : Int32) (o : Option β) : Option β := if v = 0 ∨ v = 1 then o else none
theorem bz_e {β : Type} {v : Int32} {o : Option β} {z : β} (h : bz v o = some z) : (v = 0 ∨ v = 1) ∧ o = some z := by
  unfold bz at h
  split at h
  · exact ⟨by assumption, h⟩
  · cases h
def ush (x y : Int32) : Int32 := (x.toUInt32 >>> (y.toUInt32 &&& Int32.toUInt32 31)).toInt32
theorem ite_t {α : Type} {c : Prop} [inst : Decidable c] {a b z : α} (hc : c) (h : (if c then a else b) = z) : a = z := by rw [if_pos hc] at h; exact h
theorem ite_f {α : Type} {c : Prop} [inst : Decidable c] {a b z : α} (hc : ¬ c) (h : (if c then a else b) = z) : b = z := by rw [if_neg hc] at h; exact h
theorem so1 {α : Type} {a z : α} (h : some a = some z) : a = z := Option.some.inj h
-- what rows and tables answer
def rIn (n : Nat) (i : Int32) : Prop := 0 ≤ i ∧ i < nI n
def rGet (n : Nat) (f : Nat → Int32) (i : Int32) : Int32 := if i < 0 then 0 else if nI n ≤ i then 0 else f i.toNatClampNeg
def rSetF (n : Nat) (f : Nat → Int32) (i v : Int32) : Nat → Int32 := if i < 0 then f else if nI n ≤ i then f else upd f i.toNatClampNeg v
def rSet (s : St) (k n : Nat) (i v : Int32) : St := sta s k (rSetF n (s k) i v)
def aFillF (n : Nat) (f : Nat → Int32) (v : Int32) : Nat → Int32 := fun j => if j < n then v else f j
def aFill (s : St) (k n : Nat) : St := sta s k (aFillF n (s k) 0)
def tHas (c row : Int32) : Int32 := if row < 0 then 0 else if c ≤ row then 0 else 1
def tGet (h w : Nat) (f : Nat → Int32) (row col : Int32) : Int32 := if row < 0 then 0 else if nI h ≤ row then 0 else if col < 0 then 0 else if col < nI w then rGet (h * w) f (row * nI w + col) else 0
def tSetF (h w : Nat) (f : Nat → Int32) (row col v : Int32) : Nat → Int32 := if row < 0 then f else if nI h ≤ row then f else if col < 0 then f else if col < nI w then rSetF (h * w) f (row * nI w + col) v else f
def tSet (s : St) (k h w : Nat) (row col v : Int32) : St := sta s k (tSetF h w (s k) row col v)
-- MACHINE SIDE: contracts over a whole world
abbrev GX : Type := (Nat → ClassId) × (Nat → Nat → Nat) × (ClassId × ClassId × ClassId) × (Nat → Nat)
abbrev GX.cI (g : GX) : ClassId := g.2.2.1.1
abbrev GX.cJ (g : GX) : ClassId := g.2.2.1.2.1
abbrev GX.cZ (g : GX) : ClassId := g.2.2.1.2.2
def GX.q (g : GX) : Nat → Nat := g.2.2.2
abbrev GX.D (g : GX) : va_G := (g.1, g.2.1)
abbrev GX.t (g : GX) : List (ClassId × FieldType) := [(g.cI, .int), (g.cJ, .long), (g.cZ, .boolean)]
def rmX (d L : Nat) : Room := { frames := d, cells := 0, slots := 0, locals := L }
def NW (U : State) : Prop := ∀ w ∈ nestW, va_Nw w U
/-- the one static array that the class reads -/
def hdr (j : Nat) : Int32 := match j with
  | 1 => 97
  | 2 => 115
  | 3 => 109
  | 4 => 1
  | _ => 0
def SX (A : Nat → Prop) (U : State) : Prop := ∃ t : Nat, va_Z "WasmMachine$Reader" "HEADER" "[I" (.ref t) A U U.heap ∧ va_T .int t 8 (fun j => .int (hdr j)) A U U.heap
def Cx (g : GX) (A : Nat → Prop) (p : Program) (m : MethodId) (c : Code) (cc : ByteArray) (nL : Nat) (s : State) (args : Array Value) (own : String) : Prop :=
  CallFix p m c cc nL s args TB own ∧ va_K g.D classes g.t s ∧ ((∀ q, s.heap.size ≤ q → A q) ∧ SX A s) ∧ NW s
def XW (g : GX) (A : Nat → Prop) (s : State) (ws : va_W) (H : Heap) (locs : List Loc) : Prop := va_P g.D classes ws H ∧ va_D A ws ∧ va_S A s.heap H locs
def xPre (g : GX) (av : List Value) (ws : va_W) (sz : Nat) : Array Value → State → Prop := va_Pc av (fun U => U.heap.size = sz ∧ va_P g.D classes ws U.heap ∧ va_K g.D classes g.t U ∧ va_D (fun _ => True) ws ∧ SX (va_A ws sz) U ∧ NW U)
/-- a method that answers an int (or a boolean) r and leaves the world ws' -/
def MI (l : Launch) (g : GX) (y : MethodName) (cc : ByteArray) (nL : Nat) (ret : Option FieldType) (d L : Nat) (av : List Value) (ws : va_W) (r : Int32) (ws' : va_W) : Prop := ∀ sz : Nat,
  Met l y (Cond.code y cc nL ret :: TB) (rmX d L) (xPre g av ws sz) (va_Qi (fun r' (_ : Unit) => r' = r) (fun _ t => va_P g.D classes ws' t.heap ∧ va_D (va_A ws sz) ws') (va_A ws sz)) 0 0 (va_A ws sz)
def ML (l : Launch) (g : GX) (y : MethodName) (cc : ByteArray) (nL : Nat) (ret : Option FieldType) (d L : Nat) (av : List Value) (ws : va_W) (r : Int64) (ws' : va_W) : Prop := ∀ sz : Nat,
  Met l y (Cond.code y cc nL ret :: TB) (rmX d L) (xPre g av ws sz) (va_Ql (fun r' (_ : Unit) => r' = r) (fun _ t => va_P g.D classes ws' t.heap ∧ va_D (va_A ws sz) ws') (va_A ws sz)) 0 0 (va_A ws sz)
def MV (l : Launch) (g : GX) (y : MethodName) (cc : ByteArray) (nL : Nat) (ret : Option FieldType) (d L : Nat) (av : List Value) (ws : va_W) (ws' : va_W) : Prop := ∀ sz : Nat,
  Met l y (Cond.code y cc nL ret :: TB) (rmX d L) (xPre g av ws sz) (va_Qv (fun (_ : Unit) => True) (fun _ t => va_P g.D classes ws' t.heap ∧ va_D (va_A ws sz) ws') (va_A ws sz)) 0 0 (va_A ws sz)
theorem NW.blind {U : State} {f : JFrame} {mk : MethodId} {a : Array Value} (h : NW U) : NW (U.calling f mk a) := fun w hw => va_Nw.same (u := U) (U := U.calling f mk a) (nestW_ok w hw) rfl (h w hw)
theorem xPre_blind {g : GX} {av : List Value} {ws : va_W} {sz : Nat} : FrameBlind (xPre g av ws sz) := fun a U f mk q => by
  obtain ⟨q0, q1, qP, qK, qD, ⟨t, qZ, qT⟩, qN⟩ := q
  exact ⟨q0, q1, qP, va_K.moved (u := U) (U := U.calling f mk a) (Vm.Alike.refl U.vm) qK, qD, ⟨t, va_Z.moved (u := U) (U := U.calling f mk a) (Vm.Alike.refl U.vm) qZ, va_T.moved (u := U) (U := U.calling f mk a) (Vm.Alike.refl U.vm) qT⟩, qN.blind⟩
section BASE
variable {p : Program} {l : Launch} {e : Env} {R : Room} {s : State} {m : MethodId} {args : Array Value} {below : List Frame} {meth : Method} {c : Code} {H : Heap} {locs : List Loc} {cells slots : Nat} {Q : State → Prop}
variable {cc : ByteArray} {pc : Nat} {ls : Array Slot} {rest : List Value} {g : GX} {A : Nat → Prop} {ws ws' : va_W} {nL : Nat} {own : String}
theorem x_iadd (hexec : p.tables.exec = Jvm.exec) (hb : c.code = cc) {x y v : Int32} (hdg : decode cc pc = .ok (.iadd, 1)) (hv : v = x + y) (k : W p l e R s m args below meth c H locs cells slots Q (F0 m (pc + 1) ls (.int v :: rest))) : W p l e R s m args below meth c H locs cells slots Q (F0 m pc ls (.int y :: .int x :: rest)) := lv_iadd hexec hb hdg (hv ▸ k)
theorem x_isub (hexec : p.tables.exec = Jvm.exec) (hb : c.code = cc) {x y v : Int32} (hdg : decode cc pc = .ok (.isub, 1)) (hv : v = x - y) (k : W p l e R s m args below meth c H locs cells slots Q (F0 m (pc + 1) ls (.int v :: rest))) : W p l e R s m args below meth c H locs cells slots Q (F0 m pc ls (.int y :: .int x :: rest)) := lv_isub hexec hb hdg (hv ▸ k)
theorem x_imul (hexec : p.tables.exec = Jvm.exec) (hb : c.code = cc) {x y v : Int32} (hdg : decode cc pc = .ok (.imul, 1)) (hv : v = x * y) (k : W p l e R s m args below meth c H locs cells slots Q (F0 m (pc + 1) ls (.int v :: rest))) : W p l e R s m args below meth c H locs cells slots Q (F0 m pc ls (.int y :: .int x :: rest)) := lv_imul hexec hb hdg (hv ▸ k)
theorem x_iand (hexec : p.tables.exec = Jvm.exec) (hb : c.code = cc) {x y v : Int32} (hdg : decode cc pc = .ok (.iand, 1)) (hv : v = x &&& y) (k : W p l e R s m args below meth c H locs cells slots Q (F0 m (pc + 1) ls (.int v :: rest))) : W p l e R s m args below meth c H locs cells slots Q (F0 m pc ls (.int y :: .int x :: rest)) := lv_iand hexec hb hdg (hv ▸ k)
theorem x_ior (hexec : p.tables.exec = Jvm.exec) (hb : c.code = cc) {x y v : Int32} (hdg : decode cc pc = .ok (.ior, 1)) (hv : v = x ||| y) (k : W p l e R s m args below meth c H locs cells slots Q (F0 m (pc + 1) ls (.int v :: rest))) : W p l e R s m args below meth c H locs cells slots Q (F0 m pc ls (.int y :: .int x :: rest)) := lv_ior hexec hb hdg (hv ▸ k)
theorem x_ixor (hexec : p.tables.exec = Jvm.exec) (hb : c.code = cc) {x y v : Int32} (hdg : decode cc pc = .ok (.ixor, 1)) (hv : v = x ^^^ y) (k : W p l e R s m args below meth c H locs cells slots Q (F0 m (pc + 1) ls (.int v :: rest))) : W p l e R s m args below meth c H locs cells slots Q (F0 m pc ls (.int y :: .int x :: rest)) := lv_ixor hexec hb hdg (hv ▸ k)
theorem x_ishl (hexec : p.tables.exec = Jvm.exec) (hb : c.code = cc) {x y v : Int32} (hdg : decode cc pc = .ok (.ishl, 1)) (hv : v = x <<< (y &&& 31)) (k : W p l e R s m args below meth c H locs cells slots Q (F0 m (pc + 1) ls (.int v :: rest))) : W p l e R s m args below meth c H locs cells slots Q (F0 m pc ls (.int y :: .int x :: rest)) := lv_ishl hexec hb hdg (hv ▸ k)
theorem x_ishr (hexec : p.tables.exec = Jvm.exec) (hb : c.code = cc) {x y v : Int32} (hdg : decode cc pc = .ok (.ishr, 1)) (hv : v = x >>> (y &&& 31)) (k : W p l e R s m args below meth c H locs cells slots Q (F0 m (pc + 1) ls (.int v :: rest))) : W p l e R s m args below meth c H locs cells slots Q (F0 m pc ls (.int y :: .int x :: rest)) := lv_ishr hexec hb hdg (hv ▸ k)
theorem x_ineg (hexec : p.tables.exec = Jvm.exec) (hb : c.code = cc) {x v : Int32} (hdg : decode cc pc = .ok (.ineg, 1)) (hv : v = -x) (k : W p l e R s m args below meth c H locs cells slots Q (F0 m (pc + 1) ls (.int v :: rest))) : W p l e R s m args below meth c H locs cells slots Q (F0 m pc ls (.int x :: rest)) := lv_ineg hexec hb hdg (hv ▸ k)
theorem x_idiv (hexec : p.tables.exec = Jvm.exec) (hb : c.code = cc) {x y v : Int32} (hdg : decode cc pc = .ok (.idiv, 1)) (hne : ¬ y = 0) (hv : v = x / y) (k : W p l e R s m args below meth c H locs cells slots Q (F0 m (pc + 1) ls (.int v :: rest))) : W p l e R s m args below meth c H locs cells slots Q (F0 m pc ls (.int y :: .int x :: rest)) := lv_idiv hexec hb hdg hne (hv ▸ k)
theorem x_irem (hexec : p.tables.exec = Jvm.exec) (hb : c.code = cc) {x y v : Int32} (hdg : decode cc pc = .ok (.irem, 1)) (hne : ¬ y = 0) (hv : v = x - x / y * y) (k : W p l e R s m args below meth c H locs cells slots Q (F0 m (pc + 1) ls (.int v :: rest))) : W p l e R s m args below meth c H locs cells slots Q (F0 m pc ls (.int y :: .int x :: rest)) := lv_irem hexec hb hdg hne (hv ▸ k)
theorem x_ladd (hexec : p.tables.exec = Jvm.exec) (hb : c.code = cc) {x y v : Int64} (hdg : decode cc pc = .ok (.ladd, 1)) (hv : v = x + y) (k : W p l e R s m args below meth c H locs cells slots Q (F0 m (pc + 1) ls (.long v :: rest))) : W p l e R s m args below meth c H locs cells slots Q (F0 m pc ls (.long y :: .long x :: rest)) := lv_ladd hexec hb hdg (hv ▸ k)
theorem x_lsub (hexec : p.tables.exec = Jvm.exec) (hb : c.code = cc) {x y v : Int64} (hdg : decode cc pc = .ok (.lsub, 1)) (hv : v = x - y) (k : W p l e R s m args below meth c H locs cells slots Q (F0 m (pc + 1) ls (.long v :: rest))) : W p l e R s m args below meth c H locs cells slots Q (F0 m pc ls (.long y :: .long x :: rest)) := lv_lsub hexec hb hdg (hv ▸ k)
theorem x_land (hexec : p.tables.exec = Jvm.exec) (hb : c.code = cc) {x y v : Int64} (hdg : decode cc pc = .ok (.land, 1)) (hv : v = x &&& y) (k : W p l e R s m args below meth c H locs cells slots Q (F0 m (pc + 1) ls (.long v :: rest))) : W p l e R s m args below meth c H locs cells slots Q (F0 m pc ls (.long y :: .long x :: rest)) := lv_land hexec hb hdg (hv ▸ k)
theorem x_ldiv (hexec : p.tables.exec = Jvm.exec) (hb : c.code = cc) {x y v : Int64} (hdg : decode cc pc = .ok (.ldiv, 1)) (hne : ¬ y = 0) (hv : v = x / y) (k : W p l e R s m args below meth c H locs cells slots Q (F0 m (pc + 1) ls (.long v :: rest))) : W p l e R s m args below meth c H locs cells slots Q (F0 m pc ls (.long y :: .long x :: rest)) := lv_ldiv hexec hb hdg hne (hv ▸ k)
theorem x_lrem (hexec : p.tables.exec = Jvm.exec) (hb : c.code = cc) {x y v : Int64} (hdg : decode cc pc = .ok (.lrem, 1)) (hne : ¬ y = 0) (hv : v = x - x / y * y) (k : W p l e R s m args below meth c H locs cells slots Q (F0 m (pc + 1) ls (.long v :: rest))) : W p l e R s m args below meth c H locs cells slots Q (F0 m pc ls (.long y :: .long x :: rest)) := lv_lrem hexec hb hdg hne (hv ▸ k)
theorem x_lcmp (hexec : p.tables.exec = Jvm.exec) (hb : c.code = cc) {x y : Int64} {v : Int32} (hdg : decode cc pc = .ok (.lcmp, 1)) (hv : v = lg_cmp x y) (k : W p l e R s m args below meth c H locs cells slots Q (F0 m (pc + 1) ls (.int v :: rest))) : W p l e R s m args below meth c H locs cells slots Q (F0 m pc ls (.long y :: .long x :: rest)) := W.lcmp hexec hb hdg (hv ▸ k)
theorem x_lor (hexec : p.tables.exec = Jvm.exec) (hb : c.code = cc) {x y v : Int64} (hdg : decode cc pc = .ok (.lor, 1)) (hv : v = x ||| y) (k : W p l e R s m args below meth c H locs cells slots Q (F0 m (pc + 1) ls (.long v :: rest))) : W p l e R s m args below meth c H locs cells slots Q (F0 m pc ls (.long y :: .long x :: rest)) := lv_lor hexec hb hdg (hv ▸ k)
theorem x_lmul (hexec : p.tables.exec = Jvm.exec) (hb : c.code = cc) {x y v : Int64} (hdg : decode cc pc = .ok (.lmul, 1)) (hv : v = x * y) (k : W p l e R s m args below meth c H locs cells slots Q (F0 m (pc + 1) ls (.long v :: rest))) : W p l e R s m args below meth c H locs cells slots Q (F0 m pc ls (.long y :: .long x :: rest)) := lv_lmul hexec hb hdg (hv ▸ k)
theorem XW.free (C : Cx g A p m c cc nL s args own) (hX : XW g A s ws H locs) : ∀ q, va_A ws H.size q → A q := by
  intro q h
  rcases h with ⟨k, e, h⟩ | h
  · exact hX.2.1.2 k (q, e) h
  · exact C.2.2.1.1 q (Nat.le_trans hX.2.2.1 h)
theorem NW.warm {s U : State} (hW : s.WarmedH U.vm) (h : NW s) : NW U := fun w hw => nestW_warm w hw hW (h w hw)
theorem x_preU (C : Cx g A p m c cc nL s args own) (hX : XW g A s ws H locs) {av : List Value} : ∀ U : State, U.heap = H → s.WarmedH U.vm → xPre g av ws H.size av.toArray U := fun U hU hW =>
  ⟨rfl, by rw [hU], by rw [hU]; exact hX.1, va_K.moved hW.alike C.2.1, hX.2.1.weaken (fun _ _ _ _ => trivial), by
    obtain ⟨t, hZ, hT⟩ := C.2.2.1.2
    have hk : ∀ a : Nat, a < s.heap.size → ¬ A a → U.heap[a]? = s.heap[a]? := fun a h1 h2 => by rw [hU]; exact hX.2.2.2.1 a h1 h2
    exact ⟨t, ((hZ.kept hk).moved hW.alike).narrow (XW.free C hX), ((hT.kept hk).moved hW.alike).narrow (XW.free C hX)⟩, NW.warm hW C.2.2.2⟩
theorem x_rc (C : Cx g A p m c cc nL s args own) (hX : XW g A s ws H locs) {q0 a ci : Nat} {fs : List Value} (he : ws[q0]? = some (a, .inr (ci, fs))) {Cn : String} {T : u_T} {N : Nat} (hc : classes[ci]? = some (Cn, T, N)) :
    ∃ cellB : Cell, H[a]? = some cellB ∧ cellB.vm.isStatics = false ∧ s.vm.findClass Cn = some cellB.cls := va_recv C.2.1 hX.1 hc he
/-- a word list of a method is good in the tables' words -/
theorem x_good {y : MethodName} {bytes : ByteArray} {maxL : Nat} {ret : Option FieldType} (h : Cond.code y bytes maxL ret ∈ TB) : GoodIn TB (Cond.code y bytes maxL ret :: TB) := fun w hw => by
  rcases List.mem_cons.mp hw with rfl | hw
  · exact ⟨h, Or.inl rfl⟩
  · exact TB_good w hw
variable {y : MethodName} {bytes : ByteArray} {maxL d L n index : Nat} {ret : Option FieldType} {b : Nat} {As : List Value} {r : Int32} {Cn : String} {stk : List Value}
theorem x_B (hts : ∀ w ∈ TB, w.before args s = true) (hR : d + 1 ≤ R.frames ∧ 8 + (maxL + 11) + L ≤ R.locals) (hcode : Cond.code y bytes maxL ret ∈ TB) (hini : Cond.initialized y.cls ∈ TB) (hl : Cond.methodLink own index y ∈ TB)
    (hd : y.cls ≠ "java/lang/invoke/MethodHandle" ∧ y.cls ≠ "java/lang/invoke/VarHandle" ∧ (parseMethodDescriptor y.desc).map (fun d => d.parameters.length) = some n) : CallB R s args own index y bytes maxL ret (Cond.code y bytes maxL ret :: TB) (rmX d L) 0 0 n :=
  callB_of n hts (x_good hcode) rfl rfl rfl (hts _ hini) (hts _ hl) hd hR
theorem x_V (hts : ∀ w ∈ TB, w.before args s = true) (hR : d + 1 ≤ R.frames ∧ 8 + (maxL + 11) + L ≤ R.locals) (hcode : Cond.code y bytes maxL ret ∈ TB) (hini : Cond.initialized y.cls ∈ TB) (hl : Cond.methodLink own index y ∈ TB)
    (hd : y.cls ≠ "java/lang/invoke/MethodHandle" ∧ y.cls ≠ "java/lang/invoke/VarHandle" ∧ (parseMethodDescriptor y.desc).map (fun d => d.parameters.length) = some n) (hin : Cond.instanceMethod y ∈ TB) (hse : Cond.selects Cn y y ∈ TB) : CallW R s args own Cn index y bytes maxL ret (Cond.code y bytes maxL ret :: TB) (rmX d L) 0 0 n :=
  ⟨x_B hts hR hcode hini hl hd, hts _ hin, hts _ hse⟩
theorem x_vI (C : Cx g A p m c cc nL s args own) (hX : XW g A s ws H locs) (hM : MI l g y bytes maxL ret d L (.ref b :: As) ws r ws') (cw : CallW R s args own Cn index y bytes maxL ret (Cond.code y bytes maxL ret :: TB) (rmX d L) 0 0 n)
    (hrc : ∃ cellB : Cell, H[b]? = some cellB ∧ cellB.vm.isStatics = false ∧ s.vm.findClass Cn = some cellB.cls) (hn : As.length = n) (hsz : ls.size = nL) (hst : stk = As.reverse ++ .ref b :: rest) (hW : 2 * (F0 m pc ls stk).monitorRoom + (rest.map fun v => v.category).sum ≤ 8) (hdg : decode cc pc = .ok (.invokevirtual index, 3))
    (hf : cells + 0 ≤ R.cells ∧ slots + 0 ≤ R.slots) (kk : ∀ (H1 : Heap) (locs1 : List Loc), XW g A s ws' H1 locs1 → W p l e R s m args below meth c H1 locs1 cells slots Q (F0 m (pc + 3) ls (.int r :: rest))) : W p l e R s m args below meth c H locs cells slots Q (F0 m pc ls stk) := by
  have hF := XW.free C hX
  refine va_calli (va_runV (As := As) (rest := rest) C.1 (hM H.size) cw ⟨xPre_blind, hrc, x_preU C hX⟩ rfl hn hsz hst hW hdg hf) hX.2.2 (fun q _ h => hF q h) hF (fun r1 u t H1 locs1 ht hvm hw hB hz1 hk1 hS => ?_)
  subst hw
  exact kk H1 locs1 ⟨by rw [← ht]; exact hB.1, hB.2.weaken (fun _ q _ h => hF q.1 h), hS⟩
theorem x_vL {rL : Int64} (C : Cx g A p m c cc nL s args own) (hX : XW g A s ws H locs) (hM : ML l g y bytes maxL ret d L (.ref b :: As) ws rL ws') (cw : CallW R s args own Cn index y bytes maxL ret (Cond.code y bytes maxL ret :: TB) (rmX d L) 0 0 n)
    (hrc : ∃ cellB : Cell, H[b]? = some cellB ∧ cellB.vm.isStatics = false ∧ s.vm.findClass Cn = some cellB.cls) (hn : As.length = n) (hsz : ls.size = nL) (hst : stk = As.reverse ++ .ref b :: rest) (hW : 2 * (F0 m pc ls stk).monitorRoom + (rest.map fun v => v.category).sum ≤ 8) (hdg : decode cc pc = .ok (.invokevirtual index, 3))
    (hf : cells + 0 ≤ R.cells ∧ slots + 0 ≤ R.slots) (kk : ∀ (H1 : Heap) (locs1 : List Loc), XW g A s ws' H1 locs1 → W p l e R s m args below meth c H1 locs1 cells slots Q (F0 m (pc + 3) ls (.long rL :: rest))) : W p l e R s m args below meth c H locs cells slots Q (F0 m pc ls stk) := by
  have hF := XW.free C hX
  refine va_calll (va_runV (As := As) (rest := rest) C.1 (hM H.size) cw ⟨xPre_blind, hrc, x_preU C hX⟩ rfl hn hsz hst hW hdg hf) hX.2.2 (fun q _ h => hF q h) hF (fun r1 u t H1 locs1 ht hvm hw hB hz1 hk1 hS => ?_)
  subst hw
  exact kk H1 locs1 ⟨by rw [← ht]; exact hB.1, hB.2.weaken (fun _ q _ h => hF q.1 h), hS⟩
theorem x_vV (C : Cx g A p m c cc nL s args own) (hX : XW g A s ws H locs) (hM : MV l g y bytes maxL ret d L (.ref b :: As) ws ws') (cw : CallW R s args own Cn index y bytes maxL ret (Cond.code y bytes maxL ret :: TB) (rmX d L) 0 0 n)
    (hrc : ∃ cellB : Cell, H[b]? = some cellB ∧ cellB.vm.isStatics = false ∧ s.vm.findClass Cn = some cellB.cls) (hn : As.length = n) (hsz : ls.size = nL) (hst : stk = As.reverse ++ .ref b :: rest) (hW : 2 * (F0 m pc ls stk).monitorRoom + (rest.map fun v => v.category).sum ≤ 8) (hdg : decode cc pc = .ok (.invokevirtual index, 3))
    (hf : cells + 0 ≤ R.cells ∧ slots + 0 ≤ R.slots) (kk : ∀ (H1 : Heap) (locs1 : List Loc), XW g A s ws' H1 locs1 → W p l e R s m args below meth c H1 locs1 cells slots Q (F0 m (pc + 3) ls rest)) : W p l e R s m args below meth c H locs cells slots Q (F0 m pc ls stk) := by
  have hF := XW.free C hX
  refine va_callv (va_runV (As := As) (rest := rest) C.1 (hM H.size) cw ⟨xPre_blind, hrc, x_preU C hX⟩ rfl hn hsz hst hW hdg hf) hX.2.2 (fun q _ h => hF q h) hF (fun u t H1 locs1 ht hvm hw hB hz1 hk1 hS => ?_)
  exact kk H1 locs1 ⟨by rw [← ht]; exact hB.1, hB.2.weaken (fun _ q _ h => hF q.1 h), hS⟩
theorem x_U {x : MethodName} {owner : String} (hts : ∀ w ∈ TB, w.before args s = true) (hR : d + 1 ≤ R.frames ∧ 8 + (maxL + 11) + L ≤ R.locals) (hcode : Cond.code y bytes maxL ret ∈ TB) (hini : Cond.initialized y.cls ∈ TB) (hl : Cond.methodLink own index x ∈ TB) (hsame : Cond.sameMethod x.cls owner x.name x.desc ∈ TB) (hdecl : va_Decl s ⟨owner, x.name, x.desc⟩) (hsel : Cond.selects Cn x y ∈ TB) (hin : Cond.instanceMethod y ∈ TB)
    (hd : owner ≠ "java/lang/invoke/MethodHandle" ∧ owner ≠ "java/lang/invoke/VarHandle" ∧ (parseMethodDescriptor x.desc).map (fun d => d.parameters.length) = some n) : va_CU R s args own Cn owner index x y bytes maxL ret (Cond.code y bytes maxL ret :: TB) (rmX d L) 0 0 n := by
  refine ⟨⟨rfl, rfl, hR.1, hR.2, pay_in hts (x_good hcode), List.mem_cons_self⟩, hts _ hcode, hts _ hini, ⟨hd.1, hd.2.1⟩, fun sig h => ?_, hts _ hl, hts _ hsame, hdecl, hts _ hsel, hts _ hin⟩
  have h2 := hd.2.2
  rw [h] at h2
  exact (Option.some.inj h2).symm
/-- a private method of a class above the receiver's -/
theorem sel_priv {k : Nat} (hy : y.cls ≠ "java/lang/invoke/MethodHandle" ∧ y.cls ≠ "java/lang/invoke/VarHandle") (hins : (Cond.instantiable Cn k).before args s = true) (hsame : (Cond.sameMethod y.cls y.cls y.name y.desc).before args s = true) (hpriv : (Cond.privateMethod y).before args s = true) (hinst : (Cond.instanceMethod y).before args s = true) : (Cond.selects Cn y y).before args s = true := by
  obtain ⟨c, k, hc, hk, -, hniab, -, -⟩ := Cond.instantiable_spec hins
  obtain ⟨mk, methM, hnamed, hmethM, -, -⟩ := Cond.instanceMethod_spec hinst
  obtain ⟨cn, ck, r1, hcn, hck, hni, hf, hn1⟩ := Cond.sameMethod_found hsame
  have hfound : s.methodFound? y.cls y.name y.desc = some mk := State.methodFound?_of_named hnamed hy
  have hcls : mk.cls = cn := Option.some.inj ((findClass_of_methodNamed hnamed).symm.trans hcn)
  have hsel : selectMethod {} s.vm c mk = .method mk := selectMethod_private hmethM (Cond.privateMethod_at hpriv mk methM hnamed hmethM)
  simp only [Cond.before, Cond.holds, Cond.value, hc, hfound, hnamed, hsel, hcls, hck]
  simp; exact hni
theorem x_uI {x : MethodName} {owner : String} (C : Cx g A p m c cc nL s args own) (hX : XW g A s ws H locs) (hM : MI l g y bytes maxL ret d L (.ref b :: As) ws r ws') (cw : va_CU R s args own Cn owner index x y bytes maxL ret (Cond.code y bytes maxL ret :: TB) (rmX d L) 0 0 n)
    (hrc : ∃ cellB : Cell, H[b]? = some cellB ∧ cellB.vm.isStatics = false ∧ s.vm.findClass Cn = some cellB.cls) (hn : As.length = n) (hsz : ls.size = nL) (hst : stk = As.reverse ++ .ref b :: rest) (hW : 2 * (F0 m pc ls stk).monitorRoom + (rest.map fun v => v.category).sum ≤ 8) (hdg : decode cc pc = .ok (.invokevirtual index, 3))
    (hf : cells + 0 ≤ R.cells ∧ slots + 0 ≤ R.slots) (kk : ∀ (H1 : Heap) (locs1 : List Loc), XW g A s ws' H1 locs1 → W p l e R s m args below meth c H1 locs1 cells slots Q (F0 m (pc + 3) ls (.int r :: rest))) : W p l e R s m args below meth c H locs cells slots Q (F0 m pc ls stk) := by
  have hF := XW.free C hX
  refine va_calli (va_runU (As := As) (rest := rest) C.1 (hM H.size) cw ⟨xPre_blind, hrc, x_preU C hX⟩ rfl hn hsz hst hW hdg hf) hX.2.2 (fun q _ h => hF q h) hF (fun r1 u t H1 locs1 ht hvm hw hB hz1 hk1 hS => ?_)
  subst hw
  exact kk H1 locs1 ⟨by rw [← ht]; exact hB.1, hB.2.weaken (fun _ q _ h => hF q.1 h), hS⟩
theorem x_uV {x : MethodName} {owner : String} (C : Cx g A p m c cc nL s args own) (hX : XW g A s ws H locs) (hM : MV l g y bytes maxL ret d L (.ref b :: As) ws ws') (cw : va_CU R s args own Cn owner index x y bytes maxL ret (Cond.code y bytes maxL ret :: TB) (rmX d L) 0 0 n)
    (hrc : ∃ cellB : Cell, H[b]? = some cellB ∧ cellB.vm.isStatics = false ∧ s.vm.findClass Cn = some cellB.cls) (hn : As.length = n) (hsz : ls.size = nL) (hst : stk = As.reverse ++ .ref b :: rest) (hW : 2 * (F0 m pc ls stk).monitorRoom + (rest.map fun v => v.category).sum ≤ 8) (hdg : decode cc pc = .ok (.invokevirtual index, 3))
    (hf : cells + 0 ≤ R.cells ∧ slots + 0 ≤ R.slots) (kk : ∀ (H1 : Heap) (locs1 : List Loc), XW g A s ws' H1 locs1 → W p l e R s m args below meth c H1 locs1 cells slots Q (F0 m (pc + 3) ls rest)) : W p l e R s m args below meth c H locs cells slots Q (F0 m pc ls stk) := by
  have hF := XW.free C hX
  refine va_callv (va_runU (As := As) (rest := rest) C.1 (hM H.size) cw ⟨xPre_blind, hrc, x_preU C hX⟩ rfl hn hsz hst hW hdg hf) hX.2.2 (fun q _ h => hF q h) hF (fun u t H1 locs1 ht hvm hw hB hz1 hk1 hS => ?_)
  exact kk H1 locs1 ⟨by rw [← ht]; exact hB.1, hB.2.weaken (fun _ q _ h => hF q.1 h), hS⟩
theorem x_sI (C : Cx g A p m c cc nL s args own) (hX : XW g A s ws H locs) (hM : MI l g y bytes maxL ret d L As ws r ws') (cw : CallB R s args own index y bytes maxL ret (Cond.code y bytes maxL ret :: TB) (rmX d L) 0 0 n ∧ (Cond.static y).before args s = true)
    (hn : As.length = n) (hsz : ls.size = nL) (hst : stk = As.reverse ++ rest) (hW : 2 * (F0 m pc ls stk).monitorRoom + (rest.map fun v => v.category).sum ≤ 8) (hdg : decode cc pc = .ok (.invokestatic index, 3))
    (hf : cells + 0 ≤ R.cells ∧ slots + 0 ≤ R.slots) (kk : ∀ (H1 : Heap) (locs1 : List Loc), XW g A s ws' H1 locs1 → W p l e R s m args below meth c H1 locs1 cells slots Q (F0 m (pc + 3) ls (.int r :: rest))) : W p l e R s m args below meth c H locs cells slots Q (F0 m pc ls stk) := by
  have hF := XW.free C hX
  refine va_calli (va_runS (As := As) (rest := rest) C.1 (hM H.size) cw ⟨xPre_blind, x_preU C hX⟩ rfl hn hsz hst hW hdg hf) hX.2.2 (fun q _ h => hF q h) hF (fun r1 u t H1 locs1 ht hvm hw hB hz1 hk1 hS => ?_)
  subst hw
  exact kk H1 locs1 ⟨by rw [← ht]; exact hB.1, hB.2.weaken (fun _ q _ h => hF q.1 h), hS⟩
theorem x_sV (C : Cx g A p m c cc nL s args own) (hX : XW g A s ws H locs) (hM : MV l g y bytes maxL ret d L As ws ws') (cw : CallB R s args own index y bytes maxL ret (Cond.code y bytes maxL ret :: TB) (rmX d L) 0 0 n ∧ (Cond.static y).before args s = true)
    (hn : As.length = n) (hsz : ls.size = nL) (hst : stk = As.reverse ++ rest) (hW : 2 * (F0 m pc ls stk).monitorRoom + (rest.map fun v => v.category).sum ≤ 8) (hdg : decode cc pc = .ok (.invokestatic index, 3))
    (hf : cells + 0 ≤ R.cells ∧ slots + 0 ≤ R.slots) (kk : ∀ (H1 : Heap) (locs1 : List Loc), XW g A s ws' H1 locs1 → W p l e R s m args below meth c H1 locs1 cells slots Q (F0 m (pc + 3) ls rest)) : W p l e R s m args below meth c H locs cells slots Q (F0 m pc ls stk) := by
  have hF := XW.free C hX
  refine va_callv (va_runS (As := As) (rest := rest) C.1 (hM H.size) cw ⟨xPre_blind, x_preU C hX⟩ rfl hn hsz hst hW hdg hf) hX.2.2 (fun q _ h => hF q h) hF (fun u t H1 locs1 ht hvm hw hB hz1 hk1 hS => ?_)
  exact kk H1 locs1 ⟨by rw [← ht]; exact hB.1, hB.2.weaken (fun _ q _ h => hF q.1 h), hS⟩
theorem x_sNI {host : String} (C : Cx g A p m c cc nL s args own) (hX : XW g A s ws H locs) (hM : MI l g y bytes maxL ret d L As ws r ws') (cw : va_CN R s args own index y host bytes maxL ret (Cond.code y bytes maxL ret :: TB) (rmX d L) 0 0 n ∧ (Cond.static y).before args s = true ∧ True)
    (hn : As.length = n) (hsz : ls.size = nL) (hst : stk = As.reverse ++ rest) (hW : 2 * (F0 m pc ls stk).monitorRoom + (rest.map fun v => v.category).sum ≤ 8) (hdg : decode cc pc = .ok (.invokestatic index, 3))
    (hf : cells + 0 ≤ R.cells ∧ slots + 0 ≤ R.slots) (kk : ∀ (H1 : Heap) (locs1 : List Loc), XW g A s ws' H1 locs1 → W p l e R s m args below meth c H1 locs1 cells slots Q (F0 m (pc + 3) ls (.int r :: rest))) : W p l e R s m args below meth c H locs cells slots Q (F0 m pc ls stk) := by
  have hF := XW.free C hX
  refine va_calli (va_runSN (As := As) (rest := rest) C.1 (hM H.size) cw ⟨xPre_blind, x_preU C hX⟩ rfl hn hsz hst hW hdg hf) hX.2.2 (fun q _ h => hF q h) hF (fun r1 u t H1 locs1 ht hvm hw hB hz1 hk1 hS => ?_)
  subst hw
  exact kk H1 locs1 ⟨by rw [← ht]; exact hB.1, hB.2.weaken (fun _ q _ h => hF q.1 h), hS⟩
theorem x_get (C : Cx g A p m c cc nL s args own) (hX : XW g A s ws H locs) (q0 : Nat) {a ci : Nat} {fs : List Value} (he : ws[q0]? = some (a, .inr (ci, fs))) {T : u_T} {N : Nat} (hc : classes[ci]? = some (Cn, T, N)) (hin : ∀ w ∈ u_ws Cn T N, w ∈ TB) (k : Nat) (hk : k < N) {ref : String}
    (hl : Cond.fieldLink own index ref (T k).2.1 (T k).2.2.1 ∈ TB) (hsame : ∀ x, s.fieldFound? (T k).1 (T k).2.1 (T k).2.2.1 = some x → s.fieldFound? ref (T k).2.1 (T k).2.2.1 = some x) {v : Value} (hv : fs[k]? = some v) (hdg : decode cc pc = .ok (.getfield index, 3))
    (kk : W p l e R s m args below meth c H locs cells slots Q (F0 m (pc + 3) ls (v :: rest))) : W p l e R s m args below meth c H locs cells slots Q (F0 m pc ls (.ref a :: rest)) :=
  va_get C.1.1 C.1.2.1 C.1.2.2.2.2 hin C.1.2.2.2.1 C.2.1 hX.1 q0 he hc k hk (C.1.2.2.2.2 _ hl) hsame hv hdg kk
theorem x_put (C : Cx g A p m c cc nL s args own) (hX : XW g A s ws H locs) (q0 : Nat) {a ci : Nat} {fs : List Value} (he : ws[q0]? = some (a, .inr (ci, fs))) {T : u_T} {N : Nat} (hc : classes[ci]? = some (Cn, T, N)) (hin : ∀ w ∈ u_ws Cn T N, w ∈ TB) (ty0 : Nat → FieldType) (hty : ∀ k, k < N → parseFieldDescriptor (T k).2.2.1 = some (ty0 k)) (hnm : ∀ a, a < N → ∀ b, b < N → a ≠ b → (T a).2.1 ≠ (T b).2.1) (k : Nat) (hk : k < N) {ref : String}
    (hl : Cond.fieldLink own index ref (T k).2.1 (T k).2.2.1 ∈ TB) (hsame : ∀ x, s.fieldFound? (T k).1 (T k).2.1 (T k).2.2.1 = some x → s.fieldFound? ref (T k).2.1 (T k).2.2.1 = some x) (hfin : (T k).2.2.2 = false) {ty : FieldType} {v : Value} (hd : parseFieldDescriptor (T k).2.2.1 = some ty) (hn : narrow ty v = v) (hfit : fits ty v = true) (hlen : k < fs.length) (hws : ws.set q0 (a, .inr (ci, fs.set k v)) = ws') (hdg : decode cc pc = .ok (.putfield index, 3))
    (kk : ∀ (H1 : Heap) (locs1 : List Loc), XW g A s ws' H1 locs1 → W p l e R s m args below meth c H1 locs1 cells slots Q (F0 m (pc + 3) ls rest)) : W p l e R s m args below meth c H locs cells slots Q (F0 m pc ls (v :: .ref a :: rest)) := by
  subst hws
  exact va_put C.1.1 C.1.2.1 C.1.2.2.2.2 hin ty0 hty hnm C.1.2.2.2.1 C.2.1 hX.1 hX.2.1 hX.2.2 q0 he hc k hk (C.1.2.2.2.2 _ hl) hsame hfin hd hn hfit hlen hdg (fun H1 locs1 hP hD hS => kk H1 locs1 ⟨hP, hD, hS⟩)
theorem x_ald (C : Cx g A p m c cc nL s args own) (hX : XW g A s ws H locs) (q0 : Nat) {a n : Nat} {f : Nat → Int32} (ha : ws[q0]? = some (a, .inl (g.cI, n, .inl f))) {i v : Int32} (hin : vp_in i n) (hdg : decode cc pc = .ok (.iaload, 1)) (hv : v = f i.toNatClampNeg)
    (kk : W p l e R s m args below meth c H locs cells slots Q (F0 m (pc + 1) ls (.int v :: rest))) : W p l e R s m args below meth c H locs cells slots Q (F0 m pc ls (.int i :: .ref a :: rest)) :=
  va_iald C.1.1 C.1.2.1 C.2.1 hX.1 q0 0 ha rfl hin hdg (hv ▸ kk)
theorem x_ast (C : Cx g A p m c cc nL s args own) (hX : XW g A s ws H locs) (q0 : Nat) {a n : Nat} {f : Nat → Int32} (ha : ws[q0]? = some (a, .inl (g.cI, n, .inl f))) {i x : Int32} (hin : vp_in i n) (hws : ws.set q0 (a, .inl (g.cI, n, .inl (upd f i.toNatClampNeg x))) = ws') (hdg : decode cc pc = .ok (.iastore, 1))
    (kk : ∀ (H1 : Heap) (locs1 : List Loc), XW g A s ws' H1 locs1 → W p l e R s m args below meth c H1 locs1 cells slots Q (F0 m (pc + 1) ls rest)) : W p l e R s m args below meth c H locs cells slots Q (F0 m pc ls (.int x :: .int i :: .ref a :: rest)) := by
  subst hws
  exact va_iast C.1.1 C.1.2.1 C.2.1 hX.1 hX.2.1 hX.2.2 q0 0 ha rfl hin hdg (fun H1 locs1 hP hD hS => kk H1 locs1 ⟨hP, hD, hS⟩)
theorem x_alen (C : Cx g A p m c cc nL s args own) (hX : XW g A s ws H locs) (q0 : Nat) {a n : Nat} {f : Nat → Int32} (ha : ws[q0]? = some (a, .inl (g.cI, n, .inl f))) {v : Int32} (hv : Int32.ofNat n = v) (hdg : decode cc pc = .ok (.arraylength, 1))
    (kk : W p l e R s m args below meth c H locs cells slots Q (F0 m (pc + 1) ls (.int v :: rest))) : W p l e R s m args below meth c H locs cells slots Q (F0 m pc ls (.ref a :: rest)) :=
  va_alen C.1.1 C.1.2.1 C.2.1 hX.1 q0 0 ha rfl hv hdg kk
theorem x_lald (C : Cx g A p m c cc nL s args own) (hX : XW g A s ws H locs) (q0 : Nat) {a n : Nat} {f : Nat → Int64} (ha : ws[q0]? = some (a, .inl (g.cJ, n, .inr (.inl f)))) {i : Int32} {v : Int64} (hin : vp_in i n) (hdg : decode cc pc = .ok (.laload, 1)) (hv : v = f i.toNatClampNeg)
    (kk : W p l e R s m args below meth c H locs cells slots Q (F0 m (pc + 1) ls (.long v :: rest))) : W p l e R s m args below meth c H locs cells slots Q (F0 m pc ls (.int i :: .ref a :: rest)) :=
  va_lald C.1.1 C.1.2.1 C.2.1 hX.1 q0 1 ha rfl hin hdg (hv ▸ kk)
theorem x_last (C : Cx g A p m c cc nL s args own) (hX : XW g A s ws H locs) (q0 : Nat) {a n : Nat} {f : Nat → Int64} (ha : ws[q0]? = some (a, .inl (g.cJ, n, .inr (.inl f)))) {i : Int32} {x : Int64} (hin : vp_in i n) (hws : ws.set q0 (a, .inl (g.cJ, n, .inr (.inl (vp_updL f i.toNatClampNeg x)))) = ws') (hdg : decode cc pc = .ok (.lastore, 1))
    (kk : ∀ (H1 : Heap) (locs1 : List Loc), XW g A s ws' H1 locs1 → W p l e R s m args below meth c H1 locs1 cells slots Q (F0 m (pc + 1) ls rest)) : W p l e R s m args below meth c H locs cells slots Q (F0 m pc ls (.long x :: .int i :: .ref a :: rest)) := by
  subst hws
  exact va_last C.1.1 C.1.2.1 C.2.1 hX.1 hX.2.1 hX.2.2 q0 1 ha rfl hin hdg (fun H1 locs1 hP hD hS => kk H1 locs1 ⟨hP, hD, hS⟩)
theorem x_zald (C : Cx g A p m c cc nL s args own) (hX : XW g A s ws H locs) (q0 : Nat) {a n : Nat} {f : Nat → Int32} (ha : ws[q0]? = some (a, .inl (g.cZ, n, .inl f))) {i v : Int32} (hin : vp_in i n) (hdg : decode cc pc = .ok (.baload, 1)) (hv : v = f i.toNatClampNeg)
    (kk : W p l e R s m args below meth c H locs cells slots Q (F0 m (pc + 1) ls (.int v :: rest))) : W p l e R s m args below meth c H locs cells slots Q (F0 m pc ls (.int i :: .ref a :: rest)) :=
  va_zald C.1.1 C.1.2.1 C.2.1 hX.1 q0 2 ha rfl hin hdg (hv ▸ kk)
theorem x_zast (C : Cx g A p m c cc nL s args own) (hX : XW g A s ws H locs) (q0 : Nat) {a n : Nat} {f : Nat → Int32} (ha : ws[q0]? = some (a, .inl (g.cZ, n, .inl f))) {i x : Int32} (hin : vp_in i n) (hz : x = 0 ∨ x = 1) (hws : ws.set q0 (a, .inl (g.cZ, n, .inl (upd f i.toNatClampNeg x))) = ws') (hdg : decode cc pc = .ok (.bastore, 1))
    (kk : ∀ (H1 : Heap) (locs1 : List Loc), XW g A s ws' H1 locs1 → W p l e R s m args below meth c H1 locs1 cells slots Q (F0 m (pc + 1) ls rest)) : W p l e R s m args below meth c H locs cells slots Q (F0 m pc ls (.int x :: .int i :: .ref a :: rest)) := by
  subst hws
  have hn : vp_nar .boolean x = x := by rcases hz with rfl | rfl <;> rfl
  refine va_zast C.1.1 C.1.2.1 C.2.1 hX.1 hX.2.1 hX.2.2 q0 2 ha rfl hin hdg (fun H1 locs1 hP hD hS => ?_)
  rw [hn] at hP hD
  exact kk H1 locs1 ⟨hP, hD, hS⟩
end BASE
theorem MI.mk {l : Launch} {g : GX} {y : MethodName} {cc : ByteArray} {nL d L : Nat} {av : List Value} {ws : va_W} {r : Int32} {ws' : va_W} {own : String} (hy : plainName y.cls = true) (hown : y.cls = own) (hlen : (lg_sl av).length ≤ nL)
    (body : ∀ (p : Program) (e : Env) (s : State) (m : MethodId) (below : List Frame) (meth : Method) (c : Code) (A : Nat → Prop) (Q : State → Prop), Cx g A p m c cc nL s av.toArray own →
      (∀ (pc : Nat) (H : Heap) (locs : List Loc) (ls : Array Slot), XW g A s ws' H locs → decode cc pc = .ok (.ireturn, 1) → W p l e (rmX d L) s m av.toArray below meth c H locs 0 0 Q (F0 m pc ls [.int r])) →
      ∀ ls : Array Slot, XW g A s ws s.heap [] → lv_has ls nL (lv_args 0 av) → W p l e (rmX d L) s m av.toArray below meth c s.heap [] 0 0 Q (F0 m 0 ls [])) : MI l g y cc nL (some .int) d L av ws r ws' := by
  intro sz
  refine Met.ofW (cc := cc) (maxL := nL) (ret := some .int) hy rfl ?_
  intro p e s m args below meth c s₁ B hml hv
  obtain ⟨rfl, hsz, hP, hK, hD0, hSX, hN⟩ := hv
  subst hsz
  have hts := atoms_spec (ws := Cond.code y cc nL (some .int) :: TB) B.pre
  have hl := lv_entry av (n := nL) hlen
  rw [lg_entry_eq]
  generalize (lg_sl av ++ List.replicate (nL - (lg_sl av).length) Slot.unset).toArray = ls at hl ⊢
  refine body p e s m below meth c (va_A ws s.heap.size) _ ⟨⟨B.exec, B.bytes, hml, by rw [← hown]; exact findClass_of_methodNamed B.named, fun w h => hts w (List.mem_cons_of_mem _ h)⟩, hK, ⟨fun q h => Or.inr h, hSX⟩, hN⟩ ?_ ls ⟨hP, hD0.self, va_S.rf⟩ hl
  intro pc H locs ls hX hdg
  exact W.iret (v := r) B.exec B.bytes B.returns (fun t ht hW => ⟨⟨r, (), rfl, rfl, by rw [ht]; exact hX.1, hX.2.1⟩, hX.2.2.F ht⟩) hX.2.2.2.2 hdg B.notSynchronized
theorem ML.mk {l : Launch} {g : GX} {y : MethodName} {cc : ByteArray} {nL d L : Nat} {av : List Value} {ws : va_W} {r : Int64} {ws' : va_W} {own : String} (hy : plainName y.cls = true) (hown : y.cls = own) (hlen : (lg_sl av).length ≤ nL)
    (body : ∀ (p : Program) (e : Env) (s : State) (m : MethodId) (below : List Frame) (meth : Method) (c : Code) (A : Nat → Prop) (Q : State → Prop), Cx g A p m c cc nL s av.toArray own →
      (∀ (pc : Nat) (H : Heap) (locs : List Loc) (ls : Array Slot), XW g A s ws' H locs → decode cc pc = .ok (.lreturn, 1) → W p l e (rmX d L) s m av.toArray below meth c H locs 0 0 Q (F0 m pc ls [.long r])) →
      ∀ ls : Array Slot, XW g A s ws s.heap [] → lv_has ls nL (lv_args 0 av) → W p l e (rmX d L) s m av.toArray below meth c s.heap [] 0 0 Q (F0 m 0 ls [])) : ML l g y cc nL (some .long) d L av ws r ws' := by
  intro sz
  refine Met.ofW (cc := cc) (maxL := nL) (ret := some .long) hy rfl ?_
  intro p e s m args below meth c s₁ B hml hv
  obtain ⟨rfl, hsz, hP, hK, hD0, hSX, hN⟩ := hv
  subst hsz
  have hts := atoms_spec (ws := Cond.code y cc nL (some .long) :: TB) B.pre
  have hl := lv_entry av (n := nL) hlen
  rw [lg_entry_eq]
  generalize (lg_sl av ++ List.replicate (nL - (lg_sl av).length) Slot.unset).toArray = ls at hl ⊢
  refine body p e s m below meth c (va_A ws s.heap.size) _ ⟨⟨B.exec, B.bytes, hml, by rw [← hown]; exact findClass_of_methodNamed B.named, fun w h => hts w (List.mem_cons_of_mem _ h)⟩, hK, ⟨fun q h => Or.inr h, hSX⟩, hN⟩ ?_ ls ⟨hP, hD0.self, va_S.rf⟩ hl
  intro pc H locs ls hX hdg
  exact W.lret (v := r) B.exec B.bytes B.returns (fun t ht hW => ⟨⟨r, (), rfl, rfl, by rw [ht]; exact hX.1, hX.2.1⟩, hX.2.2.F ht⟩) hX.2.2.2.2 hdg B.notSynchronized
theorem MI.mkZ {l : Launch} {g : GX} {y : MethodName} {cc : ByteArray} {nL d L : Nat} {av : List Value} {ws : va_W} {r : Int32} {ws' : va_W} {own : String} (hy : plainName y.cls = true) (hown : y.cls = own) (hlen : (lg_sl av).length ≤ nL)
    (body : ∀ (p : Program) (e : Env) (s : State) (m : MethodId) (below : List Frame) (meth : Method) (c : Code) (A : Nat → Prop) (Q : State → Prop), Cx g A p m c cc nL s av.toArray own →
      (∀ (pc : Nat) (H : Heap) (locs : List Loc) (ls : Array Slot), XW g A s ws' H locs → (r = 0 ∨ r = 1) → decode cc pc = .ok (.ireturn, 1) → W p l e (rmX d L) s m av.toArray below meth c H locs 0 0 Q (F0 m pc ls [.int r])) →
      ∀ ls : Array Slot, XW g A s ws s.heap [] → lv_has ls nL (lv_args 0 av) → W p l e (rmX d L) s m av.toArray below meth c s.heap [] 0 0 Q (F0 m 0 ls [])) : MI l g y cc nL (some .boolean) d L av ws r ws' := by
  intro sz
  refine Met.ofW (cc := cc) (maxL := nL) (ret := some .boolean) hy rfl ?_
  intro p e s m args below meth c s₁ B hml hv
  obtain ⟨rfl, hsz, hP, hK, hD0, hSX, hN⟩ := hv
  subst hsz
  have hts := atoms_spec (ws := Cond.code y cc nL (some .boolean) :: TB) B.pre
  have hl := lv_entry av (n := nL) hlen
  rw [lg_entry_eq]
  generalize (lg_sl av ++ List.replicate (nL - (lg_sl av).length) Slot.unset).toArray = ls at hl ⊢
  refine body p e s m below meth c (va_A ws s.heap.size) _ ⟨⟨B.exec, B.bytes, hml, by rw [← hown]; exact findClass_of_methodNamed B.named, fun w h => hts w (List.mem_cons_of_mem _ h)⟩, hK, ⟨fun q h => Or.inr h, hSX⟩, hN⟩ ?_ ls ⟨hP, hD0.self, va_S.rf⟩ hl
  intro pc H locs ls hX hr hdg
  exact W.zret (v := r) B.exec B.bytes B.returns (by rcases hr with rfl | rfl <;> rfl) (fun t ht hW => ⟨⟨r, (), rfl, rfl, by rw [ht]; exact hX.1, hX.2.1⟩, hX.2.2.F ht⟩) hX.2.2.2.2 hdg B.notSynchronized
theorem MV.mk {l : Launch} {g : GX} {y : MethodName} {cc : ByteArray} {nL d L : Nat} {av : List Value} {ws : va_W} {ws' : va_W} {own : String} (hy : plainName y.cls = true) (hown : y.cls = own) (hlen : (lg_sl av).length ≤ nL)
    (body : ∀ (p : Program) (e : Env) (s : State) (m : MethodId) (below : List Frame) (meth : Method) (c : Code) (A : Nat → Prop) (Q : State → Prop), Cx g A p m c cc nL s av.toArray own →
      (∀ (pc : Nat) (H : Heap) (locs : List Loc) (ls : Array Slot), XW g A s ws' H locs → decode cc pc = .ok (.return_, 1) → W p l e (rmX d L) s m av.toArray below meth c H locs 0 0 Q (F0 m pc ls [])) →
      ∀ ls : Array Slot, XW g A s ws s.heap [] → lv_has ls nL (lv_args 0 av) → W p l e (rmX d L) s m av.toArray below meth c s.heap [] 0 0 Q (F0 m 0 ls [])) : MV l g y cc nL none d L av ws ws' := by
  intro sz
  refine Met.ofW (cc := cc) (maxL := nL) (ret := none) hy rfl ?_
  intro p e s m args below meth c s₁ B hml hv
  obtain ⟨rfl, hsz, hP, hK, hD0, hSX, hN⟩ := hv
  subst hsz
  have hts := atoms_spec (ws := Cond.code y cc nL none :: TB) B.pre
  have hl := lv_entry av (n := nL) hlen
  rw [lg_entry_eq]
  generalize (lg_sl av ++ List.replicate (nL - (lg_sl av).length) Slot.unset).toArray = ls at hl ⊢
  refine body p e s m below meth c (va_A ws s.heap.size) _ ⟨⟨B.exec, B.bytes, hml, by rw [← hown]; exact findClass_of_methodNamed B.named, fun w h => hts w (List.mem_cons_of_mem _ h)⟩, hK, ⟨fun q h => Or.inr h, hSX⟩, hN⟩ ?_ ls ⟨hP, hD0.self, va_S.rf⟩ hl
  intro pc H locs ls hX hdg
  exact W.vret B.exec B.bytes B.returns (fun t ht hW => ⟨⟨(), rfl, trivial, by rw [ht]; exact hX.1, hX.2.1⟩, hX.2.2.F ht⟩) hX.2.2.2.2 hdg B.notSynchronized
