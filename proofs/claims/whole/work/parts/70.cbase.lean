-- CONSTRUCTORS: they make cells. A contract over the object's own cell: behind it stand that cell, filled, and the cells that were made
def rmC (d L mc ms : Nat) : Room := { frames := d, cells := mc, slots := ms, locals := L }
def MN (l : Launch) (g : GX) (y : MethodName) (cc : ByteArray) (nL : Nat) (d L mc ms : Nat) (av : List Value) (ws : va_W) (W' : (Nat → Nat) → va_W) : Prop := ∀ sz : Nat,
  Met l y (Cond.code y cc nL none :: TB) (rmC d L mc ms) (xPre g av ws sz) (va_Qv (fun (_ : Nat → Nat) => True) (fun u t => va_P g.D classes (W' u) t.heap ∧ va_D (va_A ws sz) (W' u)) (va_A ws sz)) mc ms (va_A ws sz)
theorem MN.mk {l : Launch} {g : GX} {y : MethodName} {cc : ByteArray} {nL d L mc ms : Nat} {av : List Value} {ws : va_W} {W' : (Nat → Nat) → va_W} {own : String} (hy : plainName y.cls = true) (hown : y.cls = own) (hini : y.name = "<init>") (hlen : (lg_sl av).length ≤ nL)
    (body : ∀ (p : Program) (e : Env) (s : State) (m : MethodId) (below : List Frame) (meth : Method) (c : Code) (A : Nat → Prop) (Q : State → Prop), Cx g A p m c cc nL s av.toArray own → meth.name = "<init>" →
      (∀ (pc : Nat) (H : Heap) (locs : List Loc) (ls : Array Slot) (u : Nat → Nat), XW g A s (W' u) H locs → decode cc pc = .ok (.return_, 1) → W p l e (rmC d L mc ms) s m av.toArray below meth c H locs mc ms Q (F0 m pc ls [])) →
      ∀ ls : Array Slot, XW g A s ws s.heap [] → lv_has ls nL (lv_args 0 av) → W p l e (rmC d L mc ms) s m av.toArray below meth c s.heap [] 0 0 Q (F0 m 0 ls [])) : MN l g y cc nL d L mc ms av ws W' := by
  intro sz
  refine Met.ofW (cc := cc) (maxL := nL) (ret := none) hy rfl ?_
  intro p e s m args below meth c s₁ B hml hv
  obtain ⟨rfl, hsz, hP, hK, hD0, hSX, hN⟩ := hv
  subst hsz
  have hts := atoms_spec (ws := Cond.code y cc nL none :: TB) B.pre
  have hl := lv_entry av (n := nL) hlen
  have hin : meth.name = "<init>" := ((name_of_methodNamed B.named B.method).1).trans hini
  rw [lg_entry_eq]
  generalize (lg_sl av ++ List.replicate (nL - (lg_sl av).length) Slot.unset).toArray = ls at hl ⊢
  refine body p e s m below meth c (va_A ws s.heap.size) _ ⟨⟨B.exec, B.bytes, hml, by rw [← hown]; exact findClass_of_methodNamed B.named, fun w h => hts w (List.mem_cons_of_mem _ h)⟩, hK, ⟨fun q h => Or.inr h, hSX⟩, hN⟩ hin ?_ ls ⟨hP, hD0.self, va_S.rf⟩ hl
  intro pc H locs ls u hX hdg
  exact W.vret B.exec B.bytes B.returns (fun t ht hW => ⟨⟨u, rfl, trivial, by rw [ht]; exact hX.1, hX.2.1⟩, hX.2.2.F ht⟩) hX.2.2.2.2 hdg B.notSynchronized
section CBASE
variable {p : Program} {l : Launch} {e : Env} {R : Room} {s : State} {m : MethodId} {args : Array Value} {below : List Frame} {meth : Method} {c : Code} {H : Heap} {locs : List Loc} {cells slots : Nat} {Q : State → Prop}
variable {cc : ByteArray} {pc : Nat} {ls : Array Slot} {rest : List Value} {g : GX} {A : Nat → Prop} {ws ws' : va_W} {nL : Nat} {own : String}
/-- a new object -/
theorem x_newo (C : Cx g A p m c cc nL s args own) (hX : XW g A s ws H locs) {Cn : String} {T : u_T} {N ci index : Nat} (hin : ∀ w ∈ u_ws Cn T N, w ∈ TB) (ty : Nat → FieldType) (hty : ∀ k, k < N → parseFieldDescriptor (T k).2.2.1 = some (ty k)) (hcl : Cond.classLink own index Cn ∈ TB) (hinst : Cond.instantiable Cn N ∈ TB) (hini : Cond.initialized Cn ∈ TB) (hc : classes[ci]? = some (Cn, T, N)) {fs : List Value} (hfs : ∀ j, j < N → defaultValue (ty j) = vp_V fs j)
    (hcells : cells + 1 ≤ R.cells) (hslots : slots + N ≤ R.slots) (hdg : decode cc pc = .ok (.new index, 3)) (kk : ∀ (q : Nat) (H1 : Heap), XW g A s (ws ++ [(q, .inr (ci, fs))]) H1 locs → W p l e R s m args below meth c H1 locs (cells + 1) (slots + N) Q (F0 m (pc + 3) ls (.ref q :: rest))) : W p l e R s m args below meth c H locs cells slots Q (F0 m pc ls rest) :=
  va_new C.1.1 C.1.2.1 C.1.2.2.2.2 hin ty hty C.1.2.2.2.1 (C.1.2.2.2.2 _ hcl) (C.1.2.2.2.2 _ hinst) (C.1.2.2.2.2 _ hini) C.2.1 hX.1 hX.2.1 hX.2.2 C.2.2.1.1 hc hfs hcells hslots hdg (fun q H1 hP hD hS => kk q H1 ⟨hP, hD, hS⟩)
theorem x_newaI (C : Cx g A p m c cc nL s args own) (hX : XW g A s ws H locs) (harr : Cond.arrayClass .int ∈ TB) {n : Int32} (N' : Nat) (hn : ¬ n < 0) (hN : n.toNatClampNeg = N') (hbytes : N' * 4 ≤ 536870912) (hcells : cells + 1 ≤ R.cells) (hslots : slots + N' ≤ R.slots) (hdg : decode cc pc = .ok (.newarray .int, 2))
    (kk : ∀ (q : Nat) (H1 : Heap), XW g A s (ws ++ [(q, .inl (g.cI, N', .inl (fun _ => 0)))]) H1 locs → W p l e R s m args below meth c H1 locs (cells + 1) (slots + N') Q (F0 m (pc + 2) ls (.ref q :: rest))) : W p l e R s m args below meth c H locs cells slots Q (F0 m pc ls (.int n :: rest)) := by
  refine va_newa (a0 := (N', .inl (fun _ => 0))) (atype := .int) (ty := .int) C.1.1 C.1.2.1 (C.1.2.2.2.2 _ harr) rfl C.2.1 hX.1 hX.2.1 hX.2.2 C.2.2.1.1 (fun _ => rfl) hn hN hbytes hcells hslots hdg (fun q cA H1 hK1 hP hD hS => ?_)
  have h1 : s.vm.findClass ("[" ++ (FieldType.int).toString) = some cA := (hK1.2 3 (cA, .int) rfl).2
  have h2 : s.vm.findClass ("[" ++ (FieldType.int).toString) = some g.cI := (C.2.1.2 0 (g.cI, .int) rfl).2
  cases Option.some.inj (h1.symm.trans h2)
  exact kk q H1 ⟨hP, hD, hS⟩
theorem x_newaJ (C : Cx g A p m c cc nL s args own) (hX : XW g A s ws H locs) (harr : Cond.arrayClass .long ∈ TB) {n : Int32} (N' : Nat) (hn : ¬ n < 0) (hN : n.toNatClampNeg = N') (hbytes : N' * 8 ≤ 536870912) (hcells : cells + 1 ≤ R.cells) (hslots : slots + N' ≤ R.slots) (hdg : decode cc pc = .ok (.newarray .long, 2))
    (kk : ∀ (q : Nat) (H1 : Heap), XW g A s (ws ++ [(q, .inl (g.cJ, N', .inr (.inl (fun _ => 0))))]) H1 locs → W p l e R s m args below meth c H1 locs (cells + 1) (slots + N') Q (F0 m (pc + 2) ls (.ref q :: rest))) : W p l e R s m args below meth c H locs cells slots Q (F0 m pc ls (.int n :: rest)) := by
  refine va_newa (a0 := (N', .inr (.inl (fun _ => 0)))) (atype := .long) (ty := .long) C.1.1 C.1.2.1 (C.1.2.2.2.2 _ harr) rfl C.2.1 hX.1 hX.2.1 hX.2.2 C.2.2.1.1 (fun _ => rfl) hn hN hbytes hcells hslots hdg (fun q cA H1 hK1 hP hD hS => ?_)
  have h1 : s.vm.findClass ("[" ++ (FieldType.long).toString) = some cA := (hK1.2 3 (cA, .long) rfl).2
  have h2 : s.vm.findClass ("[" ++ (FieldType.long).toString) = some g.cJ := (C.2.1.2 1 (g.cJ, .long) rfl).2
  cases Option.some.inj (h1.symm.trans h2)
  exact kk q H1 ⟨hP, hD, hS⟩
theorem x_newaZ (C : Cx g A p m c cc nL s args own) (hX : XW g A s ws H locs) (harr : Cond.arrayClass .boolean ∈ TB) {n : Int32} (N' : Nat) (hn : ¬ n < 0) (hN : n.toNatClampNeg = N') (hbytes : N' * 1 ≤ 536870912) (hcells : cells + 1 ≤ R.cells) (hslots : slots + N' ≤ R.slots) (hdg : decode cc pc = .ok (.newarray .boolean, 2))
    (kk : ∀ (q : Nat) (H1 : Heap), XW g A s (ws ++ [(q, .inl (g.cZ, N', .inl (fun _ => 0)))]) H1 locs → W p l e R s m args below meth c H1 locs (cells + 1) (slots + N') Q (F0 m (pc + 2) ls (.ref q :: rest))) : W p l e R s m args below meth c H locs cells slots Q (F0 m pc ls (.int n :: rest)) := by
  refine va_newa (a0 := (N', .inl (fun _ => 0))) (atype := .boolean) (ty := .boolean) C.1.1 C.1.2.1 (C.1.2.2.2.2 _ harr) rfl C.2.1 hX.1 hX.2.1 hX.2.2 C.2.2.1.1 (fun _ => rfl) hn hN hbytes hcells hslots hdg (fun q cA H1 hK1 hP hD hS => ?_)
  have h1 : s.vm.findClass ("[" ++ (FieldType.boolean).toString) = some cA := (hK1.2 3 (cA, .boolean) rfl).2
  have h2 : s.vm.findClass ("[" ++ (FieldType.boolean).toString) = some g.cZ := (C.2.1.2 2 (g.cZ, .boolean) rfl).2
  cases Option.some.inj (h1.symm.trans h2)
  exact kk q H1 ⟨hP, hD, hS⟩
/-- a final field, in a constructor -/
theorem x_putF (C : Cx g A p m c cc nL s args own) (hX : XW g A s ws H locs) (q0 : Nat) {a ci index : Nat} {Cn : String} {fs : List Value} (he : ws[q0]? = some (a, .inr (ci, fs))) {T : u_T} {N : Nat} (hc : classes[ci]? = some (Cn, T, N)) (hin : ∀ w ∈ u_ws Cn T N, w ∈ TB) (ty0 : Nat → FieldType) (hty : ∀ k, k < N → parseFieldDescriptor (T k).2.2.1 = some (ty0 k)) (hnm : ∀ a, a < N → ∀ b, b < N → a ≠ b → (T a).2.1 ≠ (T b).2.1) (k : Nat) (hk : k < N) {ref : String}
    (hl : Cond.fieldLink own index ref (T k).2.1 (T k).2.2.1 ∈ TB) (hsame : ∀ x, s.fieldFound? (T k).1 (T k).2.1 (T k).2.2.1 = some x → s.fieldFound? ref (T k).2.1 (T k).2.2.1 = some x) (hfin : (T k).2.2.2 = true) (hini : meth.name = "<init>") (hdecl : (T k).1 = own) {ty : FieldType} {v : Value} (hd : parseFieldDescriptor (T k).2.2.1 = some ty) (hn : narrow ty v = v) (hfit : fits ty v = true) (hlen : k < fs.length) (hws : ws.set q0 (a, .inr (ci, fs.set k v)) = ws') (hdg : decode cc pc = .ok (.putfield index, 3))
    (kk : ∀ (H1 : Heap) (locs1 : List Loc), XW g A s ws' H1 locs1 → W p l e R s m args below meth c H1 locs1 cells slots Q (F0 m (pc + 3) ls rest)) : W p l e R s m args below meth c H locs cells slots Q (F0 m pc ls (v :: .ref a :: rest)) := by
  subst hws
  exact va_putF C.1.1 C.1.2.1 C.1.2.2.2.2 hin ty0 hty hnm C.1.2.2.2.1 C.2.1 hX.1 hX.2.1 hX.2.2 q0 he hc k hk (C.1.2.2.2.2 _ hl) hsame hfin hini hdecl hd hn hfit hlen hdg (fun H1 locs1 hP hD hS => kk H1 locs1 ⟨hP, hD, hS⟩)
theorem x_obj (C : Cx g A p m c cc nL s args own) {idx a : Nat} (hl : Cond.methodLink own idx objectInit ∈ TB) (hi : Cond.instanceMethod objectInit ∈ TB) (hc : Cond.code objectInit ⟨#[0xb1]⟩ 1 none ∈ TB) (hsz : ls.size = nL) (hd : decode cc pc = .ok (.invokespecial idx, 3)) (hframes : 1 ≤ R.frames) (hlocals : (rest.map fun v => v.category).sum + 12 ≤ R.locals)
    (kk : W p l e R s m args below meth c H locs cells slots Q (F0 m (pc + 3) ls rest)) : W p l e R s m args below meth c H locs cells slots Q (F0 m pc ls (.ref a :: rest)) :=
  W.objInit C.1.1 C.1.2.1 C.1.2.2.2.1 (C.1.2.2.2.2 _ hl) (C.1.2.2.2.2 _ hi) (C.1.2.2.2.2 _ hc) rfl (by rw [C.1.2.2.1]; exact hsz) rfl hd hframes (by simpa [JFrame.monitorRoom] using hlocals) kk
variable {y : MethodName} {bytes : ByteArray} {maxL d L mc ms n index : Nat} {b : Nat} {As : List Value} {stk : List Value} {W' : (Nat → Nat) → va_W} {wc wr : va_W}
theorem x_preC (C : Cx g A p m c cc nL s args own) (hX : XW g A s ws H locs) (isC : List Nat) (hn1 : va_nd isC = true) (hC : isC.map (fun i => ws[i]?) = wc.map some) {av : List Value} : (∀ U : State, U.heap = H → s.WarmedH U.vm → xPre g av wc H.size av.toArray U) ∧ ∀ q, va_A wc H.size q → A q := by
  have hF : ∀ q, va_A wc H.size q → A q := va_free hX.2.1 hX.2.2 C.2.2.1.1 isC hC
  refine ⟨fun U hU hW => ⟨rfl, by rw [hU], ?_, va_K.moved hW.alike C.2.1, (hX.2.1.sub isC hn1 hC).weaken (fun _ _ _ _ => trivial), ?_, NW.warm hW C.2.2.2⟩, hF⟩
  · rw [hU]
    intro k q hq
    have h1 : (isC.map (fun i => ws[i]?))[k]? = some (some q) := by rw [hC, List.getElem?_map, hq]; rfl
    rw [List.getElem?_map] at h1
    cases hi : isC[k]? with
    | none => rw [hi] at h1; cases h1
    | some i => rw [hi] at h1; exact hX.1 i q (Option.some.inj h1)
  · obtain ⟨t, hZ, hT⟩ := C.2.2.1.2
    have hk : ∀ a : Nat, a < s.heap.size → ¬ A a → U.heap[a]? = s.heap[a]? := fun a h1 h2 => by rw [hU]; exact hX.2.2.2.1 a h1 h2
    exact ⟨t, ((hZ.kept hk).moved hW.alike).narrow hF, ((hT.kept hk).moved hW.alike).narrow hF⟩
/-- the call of a constructor on a cell of the world (isC), the others (isR) stay -/
theorem x_nV (C : Cx g A p m c cc nL s args own) (hX : XW g A s ws H locs) (isC isR : List Nat) (hC : isC.map (fun i => ws[i]?) = wc.map some) (hR : isR.map (fun i => ws[i]?) = wr.map some) (hn1 : va_nd isC = true) (hn2 : va_nd isR = true) (hdis : ∀ i ∈ isR, i ∉ isC) (hM : MN l g y bytes maxL d L mc ms (.ref b :: As) wc W')
    (cw : CallB R s args own index y bytes maxL none (Cond.code y bytes maxL none :: TB) (rmC d L mc ms) mc ms n ∧ y.name = "<init>" ∧ (Cond.instanceMethod y).before args s = true) (hn : As.length = n) (hsz : ls.size = nL) (hst : stk = As.reverse ++ .ref b :: rest) (hW : 2 * (F0 m pc ls stk).monitorRoom + (rest.map fun v => v.category).sum ≤ 8) (hdg : decode cc pc = .ok (.invokespecial index, 3))
    (hf : cells + mc ≤ R.cells ∧ slots + ms ≤ R.slots) (kk : ∀ (u : Nat → Nat) (H1 : Heap) (locs1 : List Loc), XW g A s (wr ++ W' u) H1 locs1 → W p l e R s m args below meth c H1 locs1 (cells + mc) (slots + ms) Q (F0 m (pc + 3) ls rest)) : W p l e R s m args below meth c H locs cells slots Q (F0 m pc ls stk) := by
  obtain ⟨hU, hF⟩ := x_preC C hX isC hn1 hC (av := .ref b :: As)
  refine va_callv (va_runI (As := As) (rest := rest) C.1 (hM H.size) cw ⟨xPre_blind, hU⟩ rfl hn hsz hst hW hdg hf) hX.2.2 (fun q _ h => hF q h) hF (fun u t H1 locs1 ht hvm hw hB hz1 hk1 hS => ?_)
  obtain ⟨hP1, hD1⟩ := hB
  rw [ht] at hP1
  obtain ⟨hP, hD⟩ := va_join (wr := wr) (w1 := W' u) hX.1 hX.2.1 isC isR hC hR hn2 hdis hk1 hF hP1 hD1
  exact kk u H1 locs1 ⟨hP, hD, hS⟩
theorem x_nNV {host : String} (C : Cx g A p m c cc nL s args own) (hX : XW g A s ws H locs) (isC isR : List Nat) (hC : isC.map (fun i => ws[i]?) = wc.map some) (hR : isR.map (fun i => ws[i]?) = wr.map some) (hn1 : va_nd isC = true) (hn2 : va_nd isR = true) (hdis : ∀ i ∈ isR, i ∉ isC) (hM : MN l g y bytes maxL d L mc ms (.ref b :: As) wc W')
    (cw : va_CN R s args own index y host bytes maxL none (Cond.code y bytes maxL none :: TB) (rmC d L mc ms) mc ms n ∧ y.name = "<init>" ∧ (Cond.instanceMethod y).before args s = true) (hn : As.length = n) (hsz : ls.size = nL) (hst : stk = As.reverse ++ .ref b :: rest) (hW : 2 * (F0 m pc ls stk).monitorRoom + (rest.map fun v => v.category).sum ≤ 8) (hdg : decode cc pc = .ok (.invokespecial index, 3))
    (hf : cells + mc ≤ R.cells ∧ slots + ms ≤ R.slots) (kk : ∀ (u : Nat → Nat) (H1 : Heap) (locs1 : List Loc), XW g A s (wr ++ W' u) H1 locs1 → W p l e R s m args below meth c H1 locs1 (cells + mc) (slots + ms) Q (F0 m (pc + 3) ls rest)) : W p l e R s m args below meth c H locs cells slots Q (F0 m pc ls stk) := by
  obtain ⟨hU, hF⟩ := x_preC C hX isC hn1 hC (av := .ref b :: As)
  refine va_callv (va_runIN (As := As) (rest := rest) C.1 (hM H.size) cw ⟨xPre_blind, hU⟩ rfl hn hsz hst hW hdg hf) hX.2.2 (fun q _ h => hF q h) hF (fun u t H1 locs1 ht hvm hw hB hz1 hk1 hS => ?_)
  obtain ⟨hP1, hD1⟩ := hB
  rw [ht] at hP1
  obtain ⟨hP, hD⟩ := va_join (wr := wr) (w1 := W' u) hX.1 hX.2.1 isC isR hC hR hn2 hdis hk1 hF hP1 hD1
  exact kk u H1 locs1 ⟨hP, hD, hS⟩
end CBASE
