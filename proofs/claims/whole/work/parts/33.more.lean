section MORE
variable {p : Program} {l : Launch} {e : Env} {R : Room} {s : State} {m : MethodId} {args : Array Value} {below : List Frame} {meth : Method} {c : Code} {H : Heap} {locs : List Loc} {cells slots : Nat} {Q : State → Prop}
variable {cc : ByteArray} {pc : Nat} {ls : Array Slot} {rest : List Value} {g : GX} {A : Nat → Prop} {ws ws' : va_W} {nL : Nat} {own : String}
theorem x_mmin (hexec : p.tables.exec = Jvm.exec) (hb : c.code = cc) (hml : c.maxLocals = ls.size) {index : Nat} (hown : s.vm.findClass own = some m.cls) (hlink : (Cond.methodLink own index Lib.Math.min.name).before args s = true) (hstat : (Cond.static Lib.Math.min.name).before args s = true) (hini : (Cond.initialized "java/lang/Math").before args s = true) (hcode : (Cond.code Lib.Math.min.name Lib.Math.min.code 2 (some .int)).before args s = true)
    (hframes : 1 ≤ R.frames) (hlocals : (rest.map fun v => v.category).sum + 13 ≤ R.locals) (hc : cells ≤ R.cells) (hs : slots ≤ R.slots) {x y v : Int32} (hdg : decode cc pc = .ok (.invokestatic index, 3)) (hv : v = if y < x then y else x)
    (kk : W p l e R s m args below meth c H locs cells slots Q (F0 m (pc + 3) ls (.int v :: rest))) : W p l e R s m args below meth c H locs cells slots Q (F0 m pc ls (.int y :: .int x :: rest)) :=
  va_mmin hexec hb hml hown hlink hstat hini hcode hframes hlocals hc hs hdg (hv ▸ kk)
/-- a method that answers the cell r -/
def MR (l : Launch) (g : GX) (y : MethodName) (cc : ByteArray) (nL : Nat) (ret : Option FieldType) (d L : Nat) (av : List Value) (ws : va_W) (r : Nat) (ws' : va_W) : Prop := ∀ sz : Nat,
  Met l y (Cond.code y cc nL ret :: TB) (rmX d L) (xPre g av ws sz) (va_Qr (fun (_ : Unit) => True) (fun _ a t => a = r ∧ va_P g.D classes ws' t.heap ∧ va_D (va_A ws sz) ws') (va_A ws sz)) 0 0 (va_A ws sz)
theorem MR.mk {l : Launch} {g : GX} {y : MethodName} {cc : ByteArray} {nL d L : Nat} {av : List Value} {ws : va_W} {r : Nat} {ws' : va_W} {own cls : String} (hy : plainName y.cls = true) (hown : y.cls = own) (hlen : (lg_sl av).length ≤ nL)
    (body : ∀ (p : Program) (e : Env) (s : State) (m : MethodId) (below : List Frame) (meth : Method) (c : Code) (A : Nat → Prop) (Q : State → Prop), Cx g A p m c cc nL s av.toArray own →
      (∀ (pc : Nat) (H : Heap) (locs : List Loc) (ls : Array Slot), XW g A s ws' H locs → decode cc pc = .ok (.areturn, 1) → W p l e (rmX d L) s m av.toArray below meth c H locs 0 0 Q (F0 m pc ls [.ref r])) →
      ∀ ls : Array Slot, XW g A s ws s.heap [] → lv_has ls nL (lv_args 0 av) → W p l e (rmX d L) s m av.toArray below meth c s.heap [] 0 0 Q (F0 m 0 ls [])) : MR l g y cc nL (some (.object cls)) d L av ws r ws' := by
  intro sz
  refine Met.ofW (cc := cc) (maxL := nL) (ret := some (.object cls)) hy rfl ?_
  intro p e s m args below meth c s₁ B hml hv
  obtain ⟨rfl, hsz, hP, hK, hD0, hSX, hN⟩ := hv
  subst hsz
  have hts := atoms_spec (ws := Cond.code y cc nL (some (.object cls)) :: TB) B.pre
  have hl := lv_entry av (n := nL) hlen
  rw [lg_entry_eq]
  generalize (lg_sl av ++ List.replicate (nL - (lg_sl av).length) Slot.unset).toArray = ls at hl ⊢
  refine body p e s m below meth c (va_A ws s.heap.size) _ ⟨⟨B.exec, B.bytes, hml, by rw [← hown]; exact findClass_of_methodNamed B.named, fun w h => hts w (List.mem_cons_of_mem _ h)⟩, hK, ⟨fun q h => Or.inr h, hSX⟩, hN⟩ ?_ ls ⟨hP, hD0.self, va_S.rf⟩ hl
  intro pc H locs ls hX hdg
  exact W.aret (v := .ref r) B.exec B.bytes B.returns (Or.inl ⟨_, rfl⟩) (Or.inr ⟨_, rfl⟩) (fun t ht hW => ⟨⟨(), r, rfl, trivial, rfl, by rw [ht]; exact hX.1, hX.2.1⟩, hX.2.2.F ht⟩) hX.2.2.2.2 hdg B.notSynchronized
variable {y : MethodName} {bytes : ByteArray} {maxL d L n index : Nat} {ret : Option FieldType} {b : Nat} {As : List Value} {r : Nat} {Cn : String} {stk : List Value}
theorem x_vR (C : Cx g A p m c cc nL s args own) (hX : XW g A s ws H locs) (hM : MR l g y bytes maxL ret d L (.ref b :: As) ws r ws') (cw : CallW R s args own Cn index y bytes maxL ret (Cond.code y bytes maxL ret :: TB) (rmX d L) 0 0 n)
    (hrc : ∃ cellB : Cell, H[b]? = some cellB ∧ cellB.vm.isStatics = false ∧ s.vm.findClass Cn = some cellB.cls) (hn : As.length = n) (hsz : ls.size = nL) (hst : stk = As.reverse ++ .ref b :: rest) (hW : 2 * (F0 m pc ls stk).monitorRoom + (rest.map fun v => v.category).sum ≤ 8) (hdg : decode cc pc = .ok (.invokevirtual index, 3))
    (hf : cells + 0 ≤ R.cells ∧ slots + 0 ≤ R.slots) (kk : ∀ (H1 : Heap) (locs1 : List Loc), XW g A s ws' H1 locs1 → W p l e R s m args below meth c H1 locs1 cells slots Q (F0 m (pc + 3) ls (.ref r :: rest))) : W p l e R s m args below meth c H locs cells slots Q (F0 m pc ls stk) := by
  have hF := XW.free C hX
  refine va_callr (va_runV (As := As) (rest := rest) C.1 (hM H.size) cw ⟨xPre_blind, hrc, x_preU C hX⟩ rfl hn hsz hst hW hdg hf) hX.2.2 (fun q _ h => hF q h) hF (fun u ra t H1 locs1 ht hvm hw hB hz1 hk1 hS => ?_)
  obtain ⟨rfl, hB⟩ := hB
  exact kk H1 locs1 ⟨by rw [← ht]; exact hB.1, hB.2.weaken (fun _ q _ h => hF q.1 h), hS⟩
end MORE
def ae6 {β : Type} (a : Int32) (o : Option β) : Option β := if a = 1 then none else o
def ae7 {β : Type} (a : Int32) (o : Option β) : Option β := if a = 1 then o else none
theorem ae6_e {β : Type} {a : Int32} {o : Option β} {z : β} (h : ae6 a o = some z) : ¬ a = 1 ∧ o = some z := by
  unfold ae6 at h
  split at h
  · cases h
  · exact ⟨by assumption, h⟩
theorem ae7_e {β : Type} {a : Int32} {o : Option β} {z : β} (h : ae7 a o = some z) : a = 1 ∧ o = some z := by
  unfold ae7 at h
  split at h
  · exact ⟨by assumption, h⟩
  · cases h
set_option maxHeartbeats 4000000 in
set_option maxRecDepth 100000 in
theorem c_X_ae7 (l : Launch) (g : GX) (s : St) (ha : s 0 3 = 1) : MR l g y_X_activeEngine b_X_activeEngine 1 (some (.object "WasmMachine$Engine")) 0 0 [.ref (g.q 0)] (wX g s) (g.q 7) (wX g s) := by
  refine MR.mk (own := R_X) (by decide) rfl (Nat.le_of_ble_eq_true rfl) fun p e ss m below meth c A Q C hQ ls hX hl => ?_
  have ⟨⟨hx, hb, hml, hown, hts⟩, hK, hA, hN⟩ := C
  have hl : lv_has ls 1 [(0, .ref (g.q 0))] := hl
  refine lv_aload_n hx hb d_X_activeEngine_0 rfl (lv_at hl 0 rfl) ?_
  refine gf_0_active C hX fl_X_72 d_X_activeEngine_1 ?_
  refine lv_iconst (v := 1) hx hb d_X_activeEngine_4 (by decide) ?_
  refine lv_icmp_ne (tgt := 15) hx hb d_X_activeEngine_5 (by decide) (fun c5 => absurd ha c5) (fun c5 => ?_)
  refine lv_aload_n hx hb d_X_activeEngine_8 rfl (lv_at hl 0 rfl) ?_
  refine gf_0_registerEngine C hX fl_X_60 d_X_activeEngine_9 ?_
  refine lv_goto (tgt := 19) hx hb d_X_activeEngine_12 (by decide) ?_
  exact hQ _ _ _ _ hX d_X_activeEngine_19
set_option maxHeartbeats 4000000 in
set_option maxRecDepth 100000 in
theorem c_X_ae6 (l : Launch) (g : GX) (s : St) (ha : ¬ s 0 3 = 1) : MR l g y_X_activeEngine b_X_activeEngine 1 (some (.object "WasmMachine$Engine")) 0 0 [.ref (g.q 0)] (wX g s) (g.q 6) (wX g s) := by
  refine MR.mk (own := R_X) (by decide) rfl (Nat.le_of_ble_eq_true rfl) fun p e ss m below meth c A Q C hQ ls hX hl => ?_
  have ⟨⟨hx, hb, hml, hown, hts⟩, hK, hA, hN⟩ := C
  have hl : lv_has ls 1 [(0, .ref (g.q 0))] := hl
  refine lv_aload_n hx hb d_X_activeEngine_0 rfl (lv_at hl 0 rfl) ?_
  refine gf_0_active C hX fl_X_72 d_X_activeEngine_1 ?_
  refine lv_iconst (v := 1) hx hb d_X_activeEngine_4 (by decide) ?_
  refine lv_icmp_ne (tgt := 15) hx hb d_X_activeEngine_5 (by decide) (fun c5 => ?_) (fun c5 => absurd c5 ha)
  refine lv_aload_n hx hb d_X_activeEngine_15 rfl (lv_at hl 0 rfl) ?_
  refine gf_0_stackEngine C hX fl_X_51 d_X_activeEngine_16 ?_
  exact hQ _ _ _ _ hX d_X_activeEngine_19
