theorem x_mmax {p : Program} {l : Launch} {e : Env} {R : Room} {s : State} {m : MethodId} {args : Array Value} {below : List Frame} {meth : Method} {c : Code} {H : Heap} {locs : List Loc} {cells slots : Nat} {Q : State → Prop} {cc : ByteArray} {pc : Nat} {ls : Array Slot} {rest : List Value} {own : String} (hexec : p.tables.exec = Jvm.exec) (hb : c.code = cc) (hml : c.maxLocals = ls.size) {index : Nat} (hown : s.vm.findClass own = some m.cls) (hlink : (Cond.methodLink own index Lib.Math.max.name).before args s = true) (hstat : (Cond.static Lib.Math.max.name).before args s = true) (hini : (Cond.initialized "java/lang/Math").before args s = true) (hcode : (Cond.code Lib.Math.max.name Lib.Math.max.code 2 (some .int)).before args s = true)
    (hframes : 1 ≤ R.frames) (hlocals : (rest.map fun v => v.category).sum + 13 ≤ R.locals) (hc : cells ≤ R.cells) (hs : slots ≤ R.slots) {n : Nat} (hn : n < 2 ^ 31) (hdg : decode cc pc = .ok (.invokestatic index, 3))
    (kk : W p l e R s m args below meth c H locs cells slots Q (F0 m (pc + 3) ls (.int (nI n) :: rest))) : W p l e R s m args below meth c H locs cells slots Q (F0 m pc ls (.int 0 :: .int (nI n) :: rest)) :=
  va_mmax hexec hb hml hown hlink hstat hini hcode hframes hlocals hc hs hdg (by rw [if_neg (nI_pos hn)]; exact kk)
set_option maxHeartbeats 4000000 in
set_option maxRecDepth 100000 in
theorem n_Row_init (l : Launch) (g : GX) (h0 n : Nat) (hn : n ≤ 100000) : MN l g y_Row_init b_Row_init 2 1 21 1 n [.ref h0, .int (nI n)] [(h0, .inr (0, [.null]))] (fun u => [(h0, .inr (0, [.ref (u 0)])), ((u 0), .inl (g.cI, n, .inl (fun _ => 0)))]) := by
  refine MN.mk (own := R_Row) (by decide) rfl rfl (Nat.le_of_ble_eq_true rfl) fun p e s m below meth c A Q C hin hQ ls hX hl => ?_
  have ⟨⟨hx, hb, hml, hown, hts⟩, hK, hA, hN⟩ := C
  have hl : lv_has ls 2 [(0, .ref h0), (1, .int (nI n))] := hl
  refine lv_aload_n hx hb d_Row_init_0 rfl (lv_at hl 0 rfl) ?_
  refine x_obj C ml_Row_obj mn_obj mc_obj hl.1 d_Row_init_1 (by show 1 ≤ 1; decide) (by show 0 + 12 ≤ 21; decide) ?_
  refine lv_aload_n hx hb d_Row_init_4 rfl (lv_at hl 0 rfl) ?_
  refine lv_iload_n hx hb d_Row_init_5 rfl (lv_at hl 1 rfl) ?_
  refine lv_iconst (v := 0) hx hb d_Row_init_6 (by decide) ?_
  refine x_mmax (rest := [.ref h0]) hx hb (hml.trans hl.1.symm) hown (hts _ ml_Row_max) (hts _ ms_Math_max) (hts _ mi_Math) (hts _ mc_Math_max) (by show 1 ≤ 1; decide) (by show 1 + 13 ≤ 21; decide) (Nat.zero_le _) (Nat.zero_le _) (by omega) d_Row_init_7 ?_
  refine x_newaI C hX ma_int n (nI_pos (by omega)) (nI_clamp (by omega)) (by omega) (by show 0 + 1 ≤ 1; decide) (by show 0 + n ≤ n; omega) d_Row_init_10 (fun a H hX => ?_)
  have hX : XW g A s [(h0, .inr (0, [.null])), (a, .inl (g.cI, n, .inl (fun _ => 0)))] H _ := hX
  refine x_putF (ty := .array .int) (v := .ref a) (ws' := [(h0, .inr (0, [.ref a])), (a, .inl (g.cI, n, .inl (fun _ => 0)))]) C hX 0 rfl rfl i_Row t_Row t_Row_ok n_Row 0 (by decide) fl_Row_cells (fun _ h9 => h9) rfl hin rfl (by decide +kernel) rfl rfl (Nat.le_of_ble_eq_true rfl) rfl d_Row_init_12 (fun H locs hX => ?_)
  refine W.widen (k := 1) (n := n) (by omega) (by omega) ?_
  exact hQ _ _ _ _ (fun k => [a].getD k 0) hX d_Row_init_15
set_option maxHeartbeats 4000000 in
set_option maxRecDepth 100000 in
theorem n_Table_init (l : Launch) (g : GX) (h0 x y : Nat) (hn : x * y ≤ 100000) : MN l g y_Table_init b_Table_init 3 1 21 1 (x * y) [.ref h0, .int (nI x), .int (nI y)] [(h0, .inr (1, [.null, .int 0, .int 0, .int 0]))] (fun u => [(h0, .inr (1, [.ref (u 0), .int (nI x), .int (nI y), .int 0])), ((u 0), .inl (g.cI, x * y, .inl (fun _ => 0)))]) := by
  refine MN.mk (own := R_Table) (by decide) rfl rfl (Nat.le_of_ble_eq_true rfl) fun p e s m below meth c A Q C hin hQ ls hX hl => ?_
  have ⟨⟨hx, hb, hml, hown, hts⟩, hK, hA, hN⟩ := C
  have hl : lv_has ls 3 [(0, .ref h0), (1, .int (nI x)), (2, .int (nI y))] := hl
  refine lv_aload_n hx hb d_Table_init_0 rfl (lv_at hl 0 rfl) ?_
  refine x_obj C ml_Table_obj mn_obj mc_obj hl.1 d_Table_init_1 (by show 1 ≤ 1; decide) (by show 0 + 12 ≤ 21; decide) ?_
  refine lv_aload_n hx hb d_Table_init_4 rfl (lv_at hl 0 rfl) ?_
  refine lv_iload_n hx hb d_Table_init_5 rfl (lv_at hl 1 rfl) ?_
  refine lv_iload_n hx hb d_Table_init_6 rfl (lv_at hl 2 rfl) ?_
  refine x_imul hx hb d_Table_init_7 (pk_mul x y).symm ?_
  refine lv_iconst (v := 0) hx hb d_Table_init_8 (by decide) ?_
  refine x_mmax (rest := [.ref h0]) hx hb (hml.trans hl.1.symm) hown (hts _ ml_Table_max) (hts _ ms_Math_max) (hts _ mi_Math) (hts _ mc_Math_max) (by show 1 ≤ 1; decide) (by show 1 + 13 ≤ 21; decide) (Nat.zero_le _) (Nat.zero_le _) (by omega) d_Table_init_9 ?_
  refine x_newaI C hX ma_int (x * y) (nI_pos (by omega)) (nI_clamp (by omega)) (by omega) (by show 0 + 1 ≤ 1; decide) (by show 0 + x * y ≤ x * y; omega) d_Table_init_12 (fun a H hX => ?_)
  have hX : XW g A s [(h0, .inr (1, [.null, .int 0, .int 0, .int 0])), (a, .inl (g.cI, x * y, .inl (fun _ => 0)))] H _ := hX
  refine x_putF (ty := .array .int) (v := .ref a) (ws' := [(h0, .inr (1, [.ref a, .int 0, .int 0, .int 0])), (a, .inl (g.cI, x * y, .inl (fun _ => 0)))]) C hX 0 rfl rfl i_Table t_Table t_Table_ok n_Table 0 (by decide) fl_Table_cells (fun _ h9 => h9) rfl hin rfl (by decide +kernel) rfl rfl (Nat.le_of_ble_eq_true rfl) rfl d_Table_init_14 (fun H locs hX => ?_)
  refine lv_aload_n hx hb d_Table_init_17 rfl (lv_at hl 0 rfl) ?_
  refine lv_iload_n hx hb d_Table_init_18 rfl (lv_at hl 1 rfl) ?_
  refine x_putF (ty := .int) (v := .int (nI x)) (ws' := [(h0, .inr (1, [.ref a, .int (nI x), .int 0, .int 0])), (a, .inl (g.cI, x * y, .inl (fun _ => 0)))]) C hX 0 rfl rfl i_Table t_Table t_Table_ok n_Table 1 (by decide) fl_Table_height (fun _ h9 => h9) rfl hin rfl (by decide +kernel) rfl rfl (Nat.le_of_ble_eq_true rfl) rfl d_Table_init_19 (fun H locs hX => ?_)
  refine lv_aload_n hx hb d_Table_init_22 rfl (lv_at hl 0 rfl) ?_
  refine lv_iload_n hx hb d_Table_init_23 rfl (lv_at hl 2 rfl) ?_
  refine x_putF (ty := .int) (v := .int (nI y)) (ws' := [(h0, .inr (1, [.ref a, .int (nI x), .int (nI y), .int 0])), (a, .inl (g.cI, x * y, .inl (fun _ => 0)))]) C hX 0 rfl rfl i_Table t_Table t_Table_ok n_Table 2 (by decide) fl_Table_width (fun _ h9 => h9) rfl hin rfl (by decide +kernel) rfl rfl (Nat.le_of_ble_eq_true rfl) rfl d_Table_init_24 (fun H locs hX => ?_)
  refine W.widen (k := 1) (n := x * y) (by omega) (by omega) ?_
  exact hQ _ _ _ _ (fun k => [a].getD k 0) hX d_Table_init_27
