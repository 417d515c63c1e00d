theorem lp_same : Cond.sameMethod y_Eng_passAll.cls y_Eng_passAll.cls y_Eng_passAll.name y_Eng_passAll.desc ∈ lw_tbl := List.mem_of_getElem? (i := 1644) (by decide +kernel)
theorem lp_priv : Cond.privateMethod y_Eng_passAll ∈ lw_tbl := List.mem_of_getElem? (i := 945) (by decide +kernel)
theorem lp_inst : Cond.instanceMethod y_Eng_passAll ∈ lw_tbl := List.mem_of_getElem? (i := 946) (by decide +kernel)
theorem lp_SE : Cond.instantiable "WasmMachine$StackEngine" 14 ∈ lw_tbl := List.mem_of_getElem? (i := 369) (by decide +kernel)
theorem lp_RE : Cond.instantiable "WasmMachine$RegisterEngine" 9 ∈ lw_tbl := List.mem_of_getElem? (i := 446) (by decide +kernel)
theorem lp_stat : Cond.laysStatic "WasmMachine$Reader" "HEADER" "[I" ∈ lw_tbl := List.mem_of_getElem? (i := 533) (by decide +kernel)
theorem lp_rdin : Cond.initialized "WasmMachine$Reader" ∈ lw_tbl := List.mem_of_getElem? (i := 131) (by decide +kernel)
theorem mcl_law_7 : Cond.classLink R_law 7 R_X ∈ TB := tb 143 (by decide +kernel) rfl
theorem mcl_law_10 : Cond.classLink R_law 10 R_M ∈ TB := tb 1152 (by decide +kernel) rfl
theorem ml_law_9 : Cond.methodLink R_law 9 y_X_init ∈ TB := tb 145 (by decide +kernel) rfl
theorem cwn_law_9 {s : State} {args : Array Value} (hts : ∀ w ∈ TB, w.before args s = true) : CallB room_1 s args R_law 9 y_X_init b_X_init 1 none (Cond.code y_X_init b_X_init 1 none :: TB) (rmC 4 85 52 4171) 52 4171 0 ∧ y_X_init.name = "<init>" ∧ (Cond.instanceMethod y_X_init).before args s = true := ⟨callB_of 0 hts (x_good mc_X_init) rfl rfl rfl (hts _ mi_X) (hts _ ml_law_9) (by decide +kernel) ⟨by decide, by decide⟩, rfl, hts _ mn_X_init⟩
theorem ml_law_12 : Cond.methodLink R_law 12 y_M_init ∈ TB := tb 1154 (by decide +kernel) rfl
theorem cwn_law_12 {s : State} {args : Array Value} (hts : ∀ w ∈ TB, w.before args s = true) : CallB room_1 s args R_law 12 y_M_init b_M_init 1 none (Cond.code y_M_init b_M_init 1 none :: TB) (rmC 1 16 36 5726) 36 5726 0 ∧ y_M_init.name = "<init>" ∧ (Cond.instanceMethod y_M_init).before args s = true := ⟨callB_of 0 hts (x_good mc_M_init) rfl rfl rfl (hts _ mi_M) (hts _ ml_law_12) (by decide +kernel) ⟨by decide, by decide⟩, rfl, hts _ mn_M_init⟩
def sX0 : St := stp (fun _ _ => 0) 0 3 (-1)
def sM0 : SM := (fun _ _ => 0, fun _ _ => 0)
theorem hts_TB {args : Array Value} {s : State} (h : ∀ w ∈ lw_tbl, w.before args s = true) : ∀ w ∈ TB, w.before args s = true := by
  have hp : ∀ (C : String) (k : Nat), Cond.instantiable C k ∈ lw_tbl → (Cond.selects C y_Eng_passAll y_Eng_passAll).before args s = true := fun C k hk =>
    sel_priv (k := k) (by decide +kernel) (h _ hk) (h _ lp_same) (h _ lp_priv) (h _ lp_inst)
  intro w hw
  rcases List.mem_append.mp (List.mem_filter.mp hw).1 with hw | hw
  · exact h w hw
  · simp only [lw_two, List.mem_cons, List.not_mem_nil, or_false] at hw
    rcases hw with rfl | rfl
    · exact hp _ 14 lp_SE
    · exact hp _ 9 lp_RE
theorem XW.sub {g : GX} {A : Nat → Prop} {s : State} {ws ws' : va_W} {H : Heap} {locs : List Loc} (h : XW g A s ws H locs) (is : List Nat) (hn : va_nd is = true) (hs : is.map (fun i => ws[i]?) = ws'.map some) : XW g A s ws' H locs := by
  refine ⟨?_, h.2.1.sub is hn hs, h.2.2⟩
  intro k q hq
  have h1 : (is.map (fun i => ws[i]?))[k]? = some (some q) := by rw [hs, List.getElem?_map, hq]; rfl
  rw [List.getElem?_map] at h1
  cases hi : is[k]? with
  | none => rw [hi] at h1; cases h1
  | some i => rw [hi] at h1; exact h.1 i q (Option.some.inj h1)
theorem arr_of {args : Array Value} {s : State} {ty : FieldType} (hty : ∀ cA : ClassId, va_RA s cA ty = (s.vm.findClass ("[" ++ ty.toString) = some cA)) (h : (Cond.arrayClass ty).before args s = true) : ∃ cA : ClassId, ArrOfT s cA ty ∧ va_RA s cA ty := by
  obtain ⟨cA, kA, comp, hf, hk, hkind⟩ := Cond.arrayClass_spec h
  exact ⟨cA, fun n z => ⟨fun k h => (by cases h), kA, hk, comp, hkind⟩, by rw [hty]; exact hf⟩
set_option maxHeartbeats 8000000 in
set_option maxRecDepth 100000 in
theorem whole_sim {I : St → SM → Prop} (hS : Sim I) (hI : I sX0 sM0) {p : Program} {e : Env} {s : State} {m : MethodId} {below : List Frame} {meth : Method} {c : Code} (l : Launch) {b L : Nat} {xs : Nat → Int32} (hL : L ≤ 1536) (C0 : lw_At p s m meth c b L xs) : W p l e room_1 s m #[Value.ref b] below meth c s.heap [] 0 0 (lw_Z below #[Value.ref b] s) (entryFrame m ([Value.ref b] : List Value).toArray 4) := by
  obtain ⟨hx, hb, hr, hml, hown, hts0, hXs, hbl, hlocks, hgv⟩ := id C0
  have hts := hts_TB hts0
  obtain ⟨c0, iS0, hKn0⟩ := u_known (C := R_Row) (T := F_Row) (N := 1) (n := 1) hts i_Row (hts _ mk_Row)
  obtain ⟨c1, iS1, hKn1⟩ := u_known (C := R_Table) (T := F_Table) (N := 4) (n := 4) hts i_Table (hts _ mk_Table)
  obtain ⟨c2, iS2, hKn2⟩ := u_known (C := R_X) (T := F_X) (N := 13) (n := 13) hts i_X (hts _ mk_X)
  obtain ⟨c3, iS3, hKn3⟩ := u_known (C := R_Cont) (T := F_Cont) (N := 10) (n := 10) hts i_Cont (hts _ mk_Cont)
  obtain ⟨c4, iS4, hKn4⟩ := u_known (C := R_Rd) (T := F_Rd) (N := 9) (n := 9) hts i_Rd (hts _ mk_Rd)
  obtain ⟨c5, iS5, hKn5⟩ := u_known (C := R_Val) (T := F_Val) (N := 6) (n := 6) hts i_Val (hts _ mk_Val)
  obtain ⟨c6, iS6, hKn6⟩ := u_known (C := R_RC) (T := F_RC) (N := 6) (n := 6) hts i_RC (hts _ mk_RC)
  obtain ⟨c7, iS7, hKn7⟩ := u_known (C := R_Store) (T := F_Store) (N := 5) (n := 5) hts i_Store (hts _ mk_Store)
  obtain ⟨c8, iS8, hKn8⟩ := u_known (C := R_SE) (T := F_SE) (N := 14) (n := 14) hts i_SE (hts _ mk_SE)
  obtain ⟨c9, iS9, hKn9⟩ := u_known (C := R_RE) (T := F_RE) (N := 9) (n := 9) hts i_RE (hts _ mk_RE)
  obtain ⟨c10, iS10, hKn10⟩ := u_known (C := R_M) (T := F_M) (N := 64) (n := 64) hts i_M (hts _ mk_M)
  obtain ⟨dC, dI, hKc⟩ : ∃ (dC : Nat → ClassId) (dI : Nat → Nat → Nat), ∀ (k : Nat) (q : vw_C), classes[k]? = some q → u_Kn s q.1 q.2.1 q.2.2 (dC k) (dI k) := by
    refine ⟨fun k => [c0, c1, c2, c3, c4, c5, c6, c7, c8, c9, c10].getD k c0, fun k => [iS0, iS1, iS2, iS3, iS4, iS5, iS6, iS7, iS8, iS9, iS10].getD k iS0, ?_⟩
    intro k q hq
    match k, hq with
    | 0, hq => cases hq; exact hKn0
    | 1, hq => cases hq; exact hKn1
    | 2, hq => cases hq; exact hKn2
    | 3, hq => cases hq; exact hKn3
    | 4, hq => cases hq; exact hKn4
    | 5, hq => cases hq; exact hKn5
    | 6, hq => cases hq; exact hKn6
    | 7, hq => cases hq; exact hKn7
    | 8, hq => cases hq; exact hKn8
    | 9, hq => cases hq; exact hKn9
    | 10, hq => cases hq; exact hKn10
    | k + 11, hq => simp [classes] at hq
  obtain ⟨cI, hI1, hI2⟩ := arr_of (ty := .int) (fun _ => rfl) (hts _ ma_int)
  obtain ⟨cJ, hJ1, hJ2⟩ := arr_of (ty := .long) (fun _ => rfl) (hts _ ma_long)
  obtain ⟨cZ, hZ1, hZ2⟩ := arr_of (ty := .boolean) (fun _ => rfl) (hts _ ma_boolean)
  have hA0 : ∀ a : Nat, a < s.heap.size → ¬ (fun q : Nat => s.heap.size ≤ q) a := fun a h1 h2 => absurd h1 (Nat.not_lt.mpr h2)
  have hfl := flat_of_before _ hgv
  have hSX : SX (fun q : Nat => s.heap.size ≤ q) s := by
    obtain ⟨t, ht, hT⟩ := va_Tof (tm := .static "WasmMachine$Reader" "HEADER" "[I") (ty := .int) (N := 8) (f := fun j => .int (hdr j)) (A := fun q : Nat => s.heap.size ≤ q) (by decide) (hfl (Cond.arrayOf (.static "WasmMachine$Reader" "HEADER" "[I") .int) (by decide +kernel)) (va_eqt (z := 8) (hfl (Cond.eq (.length (.static "WasmMachine$Reader" "HEADER" "[I")) (.int 8)) (by decide +kernel))) (fun j hj => by
      rcases (show j = 0 ∨ j = 1 ∨ j = 2 ∨ j = 3 ∨ j = 4 ∨ j = 5 ∨ j = 6 ∨ j = 7 by omega) with rfl | rfl | rfl | rfl | rfl | rfl | rfl | rfl
      · exact va_eqt (z := 0) (hfl (Cond.eq (.elem (.static "WasmMachine$Reader" "HEADER" "[I") (.int 0)) (.int 0)) (by decide +kernel))
      · exact va_eqt (z := 97) (hfl (Cond.eq (.elem (.static "WasmMachine$Reader" "HEADER" "[I") (.int 1)) (.int 97)) (by decide +kernel))
      · exact va_eqt (z := 115) (hfl (Cond.eq (.elem (.static "WasmMachine$Reader" "HEADER" "[I") (.int 2)) (.int 115)) (by decide +kernel))
      · exact va_eqt (z := 109) (hfl (Cond.eq (.elem (.static "WasmMachine$Reader" "HEADER" "[I") (.int 3)) (.int 109)) (by decide +kernel))
      · exact va_eqt (z := 1) (hfl (Cond.eq (.elem (.static "WasmMachine$Reader" "HEADER" "[I") (.int 4)) (.int 1)) (by decide +kernel))
      · exact va_eqt (z := 0) (hfl (Cond.eq (.elem (.static "WasmMachine$Reader" "HEADER" "[I") (.int 5)) (.int 0)) (by decide +kernel))
      · exact va_eqt (z := 0) (hfl (Cond.eq (.elem (.static "WasmMachine$Reader" "HEADER" "[I") (.int 6)) (.int 0)) (by decide +kernel))
      · exact va_eqt (z := 0) (hfl (Cond.eq (.elem (.static "WasmMachine$Reader" "HEADER" "[I") (.int 7)) (.int 0)) (by decide +kernel))) hA0
    exact ⟨t, va_Zref (hts0 _ lp_stat) (hts0 _ lp_rdin) ht hA0, hT⟩
  have hNW : NW s := fun w hw => va_Nw.of (nestW_ok w hw) (hts0 w (nestW_in w hw))
  obtain ⟨g0, hg0⟩ : ∃ g0 : GX, g0 = (dC, dI, (cI, cJ, cZ), fun _ => 0) := ⟨_, rfl⟩
  have hK : va_K g0.D classes g0.t s := by
    subst hg0
    refine ⟨hKc, fun k q hk => ?_⟩
    match k, hk with
    | 0, hk => cases hk; exact ⟨hI1, hI2⟩
    | 1, hk => cases hk; exact ⟨hJ1, hJ2⟩
    | 2, hk => cases hk; exact ⟨hZ1, hZ2⟩
    | k + 3, hk => simp at hk
  have C : Cx g0 (fun q : Nat => s.heap.size ≤ q) p m c code 4 s #[Value.ref b] R_law := ⟨⟨hx, hb, hml, hown, hts⟩, hK, ⟨fun _ h => h, hSX⟩, hNW⟩
  have hX : XW g0 (fun q : Nat => s.heap.size ≤ q) s [] s.heap [] := ⟨fun k q h => by simp at h, ⟨fun i j p q h => by simp at h, fun k q h => by simp at h⟩, va_S.rf⟩
  have hl := lv_entry ([.ref b]) (n := 4) (Nat.le_of_ble_eq_true rfl)
  rw [lg_entry_eq]
  generalize (lg_sl ([.ref b]) ++ List.replicate (4 - (lg_sl ([.ref b])).length) Slot.unset).toArray = ls at hl ⊢
  have hl : lv_has ls 4 [(0, .ref b)] := hl
  refine x_newo (ci := 2) C hX i_X t_X t_X_ok mcl_law_7 mk_X mi_X rfl df_X (by decide) (by decide) d_law_0 (fun aX H hX => ?_)
  refine lv_dup hx hb d_law_3 rfl ?_
  refine x_nV (wc := [(aX, .inr (2, [.null, .null, .null, .null, .null, .null, .null, .null, .int 0, .int 0, .int 0, .int 0, .int 0]))]) (wr := []) (As := []) (rest := [.ref aX]) C hX [0] [] rfl rfl (by decide) (by decide) (by decide) (n_X_init l g0 aX) (cwn_law_9 hts) rfl hl.1 rfl (lv_room (Nat.le_of_ble_eq_true rfl)) d_law_4 ⟨by decide, by decide⟩ (fun u H locs hX => ?_)
  refine lv_astore_n (lv' := [(1, .ref aX), (0, .ref b)]) hx hb d_law_7 rfl hl (by decide) rfl (fun ls hl => ?_)
  refine x_newo (ci := 10) C hX i_M t_M t_M_ok mcl_law_10 mk_M mi_M rfl df_M (by decide) (by decide) d_law_8 (fun aM H hX => ?_)
  refine lv_dup hx hb d_law_11 rfl ?_
  refine x_nV (wc := [(aM, .inr (10, [.int 0, .int 0, .null, .int 0, .int 0, .int 0, .int 0, .int 0, .null, .null, .int 0, .int 0, .null, .int 0, .int 0, .long 0, .long 0, .int 0, .null, .null, .int 0, .null, .null, .null, .int 0, .null, .null, .null, .null, .int 0, .null, .null, .null, .null, .null, .null, .null, .null, .null, .null, .null, .int 0, .null, .int 0, .int 0, .null, .null, .null, .int 0, .null, .null, .int 0, .null, .int 0, .int 0, .int 0, .int 0, .null, .null, .null, .null, .int 0, .int 0, .null]))]) (wr := [(aX, .inr (2, [.ref (u 0), .ref (u 15), .ref (u 19), .ref (u 22), .ref (u 27), .ref (u 34), .ref (u 45), .ref (u 50), .int 0, .int 0, .int 0, .int (-1), .int 0])), ((u 0), .inr (3, [.ref (u 1), .ref (u 3), .ref (u 5), .ref (u 7), .ref (u 9), .ref (u 11), .ref (u 13), .int 0, .int 0, .int 0])), ((u 1), .inr (1, [.ref (u 2), .int (nI 8), .int (nI 2), .int 0])), ((u 2), .inl (g0.cI, (8 * 2), .inl (fun _ => 0))), ((u 3), .inr (1, [.ref (u 4), .int (nI 8), .int (nI 4), .int 0])), ((u 4), .inl (g0.cI, (8 * 4), .inl (fun _ => 0))), ((u 5), .inr (1, [.ref (u 6), .int (nI 4), .int (nI 2), .int 0])), ((u 6), .inl (g0.cI, (4 * 2), .inl (fun _ => 0))), ((u 7), .inr (1, [.ref (u 8), .int (nI 8), .int (nI 11), .int 0])), ((u 8), .inl (g0.cI, (8 * 11), .inl (fun _ => 0))), ((u 9), .inr (1, [.ref (u 10), .int (nI 4), .int (nI 4), .int 0])), ((u 10), .inl (g0.cI, (4 * 4), .inl (fun _ => 0))), ((u 11), .inr (1, [.ref (u 12), .int (nI 240), .int (nI 7), .int 0])), ((u 12), .inl (g0.cI, (240 * 7), .inl (fun _ => 0))), ((u 13), .inr (1, [.ref (u 14), .int (nI 240), .int (nI 1), .int 0])), ((u 14), .inl (g0.cI, (240 * 1), .inl (fun _ => 0))), ((u 15), .inr (4, [.ref (u 0), .ref (u 16), .ref (u 17), .int 0, .int 0, .int 0, .int 0, .int 0, .int 0])), ((u 16), .inl (g0.cI, 240, .inl (fun _ => 0))), ((u 17), .inr (0, [.ref (u 18)])), ((u 18), .inl (g0.cI, 11, .inl (fun _ => 0))), ((u 19), .inr (5, [.ref (u 0), .ref (u 20), .int 0, .int 0, .int 0, .int 0])), ((u 20), .inr (1, [.ref (u 21), .int (nI 11), .int (nI 6), .int 0])), ((u 21), .inl (g0.cI, (11 * 6), .inl (fun _ => 0))), ((u 22), .inr (6, [.ref (u 23), .ref (u 0), .ref (u 25), .int 0, .int 0, .int 0])), ((u 23), .inr (0, [.ref (u 24)])), ((u 24), .inl (g0.cI, 960, .inl (fun _ => 0))), ((u 25), .inr (0, [.ref (u 26)])), ((u 26), .inl (g0.cI, 10, .inl (fun _ => 0))), ((u 27), .inr (7, [.ref (u 28), .ref (u 30), .ref (u 32), .int 0, .int 0])), ((u 28), .inr (0, [.ref (u 29)])), ((u 29), .inl (g0.cI, 256, .inl (fun _ => 0))), ((u 30), .inr (0, [.ref (u 31)])), ((u 31), .inl (g0.cI, 224, .inl (fun _ => 0))), ((u 32), .inr (0, [.ref (u 33)])), ((u 33), .inl (g0.cI, 4, .inl (fun _ => 0))), ((u 34), .inr (8, [.ref (u 27), .ref (u 35), .ref (u 37), .int 0, .int 0, .int 0, .int 0, .int 0, .ref (u 0), .ref (u 39), .ref (u 41), .ref (u 43), .int 0, .int 0])), ((u 35), .inr (0, [.ref (u 36)])), ((u 36), .inl (g0.cI, 8, .inl (fun _ => 0))), ((u 37), .inr (0, [.ref (u 38)])), ((u 38), .inl (g0.cI, 8, .inl (fun _ => 0))), ((u 39), .inr (1, [.ref (u 40), .int (nI 80), .int (nI 2), .int 0])), ((u 40), .inl (g0.cI, (80 * 2), .inl (fun _ => 0))), ((u 41), .inr (0, [.ref (u 42)])), ((u 42), .inl (g0.cI, 8, .inl (fun _ => 0))), ((u 43), .inr (0, [.ref (u 44)])), ((u 44), .inl (g0.cI, 8, .inl (fun _ => 0))), ((u 45), .inr (9, [.ref (u 27), .ref (u 46), .ref (u 48), .int 0, .int 0, .int 0, .int 0, .int 0, .ref (u 22)])), ((u 46), .inr (0, [.ref (u 47)])), ((u 47), .inl (g0.cI, 8, .inl (fun _ => 0))), ((u 48), .inr (0, [.ref (u 49)])), ((u 49), .inl (g0.cI, 8, .inl (fun _ => 0))), ((u 50), .inr (0, [.ref (u 51)])), ((u 51), .inl (g0.cI, 4, .inl (fun _ => 0)))]) (As := []) (rest := [.ref aM]) C hX [53] [0, 1, 2, 3, 4, 5, 6, 7, 8, 9, 10, 11, 12, 13, 14, 15, 16, 17, 18, 19, 20, 21, 22, 23, 24, 25, 26, 27, 28, 29, 30, 31, 32, 33, 34, 35, 36, 37, 38, 39, 40, 41, 42, 43, 44, 45, 46, 47, 48, 49, 50, 51, 52] rfl rfl (by decide) (by decide) (by decide) (n_M_init l g0 aM) (cwn_law_12 hts) rfl hl.1 rfl (lv_room (Nat.le_of_ble_eq_true rfl)) d_law_12 ⟨by decide, by decide⟩ (fun v H locs hX => ?_)
  refine lv_astore_n (lv' := [(2, .ref aM), (1, .ref aX), (0, .ref b)]) hx hb d_law_15 rfl hl (by decide) rfl (fun ls hl => ?_)
  refine lv_iconst (v := 0) hx hb d_law_16 (by decide) ?_
  refine lv_istore_n (lv' := [(3, .int 0), (2, .ref aM), (1, .ref aX), (0, .ref b)]) hx hb d_law_17 rfl hl (by decide) rfl (fun ls hl => ?_)
  obtain ⟨g, hg⟩ : ∃ g : GX, g = (dC, dI, (cI, cJ, cZ), fun k => if k < 60 then [aX, (u 0), (u 15), (u 19), (u 22), (u 27), (u 34), (u 45), (u 50), (u 51), (u 1), (u 2), (u 3), (u 4), (u 5), (u 6), (u 7), (u 8), (u 9), (u 10), (u 11), (u 12), (u 13), (u 14), (u 17), (u 18), (u 16), (u 20), (u 21), (u 23), (u 24), (u 25), (u 26), (u 28), (u 29), (u 30), (u 31), (u 32), (u 33), (u 35), (u 36), (u 37), (u 38), (u 46), (u 47), (u 48), (u 49), (u 39), (u 40), (u 41), (u 42), (u 43), (u 44)].getD k 0 else [aM, (v 0), (v 1), (v 2), (v 3), (v 4), (v 5), (v 6), (v 7), (v 8), (v 9), (v 10), (v 11), (v 12), (v 13), (v 14), (v 15), (v 16), (v 17), (v 18), (v 19), (v 20), (v 21), (v 22), (v 23), (v 24), (v 25), (v 26), (v 27), (v 28), (v 29), (v 30), (v 31), (v 32), (v 33), (v 34), (v 35)].getD (k - 60) 0) := ⟨_, rfl⟩
  subst hg0
  have hX2 : XW g (fun q : Nat => s.heap.size ≤ q) s (wX g sX0 ++ wM g sM0) H locs := by
    subst hg
    exact XW.sub (ws := _) hX [0, 1, 16, 20, 23, 28, 35, 46, 51, 52, 2, 3, 4, 5, 6, 7, 8, 9, 10, 11, 12, 13, 14, 15, 18, 19, 17, 21, 22, 24, 25, 26, 27, 29, 30, 31, 32, 33, 34, 36, 37, 38, 39, 47, 48, 49, 50, 40, 41, 42, 43, 44, 45, 53, 54, 55, 56, 57, 58, 59, 60, 61, 62, 63, 64, 65, 66, 67, 68, 69, 70, 71, 72, 73, 74, 75, 76, 77, 78, 79, 80, 81, 82, 83, 84, 85, 86, 87, 88, 89] (by decide) rfl
  have C2 : Cx g (fun q : Nat => s.heap.size ≤ q) p m c code 4 s #[Value.ref b] R_law := by subst hg; exact C
  have hl2 : lv_has ls 4 [(0, .ref b), (1, .ref (g.q 0)), (2, .ref (g.q 60)), (3, .int (nI 0))] := by subst hg; exact lv_sub hl [3, 2, 1, 0] rfl
  refine W.widen (k := 90) (n := 9974) (by decide) (by decide) ?_
  exact law_loop hr hlocks hXs hbl hL C2 hS (L + 4) 0 (by omega) (by omega) sX0 sM0 hI H locs ls hX2 hl2
