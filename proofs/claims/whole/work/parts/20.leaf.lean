theorem vin {i : Int32} {n : Nat} (h0 : ¬ i < 0) (h1 : ¬ nI n ≤ i) (hn : n < 2 ^ 31) : vp_in i n := by
  obtain ⟨j, hj, e, _⟩ := pk_mu h0 h1 hn
  rw [e]
  exact vp_in_nI hj hn
theorem set_self {α : Type} {l : List α} {k : Nat} {x : α} (h : l[k]? = some x) : l.set k x = l := by
  apply List.ext_getElem?
  intro j
  by_cases hj : k = j
  · subst hj
    rw [h]
    have hk : k < l.length := (List.getElem?_eq_some_iff.mp h).1
    simp [hk]
  · rw [List.getElem?_set_ne hj]
section LEAF
variable {ws : va_W} {k ka a b n : Nat} {f : Nat → Int32}
set_option maxHeartbeats 4000000 in
set_option maxRecDepth 100000 in
theorem c_Row_get (l : Launch) (g : GX) (he : ws[k]? = some (a, .inr (ciRow, [.ref b]))) (ha : ws[ka]? = some (b, .inl (g.cI, n, .inl f))) (hn : n < 2 ^ 31) (i : Int32) : MI l g y_Row_get b_Row_get 2 (some .int) 0 0 [.ref a, .int i] ws (rGet n f i) ws := by
  refine MI.mk (own := R_Row) (by decide) rfl (Nat.le_of_ble_eq_true rfl) fun p e s m below meth c A Q C hQ ls hX hl => ?_
  have ⟨⟨hx, hb, hml, hown, hts⟩, hK, hA, hN⟩ := C
  have hl : lv_has ls 2 [(0, .ref a), (1, .int i)] := hl
  generalize er : rGet n f i = r at hQ ⊢
  unfold rGet at er
  refine lv_iload_n hx hb d_Row_get_0 rfl (lv_at hl 1 rfl) ?_
  refine lv_if_lt (tgt := 22) hx hb d_Row_get_1 (by decide) (fun c1 => ?_) (fun c1 => ?_)
  · refine lv_iconst (v := 0) hx hb d_Row_get_22 (by decide) ?_
    rw [if_pos c1] at er
    subst er
    exact hQ _ _ _ _ hX d_Row_get_23
  rw [if_neg c1] at er
  refine lv_iload_n hx hb d_Row_get_4 rfl (lv_at hl 1 rfl) ?_
  refine lv_aload_n hx hb d_Row_get_5 rfl (lv_at hl 0 rfl) ?_
  refine x_get C hX k he rfl i_Row 0 (by decide) fl_Row_cells (fun _ h9 => h9) rfl d_Row_get_6 ?_
  refine x_alen (v := nI n) C hX ka ha rfl d_Row_get_9 ?_
  refine lv_icmp_ge (tgt := 22) hx hb d_Row_get_10 (by decide) (fun c2 => ?_) (fun c2 => ?_)
  · refine lv_iconst (v := 0) hx hb d_Row_get_22 (by decide) ?_
    rw [if_pos c2] at er
    subst er
    exact hQ _ _ _ _ hX d_Row_get_23
  rw [if_neg c2] at er
  refine lv_aload_n hx hb d_Row_get_13 rfl (lv_at hl 0 rfl) ?_
  refine x_get C hX k he rfl i_Row 0 (by decide) fl_Row_cells (fun _ h9 => h9) rfl d_Row_get_14 ?_
  refine lv_iload_n hx hb d_Row_get_17 rfl (lv_at hl 1 rfl) ?_
  refine x_ald C hX ka ha (vin c1 c2 hn) d_Row_get_18 er.symm ?_
  refine lv_goto (tgt := 23) hx hb d_Row_get_19 (by decide) ?_
  exact hQ _ _ _ _ hX d_Row_get_23
set_option maxHeartbeats 4000000 in
set_option maxRecDepth 100000 in
theorem c_Row_set (l : Launch) (g : GX) (he : ws[k]? = some (a, .inr (ciRow, [.ref b]))) (ha : ws[ka]? = some (b, .inl (g.cI, n, .inl f))) (hn : n < 2 ^ 31) (i v : Int32) {ws' : va_W} (hw : ws.set ka (b, .inl (g.cI, n, .inl (rSetF n f i v))) = ws') : MV l g y_Row_set b_Row_set 3 none 0 0 [.ref a, .int i, .int v] ws ws' := by
  refine MV.mk (own := R_Row) (by decide) rfl (Nat.le_of_ble_eq_true rfl) fun p e s m below meth c A Q C hQ ls hX hl => ?_
  have ⟨⟨hx, hb, hml, hown, hts⟩, hK, hA, hN⟩ := C
  have hl : lv_has ls 3 [(0, .ref a), (1, .int i), (2, .int v)] := hl
  unfold rSetF at hw
  refine lv_iload_n hx hb d_Row_set_0 rfl (lv_at hl 1 rfl) ?_
  refine lv_if_lt (tgt := 20) hx hb d_Row_set_1 (by decide) (fun c1 => ?_) (fun c1 => ?_)
  · rw [if_pos c1, set_self ha] at hw
    subst hw
    exact hQ _ _ _ _ hX d_Row_set_20
  rw [if_neg c1] at hw
  refine lv_iload_n hx hb d_Row_set_4 rfl (lv_at hl 1 rfl) ?_
  refine lv_aload_n hx hb d_Row_set_5 rfl (lv_at hl 0 rfl) ?_
  refine x_get C hX k he rfl i_Row 0 (by decide) fl_Row_cells (fun _ h9 => h9) rfl d_Row_set_6 ?_
  refine x_alen (v := nI n) C hX ka ha rfl d_Row_set_9 ?_
  refine lv_icmp_ge (tgt := 20) hx hb d_Row_set_10 (by decide) (fun c2 => ?_) (fun c2 => ?_)
  · rw [if_pos c2, set_self ha] at hw
    subst hw
    exact hQ _ _ _ _ hX d_Row_set_20
  rw [if_neg c2] at hw
  refine lv_aload_n hx hb d_Row_set_13 rfl (lv_at hl 0 rfl) ?_
  refine x_get C hX k he rfl i_Row 0 (by decide) fl_Row_cells (fun _ h9 => h9) rfl d_Row_set_14 ?_
  refine lv_iload_n hx hb d_Row_set_17 rfl (lv_at hl 1 rfl) ?_
  refine lv_iload_n hx hb d_Row_set_18 rfl (lv_at hl 2 rfl) ?_
  refine x_ast C hX ka ha (vin c1 c2 hn) hw d_Row_set_19 (fun H locs hX => ?_)
  exact hQ _ _ _ _ hX d_Row_set_20
set_option maxHeartbeats 4000000 in
set_option maxRecDepth 100000 in
theorem c_Table_count (l : Launch) (g : GX) {h w : Int32} {cn : Int32} (he : ws[k]? = some (a, .inr (ciTable, [.ref b, .int h, .int w, .int cn]))) : MI l g y_Table_count b_Table_count 1 (some .int) 0 0 [.ref a] ws cn ws := by
  refine MI.mk (own := R_Table) (by decide) rfl (Nat.le_of_ble_eq_true rfl) fun p e s m below meth c A Q C hQ ls hX hl => ?_
  have ⟨⟨hx, hb, hml, hown, hts⟩, hK, hA, hN⟩ := C
  have hl : lv_has ls 1 [(0, .ref a)] := hl
  refine lv_aload_n hx hb d_Table_count_0 rfl (lv_at hl 0 rfl) ?_
  refine x_get C hX k he rfl i_Table 3 (by decide) fl_Table_count (fun _ h9 => h9) rfl d_Table_count_1 ?_
  exact hQ _ _ _ _ hX d_Table_count_4
set_option maxHeartbeats 4000000 in
set_option maxRecDepth 100000 in
theorem c_Table_has (l : Launch) (g : GX) {h w : Int32} {cn : Int32} (he : ws[k]? = some (a, .inr (ciTable, [.ref b, .int h, .int w, .int cn]))) (i : Int32) : MI l g y_Table_has b_Table_has 2 (some .boolean) 0 0 [.ref a, .int i] ws (tHas cn i) ws := by
  refine MI.mkZ (own := R_Table) (by decide) rfl (Nat.le_of_ble_eq_true rfl) fun p e s m below meth c A Q C hQ ls hX hl => ?_
  have ⟨⟨hx, hb, hml, hown, hts⟩, hK, hA, hN⟩ := C
  have hl : lv_has ls 2 [(0, .ref a), (1, .int i)] := hl
  generalize er : tHas cn i = r at hQ ⊢
  unfold tHas at er
  refine lv_iload_n hx hb d_Table_has_0 rfl (lv_at hl 1 rfl) ?_
  refine lv_if_lt (tgt := 16) hx hb d_Table_has_1 (by decide) (fun c1 => ?_) (fun c1 => ?_)
  · refine lv_iconst (v := 0) hx hb d_Table_has_16 (by decide) ?_
    rw [if_pos c1] at er
    subst er
    exact hQ _ _ _ _ hX (Or.inl rfl) d_Table_has_17
  rw [if_neg c1] at er
  refine lv_iload_n hx hb d_Table_has_4 rfl (lv_at hl 1 rfl) ?_
  refine lv_aload_n hx hb d_Table_has_5 rfl (lv_at hl 0 rfl) ?_
  refine x_get C hX k he rfl i_Table 3 (by decide) fl_Table_count (fun _ h9 => h9) rfl d_Table_has_6 ?_
  refine lv_icmp_ge (tgt := 16) hx hb d_Table_has_9 (by decide) (fun c2 => ?_) (fun c2 => ?_)
  · refine lv_iconst (v := 0) hx hb d_Table_has_16 (by decide) ?_
    rw [if_pos c2] at er
    subst er
    exact hQ _ _ _ _ hX (Or.inl rfl) d_Table_has_17
  rw [if_neg c2] at er
  subst er
  refine lv_iconst (v := 1) hx hb d_Table_has_12 (by decide) ?_
  refine lv_goto (tgt := 17) hx hb d_Table_has_13 (by decide) ?_
  exact hQ _ _ _ _ hX (Or.inr rfl) d_Table_has_17
set_option maxHeartbeats 4000000 in
set_option maxRecDepth 100000 in
theorem c_Table_add (l : Launch) (g : GX) {h w : Int32} {cn : Int32} (he : ws[k]? = some (a, .inr (ciTable, [.ref b, .int h, .int w, .int cn]))) {ws' : va_W} (hw : ws.set k (a, .inr (ciTable, [.ref b, .int h, .int w, .int (cn + 1)])) = ws') (he' : ws'[k]? = some (a, .inr (ciTable, [.ref b, .int h, .int w, .int (cn + 1)]))) : MI l g y_Table_add b_Table_add 1 (some .int) 0 0 [.ref a] ws (cn + 1 - 1) ws' := by
  refine MI.mk (own := R_Table) (by decide) rfl (Nat.le_of_ble_eq_true rfl) fun p e s m below meth c A Q C hQ ls hX hl => ?_
  have ⟨⟨hx, hb, hml, hown, hts⟩, hK, hA, hN⟩ := C
  have hl : lv_has ls 1 [(0, .ref a)] := hl
  refine lv_aload_n hx hb d_Table_add_0 rfl (lv_at hl 0 rfl) ?_
  refine lv_dup hx hb d_Table_add_1 rfl ?_
  refine x_get C hX k he rfl i_Table 3 (by decide) fl_Table_count (fun _ h9 => h9) rfl d_Table_add_2 ?_
  refine lv_iconst (v := 1) hx hb d_Table_add_5 (by decide) ?_
  refine lv_iadd hx hb d_Table_add_6 ?_
  refine x_put (ty := .int) C hX k he rfl i_Table t_Table t_Table_ok n_Table 3 (by decide) fl_Table_count (fun _ h9 => h9) rfl (by decide +kernel) rfl rfl (Nat.le_of_ble_eq_true rfl) hw d_Table_add_7 (fun H locs hX => ?_)
  refine lv_aload_n hx hb d_Table_add_10 rfl (lv_at hl 0 rfl) ?_
  refine x_get C hX k he' rfl i_Table 3 (by decide) fl_Table_count (fun _ h9 => h9) rfl d_Table_add_11 ?_
  refine lv_iconst (v := 1) hx hb d_Table_add_14 (by decide) ?_
  refine lv_isub hx hb d_Table_add_15 ?_
  exact hQ _ _ _ _ hX d_Table_add_16
set_option maxHeartbeats 4000000 in
set_option maxRecDepth 100000 in
theorem c_Table_get (l : Launch) (g : GX) {h w : Nat} {cn : Int32} (he : ws[k]? = some (a, .inr (ciTable, [.ref b, .int (nI h), .int (nI w), .int cn]))) (ha : ws[ka]? = some (b, .inl (g.cI, h * w, .inl f))) (hn : h * w < 2 ^ 31) (i j : Int32) : MI l g y_Table_get b_Table_get 4 (some .int) 0 0 [.ref a, .int i, .int j] ws (tGet h w f i j) ws := by
  refine MI.mk (own := R_Table) (by decide) rfl (Nat.le_of_ble_eq_true rfl) fun p e s m below meth c A Q C hQ ls hX hl => ?_
  have ⟨⟨hx, hb, hml, hown, hts⟩, hK, hA, hN⟩ := C
  have hl : lv_has ls 4 [(0, .ref a), (1, .int i), (2, .int j)] := hl
  generalize er : tGet h w f i j = r at hQ ⊢
  unfold tGet at er
  refine lv_iload_n hx hb d_Table_get_0 rfl (lv_at hl 1 rfl) ?_
  refine lv_if_lt (tgt := 24) hx hb d_Table_get_1 (by decide) (fun c1 => ?_) (fun c1 => ?_)
  · refine lv_iconst (v := 0) hx hb d_Table_get_24 (by decide) ?_
    rw [if_pos c1] at er
    subst er
    exact hQ _ _ _ _ hX d_Table_get_25
  rw [if_neg c1] at er
  refine lv_iload_n hx hb d_Table_get_4 rfl (lv_at hl 1 rfl) ?_
  refine lv_aload_n hx hb d_Table_get_5 rfl (lv_at hl 0 rfl) ?_
  refine x_get C hX k he rfl i_Table 1 (by decide) fl_Table_height (fun _ h9 => h9) rfl d_Table_get_6 ?_
  refine lv_icmp_ge (tgt := 24) hx hb d_Table_get_9 (by decide) (fun c2 => ?_) (fun c2 => ?_)
  · refine lv_iconst (v := 0) hx hb d_Table_get_24 (by decide) ?_
    rw [if_pos c2] at er
    subst er
    exact hQ _ _ _ _ hX d_Table_get_25
  rw [if_neg c2] at er
  refine lv_iload_n hx hb d_Table_get_12 rfl (lv_at hl 2 rfl) ?_
  refine lv_if_lt (tgt := 24) hx hb d_Table_get_13 (by decide) (fun c3 => ?_) (fun c3 => ?_)
  · refine lv_iconst (v := 0) hx hb d_Table_get_24 (by decide) ?_
    rw [if_pos c3] at er
    subst er
    exact hQ _ _ _ _ hX d_Table_get_25
  rw [if_neg c3] at er
  refine lv_iload_n hx hb d_Table_get_16 rfl (lv_at hl 2 rfl) ?_
  refine lv_aload_n hx hb d_Table_get_17 rfl (lv_at hl 0 rfl) ?_
  refine x_get C hX k he rfl i_Table 2 (by decide) fl_Table_width (fun _ h9 => h9) rfl d_Table_get_18 ?_
  refine lv_icmp_lt (tgt := 26) hx hb d_Table_get_21 (by decide) (fun c4 => ?_) (fun c4 => ?_)
  rotate_left
  · refine lv_iconst (v := 0) hx hb d_Table_get_24 (by decide) ?_
    rw [if_neg c4] at er
    subst er
    exact hQ _ _ _ _ hX d_Table_get_25
  rw [if_pos c4] at er
  refine lv_iload_n hx hb d_Table_get_26 rfl (lv_at hl 1 rfl) ?_
  refine lv_aload_n hx hb d_Table_get_27 rfl (lv_at hl 0 rfl) ?_
  refine x_get C hX k he rfl i_Table 2 (by decide) fl_Table_width (fun _ h9 => h9) rfl d_Table_get_28 ?_
  refine lv_imul hx hb d_Table_get_31 ?_
  refine lv_iload_n hx hb d_Table_get_32 rfl (lv_at hl 2 rfl) ?_
  refine lv_iadd hx hb d_Table_get_33 ?_
  generalize i * nI w + j = q at er ⊢
  unfold rGet at er
  refine lv_istore_n (lv' := [(3, .int q), (0, .ref a), (1, .int i), (2, .int j)]) hx hb d_Table_get_34 rfl hl (by decide) rfl (fun ls hl => ?_)
  refine lv_iload_n hx hb d_Table_get_35 rfl (lv_at hl 0 rfl) ?_
  refine lv_if_lt (tgt := 57) hx hb d_Table_get_36 (by decide) (fun c5 => ?_) (fun c5 => ?_)
  · refine lv_iconst (v := 0) hx hb d_Table_get_57 (by decide) ?_
    rw [if_pos c5] at er
    subst er
    exact hQ _ _ _ _ hX d_Table_get_58
  rw [if_neg c5] at er
  refine lv_iload_n hx hb d_Table_get_39 rfl (lv_at hl 0 rfl) ?_
  refine lv_aload_n hx hb d_Table_get_40 rfl (lv_at hl 1 rfl) ?_
  refine x_get C hX k he rfl i_Table 0 (by decide) fl_Table_cells (fun _ h9 => h9) rfl d_Table_get_41 ?_
  refine x_alen (v := nI (h * w)) C hX ka ha rfl d_Table_get_44 ?_
  refine lv_icmp_ge (tgt := 57) hx hb d_Table_get_45 (by decide) (fun c6 => ?_) (fun c6 => ?_)
  · refine lv_iconst (v := 0) hx hb d_Table_get_57 (by decide) ?_
    rw [if_pos c6] at er
    subst er
    exact hQ _ _ _ _ hX d_Table_get_58
  rw [if_neg c6] at er
  refine lv_aload_n hx hb d_Table_get_48 rfl (lv_at hl 1 rfl) ?_
  refine x_get C hX k he rfl i_Table 0 (by decide) fl_Table_cells (fun _ h9 => h9) rfl d_Table_get_49 ?_
  refine lv_iload_n hx hb d_Table_get_52 rfl (lv_at hl 0 rfl) ?_
  refine x_ald C hX ka ha (vin c5 c6 hn) d_Table_get_53 er.symm ?_
  refine lv_goto (tgt := 58) hx hb d_Table_get_54 (by decide) ?_
  exact hQ _ _ _ _ hX d_Table_get_58
set_option maxHeartbeats 4000000 in
set_option maxRecDepth 100000 in
theorem c_Table_set (l : Launch) (g : GX) {h w : Nat} {cn : Int32} (he : ws[k]? = some (a, .inr (ciTable, [.ref b, .int (nI h), .int (nI w), .int cn]))) (ha : ws[ka]? = some (b, .inl (g.cI, h * w, .inl f))) (hn : h * w < 2 ^ 31) (i j v : Int32) {ws' : va_W} (hw : ws.set ka (b, .inl (g.cI, h * w, .inl (tSetF h w f i j v))) = ws') : MV l g y_Table_set b_Table_set 5 none 0 0 [.ref a, .int i, .int j, .int v] ws ws' := by
  refine MV.mk (own := R_Table) (by decide) rfl (Nat.le_of_ble_eq_true rfl) fun p e s m below meth c A Q C hQ ls hX hl => ?_
  have ⟨⟨hx, hb, hml, hown, hts⟩, hK, hA, hN⟩ := C
  have hl : lv_has ls 5 [(0, .ref a), (1, .int i), (2, .int j), (3, .int v)] := hl
  unfold tSetF at hw
  refine lv_iload_n hx hb d_Table_set_0 rfl (lv_at hl 1 rfl) ?_
  refine lv_if_lt (tgt := 24) hx hb d_Table_set_1 (by decide) (fun c1 => ?_) (fun c1 => ?_)
  · rw [if_pos c1, set_self ha] at hw
    subst hw
    exact hQ _ _ _ _ hX d_Table_set_24
  rw [if_neg c1] at hw
  refine lv_iload_n hx hb d_Table_set_4 rfl (lv_at hl 1 rfl) ?_
  refine lv_aload_n hx hb d_Table_set_5 rfl (lv_at hl 0 rfl) ?_
  refine x_get C hX k he rfl i_Table 1 (by decide) fl_Table_height (fun _ h9 => h9) rfl d_Table_set_6 ?_
  refine lv_icmp_ge (tgt := 24) hx hb d_Table_set_9 (by decide) (fun c2 => ?_) (fun c2 => ?_)
  · rw [if_pos c2, set_self ha] at hw
    subst hw
    exact hQ _ _ _ _ hX d_Table_set_24
  rw [if_neg c2] at hw
  refine lv_iload_n hx hb d_Table_set_12 rfl (lv_at hl 2 rfl) ?_
  refine lv_if_lt (tgt := 24) hx hb d_Table_set_13 (by decide) (fun c3 => ?_) (fun c3 => ?_)
  · rw [if_pos c3, set_self ha] at hw
    subst hw
    exact hQ _ _ _ _ hX d_Table_set_24
  rw [if_neg c3] at hw
  refine lv_iload_n hx hb d_Table_set_16 rfl (lv_at hl 2 rfl) ?_
  refine lv_aload_n hx hb d_Table_set_17 rfl (lv_at hl 0 rfl) ?_
  refine x_get C hX k he rfl i_Table 2 (by decide) fl_Table_width (fun _ h9 => h9) rfl d_Table_set_18 ?_
  refine lv_icmp_lt (tgt := 25) hx hb d_Table_set_21 (by decide) (fun c4 => ?_) (fun c4 => ?_)
  rotate_left
  · rw [if_neg c4, set_self ha] at hw
    subst hw
    exact hQ _ _ _ _ hX d_Table_set_24
  rw [if_pos c4] at hw
  refine lv_iload_n hx hb d_Table_set_25 rfl (lv_at hl 1 rfl) ?_
  refine lv_aload_n hx hb d_Table_set_26 rfl (lv_at hl 0 rfl) ?_
  refine x_get C hX k he rfl i_Table 2 (by decide) fl_Table_width (fun _ h9 => h9) rfl d_Table_set_27 ?_
  refine lv_imul hx hb d_Table_set_30 ?_
  refine lv_iload_n hx hb d_Table_set_31 rfl (lv_at hl 2 rfl) ?_
  refine lv_iadd hx hb d_Table_set_32 ?_
  generalize i * nI w + j = q at hw ⊢
  unfold rSetF at hw
  refine lv_istore (lv' := [(4, .int q), (0, .ref a), (1, .int i), (2, .int j), (3, .int v)]) hx hb d_Table_set_33 hl (by decide) rfl (fun ls hl => ?_)
  refine lv_iload hx hb d_Table_set_35 (lv_at hl 0 rfl) ?_
  refine lv_if_lt (tgt := 58) hx hb d_Table_set_37 (by decide) (fun c5 => ?_) (fun c5 => ?_)
  · rw [if_pos c5, set_self ha] at hw
    subst hw
    exact hQ _ _ _ _ hX d_Table_set_58
  rw [if_neg c5] at hw
  refine lv_iload hx hb d_Table_set_40 (lv_at hl 0 rfl) ?_
  refine lv_aload_n hx hb d_Table_set_42 rfl (lv_at hl 1 rfl) ?_
  refine x_get C hX k he rfl i_Table 0 (by decide) fl_Table_cells (fun _ h9 => h9) rfl d_Table_set_43 ?_
  refine x_alen (v := nI (h * w)) C hX ka ha rfl d_Table_set_46 ?_
  refine lv_icmp_ge (tgt := 58) hx hb d_Table_set_47 (by decide) (fun c6 => ?_) (fun c6 => ?_)
  · rw [if_pos c6, set_self ha] at hw
    subst hw
    exact hQ _ _ _ _ hX d_Table_set_58
  rw [if_neg c6] at hw
  refine lv_aload_n hx hb d_Table_set_50 rfl (lv_at hl 1 rfl) ?_
  refine x_get C hX k he rfl i_Table 0 (by decide) fl_Table_cells (fun _ h9 => h9) rfl d_Table_set_51 ?_
  refine lv_iload hx hb d_Table_set_54 (lv_at hl 0 rfl) ?_
  refine lv_iload_n hx hb d_Table_set_56 rfl (lv_at hl 4 rfl) ?_
  refine x_ast C hX ka ha (vin c5 c6 hn) hw d_Table_set_57 (fun H locs hX => ?_)
  exact hQ _ _ _ _ hX d_Table_set_58
set_option maxHeartbeats 4000000 in
set_option maxRecDepth 100000 in
theorem c_Arrays_fill (l : Launch) (g : GX) (ha : ws[ka]? = some (b, .inl (g.cI, n, .inl f))) (hn : n < 2 ^ 31) (v : Int32) {ws' : va_W} (hw : ws.set ka (b, .inl (g.cI, n, .inl (aFillF n f v))) = ws') : MV l g y_Arrays_fill b_Arrays_fill 4 none 0 0 [.ref b, .int v] ws ws' := by
  refine MV.mk (own := R_Arrays) (by decide) rfl (Nat.le_of_ble_eq_true rfl) fun p e s m below meth c A Q C hQ ls hX hl => ?_
  have ⟨⟨hx, hb, hml, hown, hts⟩, hK, hA, hN⟩ := C
  have hl : lv_has ls 4 [(0, .ref b), (1, .int v)] := hl
  have hka : ka < ws.length := (List.getElem?_eq_some_iff.mp ha).1
  have loop : ∀ (d i : Nat) (H : Heap) (locs : List Loc) (ls : Array Slot), i + d = n → XW g A s (ws.set ka (b, .inl (g.cI, n, .inl (aFillF i f v)))) H locs → lv_has ls 4 [(0, .ref b), (1, .int v), (2, .int (nI i)), (3, .int (nI n))] → W p l e (rmX 0 0) s m #[Value.ref b, Value.int v] below meth c H locs 0 0 Q (F0 m 5 ls []) := by
    intro d
    induction d with
    | zero =>
      intro i H locs ls hi hX hl
      refine lv_iload_n hx hb d_Arrays_fill_5 rfl (lv_at hl 2 rfl) ?_
      refine lv_iload_n hx hb d_Arrays_fill_6 rfl (lv_at hl 3 rfl) ?_
      refine lv_icmp_ge (tgt := 20) hx hb d_Arrays_fill_7 (by decide) (fun c1 => ?_) (fun c1 => ?_)
      · have hi : i = n := by omega
        subst hi
        subst hw
        exact hQ _ _ _ _ hX d_Arrays_fill_20
      · exact absurd (nI_le (by omega) (by omega)) c1
    | succ d ih =>
      intro i H locs ls hi hX hl
      refine lv_iload_n hx hb d_Arrays_fill_5 rfl (lv_at hl 2 rfl) ?_
      refine lv_iload_n hx hb d_Arrays_fill_6 rfl (lv_at hl 3 rfl) ?_
      refine lv_icmp_ge (tgt := 20) hx hb d_Arrays_fill_7 (by decide) (fun c1 => ?_) (fun c1 => ?_)
      · exact absurd c1 (nI_ge (by omega) (by omega))
      · refine lv_aload_n hx hb d_Arrays_fill_10 rfl (lv_at hl 0 rfl) ?_
        refine lv_iload_n hx hb d_Arrays_fill_11 rfl (lv_at hl 2 rfl) ?_
        refine lv_iload_n hx hb d_Arrays_fill_12 rfl (lv_at hl 1 rfl) ?_
        refine x_ast (ws' := ws.set ka (b, .inl (g.cI, n, .inl (aFillF (i + 1) f v)))) C hX ka (n := n) (f := aFillF i f v) (by rw [List.getElem?_set_self hka]) (vp_in_nI (by omega) hn) ?_ d_Arrays_fill_13 (fun H locs hX => ?_)
        · rw [List.set_set]
          have : upd (aFillF i f v) (nI i).toNatClampNeg v = aFillF (i + 1) f v := by
            rw [nI_clamp (by omega)]
            funext j
            by_cases hj : j = i
            · subst hj
              rw [pk_us]
              simp [aFillF]
            · rw [pk_un hj]
              simp only [aFillF]
              by_cases hj2 : j < i
              · rw [if_pos hj2, if_pos (by omega)]
              · rw [if_neg hj2, if_neg (by omega)]
          rw [this]
        refine lv_iinc (v := nI (i + 1)) (lv' := [(2, .int (nI (i + 1))), (0, .ref b), (1, .int v), (3, .int (nI n))]) hx hb d_Arrays_fill_14 hl (k := 2) rfl (nI_1 i) (by decide) rfl (fun ls hl => ?_)
        refine lv_goto (tgt := 5) hx hb d_Arrays_fill_17 (by decide) ?_
        exact ih (i + 1) H locs ls (by omega) hX (lv_sub hl [1, 2, 0, 3] rfl)
  refine lv_iconst (v := 0) hx hb d_Arrays_fill_0 (by decide) ?_
  refine lv_istore_n (lv' := [(2, .int 0), (0, .ref b), (1, .int v)]) hx hb d_Arrays_fill_1 rfl hl (by decide) rfl (fun ls hl => ?_)
  refine lv_aload_n hx hb d_Arrays_fill_2 rfl (lv_at hl 1 rfl) ?_
  refine x_alen (v := nI n) C hX ka ha rfl d_Arrays_fill_3 ?_
  refine lv_istore_n (lv' := [(3, .int (nI n)), (2, .int 0), (0, .ref b), (1, .int v)]) hx hb d_Arrays_fill_4 rfl hl (by decide) rfl (fun ls hl => ?_)
  refine loop n 0 _ _ ls (by omega) ?_ (lv_sub hl [2, 3, 1, 0] rfl)
  have e0 : aFillF 0 f v = f := by
    funext j
    simp [aFillF]
  rw [e0, set_self ha]
  exact hX
set_option maxHeartbeats 4000000 in
set_option maxRecDepth 100000 in
theorem c_Row_clear (l : Launch) (g : GX) (he : ws[k]? = some (a, .inr (ciRow, [.ref b]))) (ha : ws[ka]? = some (b, .inl (g.cI, n, .inl f))) (hn : n < 2 ^ 31) {ws' : va_W} (hw : ws.set ka (b, .inl (g.cI, n, .inl (aFillF n f 0))) = ws') : MV l g y_Row_clear b_Row_clear 1 none 1 23 [.ref a] ws ws' := by
  refine MV.mk (own := R_Row) (by decide) rfl (Nat.le_of_ble_eq_true rfl) fun p e s m below meth c A Q C hQ ls hX hl => ?_
  have ⟨⟨hx, hb, hml, hown, hts⟩, hK, hA, hN⟩ := C
  have hl : lv_has ls 1 [(0, .ref a)] := hl
  refine lv_aload_n hx hb d_Row_clear_0 rfl (lv_at hl 0 rfl) ?_
  refine x_get C hX k he rfl i_Row 0 (by decide) fl_Row_cells (fun _ h9 => h9) rfl d_Row_clear_1 ?_
  refine lv_iconst (v := 0) hx hb d_Row_clear_4 (by decide) ?_
  refine x_sV (As := [.ref b, .int 0]) (rest := []) C hX (c_Arrays_fill l g ha hn 0 hw) (cw_Row_fill hts hN ⟨by decide, by decide⟩) rfl hl.1 rfl (lv_room (Nat.le_of_ble_eq_true rfl)) d_Row_clear_5 ⟨Nat.le_refl _, Nat.le_refl _⟩ (fun H locs hX => ?_)
  exact hQ _ _ _ _ hX d_Row_clear_8
set_option maxHeartbeats 4000000 in
set_option maxRecDepth 100000 in
theorem c_Table_clear (l : Launch) (g : GX) {h w : Int32} {cn : Int32} (he : ws[k]? = some (a, .inr (ciTable, [.ref b, .int h, .int w, .int cn]))) (ha : ws[ka]? = some (b, .inl (g.cI, n, .inl f))) (hn : n < 2 ^ 31) {ws' ws'' : va_W} (hw : ws.set ka (b, .inl (g.cI, n, .inl (aFillF n f 0))) = ws')
    (he' : ws'[k]? = some (a, .inr (ciTable, [.ref b, .int h, .int w, .int cn]))) (hw' : ws'.set k (a, .inr (ciTable, [.ref b, .int h, .int w, .int 0])) = ws'') : MV l g y_Table_clear b_Table_clear 1 none 1 23 [.ref a] ws ws'' := by
  refine MV.mk (own := R_Table) (by decide) rfl (Nat.le_of_ble_eq_true rfl) fun p e s m below meth c A Q C hQ ls hX hl => ?_
  have ⟨⟨hx, hb, hml, hown, hts⟩, hK, hA, hN⟩ := C
  have hl : lv_has ls 1 [(0, .ref a)] := hl
  refine lv_aload_n hx hb d_Table_clear_0 rfl (lv_at hl 0 rfl) ?_
  refine x_get C hX k he rfl i_Table 0 (by decide) fl_Table_cells (fun _ h9 => h9) rfl d_Table_clear_1 ?_
  refine lv_iconst (v := 0) hx hb d_Table_clear_4 (by decide) ?_
  refine x_sV (As := [.ref b, .int 0]) (rest := []) C hX (c_Arrays_fill l g ha hn 0 hw) (cw_Table_fill hts hN ⟨by decide, by decide⟩) rfl hl.1 rfl (lv_room (Nat.le_of_ble_eq_true rfl)) d_Table_clear_5 ⟨Nat.le_refl _, Nat.le_refl _⟩ (fun H locs hX => ?_)
  refine lv_aload_n hx hb d_Table_clear_8 rfl (lv_at hl 0 rfl) ?_
  refine lv_iconst (v := 0) hx hb d_Table_clear_9 (by decide) ?_
  refine x_put (ty := .int) C hX k he' rfl i_Table t_Table t_Table_ok n_Table 3 (by decide) fl_Table_count (fun _ h9 => h9) rfl (by decide +kernel) rfl rfl (Nat.le_of_ble_eq_true rfl) hw' d_Table_clear_10 (fun H locs hX => ?_)
  exact hQ _ _ _ _ hX d_Table_clear_13
end LEAF
