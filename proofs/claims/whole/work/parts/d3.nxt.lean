-- validation: from row to row
theorem set_hi (v : Hv) {k h l n i : Nat} (hi : i ≠ k) : (v.set k h l n).hi i = v.hi i := fu_ne _ _ hi
theorem set_lo (v : Hv) {k h l n i : Nat} (hi : i ≠ k) : (v.set k h l n).lo i = v.lo i := fu_ne _ _ hi
theorem set_ns (v : Hv) {k h l n i : Nat} (hi : i ≠ k) : (v.set k h l n).ns i = v.ns i := fu_ne _ _ hi
theorem set_hik (v : Hv) {k h l n : Nat} : (v.set k h l n).hi k = h := fu_eq _ _ _
theorem set_lok (v : Hv) {k h l n : Nat} : (v.set k h l n).lo k = l := fu_eq _ _ _
theorem set_nsk (v : Hv) {k h l n : Nat} : (v.set k h l n).ns k = n := fu_eq _ _ _
theorem set_bs {w : Cd} (v : Hv) {k h l n c : Nat} (_ : c ≤ k) : bs w (v.set k h l n) c = bs w v c := rfl
theorem set_et (v : Hv) {k h l n c : Nat} (hc : c ≤ k) : et (v.set k h l n) c = et v c := by
  unfold et
  split
  · rfl
  · rw [set_lo v (by omega)]
theorem ob_s {w : Cd} {C k c : Nat} (W : WF w C) (h5 : w.op k ≠ 5) : ob w (k + 1) c = ob w k c := by
  unfold ob
  split
  · rfl
  · have : w.el (c - 1) ≠ k + 1 := by
      intro q
      obtain ⟨-, -, e, q1, -, -, q2, -⟩ := W.el2 (c - 1) (by omega)
      have : e = k := by omega
      rw [this] at q2
      exact h5 q2
    by_cases h : w.el (c - 1) ≠ 0 ∧ w.el (c - 1) ≤ k
    · rw [if_pos h, if_pos (by omega)]
    · rw [if_neg h, if_neg (by omega)]
section NX
variable {w : Cd} {C k f rs : Nat} {v : Hv} {s s' : St} {t t' : SM}
theorem chain_le (W : WF w C) (hk : k ≤ C) (j : Nat) : ups w.ins j (w.ins k) ≤ k := by
  have h1 := W.i1 k hk
  have h2 := ups_le (C := C) (fun k hk => W.i1 k (by omega)) j (w.ins k) (by omega)
  omega
theorem VI.next {h' l' n' dd' : Nat} (W : WF w C) (hk : k < C) (I : VI w v f rs k s t) (ho : ¬ (2 ≤ w.op k ∧ w.op k ≤ 4)) (h5 : w.op k ≠ 5) (h11 : w.op k ≠ 11) (hh : h' ≤ 16) (hb : bs w v (w.ins k) ≤ h')
    (x0 : s' 3 0 = s 3 0) (x1 : s' 3 1 = nI h') (x2 : s' 3 2 = s 3 2) (x3 : s' 3 3 = 0) (m5 : t'.1 0 5 = 0) (m16 : t'.1 0 16 = t.1 0 16) (m17 : t'.1 0 17 = nI h') (t26 : t'.1 26 = t.1 26) (t27 : t'.1 27 = t.1 27)
    (xo : ∀ q, q ≠ w.dp k * 6 + 4 → s' 28 q = s 28 q) (mo : ∀ q, q ≠ w.dp k → t'.1 28 q = t.1 28 q) (xd : s' 28 (w.dp k * 6 + 4) = nI dd') (md : t'.1 28 (w.dp k) = nI dd') (hdd : dd' ≤ 1)
    (hl : l' ≤ 1) (hl0 : l' = 0 → v.lo k = 0 ∧ dd' = 0) (hl1 : l' = 1 → (v.lo k = 0 ∧ n' = 0 ∧ dd' = 1) ∨ (v.lo k = 1 ∧ n' = v.ns k ∧ (v.ns k = 0 → dd' = 1))) : VI w (v.set (k + 1) h' l' n') f rs (k + 1) s' t' := by
  have hi : w.ins (k + 1) = w.ins k := by rw [W.ni k hk, nxt, if_neg ho, if_neg h11]
  have hd : w.dp (k + 1) = w.dp k := by rw [W.nd k hk, dnx, if_neg ho, if_neg h11]
  have hcl : ∀ j, ups w.ins j (w.ins k) ≤ k := fun j => chain_le W (by omega) j
  have hik := W.i1 k (by omega)
  refine ⟨by rw [hd, x0]; exact I.x0, by rw [set_hik]; exact x1, x2.trans I.x2, x3, m5, by rw [hd, m16]; exact I.m16, by rw [set_hik]; exact m17, by rw [set_hik]; exact hh, by rw [set_lok]; exact hl, ?_, ?_, ?_, ?_, by rw [hi, set_hik, set_bs v (by omega)]; exact hb⟩
  · intro j hj
    rw [hd] at hj
    rw [hi, hd, set_lok, set_nsk]
    obtain ⟨dd, L, q1, q2, q3⟩ := I.lv j hj
    have hc := hcl j
    by_cases hj0 : j = 0
    · subst hj0
      rw [Nat.sub_zero] at L ⊢
      refine ⟨dd', ⟨by rw [xo _ (by omega), set_bs v (by omega)]; exact L.x0, by rw [xo _ (by omega)]; exact L.x1, by rw [xo _ (by omega)]; exact L.x2, by rw [xo _ (by omega), ob_s W h5]; exact L.x3, xd, by rw [xo _ (by omega), set_et v (by omega)]; exact L.x5, by rw [t26]; exact L.m26, by rw [t27, set_bs v (by omega)]; exact L.m27, md, hdd⟩, fun q => (hl0 q).2, fun q q' => ?_, fun q q' => by omega⟩
      rcases hl1 q with ⟨a1, a2, a3⟩ | ⟨a1, a2, a3⟩
      · exact a3
      · exact a3 (by omega)
    · refine ⟨dd, ⟨by rw [xo _ (by omega), set_bs v (by omega)]; exact L.x0, by rw [xo _ (by omega)]; exact L.x1, by rw [xo _ (by omega)]; exact L.x2, by rw [xo _ (by omega), ob_s W h5]; exact L.x3, by rw [xo _ (by omega)]; exact L.x4, by rw [xo _ (by omega), set_et v (by omega)]; exact L.x5, by rw [t26]; exact L.m26, by rw [t27, set_bs v (by omega)]; exact L.m27, by rw [mo _ (by omega)]; exact L.m28, L.d1⟩, fun q => q1 (hl0 q).1, fun q q' => ?_, fun q q' => ?_⟩
      · rcases hl1 q with ⟨a1, a2, a3⟩ | ⟨a1, a2, a3⟩
        · omega
        · exact q2 a1 (by omega)
      · rcases hl1 q with ⟨a1, a2, a3⟩ | ⟨a1, a2, a3⟩
        · exact q1 a1
        · exact q3 a1 (by omega)
  · intro q j hj
    rw [set_lok] at q
    rw [hd] at hj
    rw [hi, set_et v (by have := hcl j; omega)]
    exact I.e0 (hl0 q).1 j hj
  · intro q
    rw [set_lok] at q
    rw [set_nsk, hd, hi]
    rcases hl1 q with ⟨a1, a2, a3⟩ | ⟨a1, a2, a3⟩
    · refine ⟨by omega, fun j hj => ?_⟩
      rw [set_et v (by have := hcl j; omega), I.e0 a1 j hj]
      exact ⟨fun _ => by omega, fun _ => rfl⟩
    · obtain ⟨b1, b2⟩ := I.e1 a1
      refine ⟨by omega, fun j hj => ?_⟩
      rw [set_et v (by have := hcl j; omega), a2]
      exact b2 j hj
  · intro j hj
    rw [hd] at hj
    rw [hi, set_bs v (by have := hcl (j + 1); omega), set_bs v (by have := hcl j; omega)]
    exact I.mo j hj
/-- a block begins -/
theorem VI.opn {h' : Nat} (W : WF w C) (hk : k < C) (I : VI w v f rs k s t) (ho : 2 ≤ w.op k ∧ w.op k ≤ 4) (hh : h' ≤ 16) (hb : bs w v (w.ins k) ≤ h')
    (x0 : s' 3 0 = nI (w.dp k + 2)) (x1 : s' 3 1 = nI h') (x2 : s' 3 2 = s 3 2) (x3 : s' 3 3 = 0) (m5 : t'.1 0 5 = 0) (m16 : t'.1 0 16 = nI (w.dp k + 1)) (m17 : t'.1 0 17 = nI h')
    (xo : ∀ q, q < (w.dp k + 1) * 6 → s' 28 q = s 28 q) (mo : ∀ q, q ≠ w.dp k + 1 → t'.1 26 q = t.1 26 q ∧ t'.1 27 q = t.1 27 q ∧ t'.1 28 q = t.1 28 q)
    (y0 : s' 28 ((w.dp k + 1) * 6 + 0) = nI h') (y1 : s' 28 ((w.dp k + 1) * 6 + 1) = nI (w.a k)) (y2 : s' 28 ((w.dp k + 1) * 6 + 2) = nI (if w.op k = 3 then 0 else w.a k)) (y3 : s' 28 ((w.dp k + 1) * 6 + 3) = nI (w.op k)) (y4 : s' 28 ((w.dp k + 1) * 6 + 4) = 0) (y5 : s' 28 ((w.dp k + 1) * 6 + 5) = nI (1 - v.lo k))
    (z0 : t'.1 26 (w.dp k + 1) = nI k) (z1 : t'.1 27 (w.dp k + 1) = nI h') (z2 : t'.1 28 (w.dp k + 1) = 0) : VI w ((v.set (k + 1) h' (v.lo k) (if v.lo k = 0 then 0 else v.ns k + 1)).setb k h') f rs (k + 1) s' t' := by
  have hi : w.ins (k + 1) = k + 1 := by rw [W.ni k hk, nxt, if_pos ho]
  have hd : w.dp (k + 1) = w.dp k + 1 := by rw [W.nd k hk, dnx, if_pos ho]
  have hcl : ∀ j, ups w.ins j (w.ins k) ≤ k := fun j => chain_le W (by omega) j
  have hik := W.i1 k (by omega)
  have hh16 := I.h16
  have hel : w.el k = 0 ∨ k + 1 < w.el k := by
    by_cases q : w.el k = 0
    · exact Or.inl q
    · obtain ⟨-, -, e, q1, q2, -⟩ := W.el2 k q
      exact Or.inr (by omega)
  obtain ⟨V, hV⟩ : ∃ V, V = (v.set (k + 1) h' (v.lo k) (if v.lo k = 0 then 0 else v.ns k + 1)).setb k h' := ⟨_, rfl⟩
  have Vhik : V.hi (k + 1) = h' := by rw [hV]; exact fu_eq _ _ _
  have Vlok : V.lo (k + 1) = v.lo k := by rw [hV]; exact fu_eq _ _ _
  have Vnsk : V.ns (k + 1) = (if v.lo k = 0 then 0 else v.ns k + 1) := by rw [hV]; exact fu_eq _ _ _
  have Vlo : V.lo k = v.lo k := by rw [hV]; exact fu_ne _ _ (by omega)
  have Vbk : bs w V (k + 1) = h' := by rw [bs, if_neg (by omega), Nat.add_sub_cancel, hV]; exact fu_eq _ _ _
  have Vbs : ∀ c, c ≤ k → bs w V c = bs w v c := by
    intro c hc
    unfold bs
    split
    · rfl
    · rw [hV]; exact fu_ne _ _ (by omega)
  have Vet : ∀ c, c ≤ k → et V c = et v c := by
    intro c hc
    unfold et
    split
    · rfl
    · rw [hV]; exact congrArg (fun x => 1 - x) (fu_ne _ _ (by omega))
  rw [← hV]
  refine ⟨by rw [hd]; exact x0, by rw [Vhik]; exact x1, x2.trans I.x2, x3, m5, by rw [hd]; exact m16, by rw [Vhik]; exact m17, by rw [Vhik]; omega, by rw [Vlok]; exact I.l1, ?_, ?_, ?_, ?_, by rw [hi, Vhik, Vbk]; exact Nat.le_refl _⟩
  · intro j hj
    rw [hd] at hj
    rw [hi, hd, Vlok, Vnsk]
    cases j with
    | zero =>
      refine ⟨0, ⟨?_, ?_, ?_, ?_, y4, ?_, ?_, ?_, z2, by decide⟩, fun _ => rfl, fun q q' => ?_, fun _ _ => rfl⟩
      · rw [ups, Nat.sub_zero, y0, Vbk]
      · rw [ups, Nat.sub_zero, y1, gv, if_neg (by omega), Nat.add_sub_cancel]
      · rw [ups, Nat.sub_zero, y2]
        unfold tk
        rw [if_neg (show ¬ k + 1 = 0 by omega), Nat.add_sub_cancel]
      · rw [ups, Nat.sub_zero, y3, ob, if_neg (by omega), Nat.add_sub_cancel, if_neg (by omega)]
      · rw [ups, Nat.sub_zero, y5, et, if_neg (by omega), Nat.add_sub_cancel, Vlo]
      · rw [ups, Nat.sub_zero, z0, nI_pred]
      · rw [ups, Nat.sub_zero, z1, Vbk]
      · rw [if_neg (by omega)] at q'; omega
    | succ j =>
      obtain ⟨dd, L, q1, q2, q3⟩ := I.lv j (by omega)
      have hc := hcl j
      rw [ups, up_s, show w.dp k + 1 - (j + 1) = w.dp k - j by omega]
      obtain ⟨o1, o2, o3⟩ := mo (w.dp k - j) (by omega)
      have h5 : w.op k ≠ 5 := by omega
      refine ⟨dd, ⟨by rw [xo _ (by omega), Vbs _ (by omega)]; exact L.x0, by rw [xo _ (by omega)]; exact L.x1, by rw [xo _ (by omega)]; exact L.x2, by rw [xo _ (by omega), ob_s W h5]; exact L.x3, by rw [xo _ (by omega)]; exact L.x4, by rw [xo _ (by omega), Vet _ (by omega)]; exact L.x5, by rw [o1]; exact L.m26, by rw [o2, Vbs _ (by omega)]; exact L.m27, by rw [o3]; exact L.m28, L.d1⟩, q1, fun q q' => ?_, fun q q' => ?_⟩
      · rw [if_neg (by omega)] at q'; exact q2 q (by omega)
      · rw [if_neg (by omega)] at q'; exact q3 q (by omega)
  · intro q j hj
    rw [Vlok] at q
    rw [hd] at hj
    rw [hi]
    cases j with
    | zero => rw [ups, et, if_neg (by omega), Nat.add_sub_cancel, Vlo, q]
    | succ j => rw [ups, up_s, Vet _ (by have := hcl j; omega)]; exact I.e0 q j (by omega)
  · intro q
    rw [Vlok] at q
    rw [Vnsk, hd, hi, if_neg (by omega)]
    obtain ⟨b1, b2⟩ := I.e1 q
    refine ⟨by omega, fun j hj => ?_⟩
    cases j with
    | zero =>
      rw [ups, et, if_neg (by omega), Nat.add_sub_cancel, Vlo, q]
      omega
    | succ j =>
      rw [ups, up_s, Vet _ (by have := hcl j; omega), b2 j (by omega)]
      omega
  · intro j hj
    rw [hd] at hj
    rw [hi]
    cases j with
    | zero =>
      rw [ups, ups, up_s, ups, Vbk, Vbs _ (by omega)]
      exact hb
    | succ j =>
      have e1 : ups w.ins (j + 1 + 1) (k + 1) = ups w.ins (j + 1) (w.ins k) := by rw [ups, up_s]
      have e2 : ups w.ins (j + 1) (k + 1) = ups w.ins j (w.ins k) := by rw [ups, up_s]
      rw [e1, e2, Vbs _ (by have := hcl (j + 1); omega), Vbs _ (by have := hcl j; omega)]
      exact I.mo j (by omega)
/-- an else -/
theorem VI.els (W : WF w C) (hk : k < C) (I : VI w v f rs k s t) (h5 : w.op k = 5)
    (x0 : s' 3 0 = s 3 0) (x1 : s' 3 1 = nI (bs w v (w.ins k))) (x2 : s' 3 2 = s 3 2) (x3 : s' 3 3 = 0) (m5 : t'.1 0 5 = 0) (m16 : t'.1 0 16 = t.1 0 16) (m17 : t'.1 0 17 = nI (bs w v (w.ins k))) (t26 : t'.1 26 = t.1 26) (t27 : t'.1 27 = t.1 27)
    (xo : ∀ q, q ≠ w.dp k * 6 + 3 → q ≠ w.dp k * 6 + 4 → s' 28 q = s 28 q) (mo : ∀ q, q ≠ w.dp k → t'.1 28 q = t.1 28 q) (y3 : s' 28 (w.dp k * 6 + 3) = 5) (xd : s' 28 (w.dp k * 6 + 4) = 0) (md : t'.1 28 (w.dp k) = 0) :
    VI w (v.set (k + 1) (bs w v (w.ins k)) (if v.ns k = 0 then 0 else v.lo k) (v.ns k)) f rs (k + 1) s' t' := by
  have hi : w.ins (k + 1) = w.ins k := by rw [W.ni k hk, nxt, if_neg (by omega), if_neg (by omega)]
  have hd : w.dp (k + 1) = w.dp k := by rw [W.nd k hk, dnx, if_neg (by omega), if_neg (by omega)]
  have hcl : ∀ j, ups w.ins j (w.ins k) ≤ k := fun j => chain_le W (by omega) j
  have hik := W.i1 k (by omega)
  obtain ⟨hne, hop4, hel⟩ := W.el1 k hk h5
  have hl1 := I.l1
  have hob : ∀ j, j ≠ 0 → j ≤ w.dp k → ob w (k + 1) (ups w.ins j (w.ins k)) = ob w k (ups w.ins j (w.ins k)) := by
    intro j hj0 hjd
    unfold ob
    split
    · rfl
    · rename_i hc0
      have : w.el (ups w.ins j (w.ins k) - 1) ≠ k + 1 := by
        intro q
        obtain ⟨-, -, e, q1, -, -, q2, q3, -⟩ := W.el2 (ups w.ins j (w.ins k) - 1) (by omega)
        have he : e = k := by omega
        rw [he] at q3
        obtain ⟨j', rfl⟩ : ∃ j', j = j' + 1 := ⟨j - 1, by omega⟩
        have hle : ups w.ins (j' + 1) (w.ins k) ≤ w.ins k - 1 := by
          rw [ups]
          obtain ⟨B, hB⟩ : ∃ B, w.ins k = B + 1 := ⟨w.ins k - 1, by omega⟩
          rw [hB, up_s]
          have h1 := W.i1 B (by omega)
          have h2 := ups_le (C := C) (fun k hk => W.i1 k (by omega)) j' (w.ins B) (by omega)
          omega
        omega
      by_cases h : w.el (ups w.ins j (w.ins k) - 1) ≠ 0 ∧ w.el (ups w.ins j (w.ins k) - 1) ≤ k
      · rw [if_pos h, if_pos (by omega)]
      · rw [if_neg h, if_neg (by omega)]
  have hbh := I.bh
  have hh16 := I.h16
  refine ⟨by rw [hd, x0]; exact I.x0, by rw [set_hik]; exact x1, x2.trans I.x2, x3, m5, by rw [hd, m16]; exact I.m16, by rw [set_hik]; exact m17, by rw [set_hik]; omega, by rw [set_lok]; split <;> omega, ?_, ?_, ?_, ?_, by rw [hi, set_hik, set_bs v (by omega)]; exact Nat.le_refl _⟩
  · intro j hj
    rw [hd] at hj
    rw [hi, hd, set_lok, set_nsk]
    obtain ⟨dd, L, q1, q2, q3⟩ := I.lv j hj
    have hc := hcl j
    by_cases hj0 : j = 0
    · subst hj0
      rw [Nat.sub_zero] at L ⊢
      refine ⟨0, ⟨by rw [xo _ (by omega) (by omega), set_bs v (by omega)]; exact L.x0, by rw [xo _ (by omega) (by omega)]; exact L.x1, by rw [xo _ (by omega) (by omega)]; exact L.x2, ?_, xd, by rw [xo _ (by omega) (by omega), set_et v (by omega)]; exact L.x5, by rw [t26]; exact L.m26, by rw [t27, set_bs v (by omega)]; exact L.m27, md, by decide⟩, fun _ => rfl, fun q q' => ?_, fun _ _ => rfl⟩
      · rw [y3, ups, ob, if_neg hne, if_pos (by omega)]; rfl
      · rw [if_pos q'.symm] at q; omega
    · refine ⟨dd, ⟨by rw [xo _ (by omega) (by omega), set_bs v (by omega)]; exact L.x0, by rw [xo _ (by omega) (by omega)]; exact L.x1, by rw [xo _ (by omega) (by omega)]; exact L.x2, by rw [xo _ (by omega) (by omega), hob j hj0 hj]; exact L.x3, by rw [xo _ (by omega) (by omega)]; exact L.x4, by rw [xo _ (by omega) (by omega), set_et v (by omega)]; exact L.x5, by rw [t26]; exact L.m26, by rw [t27, set_bs v (by omega)]; exact L.m27, by rw [mo _ (by omega)]; exact L.m28, L.d1⟩, fun q => ?_, fun q q' => ?_, fun q q' => ?_⟩
      · by_cases hn : v.ns k = 0
        · by_cases hl : v.lo k = 0
          · exact q1 hl
          · exact q3 (by omega) (by omega)
        · rw [if_neg hn] at q; exact q1 q
      · by_cases hn : v.ns k = 0
        · omega
        · rw [if_neg hn] at q; exact q2 q q'
      · by_cases hn : v.ns k = 0
        · rw [if_pos hn] at q; omega
        · rw [if_neg hn] at q; exact q3 q q'
  · intro q j hj
    rw [set_lok] at q
    rw [hd] at hj
    rw [hi, set_et v (by have := hcl j; omega)]
    by_cases hl : v.lo k = 0
    · exact I.e0 hl j hj
    · by_cases hn : v.ns k = 0
      · exact ((I.e1 (by omega)).2 j hj).mpr (by omega)
      · rw [if_neg hn] at q; omega
  · intro q
    rw [set_lok] at q
    rw [set_nsk, hd, hi]
    by_cases hn : v.ns k = 0
    · rw [if_pos hn] at q; omega
    · rw [if_neg hn] at q
      obtain ⟨b1, b2⟩ := I.e1 q
      refine ⟨b1, fun j hj => ?_⟩
      rw [set_et v (by have := hcl j; omega)]
      exact b2 j hj
  · intro j hj
    rw [hd] at hj
    rw [hi, set_bs v (by have := hcl (j + 1); omega), set_bs v (by have := hcl j; omega)]
    exact I.mo j hj
/-- the end of a block -/
theorem VI.shut {h' B : Nat} (W : WF w C) (hk : k < C) (I : VI w v f rs k s t) (h11 : w.op k = 11) (hB : w.ins k = B + 1) (hh : h' ≤ 16) (hh2 : bs w v (w.ins k) ≤ h')
    (x0 : s' 3 0 = nI (w.dp k)) (x1 : s' 3 1 = nI h') (x2 : s' 3 2 = s 3 2) (x3 : s' 3 3 = 0) (m5 : t'.1 0 5 = 0) (m16 : t'.1 0 16 = nI (w.dp k - 1)) (m17 : t'.1 0 17 = nI h') (t26 : t'.1 26 = t.1 26) (t27 : t'.1 27 = t.1 27) (t28 : t'.1 28 = t.1 28) (x28 : s' 28 = s 28) :
    VI w (v.set (k + 1) h' (if v.ns k = 0 then 0 else v.lo k) (v.ns k - 1)) f rs (k + 1) s' t' := by
  have hdp := (W.i2 k (by omega) (by omega)).2.1
  obtain ⟨d, hdd⟩ : ∃ d, w.dp k = d + 1 := ⟨w.dp k - 1, by omega⟩
  have hi : w.ins (k + 1) = w.ins B := by rw [W.ni k hk, nxt, if_neg (by omega), if_pos h11, hB, up_s]
  have hd : w.dp (k + 1) = d := by rw [W.nd k hk, dnx, if_neg (by omega), if_pos h11, hdd, Nat.add_sub_cancel]
  have hcl : ∀ j, ups w.ins j (w.ins k) ≤ k := fun j => chain_le W (by omega) j
  have hc' : ∀ j, ups w.ins j (w.ins B) = ups w.ins (j + 1) (w.ins k) := by
    intro j; rw [ups, hB, up_s]
  have hik := W.i1 k (by omega)
  have hl1 := I.l1
  rw [hdd] at x0 m16
  refine ⟨by rw [hd]; exact x0, by rw [set_hik]; exact x1, x2.trans I.x2, x3, m5, by rw [hd, m16, Nat.add_sub_cancel], by rw [set_hik]; exact m17, by rw [set_hik]; exact hh, by rw [set_lok]; split <;> omega, ?_, ?_, ?_, ?_, ?_⟩
  · intro j hj
    rw [hd] at hj
    obtain ⟨dd, L, q1, q2, q3⟩ := I.lv (j + 1) (by omega)
    have hc := hcl (j + 1)
    rw [hdd, show d + 1 - (j + 1) = d - j by omega] at L
    rw [hi, hd, set_lok, set_nsk, hc']
    refine ⟨dd, ⟨by rw [x28, set_bs v (by omega)]; exact L.x0, by rw [x28]; exact L.x1, by rw [x28]; exact L.x2, by rw [x28, ob_s W (by omega)]; exact L.x3, by rw [x28]; exact L.x4, by rw [x28, set_et v (by omega)]; exact L.x5, by rw [t26]; exact L.m26, by rw [t27, set_bs v (by omega)]; exact L.m27, by rw [t28]; exact L.m28, L.d1⟩, fun q => ?_, fun q q' => ?_, fun q q' => ?_⟩
    · by_cases hn : v.ns k = 0
      · by_cases hl : v.lo k = 0
        · exact q1 hl
        · exact q3 (by omega) (by omega)
      · rw [if_neg hn] at q; exact q1 q
    · by_cases hn : v.ns k = 0
      · rw [if_pos hn] at q; omega
      · rw [if_neg hn] at q; exact q2 q (by omega)
    · by_cases hn : v.ns k = 0
      · rw [if_pos hn] at q; omega
      · rw [if_neg hn] at q; exact q3 q (by omega)
  · intro q j hj
    rw [set_lok] at q
    rw [hd] at hj
    rw [hi, hc', set_et v (by have := hcl (j + 1); omega)]
    by_cases hl : v.lo k = 0
    · exact I.e0 hl (j + 1) (by omega)
    · by_cases hn : v.ns k = 0
      · exact ((I.e1 (by omega)).2 (j + 1) (by omega)).mpr (by omega)
      · rw [if_neg hn] at q; omega
  · intro q
    rw [set_lok] at q
    rw [set_nsk, hd, hi]
    by_cases hn : v.ns k = 0
    · rw [if_pos hn] at q; omega
    · rw [if_neg hn] at q
      obtain ⟨b1, b2⟩ := I.e1 q
      refine ⟨by omega, fun j hj => ?_⟩
      rw [hc', set_et v (by have := hcl (j + 1); omega), b2 (j + 1) (by omega)]
      omega
  · intro j hj
    rw [hd] at hj
    rw [hi, hc', hc', set_bs v (by have := hcl (j + 1 + 1); omega), set_bs v (by have := hcl (j + 1); omega)]
    exact I.mo (j + 1) (by omega)
  · rw [hi, set_hik]
    have h1 := I.mo 0 (by omega)
    rw [ups, ups, hB, up_s] at h1
    rw [ups, ← hB] at h1
    have h2 := W.i1 B (by omega)
    rw [set_bs v (by omega)]
    omega
end NX
