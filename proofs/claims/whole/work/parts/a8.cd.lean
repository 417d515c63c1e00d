-- the code that is read, as numbers: who is inside whom
def fu (f : Nat → Nat) (k v : Nat) : Nat → Nat := fun j => if j = k then v else f j
theorem fu_eq (f : Nat → Nat) (k v : Nat) : fu f k v k = v := if_pos rfl
theorem fu_ne (f : Nat → Nat) {k j : Nat} (v : Nat) (h : j ≠ k) : fu f k v j = f j := if_neg h
abbrev Cd : Type := (Nat → Nat) × (Nat → Nat) × (Nat → Nat) × (Nat → Nat) × (Nat → Nat) × (Nat → Nat) × (Nat → Nat) × (Nat → Nat) × (Nat → Nat)
def Cd.op (w : Cd) : Nat → Nat := w.1
def Cd.a (w : Cd) : Nat → Nat := w.2.1
def Cd.b (w : Cd) : Nat → Nat := w.2.2.1
def Cd.ins (w : Cd) : Nat → Nat := w.2.2.2.1
def Cd.dp (w : Cd) : Nat → Nat := w.2.2.2.2.1
def Cd.fn (w : Cd) : Nat → Nat := w.2.2.2.2.2.1
def Cd.en (w : Cd) : Nat → Nat := w.2.2.2.2.2.2.1
def Cd.el (w : Cd) : Nat → Nat := w.2.2.2.2.2.2.2.1
def Cd.pl (w : Cd) : Nat → Nat := w.2.2.2.2.2.2.2.2
def up (i : Nat → Nat) (c : Nat) : Nat := if c = 0 then 0 else i (c - 1)
def ups (i : Nat → Nat) : Nat → Nat → Nat
  | 0, c => c
  | j + 1, c => ups i j (up i c)
theorem up_0 (i : Nat → Nat) : up i 0 = 0 := if_pos rfl
theorem up_s (i : Nat → Nat) (b : Nat) : up i (b + 1) = i b := by rw [up, if_neg (by omega), Nat.add_sub_cancel]
theorem ups_0 (i : Nat → Nat) : ∀ j, ups i j 0 = 0 := by
  intro j
  induction j with
  | zero => rfl
  | succ j ih => rw [ups, up_0, ih]
theorem ups_add (i : Nat → Nat) : ∀ j m c, ups i (j + m) c = ups i m (ups i j c) := by
  intro j
  induction j with
  | zero => intro m c; rw [Nat.zero_add]; rfl
  | succ j ih =>
    intro m c
    rw [show j + 1 + m = (j + m) + 1 by omega, ups, ih, ups]
theorem ups_s (i : Nat → Nat) (j c : Nat) : ups i (j + 1) c = up i (ups i j c) := by rw [ups_add]; rfl
def nxt (w : Cd) (k : Nat) : Nat := if 2 ≤ w.op k ∧ w.op k ≤ 4 then k + 1 else if w.op k = 11 then up w.ins (w.ins k) else w.ins k
def dnx (w : Cd) (k : Nat) : Nat := if 2 ≤ w.op k ∧ w.op k ≤ 4 then w.dp k + 1 else if w.op k = 11 then w.dp k - 1 else w.dp k
def fnx (w : Cd) (k : Nat) : Nat := if w.op k = 11 ∧ w.ins k = 0 then w.fn k + 1 else w.fn k
def kno (o : Nat) : Bool := decide (o < 6) || decide (10 < o ∧ o < 17) || decide (o = 26) || decide (o = 27) || decide (31 < o ∧ o < 37) || decide (o = 40) || decide (43 < o ∧ o < 48) || decide (o = 54) || decide (o = 58) || decide (o = 59) || decide (62 < o ∧ o < 66) || decide (68 < o ∧ o < 80) || decide (102 < o ∧ o < 121)
def acc (o : Nat) : Prop := 39 < o ∧ o < 60
/-- an instruction with one number behind it -/
def nam (o : Nat) : Prop := o = 12 ∨ o = 13 ∨ o = 16 ∨ (31 < o ∧ o < 37)
def oko (o a b : Nat) : Prop :=
  (a < 2 ^ 32) ∧
  (b < 2 ^ 32) ∧
  (2 ≤ o ∧ o ≤ 4 → a ≤ 1) ∧
  (o = 14 → a ≤ 8) ∧
  (¬ (acc o ∨ o = 14) → b = 0) ∧
  (¬ ((2 ≤ o ∧ o ≤ 4) ∨ o = 14 ∨ nam o ∨ acc o ∨ o = 65) → a = 0)
theorem oko.a32 {o a b : Nat} (h : oko o a b) : a < 2 ^ 32 := h.1
theorem oko.b32 {o a b : Nat} (h : oko o a b) : b < 2 ^ 32 := h.2.1
theorem oko.blk {o a b : Nat} (h : oko o a b) : 2 ≤ o ∧ o ≤ 4 → a ≤ 1 := h.2.2.1
theorem oko.tab {o a b : Nat} (h : oko o a b) : o = 14 → a ≤ 8 := h.2.2.2.1
theorem oko.b0 {o a b : Nat} (h : oko o a b) : ¬ (acc o ∨ o = 14) → b = 0 := h.2.2.2.2.1
theorem oko.a0 {o a b : Nat} (h : oko o a b) : ¬ ((2 ≤ o ∧ o ≤ 4) ∨ o = 14 ∨ nam o ∨ acc o ∨ o = 65) → a = 0 := h.2.2.2.2.2
def WF (w : Cd) (C : Nat) : Prop :=
  (w.ins 0 = 0) ∧
  (w.dp 0 = 0) ∧
  (w.fn 0 = 0) ∧
  (∀ k, k < C → w.ins (k + 1) = nxt w k) ∧
  (∀ k, k < C → w.dp (k + 1) = dnx w k) ∧
  (∀ k, k < C → w.fn (k + 1) = fnx w k) ∧
  (∀ k, k ≤ C → w.ins k ≤ k) ∧
  (∀ k, k ≤ C → w.ins k ≠ 0 → (2 ≤ w.op (w.ins k - 1) ∧ w.op (w.ins k - 1) ≤ 4) ∧ w.dp k = w.dp (w.ins k - 1) + 1 ∧ w.fn (w.ins k - 1) = w.fn k) ∧
  (∀ k, k ≤ C → w.ins k = 0 → w.dp k = 0) ∧
  (∀ k, k ≤ C → w.dp k ≤ 10) ∧
  (∀ k, k < C → w.op k = 11 → w.ins k ≠ 0 → w.en (w.ins k - 1) = k + 1) ∧
  (∀ b, b < C → 2 ≤ w.op b ∧ w.op b ≤ 4 → (w.en b = 0 ∧ ∃ j, ups w.ins j (w.ins C) = b + 1) ∨ (∃ e, w.en b = e + 1 ∧ b < e ∧ e < C ∧ w.op e = 11 ∧ w.ins e = b + 1)) ∧
  (∀ b, ¬ (b < C ∧ 2 ≤ w.op b ∧ w.op b ≤ 4) → w.en b = 0) ∧
  (∀ k, k < C → w.op k = 5 → w.ins k ≠ 0 ∧ w.op (w.ins k - 1) = 4 ∧ w.el (w.ins k - 1) = k + 1) ∧
  (∀ b, w.el b ≠ 0 → b < C ∧ w.op b = 4 ∧ ∃ e, w.el b = e + 1 ∧ b < e ∧ e < C ∧ w.op e = 5 ∧ w.ins e = b + 1 ∧ (w.en b ≠ 0 → e + 1 < w.en b)) ∧
  (∀ k, k < C → kno (w.op k) = true ∧ oko (w.op k) (w.a k) (w.b k)) ∧
  (∀ j b, ups w.ins j (w.ins C) = b + 1 → w.en b = 0)
theorem WF.i0 {w : Cd} {C : Nat} (h : WF w C) : w.ins 0 = 0 := h.1
theorem WF.d0 {w : Cd} {C : Nat} (h : WF w C) : w.dp 0 = 0 := h.2.1
theorem WF.f0 {w : Cd} {C : Nat} (h : WF w C) : w.fn 0 = 0 := h.2.2.1
theorem WF.ni {w : Cd} {C : Nat} (h : WF w C) : ∀ k, k < C → w.ins (k + 1) = nxt w k := h.2.2.2.1
theorem WF.nd {w : Cd} {C : Nat} (h : WF w C) : ∀ k, k < C → w.dp (k + 1) = dnx w k := h.2.2.2.2.1
theorem WF.nf {w : Cd} {C : Nat} (h : WF w C) : ∀ k, k < C → w.fn (k + 1) = fnx w k := h.2.2.2.2.2.1
theorem WF.i1 {w : Cd} {C : Nat} (h : WF w C) : ∀ k, k ≤ C → w.ins k ≤ k := h.2.2.2.2.2.2.1
theorem WF.i2 {w : Cd} {C : Nat} (h : WF w C) : ∀ k, k ≤ C → w.ins k ≠ 0 → (2 ≤ w.op (w.ins k - 1) ∧ w.op (w.ins k - 1) ≤ 4) ∧ w.dp k = w.dp (w.ins k - 1) + 1 ∧ w.fn (w.ins k - 1) = w.fn k := h.2.2.2.2.2.2.2.1
theorem WF.i3 {w : Cd} {C : Nat} (h : WF w C) : ∀ k, k ≤ C → w.ins k = 0 → w.dp k = 0 := h.2.2.2.2.2.2.2.2.1
theorem WF.d10 {w : Cd} {C : Nat} (h : WF w C) : ∀ k, k ≤ C → w.dp k ≤ 10 := h.2.2.2.2.2.2.2.2.2.1
theorem WF.en1 {w : Cd} {C : Nat} (h : WF w C) : ∀ k, k < C → w.op k = 11 → w.ins k ≠ 0 → w.en (w.ins k - 1) = k + 1 := h.2.2.2.2.2.2.2.2.2.2.1
theorem WF.op1 {w : Cd} {C : Nat} (h : WF w C) : ∀ b, b < C → 2 ≤ w.op b ∧ w.op b ≤ 4 → (w.en b = 0 ∧ ∃ j, ups w.ins j (w.ins C) = b + 1) ∨ (∃ e, w.en b = e + 1 ∧ b < e ∧ e < C ∧ w.op e = 11 ∧ w.ins e = b + 1) := h.2.2.2.2.2.2.2.2.2.2.2.1
theorem WF.en0 {w : Cd} {C : Nat} (h : WF w C) : ∀ b, ¬ (b < C ∧ 2 ≤ w.op b ∧ w.op b ≤ 4) → w.en b = 0 := h.2.2.2.2.2.2.2.2.2.2.2.2.1
theorem WF.el1 {w : Cd} {C : Nat} (h : WF w C) : ∀ k, k < C → w.op k = 5 → w.ins k ≠ 0 ∧ w.op (w.ins k - 1) = 4 ∧ w.el (w.ins k - 1) = k + 1 := h.2.2.2.2.2.2.2.2.2.2.2.2.2.1
theorem WF.el2 {w : Cd} {C : Nat} (h : WF w C) : ∀ b, w.el b ≠ 0 → b < C ∧ w.op b = 4 ∧ ∃ e, w.el b = e + 1 ∧ b < e ∧ e < C ∧ w.op e = 5 ∧ w.ins e = b + 1 ∧ (w.en b ≠ 0 → e + 1 < w.en b) := h.2.2.2.2.2.2.2.2.2.2.2.2.2.2.1
theorem WF.ok {w : Cd} {C : Nat} (h : WF w C) : ∀ k, k < C → kno (w.op k) = true ∧ oko (w.op k) (w.a k) (w.b k) := h.2.2.2.2.2.2.2.2.2.2.2.2.2.2.2.1
theorem WF.ch {w : Cd} {C : Nat} (h : WF w C) : ∀ j b, ups w.ins j (w.ins C) = b + 1 → w.en b = 0 := h.2.2.2.2.2.2.2.2.2.2.2.2.2.2.2.2
/-- the row C is there; what is inside of what behind it, is said -/
def Cd.push (w : Cd) (C o a b i d f : Nat) : Cd := (fu w.op C o, fu w.a C a, fu w.b C b, fu w.ins (C + 1) i, fu w.dp (C + 1) d, fu w.fn (C + 1) f, w.en, w.el, w.pl)
theorem ups_cg {i i' : Nat → Nat} {C : Nat} (hi : ∀ k, k < C → i k ≤ k) (h : ∀ k, k < C → i' k = i k) : ∀ j c, c ≤ C → ups i' j c = ups i j c := by
  intro j
  induction j with
  | zero => intro c _; rfl
  | succ j ih =>
    intro c hc
    rw [ups, ups]
    by_cases h0 : c = 0
    · subst h0; rw [up_0, up_0, ups_0, ups_0]
    · obtain ⟨b, rfl⟩ : ∃ b, c = b + 1 := ⟨c - 1, by omega⟩
      rw [up_s, up_s, h b (by omega)]
      exact ih _ (by have := hi b (by omega); omega)
theorem ups_le {i : Nat → Nat} {C : Nat} (hi : ∀ k, k < C → i k ≤ k) : ∀ j c, c ≤ C → ups i j c ≤ c := by
  intro j
  induction j with
  | zero => intro c _; exact Nat.le_refl _
  | succ j ih =>
    intro c hc
    rw [ups]
    by_cases h0 : c = 0
    · subst h0; rw [up_0, ups_0]; exact Nat.le_refl _
    · obtain ⟨b, rfl⟩ : ∃ b, c = b + 1 := ⟨c - 1, by omega⟩
      rw [up_s]
      have h1 := hi b (by omega)
      have h2 := ih (i b) (by omega)
      omega
/-- what any row does to the chain of blocks -/
theorem WF.base {w : Cd} {C o a b i d f : Nat} (W : WF w C) (hi : i = (if 2 ≤ o ∧ o ≤ 4 then C + 1 else if o = 11 then up w.ins (w.ins C) else w.ins C)) (hd : d = (if 2 ≤ o ∧ o ≤ 4 then w.dp C + 1 else if o = 11 then w.dp C - 1 else w.dp C)) (hf : f = (if o = 11 ∧ w.ins C = 0 then w.fn C + 1 else w.fn C)) (h10 : d ≤ 10) :
    let v := w.push C o a b i d f
    (v.ins 0 = 0 ∧ v.dp 0 = 0 ∧ v.fn 0 = 0) ∧ (∀ k, k < C + 1 → v.ins (k + 1) = nxt v k) ∧ (∀ k, k < C + 1 → v.dp (k + 1) = dnx v k) ∧ (∀ k, k < C + 1 → v.fn (k + 1) = fnx v k) ∧ (∀ k, k ≤ C + 1 → v.ins k ≤ k) ∧
    (∀ k, k ≤ C + 1 → v.ins k ≠ 0 → (2 ≤ v.op (v.ins k - 1) ∧ v.op (v.ins k - 1) ≤ 4) ∧ v.dp k = v.dp (v.ins k - 1) + 1 ∧ v.fn (v.ins k - 1) = v.fn k) ∧ (∀ k, k ≤ C + 1 → v.ins k = 0 → v.dp k = 0) ∧ (∀ k, k ≤ C + 1 → v.dp k ≤ 10) := by
  intro v
  have vo : ∀ k, k ≠ C → v.op k = w.op k := fun k hk => fu_ne _ _ hk
  have voC : v.op C = o := fu_eq _ _ _
  have vi : ∀ k, k ≠ C + 1 → v.ins k = w.ins k := fun k hk => fu_ne _ _ hk
  have viC : v.ins (C + 1) = i := fu_eq _ _ _
  have vd : ∀ k, k ≠ C + 1 → v.dp k = w.dp k := fun k hk => fu_ne _ _ hk
  have vdC : v.dp (C + 1) = d := fu_eq _ _ _
  have vf : ∀ k, k ≠ C + 1 → v.fn k = w.fn k := fun k hk => fu_ne _ _ hk
  have vfC : v.fn (C + 1) = f := fu_eq _ _ _
  have vu : ∀ k, k ≤ C → up v.ins (v.ins k) = up w.ins (w.ins k) := by
    intro k hk
    rw [vi k (by omega)]
    unfold up
    have := W.i1 k hk
    split
    · rfl
    · exact vi _ (by omega)
  have q1 : ∀ k, k ≤ C + 1 → v.ins k ≤ k := by
    intro k hk
    by_cases hk1 : k = C + 1
    · subst hk1
      rw [viC, hi]
      have := W.i1 C (Nat.le_refl _)
      split
      · omega
      · split
        · unfold up
          split
          · omega
          · have := W.i1 (w.ins C - 1) (by omega); omega
        · omega
    · rw [vi k hk1]; exact W.i1 k (by omega)
  refine ⟨⟨(vi 0 (by omega)).trans W.i0, (vd 0 (by omega)).trans W.d0, (vf 0 (by omega)).trans W.f0⟩, ?_, ?_, ?_, q1, ?_, ?_, ?_⟩
  · intro k hk
    unfold nxt
    rw [vu k (by omega), vi k (by omega)]
    by_cases hkC : k = C
    · subst hkC; rw [viC, voC, hi]
    · rw [vo k hkC, vi (k + 1) (by omega)]; exact W.ni k (by omega)
  · intro k hk
    unfold dnx
    rw [vd k (by omega)]
    by_cases hkC : k = C
    · subst hkC; rw [vdC, voC, hd]
    · rw [vo k hkC, vd (k + 1) (by omega)]; exact W.nd k (by omega)
  · intro k hk
    unfold fnx
    rw [vf k (by omega), vi k (by omega)]
    by_cases hkC : k = C
    · subst hkC; rw [vfC, voC, hf]
    · rw [vo k hkC, vf (k + 1) (by omega)]; exact W.nf k (by omega)
  · intro k hk h0
    by_cases hk1 : k = C + 1
    · subst hk1
      rw [viC] at h0 ⊢
      by_cases ho : 2 ≤ o ∧ o ≤ 4
      · have hiC : i = C + 1 := by rw [hi, if_pos ho]
        have hdC : d = w.dp C + 1 := by rw [hd, if_pos ho]
        have hfC : f = w.fn C := by rw [hf, if_neg (by omega)]
        rw [hiC, show C + 1 - 1 = C by omega, voC, vdC, vd C (by omega), vf C (by omega), vfC]
        exact ⟨ho, hdC, hfC.symm⟩
      · rw [if_neg ho] at hi hd
        by_cases h11 : o = 11
        · rw [if_pos h11] at hi hd
          by_cases hc0 : w.ins C = 0
          · rw [hc0, up_0] at hi; exact absurd hi h0
          · rw [if_neg (by omega)] at hf
            obtain ⟨b', hb'⟩ : ∃ b', w.ins C = b' + 1 := ⟨w.ins C - 1, by omega⟩
            have hbC := W.i1 C (Nat.le_refl _)
            have h2 := W.i2 C (Nat.le_refl _) hc0
            rw [hb', show b' + 1 - 1 = b' by omega] at h2
            rw [hb', up_s] at hi
            have h3 := W.i2 b' (by omega) (by omega)
            have h4 := W.i1 b' (by omega)
            rw [vdC, vfC, vo _ (by omega), vd _ (by omega), vf _ (by omega), hi]
            exact ⟨h3.1, by omega, by rw [h3.2.2, h2.2.2, hf]⟩
        · rw [if_neg h11] at hi hd
          rw [if_neg (by omega)] at hf
          have h2 := W.i2 C (Nat.le_refl _) (by omega)
          have h4 := W.i1 C (Nat.le_refl _)
          rw [vdC, vfC, vo _ (by omega), vd _ (by omega), vf _ (by omega), hi, hd, hf]
          exact h2
    · rw [vi k hk1] at h0 ⊢
      have h4 := W.i1 k (by omega)
      rw [vo _ (by omega), vd _ hk1, vd _ (by omega), vf _ (by omega), vf _ hk1]
      exact W.i2 k (by omega) h0
  · intro k hk h0
    by_cases hk1 : k = C + 1
    · subst hk1
      rw [viC] at h0
      rw [vdC]
      by_cases ho : 2 ≤ o ∧ o ≤ 4
      · rw [if_pos ho] at hi; omega
      · rw [if_neg ho] at hi hd
        by_cases h11 : o = 11
        · rw [if_pos h11] at hi hd
          by_cases hc0 : w.ins C = 0
          · have := W.i3 C (Nat.le_refl _) hc0; omega
          · obtain ⟨b', hb'⟩ : ∃ b', w.ins C = b' + 1 := ⟨w.ins C - 1, by omega⟩
            have hbC := W.i1 C (Nat.le_refl _)
            have h2 := W.i2 C (Nat.le_refl _) hc0
            rw [hb', show b' + 1 - 1 = b' by omega] at h2
            rw [hb', up_s] at hi
            have := W.i3 b' (by omega) (by omega)
            omega
        · rw [if_neg h11] at hi hd
          have := W.i3 C (Nat.le_refl _) (by omega)
          omega
    · rw [vi k hk1] at h0
      rw [vd k hk1]
      exact W.i3 k (by omega) h0
  · intro k hk
    by_cases hk1 : k = C + 1
    · subst hk1; rw [vdC]; exact h10
    · rw [vd k hk1]; exact W.d10 k (by omega)
/-- a row that neither opens nor turns nor ends a block -/
theorem WF.plain {w : Cd} {C o a b : Nat} (W : WF w C) (ho : ¬ (2 ≤ o ∧ o ≤ 4)) (h5 : o ≠ 5) (h11 : o ≠ 11) (hk : kno o = true) (hok : oko o a b) : WF (w.push C o a b (w.ins C) (w.dp C) (w.fn C)) (C + 1) := by
  obtain ⟨⟨b1, b2, b3⟩, b4, b5, b6, b7, b8, b9, b10⟩ := W.base (o := o) (a := a) (b := b) (i := w.ins C) (d := w.dp C) (f := w.fn C) (by rw [if_neg ho, if_neg h11]) (by rw [if_neg ho, if_neg h11]) (by rw [if_neg (by omega)]) (W.d10 C (Nat.le_refl _))
  have vo : ∀ k, k ≠ C → (w.push C o a b (w.ins C) (w.dp C) (w.fn C)).op k = w.op k := fun k hk => fu_ne _ _ hk
  have voC : (w.push C o a b (w.ins C) (w.dp C) (w.fn C)).op C = o := fu_eq _ _ _
  have vi : ∀ k, k ≠ C + 1 → (w.push C o a b (w.ins C) (w.dp C) (w.fn C)).ins k = w.ins k := fun k hk => fu_ne _ _ hk
  have viC : (w.push C o a b (w.ins C) (w.dp C) (w.fn C)).ins (C + 1) = w.ins C := fu_eq _ _ _
  generalize hv : w.push C o a b (w.ins C) (w.dp C) (w.fn C) = v at *
  have ve : v.en = w.en := by rw [← hv]; rfl
  have vl : v.el = w.el := by rw [← hv]; rfl
  have va : v.a = fu w.a C a := by rw [← hv]; rfl
  have vb : v.b = fu w.b C b := by rw [← hv]; rfl
  refine ⟨b1, b2, b3, b4, b5, b6, b7, b8, b9, b10, ?_, ?_, ?_, ?_, ?_, ?_, ?_⟩
  · intro k hk ho11
    by_cases hkC : k = C
    · subst hkC; rw [voC] at ho11; exact absurd ho11 h11
    · rw [vo k hkC] at ho11
      rw [vi k (by omega), ve]
      exact W.en1 k (by omega) ho11
  · intro b' hb hop
    by_cases hkC : b' = C
    · subst hkC; rw [voC] at hop; exact absurd hop ho
    · rw [vo b' hkC] at hop
      rw [ve, viC]
      rcases W.op1 b' (by omega) hop with ⟨e0, j, hj⟩ | ⟨e, e1, e2, e3, e4, e5⟩
      · exact Or.inl ⟨e0, j, by rw [ups_cg (C := C) (fun k hk => W.i1 k (by omega)) (fun k hk => vi k (by omega)) j _ (W.i1 C (Nat.le_refl _))]; exact hj⟩
      · exact Or.inr ⟨e, e1, e2, by omega, by rw [vo e (by omega)]; exact e4, by rw [vi e (by omega)]; exact e5⟩
  · intro b' hb
    rw [ve]
    by_cases hkC : b' = C
    · subst hkC; exact W.en0 b' (by omega)
    · rw [vo b' hkC] at hb; exact W.en0 b' (by omega)
  · intro k hk ho5
    by_cases hkC : k = C
    · subst hkC; rw [voC] at ho5; exact absurd ho5 h5
    · rw [vo k hkC] at ho5
      have := W.i1 k (by omega)
      rw [vi k (by omega), vl]
      obtain ⟨q1, q2, q3⟩ := W.el1 k (by omega) ho5
      exact ⟨q1, by rw [vo _ (by omega)]; exact q2, q3⟩
  · intro b' hb
    rw [vl] at hb ⊢
    obtain ⟨q1, q2, e, q3, q4, q5, q6, q7, q8⟩ := W.el2 b' hb
    rw [ve]
    exact ⟨by omega, by rw [vo _ (by omega)]; exact q2, e, q3, q4, by omega, by rw [vo _ (by omega)]; exact q6, by rw [vi _ (by omega)]; exact q7, q8⟩
  · intro k hk'
    rw [va, vb]
    by_cases hkC : k = C
    · subst hkC; rw [voC, fu_eq, fu_eq]; exact ⟨hk, hok⟩
    · rw [vo k hkC, fu_ne _ _ hkC, fu_ne _ _ hkC]; exact W.ok k (by omega)
  · intro j b' hj
    rw [viC] at hj
    rw [ups_cg (C := C) (fun k hk => W.i1 k (by omega)) (fun k hk => vi k (by omega)) j _ (W.i1 C (Nat.le_refl _))] at hj
    rw [ve]; exact W.ch j b' hj
/-- a row that opens a block -/
theorem WF.opn {w : Cd} {C o a b : Nat} (W : WF w C) (ho : 2 ≤ o ∧ o ≤ 4) (hk : kno o = true) (hok : oko o a b) (h10 : w.dp C + 1 ≤ 10) : WF (w.push C o a b (C + 1) (w.dp C + 1) (w.fn C)) (C + 1) := by
  obtain ⟨⟨b1, b2, b3⟩, b4, b5, b6, b7, b8, b9, b10⟩ := W.base (o := o) (a := a) (b := b) (i := C + 1) (d := w.dp C + 1) (f := w.fn C) (by rw [if_pos ho]) (by rw [if_pos ho]) (by rw [if_neg (by omega)]) h10
  have vo : ∀ k, k ≠ C → (w.push C o a b (C + 1) (w.dp C + 1) (w.fn C)).op k = w.op k := fun k hk => fu_ne _ _ hk
  have voC : (w.push C o a b (C + 1) (w.dp C + 1) (w.fn C)).op C = o := fu_eq _ _ _
  have vi : ∀ k, k ≠ C + 1 → (w.push C o a b (C + 1) (w.dp C + 1) (w.fn C)).ins k = w.ins k := fun k hk => fu_ne _ _ hk
  have viC : (w.push C o a b (C + 1) (w.dp C + 1) (w.fn C)).ins (C + 1) = C + 1 := fu_eq _ _ _
  generalize hv : w.push C o a b (C + 1) (w.dp C + 1) (w.fn C) = v at *
  have ve : v.en = w.en := by rw [← hv]; rfl
  have vl : v.el = w.el := by rw [← hv]; rfl
  have va : v.a = fu w.a C a := by rw [← hv]; rfl
  have vb : v.b = fu w.b C b := by rw [← hv]; rfl
  refine ⟨b1, b2, b3, b4, b5, b6, b7, b8, b9, b10, ?_, ?_, ?_, ?_, ?_, ?_, ?_⟩
  · intro k hk ho11
    by_cases hkC : k = C
    · subst hkC; rw [voC] at ho11; omega
    · rw [vo k hkC] at ho11
      rw [vi k (by omega), ve]
      exact W.en1 k (by omega) ho11
  · intro b' hb hop
    rw [ve, viC]
    by_cases hkC : b' = C
    · subst hkC; exact Or.inl ⟨W.en0 b' (by omega), 0, rfl⟩
    · rw [vo b' hkC] at hop
      rcases W.op1 b' (by omega) hop with ⟨e0, j, hj⟩ | ⟨e, e1, e2, e3, e4, e5⟩
      · refine Or.inl ⟨e0, j + 1, ?_⟩
        rw [ups, up_s, vi C (by omega), ups_cg (C := C) (fun k hk => W.i1 k (by omega)) (fun k hk => vi k (by omega)) j _ (W.i1 C (Nat.le_refl _))]; exact hj
      · exact Or.inr ⟨e, e1, e2, by omega, by rw [vo e (by omega)]; exact e4, by rw [vi e (by omega)]; exact e5⟩
  · intro b' hb
    rw [ve]
    by_cases hkC : b' = C
    · subst hkC; exact W.en0 b' (by omega)
    · rw [vo b' hkC] at hb; exact W.en0 b' (by omega)
  · intro k hk ho5
    by_cases hkC : k = C
    · subst hkC; rw [voC] at ho5; omega
    · rw [vo k hkC] at ho5
      have := W.i1 k (by omega)
      rw [vi k (by omega), vl]
      obtain ⟨q1, q2, q3⟩ := W.el1 k (by omega) ho5
      exact ⟨q1, by rw [vo _ (by omega)]; exact q2, q3⟩
  · intro b' hb
    rw [vl] at hb ⊢
    obtain ⟨q1, q2, e, q3, q4, q5, q6, q7, q8⟩ := W.el2 b' hb
    rw [ve]
    exact ⟨by omega, by rw [vo _ (by omega)]; exact q2, e, q3, q4, by omega, by rw [vo _ (by omega)]; exact q6, by rw [vi _ (by omega)]; exact q7, q8⟩
  · intro k hk'
    rw [va, vb]
    by_cases hkC : k = C
    · subst hkC; rw [voC, fu_eq, fu_eq]; exact ⟨hk, hok⟩
    · rw [vo k hkC, fu_ne _ _ hkC, fu_ne _ _ hkC]; exact W.ok k (by omega)
  · intro j b' hj
    rw [viC] at hj
    rw [ve]
    cases j with
    | zero =>
      rw [ups] at hj
      exact W.en0 b' (by omega)
    | succ j =>
      rw [ups, up_s, vi C (by omega)] at hj
      rw [ups_cg (C := C) (fun k hk => W.i1 k (by omega)) (fun k hk => vi k (by omega)) j _ (W.i1 C (Nat.le_refl _))] at hj
      exact W.ch j b' hj
theorem oko_0 {o : Nat} : oko o 0 0 := ⟨by decide, by decide, fun _ => by decide, fun _ => by decide, fun _ => rfl, fun _ => rfl⟩
/-- an else -/
def Cd.turn (w : Cd) (C B : Nat) : Cd := (fu w.op C 5, fu w.a C 0, fu w.b C 0, fu w.ins (C + 1) (w.ins C), fu w.dp (C + 1) (w.dp C), fu w.fn (C + 1) (w.fn C), w.en, fu w.el B (C + 1), w.pl)
theorem WF.turn {w : Cd} {C B : Nat} (W : WF w C) (hB : w.ins C = B + 1) (h4 : w.op B = 4) (h0 : w.el B = 0) : WF (w.turn C B) (C + 1) := by
  have hen := W.ch 0 B hB
  obtain ⟨⟨b1, b2, b3⟩, b4, b5, b6, b7, b8, b9, b10⟩ := W.base (o := 5) (a := 0) (b := 0) (i := w.ins C) (d := w.dp C) (f := w.fn C) (by rw [if_neg (by decide), if_neg (by decide)]) (by rw [if_neg (by decide), if_neg (by decide)]) (by rw [if_neg (by omega)]) (W.d10 C (Nat.le_refl _))
  have hBC := W.i1 C (Nat.le_refl _)
  have vo : ∀ k, k ≠ C → (w.turn C B).op k = w.op k := fun k hk => fu_ne _ _ hk
  have voC : (w.turn C B).op C = 5 := fu_eq _ _ _
  have vi : ∀ k, k ≠ C + 1 → (w.turn C B).ins k = w.ins k := fun k hk => fu_ne _ _ hk
  have viC : (w.turn C B).ins (C + 1) = w.ins C := fu_eq _ _ _
  have ve : (w.turn C B).en = w.en := rfl
  have vl : (w.turn C B).el = fu w.el B (C + 1) := rfl
  have va : (w.turn C B).a = fu w.a C 0 := rfl
  have vb : (w.turn C B).b = fu w.b C 0 := rfl
  refine ⟨b1, b2, b3, b4, b5, b6, b7, b8, b9, b10, ?_, ?_, ?_, ?_, ?_, ?_, ?_⟩
  · intro k hk ho11
    by_cases hkC : k = C
    · subst hkC; rw [voC] at ho11; omega
    · rw [vo k hkC] at ho11
      rw [vi k (by omega), ve]
      exact W.en1 k (by omega) ho11
  · intro b' hb hop
    by_cases hkC : b' = C
    · subst hkC; rw [voC] at hop; omega
    · rw [vo b' hkC] at hop
      rw [ve, viC]
      rcases W.op1 b' (by omega) hop with ⟨e0, j, hj⟩ | ⟨e, e1, e2, e3, e4, e5⟩
      · exact Or.inl ⟨e0, j, by rw [ups_cg (C := C) (fun k hk => W.i1 k (by omega)) (fun k hk => vi k (by omega)) j _ (W.i1 C (Nat.le_refl _))]; exact hj⟩
      · exact Or.inr ⟨e, e1, e2, by omega, by rw [vo e (by omega)]; exact e4, by rw [vi e (by omega)]; exact e5⟩
  · intro b' hb
    rw [ve]
    by_cases hkC : b' = C
    · subst hkC; exact W.en0 b' (by omega)
    · rw [vo b' hkC] at hb; exact W.en0 b' (by omega)
  · intro k hk ho5
    rw [vl, vi k (by omega)]
    by_cases hkC : k = C
    · subst hkC
      rw [hB, Nat.add_sub_cancel, fu_eq, vo B (by omega)]
      exact ⟨by omega, h4, rfl⟩
    · rw [vo k hkC] at ho5
      have := W.i1 k (by omega)
      obtain ⟨q1, q2, q3⟩ := W.el1 k (by omega) ho5
      refine ⟨q1, by rw [vo _ (by omega)]; exact q2, ?_⟩
      rw [fu_ne _ _ (fun q => by rw [q, h0] at q3; omega)]; exact q3
  · intro b' hb
    rw [vl] at hb ⊢
    rw [ve]
    by_cases hbB : b' = B
    · subst hbB
      refine ⟨by omega, by rw [vo _ (by omega)]; exact h4, C, by rw [fu_eq], by omega, by omega, voC, by rw [vi _ (by omega)]; exact hB, fun q => absurd hen q⟩
    · rw [fu_ne _ _ hbB] at hb ⊢
      obtain ⟨q1, q2, e, q3, q4, q5, q6, q7, q8⟩ := W.el2 b' hb
      exact ⟨by omega, by rw [vo _ (by omega)]; exact q2, e, q3, q4, by omega, by rw [vo _ (by omega)]; exact q6, by rw [vi _ (by omega)]; exact q7, q8⟩
  · intro k hk'
    rw [va, vb]
    by_cases hkC : k = C
    · subst hkC; rw [voC, fu_eq, fu_eq]; exact ⟨by decide, oko_0⟩
    · rw [vo k hkC, fu_ne _ _ hkC, fu_ne _ _ hkC]; exact W.ok k (by omega)
  · intro j b' hj
    rw [viC] at hj
    rw [ups_cg (C := C) (fun k hk => W.i1 k (by omega)) (fun k hk => vi k (by omega)) j _ (W.i1 C (Nat.le_refl _))] at hj
    rw [ve]; exact W.ch j b' hj
/-- the end of a block -/
def Cd.shut (w : Cd) (C B : Nat) : Cd := (fu w.op C 11, fu w.a C 0, fu w.b C 0, fu w.ins (C + 1) (w.ins B), fu w.dp (C + 1) (w.dp C - 1), fu w.fn (C + 1) (w.fn C), fu w.en B (C + 1), w.el, w.pl)
theorem WF.shut {w : Cd} {C B : Nat} (W : WF w C) (hB : w.ins C = B + 1) : WF (w.shut C B) (C + 1) := by
  have hen := W.ch 0 B hB
  have hd := W.d10 C (Nat.le_refl _)
  obtain ⟨⟨b1, b2, b3⟩, b4, b5, b6, b7, b8, b9, b10⟩ := W.base (o := 11) (a := 0) (b := 0) (i := w.ins B) (d := w.dp C - 1) (f := w.fn C) (by rw [if_neg (by decide), if_pos rfl, hB, up_s]) (by rw [if_neg (by decide), if_pos rfl]) (by rw [if_neg (by omega)]) (by omega)
  have hBC := W.i1 C (Nat.le_refl _)
  have hBo := (W.i2 C (Nat.le_refl _) (by omega)).1
  rw [hB, Nat.add_sub_cancel] at hBo
  have vo : ∀ k, k ≠ C → (w.shut C B).op k = w.op k := fun k hk => fu_ne _ _ hk
  have voC : (w.shut C B).op C = 11 := fu_eq _ _ _
  have vi : ∀ k, k ≠ C + 1 → (w.shut C B).ins k = w.ins k := fun k hk => fu_ne _ _ hk
  have viC : (w.shut C B).ins (C + 1) = w.ins B := fu_eq _ _ _
  have ve : (w.shut C B).en = fu w.en B (C + 1) := rfl
  have vl : (w.shut C B).el = w.el := rfl
  have va : (w.shut C B).a = fu w.a C 0 := rfl
  have vb : (w.shut C B).b = fu w.b C 0 := rfl
  refine ⟨b1, b2, b3, b4, b5, b6, b7, b8, b9, b10, ?_, ?_, ?_, ?_, ?_, ?_, ?_⟩
  · intro k hk ho11 hne
    rw [ve]
    rw [vi k (by omega)] at hne ⊢
    by_cases hkC : k = C
    · subst hkC; rw [hB, Nat.add_sub_cancel, fu_eq]
    · rw [vo k hkC] at ho11
      have q := W.en1 k (by omega) ho11 hne
      rw [fu_ne _ _ (fun z => by rw [z, hen] at q; omega)]
      exact q
  · intro b' hb hop
    rw [ve, viC]
    by_cases hbB : b' = B
    · subst hbB
      exact Or.inr ⟨C, by rw [fu_eq], by omega, by omega, voC, by rw [vi C (by omega)]; exact hB⟩
    · rw [fu_ne _ _ hbB]
      by_cases hkC : b' = C
      · subst hkC; rw [voC] at hop; omega
      · rw [vo b' hkC] at hop
        rcases W.op1 b' (by omega) hop with ⟨e0, j, hj⟩ | ⟨e, e1, e2, e3, e4, e5⟩
        · refine Or.inl ⟨e0, ?_⟩
          cases j with
          | zero => rw [ups, hB] at hj; omega
          | succ j =>
            rw [ups, hB, up_s] at hj
            exact ⟨j, by rw [ups_cg (C := C) (fun k hk => W.i1 k (by omega)) (fun k hk => vi k (by omega)) j _ (by have := W.i1 B (by omega); omega)]; exact hj⟩
        · exact Or.inr ⟨e, e1, e2, by omega, by rw [vo e (by omega)]; exact e4, by rw [vi e (by omega)]; exact e5⟩
  · intro b' hb
    rw [ve]
    by_cases hbB : b' = B
    · subst hbB; rw [vo b' (by omega)] at hb; exact absurd ⟨by omega, hBo⟩ hb
    · rw [fu_ne _ _ hbB]
      by_cases hkC : b' = C
      · subst hkC; exact W.en0 b' (by omega)
      · rw [vo b' hkC] at hb; exact W.en0 b' (by omega)
  · intro k hk ho5
    by_cases hkC : k = C
    · subst hkC; rw [voC] at ho5; omega
    · rw [vo k hkC] at ho5
      have := W.i1 k (by omega)
      rw [vi k (by omega), vl]
      obtain ⟨q1, q2, q3⟩ := W.el1 k (by omega) ho5
      exact ⟨q1, by rw [vo _ (by omega)]; exact q2, q3⟩
  · intro b' hb
    rw [vl] at hb ⊢
    obtain ⟨q1, q2, e, q3, q4, q5, q6, q7, q8⟩ := W.el2 b' hb
    rw [ve]
    refine ⟨by omega, by rw [vo _ (by omega)]; exact q2, e, q3, q4, by omega, by rw [vo _ (by omega)]; exact q6, by rw [vi _ (by omega)]; exact q7, ?_⟩
    by_cases hbB : b' = B
    · subst hbB; rw [fu_eq]; intro _; omega
    · rw [fu_ne _ _ hbB]; exact q8
  · intro k hk'
    rw [va, vb]
    by_cases hkC : k = C
    · subst hkC; rw [voC, fu_eq, fu_eq]; exact ⟨by decide, oko_0⟩
    · rw [vo k hkC, fu_ne _ _ hkC, fu_ne _ _ hkC]; exact W.ok k (by omega)
  · intro j b' hj
    rw [viC] at hj
    have hiB := W.i1 B (by omega)
    rw [ups_cg (C := C) (fun k hk => W.i1 k (by omega)) (fun k hk => vi k (by omega)) j _ (by omega)] at hj
    have hle := ups_le (C := C) (fun k hk => W.i1 k (by omega)) j (w.ins B) (by omega)
    rw [ve, fu_ne _ _ (by omega)]
    exact W.ch (j + 1) b' (by rw [ups, hB, up_s]; exact hj)
/-- the end of a body -/
theorem WF.last {w : Cd} {C : Nat} (W : WF w C) (hB : w.ins C = 0) : WF (w.push C 11 0 0 0 0 (w.fn C + 1)) (C + 1) := by
  have hd := W.i3 C (Nat.le_refl _) hB
  obtain ⟨⟨b1, b2, b3⟩, b4, b5, b6, b7, b8, b9, b10⟩ := W.base (o := 11) (a := 0) (b := 0) (i := 0) (d := 0) (f := w.fn C + 1) (by rw [if_neg (by decide), if_pos rfl, hB, up_0]) (by rw [if_neg (by decide), if_pos rfl, hd]) (by rw [if_pos ⟨rfl, hB⟩]) (by omega)
  have vo : ∀ k, k ≠ C → (w.push C 11 0 0 0 0 (w.fn C + 1)).op k = w.op k := fun k hk => fu_ne _ _ hk
  have voC : (w.push C 11 0 0 0 0 (w.fn C + 1)).op C = 11 := fu_eq _ _ _
  have vi : ∀ k, k ≠ C + 1 → (w.push C 11 0 0 0 0 (w.fn C + 1)).ins k = w.ins k := fun k hk => fu_ne _ _ hk
  have viC : (w.push C 11 0 0 0 0 (w.fn C + 1)).ins (C + 1) = 0 := fu_eq _ _ _
  have ve : (w.push C 11 0 0 0 0 (w.fn C + 1)).en = w.en := rfl
  have vl : (w.push C 11 0 0 0 0 (w.fn C + 1)).el = w.el := rfl
  have va : (w.push C 11 0 0 0 0 (w.fn C + 1)).a = fu w.a C 0 := rfl
  have vb : (w.push C 11 0 0 0 0 (w.fn C + 1)).b = fu w.b C 0 := rfl
  refine ⟨b1, b2, b3, b4, b5, b6, b7, b8, b9, b10, ?_, ?_, ?_, ?_, ?_, ?_, ?_⟩
  · intro k hk ho11 hne
    rw [ve]
    rw [vi k (by omega)] at hne ⊢
    by_cases hkC : k = C
    · subst hkC; exact absurd hB hne
    · rw [vo k hkC] at ho11
      exact W.en1 k (by omega) ho11 hne
  · intro b' hb hop
    rw [ve]
    by_cases hkC : b' = C
    · subst hkC; rw [voC] at hop; omega
    · rw [vo b' hkC] at hop
      rcases W.op1 b' (by omega) hop with ⟨e0, j, hj⟩ | ⟨e, e1, e2, e3, e4, e5⟩
      · rw [hB, ups_0] at hj; omega
      · exact Or.inr ⟨e, e1, e2, by omega, by rw [vo e (by omega)]; exact e4, by rw [vi e (by omega)]; exact e5⟩
  · intro b' hb
    rw [ve]
    by_cases hkC : b' = C
    · subst hkC; exact W.en0 b' (by omega)
    · rw [vo b' hkC] at hb; exact W.en0 b' (by omega)
  · intro k hk ho5
    by_cases hkC : k = C
    · subst hkC; rw [voC] at ho5; omega
    · rw [vo k hkC] at ho5
      have := W.i1 k (by omega)
      rw [vi k (by omega), vl]
      obtain ⟨q1, q2, q3⟩ := W.el1 k (by omega) ho5
      exact ⟨q1, by rw [vo _ (by omega)]; exact q2, q3⟩
  · intro b' hb
    rw [vl] at hb ⊢
    obtain ⟨q1, q2, e, q3, q4, q5, q6, q7, q8⟩ := W.el2 b' hb
    rw [ve]
    exact ⟨by omega, by rw [vo _ (by omega)]; exact q2, e, q3, q4, by omega, by rw [vo _ (by omega)]; exact q6, by rw [vi _ (by omega)]; exact q7, q8⟩
  · intro k hk'
    rw [va, vb]
    by_cases hkC : k = C
    · subst hkC; rw [voC, fu_eq, fu_eq]; exact ⟨by decide, oko_0⟩
    · rw [vo k hkC, fu_ne _ _ hkC, fu_ne _ _ hkC]; exact W.ok k (by omega)
  · intro j b' hj
    rw [viC, ups_0] at hj
    omega
