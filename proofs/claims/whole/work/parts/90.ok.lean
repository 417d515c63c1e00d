-- PURE SIDE: reading the updates; a small logic over Option
theorem sta_eq (s : St) (k : Nat) (f : Nat → Int32) : sta s k f k = f := by simp [sta]
theorem sta_ne (s : St) {k a : Nat} (f : Nat → Int32) (h : a ≠ k) : sta s k f a = s a := by simp [sta, h]
theorem stp_row (s : St) (k j : Nat) (v : Int32) : stp s k j v k = upd (s k) j v := by simp [stp, sta]
theorem stp_ne (s : St) {k a : Nat} (j : Nat) (v : Int32) (h : a ≠ k) : stp s k j v a = s a := by simp [stp, sta, h]
theorem stp_eq (s : St) (k j : Nat) (v : Int32) : stp s k j v k j = v := by rw [stp_row, pk_us]
theorem stp_nj (s : St) (k : Nat) {j i : Nat} (v : Int32) (h : i ≠ j) : stp s k j v k i = s k i := by rw [stp_row, pk_un h]
theorem stI1 (t : SM) (k j : Nat) (v : Int32) : (stI t k j v).1 = stp t.1 k j v := rfl
theorem stI2 (t : SM) (k j : Nat) (v : Int32) : (stI t k j v).2 = t.2 := rfl
theorem stL1 (t : SM) (k j : Nat) (v : Int64) : (stL t k j v).1 = t.1 := rfl
theorem staL_eq (s : Nat → Nat → Int64) (k : Nat) (f : Nat → Int64) : staL s k f k = f := by simp [staL]
theorem staL_ne (s : Nat → Nat → Int64) {k a : Nat} (f : Nat → Int64) (h : a ≠ k) : staL s k f a = s a := by simp [staL, h]
theorem stL_row (t : SM) (k j : Nat) (v : Int64) : (stL t k j v).2 k = vp_updL (t.2 k) j v := by simp [stL, staL]
theorem stL_ne (t : SM) {k a : Nat} (j : Nat) (v : Int64) (h : a ≠ k) : (stL t k j v).2 a = t.2 a := by simp [stL, staL, h]
theorem stL_eq (t : SM) (k j : Nat) (v : Int64) : (stL t k j v).2 k j = v := by rw [stL_row, pk_uLs]
theorem stL_nj (t : SM) (k : Nat) {j i : Nat} (v : Int64) (h : i ≠ j) : (stL t k j v).2 k i = t.2 k i := by rw [stL_row, pk_uLn h]
/-- two computations end, with answers in relation -/
def ok2 {α β : Type} (a : Option α) (b : Option β) (R : α → β → Prop) : Prop := ∃ x y, a = some x ∧ b = some y ∧ R x y
def ok {α : Type} (a : Option α) (P : α → Prop) : Prop := ∃ x, a = some x ∧ P x
section OK
variable {α β γ δ σ τ : Type} {R : γ → δ → Prop}
theorem ok2.some {x : γ} {y : δ} (h : R x y) : ok2 (some x) (some y) R := ⟨x, y, rfl, rfl, h⟩
theorem ok2.mono {a : Option γ} {b : Option δ} {R' : γ → δ → Prop} (h : ok2 a b R) (hR : ∀ x y, R x y → R' x y) : ok2 a b R' := by
  obtain ⟨x, y, h1, h2, h3⟩ := h
  exact ⟨x, y, h1, h2, hR x y h3⟩
theorem ok2.bdbd {a : Option (α × σ)} {b : Option (β × τ)} {k : α → σ → Option γ} {k' : β → τ → Option δ} (h : ok2 a b (fun x y => ok2 (k x.1 x.2) (k' y.1 y.2) R)) : ok2 (bd a k) (bd b k') R := by
  obtain ⟨x, y, rfl, rfl, h3⟩ := h
  exact h3
theorem ok2.b1b1 {a : Option α} {b : Option β} {k : α → Option γ} {k' : β → Option δ} (h : ok2 a b (fun x y => ok2 (k x) (k' y) R)) : ok2 (bd1 a k) (bd1 b k') R := by
  obtain ⟨x, y, rfl, rfl, h3⟩ := h
  exact h3
theorem ok2.bL {a : Option (α × σ)} {k : α → σ → Option γ} {b : Option δ} {x : α} {s : σ} (h : a = Option.some (x, s)) (h2 : ok2 (k x s) b R) : ok2 (bd a k) b R := by subst h; exact h2
theorem ok2.bR {a : Option (α × σ)} {k : α → σ → Option δ} {b : Option γ} {x : α} {s : σ} (h : a = Option.some (x, s)) (h2 : ok2 b (k x s) R) : ok2 b (bd a k) R := by subst h; exact h2
theorem ok2.b1L {a : Option α} {k : α → Option γ} {b : Option δ} {x : α} (h : a = Option.some x) (h2 : ok2 (k x) b R) : ok2 (bd1 a k) b R := by subst h; exact h2
theorem ok2.b1R {a : Option α} {k : α → Option δ} {b : Option γ} {x : α} (h : a = Option.some x) (h2 : ok2 b (k x) R) : ok2 b (bd1 a k) R := by subst h; exact h2
theorem ok2.tL {c : Prop} [inst : Decidable c] {a a' : Option γ} {b : Option δ} (hc : c) (h : ok2 a b R) : ok2 (if c then a else a') b R := by rw [if_pos hc]; exact h
theorem ok2.fL {c : Prop} [inst : Decidable c] {a a' : Option γ} {b : Option δ} (hc : ¬ c) (h : ok2 a' b R) : ok2 (if c then a else a') b R := by rw [if_neg hc]; exact h
theorem ok2.tR {c : Prop} [inst : Decidable c] {a : Option γ} {b b' : Option δ} (hc : c) (h : ok2 a b R) : ok2 a (if c then b else b') R := by rw [if_pos hc]; exact h
theorem ok2.fR {c : Prop} [inst : Decidable c] {a : Option γ} {b b' : Option δ} (hc : ¬ c) (h : ok2 a b' R) : ok2 a (if c then b else b') R := by rw [if_neg hc]; exact h
theorem gi_ok {β : Type} {i : Int32} {n : Nat} (h : vp_in i n) (o : Option β) : gi i n o = o := by
  unfold gi
  unfold vp_in at h
  rw [if_pos h]
theorem bz0 {β : Type} (o : Option β) : bz 0 o = o := by simp [bz]
theorem bz1 {β : Type} (o : Option β) : bz 1 o = o := by simp [bz]
end OK
theorem FU_s : ∃ n, FU = n + 1 ∧ 900000 ≤ n := ⟨999999, rfl, by decide⟩
theorem nI_lit (n : Nat) : (OfNat.ofNat n : Int32) = nI n := rfl
