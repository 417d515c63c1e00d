-- rules: both sides read on together
def o2 {α β γ δ : Type} (F : α → Option γ) (G : β → Option δ) (a : Option γ) (b : Option δ) (P : α → β → Prop) : Prop := ∃ x y, a = F x ∧ b = G y ∧ P x y
theorem o2_ok2 {γ δ : Type} {a : Option γ} {b : Option δ} {P : γ → δ → Prop} (h : o2 some some a b P) : ok2 a b P := h
theorem ok2_o2 {γ δ : Type} {a : Option γ} {b : Option δ} {P : γ → δ → Prop} (h : ok2 a b P) : o2 some some a b P := h
section O2
variable {α β γ δ ε ζ σ τ : Type} {F : ε → Option γ} {G : ζ → Option δ} {R : ε → ζ → Prop}
theorem o2.some {γ δ : Type} {x : γ} {y : δ} {P : γ → δ → Prop} (h : P x y) : o2 some some (some x) (some y) P := ⟨x, y, rfl, rfl, h⟩
theorem o2.at {x : ε} {y : ζ} (h : R x y) : o2 F G (F x) (G y) R := ⟨x, y, rfl, rfl, h⟩
theorem o2.mono {a : Option γ} {b : Option δ} {R' : ε → ζ → Prop} (h : o2 F G a b R) (hR : ∀ x y, R x y → R' x y) : o2 F G a b R' := by
  obtain ⟨x, y, h1, h2, h3⟩ := h
  exact ⟨x, y, h1, h2, hR x y h3⟩
theorem o2.bb {a : Option (α × σ)} {b : Option (β × τ)} {k : α → σ → Option γ} {k' : β → τ → Option δ} (h : ok2 a b (fun x y => o2 F G (k x.1 x.2) (k' y.1 y.2) R)) : o2 F G (bd a k) (bd b k') R := by
  obtain ⟨x, y, rfl, rfl, h3⟩ := h
  exact h3
theorem o2.b1b1 {a : Option α} {b : Option β} {k : α → Option γ} {k' : β → Option δ} (h : ok2 a b (fun x y => o2 F G (k x) (k' y) R)) : o2 F G (bd1 a k) (bd1 b k') R := by
  obtain ⟨x, y, rfl, rfl, h3⟩ := h
  exact h3
theorem o2.bL {a : Option (α × σ)} {k : α → σ → Option γ} {b : Option δ} {x : α} {s : σ} (h : a = Option.some (x, s)) (h2 : o2 F G (k x s) b R) : o2 F G (bd a k) b R := by subst h; exact h2
theorem o2.bR {a : Option (α × σ)} {k : α → σ → Option δ} {b : Option γ} {x : α} {s : σ} (h : a = Option.some (x, s)) (h2 : o2 F G b (k x s) R) : o2 F G b (bd a k) R := by subst h; exact h2
theorem o2.b1L {a : Option α} {k : α → Option γ} {b : Option δ} {x : α} (h : a = Option.some x) (h2 : o2 F G (k x) b R) : o2 F G (bd1 a k) b R := by subst h; exact h2
theorem o2.b1R {a : Option α} {k : α → Option δ} {b : Option γ} {x : α} (h : a = Option.some x) (h2 : o2 F G b (k x) R) : o2 F G b (bd1 a k) R := by subst h; exact h2
theorem o2.tL {c : Prop} [inst : Decidable c] {a a' : Option γ} {b : Option δ} (hc : c) (h : o2 F G a b R) : o2 F G (if c then a else a') b R := by rw [if_pos hc]; exact h
theorem o2.fL {c : Prop} [inst : Decidable c] {a a' : Option γ} {b : Option δ} (hc : ¬ c) (h : o2 F G a' b R) : o2 F G (if c then a else a') b R := by rw [if_neg hc]; exact h
theorem o2.tR {c : Prop} [inst : Decidable c] {a : Option γ} {b b' : Option δ} (hc : c) (h : o2 F G a b R) : o2 F G a (if c then b else b') R := by rw [if_pos hc]; exact h
theorem o2.fR {c : Prop} [inst : Decidable c] {a : Option γ} {b b' : Option δ} (hc : ¬ c) (h : o2 F G a b' R) : o2 F G a (if c then b else b') R := by rw [if_neg hc]; exact h
theorem o2.gR {i : Int32} {n : Nat} {a : Option γ} {b : Option δ} (hi : vp_in i n) (h : o2 F G a b R) : o2 F G a (gi i n b) R := by rw [gi_ok hi]; exact h
theorem o2.of {a : Option γ} {b : Option δ} {Q : ε → Prop} {Q' : ζ → Prop} (h1 : okg F a Q) (h2 : okg G b Q') (h : ∀ x y, Q x → Q' y → R x y) : o2 F G a b R := by
  obtain ⟨x, rfl, hx⟩ := h1
  obtain ⟨y, rfl, hy⟩ := h2
  exact ⟨x, y, rfl, rfl, h x y hx hy⟩
theorem bd_bd {α β : Type} (a : Option (α × σ)) (k : α → σ → Option (β × τ)) (k' : β → τ → Option γ) : bd (bd a k) k' = bd a (fun x s => bd (k x s) k') := by cases a <;> rfl
theorem bd_bd1 {α β : Type} (a : Option α) (k : α → Option (β × τ)) (k' : β → τ → Option γ) : bd (bd1 a k) k' = bd1 a (fun x => bd (k x) k') := by cases a <;> rfl
theorem bd1_bd {α β : Type} (a : Option (α × σ)) (k : α → σ → Option β) (k' : β → Option γ) : bd1 (bd a k) k' = bd a (fun x s => bd1 (k x s) k') := by cases a <;> rfl
theorem bd1_bd1 {α β : Type} (a : Option α) (k : α → Option β) (k' : β → Option γ) : bd1 (bd1 a k) k' = bd1 a (fun x => bd1 (k x) k') := by cases a <;> rfl
theorem bd_some {α : Type} (x : α) (s : σ) (k : α → σ → Option γ) : bd (some (x, s)) k = k x s := rfl
theorem bd1_some {α : Type} (x : α) (k : α → Option γ) : bd1 (some x) k = k x := rfl
theorem bd_ite {α : Type} (c : Prop) [Decidable c] (a b : Option (α × σ)) (k : α → σ → Option γ) : bd (if c then a else b) k = if c then bd a k else bd b k := by split <;> rfl
theorem bd1_ite {α : Type} (c : Prop) [Decidable c] (a b : Option α) (k : α → Option γ) : bd1 (if c then a else b) k = if c then bd1 a k else bd1 b k := by split <;> rfl
end O2
def AC (s0 : St) (t0 : SM) (s : St) (t : SM) (pl bn : Nat) : Prop := At s t pl bn ∧ FX s0 s ∧ FM t0 t
def RB (s0 : St) (t0 : SM) (R : St → SM → Prop) (s : St) (t : SM) : Prop := R s t ∨ ∃ e, BX s0 e s ∧ BM t0 e t
theorem Fl.B {s0 s s' : St} {t0 t t' : SM} (h : Fl s t s' t') (hx : FX s0 s) (hm : FM t0 t) : ∃ e, BX s0 e s' ∧ BM t0 e t' := by
  obtain ⟨p, e, h1, h2, h3, rfl, rfl⟩ := h
  refine ⟨e, ⟨stp_eq _ _ _ _, h1, h2, (hx.p2 (by decide)).p2 (by decide)⟩, ⟨?_, h1, h2, (hm.p0 (by decide)).p0 (by decide)⟩⟩
  rw [stI1]; exact stp_eq _ _ _ _
theorem AC.step {s0 s : St} {t0 t : SM} {pl bn : Nat} (h : AC s0 t0 s t pl bn) {p : Nat} (hp : p ≤ bn) : AC s0 t0 (stp s 2 2 (nI p)) (stI t 0 3 (nI p)) p bn :=
  ⟨h.1.step hp, h.2.1.p2 (by decide), h.2.2.p0 (by decide)⟩
theorem At.same {s s' : St} {t t' : SM} {pl bn : Nat} (h : At s t pl bn) (h1 : s' 2 = s 2) (h2 : s' 26 = s 26) (h3 : t'.1 0 3 = t.1 0 3) (h4 : t'.1 0 4 = t.1 0 4) (h5 : t'.1 0 5 = t.1 0 5) (h6 : t'.1 1 = t.1 1) : At s' t' pl bn := by
  unfold At
  rw [h1, h2, h3, h4, h5, h6]
  exact h
theorem bd240 {s : St} {t : SM} {pl bn : Nat} (h : At s t pl bn) : pl ≤ bn ∧ bn ≤ 240 := ⟨h.2.2.2.2.2.2.1, h.2.2.2.2.2.2.2.1⟩
section RULES
variable {γ δ ε ζ : Type} {F : ε → Option γ} {G : ζ → Option δ} {R : ε → ζ → Prop} {s0 s : St} {t0 t : SM} {pl bn : Nat}
theorem r_B {s' : St} {t' : SM} {P : St → SM → Prop} {F : St → Option γ} {G : SM → Option δ} {a : Option γ} {b : Option δ} (hx : FX s0 s) (hm : FM t0 t) (hf : Fl s t s' t')
    (hX : ∀ e, BX s0 e s' → okg F a (BX s0 e)) (hM : ∀ e, BM t0 e t' → okg G b (BM t0 e)) : o2 F G a b (RB s0 t0 P) := by
  obtain ⟨e, h1, h2⟩ := hf.B hx hm
  exact o2.of (hX e h1) (hM e h2) (fun x y qx qy => Or.inr ⟨e, qx, qy⟩)
theorem r_byte (h : At s t pl bn) {kX : Int32 → St → Option γ} {kM : Int32 → SM → Option δ}
    (hg : ∀ b, b < 256 → pl < bn → At (stp s 2 2 (nI (pl + 1))) (stI t 0 3 (nI (pl + 1))) (pl + 1) bn → o2 F G (kX (nI b) (stp s 2 2 (nI (pl + 1)))) (kM (nI b) (stI t 0 3 (nI (pl + 1)))) R)
    (hF : ∀ s' t', Fl s t s' t' → o2 F G (kX 0 s') (kM 0 t') R) : o2 F G (bd (f_Rd_nextByte s) kX) (bd (f_M_next t) kM) R := by
  rcases byte2 h with ⟨hp, b, hb, -, e1, e2, h1⟩ | ⟨hp, e1, e2⟩
  · exact o2.bL e1 (o2.bR e2 (hg b hb hp h1))
  · exact o2.bL e1 (o2.bR e2 (hF _ _ (Fl.end1 h)))
theorem r_uns (h : At s t pl bn) {kX : Int32 → St → Option γ} {kM : Int64 → SM → Option δ}
    (hg : ∀ v p, v < 2 ^ 32 → pl < p → p ≤ bn → At (stp s 2 2 (nI p)) (stI t 0 3 (nI p)) p bn → o2 F G (kX (nI v) (stp s 2 2 (nI p))) (kM (lN v) (stI t 0 3 (nI p))) R)
    (hF : ∀ r r' s' t', Fl s t s' t' → o2 F G (kX r s') (kM r' t') R) : o2 F G (bd (f_Rd_nextUnsigned s) kX) (bd (f_M_unsigned t) kM) R := by
  refine o2.bb ((uns2 h).mono ?_)
  rintro ⟨x, s1⟩ ⟨y, t1⟩ (⟨v, p, hv, hp1, hp2, e1, e2⟩ | ⟨p, hp, e1, e2⟩)
  · cases e1
    cases e2
    exact hg v p hv hp1 hp2 (h.step hp2)
  · simp only at e1 e2
    subst e1
    subst e2
    exact hF _ _ _ _ (Fl.at1 (by have := (bd240 h).2; omega))
theorem r_sgn (h : At s t pl bn) {kX : Int32 → St → Option γ} {kM : Int32 → SM → Option δ}
    (hg : ∀ v p, pl < p → p ≤ bn → At (stp s 2 2 (nI p)) (stI t 0 3 (nI p)) p bn → o2 F G (kX v (stp s 2 2 (nI p))) (kM v (stI t 0 3 (nI p))) R)
    (hF : ∀ r r' s' t', Fl s t s' t' → o2 F G (kX r s') (kM r' t') R) : o2 F G (bd (f_Rd_nextSigned s) kX) (bd (f_M_signed t) kM) R := by
  refine o2.bb ((sgn2 h).mono ?_)
  rintro ⟨x, s1⟩ ⟨y, t1⟩ (⟨p, hp1, hp2, e0, e1, e2⟩ | hf)
  · simp only at e0 e1 e2
    subst e0
    subst e1
    subst e2
    exact hg x p hp1 hp2 (h.step hp2)
  · exact hF _ _ _ _ hf
theorem r_exp (h : At s t pl bn) {x : Int32} {kX : St → Option γ} {kM : SM → Option δ}
    (hg : pl < bn → At (stp s 2 2 (nI (pl + 1))) (stI t 0 3 (nI (pl + 1))) (pl + 1) bn → o2 F G (kX (stp s 2 2 (nI (pl + 1)))) (kM (stI t 0 3 (nI (pl + 1)))) R)
    (hF : ∀ s' t', Fl s t s' t' → o2 F G (kX s') (kM t') R) : o2 F G (bd1 (f_Rd_expect x s) kX) (bd1 (f_M_exactly x t) kM) R := by
  refine o2.b1b1 ((exp2 h x).mono ?_)
  rintro s1 t1 (⟨hp, rfl, rfl⟩ | hf)
  · exact hg hp (h.step hp)
  · exact hF _ _ hf
theorem r_val (h : At s t pl bn) {kX : St → Option γ} {kM : SM → Option δ}
    (hg : pl < bn → At (stp s 2 2 (nI (pl + 1))) (stI t 0 3 (nI (pl + 1))) (pl + 1) bn → o2 F G (kX (stp s 2 2 (nI (pl + 1)))) (kM (stI t 0 3 (nI (pl + 1)))) R)
    (hF : ∀ s' t', Fl s t s' t' → o2 F G (kX s') (kM t') R) : o2 F G (bd1 (f_Rd_readValueType s) kX) (bd1 (f_M_value t) kM) R := by
  refine o2.b1b1 ((val2 h).mono ?_)
  rintro s1 t1 (⟨hp, rfl, rfl⟩ | hf)
  · exact hg hp (h.step hp)
  · exact hF _ _ hf
theorem r_one (h : At s t pl bn) (m : Nat) (hm : m < 200) {kX : Int32 → St → Option γ} {kM : Int32 → SM → Option δ}
    (hg : ∀ b, b ≤ m → pl < bn → At (stp s 2 2 (nI (pl + 1))) (stI t 0 3 (nI (pl + 1))) (pl + 1) bn → o2 F G (kX (nI b) (stp s 2 2 (nI (pl + 1)))) (kM (nI b) (stI t 0 3 (nI (pl + 1)))) R)
    (hF : ∀ r r' s' t', Fl s t s' t' → o2 F G (kX r s') (kM r' t') R) : o2 F G (bd (f_Rd_nextUpTo (nI m) s) kX) (bd (f_M_one (nI (m + 1)) t) kM) R := by
  refine o2.bb ((one2 h m hm).mono ?_)
  rintro ⟨x, s1⟩ ⟨y, t1⟩ (⟨b, hb, hp, e1, e2⟩ | hf)
  · cases e1
    cases e2
    exact hg b hb hp (h.step hp)
  · exact hF _ _ _ _ hf
theorem r_end (h : At s t pl bn) {kX : Int32 → St → Option γ} {kM : Int32 → SM → Option δ}
    (hg : ∀ p e, pl < p → p ≤ e → e ≤ bn → At (stp s 2 2 (nI p)) (stI t 0 3 (nI p)) p bn → o2 F G (kX (nI e) (stp s 2 2 (nI p))) (kM (nI e) (stI t 0 3 (nI p))) R)
    (hF : ∀ r r' s' t', Fl s t s' t' → o2 F G (kX r s') (kM r' t') R) : o2 F G (bd (f_Rd_nextEnd s) kX) (bd (f_M_ahead t) kM) R := by
  refine o2.bb ((end2 h).mono ?_)
  rintro ⟨x, s1⟩ ⟨y, t1⟩ (⟨p, e, hp1, hp2, hp3, e1, e2⟩ | hf)
  · cases e1
    cases e2
    exact hg p e hp1 hp2 hp3 (h.step (by omega))
  · exact hF _ _ _ _ hf
/-- a number that may be at most m: read, compared, refused by 2; the other side's count -/
theorem r_cnt (h : At s t pl bn) (m : Nat) (hm : m < 2 ^ 31) {kX : Int32 → St → Option γ} {kM : Int32 → SM → Option δ}
    (hg : ∀ v p, v ≤ m → pl < p → p ≤ bn → At (stp s 2 2 (nI p)) (stI t 0 3 (nI p)) p bn → o2 F G (kX (nI v) (stp s 2 2 (nI p))) (kM (nI v) (stI t 0 3 (nI p))) R)
    (hF : ∀ r s' t', Fl s t s' t' → o2 F G (kX r s') (kM 0 t') R) :
    o2 F G (bd (f_Rd_nextUnsigned s) fun r2 s1 => bd1 (f_X_isAbove r2 (nI m)) fun r3 => if r3 = 0 then kX r2 s1 else bd1 (f_Rd_refuse 2 s1) fun s4 => kX r2 s4) (bd (f_M_count (nI m) t) kM) R := by
  rw [f_M_count, bd_bd]
  refine r_uns h (fun v p hv hp1 hp2 h1 => ?_) (fun r r' s' t' hf => ?_)
  · simp only [lt1, bd_ite, nI_l hm]
    have hb := (bd240 h).2
    by_cases hvm : v ≤ m
    · rw [above_f hvm hm, if_neg (fun q => absurd ((lcmp_le (by omega) (by omega)).mp q) (by omega)), f_M_count_18, mw_t (x := 1) (by decide) 2]
      simp only [bd1_some, if_pos, h1.2.1]
      rw [if_pos (show (0 : Int32) ≤ 0 by decide)]
      simp only [lt1, f_M_count_35, bd_some, lN_i]
      exact hg v p hvm hp1 hp2 h1
    · rw [above_t (by omega) hv hm, if_pos ((lcmp_le (by omega) (by omega)).mpr (by omega)), f_M_count_18, mw_f h1.2.1 2]
      simp only [bd1_some]
      rw [if_neg (show ¬ (1 : Int32) = 0 by decide), xr_0 h1.1 2, if_neg (show ¬ (stI (stI t 0 3 (nI p)) 0 5 2).1 0 5 ≤ 0 by rw [stI1, stp_eq]; decide)]
      simp only [f_M_count_35, bd_some, bd1_some]
      exact hF _ _ _ (Fl.at2 (by omega))
  · obtain ⟨e, B1, B2⟩ := hf.B (FX.refl s) (FM.refl t)
    simp only [lt1, bd_ite, f_M_count_18, mw_flt B2.ne, bd1_some, if_neg B2.nle, f_M_count_35, bd_some, ite_self]
    rcases ab_01 r (nI m) with q | q
    · rw [q]
      simp only [bd1_some, if_pos]
      exact hF _ _ _ hf
    · rw [q]
      simp only [bd1_some, if_neg (show ¬ (1 : Int32) = 0 by decide), xr_flt B1.ne]
      exact hF _ _ _ hf
end RULES
