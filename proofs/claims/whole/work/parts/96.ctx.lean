-- what stays while a module is read; the fault's way on each side
def FX (s0 s : St) : Prop := s 0 = s0 0 ∧ s 26 = s0 26 ∧ s 2 1 = s0 2 1
def keepM (j : Nat) : Bool := j == 1 || j == 2 || j == 18 || j == 19 || j == 20 || j == 21 || j == 24 || j == 25
def FM (t0 t : SM) : Prop := t.1 1 = t0.1 1 ∧ ∀ j, keepM j = true → t.1 0 j = t0.1 0 j
theorem FX.refl (s : St) : FX s s := ⟨rfl, rfl, rfl⟩
theorem FM.refl (t : SM) : FM t t := ⟨rfl, fun _ _ => rfl⟩
theorem FX.sa {s0 s : St} (k : Nat) (f : Nat → Int32) (h0 : k ≠ 0) (h1 : k ≠ 2) (h2 : k ≠ 26) (h : FX s0 s) : FX s0 (sta s k f) := by
  obtain ⟨a, b, c⟩ := h
  refine ⟨?_, ?_, ?_⟩
  · rw [sta_ne _ _ (Ne.symm h0)]; exact a
  · rw [sta_ne _ _ (Ne.symm h2)]; exact b
  · rw [sta_ne _ _ (Ne.symm h1)]; exact c
theorem FX.pa {s0 s : St} {k j : Nat} {v : Int32} (h0 : k ≠ 0) (h1 : k ≠ 2) (h2 : k ≠ 26) (h : FX s0 s) : FX s0 (stp s k j v) := h.sa _ _ h0 h1 h2
theorem FX.p2 {s0 s : St} {j : Nat} {v : Int32} (h1 : j ≠ 1) (h : FX s0 s) : FX s0 (stp s 2 j v) := by
  obtain ⟨a, b, c⟩ := h
  refine ⟨?_, ?_, ?_⟩
  · rw [stp_ne _ _ _ (by decide)]; exact a
  · rw [stp_ne _ _ _ (by decide)]; exact b
  · rw [stp_nj _ _ _ (Ne.symm h1)]; exact c
theorem FM.pa {t0 t : SM} {k j : Nat} {v : Int32} (h0 : k ≠ 0) (h1 : k ≠ 1) (h : FM t0 t) : FM t0 (stI t k j v) := by
  obtain ⟨a, b⟩ := h
  refine ⟨?_, fun i hi => ?_⟩
  · rw [stI1, stp_ne _ _ _ (Ne.symm h1)]; exact a
  · rw [stI1, stp_ne _ _ _ (Ne.symm h0)]; exact b i hi
theorem FM.p0 {t0 t : SM} {j : Nat} {v : Int32} (hj : keepM j = false) (h : FM t0 t) : FM t0 (stI t 0 j v) := by
  obtain ⟨a, b⟩ := h
  refine ⟨?_, fun i hi => ?_⟩
  · rw [stI1, stp_ne _ _ _ (by decide)]; exact a
  · have : i ≠ j := fun q => by rw [q, hj] at hi; exact absurd hi (by decide)
    rw [stI1, stp_nj _ _ _ this]; exact b i hi
theorem FM.la {t0 t : SM} {k j : Nat} {v : Int64} (h : FM t0 t) : FM t0 (stL t k j v) := h
/-- a fault is there -/
def BX (s0 : St) (e : Nat) (s : St) : Prop := s 2 5 = nI e ∧ 0 < e ∧ e < 10 ∧ FX s0 s
def BM (t0 : SM) (e : Nat) (t : SM) : Prop := t.1 0 5 = nI e ∧ 0 < e ∧ e < 10 ∧ FM t0 t
theorem BX.ne {s0 s : St} {e : Nat} (h : BX s0 e s) : ¬ s 2 5 = 0 := by rw [h.1]; exact nI_ne0 h.2.1 (by have := h.2.2.1; omega)
theorem BM.ne {t0 t : SM} {e : Nat} (h : BM t0 e t) : ¬ t.1 0 5 = 0 := by rw [h.1]; exact nI_ne0 h.2.1 (by have := h.2.2.1; omega)
theorem BM.nle {t0 t : SM} {e : Nat} (h : BM t0 e t) : ¬ t.1 0 5 ≤ 0 := by rw [h.1]; exact nI_nle h.2.1 (by have := h.2.2.1; omega)
theorem BX.sa {s0 s : St} {e k : Nat} {f : Nat → Int32} (h0 : k ≠ 0) (h1 : k ≠ 2) (h2 : k ≠ 26) (h : BX s0 e s) : BX s0 e (sta s k f) := by
  refine ⟨?_, h.2.1, h.2.2.1, h.2.2.2.sa _ _ h0 h1 h2⟩
  rw [sta_ne _ _ (Ne.symm h1)]; exact h.1
theorem BX.pa {s0 s : St} {e k j : Nat} {v : Int32} (h0 : k ≠ 0) (h1 : k ≠ 2) (h2 : k ≠ 26) (h : BX s0 e s) : BX s0 e (stp s k j v) := h.sa h0 h1 h2
theorem BX.ra {s0 s : St} {e k n : Nat} {i v : Int32} (h0 : k ≠ 0) (h1 : k ≠ 2) (h2 : k ≠ 26) (h : BX s0 e s) : BX s0 e (rSet s k n i v) := h.sa h0 h1 h2
theorem BX.ta {s0 s : St} {e k a b : Nat} {i c v : Int32} (h0 : k ≠ 0) (h1 : k ≠ 2) (h2 : k ≠ 26) (h : BX s0 e s) : BX s0 e (tSet s k a b i c v) := h.sa h0 h1 h2
theorem BX.p2 {s0 s : St} {e j : Nat} {v : Int32} (h1 : j ≠ 1) (h5 : j ≠ 5) (h : BX s0 e s) : BX s0 e (stp s 2 j v) := by
  refine ⟨?_, h.2.1, h.2.2.1, h.2.2.2.p2 h1⟩
  rw [stp_nj _ _ _ (Ne.symm h5)]; exact h.1
theorem BM.pa {t0 t : SM} {e k j : Nat} {v : Int32} (h0 : k ≠ 0) (h1 : k ≠ 1) (h : BM t0 e t) : BM t0 e (stI t k j v) := by
  refine ⟨?_, h.2.1, h.2.2.1, h.2.2.2.pa h0 h1⟩
  rw [stI1, stp_ne _ _ _ (Ne.symm h0)]; exact h.1
theorem BM.p0 {t0 t : SM} {e j : Nat} {v : Int32} (hj : keepM j = false) (h5 : j ≠ 5) (h : BM t0 e t) : BM t0 e (stI t 0 j v) := by
  refine ⟨?_, h.2.1, h.2.2.1, h.2.2.2.p0 hj⟩
  rw [stI1, stp_nj _ _ _ (Ne.symm h5)]; exact h.1
theorem BM.la {t0 t : SM} {e k j : Nat} {v : Int64} (h : BM t0 e t) : BM t0 e (stL t k j v) := h
/-- it comes to F of something good -/
def okg {α γ : Type} (F : α → Option γ) (a : Option γ) (Q : α → Prop) : Prop := ∃ x, a = F x ∧ Q x
section OKR
variable {α β γ ε σ : Type} {F : ε → Option γ} {Q : ε → Prop}
theorem okg.some {x : γ} {P : γ → Prop} (h : P x) : okg some (some x) P := ⟨x, rfl, h⟩
theorem okg.at {x : ε} (h : Q x) : okg F (F x) Q := ⟨x, rfl, h⟩
theorem okg.mono {a : Option γ} {P : ε → Prop} (h : okg F a P) (hP : ∀ x, P x → Q x) : okg F a Q := by
  obtain ⟨x, h1, h2⟩ := h
  exact ⟨x, h1, hP x h2⟩
theorem okg.bE {a : Option (α × σ)} {k : α → σ → Option γ} {x : α} {s : σ} (h : a = Option.some (x, s)) (h2 : okg F (k x s) Q) : okg F (bd a k) Q := by subst h; exact h2
theorem okg.b1E {a : Option α} {k : α → Option γ} {x : α} (h : a = Option.some x) (h2 : okg F (k x) Q) : okg F (bd1 a k) Q := by subst h; exact h2
theorem okg.b1 {a : Option α} {k : α → Option γ} {P : α → Prop} (h : okg Option.some a P) (h2 : ∀ x, P x → okg F (k x) Q) : okg F (bd1 a k) Q := by
  obtain ⟨x, rfl, hx⟩ := h
  exact h2 x hx
theorem okg.b {a : Option (α × σ)} {k : α → σ → Option γ} {P : α × σ → Prop} (h : okg Option.some a P) (h2 : ∀ x s, P (x, s) → okg F (k x s) Q) : okg F (bd a k) Q := by
  obtain ⟨x, rfl, hx⟩ := h
  exact h2 x.1 x.2 hx
theorem okg.f {c : Prop} [inst : Decidable c] {a a' : Option γ} (hc : ¬ c) (h : okg F a' Q) : okg F (if c then a else a') Q := by rw [if_neg hc]; exact h
theorem okg.t {c : Prop} [inst : Decidable c] {a a' : Option γ} (hc : c) (h : okg F a Q) : okg F (if c then a else a') Q := by rw [if_pos hc]; exact h
end OKR
theorem ab_01 (a b : Int32) : f_X_isAbove a b = some 0 ∨ f_X_isAbove a b = some 1 := by
  simp only [f_X_isAbove, f_X_isAbove_9, f_X_isAbove_14, bz0, bz1]
  split
  · exact Or.inr rfl
  · split
    · exact Or.inl rfl
    · exact Or.inr rfl
section FLT
variable {γ : Type} {F : St → Option γ} {F' : SM → Option γ} {s0 s : St} {t0 t : SM} {e : Nat}
theorem kx_abv {a b : Int32} {k : Int32 → Option γ} (h : ∀ r, okg F (k r) (BX s0 e)) : okg F (bd1 (f_X_isAbove a b) k) (BX s0 e) := by
  rcases ab_01 a b with q | q
  · exact okg.b1E q (h 0)
  · exact okg.b1E q (h 1)
theorem kx_byte {k : Int32 → St → Option γ} (h : BX s0 e s) (hk : okg F (k 0 s) (BX s0 e)) : okg F (bd (f_Rd_nextByte s) k) (BX s0 e) := okg.bE (xb_flt h.ne) hk
theorem kx_ref {w : Int32} {k : St → Option γ} (h : BX s0 e s) (hk : okg F (k s) (BX s0 e)) : okg F (bd1 (f_Rd_refuse w s) k) (BX s0 e) := okg.b1E (xr_flt h.ne w) hk
theorem xe_flt (h : ¬ s 2 5 = 0) (x : Int32) : f_Rd_expect x s = some s := by
  rw [f_Rd_expect, xb_flt h]
  simp only [bd, f_Rd_expect_13]
  split
  · rfl
  · rw [xr_flt h]; rfl
theorem kx_exp {x : Int32} {k : St → Option γ} (h : BX s0 e s) (hk : okg F (k s) (BX s0 e)) : okg F (bd1 (f_Rd_expect x s) k) (BX s0 e) := okg.b1E (xe_flt h.ne x) hk
theorem kx_uns {k : Int32 → St → Option γ} (h : BX s0 e s) (hk : ∀ r, okg F (k r s) (BX s0 e)) : okg F (bd (f_Rd_nextUnsigned s) k) (BX s0 e) := by
  obtain ⟨r, hr⟩ := xu_flt h.ne
  exact okg.bE hr (hk r)
theorem xs_flt (h : ¬ s 2 5 = 0) : ∃ r, f_Rd_nextSigned s = some (r, s) := by
  obtain ⟨n, e, -⟩ := FU_s
  unfold f_Rd_nextSigned
  rw [e, f_Rd_nextSigned_4, if_neg (show ¬ (5 : Int32) ≤ 0 by decide), xb_flt h]
  obtain ⟨r0, hr0⟩ : ∃ r : Int32, r = 0 := ⟨0, rfl⟩
  rw [← hr0]
  have z5 : r0 &&& 64 = r0 := by rw [hr0]; decide +kernel
  have z6 : ¬ (128 : Int32) ≤ r0 := by rw [hr0]; decide +kernel
  have z7 : ¬ r0 = 4 := by rw [hr0]; decide +kernel
  simp only [bd, lt1]
  rw [if_neg z7, if_neg z6, if_pos z5]
  exact ⟨_, rfl⟩
theorem kx_sgn {k : Int32 → St → Option γ} (h : BX s0 e s) (hk : ∀ r, okg F (k r s) (BX s0 e)) : okg F (bd (f_Rd_nextSigned s) k) (BX s0 e) := by
  obtain ⟨r, hr⟩ := xs_flt h.ne
  exact okg.bE hr (hk r)
theorem xd_flt (h : ¬ s 2 5 = 0) : ∃ r, f_Rd_nextEnd s = some (r, s) := by
  obtain ⟨r, hr⟩ := xu_flt h
  rw [f_Rd_nextEnd, hr]
  simp only [bd, lt1]
  rcases ab_01 r (s 2 3 - s 2 2) with q | q
  · rw [q]; exact ⟨_, rfl⟩
  · rw [q]
    simp only [bd1]
    rw [if_neg (by decide), xr_flt h]
    exact ⟨_, rfl⟩
theorem kx_end {k : Int32 → St → Option γ} (h : BX s0 e s) (hk : ∀ r, okg F (k r s) (BX s0 e)) : okg F (bd (f_Rd_nextEnd s) k) (BX s0 e) := by
  obtain ⟨r, hr⟩ := xd_flt h.ne
  exact okg.bE hr (hk r)
theorem xv_flt (h : ¬ s 2 5 = 0) : f_Rd_readValueType s = some s := by
  rw [f_Rd_readValueType, xb_flt h]
  simp only [bd, f_Rd_readValueType_14]
  rw [if_neg (by decide), xr_flt h]; rfl
theorem kx_val {k : St → Option γ} (h : BX s0 e s) (hk : okg F (k s) (BX s0 e)) : okg F (bd1 (f_Rd_readValueType s) k) (BX s0 e) := okg.b1E (xv_flt h.ne) hk
theorem xo_flt (h : ¬ s 2 5 = 0) (x : Int32) : ∃ r, f_Rd_nextUpTo x s = some (r, s) := by
  rw [f_Rd_nextUpTo, xb_flt h]
  simp only [bd, f_Rd_nextUpTo_15]
  split
  · exact ⟨_, rfl⟩
  · rw [xr_flt h]; exact ⟨_, rfl⟩
theorem kx_one {x : Int32} {k : Int32 → St → Option γ} (h : BX s0 e s) (hk : ∀ r, okg F (k r s) (BX s0 e)) : okg F (bd (f_Rd_nextUpTo x s) k) (BX s0 e) := by
  obtain ⟨r, hr⟩ := xo_flt h.ne x
  exact okg.bE hr (hk r)
theorem xc_flt (h : ¬ s 2 5 = 0) : ∃ r, f_Rd_readConstant s = some (r, s) := by
  obtain ⟨r, hr⟩ := xs_flt h
  rw [f_Rd_readConstant, xe_flt h]
  simp only [bd1]
  rw [hr]
  simp only [bd]
  rw [xe_flt h]
  exact ⟨_, rfl⟩
theorem kx_con {k : Int32 → St → Option γ} (h : BX s0 e s) (hk : ∀ r, okg F (k r s) (BX s0 e)) : okg F (bd (f_Rd_readConstant s) k) (BX s0 e) := by
  obtain ⟨r, hr⟩ := xc_flt h.ne
  exact okg.bE hr (hk r)
theorem xvs_flt (h : ¬ s 2 5 = 0) (r i : Int32) {n : Nat} : f_Rd_readValueTypes_20 (n + 1) r i s = some (r, s) := by
  rw [f_Rd_readValueTypes_20, if_neg h, f_Rd_readValueTypes_47, ite_self, ite_self]
theorem xvt_flt (h : ¬ s 2 5 = 0) : ∃ r, f_Rd_readValueTypes s = some (r, s) := by
  obtain ⟨r, hr⟩ := xu_flt h
  obtain ⟨n, e, -⟩ := FU_s
  rw [f_Rd_readValueTypes, hr]
  simp only [bd]
  rcases ab_01 r 4 with q | q
  · rw [q]
    simp only [bd1, f_Rd_readValueTypes_18]
    rw [if_pos trivial, e, xvs_flt h]
    exact ⟨_, rfl⟩
  · rw [q]
    simp only [bd1, f_Rd_readValueTypes_18]
    rw [if_neg (by decide), xr_flt h]
    simp only
    rw [e, xvs_flt h]
    exact ⟨_, rfl⟩
theorem kx_vts {k : Int32 → St → Option γ} (h : BX s0 e s) (hk : ∀ r, okg F (k r s) (BX s0 e)) : okg F (bd (f_Rd_readValueTypes s) k) (BX s0 e) := by
  obtain ⟨r, hr⟩ := xvt_flt h.ne
  exact okg.bE hr (hk r)
theorem mn_flt' (h : BM t0 e t) : f_M_next t = some (0, t) := mn_flt h.1 h.2.1 h.2.2.1
theorem km_next {k : Int32 → SM → Option γ} (h : BM t0 e t) (hk : okg F' (k 0 t) (BM t0 e)) : okg F' (bd (f_M_next t) k) (BM t0 e) := okg.bE (mn_flt' h) hk
theorem km_will {x w : Int32} {k : SM → Option γ} (h : BM t0 e t) (hk : okg F' (k t) (BM t0 e)) : okg F' (bd1 (f_M_will x w t) k) (BM t0 e) := okg.b1E (mw_flt h.ne x w) hk
theorem me_flt (h : BM t0 e t) (x : Int32) : f_M_exactly x t = some t := by
  rw [f_M_exactly, mn_flt' h]
  simp only [bd, f_M_exactly_16, mw_flt h.ne, bd1, ite_self]
theorem km_exp {x : Int32} {k : SM → Option γ} (h : BM t0 e t) (hk : okg F' (k t) (BM t0 e)) : okg F' (bd1 (f_M_exactly x t) k) (BM t0 e) := okg.b1E (me_flt h x) hk
theorem km_uns {k : Int64 → SM → Option γ} (h : BM t0 e t) (hk : okg F' (k 0 t) (BM t0 e)) : okg F' (bd (f_M_unsigned t) k) (BM t0 e) := okg.bE (mu_flt h.ne) hk
theorem ms_flt (h : BM t0 e t) : ∃ r, f_M_signed t = some (r, t) := by
  obtain ⟨n, e, -⟩ := FU_s
  unfold f_M_signed
  rw [e, f_M_signed_7, if_neg (show ¬ (5 : Int32) ≤ 0 by decide), if_neg (show ¬ (1 : Int32) = 0 by decide), if_neg h.ne]
  exact ⟨_, rfl⟩
theorem km_sgn {k : Int32 → SM → Option γ} (h : BM t0 e t) (hk : ∀ r, okg F' (k r t) (BM t0 e)) : okg F' (bd (f_M_signed t) k) (BM t0 e) := by
  obtain ⟨r, hr⟩ := ms_flt h
  exact okg.bE hr (hk r)
theorem ma_flt (h : BM t0 e t) : ∃ r, f_M_ahead t = some (r, t) := by
  rw [f_M_ahead, mu_flt h.ne]
  simp only [bd, lt1, f_M_ahead_26, mw_flt h.ne, bd1, if_neg h.nle, f_M_ahead_51, ite_self]
  exact ⟨_, rfl⟩
theorem km_ahd {k : Int32 → SM → Option γ} (h : BM t0 e t) (hk : ∀ r, okg F' (k r t) (BM t0 e)) : okg F' (bd (f_M_ahead t) k) (BM t0 e) := by
  obtain ⟨r, hr⟩ := ma_flt h
  exact okg.bE hr (hk r)
theorem mv_flt (h : BM t0 e t) : f_M_value t = some t := by
  rw [f_M_value, mn_flt' h]
  simp only [bd, f_M_value_17, mw_flt h.ne, bd1, ite_self]
theorem km_val {k : SM → Option γ} (h : BM t0 e t) (hk : okg F' (k t) (BM t0 e)) : okg F' (bd1 (f_M_value t) k) (BM t0 e) := okg.b1E (mv_flt h) hk
theorem mo_flt (h : BM t0 e t) (x : Int32) : f_M_one x t = some (0, t) := by
  rw [f_M_one, mn_flt' h]
  simp only [bd, f_M_one_16, mw_flt h.ne, bd1, ite_self]
theorem km_one {x : Int32} {k : Int32 → SM → Option γ} (h : BM t0 e t) (hk : okg F' (k 0 t) (BM t0 e)) : okg F' (bd (f_M_one x t) k) (BM t0 e) := okg.bE (mo_flt h x) hk
theorem mc_flt (h : BM t0 e t) : ∃ r, f_M_constant t = some (r, t) := by
  obtain ⟨r, hr⟩ := ms_flt h
  rw [f_M_constant, me_flt h]
  simp only [bd1]
  rw [hr]
  simp only [bd]
  rw [me_flt h]
  exact ⟨_, rfl⟩
theorem km_con {k : Int32 → SM → Option γ} (h : BM t0 e t) (hk : ∀ r, okg F' (k r t) (BM t0 e)) : okg F' (bd (f_M_constant t) k) (BM t0 e) := by
  obtain ⟨r, hr⟩ := mc_flt h
  exact okg.bE hr (hk r)
theorem mct_flt (h : BM t0 e t) (x : Int32) : f_M_count x t = some (0, t) := by
  rw [f_M_count, mu_flt h.ne]
  simp only [bd, lt1, f_M_count_18, mw_flt h.ne, bd1, if_neg h.nle, f_M_count_35, ite_self]
theorem km_cnt {x : Int32} {k : Int32 → SM → Option γ} (h : BM t0 e t) (hk : okg F' (k 0 t) (BM t0 e)) : okg F' (bd (f_M_count x t) k) (BM t0 e) := okg.bE (mct_flt h x) hk
end FLT
