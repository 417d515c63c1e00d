-- validation: what stays, the fault's way, the smallest steps
def VXf (s0 s : St) : Prop := ∀ a, a ≠ 3 → a ≠ 21 → a ≠ 28 → s a = s0 a
def VMf (t0 t : SM) : Prop :=
  (∀ a, a ≠ 0 → a ≠ 20 → a ≠ 26 → a ≠ 27 → a ≠ 28 → t.1 a = t0.1 a) ∧
  (t.2 = t0.2) ∧
  (∀ j, j ≠ 5 → j ≠ 16 → j ≠ 17 → t.1 0 j = t0.1 0 j)
theorem VMf.c {t0 t : SM} (h : VMf t0 t) : ∀ a, a ≠ 0 → a ≠ 20 → a ≠ 26 → a ≠ 27 → a ≠ 28 → t.1 a = t0.1 a := h.1
theorem VMf.l {t0 t : SM} (h : VMf t0 t) : t.2 = t0.2 := h.2.1
theorem VMf.z {t0 t : SM} (h : VMf t0 t) : ∀ j, j ≠ 5 → j ≠ 16 → j ≠ 17 → t.1 0 j = t0.1 0 j := h.2.2
theorem VXf.refl (s : St) : VXf s s := fun _ _ _ _ => rfl
theorem VMf.refl (t : SM) : VMf t t := ⟨fun _ _ _ _ _ _ => rfl, rfl, fun _ _ _ _ => rfl⟩
theorem VXf.sa {s0 s : St} {k : Nat} {f : Nat → Int32} (hk : k = 3 ∨ k = 21 ∨ k = 28) (h : VXf s0 s) : VXf s0 (sta s k f) := fun a h1 h2 h3 => by
  rw [sta_ne _ _ (by omega)]; exact h a h1 h2 h3
theorem VXf.p {s0 s : St} {k j : Nat} {v : Int32} (hk : k = 3 ∨ k = 21 ∨ k = 28) (h : VXf s0 s) : VXf s0 (stp s k j v) := h.sa hk
theorem VXf.t {s0 s : St} {k a b : Nat} {i c v : Int32} (hk : k = 3 ∨ k = 21 ∨ k = 28) (h : VXf s0 s) : VXf s0 (tSet s k a b i c v) := h.sa hk
theorem VMf.p {t0 t : SM} {k j : Nat} {v : Int32} (hk : k = 20 ∨ k = 26 ∨ k = 27 ∨ k = 28) (h : VMf t0 t) : VMf t0 (stI t k j v) := by
  refine ⟨fun a h0 h1 h2 h3 h4 => ?_, h.l, fun i h1 h2 h3 => ?_⟩
  · rw [stI1, stp_ne _ _ _ (by omega)]; exact h.c a h0 h1 h2 h3 h4
  · rw [stI1, stp_ne _ _ _ (by omega)]; exact h.z i h1 h2 h3
theorem VMf.p0 {t0 t : SM} {j : Nat} {v : Int32} (hj : j = 5 ∨ j = 16 ∨ j = 17) (h : VMf t0 t) : VMf t0 (stI t 0 j v) := by
  refine ⟨fun a h0 h1 h2 h3 h4 => ?_, h.l, fun i h1 h2 h3 => ?_⟩
  · rw [stI1, stp_ne _ _ _ h0]; exact h.c a h0 h1 h2 h3 h4
  · rw [stI1, stp_nj _ _ _ (by omega)]; exact h.z i h1 h2 h3
theorem VXf.trans {s0 s s' : St} (h : VXf s0 s) (h2 : VXf s s') : VXf s0 s' := fun a h3 h4 h5 => (h2 a h3 h4 h5).trans (h a h3 h4 h5)
theorem VMf.trans {t0 t t' : SM} (h : VMf t0 t) (h2 : VMf t t') : VMf t0 t' := ⟨fun a q0 q1 q2 q3 q4 => (h2.c a q0 q1 q2 q3 q4).trans (h.c a q0 q1 q2 q3 q4), h2.l.trans h.l, fun j q1 q2 q3 => (h2.z j q1 q2 q3).trans (h.z j q1 q2 q3)⟩
def VX (s0 : St) (e : Nat) (s : St) : Prop := s 3 3 = nI e ∧ 0 < e ∧ e < 10 ∧ VXf s0 s
/-- a fault is there, and so many blocks -/
def VM (t0 : SM) (e : Nat) (t : SM) : Prop := t.1 0 5 = nI e ∧ 0 < e ∧ e < 10 ∧ VMf t0 t
def VMd (t0 : SM) (e d : Nat) (t : SM) : Prop := VM t0 e t ∧ t.1 0 16 = nI d ∧ d < 16 ∧ (∃ b : Nat, t.1 28 d = nI b ∧ b ≤ 1)
theorem VX.ne {s0 s : St} {e : Nat} (h : VX s0 e s) : ¬ s 3 3 = 0 := by rw [h.1]; exact nI_ne0 h.2.1 (by have := h.2.2.1; omega)
theorem VM.ne {t0 t : SM} {e : Nat} (h : VM t0 e t) : ¬ t.1 0 5 = 0 := by rw [h.1]; exact nI_ne0 h.2.1 (by have := h.2.2.1; omega)
theorem VM.nle {t0 t : SM} {e : Nat} (h : VM t0 e t) : ¬ t.1 0 5 ≤ 0 := by rw [h.1]; exact nI_nle h.2.1 (by have := h.2.2.1; omega)
theorem VX.t {s0 s : St} {e k a b : Nat} {i c v : Int32} (hk : k = 21 ∨ k = 28) (h : VX s0 e s) : VX s0 e (tSet s k a b i c v) := ⟨by rw [tSet, sta_ne _ _ (by omega)]; exact h.1, h.2.1, h.2.2.1, h.2.2.2.t (by omega)⟩
theorem VX.p {s0 s : St} {e j : Nat} {v : Int32} (hj : j ≠ 3) (h : VX s0 e s) : VX s0 e (stp s 3 j v) := ⟨by rw [stp_nj _ _ _ (Ne.symm hj)]; exact h.1, h.2.1, h.2.2.1, h.2.2.2.p (by omega)⟩
theorem VM.p {t0 t : SM} {e k j : Nat} {v : Int32} (hk : k = 20 ∨ k = 26 ∨ k = 27 ∨ k = 28) (h : VM t0 e t) : VM t0 e (stI t k j v) := ⟨by rw [stI1, stp_ne _ _ _ (by omega)]; exact h.1, h.2.1, h.2.2.1, h.2.2.2.p hk⟩
theorem VM.p0 {t0 t : SM} {e j : Nat} {v : Int32} (hj : j = 16 ∨ j = 17) (h : VM t0 e t) : VM t0 e (stI t 0 j v) := ⟨by rw [stI1, stp_nj _ _ _ (by omega)]; exact h.1, h.2.1, h.2.2.1, h.2.2.2.p0 (by omega)⟩
theorem VMd.p17 {t0 t : SM} {e d : Nat} {v : Int32} (h : VMd t0 e d t) : VMd t0 e d (stI t 0 17 v) := ⟨h.1.p0 (by omega), by simp (disch := first | decide | omega) only [stp_eq, stp_ne, stp_nj, stI1, stI2, stL1, stL_eq, stL_ne, stL_nj, gi_n, nI_clamp ]; exact h.2.1, h.2.2.1, by simp (disch := first | decide | omega) only [stp_eq, stp_ne, stp_nj, stI1, stI2, stL1, stL_eq, stL_ne, stL_nj, gi_n, nI_clamp ]; exact h.2.2.2⟩
theorem vr_0 {s : St} (h : s 3 3 = 0) (w : Int32) : f_Val_refuse w s = some (stp s 3 3 w) := by
  rw [f_Val_refuse, if_pos h, f_Val_refuse_16, lt1]
theorem vr_flt {s : St} (h : ¬ s 3 3 = 0) (w : Int32) : f_Val_refuse w s = some s := by
  rw [f_Val_refuse, if_neg h, f_Val_refuse_16, lt1, stp_self]
section VK
variable {γ : Type} {F : St → Option γ} {F' : SM → Option γ} {s0 s : St} {t0 t : SM} {e d : Nat}
theorem vx_ref {w : Int32} {k : St → Option γ} (h : VX s0 e s) (hk : okg F (k s) (VX s0 e)) : okg F (bd1 (f_Val_refuse w s) k) (VX s0 e) := okg.b1E (vr_flt h.ne w) hk
theorem vx_inn {x : Int32} {k : Int32 → Option γ} (hk : ∀ r, okg F (k r) (VX s0 e)) : okg F (bd1 (f_Val_inner s x) k) (VX s0 e) := by
  rw [f_Val_inner]
  simp only [lt1, bd1_some]
  exact hk _
theorem vx_take {x : Int32} {k : St → Option γ} (h : VX s0 e s) (hk : ∀ s, VX s0 e s → okg F (k s) (VX s0 e)) : okg F (bd1 (f_Val_take x s) k) (VX s0 e) := by
  rw [f_Val_take, f_Val_inner]
  simp only [lt1, bd1_some, f_Val_take_40, bd1_ite, bd1_bd1, f_Val_inner, vr_flt h.ne]
  repeat' split
  all_goals exact hk _ (h.p (by decide))
theorem vx_give {x : Int32} {k : St → Option γ} (h : VX s0 e s) (hk : ∀ s, VX s0 e s → okg F (k s) (VX s0 e)) : okg F (bd1 (f_Val_give x s) k) (VX s0 e) := by
  have h2 : VX s0 e (stp s 3 1 (s 3 1 + x)) := h.p (by decide)
  rw [f_Val_give]
  simp only [lt1, bd1_some, f_Val_give_24, bd1_ite, bd1_bd1, vr_flt h2.ne]
  repeat' split
  all_goals exact hk _ h2
theorem vx_lead {k : St → Option γ} (h : VX s0 e s) (hk : ∀ s, VX s0 e s → okg F (k s) (VX s0 e)) : okg F (bd1 (f_Val_leadAway s) k) (VX s0 e) := by
  rw [f_Val_leadAway, f_Val_inner]
  simp only [lt1, bd1_some]
  exact hk _ ((h.p (by decide)).t (by omega))
theorem vx_alive {k : Int32 → Option γ} (hk : ∀ r, okg F (k r) (VX s0 e)) : okg F (bd1 (f_Val_isAlive s) k) (VX s0 e) := by
  rw [f_Val_isAlive, f_Val_inner]
  simp only [lt1, bd1_some, f_Val_inner, f_Val_isAlive_21, f_Val_isAlive_20, bd1_ite]
  repeat' split
  all_goals exact hk _
theorem vx_open {x y z : Int32} {k : St → Option γ} (h : VX s0 e s) (hk : ∀ s, VX s0 e s → okg F (k s) (VX s0 e)) : okg F (bd1 (f_Val_openBlock x y z s) k) (VX s0 e) := by
  have key : ∀ w, okg F (bd1 (f_Val_openBlock_15 x y z w s) k) (VX s0 e) := by
    intro w
    rw [f_Val_openBlock_15]
    simp only [lt1, bd1_some]
    exact hk _ ((((((((h.t (by omega)).t (by omega)).t (by omega)).t (by omega)).t (by omega)).t (by omega))).p (by decide))
  rw [f_Val_openBlock]
  simp only [bd1_ite, bd1_bd1]
  split
  · exact key _
  · exact vx_alive (fun r => key r)
theorem vx_abv {a b : Int32} {k : Int32 → Option γ} (h : ∀ r, okg F (k r) (VX s0 e)) : okg F (bd1 (f_X_isAbove a b) k) (VX s0 e) := by
  rcases ab_01 a b with q | q
  · exact okg.b1E q (h 0)
  · exact okg.b1E q (h 1)
theorem vm_will {x w : Int32} {k : SM → Option γ} {Q : SM → Prop} (h : VM t0 e t) (hk : okg F' (k t) Q) : okg F' (bd1 (f_M_will x w t) k) Q := okg.b1E (mw_flt h.ne x w) hk
/-- pop, when a fault is there -/
theorem pop_flt (h : VMd t0 e d t) : ∀ n, n < 100 → ∃ v, f_M_pop (nI n) t = some (stI t 0 17 v) := by
  intro n hn
  have hL : ∀ m i N t', i + m = n → m < N → (∃ v, t' = stI t 0 17 v) → ∃ v, f_M_pop_2 N (nI n) (nI i) t' = some (stI t 0 17 v) := by
    intro m
    induction m with
    | zero =>
      intro i N t' hi hN ht
      obtain ⟨N, rfl⟩ : ∃ q, N = q + 1 := ⟨N - 1, by omega⟩
      obtain ⟨v, rfl⟩ := ht
      exact ⟨v, by rw [f_M_pop_2, if_pos (nI_le (by omega) (by omega))]⟩
    | succ m ih =>
      intro i N t' hi hN ht
      obtain ⟨N, rfl⟩ : ∃ q, N = q + 1 := ⟨N - 1, by omega⟩
      obtain ⟨v, rfl⟩ := ht
      have h' := h.p17 (v := v)
      have hd := h'.2.2.1
      rw [f_M_pop_2, if_neg (nI_ge (by omega) (by omega)), h'.2.1, gi_n hd (by decide), gi_n hd (by decide)]
      simp only [lt1, f_M_pop_50, mw_flt h'.1.ne, bd1_some, nI_1]
      split
      · exact ih (i + 1) N _ (by omega) (by omega) ⟨v, rfl⟩
      · exact ih (i + 1) N _ (by omega) (by omega) ⟨_, by rw [stI_stI]⟩
  rw [f_M_pop]
  have := hL n 0 FU t (by omega) (by unfold FU; omega) ⟨t.1 0 17, (stI_self t 0 17).symm⟩
  exact this
theorem vm_pop {n : Nat} {k : SM → Option γ} {Q : SM → Prop} (h : VMd t0 e d t) (hn : n < 100) (hk : ∀ t, VMd t0 e d t → okg F' (k t) Q) : okg F' (bd1 (f_M_pop (nI n) t) k) Q := by
  obtain ⟨v, hv⟩ := pop_flt h n hn
  exact okg.b1E hv (hk _ h.p17)
theorem vm_push {x : Int32} {k : SM → Option γ} {Q : SM → Prop} (h : VM t0 e t) (hk : okg F' (k (stI t 0 17 (t.1 0 17 + x))) Q) : okg F' (bd1 (f_M_push x t) k) Q := by
  have h2 : VM t0 e (stI t 0 17 (t.1 0 17 + x)) := h.p0 (by omega)
  rw [f_M_push]
  simp only [lt1, f_M_push_25, mw_flt h2.ne, bd1_some, ite_self]
  exact hk
theorem vm_kill {k : SM → Option γ} {Q : SM → Prop} (h : VMd t0 e d t) (hk : ∀ t, VM t0 e t → okg F' (k t) Q) : okg F' (bd1 (f_M_kill t) k) Q := by
  have hd := h.2.2.1
  rw [f_M_kill, h.2.1, gi_n hd (by decide)]
  simp only [lt1, nI_clamp (show d < 2 ^ 31 by omega), stI1, stp_nj t.1 0 (t.1 27 d) (show (16 : Nat) ≠ 17 by decide), h.2.1, gi_n hd (show 16 < 2 ^ 31 by decide), bz1, bd1_some]
  exact hk _ ((h.1.p0 (by omega)).p (by omega))
end VK
