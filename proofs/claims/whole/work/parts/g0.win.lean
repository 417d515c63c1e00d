-- running: the cells of a call on both sides, and what an instruction may touch
def Win (b la h : Nat) (s : St) (t : SM) : Prop :=
  (t.1 0 23 = nI (la + h)) ∧
  (∀ x, x < h → s 36 (b + x) = t.1 35 (la + x))
theorem Win.sp {b la h : Nat} {s : St} {t : SM} (q0_ : Win b la h s t) : t.1 0 23 = nI (la + h) := q0_.1
theorem Win.eq {b la h : Nat} {s : St} {t : SM} (q0_ : Win b la h s t) : ∀ x, x < h → s 36 (b + x) = t.1 35 (la + x) := q0_.2
def DR (nG me mx : Nat) (s : St) (t : SM) (p : Nat) : Prop :=
  (∀ a, a < 256 → s 34 a = t.1 29 a) ∧
  (∀ g, g < nG → s 38 g = t.1 30 g) ∧
  (s 5 0 = nI p) ∧
  (t.1 0 18 = nI p) ∧
  (p ≤ 4) ∧
  (me = 1 → p ≤ mx ∧ mx ≤ 4) ∧
  (s 5 1 = nI mx) ∧
  (me = 1 → (t.1 0 10 = 0 ∧ mx = 4) ∨ (t.1 0 10 = 1 ∧ ∃ q : Nat, q < 2 ^ 32 ∧ t.2 0 1 = lN q ∧ mx = min q 4))
theorem DR.mem {nG me mx : Nat} {s : St} {t : SM} {p : Nat} (q0_ : DR nG me mx s t p) : ∀ a, a < 256 → s 34 a = t.1 29 a := q0_.1
theorem DR.glb {nG me mx : Nat} {s : St} {t : SM} {p : Nat} (q0_ : DR nG me mx s t p) : ∀ g, g < nG → s 38 g = t.1 30 g := q0_.2.1
theorem DR.px {nG me mx : Nat} {s : St} {t : SM} {p : Nat} (q0_ : DR nG me mx s t p) : s 5 0 = nI p := q0_.2.2.1
theorem DR.pm {nG me mx : Nat} {s : St} {t : SM} {p : Nat} (q0_ : DR nG me mx s t p) : t.1 0 18 = nI p := q0_.2.2.2.1
theorem DR.p4 {nG me mx : Nat} {s : St} {t : SM} {p : Nat} (q0_ : DR nG me mx s t p) : p ≤ 4 := q0_.2.2.2.2.1
theorem DR.pmx {nG me mx : Nat} {s : St} {t : SM} {p : Nat} (q0_ : DR nG me mx s t p) : me = 1 → p ≤ mx ∧ mx ≤ 4 := q0_.2.2.2.2.2.1
theorem DR.xm {nG me mx : Nat} {s : St} {t : SM} {p : Nat} (q0_ : DR nG me mx s t p) : s 5 1 = nI mx := q0_.2.2.2.2.2.2.1
theorem DR.cap {nG me mx : Nat} {s : St} {t : SM} {p : Nat} (q0_ : DR nG me mx s t p) : me = 1 → (t.1 0 10 = 0 ∧ mx = 4) ∨ (t.1 0 10 = 1 ∧ ∃ q : Nat, q < 2 ^ 32 ∧ t.2 0 1 = lN q ∧ mx = min q 4) := q0_.2.2.2.2.2.2.2
def WX (b : Nat) (s s' : St) : Prop :=
  (∀ a, a ≠ 5 → a ≠ 34 → a ≠ 36 → a ≠ 38 → s' a = s a) ∧
  (∀ j, j < b ∨ b + 28 ≤ j → s' 36 j = s 36 j)
theorem WX.o {b : Nat} {s s' : St} (q0_ : WX b s s') : ∀ a, a ≠ 5 → a ≠ 34 → a ≠ 36 → a ≠ 38 → s' a = s a := q0_.1
theorem WX.l {b : Nat} {s s' : St} (q0_ : WX b s s') : ∀ j, j < b ∨ b + 28 ≤ j → s' 36 j = s 36 j := q0_.2
def WM (la c : Nat) (t t' : SM) : Prop :=
  (t'.2 = t.2) ∧
  (∀ a, a ≠ 0 → a ≠ 29 → a ≠ 30 → a ≠ 33 → a ≠ 35 → t'.1 a = t.1 a) ∧
  (∀ j, j ≠ 18 → j ≠ 23 → t'.1 0 j = t.1 0 j) ∧
  (∀ i, i ≠ c → t'.1 33 i = t.1 33 i) ∧
  (∀ i, i < la → t'.1 35 i = t.1 35 i)
theorem WM.l2 {la c : Nat} {t t' : SM} (q0_ : WM la c t t') : t'.2 = t.2 := q0_.1
theorem WM.o {la c : Nat} {t t' : SM} (q0_ : WM la c t t') : ∀ a, a ≠ 0 → a ≠ 29 → a ≠ 30 → a ≠ 33 → a ≠ 35 → t'.1 a = t.1 a := q0_.2.1
theorem WM.z {la c : Nat} {t t' : SM} (q0_ : WM la c t t') : ∀ j, j ≠ 18 → j ≠ 23 → t'.1 0 j = t.1 0 j := q0_.2.2.1
theorem WM.p {la c : Nat} {t t' : SM} (q0_ : WM la c t t') : ∀ i, i ≠ c → t'.1 33 i = t.1 33 i := q0_.2.2.2.1
theorem WM.k {la c : Nat} {t t' : SM} (q0_ : WM la c t t') : ∀ i, i < la → t'.1 35 i = t.1 35 i := q0_.2.2.2.2
theorem WX.refl (b : Nat) (s : St) : WX b s s := ⟨fun _ _ _ _ _ => rfl, fun _ _ => rfl⟩
theorem WM.refl (la c : Nat) (t : SM) : WM la c t t := ⟨rfl, fun _ _ _ _ _ _ => rfl, fun _ _ _ => rfl, fun _ _ => rfl, fun _ _ => rfl⟩
section WFR
variable {b la c : Nat} {s s' : St} {t t' : SM}
theorem WX.p36 {j : Nat} {v : Int32} (h1 : b ≤ j) (h2 : j < b + 28) (h : WX b s s') : WX b s (stp s' 36 j v) :=
  ⟨fun a a1 a2 a3 a4 => by rw [stp_ne _ _ _ a3]; exact h.o a a1 a2 a3 a4, fun i hi => by rw [stp_nj _ _ _ (by omega)]; exact h.l i hi⟩
theorem WX.pa {a j : Nat} {v : Int32} (ha : a = 5 ∨ a = 34 ∨ a = 38) (h : WX b s s') : WX b s (stp s' a j v) :=
  ⟨fun i a1 a2 a3 a4 => by rw [stp_ne _ _ _ (by omega)]; exact h.o i a1 a2 a3 a4, fun i hi => by rw [stp_ne _ _ _ (by omega)]; exact h.l i hi⟩
theorem WM.p0 {j : Nat} {v : Int32} (hj : j = 18 ∨ j = 23) (h : WM la c t t') : WM la c t (stI t' 0 j v) :=
  ⟨h.l2, fun a a1 a2 a3 a4 a5 => by rw [stI1, stp_ne _ _ _ a1]; exact h.o a a1 a2 a3 a4 a5, fun i i1 i2 => by rw [stI1, stp_nj _ _ _ (by omega)]; exact h.z i i1 i2, fun i hi => by rw [stI1, stp_ne _ _ _ (by decide)]; exact h.p i hi, fun i hi => by rw [stI1, stp_ne _ _ _ (by decide)]; exact h.k i hi⟩
theorem WM.pa {a j : Nat} {v : Int32} (ha : a = 29 ∨ a = 30) (h : WM la c t t') : WM la c t (stI t' a j v) :=
  ⟨h.l2, fun i a1 a2 a3 a4 a5 => by rw [stI1, stp_ne _ _ _ (by omega)]; exact h.o i a1 a2 a3 a4 a5, fun i i1 i2 => by rw [stI1, stp_ne _ _ _ (by omega)]; exact h.z i i1 i2, fun i hi => by rw [stI1, stp_ne _ _ _ (by omega)]; exact h.p i hi, fun i hi => by rw [stI1, stp_ne _ _ _ (by omega)]; exact h.k i hi⟩
theorem WM.p33 {v : Int32} (h : WM la c t t') : WM la c t (stI t' 33 c v) :=
  ⟨h.l2, fun i a1 a2 a3 a4 a5 => by rw [stI1, stp_ne _ _ _ a4]; exact h.o i a1 a2 a3 a4 a5, fun i i1 i2 => by rw [stI1, stp_ne _ _ _ (by decide)]; exact h.z i i1 i2, fun i hi => by rw [stI1, stp_nj _ _ _ hi]; exact h.p i hi, fun i hi => by rw [stI1, stp_ne _ _ _ (by decide)]; exact h.k i hi⟩
theorem WM.p35 {j : Nat} {v : Int32} (hj : la ≤ j) (h : WM la c t t') : WM la c t (stI t' 35 j v) :=
  ⟨h.l2, fun i a1 a2 a3 a4 a5 => by rw [stI1, stp_ne _ _ _ a5]; exact h.o i a1 a2 a3 a4 a5, fun i i1 i2 => by rw [stI1, stp_ne _ _ _ (by decide)]; exact h.z i i1 i2, fun i hi => by rw [stI1, stp_ne _ _ _ (by decide)]; exact h.p i hi, fun i hi => by rw [stI1, stp_nj _ _ _ (by omega)]; exact h.k i hi⟩
theorem Win.put {h h' j : Nat} {v : Int32} (W : Win b la h s t) (hj : ∀ x, x < h' → x ≠ j → x < h) (hx : s' 36 = upd (s 36) (b + j) v) (hm : t'.1 35 = upd (t.1 35) (la + j) v) (h23 : t'.1 0 23 = nI (la + h')) : Win b la h' s' t' := by
  refine ⟨h23, fun x q => ?_⟩
  rw [hx, hm]
  by_cases e : x = j
  · rw [e, pk_us, pk_us]
  · rw [pk_un (by omega), pk_un (by omega)]; exact W.eq x (hj x q e)
theorem Win.cut {h h' : Nat} (W : Win b la h s t) (hh : h' ≤ h) (hx : s' 36 = s 36) (hm : t'.1 35 = t.1 35) (h23 : t'.1 0 23 = nI (la + h')) : Win b la h' s' t' :=
  ⟨h23, fun x q => by rw [hx, hm]; exact W.eq x (by omega)⟩
end WFR
theorem pull_n {t : SM} {q : Nat} (h : t.1 0 23 = nI (q + 1)) (hq : q < 400) : f_M_pull t = some (t.1 35 q, stI t 0 23 (nI q)) := by
  rw [f_M_pull, h, nI_pred]
  simp only [lt1, stI1, stp_eq]
  rw [gi_n hq (by decide), nI_clamp (by omega), stp_ne _ _ _ (by decide)]
theorem give_n {t : SM} {q : Nat} {x : Int32} (h : t.1 0 23 = nI q) (hq : q < 400) : f_M_give x t = some (stI (stI t 35 q x) 0 23 (nI (q + 1))) := by
  rw [f_M_give, h, gi_n hq (by decide), nI_clamp (by omega)]
  simp only [lt1, stI1]
  rw [stp_ne _ _ _ (by decide), h, nI_1]
theorem nsub1 {n : Nat} (h : 1 ≤ n) : nI n - 1 = nI (n - 1) := pk_sub (b := 1) h
theorem nsub2 {n : Nat} (h : 2 ≤ n) : nI n - 2 = nI (n - 2) := pk_sub (b := 2) h
theorem nsub3 {n : Nat} (h : 3 ≤ n) : nI n - 3 = nI (n - 3) := pk_sub (b := 3) h
def WC (w : Cd) (k b la h c : Nat) (s : St) (t : SM) : Prop :=
  (Win b la h s t) ∧
  (t.1 0 22 = nI c) ∧
  (c < 9) ∧
  (t.1 34 c = nI la) ∧
  (b + 28 ≤ 224) ∧
  (la + 28 ≤ 300) ∧
  (h ≤ 28) ∧
  (k < 240) ∧
  (RwM w k t) ∧
  (kno (w.op k) = true) ∧
  (oko (w.op k) (w.a k) (w.b k)) ∧
  (tks (w.op k) ≤ h) ∧
  (h - tks (w.op k) + gvs (w.op k) ≤ 28)
theorem WC.win {w : Cd} {k b la h c : Nat} {s : St} {t : SM} (q0_ : WC w k b la h c s t) : Win b la h s t := q0_.1
theorem WC.cc {w : Cd} {k b la h c : Nat} {s : St} {t : SM} (q0_ : WC w k b la h c s t) : t.1 0 22 = nI c := q0_.2.1
theorem WC.c9 {w : Cd} {k b la h c : Nat} {s : St} {t : SM} (q0_ : WC w k b la h c s t) : c < 9 := q0_.2.2.1
theorem WC.tl {w : Cd} {k b la h c : Nat} {s : St} {t : SM} (q0_ : WC w k b la h c s t) : t.1 34 c = nI la := q0_.2.2.2.1
theorem WC.b24 {w : Cd} {k b la h c : Nat} {s : St} {t : SM} (q0_ : WC w k b la h c s t) : b + 28 ≤ 224 := q0_.2.2.2.2.1
theorem WC.l28 {w : Cd} {k b la h c : Nat} {s : St} {t : SM} (q0_ : WC w k b la h c s t) : la + 28 ≤ 300 := q0_.2.2.2.2.2.1
theorem WC.h28 {w : Cd} {k b la h c : Nat} {s : St} {t : SM} (q0_ : WC w k b la h c s t) : h ≤ 28 := q0_.2.2.2.2.2.2.1
theorem WC.k24 {w : Cd} {k b la h c : Nat} {s : St} {t : SM} (q0_ : WC w k b la h c s t) : k < 240 := q0_.2.2.2.2.2.2.2.1
theorem WC.row {w : Cd} {k b la h c : Nat} {s : St} {t : SM} (q0_ : WC w k b la h c s t) : RwM w k t := q0_.2.2.2.2.2.2.2.2.1
theorem WC.kn {w : Cd} {k b la h c : Nat} {s : St} {t : SM} (q0_ : WC w k b la h c s t) : kno (w.op k) = true := q0_.2.2.2.2.2.2.2.2.2.1
theorem WC.ok {w : Cd} {k b la h c : Nat} {s : St} {t : SM} (q0_ : WC w k b la h c s t) : oko (w.op k) (w.a k) (w.b k) := q0_.2.2.2.2.2.2.2.2.2.2.1
theorem WC.tk {w : Cd} {k b la h c : Nat} {s : St} {t : SM} (q0_ : WC w k b la h c s t) : tks (w.op k) ≤ h := q0_.2.2.2.2.2.2.2.2.2.2.2.1
theorem WC.up {w : Cd} {k b la h c : Nat} {s : St} {t : SM} (q0_ : WC w k b la h c s t) : h - tks (w.op k) + gvs (w.op k) ≤ 28 := q0_.2.2.2.2.2.2.2.2.2.2.2.2
/-- both sides do an instruction that is not of control -/
def Wk (w : Cd) (k b la h c nG me mx : Nat) (s : St) (t : SM) : Prop := ∃ r s' t', f_Store_work (nI (w.op k)) (xF (w.op k) (w.a k) (w.b k)) (nI b) (nI (b + h)) s = some (r, s') ∧ f_M_perform (nI k) t = some (r, t') ∧ (r = 0 ∨ r = 3 ∨ r = 4 ∨ r = 5) ∧ WX b s s' ∧ WM la c t t' ∧ (∃ p, DR nG me mx s' t' p) ∧ (r = 0 → Win b la (h - tks (w.op k) + gvs (w.op k)) s' t' ∧ t'.1 33 c = nI (k + 1))
theorem DR.cg {nG me mx p : Nat} {s s' : St} {t t' : SM} (D : DR nG me mx s t p) (h34 : s' 34 = s 34) (h38 : s' 38 = s 38) (h5 : s' 5 = s 5) (m29 : t'.1 29 = t.1 29) (m30 : t'.1 30 = t.1 30) (m18 : t'.1 0 18 = t.1 0 18) (m10 : t'.1 0 10 = t.1 0 10) (l : t'.2 = t.2) : DR nG me mx s' t' p :=
  ⟨by rw [h34, m29]; exact D.mem, by rw [h38, m30]; exact D.glb, by rw [h5]; exact D.px, by rw [m18]; exact D.pm, D.p4, D.pmx, by rw [h5]; exact D.xm, by rw [m10, l]; exact D.cap⟩
theorem na_x : ∀ o, o < 256 → kno o = true → 16 < o → f_Op_isNumeric (nI o) = some (if 65 < o then 1 else 0) ∧ f_Op_isAccess (nI o) = some (if 39 < o ∧ o < 60 then 1 else 0) := by decide +kernel
section WKM
variable {w : Cd} {k b la h c : Nat} {s : St} {t : SM}
theorem wk_move (H : WC w k b la h c s t) (h16 : 16 < w.op k) (h1 : w.op k ≤ 65) (h2 : ¬ (39 < w.op k ∧ w.op k < 60)) (x2 x3 x4 : Int32) : f_Store_work (nI (w.op k)) x2 x3 x4 s = bd1 (f_Store_move (nI (w.op k)) x2 x3 x4 s) fun s3 => some (0, s3) := by
  obtain ⟨q1, q2⟩ := na_x _ (kno_lt H.kn) H.kn h16
  rw [f_Store_work, q1, q2, bd1_some, if_neg (show ¬ 65 < w.op k by omega), if_pos rfl, bd1_some, if_neg h2, if_pos rfl]
theorem pf_37 (H : WC w k b la h c s t) (h16 : 16 < w.op k) (h2 : ¬ (39 < w.op k ∧ w.op k < 65)) : f_M_perform (nI k) t = f_M_perform_81 (nI k) (nI (w.op k)) (nI la) (if 31 < w.op k ∧ w.op k < 35 then nI (w.a k) else 0) (stI t 33 c (nI (k + 1))) := by
  have hk := H.k24
  have ho := kno_lt H.kn
  have hc := H.c9
  rw [f_M_perform, gi_n (show k < 250 by omega) (by decide), nI_clamp (by omega), H.row.c0]
  simp only [lt1]
  have e1 : f_M_perform_37 (nI k) (nI (w.op k)) t = f_M_perform_81 (nI k) (nI (w.op k)) (nI la) (if 31 < w.op k ∧ w.op k < 35 then nI (w.a k) else 0) (stI t 33 c (nI (k + 1))) := by
    rw [f_M_perform_37]
    simp only [lt1]
    rw [H.cc, gi_n hc (by decide), nI_clamp (by omega), stI1, stp_ne _ _ _ (by decide), H.cc, gi_n hc (by decide), nI_clamp (by omega), stp_ne _ _ _ (by decide), H.tl, nI_1]
    by_cases q : 31 < w.op k ∧ w.op k < 35
    · rw [if_pos q, if_neg (show ¬ nI (w.op k) ≤ 31 from nI_ge (a := 31) (by omega) (by omega)), if_neg (show ¬ 35 ≤ nI (w.op k) from nI_ge (b := 35) (by omega) (by omega)), gi_n (show k < 250 by omega) (by decide), nI_clamp (by omega), stI2, H.row.c1, mF, if_neg (by omega), lN_i]
    · rw [if_neg q, f_M_perform_80]
      by_cases q2 : w.op k ≤ 31
      · rw [if_pos (show nI (w.op k) ≤ 31 from nI_le (b := 31) q2 (by decide))]
      · rw [if_neg (show ¬ nI (w.op k) ≤ 31 from nI_ge (a := 31) (by omega) (by omega)), if_pos (show 35 ≤ nI (w.op k) from nI_le (a := 35) (by omega) (by omega))]
  rw [if_pos (show 17 ≤ nI (w.op k) from nI_le (a := 17) (by omega) (by omega)), e1]
  by_cases q2 : w.op k ≤ 39
  · rw [if_pos (show nI (w.op k) ≤ 39 from nI_le (b := 39) q2 (by decide))]
  · rw [if_neg (show ¬ nI (w.op k) ≤ 39 from nI_ge (a := 39) (by omega) (by omega)), if_pos (show 65 ≤ nI (w.op k) from nI_le (a := 65) (by omega) (by omega))]
end WKM
