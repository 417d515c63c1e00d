-- validation: take and pop, give and push, leadAway and kill
def Tp (d b dd h : Nat) (s : St) (t : SM) : Prop :=
  (s 3 0 = nI (d + 1)) ∧
  (s 3 1 = nI h) ∧
  (s 3 3 = 0) ∧
  (s 28 (d * 6 + 0) = nI b) ∧
  (s 28 (d * 6 + 4) = nI dd) ∧
  (t.1 0 5 = 0) ∧
  (t.1 0 16 = nI d) ∧
  (t.1 0 17 = nI h) ∧
  (t.1 27 d = nI b) ∧
  (t.1 28 d = nI dd) ∧
  (d ≤ 10) ∧
  (b ≤ h) ∧
  (h ≤ 40) ∧
  (dd ≤ 1)
theorem Tp.x0 {d b dd h : Nat} {s : St} {t : SM} (q0_ : Tp d b dd h s t) : s 3 0 = nI (d + 1) := q0_.1
theorem Tp.x1 {d b dd h : Nat} {s : St} {t : SM} (q0_ : Tp d b dd h s t) : s 3 1 = nI h := q0_.2.1
theorem Tp.x3 {d b dd h : Nat} {s : St} {t : SM} (q0_ : Tp d b dd h s t) : s 3 3 = 0 := q0_.2.2.1
theorem Tp.xb {d b dd h : Nat} {s : St} {t : SM} (q0_ : Tp d b dd h s t) : s 28 (d * 6 + 0) = nI b := q0_.2.2.2.1
theorem Tp.xd {d b dd h : Nat} {s : St} {t : SM} (q0_ : Tp d b dd h s t) : s 28 (d * 6 + 4) = nI dd := q0_.2.2.2.2.1
theorem Tp.m5 {d b dd h : Nat} {s : St} {t : SM} (q0_ : Tp d b dd h s t) : t.1 0 5 = 0 := q0_.2.2.2.2.2.1
theorem Tp.m16 {d b dd h : Nat} {s : St} {t : SM} (q0_ : Tp d b dd h s t) : t.1 0 16 = nI d := q0_.2.2.2.2.2.2.1
theorem Tp.m17 {d b dd h : Nat} {s : St} {t : SM} (q0_ : Tp d b dd h s t) : t.1 0 17 = nI h := q0_.2.2.2.2.2.2.2.1
theorem Tp.mb {d b dd h : Nat} {s : St} {t : SM} (q0_ : Tp d b dd h s t) : t.1 27 d = nI b := q0_.2.2.2.2.2.2.2.2.1
theorem Tp.md {d b dd h : Nat} {s : St} {t : SM} (q0_ : Tp d b dd h s t) : t.1 28 d = nI dd := q0_.2.2.2.2.2.2.2.2.2.1
theorem Tp.d10 {d b dd h : Nat} {s : St} {t : SM} (q0_ : Tp d b dd h s t) : d ≤ 10 := q0_.2.2.2.2.2.2.2.2.2.2.1
theorem Tp.bh {d b dd h : Nat} {s : St} {t : SM} (q0_ : Tp d b dd h s t) : b ≤ h := q0_.2.2.2.2.2.2.2.2.2.2.2.1
theorem Tp.h40 {d b dd h : Nat} {s : St} {t : SM} (q0_ : Tp d b dd h s t) : h ≤ 40 := q0_.2.2.2.2.2.2.2.2.2.2.2.2.1
theorem Tp.dd1 {d b dd h : Nat} {s : St} {t : SM} (q0_ : Tp d b dd h s t) : dd ≤ 1 := q0_.2.2.2.2.2.2.2.2.2.2.2.2.2
theorem inner_n {s : St} {d c : Nat} (h0 : s 3 0 = nI (d + 1)) (hd : d ≤ 10) (hc : c < 6) : f_Val_inner s (nI c) = some (s 28 (d * 6 + c)) := by
  rw [f_Val_inner, h0, nI_pred]
  simp only [lt1]
  rw [tGet_n (show d < 11 by omega) hc (by decide) (by decide) (by decide)]
theorem in_0 {s : St} {d : Nat} (h0 : s 3 0 = nI (d + 1)) (hd : d ≤ 10) : f_Val_inner s 0 = some (s 28 (d * 6 + 0)) := inner_n (c := 0) h0 hd (by decide)
theorem in_1 {s : St} {d : Nat} (h0 : s 3 0 = nI (d + 1)) (hd : d ≤ 10) : f_Val_inner s 1 = some (s 28 (d * 6 + 1)) := inner_n (c := 1) h0 hd (by decide)
theorem in_2 {s : St} {d : Nat} (h0 : s 3 0 = nI (d + 1)) (hd : d ≤ 10) : f_Val_inner s 2 = some (s 28 (d * 6 + 2)) := inner_n (c := 2) h0 hd (by decide)
theorem in_3 {s : St} {d : Nat} (h0 : s 3 0 = nI (d + 1)) (hd : d ≤ 10) : f_Val_inner s 3 = some (s 28 (d * 6 + 3)) := inner_n (c := 3) h0 hd (by decide)
theorem in_4 {s : St} {d : Nat} (h0 : s 3 0 = nI (d + 1)) (hd : d ≤ 10) : f_Val_inner s 4 = some (s 28 (d * 6 + 4)) := inner_n (c := 4) h0 hd (by decide)
theorem in_5 {s : St} {d : Nat} (h0 : s 3 0 = nI (d + 1)) (hd : d ≤ 10) : f_Val_inner s 5 = some (s 28 (d * 6 + 5)) := inner_n (c := 5) h0 hd (by decide)
theorem Tp.h' {d b dd h : Nat} {s : St} {t : SM} (T : Tp d b dd h s t) {h2 : Nat} (h1 : b ≤ h2) (h3 : h2 ≤ 40) : Tp d b dd h2 (stp s 3 1 (nI h2)) (stI t 0 17 (nI h2)) :=
  ⟨by simp (disch := first | decide | omega) only [stp_eq, stp_ne, stp_nj, stI1, stI2, stL1, stL_eq, stL_ne, stL_nj, gi_n, nI_clamp ]; exact T.x0, by simp (disch := first | decide | omega) only [stp_eq, stp_ne, stp_nj, stI1, stI2, stL1, stL_eq, stL_ne, stL_nj, gi_n, nI_clamp ], by simp (disch := first | decide | omega) only [stp_eq, stp_ne, stp_nj, stI1, stI2, stL1, stL_eq, stL_ne, stL_nj, gi_n, nI_clamp ]; exact T.x3, by simp (disch := first | decide | omega) only [stp_eq, stp_ne, stp_nj, stI1, stI2, stL1, stL_eq, stL_ne, stL_nj, gi_n, nI_clamp ]; exact T.xb, by simp (disch := first | decide | omega) only [stp_eq, stp_ne, stp_nj, stI1, stI2, stL1, stL_eq, stL_ne, stL_nj, gi_n, nI_clamp ]; exact T.xd, by simp (disch := first | decide | omega) only [stp_eq, stp_ne, stp_nj, stI1, stI2, stL1, stL_eq, stL_ne, stL_nj, gi_n, nI_clamp ]; exact T.m5, by simp (disch := first | decide | omega) only [stp_eq, stp_ne, stp_nj, stI1, stI2, stL1, stL_eq, stL_ne, stL_nj, gi_n, nI_clamp ]; exact T.m16, by simp (disch := first | decide | omega) only [stp_eq, stp_ne, stp_nj, stI1, stI2, stL1, stL_eq, stL_ne, stL_nj, gi_n, nI_clamp ], by simp (disch := first | decide | omega) only [stp_eq, stp_ne, stp_nj, stI1, stI2, stL1, stL_eq, stL_ne, stL_nj, gi_n, nI_clamp ]; exact T.mb, by simp (disch := first | decide | omega) only [stp_eq, stp_ne, stp_nj, stI1, stI2, stL1, stL_eq, stL_ne, stL_nj, gi_n, nI_clamp ]; exact T.md, T.d10, h1, h3, T.dd1⟩
/-- pops that go on while there are operands -/
theorem pop_go {d b dd h : Nat} {s : St} {t : SM} (T : Tp d b dd h s t) {n : Nat} (hn : n < 100) : ∀ m i N h2, i + m = n → m < N → b ≤ h2 → h2 ≤ 40 → (dd = 1 ∨ m ≤ h2 - b) → f_M_pop_2 N (nI n) (nI i) (stI t 0 17 (nI h2)) = some (stI t 0 17 (nI (if m ≤ h2 - b then h2 - m else b))) := by
  intro m
  induction m with
  | zero =>
    intro i N h2 hi hN hb hh _
    obtain ⟨N, rfl⟩ : ∃ q, N = q + 1 := ⟨N - 1, by omega⟩
    rw [f_M_pop_2, if_pos (nI_le (by omega) (by omega)), if_pos (Nat.zero_le _), Nat.sub_zero]
  | succ m ih =>
    intro i N h2 hi hN hb hh hdd
    obtain ⟨N, rfl⟩ : ∃ q, N = q + 1 := ⟨N - 1, by omega⟩
    have T' := T.h' hb hh
    have hd := T.d10
    rw [f_M_pop_2, if_neg (nI_ge (by omega) (by omega)), T'.m16, gi_n (show d < 16 by omega) (by decide), gi_n (show d < 16 by omega) (by decide)]
    simp only [lt1, f_M_pop_50, nI_clamp (show d < 2 ^ 31 by omega), nI_1, T'.mb, T'.md, T'.m17]
    by_cases hhb : h2 ≤ b
    · have hb2 : h2 = b := by omega
      have hd1 : dd = 1 := by omega
      rw [if_pos (nI_le hhb (by omega)), hd1, mw_t (show ¬ nI 1 = 0 by decide), bd1_some, ih (i + 1) N h2 (by omega) (by omega) hb hh (Or.inl hd1)]
      refine congrArg some (congrArg (fun x => stI t 0 17 (nI x)) ?_)
      by_cases hm : m = 0
      · rw [if_pos (by omega), if_neg (by omega)]; omega
      · rw [if_neg (by omega), if_neg (by omega)]
    · obtain ⟨g, rfl⟩ : ∃ g, h2 = g + 1 := ⟨h2 - 1, by omega⟩
      rw [if_neg (nI_ge (by omega) (by omega)), nI_pred, stI_stI, ih (i + 1) N g (by omega) (by omega) (by omega) (by omega) (by omega)]
      refine congrArg some (congrArg (fun x => stI t 0 17 (nI x)) ?_)
      by_cases hm : m ≤ g - b
      · rw [if_pos hm, if_pos (by omega)]; omega
      · rw [if_neg hm, if_neg (by omega)]
/-- .. and when there are not enough -/
theorem pop_no {d b dd h : Nat} {s : St} {t : SM} (T : Tp d b dd h s t) {n : Nat} (hn : n < 100) (hdd : dd = 0) : ∀ m i N h2, i + m = n → m < N → b ≤ h2 → h2 ≤ 40 → ¬ m ≤ h2 - b → ∃ v, f_M_pop_2 N (nI n) (nI i) (stI t 0 17 (nI h2)) = some (stI (stI t 0 17 v) 0 5 3) := by
  intro m
  induction m with
  | zero => intro i N h2 hi hN hb hh h0; omega
  | succ m ih =>
    intro i N h2 hi hN hb hh h0
    obtain ⟨N, rfl⟩ : ∃ q, N = q + 1 := ⟨N - 1, by omega⟩
    have T' := T.h' hb hh
    have hd := T.d10
    rw [f_M_pop_2, if_neg (nI_ge (by omega) (by omega)), T'.m16, gi_n (show d < 16 by omega) (by decide), gi_n (show d < 16 by omega) (by decide)]
    simp only [lt1, f_M_pop_50, nI_clamp (show d < 2 ^ 31 by omega), nI_1, T'.mb, T'.md, T'.m17]
    by_cases hhb : h2 ≤ b
    · rw [if_pos (nI_le hhb (by omega)), hdd, show nI 0 = 0 from rfl, mw_f T'.m5, bd1_some]
      -- a fault is there: the rest changes the height alone
      have B : VMd t 3 d (stI (stI t 0 17 (nI h2)) 0 5 3) := ⟨⟨by simp (disch := first | decide | omega) only [stp_eq, stp_ne, stp_nj, stI1, stI2, stL1, stL_eq, stL_ne, stL_nj, gi_n, nI_clamp ]; rfl, by decide, by decide, ((VMf.refl t).p0 (by omega)).p0 (by omega)⟩, by simp (disch := first | decide | omega) only [stp_eq, stp_ne, stp_nj, stI1, stI2, stL1, stL_eq, stL_ne, stL_nj, gi_n, nI_clamp ]; exact T.m16, by omega, 0, by simp (disch := first | decide | omega) only [stp_eq, stp_ne, stp_nj, stI1, stI2, stL1, stL_eq, stL_ne, stL_nj, gi_n, nI_clamp ]; rw [T.md, hdd], by decide⟩
      have hL : ∀ m i N v, i + m = n → m < N → ∃ v', f_M_pop_2 N (nI n) (nI i) (stI (stI t 0 17 v) 0 5 3) = some (stI (stI t 0 17 v') 0 5 3) := by
        intro m
        induction m with
        | zero =>
          intro i N v hi hN
          obtain ⟨N, rfl⟩ : ∃ q, N = q + 1 := ⟨N - 1, by omega⟩
          exact ⟨v, by rw [f_M_pop_2, if_pos (nI_le (by omega) (by omega))]⟩
        | succ m ih2 =>
          intro i N v hi hN
          obtain ⟨N, rfl⟩ : ∃ q, N = q + 1 := ⟨N - 1, by omega⟩
          have e16 : (stI (stI t 0 17 v) 0 5 3).1 0 16 = nI d := by simp (disch := first | decide | omega) only [stp_eq, stp_ne, stp_nj, stI1, stI2, stL1, stL_eq, stL_ne, stL_nj, gi_n, nI_clamp ]; exact T.m16
          have e5 : ¬ (stI (stI t 0 17 v) 0 5 3).1 0 5 = 0 := by simp (disch := first | decide | omega) only [stp_eq, stp_ne, stp_nj, stI1, stI2, stL1, stL_eq, stL_ne, stL_nj, gi_n, nI_clamp ]; decide
          have ecm : ∀ u : Int32, stI (stI (stI t 0 17 v) 0 5 3) 0 17 u = stI (stI t 0 17 u) 0 5 3 := by
            intro u
            simp only [stI]
            rw [stp_cm (by decide), stp_stp]
          rw [f_M_pop_2, if_neg (nI_ge (by omega) (by omega)), e16, gi_n (show d < 16 by omega) (by decide), gi_n (show d < 16 by omega) (by decide)]
          simp only [lt1, f_M_pop_50, nI_1, mw_flt e5, bd1_some, ecm]
          split
          · exact ih2 (i + 1) N v (by omega) (by omega)
          · exact ih2 (i + 1) N _ (by omega) (by omega)
      exact hL m (i + 1) N (nI h2) (by omega) (by omega)
    · obtain ⟨g, rfl⟩ : ∃ g, h2 = g + 1 := ⟨h2 - 1, by omega⟩
      rw [if_neg (nI_ge (by omega) (by omega)), nI_pred, stI_stI]
      exact ih (i + 1) N g (by omega) (by omega) (by omega) (by omega) (by omega)
section VR
variable {γ δ ε ζ : Type} {F : ε → Option γ} {G : ζ → Option δ} {R : ε → ζ → Prop} {s0 s : St} {t0 t : SM} {d b dd h : Nat} {kX : St → Option γ} {kM : SM → Option δ}
theorem r_take {n : Nat} (T : Tp d b dd h s t) (hx : VXf s0 s) (hm : VMf t0 t) (hn : n < 100)
    (hg : ∀ h', b ≤ h' → h' ≤ h → (n ≤ h - b → h' = h - n) → (¬ n ≤ h - b → dd = 1 ∧ h' = b) → Tp d b dd h' (stp s 3 1 (nI h')) (stI t 0 17 (nI h')) → o2 F G (kX (stp s 3 1 (nI h'))) (kM (stI t 0 17 (nI h'))) R)
    (hF : ∀ s' t', VX s0 3 s' → VMd t0 3 d t' → o2 F G (kX s') (kM t') R) : o2 F G (bd1 (f_Val_take (nI n) s) kX) (bd1 (f_M_pop (nI n) t) kM) R := by
  have hd := T.d10
  have hb := T.bh
  have h40 := T.h40
  have hd1 := T.dd1
  rw [f_Val_take, in_0 T.x0 hd, f_M_pop]
  simp only [bd1_some, lt1, T.xb, T.x1, pk_sub hb, in_4 T.x0 hd, T.xd, f_Val_take_40]
  have e0 : stI t 0 17 (nI h) = t := by rw [← T.m17, stI_self]
  by_cases hle : n ≤ h - b
  · rw [if_neg (nI_nlt (by omega) (by omega)), pk_sub (by omega)]
    have := pop_go T hn n 0 FU h (by omega) (by unfold FU; omega) hb h40 (Or.inr hle)
    rw [e0, if_pos hle] at this
    refine o2.b1L rfl (o2.b1R this (hg (h - n) (by omega) (by omega) (fun _ => rfl) (fun q => absurd hle q) (T.h' (by omega) (by omega))))
  · rw [if_pos (nI_lt (by omega) (by omega))]
    by_cases hdd : dd = 0
    · rw [hdd, if_pos (show nI 0 = 0 from rfl), vr_0 T.x3, bd1_some]
      obtain ⟨v, hv⟩ := pop_no T hn hdd n 0 FU h (by omega) (by unfold FU; omega) hb h40 hle
      rw [e0] at hv
      refine o2.b1L rfl (o2.b1R hv (hF _ _ ⟨by simp (disch := first | decide | omega) only [stp_eq, stp_ne, stp_nj, stI1, stI2, stL1, stL_eq, stL_ne, stL_nj, gi_n, nI_clamp ]; rfl, by decide, by decide, (hx.p (by omega)).p (by omega)⟩ ⟨⟨by simp (disch := first | decide | omega) only [stp_eq, stp_ne, stp_nj, stI1, stI2, stL1, stL_eq, stL_ne, stL_nj, gi_n, nI_clamp ]; rfl, by decide, by decide, (hm.p0 (by omega)).p0 (by omega)⟩, by simp (disch := first | decide | omega) only [stp_eq, stp_ne, stp_nj, stI1, stI2, stL1, stL_eq, stL_ne, stL_nj, gi_n, nI_clamp ]; exact T.m16, by omega, dd, by simp (disch := first | decide | omega) only [stp_eq, stp_ne, stp_nj, stI1, stI2, stL1, stL_eq, stL_ne, stL_nj, gi_n, nI_clamp ]; exact T.md, hd1⟩))
    · rw [if_neg (nI_ne0 (by omega) (by omega))]
      have := pop_go T hn n 0 FU h (by omega) (by unfold FU; omega) hb h40 (Or.inl (by omega))
      rw [e0, if_neg hle] at this
      refine o2.b1L rfl (o2.b1R this (hg b (Nat.le_refl _) hb (fun q => absurd q hle) (fun _ => ⟨by omega, rfl⟩) (T.h' (Nat.le_refl _) (by omega))))
theorem r_give {n : Nat} (hx3 : s 3 3 = 0) (hm5 : t.1 0 5 = 0) (x1 : s 3 1 = nI h) (m17 : t.1 0 17 = nI h) (h40 : h ≤ 40) (hx : VXf s0 s) (hm : VMf t0 t) (hn : n < 100)
    (hg : h + n ≤ 16 → o2 F G (kX (stp s 3 1 (nI (h + n)))) (kM (stI t 0 17 (nI (h + n)))) R)
    (hF : ∀ s' t', VX s0 2 s' → VM t0 2 t' → o2 F G (kX s') (kM t') R) : o2 F G (bd1 (f_Val_give (nI n) s) kX) (bd1 (f_M_push (nI n) t) kM) R := by
  rw [f_Val_give, f_M_push]
  simp only [bd1_some, lt1, x1, m17, nI_add, f_Val_give_24, f_M_push_25]
  simp (disch := first | decide | omega) only [stp_eq, stp_ne, stp_nj, stI1, stI2, stL1, stL_eq, stL_ne, stL_nj, gi_n, nI_clamp ]
  by_cases hle : h + n ≤ 16
  · rw [if_pos (show nI (h + n) ≤ 16 from nI_le (b := 16) hle (by decide)), if_neg (show ¬ (16 : Int32) < nI (h + n) from nI_nlt (a := 16) hle (by decide)), mw_t (by decide)]
    exact o2.b1L rfl (o2.b1R rfl (hg hle))
  · rw [if_neg (show ¬ nI (h + n) ≤ 16 from nI_ge (a := 16) (by omega) (by omega)), if_pos (show (16 : Int32) < nI (h + n) from nI_lt (a := 16) (by omega) (by omega)), vr_0 (by simp (disch := first | decide | omega) only [stp_eq, stp_ne, stp_nj, stI1, stI2, stL1, stL_eq, stL_ne, stL_nj, gi_n, nI_clamp ]; exact hx3), mw_f (by simp (disch := first | decide | omega) only [stp_eq, stp_ne, stp_nj, stI1, stI2, stL1, stL_eq, stL_ne, stL_nj, gi_n, nI_clamp ]; exact hm5)]
    simp only [bd1_some]
    exact hF _ _ ⟨by simp (disch := first | decide | omega) only [stp_eq, stp_ne, stp_nj, stI1, stI2, stL1, stL_eq, stL_ne, stL_nj, gi_n, nI_clamp ]; rfl, by decide, by decide, (hx.p (by omega)).p (by omega)⟩ ⟨by simp (disch := first | decide | omega) only [stp_eq, stp_ne, stp_nj, stI1, stI2, stL1, stL_eq, stL_ne, stL_nj, gi_n, nI_clamp ]; rfl, by decide, by decide, (hm.p0 (by omega)).p0 (by omega)⟩
theorem lead_x (T : Tp d b dd h s t) : f_Val_leadAway s = some (stp (stp s 3 1 (nI b)) 28 (d * 6 + 4) 1) := by
  have hd := T.d10
  rw [f_Val_leadAway, in_0 T.x0 hd]
  simp only [bd1_some, lt1, T.xb]
  have e : (stp s 3 1 (nI b)) 3 0 - 1 = nI d := by simp (disch := first | decide | omega) only [stp_eq, stp_ne, stp_nj, stI1, stI2, stL1, stL_eq, stL_ne, stL_nj, gi_n, nI_clamp ]; rw [T.x0, nI_pred]
  rw [e, ts_11_6_4 (by omega)]
theorem kill_m (T : Tp d b dd h s t) : f_M_kill t = some (stI (stI t 0 17 (nI b)) 28 d 1) := by
  have hd := T.d10
  rw [f_M_kill, T.m16, gi_n (show d < 16 by omega) (by decide)]
  simp only [lt1, nI_clamp (show d < 2 ^ 31 by omega), T.mb, stI1, stp_nj t.1 0 (nI b) (show (16 : Nat) ≠ 17 by decide), T.m16, gi_n (show d < 16 by omega) (show 16 < 2 ^ 31 by decide), bz1]
end VR
