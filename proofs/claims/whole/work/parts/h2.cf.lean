-- running: the calls on both sides
def CF (w : Cd) (v : Hv) (m : Md) (C E NX TP : Nat) (pos : Nat → Nat) (c : Nat) (F : Nat → Nat) (K : Nat → Nat) (L : Nat → Nat) (s : St) (t : SM) : Prop :=
  (t.1 0 22 = nI c) ∧
  (1 ≤ c) ∧
  (c ≤ 8) ∧
  (t.1 0 20 = 1) ∧
  (t.1 0 21 = 0) ∧
  (∀ i, 1 ≤ i → i ≤ c → t.1 32 i = nI (F i) ∧ t.1 34 i = nI (L i) ∧ F i < m.nF) ∧
  (∀ i, 1 ≤ i → i < c → t.1 33 i = nI (K i) ∧ K i < C ∧ w.fn (K i) = F i ∧ v.lo (K i) = 0 ∧ L (i + 1) + m.res (F (i + 1)) = L i + m.loc (F i) + v.hi (K i) ∧ L i + m.loc (F i) ≤ L (i + 1)) ∧
  (L 1 = 0) ∧
  (s E 0 = nI c) ∧
  (s E 1 = nI (28 * (c - 1))) ∧
  (s E 3 = 0) ∧
  (∀ i, 1 ≤ i → i < c → s NX i = nI (pos (K i)) ∧ s TP i = nI (28 * (i - 1) + (L (i + 1) - L i)) ∧ ∀ x, x < L (i + 1) - L i → s 36 (28 * (i - 1) + x) = t.1 35 (L i + x))
theorem CF.cc {w : Cd} {v : Hv} {m : Md} {C E NX TP : Nat} {pos : Nat → Nat} {c : Nat} {F : Nat → Nat} {K : Nat → Nat} {L : Nat → Nat} {s : St} {t : SM} (q0_ : CF w v m C E NX TP pos c F K L s t) : t.1 0 22 = nI c := q0_.1
theorem CF.c1 {w : Cd} {v : Hv} {m : Md} {C E NX TP : Nat} {pos : Nat → Nat} {c : Nat} {F : Nat → Nat} {K : Nat → Nat} {L : Nat → Nat} {s : St} {t : SM} (q0_ : CF w v m C E NX TP pos c F K L s t) : 1 ≤ c := q0_.2.1
theorem CF.c8 {w : Cd} {v : Hv} {m : Md} {C E NX TP : Nat} {pos : Nat → Nat} {c : Nat} {F : Nat → Nat} {K : Nat → Nat} {L : Nat → Nat} {s : St} {t : SM} (q0_ : CF w v m C E NX TP pos c F K L s t) : c ≤ 8 := q0_.2.2.1
theorem CF.ru {w : Cd} {v : Hv} {m : Md} {C E NX TP : Nat} {pos : Nat → Nat} {c : Nat} {F : Nat → Nat} {K : Nat → Nat} {L : Nat → Nat} {s : St} {t : SM} (q0_ : CF w v m C E NX TP pos c F K L s t) : t.1 0 20 = 1 := q0_.2.2.2.1
theorem CF.rz {w : Cd} {v : Hv} {m : Md} {C E NX TP : Nat} {pos : Nat → Nat} {c : Nat} {F : Nat → Nat} {K : Nat → Nat} {L : Nat → Nat} {s : St} {t : SM} (q0_ : CF w v m C E NX TP pos c F K L s t) : t.1 0 21 = 0 := q0_.2.2.2.2.1
theorem CF.f {w : Cd} {v : Hv} {m : Md} {C E NX TP : Nat} {pos : Nat → Nat} {c : Nat} {F : Nat → Nat} {K : Nat → Nat} {L : Nat → Nat} {s : St} {t : SM} (q0_ : CF w v m C E NX TP pos c F K L s t) : ∀ i, 1 ≤ i → i ≤ c → t.1 32 i = nI (F i) ∧ t.1 34 i = nI (L i) ∧ F i < m.nF := q0_.2.2.2.2.2.1
theorem CF.k {w : Cd} {v : Hv} {m : Md} {C E NX TP : Nat} {pos : Nat → Nat} {c : Nat} {F : Nat → Nat} {K : Nat → Nat} {L : Nat → Nat} {s : St} {t : SM} (q0_ : CF w v m C E NX TP pos c F K L s t) : ∀ i, 1 ≤ i → i < c → t.1 33 i = nI (K i) ∧ K i < C ∧ w.fn (K i) = F i ∧ v.lo (K i) = 0 ∧ L (i + 1) + m.res (F (i + 1)) = L i + m.loc (F i) + v.hi (K i) ∧ L i + m.loc (F i) ≤ L (i + 1) := q0_.2.2.2.2.2.2.1
theorem CF.l1 {w : Cd} {v : Hv} {m : Md} {C E NX TP : Nat} {pos : Nat → Nat} {c : Nat} {F : Nat → Nat} {K : Nat → Nat} {L : Nat → Nat} {s : St} {t : SM} (q0_ : CF w v m C E NX TP pos c F K L s t) : L 1 = 0 := q0_.2.2.2.2.2.2.2.1
theorem CF.x0 {w : Cd} {v : Hv} {m : Md} {C E NX TP : Nat} {pos : Nat → Nat} {c : Nat} {F : Nat → Nat} {K : Nat → Nat} {L : Nat → Nat} {s : St} {t : SM} (q0_ : CF w v m C E NX TP pos c F K L s t) : s E 0 = nI c := q0_.2.2.2.2.2.2.2.2.1
theorem CF.x1 {w : Cd} {v : Hv} {m : Md} {C E NX TP : Nat} {pos : Nat → Nat} {c : Nat} {F : Nat → Nat} {K : Nat → Nat} {L : Nat → Nat} {s : St} {t : SM} (q0_ : CF w v m C E NX TP pos c F K L s t) : s E 1 = nI (28 * (c - 1)) := q0_.2.2.2.2.2.2.2.2.2.1
theorem CF.x3 {w : Cd} {v : Hv} {m : Md} {C E NX TP : Nat} {pos : Nat → Nat} {c : Nat} {F : Nat → Nat} {K : Nat → Nat} {L : Nat → Nat} {s : St} {t : SM} (q0_ : CF w v m C E NX TP pos c F K L s t) : s E 3 = 0 := q0_.2.2.2.2.2.2.2.2.2.2.1
theorem CF.nx {w : Cd} {v : Hv} {m : Md} {C E NX TP : Nat} {pos : Nat → Nat} {c : Nat} {F : Nat → Nat} {K : Nat → Nat} {L : Nat → Nat} {s : St} {t : SM} (q0_ : CF w v m C E NX TP pos c F K L s t) : ∀ i, 1 ≤ i → i < c → s NX i = nI (pos (K i)) ∧ s TP i = nI (28 * (i - 1) + (L (i + 1) - L i)) ∧ ∀ x, x < L (i + 1) - L i → s 36 (28 * (i - 1) + x) = t.1 35 (L i + x) := q0_.2.2.2.2.2.2.2.2.2.2.2
def ht (w : Cd) (v : Hv) (rs k : Nat) : Nat := if w.op k = 11 then bs w v (w.ins k) + gv w rs (w.ins k) else v.hi k
def TP1 (w : Cd) (v : Hv) (C E : Nat) (pos : Nat → Nat) (c : Nat) (F : Nat → Nat) (k : Nat) (s : St) (t : SM) : Prop :=
  (t.1 33 c = nI k) ∧
  (k < C) ∧
  (w.fn k = F c) ∧
  (s E 2 = nI (pos k)) ∧
  (v.lo k = 0 ∨ (w.op k = 11 ∧ (w.ins k ≠ 0 → v.lo (w.ins k - 1) = 0)))
theorem TP1.pk {w : Cd} {v : Hv} {C E : Nat} {pos : Nat → Nat} {c : Nat} {F : Nat → Nat} {k : Nat} {s : St} {t : SM} (q0_ : TP1 w v C E pos c F k s t) : t.1 33 c = nI k := q0_.1
theorem TP1.kC {w : Cd} {v : Hv} {C E : Nat} {pos : Nat → Nat} {c : Nat} {F : Nat → Nat} {k : Nat} {s : St} {t : SM} (q0_ : TP1 w v C E pos c F k s t) : k < C := q0_.2.1
theorem TP1.fn {w : Cd} {v : Hv} {C E : Nat} {pos : Nat → Nat} {c : Nat} {F : Nat → Nat} {k : Nat} {s : St} {t : SM} (q0_ : TP1 w v C E pos c F k s t) : w.fn k = F c := q0_.2.2.1
theorem TP1.nx {w : Cd} {v : Hv} {C E : Nat} {pos : Nat → Nat} {c : Nat} {F : Nat → Nat} {k : Nat} {s : St} {t : SM} (q0_ : TP1 w v C E pos c F k s t) : s E 2 = nI (pos k) := q0_.2.2.2.1
theorem TP1.al {w : Cd} {v : Hv} {C E : Nat} {pos : Nat → Nat} {c : Nat} {F : Nat → Nat} {k : Nat} {s : St} {t : SM} (q0_ : TP1 w v C E pos c F k s t) : v.lo k = 0 ∨ (w.op k = 11 ∧ (w.ins k ≠ 0 → v.lo (w.ins k - 1) = 0)) := q0_.2.2.2.2
section CFS
variable {w : Cd} {v : Hv} {m : Md} {C nP E NX TP : Nat} {pos : Nat → Nat} {c : Nat} {F K L : Nat → Nat} {s s' : St} {t t' : SM}
theorem ht_a (S : Sta w v m C nP s t) {k : Nat} (hk : k < C) (h : v.lo k = 0) : ht w v (m.res (w.fn k)) k = v.hi k := by
  unfold ht
  by_cases q : w.op k = 11
  · rw [if_pos q, ((S.H.sr k hk).wt h).t5 (Or.inr q)]
  · rw [if_neg q]
theorem CF.d28 (S : Sta w v m C nP s t) (H : CF w v m C E NX TP pos c F K L s' t') {i : Nat} (h1 : 1 ≤ i) (h2 : i < c) : L i ≤ L (i + 1) ∧ L (i + 1) - L i ≤ 28 := by
  obtain ⟨_, b, _, _, d, e⟩ := H.k i h1 h2
  have := S.h16 b
  have := S.E.p4 _ (H.f i h1 (by omega)).2.2
  omega
theorem CF.l28 (S : Sta w v m C nP s t) (H : CF w v m C E NX TP pos c F K L s' t') : ∀ i, i < c → L (i + 1) ≤ 28 * i := by
  intro i
  induction i with
  | zero => intro _; rw [show 0 + 1 = 1 from rfl, H.l1]; omega
  | succ i ih =>
    intro hi
    have := ih (by omega)
    have := H.d28 S (i := i + 1) (by omega) hi
    omega
theorem CF.mono (S : Sta w v m C nP s t) (H : CF w v m C E NX TP pos c F K L s' t') {i : Nat} (h1 : 1 ≤ i) : ∀ d, i + d ≤ c → L i ≤ L (i + d) := by
  intro d
  induction d with
  | zero => intro _; exact Nat.le_refl _
  | succ d ih =>
    intro hd
    have := ih (by omega)
    have := (H.d28 S (i := i + d) (by omega) (by omega)).1
    rw [show i + (d + 1) = i + d + 1 by omega]; omega
theorem CF.lc (S : Sta w v m C nP s t) (H : CF w v m C E NX TP pos c F K L s' t') : L c ≤ 28 * (c - 1) := by
  have := H.c1
  have := H.l28 S (c - 1) (by omega)
  rw [show c - 1 + 1 = c by omega] at this
  exact this
theorem CF.cg {s1 : St} {t1 : SM} (S : Sta w v m C nP s t) (H : CF w v m C E NX TP pos c F K L s t) (a22 : t1.1 0 22 = t.1 0 22) (a20 : t1.1 0 20 = t.1 0 20) (a21 : t1.1 0 21 = t.1 0 21) (a32 : t1.1 32 = t.1 32) (a34 : t1.1 34 = t.1 34) (a33 : ∀ i, i ≠ c → t1.1 33 i = t.1 33 i)
    (b0 : s1 E 0 = s E 0) (b1 : s1 E 1 = s E 1) (b3 : s1 E 3 = s E 3) (bn : s1 NX = s NX) (bt : s1 TP = s TP) (b36 : ∀ j, j < 28 * (c - 1) → s1 36 j = s 36 j) (a35 : ∀ i, i < L c → t1.1 35 i = t.1 35 i) : CF w v m C E NX TP pos c F K L s1 t1 := by
  refine ⟨a22.trans H.cc, H.c1, H.c8, a20.trans H.ru, a21.trans H.rz, by rw [a32, a34]; exact H.f, fun i h1 h2 => by rw [a33 i (by omega)]; exact H.k i h1 h2, H.l1, b0.trans H.x0, b1.trans H.x1, b3.trans H.x3, fun i h1 h2 => ?_⟩
  rw [bn, bt]
  obtain ⟨g1, g2, g3⟩ := H.nx i h1 h2
  refine ⟨g1, g2, fun x hx => ?_⟩
  have d := H.d28 S h1 h2
  have mo := H.mono S (i := i + 1) (by omega) (c - (i + 1)) (by omega)
  rw [show i + 1 + (c - (i + 1)) = c by omega] at mo
  have : 28 * (i - 1) + 28 ≤ 28 * (c - 1) := by omega
  rw [b36 _ (by omega), a35 _ (by omega)]
  exact g3 x hx
end CFS
/-- the other side enters a function -/
theorem ent_go {f e : Nat} (hf : f < 8) : ∀ d i N q t, i + d = e → d < N → t.1 24 f = nI e → t.1 0 23 = nI q → q + d ≤ 390 → e ≤ 12 →
    ∃ t', f_M_enter_56 N (nI f) (nI i) t = some t' ∧ t'.2 = t.2 ∧ (∀ a, a ≠ 0 → a ≠ 35 → t'.1 a = t.1 a) ∧ (∀ j, j ≠ 23 → t'.1 0 j = t.1 0 j) ∧ t'.1 0 23 = nI (q + d) ∧ (∀ j, j < q → t'.1 35 j = t.1 35 j) ∧ (∀ j, q ≤ j → j < q + d → t'.1 35 j = 0) := by
  intro d
  induction d with
  | zero =>
    intro i N q t hi hN h24 h23 hq he
    obtain ⟨N, rfl⟩ : ∃ q, N = q + 1 := ⟨N - 1, by omega⟩
    rw [f_M_enter_56, gi_n hf (by decide), nI_clamp (by omega), h24, lt1, if_pos (nI_le (by omega) (by omega))]
    exact ⟨t, rfl, rfl, fun _ _ _ => rfl, fun _ _ => rfl, h23, fun _ _ => rfl, fun j j1 j2 => by omega⟩
  | succ d ih =>
    intro i N q t hi hN h24 h23 hq he
    obtain ⟨N, rfl⟩ : ∃ q, N = q + 1 := ⟨N - 1, by omega⟩
    rw [f_M_enter_56, gi_n hf (by decide), nI_clamp (by omega), h24, lt1, if_neg (nI_ge (by omega) (by omega)), h23, gi_n (by omega) (by decide), nI_clamp (by omega), lt1, show (stI t 35 q 0).1 0 23 = nI q by simp (disch := first | decide | omega) only [stI1, stI2, stp_eq, stp_row, stp_ne, stp_nj ]; exact h23, lt1, lt1, lt1, nI_1, nI_1]
    obtain ⟨t', g1, g2, g3, g4, g5, g6, g7⟩ := ih (i + 1) N (q + 1) (stI (stI t 35 q 0) 0 23 (nI (q + 1))) (by omega) (by omega) (by simp (disch := first | decide | omega) only [stI1, stI2, stp_eq, stp_row, stp_ne, stp_nj ]; exact h24) (by simp (disch := first | decide | omega) only [stI1, stI2, stp_eq, stp_row, stp_ne, stp_nj ]) (by omega) he
    refine ⟨t', g1, g2, fun a a1 a2 => by rw [g3 a a1 a2]; simp (disch := first | decide | omega) only [stI1, stI2, stp_eq, stp_row, stp_ne, stp_nj ], fun j hj => by rw [g4 j hj]; simp (disch := first | decide | omega) only [stI1, stI2, stp_eq, stp_row, stp_ne, stp_nj ], by rw [g5]; exact congrArg nI (by omega), fun j hj => by rw [g6 j (by omega)]; simp (disch := first | decide | omega) only [stI1, stI2, stp_eq, stp_row, stp_ne, stp_nj ], fun j j1 j2 => ?_⟩
    by_cases e : j = q
    · rw [e, g6 q (by omega)]; simp (disch := first | decide | omega) only [stI1, stI2, stp_eq, stp_row, stp_ne, stp_nj ]
    · exact g7 j (by omega) (by omega)
theorem enter_m {m : Md} {s : St} {t : SM} (E : Env m s t) {f c q bg : Nat} (hf : f < m.nF) (hc : t.1 0 22 = nI c) (h8 : c + 1 < 9) (h22 : t.1 22 f = nI bg) (h23 : t.1 0 23 = nI q) (hq : m.par f ≤ q) (hq2 : q ≤ 350) :
    ∃ t', f_M_enter (nI f) t = some t' ∧ t'.2 = t.2 ∧ (∀ a, a ≠ 0 → a ≠ 32 → a ≠ 33 → a ≠ 34 → a ≠ 35 → t'.1 a = t.1 a) ∧ (∀ j, j ≠ 22 → j ≠ 23 → t'.1 0 j = t.1 0 j) ∧ t'.1 0 22 = nI (c + 1) ∧ t'.1 32 = upd (t.1 32) (c + 1) (nI f) ∧ t'.1 33 = upd (t.1 33) (c + 1) (nI bg) ∧ t'.1 34 = upd (t.1 34) (c + 1) (nI (q - m.par f)) ∧ t'.1 0 23 = nI (q + (m.loc f - m.par f)) ∧ (∀ j, j < q → t'.1 35 j = t.1 35 j) ∧ (∀ j, q ≤ j → j < q + (m.loc f - m.par f) → t'.1 35 j = 0) := by
  have hF := E.nF8
  have hp := E.p4 f hf
  have hN := FU_9
  rw [f_M_enter, hc, nI_1, lt1, lt1, show (stI t 0 22 (nI (c + 1))).1 0 22 = nI (c + 1) by simp (disch := first | decide | omega) only [stI1, stI2, stp_eq, stp_row, stp_ne, stp_nj ], gi_n h8 (by decide), nI_clamp (by omega), lt1, gi_n (show f < 8 by omega) (by decide), nI_clamp (show f < 2 ^ 31 by omega), show (stI (stI t 0 22 (nI (c + 1))) 32 (c + 1) (nI f)).1 22 f = nI bg by simp (disch := first | decide | omega) only [stI1, stI2, stp_eq, stp_row, stp_ne, stp_nj ]; exact h22, lt1, show (stI (stI t 0 22 (nI (c + 1))) 32 (c + 1) (nI f)).1 0 22 = nI (c + 1) by simp (disch := first | decide | omega) only [stI1, stI2, stp_eq, stp_row, stp_ne, stp_nj ], gi_n h8 (by decide), nI_clamp (by omega), lt1,
    mpar_c (t := t) (t' := stI (stI (stI t 0 22 (nI (c + 1))) 32 (c + 1) (nI f)) 33 (c + 1) (nI bg)) _ rfl (by simp (disch := first | decide | omega) only [stI1, stI2, stp_eq, stp_row, stp_ne, stp_nj ]) (by simp (disch := first | decide | omega) only [stI1, stI2, stp_eq, stp_row, stp_ne, stp_nj ]), E.pM f hf, bd1_some, show (stI (stI (stI t 0 22 (nI (c + 1))) 32 (c + 1) (nI f)) 33 (c + 1) (nI bg)).1 0 23 = nI q by simp (disch := first | decide | omega) only [stI1, stI2, stp_eq, stp_row, stp_ne, stp_nj ]; exact h23, pk_sub hq, lt1, show (stI (stI (stI t 0 22 (nI (c + 1))) 32 (c + 1) (nI f)) 33 (c + 1) (nI bg)).1 0 22 = nI (c + 1) by simp (disch := first | decide | omega) only [stI1, stI2, stp_eq, stp_row, stp_ne, stp_nj ], gi_n h8 (by decide), nI_clamp (by omega), lt1]
  obtain ⟨t', g1, g2, g3, g4, g5, g6, g7⟩ := ent_go (f := f) (e := m.loc f - m.par f) (by omega) (m.loc f - m.par f) 0 FU q (stI (stI (stI (stI t 0 22 (nI (c + 1))) 32 (c + 1) (nI f)) 33 (c + 1) (nI bg)) 34 (c + 1) (nI (q - m.par f))) (by omega) (by omega) (by simp (disch := first | decide | omega) only [stI1, stI2, stp_eq, stp_row, stp_ne, stp_nj ]; exact E.lM f hf) (by simp (disch := first | decide | omega) only [stI1, stI2, stp_eq, stp_row, stp_ne, stp_nj ]; exact h23) (by omega) (by omega)
  refine ⟨t', g1, g2, fun a a1 a2 a3 a4 a5 => by rw [g3 a a1 a5]; simp (disch := first | decide | omega) only [stI1, stI2, stp_eq, stp_row, stp_ne, stp_nj ], fun j j1 j2 => by rw [g4 j j2]; simp (disch := first | decide | omega) only [stI1, stI2, stp_eq, stp_row, stp_ne, stp_nj ], by rw [g4 22 (by decide)]; simp (disch := first | decide | omega) only [stI1, stI2, stp_eq, stp_row, stp_ne, stp_nj ], by rw [g3 32 (by decide) (by decide)]; simp (disch := first | decide | omega) only [stI1, stI2, stp_eq, stp_row, stp_ne, stp_nj ], by rw [g3 33 (by decide) (by decide)]; simp (disch := first | decide | omega) only [stI1, stI2, stp_eq, stp_row, stp_ne, stp_nj ], by rw [g3 34 (by decide) (by decide)]; simp (disch := first | decide | omega) only [stI1, stI2, stp_eq, stp_row, stp_ne, stp_nj ], g5, fun j hj => by rw [g6 j hj]; simp (disch := first | decide | omega) only [stI1, stI2, stp_eq, stp_row, stp_ne, stp_nj ], fun j j1 j2 => g7 j j1 j2⟩
