-- the contents on both sides, by rows; what a section leaves alone
theorem lit_0 : (0 : Int32) = nI 0 := rfl
theorem lit_1 : (1 : Int32) = nI 1 := rfl
theorem lit_2 : (2 : Int32) = nI 2 := rfl
theorem lit_3 : (3 : Int32) = nI 3 := rfl
theorem lit_4 : (4 : Int32) = nI 4 := rfl
theorem lit_5 : (5 : Int32) = nI 5 := rfl
theorem lit_6 : (6 : Int32) = nI 6 := rfl
theorem lit_7 : (7 : Int32) = nI 7 := rfl
theorem lit_8 : (8 : Int32) = nI 8 := rfl
theorem lit_9 : (9 : Int32) = nI 9 := rfl
theorem lit_10 : (10 : Int32) = nI 10 := rfl
theorem lit_11 : (11 : Int32) = nI 11 := rfl
theorem lit_12 : (12 : Int32) = nI 12 := rfl
theorem lit_13 : (13 : Int32) = nI 13 := rfl
theorem lit_14 : (14 : Int32) = nI 14 := rfl
theorem lit_15 : (15 : Int32) = nI 15 := rfl
theorem lit_16 : (16 : Int32) = nI 16 := rfl
theorem lit_17 : (17 : Int32) = nI 17 := rfl
theorem lit_18 : (18 : Int32) = nI 18 := rfl
theorem lit_19 : (19 : Int32) = nI 19 := rfl
theorem lit_20 : (20 : Int32) = nI 20 := rfl
theorem lit_21 : (21 : Int32) = nI 21 := rfl
theorem lit_22 : (22 : Int32) = nI 22 := rfl
theorem lit_23 : (23 : Int32) = nI 23 := rfl
theorem lit_24 : (24 : Int32) = nI 24 := rfl
theorem lit_25 : (25 : Int32) = nI 25 := rfl
theorem lit_26 : (26 : Int32) = nI 26 := rfl
theorem lit_27 : (27 : Int32) = nI 27 := rfl
theorem lit_28 : (28 : Int32) = nI 28 := rfl
theorem lit_29 : (29 : Int32) = nI 29 := rfl
theorem lit_30 : (30 : Int32) = nI 30 := rfl
theorem lit_31 : (31 : Int32) = nI 31 := rfl
theorem lit_32 : (32 : Int32) = nI 32 := rfl
theorem lit_33 : (33 : Int32) = nI 33 := rfl
theorem lit_34 : (34 : Int32) = nI 34 := rfl
theorem lit_35 : (35 : Int32) = nI 35 := rfl
theorem lit_36 : (36 : Int32) = nI 36 := rfl
theorem lit_37 : (37 : Int32) = nI 37 := rfl
theorem lit_38 : (38 : Int32) = nI 38 := rfl
theorem lit_39 : (39 : Int32) = nI 39 := rfl
theorem lit_40 : (40 : Int32) = nI 40 := rfl
theorem lit_41 : (41 : Int32) = nI 41 := rfl
theorem lit_42 : (42 : Int32) = nI 42 := rfl
theorem lit_43 : (43 : Int32) = nI 43 := rfl
theorem lit_44 : (44 : Int32) = nI 44 := rfl
theorem lit_45 : (45 : Int32) = nI 45 := rfl
theorem lit_46 : (46 : Int32) = nI 46 := rfl
theorem lit_47 : (47 : Int32) = nI 47 := rfl
theorem lit_48 : (48 : Int32) = nI 48 := rfl
theorem lit_49 : (49 : Int32) = nI 49 := rfl
theorem lit_50 : (50 : Int32) = nI 50 := rfl
theorem lit_51 : (51 : Int32) = nI 51 := rfl
theorem lit_52 : (52 : Int32) = nI 52 := rfl
theorem lit_53 : (53 : Int32) = nI 53 := rfl
theorem lit_54 : (54 : Int32) = nI 54 := rfl
theorem lit_55 : (55 : Int32) = nI 55 := rfl
theorem lit_56 : (56 : Int32) = nI 56 := rfl
theorem lit_57 : (57 : Int32) = nI 57 := rfl
theorem lit_58 : (58 : Int32) = nI 58 := rfl
theorem lit_59 : (59 : Int32) = nI 59 := rfl
theorem lit_60 : (60 : Int32) = nI 60 := rfl
theorem lit_61 : (61 : Int32) = nI 61 := rfl
theorem lit_62 : (62 : Int32) = nI 62 := rfl
theorem lit_63 : (63 : Int32) = nI 63 := rfl
theorem lit_64 : (64 : Int32) = nI 64 := rfl
theorem lit_65 : (65 : Int32) = nI 65 := rfl
theorem lit_66 : (66 : Int32) = nI 66 := rfl
theorem lit_67 : (67 : Int32) = nI 67 := rfl
theorem lit_68 : (68 : Int32) = nI 68 := rfl
theorem lit_69 : (69 : Int32) = nI 69 := rfl
theorem lit_70 : (70 : Int32) = nI 70 := rfl
theorem lit_71 : (71 : Int32) = nI 71 := rfl
theorem lit_72 : (72 : Int32) = nI 72 := rfl
theorem lit_73 : (73 : Int32) = nI 73 := rfl
theorem lit_74 : (74 : Int32) = nI 74 := rfl
theorem lit_75 : (75 : Int32) = nI 75 := rfl
theorem lit_76 : (76 : Int32) = nI 76 := rfl
theorem lit_77 : (77 : Int32) = nI 77 := rfl
theorem lit_78 : (78 : Int32) = nI 78 := rfl
theorem lit_79 : (79 : Int32) = nI 79 := rfl
theorem lit_80 : (80 : Int32) = nI 80 := rfl
theorem lit_81 : (81 : Int32) = nI 81 := rfl
theorem lit_82 : (82 : Int32) = nI 82 := rfl
theorem lit_83 : (83 : Int32) = nI 83 := rfl
theorem lit_84 : (84 : Int32) = nI 84 := rfl
theorem lit_85 : (85 : Int32) = nI 85 := rfl
theorem lit_86 : (86 : Int32) = nI 86 := rfl
theorem lit_87 : (87 : Int32) = nI 87 := rfl
theorem lit_88 : (88 : Int32) = nI 88 := rfl
theorem lit_89 : (89 : Int32) = nI 89 := rfl
theorem lit_90 : (90 : Int32) = nI 90 := rfl
theorem lit_91 : (91 : Int32) = nI 91 := rfl
theorem lit_92 : (92 : Int32) = nI 92 := rfl
theorem lit_93 : (93 : Int32) = nI 93 := rfl
theorem lit_94 : (94 : Int32) = nI 94 := rfl
theorem lit_95 : (95 : Int32) = nI 95 := rfl
theorem lit_96 : (96 : Int32) = nI 96 := rfl
theorem lit_97 : (97 : Int32) = nI 97 := rfl
theorem lit_98 : (98 : Int32) = nI 98 := rfl
theorem lit_99 : (99 : Int32) = nI 99 := rfl
theorem lit_100 : (100 : Int32) = nI 100 := rfl
theorem lit_101 : (101 : Int32) = nI 101 := rfl
theorem lit_102 : (102 : Int32) = nI 102 := rfl
theorem lit_103 : (103 : Int32) = nI 103 := rfl
theorem lit_104 : (104 : Int32) = nI 104 := rfl
theorem lit_105 : (105 : Int32) = nI 105 := rfl
theorem lit_106 : (106 : Int32) = nI 106 := rfl
theorem lit_107 : (107 : Int32) = nI 107 := rfl
theorem lit_108 : (108 : Int32) = nI 108 := rfl
theorem lit_109 : (109 : Int32) = nI 109 := rfl
theorem lit_110 : (110 : Int32) = nI 110 := rfl
theorem lit_111 : (111 : Int32) = nI 111 := rfl
theorem lit_112 : (112 : Int32) = nI 112 := rfl
theorem lit_113 : (113 : Int32) = nI 113 := rfl
theorem lit_114 : (114 : Int32) = nI 114 := rfl
theorem lit_115 : (115 : Int32) = nI 115 := rfl
theorem lit_116 : (116 : Int32) = nI 116 := rfl
theorem lit_117 : (117 : Int32) = nI 117 := rfl
theorem lit_118 : (118 : Int32) = nI 118 := rfl
theorem lit_119 : (119 : Int32) = nI 119 := rfl
theorem lit_120 : (120 : Int32) = nI 120 := rfl
theorem lit_121 : (121 : Int32) = nI 121 := rfl
theorem lit_122 : (122 : Int32) = nI 122 := rfl
theorem lit_123 : (123 : Int32) = nI 123 := rfl
theorem lit_124 : (124 : Int32) = nI 124 := rfl
theorem lit_125 : (125 : Int32) = nI 125 := rfl
theorem lit_126 : (126 : Int32) = nI 126 := rfl
theorem lit_127 : (127 : Int32) = nI 127 := rfl
theorem lit_128 : (128 : Int32) = nI 128 := rfl
theorem lit_240 : (240 : Int32) = nI 240 := rfl
theorem lit_250 : (250 : Int32) = nI 250 := rfl
theorem lit_251 : (251 : Int32) = nI 251 := rfl
theorem lit_255 : (255 : Int32) = nI 255 := rfl
theorem lit_256 : (256 : Int32) = nI 256 := rfl
theorem lit_400 : (400 : Int32) = nI 400 := rfl
def DTy (a m2 m3 : Nat → Int32) (n : Nat) : Prop := ∀ j, j < n → ∃ p r : Nat, p ≤ 4 ∧ r ≤ 4 ∧ a (j * 2 + 0) = nI p ∧ a (j * 2 + 1) = nI r ∧ m2 j = nI p ∧ m3 j = nI r
def DFt (a : Nat → Int32) (l : Nat → Int64) (n : Nat) : Prop := ∀ j, j < n → ∃ v : Nat, v < 2 ^ 32 ∧ a (j * 4 + 0) = nI v ∧ l j = lN v
def DGl (a m5 m6 : Nat → Int32) (n : Nat) : Prop := ∀ j, j < n → ∃ c : Nat, c ≤ 1 ∧ a (j * 2 + 0) = nI c ∧ m5 j = nI c ∧ a (j * 2 + 1) = m6 j
def DSg (a : Nat → Int32) (l : Nat → Int64) (m11 m12 m13 : Nat → Int32) (n : Nat) : Prop := ∀ j, j < n → ∃ v f e : Nat, v < 2 ^ 32 ∧ f + e ≤ 240 ∧ a (j * 4 + 0) = nI v ∧ l j = lN v ∧ a (j * 4 + 1) = m11 j ∧ a (j * 4 + 2) = nI f ∧ m12 j = nI f ∧ a (j * 4 + 3) = nI e ∧ m13 j = nI e
def DMe (a : Nat → Int32) (me ca : Int32) (le mo : Int64) : Prop :=
  (a 0 = 0 ∧ a 1 = 0 ∧ a 2 = 0 ∧ me = 0 ∧ ca = 0 ∧ le = 0) ∨
  (a 0 = 1 ∧ me = 1 ∧ ∃ p q : Nat, p ≤ 4 ∧ q < 2 ^ 32 ∧ a 1 = nI p ∧ le = lN p ∧ ((ca = 0 ∧ a 2 = 4) ∨ (ca = 1 ∧ mo = lN q ∧ a 2 = nI (min q 4))))
def Ux (C D : List Nat) (s s' : St) : Prop := (∀ a, a ∉ 2 :: C → s' a = s a) ∧ (∀ j, j ∉ 2 :: D → s' 2 j = s 2 j)
def Um (C L D : List Nat) (t t' : SM) : Prop := (∀ a, a ∉ 0 :: C → t'.1 a = t.1 a) ∧ (∀ a, a ∉ L → t'.2 a = t.2 a) ∧ (∀ j, j ∉ 3 :: D → t'.1 0 j = t.1 0 j)
theorem Ux.refl (C D : List Nat) (s : St) : Ux C D s s := ⟨fun _ _ => rfl, fun _ _ => rfl⟩
theorem Um.refl (C L D : List Nat) (t : SM) : Um C L D t t := ⟨fun _ _ => rfl, fun _ _ => rfl, fun _ _ => rfl⟩
theorem Ux.trans {C D : List Nat} {s s1 s2 : St} (h : Ux C D s s1) (h2 : Ux C D s1 s2) : Ux C D s s2 := ⟨fun a ha => (h2.1 a ha).trans (h.1 a ha), fun j hj => (h2.2 j hj).trans (h.2 j hj)⟩
theorem Um.trans {C L D : List Nat} {t t1 t2 : SM} (h : Um C L D t t1) (h2 : Um C L D t1 t2) : Um C L D t t2 :=
  ⟨fun a ha => (h2.1 a ha).trans (h.1 a ha), fun j hj => (h2.2.1 j hj).trans (h.2.1 j hj), fun j hj => (h2.2.2 j hj).trans (h.2.2 j hj)⟩
theorem Ux.p2 {C D : List Nat} {s s' : St} {j : Nat} {v : Int32} (hj : j ∈ 2 :: D) (h : Ux C D s s') : Ux C D s (stp s' 2 j v) := by
  refine ⟨fun a ha => ?_, fun i hi => ?_⟩
  · have : a ≠ 2 := fun q => ha (by rw [q]; exact List.mem_cons_self)
    rw [stp_ne _ _ _ this]; exact h.1 a ha
  · have : i ≠ j := fun q => hi (by rw [q]; exact hj)
    rw [stp_nj _ _ _ this]; exact h.2 i hi
theorem Ux.pa {C D : List Nat} {s s' : St} {k j : Nat} {v : Int32} (hk : k ∈ C) (h2 : k ≠ 2) (h : Ux C D s s') : Ux C D s (stp s' k j v) := by
  refine ⟨fun a ha => ?_, fun i hi => ?_⟩
  · have : a ≠ k := fun q => ha (by rw [q]; exact List.mem_cons_of_mem _ hk)
    rw [stp_ne _ _ _ this]; exact h.1 a ha
  · rw [stp_ne _ _ _ (Ne.symm h2)]; exact h.2 i hi
theorem Um.p0 {C L D : List Nat} {t t' : SM} {j : Nat} {v : Int32} (hj : j ∈ 3 :: D) (h : Um C L D t t') : Um C L D t (stI t' 0 j v) := by
  refine ⟨fun a ha => ?_, h.2.1, fun i hi => ?_⟩
  · have : a ≠ 0 := fun q => ha (by rw [q]; exact List.mem_cons_self)
    rw [stI1, stp_ne _ _ _ this]; exact h.1 a ha
  · have : i ≠ j := fun q => hi (by rw [q]; exact hj)
    rw [stI1, stp_nj _ _ _ this]; exact h.2.2 i hi
theorem Um.pa {C L D : List Nat} {t t' : SM} {k j : Nat} {v : Int32} (hk : k ∈ C) (h2 : k ≠ 0) (h : Um C L D t t') : Um C L D t (stI t' k j v) := by
  refine ⟨fun a ha => ?_, h.2.1, fun i hi => ?_⟩
  · have : a ≠ k := fun q => ha (by rw [q]; exact List.mem_cons_of_mem _ hk)
    rw [stI1, stp_ne _ _ _ this]; exact h.1 a ha
  · rw [stI1, stp_ne _ _ _ (Ne.symm h2)]; exact h.2.2 i hi
theorem Um.la {C L D : List Nat} {t t' : SM} {k j : Nat} {v : Int64} (hk : k ∈ L) (h : Um C L D t t') : Um C L D t (stL t' k j v) := by
  refine ⟨h.1, fun a ha => ?_, h.2.2⟩
  have : a ≠ k := fun q => ha (by rw [q]; exact hk)
  rw [stL_ne _ _ _ this]; exact h.2.1 a ha
theorem stI_self (t : SM) (k j : Nat) : stI t k j (t.1 k j) = t := Prod.ext (stp_self _ _ _) rfl
/-- a loop over types of values, both sides -/
theorem vl_flt {L : Nat → Int32 → SM → Option SM} {c r p : Nat} {t0 : SM} {e : Nat} (hL : ∀ n i t, t.1 c r = nI p → i < p → L (n + 1) (nI i) t = bd1 (f_M_value t) fun t3 => L n (nI i + 1) t3) :
    ∀ d i n t, i + d = p → BM t0 e t → t.1 c r = nI p → L (n + d) (nI i) t = L n (nI p) t := by
  intro d
  induction d with
  | zero => intro i n t hi hB ht; have : i = p := by omega
            subst this; rfl
  | succ d ih =>
    intro i n t hi hB ht
    rw [show n + (d + 1) = (n + d) + 1 by omega, hL _ _ _ ht (by omega), mv_flt hB, bd1_some, nI_1]
    exact ih (i + 1) n t (by omega) hB ht
theorem vl2 {L : Nat → Int32 → SM → Option SM} {c r p : Nat} (hc : c ≠ 0) (hp : p ≤ 4) {bn : Nat} (hL : ∀ n i t, t.1 c r = nI p → i < p → L (n + 1) (nI i) t = bd1 (f_M_value t) fun t3 => L n (nI i + 1) t3) :
    ∀ d i nX nM s t pl, i + d = p → d < nX → At s t pl bn → t.1 c r = nI p → ∃ s' t', f_Rd_readValueTypes_20 nX (nI p) (nI i) s = some (nI p, s') ∧ L (nM + d) (nI i) t = L nM (nI p) t' ∧
      ((∃ pl', pl ≤ pl' ∧ pl' ≤ bn ∧ s' = stp s 2 2 (nI pl') ∧ t' = stI t 0 3 (nI pl')) ∨ Fl s t s' t') := by
  intro d
  induction d with
  | zero =>
    intro i nX nM s t pl hi hX h ht
    have : i = p := by omega
    subst this
    obtain ⟨nX, rfl⟩ : ∃ n, nX = n + 1 := ⟨nX - 1, by omega⟩
    refine ⟨s, t, ?_, rfl, Or.inl ⟨pl, by omega, (bd240 h).1, ?_, ?_⟩⟩
    · rw [f_Rd_readValueTypes_20, if_pos (nI_le (Nat.le_refl i) (by omega)), f_Rd_readValueTypes_47, ite_self]
    · rw [← h.2.2.1, stp_self]
    · rw [← h.2.2.2.1, stI_self]
  | succ d ih =>
    intro i nX nM s t pl hi hX h ht
    obtain ⟨nX, rfl⟩ : ∃ n, nX = n + 1 := ⟨nX - 1, by omega⟩
    rw [f_Rd_readValueTypes_20]
    simp (disch := omega) only [nI_leI, nI_ltI, nI_eq, if_pos, if_neg, if_true, if_false , h.1, lit_4]
    rw [show nM + (d + 1) = (nM + d) + 1 by omega, hL _ _ _ ht (by omega)]
    obtain ⟨s1, t1, e1, e2, hh⟩ := val2 h
    rw [e1, e2]
    simp only [bd1_some, lt1, nI_1]
    rcases hh with ⟨hp1, rfl, rfl⟩ | hf
    · have ht1 : (stI t 0 3 (nI (pl + 1))).1 c r = nI p := by rw [stI1, stp_ne _ _ _ hc]; exact ht
      obtain ⟨s', t', a1, a2, a3⟩ := ih (i + 1) nX nM _ _ (pl + 1) (by omega) (by omega) (h.step hp1) ht1
      refine ⟨s', t', a1, a2, ?_⟩
      rcases a3 with ⟨pl', b1, b2, b3, b4⟩ | hf
      · exact Or.inl ⟨pl', by omega, b2, by rw [b3, stp_stp], by rw [b4, stI_stI]⟩
      · exact Or.inr hf.back
    · obtain ⟨e, B1, B2⟩ := hf.B (FX.refl s) (FM.refl t)
      obtain ⟨nX, rfl⟩ : ∃ n, nX = n + 1 := ⟨nX - 1, by omega⟩
      have ht1 : t1.1 c r = nI p := by
        obtain ⟨q, e', q1, q2, q3, q4, q5⟩ := hf
        rw [q5, stI1, stp_ne _ _ _ hc, stI1, stp_ne _ _ _ hc]; exact ht
      exact ⟨s1, t1, xvs_flt B1.ne _ _, vl_flt hL d (i + 1) nM t1 (by omega) B2 ht1, Or.inr hf⟩
theorem kx_sec {x1 x2 x3 : Int32} {n : Nat} {s0 s : St} {e : Nat} (h : BX s0 e s) : okg (f_Rd_readSection_202 x1 x2 0) (f_Rd_readSection_56 (n + 1) x1 x2 x3 s) (BX s0 e) := by
  refine ⟨s, ?_, h⟩
  rw [f_Rd_readSection_56, if_neg h.ne]
  simp only [ite_self]
  rfl
theorem gi_n {β : Type} {c N : Nat} {o : Option β} (h : c < N) (hN : N < 2 ^ 31) : gi (nI c) N o = o := gi_ok (nI_in h hN) o
theorem r_vts {γ δ ε ζ : Type} {F : ε → Option γ} {G : ζ → Option δ} {R : ε → ζ → Prop} {s : St} {t : SM} {pl bn : Nat} (h : At s t pl bn) {kX : Int32 → St → Option γ} {kM : Int32 → SM → Option δ}
    (hg : ∀ v p, v ≤ 4 → pl < p → p ≤ bn → At (stp s 2 2 (nI p)) (stI t 0 3 (nI p)) p bn → o2 F G (bd (f_Rd_readValueTypes_20 FU (nI v) (nI 0) (stp s 2 2 (nI p))) kX) (kM (nI v) (stI t 0 3 (nI p))) R)
    (hF : ∀ r s' t', Fl s t s' t' → o2 F G (kX r s') (kM 0 t') R) : o2 F G (bd (f_Rd_readValueTypes s) kX) (bd (f_M_count 4 t) kM) R := by
  rw [f_Rd_readValueTypes]
  simp only [bd_bd, bd_bd1, bd_ite, f_Rd_readValueTypes_18]
  refine r_cnt h 4 (by decide) (fun v p hv hp1 hp2 h1 => ?_) (fun r s' t' hf => ?_)
  · exact hg v p hv hp1 hp2 h1
  · obtain ⟨n, e, -⟩ := FU_s
    obtain ⟨e', B1, B2⟩ := hf.B (FX.refl s) (FM.refl t)
    rw [e, xvs_flt B1.ne, bd_some]
    exact hF _ _ _ hf
