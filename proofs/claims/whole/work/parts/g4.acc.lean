-- running: reading and writing memory
def sgn (o : Nat) (v : Int32) : Int32 := if o = 44 then v <<< 24 >>> 24 else if o = 46 then v <<< 16 >>> 16 else v
theorem sgn_x {o : Nat} (ho : o < 256) (v : Int32) : f_Store_signed (nI o) v = some (sgn o v) := by
  rw [f_Store_signed, sgn]
  simp only [lt1, f_Store_signed_21, sg8, sg16]
  by_cases h1 : o = 44
  · rw [if_pos h1, if_pos (show nI o = 44 by rw [h1]; rfl)]
  · rw [if_neg h1, if_neg (show ¬ nI o = 44 from fun q => h1 ((nI_eq (b := 44) (by omega) (by decide)).mp q))]
    by_cases h2 : o = 46
    · rw [if_pos h2, if_pos (show nI o = 46 by rw [h2]; rfl)]
    · rw [if_neg h2, if_neg (show ¬ nI o = 46 from fun q => h2 ((nI_eq (b := 46) (by omega) (by decide)).mp q))]
theorem read2 {s : St} {t : SM} (hm : ∀ a, a < 256 → s 34 a = t.1 29 a) {o at' : Nat} (ho : o < 256) (hk : kno o = true) (hacc : 39 < o ∧ o < 60) (ha : at' + wdt o ≤ 256) (hw : wdt o ≤ 4) : ∀ d i N N' v, i + d = wdt o → d < N → d < N' →
    ∃ r, f_Store_read_5 s N (nI at') (nI (wdt o)) v (nI i) = some r ∧ f_M_read_5 t N' (nI o) (nI at') v (nI i) = some (sgn o r) := by
  obtain ⟨w1, w2, w3⟩ := wd_x o ho hk hacc
  intro d
  induction d with
  | zero =>
    intro i N N' v hi hN hN'
    obtain ⟨N, rfl⟩ : ∃ q, N = q + 1 := ⟨N - 1, by omega⟩
    obtain ⟨N', rfl⟩ : ∃ q, N' = q + 1 := ⟨N' - 1, by omega⟩
    refine ⟨v, ?_, ?_⟩
    · rw [f_Store_read_5]
      simp only [f_Store_read_43]
      rw [if_pos (show nI (wdt o) ≤ nI i from nI_le (by omega) (by omega)), ite_self]
    · rw [f_M_read_5, w2, bd1_some, if_pos (show nI (wdt o) ≤ nI i from nI_le (by omega) (by omega)), sgn]
      simp only [lt1, f_M_read_71]
      rw [show ((24 : Int32) &&& 31) = 24 by decide, show ((16 : Int32) &&& 31) = 16 by decide]
      by_cases h1 : o = 44
      · rw [if_pos h1, if_pos (show nI o = 44 by rw [h1]; rfl)]
      · rw [if_neg h1, if_neg (show ¬ nI o = 44 from fun q => h1 ((nI_eq (b := 44) (by omega) (by decide)).mp q))]
        by_cases h2 : o = 46
        · rw [if_pos h2, if_pos (show nI o = 46 by rw [h2]; rfl)]
        · rw [if_neg h2, if_neg (show ¬ nI o = 46 from fun q => h2 ((nI_eq (b := 46) (by omega) (by decide)).mp q))]
  | succ d ih =>
    intro i N N' v hi hN hN'
    obtain ⟨N, rfl⟩ : ∃ q, N = q + 1 := ⟨N - 1, by omega⟩
    obtain ⟨N', rfl⟩ : ∃ q, N' = q + 1 := ⟨N' - 1, by omega⟩
    obtain ⟨r, r1, r2⟩ := ih (i + 1) N N' (v ||| (t.1 29 (at' + i) <<< ((8 * nI i) &&& 31))) (by omega) (by omega) (by omega)
    refine ⟨r, ?_, ?_⟩
    · rw [f_Store_read_5, if_neg (show ¬ 4 ≤ nI i from nI_ge (b := 4) (by omega) (by decide)), if_neg (show ¬ nI (wdt o) ≤ nI i from nI_ge (by omega) (by omega))]
      simp only [lt1]
      rw [nI_add, rGet_n (by omega) (by decide), hm _ (by omega), nI_1]
      exact r1
    · rw [f_M_read_5, w2, bd1_some, if_neg (show ¬ nI (wdt o) ≤ nI i from nI_ge (by omega) (by omega))]
      simp only [lt1]
      rw [nI_add, gi_n (by omega) (by decide), nI_clamp (by omega), nI_1]
      exact r2
theorem write2 {wd at' k : Nat} {z x : Int32} (ha : at' + wd ≤ 256) (hw : wd ≤ 4) : ∀ d i N N' s t, i + d = wd → d < N → d < N' → (∀ a, a < 256 → s 34 a = t.1 29 a) →
    ∃ s' t', f_Store_write_3 N (nI at') (nI wd) x (nI i) s = some s' ∧ f_M_remember_186 N' (nI k) z (nI wd) x (lN at') (nI i) t = f_M_remember_236 (nI k) z t' ∧ (∀ a, a ≠ 34 → s' a = s a) ∧ t'.2 = t.2 ∧ (∀ a, a ≠ 29 → t'.1 a = t.1 a) ∧ ∀ a, a < 256 → s' 34 a = t'.1 29 a := by
  intro d
  induction d with
  | zero =>
    intro i N N' s t hi hN hN' hm
    obtain ⟨N, rfl⟩ : ∃ q, N = q + 1 := ⟨N - 1, by omega⟩
    obtain ⟨N', rfl⟩ : ∃ q, N' = q + 1 := ⟨N' - 1, by omega⟩
    refine ⟨s, t, ?_, ?_, fun _ _ => rfl, rfl, fun _ _ => rfl, hm⟩
    · rw [f_Store_write_3]
      simp only [f_Store_write_43]
      rw [if_pos (show nI wd ≤ nI i from nI_le (by omega) (by omega)), ite_self]
    · rw [f_M_remember_186, if_pos (show nI wd ≤ nI i from nI_le (by omega) (by omega))]
  | succ d ih =>
    intro i N N' s t hi hN hN' hm
    obtain ⟨N, rfl⟩ : ∃ q, N = q + 1 := ⟨N - 1, by omega⟩
    obtain ⟨N', rfl⟩ : ∃ q, N' = q + 1 := ⟨N' - 1, by omega⟩
    obtain ⟨s', t', h1, h2, h3, h4, h5, h6⟩ := ih (i + 1) N N' (stp s 34 (at' + i) ((x >>> ((8 * nI i) &&& 31)) &&& 255)) (stI t 29 (at' + i) ((x >>> ((8 * nI i) &&& 31)) &&& 255)) (by omega) (by omega) (by omega) (by
      intro a h
      rw [stI1, stp_row, stp_row]
      by_cases e : a = at' + i
      · rw [e, pk_us, pk_us]
      · rw [pk_un e, pk_un e]; exact hm a h)
    refine ⟨s', t', ?_, ?_, fun a q => by rw [h3 a q, stp_ne _ _ _ q], h4, fun a q => by rw [h5 a q, stI1, stp_ne _ _ _ q], h6⟩
    · rw [f_Store_write_3, if_neg (show ¬ 4 ≤ nI i from nI_ge (b := 4) (by omega) (by decide)), if_neg (show ¬ nI wd ≤ nI i from nI_ge (by omega) (by omega))]
      simp only [lt1]
      rw [nI_add, byt2 x (by omega), rSet_n (by omega) (by decide), nI_1]
      exact h1
    · rw [f_M_remember_186, if_neg (show ¬ nI wd ≤ nI i from nI_ge (by omega) (by omega))]
      simp only [lt1]
      rw [lN_i, nI_add, gi_n (by omega) (by decide), nI_clamp (by omega), nI_1]
      exact h2
theorem st_x : ∀ o, o < 256 → kno o = true → 39 < o ∧ o < 60 → f_Op_isStore (nI o) = some (if 53 < o then 1 else 0) ∧ tks o = (if 53 < o then 2 else 1) ∧ gvs o = (if 53 < o then 0 else 1) ∧ 1 ≤ wdt o ∧ wdt o ≤ 4 := by decide +kernel
section ACC
variable {w : Cd} {k b la h c nG me mx p : Nat} {s : St} {t : SM}
theorem wk_acc (H : WC w k b la h c s t) (D : DR nG me mx s t p) (hacc : 39 < w.op k ∧ w.op k < 60) : Wk w k b la h c nG me mx s t := by
  have hb := H.b24; have hl := H.l28; have hh := H.h28; have htk := H.tk; have hk := H.k24; have hp4 := D.p4
  have ho := kno_lt H.kn
  have hb32 := H.ok.b32
  obtain ⟨n1, n2⟩ := na_x _ ho H.kn (by omega)
  obtain ⟨q1, q2, q3, q4⟩ := tk_x _ ho H.kn (by omega)
  obtain ⟨w1, w2, w3⟩ := wd_x _ ho H.kn hacc
  obtain ⟨y1, y2, y3, y4, y5⟩ := st_x _ ho H.kn hacc
  have hx : f_Store_work (nI (w.op k)) (xF (w.op k) (w.a k) (w.b k)) (nI b) (nI (b + h)) s = f_Store_access (nI (w.op k)) (nI (w.b k)) (nI (b + h)) s := by
    rw [f_Store_work, n1, bd1_some, if_neg (show ¬ 65 < w.op k by omega), if_pos rfl, n2, bd1_some, if_pos hacc, if_neg (by decide), xF, if_neg (by omega), if_pos hacc]
    cases f_Store_access (nI (w.op k)) (nI (w.b k)) (nI (b + h)) s <;> rfl
  have hm0 : f_M_remember (nI k) t = if nI (w.op k) ≤ 53 then f_M_remember_138 (nI k) (nI (w.op k)) (nI (wdt (w.op k))) 0 t else bd (f_M_pull t) fun r4 s3 => f_M_remember_138 (nI k) (nI (w.op k)) (nI (wdt (w.op k))) r4 s3 := by
    rw [f_M_remember, gi_n (show k < 250 by omega) (by decide), nI_clamp (by omega), H.row.c0]
    simp only [lt1, w2, bd1_some]
    simp (disch := omega) only [nI_leI, nI_ltI, nI_eq, if_pos, if_neg, if_true, if_false , lit_63, lit_64]
  rw [Wk, hx, pf_rem H (by omega), hm0, f_Store_access, w1, q1, y2, y3]
  simp only [lt1, bd1_some, f_Store_access_111]
  by_cases h53 : 53 < w.op k
  · simp only [if_pos h53]
    rw [y2, if_pos h53] at htk
    obtain ⟨g, rfl⟩ : ∃ g, h = g + 2 := ⟨h - 2, by omega⟩
    have p1 : f_M_pull t = _ := pull_n (q := la + g + 1) (by rw [H.win.sp]; rfl) (by omega)
    have p2 : f_M_pull (stI t 0 23 (nI (la + g + 1))) = _ := pull_n (q := la + g) (by rw [stI1, stp_eq]) (by omega)
    have r1 : s 36 (b + (g + 2) - 1) = t.1 35 (la + g + 1) := H.win.eq (g + 1) (by omega)
    have r2 : s 36 (b + (g + 2) - 2) = t.1 35 (la + g) := H.win.eq g (by omega)
    obtain ⟨a, ha, ea⟩ := wb_of32 (t.1 35 (la + g))
    have m138 : ∀ y, f_M_remember_138 (nI k) (nI (w.op k)) (nI (wdt (w.op k))) y (stI t 0 23 (nI (la + g + 1))) = if a + w.b k + wdt (w.op k) ≤ 64 * p then f_M_remember_186 FU (nI k) (nI (w.op k)) (nI (wdt (w.op k))) y (lN (a + w.b k)) 0 (stI (stI t 0 23 (nI (la + g + 1))) 0 23 (nI (la + g))) else some (5, stI (stI t 0 23 (nI (la + g + 1))) 0 23 (nI (la + g))) := by
      intro y
      rw [f_M_remember_138, p2, bd_some]
      simp only [lt1]
      rw [gi_n (show k < 250 by omega) (by decide), nI_clamp (show k < 2 ^ 31 by omega), show (stI t 0 23 (nI (la + g + 1))).1 35 (la + g) = t.1 35 (la + g) by simp (disch := first | decide | omega) only [stI1, stI2, stp_eq, stp_row, stp_ne, stp_nj ], ea, u32 ha, show (stI (stI t 0 23 (nI (la + g + 1))) 0 23 (nI (la + g))).2 16 k = lN (w.b k) from H.row.c2, lN_add, nI_l (by omega), lN_add, show (stI (stI t 0 23 (nI (la + g + 1))) 0 23 (nI (la + g))).1 0 18 = nI p by simp (disch := first | decide | omega) only [stI1, stI2, stp_eq, stp_row, stp_ne, stp_nj ]; exact D.pm, show (64 : Int32) * nI p = nI (64 * p) from pk_mul 64 p, nI_l (by omega), if_neg (show ¬ nI (w.op k) ≤ 53 from nI_ge (a := 53) h53 (by omega))]
      by_cases q : a + w.b k + wdt (w.op k) ≤ 64 * p
      · rw [if_pos q, if_pos ((lg_cmp_le _ _).mpr ((pk_lLE (by omega) (by omega)).mpr q))]
      · rw [if_neg q, if_neg (fun z => q ((pk_lLE (by omega) (by omega)).mp ((lg_cmp_le _ _).mp z)))]
    rw [if_neg (show ¬ nI (w.op k) ≤ 53 from nI_ge (a := 53) h53 (by omega)), p1, bd_some, m138, pk_sub (by omega), rGet_n (by omega) (by decide), r2, ea, u32 ha, u32 hb32, lN_add, nI_l (show wdt (w.op k) < 2 ^ 31 by omega), lN_add, D.px, show nI p * (64 : Int32) = nI (p * 64) from pk_mul p 64, nI_l (by omega), y1, if_pos h53, nsub1 (by omega), rGet_n (by omega) (by decide), r1]
    by_cases q : a + w.b k + wdt (w.op k) ≤ 64 * p
    · rw [if_pos q, if_pos ((lg_cmp_le _ _).mpr ((pk_lLE (by omega) (by omega)).mpr (by omega))), bd1_some, if_neg (by decide), f_Store_write, lN_i]
      obtain ⟨s', t', u1, u2, u3, u4, u5, u6⟩ := write2 (k := k) (z := nI (w.op k)) (x := t.1 35 (la + g + 1)) (show a + w.b k + wdt (w.op k) ≤ 256 by omega) y5 (wdt (w.op k)) 0 FU FU s (stI (stI t 0 23 (nI (la + g + 1))) 0 23 (nI (la + g))) (by omega) (by unfold FU; omega) (by unfold FU; omega) (by simp (disch := first | decide | omega) only [stI1, stI2, stp_eq, stp_row, stp_ne, stp_nj ]; exact D.mem)
      rw [show (0 : Int32) = nI 0 from rfl, u1, u2, bd1_some, r236 (c := c) (by rw [u5 0 (by decide)]; simp (disch := first | decide | omega) only [stI1, stI2, stp_eq, stp_row, stp_ne, stp_nj ]; exact H.cc) H.c9]
      refine ⟨_, _, _, rfl, rfl, Or.inl rfl, ⟨fun i i1 i2 i3 i4 => u3 i i2, fun j _ => by rw [u3 36 (by decide)]⟩, ?_, ⟨p, ?_⟩, fun _ => ⟨H.win.cut (h' := g + 2 - 2 + 0) (by omega) (u3 36 (by decide)) (by rw [stI1, stp_ne _ _ _ (by decide), u5 35 (by decide)]; simp (disch := first | decide | omega) only [stI1, stI2, stp_eq, stp_row, stp_ne, stp_nj ]) (by rw [stI1, stp_ne _ _ _ (by decide), u5 0 (by decide)]; simp (disch := first | decide | omega) only [stI1, stI2, stp_eq, stp_row, stp_ne, stp_nj ]; exact congrArg nI (by omega)), by simp (disch := first | decide | omega) only [stI1, stI2, stp_eq, stp_row, stp_ne, stp_nj ]⟩⟩
      · refine WM.p33 ⟨by rw [u4]; rfl, fun i i1 i2 i3 i4 i5 => by rw [u5 i i2]; simp (disch := first | decide | omega) only [stI1, stI2, stp_eq, stp_row, stp_ne, stp_nj ], fun i i1 i2 => by rw [u5 0 (by decide)]; simp (disch := first | decide | omega) only [stI1, stI2, stp_eq, stp_row, stp_ne, stp_nj ], fun i hi => by rw [u5 33 (by decide)]; simp (disch := first | decide | omega) only [stI1, stI2, stp_eq, stp_row, stp_ne, stp_nj ], fun i hi => by rw [u5 35 (by decide)]; simp (disch := first | decide | omega) only [stI1, stI2, stp_eq, stp_row, stp_ne, stp_nj ]⟩
      · refine ⟨by rw [stI1, stp_ne _ _ _ (by decide)]; exact u6, ?_, ?_, ?_, D.p4, D.pmx, ?_, ?_⟩
        · rw [u3 38 (by decide), stI1, stp_ne _ _ _ (by decide), u5 30 (by decide)]; simp (disch := first | decide | omega) only [stI1, stI2, stp_eq, stp_row, stp_ne, stp_nj ]; exact D.glb
        · rw [u3 5 (by decide)]; exact D.px
        · rw [stI1, stp_ne _ _ _ (by decide), u5 0 (by decide)]; simp (disch := first | decide | omega) only [stI1, stI2, stp_eq, stp_row, stp_ne, stp_nj ]; exact D.pm
        · rw [u3 5 (by decide)]; exact D.xm
        · rw [stI2, u4, stI1, stp_ne _ _ _ (by decide), u5 0 (by decide)]; simp (disch := first | decide | omega) only [stI1, stI2, stp_eq, stp_row, stp_ne, stp_nj ]; exact D.cap
    · rw [if_neg q, if_neg (fun z => q (by have := (pk_lLE (by omega) (by omega)).mp ((lg_cmp_le _ _).mp z); omega))]
      exact ⟨_, _, _, rfl, rfl, Or.inr (Or.inr (Or.inr rfl)), (by repeat first | assumption | exact WX.refl _ _ | refine WX.p36 (by omega) (by omega) ?_ | refine WX.pa (by decide) ?_), (by repeat first | assumption | exact WM.refl _ _ _ | refine WM.p33 ?_ | refine WM.p0 (by decide) ?_ | refine WM.pa (by decide) ?_ | refine WM.p35 (by omega) ?_), ⟨_, D.cg (by simp (disch := first | decide | omega) only [stI1, stI2, stp_eq, stp_row, stp_ne, stp_nj ]) (by simp (disch := first | decide | omega) only [stI1, stI2, stp_eq, stp_row, stp_ne, stp_nj ]) (by simp (disch := first | decide | omega) only [stI1, stI2, stp_eq, stp_row, stp_ne, stp_nj ]) (by simp (disch := first | decide | omega) only [stI1, stI2, stp_eq, stp_row, stp_ne, stp_nj ]) (by simp (disch := first | decide | omega) only [stI1, stI2, stp_eq, stp_row, stp_ne, stp_nj ]) (by simp (disch := first | decide | omega) only [stI1, stI2, stp_eq, stp_row, stp_ne, stp_nj ]) (by simp (disch := first | decide | omega) only [stI1, stI2, stp_eq, stp_row, stp_ne, stp_nj ]) (by simp (disch := first | decide | omega) only [stI1, stI2, stp_eq, stp_row, stp_ne, stp_nj ])⟩, fun z => absurd z (by decide)⟩
  · simp only [if_neg h53]
    rw [y2, if_neg h53] at htk
    obtain ⟨g, rfl⟩ : ∃ g, h = g + 1 := ⟨h - 1, by omega⟩
    have p2 : f_M_pull t = _ := pull_n (q := la + g) (by rw [H.win.sp]; rfl) (by omega)
    have r2 : s 36 (b + (g + 1) - 1) = t.1 35 (la + g) := H.win.eq g (by omega)
    obtain ⟨a, ha, ea⟩ := wb_of32 (t.1 35 (la + g))
    have p4 : ∀ x, f_M_give x (stI t 0 23 (nI (la + g))) = _ := fun x => give_n (q := la + g) (by rw [stI1, stp_eq]) (by omega)
    rw [if_pos (show nI (w.op k) ≤ 53 from nI_le (b := 53) (by omega) (by decide)), f_M_remember_138, p2, bd_some]
    simp only [lt1]
    rw [gi_n (show k < 250 by omega) (by decide), nI_clamp (show k < 2 ^ 31 by omega), ea, u32 ha, show (stI t 0 23 (nI (la + g))).2 16 k = lN (w.b k) from H.row.c2, lN_add, nI_l (show wdt (w.op k) < 2 ^ 31 by omega), lN_add, show (stI t 0 23 (nI (la + g))).1 0 18 = nI p by simp (disch := first | decide | omega) only [stI1, stI2, stp_eq, stp_row, stp_ne, stp_nj ]; exact D.pm, show (64 : Int32) * nI p = nI (64 * p) from pk_mul 64 p, nI_l (show 64 * p < 2 ^ 31 by omega), if_pos (show nI (w.op k) ≤ 53 from nI_le (b := 53) (by omega) (by decide))]
    rw [pk_sub (by omega), rGet_n (by omega) (by decide), r2, ea, u32 ha, u32 hb32, lN_add, lN_add, D.px, show nI p * (64 : Int32) = nI (p * 64) from pk_mul p 64, nI_l (show p * 64 < 2 ^ 31 by omega), y1, if_neg h53]
    by_cases q : a + w.b k + wdt (w.op k) ≤ 64 * p
    · obtain ⟨r, u1, u2⟩ := read2 (s := s) (t := stI t 0 23 (nI (la + g))) (by simp (disch := first | decide | omega) only [stI1, stI2, stp_eq, stp_row, stp_ne, stp_nj ]; exact D.mem) ho H.kn hacc (show a + w.b k + wdt (w.op k) ≤ 256 by omega) y5 (wdt (w.op k)) 0 FU FU 0 (by omega) (by unfold FU; omega) (by unfold FU; omega)
      rw [if_pos ((lg_cmp_le _ _).mpr ((pk_lLE (by omega) (by omega)).mpr (by omega))), if_pos ((lg_cmp_le _ _).mpr ((pk_lLE (by omega) (by omega)).mpr q)), bd1_some, if_pos rfl, f_Store_read, f_M_read, lN_i, show f_Store_read_5 s FU (nI (a + w.b k)) (nI (wdt (w.op k))) 0 0 = _ from u1, show f_M_read_5 (stI t 0 23 (nI (la + g))) FU (nI (w.op k)) (nI (a + w.b k)) 0 0 = _ from u2, bd1_some, bd1_some, sgn_x ho, bd1_some, p4, bd1_some, r236 (c := c) (by simp (disch := first | decide | omega) only [stI1, stI2, stp_eq, stp_row, stp_ne, stp_nj ]; exact H.cc) H.c9, rSet_n (by omega) (by decide)]
      exact ⟨_, _, _, rfl, rfl, Or.inl rfl, (by repeat first | assumption | exact WX.refl _ _ | refine WX.p36 (by omega) (by omega) ?_ | refine WX.pa (by decide) ?_), (by repeat first | assumption | exact WM.refl _ _ _ | refine WM.p33 ?_ | refine WM.p0 (by decide) ?_ | refine WM.pa (by decide) ?_ | refine WM.p35 (by omega) ?_), ⟨_, D.cg (by simp (disch := first | decide | omega) only [stI1, stI2, stp_eq, stp_row, stp_ne, stp_nj ]) (by simp (disch := first | decide | omega) only [stI1, stI2, stp_eq, stp_row, stp_ne, stp_nj ]) (by simp (disch := first | decide | omega) only [stI1, stI2, stp_eq, stp_row, stp_ne, stp_nj ]) (by simp (disch := first | decide | omega) only [stI1, stI2, stp_eq, stp_row, stp_ne, stp_nj ]) (by simp (disch := first | decide | omega) only [stI1, stI2, stp_eq, stp_row, stp_ne, stp_nj ]) (by simp (disch := first | decide | omega) only [stI1, stI2, stp_eq, stp_row, stp_ne, stp_nj ]) (by simp (disch := first | decide | omega) only [stI1, stI2, stp_eq, stp_row, stp_ne, stp_nj ]) (by simp (disch := first | decide | omega) only [stI1, stI2, stp_eq, stp_row, stp_ne, stp_nj ])⟩, fun _ => ⟨H.win.put (h' := g + 1 - 1 + 1) (j := g) (v := sgn (w.op k) r) (by omega) (by simp (disch := first | decide | omega) only [stI1, stI2, stp_eq, stp_row, stp_ne, stp_nj ]; rfl) (by simp (disch := first | decide | omega) only [stI1, stI2, stp_eq, stp_row, stp_ne, stp_nj ]) (by simp (disch := first | decide | omega) only [stI1, stI2, stp_eq, stp_row, stp_ne, stp_nj ]; exact congrArg nI (by omega)), by simp (disch := first | decide | omega) only [stI1, stI2, stp_eq, stp_row, stp_ne, stp_nj ]⟩⟩
    · rw [if_neg (fun z => q (by have := (pk_lLE (by omega) (by omega)).mp ((lg_cmp_le _ _).mp z); omega)), if_neg (fun z => q (by have := (pk_lLE (by omega) (by omega)).mp ((lg_cmp_le _ _).mp z); omega))]
      exact ⟨_, _, _, rfl, rfl, Or.inr (Or.inr (Or.inr rfl)), (by repeat first | assumption | exact WX.refl _ _ | refine WX.p36 (by omega) (by omega) ?_ | refine WX.pa (by decide) ?_), (by repeat first | assumption | exact WM.refl _ _ _ | refine WM.p33 ?_ | refine WM.p0 (by decide) ?_ | refine WM.pa (by decide) ?_ | refine WM.p35 (by omega) ?_), ⟨_, D.cg (by simp (disch := first | decide | omega) only [stI1, stI2, stp_eq, stp_row, stp_ne, stp_nj ]) (by simp (disch := first | decide | omega) only [stI1, stI2, stp_eq, stp_row, stp_ne, stp_nj ]) (by simp (disch := first | decide | omega) only [stI1, stI2, stp_eq, stp_row, stp_ne, stp_nj ]) (by simp (disch := first | decide | omega) only [stI1, stI2, stp_eq, stp_row, stp_ne, stp_nj ]) (by simp (disch := first | decide | omega) only [stI1, stI2, stp_eq, stp_row, stp_ne, stp_nj ]) (by simp (disch := first | decide | omega) only [stI1, stI2, stp_eq, stp_row, stp_ne, stp_nj ]) (by simp (disch := first | decide | omega) only [stI1, stI2, stp_eq, stp_row, stp_ne, stp_nj ]) (by simp (disch := first | decide | omega) only [stI1, stI2, stp_eq, stp_row, stp_ne, stp_nj ])⟩, fun z => absurd z (by decide)⟩
/-- every instruction that is not of control -/
theorem work2 (H : WC w k b la h c s t) (D : DR nG me mx s t p) (h16 : 16 < w.op k) (hG : nG ≤ 4) (hlo : 31 < w.op k ∧ w.op k < 35 → w.a k + tks (w.op k) < h) (hg : w.op k = 35 ∨ w.op k = 36 → w.a k < nG) (hme : 39 < w.op k ∧ w.op k < 65 → me = 1) : Wk w k b la h c nG me mx s t := by
  by_cases h65 : 65 < w.op k
  · exact wk_num H D h65
  by_cases hacc : 39 < w.op k ∧ w.op k < 60
  · exact wk_acc H D hacc
  have hkn := H.kn
  unfold kno at hkn
  simp only [Bool.or_eq_true, decide_eq_true_eq] at hkn
  have : w.op k = 26 ∨ w.op k = 27 ∨ w.op k = 32 ∨ w.op k = 33 ∨ w.op k = 34 ∨ w.op k = 35 ∨ w.op k = 36 ∨ w.op k = 63 ∨ w.op k = 64 ∨ w.op k = 65 := by omega
  rcases this with q | q | q | q | q | q | q | q | q | q
  · exact wk_26 H D q
  · exact wk_27 H D q
  · exact wk_32 H D q (by have := hlo (by omega); omega)
  · exact wk_33 H D q (by have := hlo (by omega); rw [q] at this; exact this)
  · exact wk_34 H D q (by have := hlo (by omega); rw [q] at this; exact this)
  · exact wk_35 H D q (hg (by omega)) hG
  · exact wk_36 H D q (hg (by omega)) hG
  · exact wk_63 H D q
  · exact wk_64 H D q (hme (by omega))
  · exact wk_65 H D q
end ACC
