-- validation: branches
theorem labAt {w : Cd} {k i nP : Nat} {s : St} (R : RwX w k (s 21)) (hk : k < 240) (h14 : w.op k = 14) (hi : i ≤ w.a k) (ha8 : w.a k ≤ 8) (hnP : nP ≤ 240) (hb : w.b k + w.a k < nP) (px : ∀ j, j < nP → s 23 (j * 1 + 0) = nI (w.pl j)) : f_Cont_labelAt s (nI k) (nI i) = some (nI (w.pl (w.b k + i))) := by
  have e1 : tGet 240 7 (s 21) (nI k) 1 = nI (w.a k) := by rw [tg_240_7_1 hk, R.c1, xF, h14, if_neg (by decide), if_neg (by decide)]
  have e2 : tGet 240 7 (s 21) (nI k) 2 = nI (w.b k) := by rw [tg_240_7_2 hk, R.c2, xS, h14, if_neg (by decide)]
  rw [f_Cont_labelAt]
  simp only [lt1, e1, f_Cont_labelAt_23, e2]
  rw [above_f hi (by omega), bd1_some, if_pos rfl, nI_add, tg_240_1_0 (by omega), px _ (by omega)]
theorem labAt_ex (s : St) (x y : Int32) : ∃ r, f_Cont_labelAt s x y = some r := by
  rw [f_Cont_labelAt]
  simp only [lt1, f_Cont_labelAt_23]
  rcases ab_01 y (tGet 240 7 (s 21) x 1) with q | q
  · rw [q, bd1_some, if_pos rfl]; exact ⟨_, rfl⟩
  · rw [q, bd1_some, if_neg (by decide)]; exact ⟨_, rfl⟩
theorem mcar_flt {t : SM} {x : Int32} {y : Int64} (h : ¬ t.1 0 5 ≤ 0) (h0 : ¬ t.1 0 5 = 0) : f_M_carried x y t = some (0, t) := by
  rw [f_M_carried]
  simp only [lt1, f_M_carried_16, mw_flt h0, bd1_some, if_neg h, ite_self]
section BR
variable {γ : Type} {s0 s : St} {t0 t : SM} {F kX : St → Option γ} {kM : SM → Option SM} {R : St → SM → Prop} {w : Cd} {v : Hv} {m : Md} {f rs k C nP : Nat}
theorem mcar {a : Nat} {t2 : SM} (I : VI w v f rs k s t) (W : WF w C) (hkC : k < C) (hC : C ≤ 240) (RM : ∀ k, k < C → RwM w k t) (hrs : f_M_resultsOf t2 (nI f) = some (nI rs)) (h16 : t2.1 0 16 = t.1 0 16) (h5 : t2.1 0 5 = 0) (h26 : t2.1 26 = t.1 26) (h14 : t2.1 14 = t.1 14) (hl : t2.2 = t.2) (ha : a < 2 ^ 32) :
    f_M_carried (nI f) (lN a) t2 = if a ≤ w.dp k then some (nI (tk w rs (ups w.ins a (w.ins k))), t2) else some (0, stI t2 0 5 3) := by
  have hd10 := W.d10 k (by omega)
  rw [f_M_carried, h16, I.m16, nI_l (by omega)]
  simp only [lt1, lcmp_le (show a < 2 ^ 63 by omega) (show w.dp k < 2 ^ 63 by omega), f_M_carried_16]
  by_cases hle : a ≤ w.dp k
  · rw [if_neg (by omega), if_pos hle, mw_t (by decide), bd1_some, h5, if_pos (show (0 : Int32) ≤ 0 by decide), lN_i, h16, I.m16, pk_sub hle, gi_n (show w.dp k - a < 16 by omega) (by decide), nI_clamp (by omega), h26]
    obtain ⟨dd, L, -, -, -⟩ := I.lv a hle
    rw [L.m26]
    have hcl := chain_le W (show k ≤ C by omega) a
    by_cases hc : ups w.ins a (w.ins k) = 0
    · rw [hc, if_pos neg1.symm, f_M_carried_64, f_M_arity, if_pos neg1.symm, hrs, bd1_some, f_M_arity_20, bd1_some, f_M_carried_71, tk, if_pos rfl]
    · rw [if_neg (nIm_ne hc (by omega))]
      obtain ⟨B, hB⟩ : ∃ B, ups w.ins a (w.ins k) = B + 1 := ⟨ups w.ins a (w.ins k) - 1, by omega⟩
      rw [hB, nI_pred, gi_n (show B < 250 by omega) (by decide), nI_clamp (by omega), h14, (RM B (by omega)).c0]
      have etk : tk w rs (B + 1) = if w.op B = 3 then 0 else w.a B := by rw [tk, if_neg (show ¬ B + 1 = 0 by omega), Nat.add_sub_cancel]
      rw [etk]
      have hop := (W.ok B (by omega)).2
      have hkn := (W.ok B (by omega)).1
      by_cases h3 : w.op B = 3
      · rw [h3, if_pos (show nI 3 = 3 from rfl), if_pos rfl, f_M_carried_71]; rfl
      · have hB256 : w.op B < 256 := by
          unfold kno at hkn
          simp only [Bool.or_eq_true, decide_eq_true_eq] at hkn
          omega
        -- a block of the chain is one that was opened
        have hopn : 2 ≤ w.op B ∧ w.op B ≤ 4 := by
          have key : ∀ j c, c ≤ k → (c ≠ 0 → 2 ≤ w.op (c - 1) ∧ w.op (c - 1) ≤ 4) → ups w.ins j c ≠ 0 → 2 ≤ w.op (ups w.ins j c - 1) ∧ w.op (ups w.ins j c - 1) ≤ 4 := by
            intro j
            induction j with
            | zero => intro c _ hc2 hne; exact hc2 hne
            | succ j ih =>
              intro c hck hc2 hne
              rw [ups] at hne ⊢
              by_cases h0 : c = 0
              · rw [h0, up_0, ups_0] at hne; exact absurd rfl hne
              · obtain ⟨b, rfl⟩ : ∃ b, c = b + 1 := ⟨c - 1, by omega⟩
                rw [up_s] at hne ⊢
                have hb1 := W.i1 b (by omega)
                exact ih _ (by omega) (fun z => (W.i2 b (by omega) z).1) hne
          have := key a (w.ins k) (W.i1 k (by omega)) (fun z => (W.i2 k (by omega) z).1) hc
          rw [hB, Nat.add_sub_cancel] at this
          exact this
        rw [if_neg (show ¬ nI (w.op B) = 3 from nI_ne (b := 3) h3 (by omega) (by decide)), if_neg h3, f_M_carried_64, f_M_arity]
        have hm1 : ¬ nI B = -1 := by
          have := nIm_ne (n := B + 1) (by omega) (by omega)
          rw [nI_pred] at this
          exact this
        rw [if_neg hm1, gi_n (show B < 250 by omega) (by decide), nI_clamp (by omega), hl, (RM B (by omega)).c1, mF, if_neg (by omega)]
        simp only [lt1, lN_i, f_M_arity_20, bd1_some, f_M_carried_71]
  · rw [if_pos (by omega), if_neg hle, mw_f h5, bd1_some, if_neg (by simp (disch := first | decide | omega) only [stp_eq, stp_ne, stp_nj, stI1, stI2, stL1, stL_eq, stL_ne, stL_nj, gi_n, nI_clamp ]; decide)]
theorem take_0 {d b dd h : Nat} (T : Tp d b dd h s t) : f_Val_take 0 s = some s := by
  have hd := T.d10
  have hb := T.bh
  have h4 := T.h40
  rw [f_Val_take, in_0 T.x0 hd, bd1_some, T.xb, T.x1, pk_sub hb]
  simp only [lt1]
  rw [if_neg (nI_pos (by omega)), show nI h - 0 = nI h from pk_sub (b := 0) (Nat.zero_le _), ← T.x1, stp_self]
theorem tby {a : Nat} (I : VI w v f rs k s t) (W : WF w C) (hkC : k < C) (ha : a ≤ w.dp k) : f_Val_takenBy s (nI a) = some (nI (tk w rs (ups w.ins a (w.ins k)))) := by
  have hd10 := W.d10 k (by omega)
  obtain ⟨dd, L, -, -, -⟩ := I.lv a ha
  rw [f_Val_takenBy, I.x0, nI_pred]
  simp only [lt1]
  rw [pk_sub ha, tg_11_6_2 (by omega), L.x2]
theorem tk_le {a : Nat} (W : WF w C) (hkC : k < C) (hrs : rs ≤ 1) : tk w rs (ups w.ins a (w.ins k)) ≤ 1 := by
  have hcl := chain_le W (show k ≤ C by omega) a
  unfold tk
  split
  · exact hrs
  · rename_i hc
    have key : ∀ j c, c ≤ k → (c ≠ 0 → 2 ≤ w.op (c - 1) ∧ w.op (c - 1) ≤ 4) → ups w.ins j c ≠ 0 → 2 ≤ w.op (ups w.ins j c - 1) ∧ w.op (ups w.ins j c - 1) ≤ 4 := by
      intro j
      induction j with
      | zero => intro c _ hc2 hne; exact hc2 hne
      | succ j ih =>
        intro c hck hc2 hne
        rw [ups] at hne ⊢
        by_cases h0 : c = 0
        · rw [h0, up_0, ups_0] at hne; exact absurd rfl hne
        · obtain ⟨b, rfl⟩ : ∃ b, c = b + 1 := ⟨c - 1, by omega⟩
          rw [up_s] at hne ⊢
          have hb1 := W.i1 b (by omega)
          exact ih _ (by omega) (fun z => (W.i2 b (by omega) z).1) hne
    have h1 := key a (w.ins k) (W.i1 k (by omega)) (fun z => (W.i2 k (by omega) z).1) hc
    split
    · omega
    · exact (W.ok _ (by omega)).2.blk h1
theorem vx_74 {e : Nat} {x1 x2 x3 x4 x5 y : Int32} (h : VX s0 e s) (hX9 : ∀ e s, VX s0 e s → okg F (kX s) (VX s0 e)) : okg F (bd1 (f_Val_judgeBranch_74 x1 x2 x3 x4 x5 y s) kX) (VX s0 e) := by
  rw [f_Val_judgeBranch_74]
  simp only [f_Val_judgeBranch_102, bd1_bd1, bd1_ite, bd1_some]
  refine vx_take h (fun s1 h1 => vx_take h1 (fun s2 h2 => ?_))
  split
  · exact vx_give h2 (fun s hs => hX9 _ _ hs)
  · exact vx_lead h2 (fun s hs => hX9 _ _ hs)
theorem vx_62 {e : Nat} {x1 x2 x3 x4 x5 : Int32} (h : VX s0 e s) (hX9 : ∀ e s, VX s0 e s → okg F (kX s) (VX s0 e)) : okg F (bd1 (f_Val_judgeBranch_62 x1 x2 x3 x4 x5 s) kX) (VX s0 e) := by
  rw [f_Val_judgeBranch_62]
  simp only [bd1_ite]
  split
  · exact vx_74 h hX9
  · exact vx_74 h hX9
theorem vx_places {e : Nat} {x1 x2 x3 : Int32} (h : VX s0 e s) : ∀ d i n, i + d = 8 → d < n → ∃ s', f_Val_judgePlaces_3 n x1 x2 x3 (nI i) s = some s' ∧ VX s0 e s' := by
  intro d
  induction d with
  | zero =>
    intro i n hi hn
    obtain ⟨n, rfl⟩ : ∃ q, n = q + 1 := ⟨n - 1, by omega⟩
    refine ⟨s, ?_, h⟩
    rw [f_Val_judgePlaces_3, if_pos (show (8 : Int32) ≤ nI i from nI_le (a := 8) (by omega) (by omega)), f_Val_judgePlaces_63]
  | succ d ih =>
    intro i n hi hn
    obtain ⟨n, rfl⟩ : ∃ q, n = q + 1 := ⟨n - 1, by omega⟩
    obtain ⟨s', hs', hv'⟩ := ih (i + 1) n (by omega) (by omega)
    obtain ⟨r, hr⟩ := labAt_ex s x1 (nI i)
    rw [f_Val_judgePlaces_3, if_neg (show ¬ (8 : Int32) ≤ nI i from nI_ge (b := 8) (by omega) (by decide)), hr]
    simp only [bd1_some, lt1, f_Val_judgePlaces_63, f_Val_judgePlaces_52, f_Val_judgePlaces_57, vr_flt h.ne, nI_1, f_Val_takenBy]
    by_cases hq : x2 ≤ nI i
    · rw [if_pos hq]; exact ⟨s, rfl, h⟩
    · rw [if_neg hq]
      rcases ab_01 r (s 3 0 - 1) with q | q
      · rw [q, bd1_some, if_pos rfl, ite_self]; exact ⟨s', hs', hv'⟩
      · rw [q, bd1_some, if_neg (by decide)]; exact ⟨s', hs', hv'⟩
theorem vx_40 {e : Nat} {x1 x2 x3 x4 : Int32} (h : VX s0 e s) (hX9 : ∀ e s, VX s0 e s → okg F (kX s) (VX s0 e)) : okg F (bd1 (f_Val_judgeBranch_40 x1 x2 x3 x4 s) kX) (VX s0 e) := by
  rw [f_Val_judgeBranch_40, f_Val_takenBy]
  simp only [lt1, bd1_some, bd1_ite, bd1_bd1]
  split
  · obtain ⟨s', hs', hv'⟩ := vx_places (x1 := x1) (x2 := x3) (x3 := tGet 11 6 (s 28) (s 3 0 - 1 - x4) 2) h 8 0 FU (by omega) (by unfold FU; omega)
    rw [f_Val_judgePlaces]
    refine okg.b1E hs' ?_
    exact vx_62 hv' hX9
  · exact vx_62 h hX9
end BR
