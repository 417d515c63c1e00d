-- validation: the other side's check of operands
section OPM
variable {w : Cd} {m : Md} {f k : Nat} {s : St} {t : SM}
theorem p192_flt {x y z : Int32} (h : ¬ t.1 0 5 ≤ 0) : f_M_validatePlain_192 x y z t = some t := by rw [f_M_validatePlain_192, if_neg h]
theorem p188_flt {x y z u : Int32} (h : ¬ t.1 0 5 ≤ 0) (h0 : ¬ t.1 0 5 = 0) : f_M_validatePlain_188 x y z u t = some t := by rw [f_M_validatePlain_188, mw_flt h0, bd1_some, p192_flt h]
theorem p141_flt {x : Int32} (hk : k < 250) (ho : w.op k < 256) (hkn : kno (w.op k) = true) (h : ¬ t.1 0 5 ≤ 0) (h0 : ¬ t.1 0 5 = 0) : f_M_validatePlain_141 x (nI k) (nI (w.op k)) t = some t := by
  rw [f_M_validatePlain_141]
  by_cases hacc : 39 < w.op k ∧ w.op k < 60
  · obtain ⟨w1, w2, w3⟩ := wd_x (w.op k) ho hkn hacc
    simp (disch := omega) only [nI_leI, nI_ltI, nI_eq, if_pos, if_neg, if_true, if_false , lit_39, lit_60]
    rw [gi_n hk (by decide), w2]
    simp only [lt1, bd1_some, f_M_validatePlain_178, p188_flt h h0, ite_self]
  · have : ∀ (A B : Option SM), (if nI (w.op k) ≤ 39 then A else if 60 ≤ nI (w.op k) then A else B) = A := by
      intro A B
      by_cases q : w.op k ≤ 39
      · simp (disch := omega) only [nI_leI, nI_ltI, nI_eq, if_pos, if_neg, if_true, if_false , lit_39, lit_60]
      · simp (disch := omega) only [nI_leI, nI_ltI, nI_eq, if_pos, if_neg, if_true, if_false , lit_39, lit_60]
    rw [this, p192_flt h]
theorem p112_flt {x : Int32} (hk : k < 250) (ho : w.op k < 256) (hkn : kno (w.op k) = true) (h : ¬ t.1 0 5 ≤ 0) (h0 : ¬ t.1 0 5 = 0) : f_M_validatePlain_112 x (nI k) (nI (w.op k)) t = some t := by
  rw [f_M_validatePlain_112]
  simp only [f_M_validatePlain_137, mw_flt h0, bd1_some, p141_flt hk ho hkn h h0, ite_self]
theorem p82_flt {x : Int32} (hk : k < 250) (ho : w.op k < 256) (hkn : kno (w.op k) = true) (h : ¬ t.1 0 5 ≤ 0) (h0 : ¬ t.1 0 5 = 0) : f_M_validatePlain_82 x (nI k) (nI (w.op k)) t = some t := by
  rw [f_M_validatePlain_82, if_neg h0, p112_flt hk ho hkn h h0]
def opmR (o : Nat) (t : SM) : Option SM := bd1 (f_M_pop (nI (tks o)) t) fun s2 => if gvs o = 0 then some s2 else bd1 (f_M_push 1 s2) fun s4 => some s4
theorem p192_ok {x y : Int32} (ho : w.op k < 256) (hkn : kno (w.op k) = true) (h16 : 16 < w.op k) (h0 : t.1 0 5 = 0) : f_M_validatePlain_192 x y (nI (w.op k)) t = opmR (w.op k) t := by
  obtain ⟨q1, q2, q3, q4⟩ := tk_x (w.op k) ho hkn h16
  rw [f_M_validatePlain_192, if_pos (by rw [h0]; decide), q2, bd1_some, q4, opmR]
  simp only [bd1_some, f_M_validatePlain_220]
  have hg : gvs (w.op k) = 0 ∨ gvs (w.op k) = 1 := by unfold gvs; split; exact Or.inl rfl; exact Or.inr rfl
  rcases hg with q | q
  · simp only [q, if_pos (show nI 0 = 0 from rfl), if_true]
  · simp only [q, if_neg (show ¬ nI 1 = 0 by decide), if_neg (show ¬ 1 = 0 by decide)]
theorem opm (E : Env m s t) (hf : f < m.nF) (hk : k < 240) (ho : w.op k < 256) (hkn : kno (w.op k) = true) (h16 : 16 < w.op k) (hok : oko (w.op k) (w.a k) (w.b k)) (R : RwM w k t) (h0 : t.1 0 5 = 0) :
    (vop w m f k → f_M_validatePlain (nI f) (nI k) t = opmR (w.op k) t) ∧ (¬ vop w m f k → f_M_validatePlain (nI f) (nI k) t = some (stI t 0 5 3)) := by
  have h8 := E.nF8
  have hp4 := E.p4 f hf
  have hG := E.nG4
  have hm1 := E.me1
  have ha := hok.a32
  have hk2 : k < 250 := by omega
  have hkn' := hkn
  unfold kno at hkn'
  simp only [Bool.or_eq_true, decide_eq_true_eq] at hkn'
  have f1 : ¬ (stI t 0 5 3).1 0 5 ≤ 0 := by simp (disch := first | decide | omega) only [stp_eq, stp_ne, stp_nj, stI1, stI2, stL1, stL_eq, stL_ne, stL_nj, gi_n, nI_clamp ]; decide
  have f2 : ¬ (stI t 0 5 3).1 0 5 = 0 := by simp (disch := first | decide | omega) only [stp_eq, stp_ne, stp_nj, stI1, stI2, stL1, stL_eq, stL_ne, stL_nj, gi_n, nI_clamp ]; decide
  have wf : ∀ x, f_M_will x 3 t = some (if x = 0 then stI t 0 5 3 else t) := by
    intro x
    by_cases hx : x = 0
    · rw [if_pos hx, hx]; exact mw_f h0 3
    · rw [if_neg hx]; exact mw_t hx 3
  have c1 : ¬ w.op k = 65 → t.2 15 k = lN (w.a k) := by intro q; rw [R.c1, mF, if_neg q]
  -- the last checks
  have h192 : ∀ x y, f_M_validatePlain_192 x y (nI (w.op k)) t = opmR (w.op k) t := fun x y => p192_ok ho hkn h16 h0
  have h141 : (39 < w.op k ∧ w.op k < 60 → w.a k ≤ wx (w.op k)) → f_M_validatePlain_141 (nI f) (nI k) (nI (w.op k)) t = opmR (w.op k) t := by
    intro hw
    rw [f_M_validatePlain_141]
    by_cases hacc : 39 < w.op k ∧ w.op k < 60
    · obtain ⟨w1, w2, w3⟩ := wd_x (w.op k) ho hkn hacc
      have hle := hw hacc
      simp (disch := omega) only [nI_leI, nI_ltI, nI_eq, if_pos, if_neg, if_true, if_false , lit_39, lit_60]
      rw [gi_n hk2 (by decide), w2, nI_clamp (by omega), c1 (by omega)]
      simp only [lt1, bd1_some, f_M_validatePlain_178, f_M_validatePlain_188]
      have key : ∀ x : Nat, w.a k ≤ x → x < 10 → (if 0 < lg_cmp (lN (w.a k)) (Int32.toInt64 (nI x)) then bd1 (f_M_will 0 3 t) fun s1 => f_M_validatePlain_192 (nI f) (nI k) (nI (w.op k)) s1 else bd1 (f_M_will 1 3 t) fun s1 => f_M_validatePlain_192 (nI f) (nI k) (nI (w.op k)) s1) = opmR (w.op k) t := by
        intro x hx hx2
        rw [nI_l (by omega), if_neg (fun q => absurd ((lcmp_le (by omega) (by omega)).mp q) (by omega)), mw_t (by decide), bd1_some, h192]
      by_cases h4 : wdt (w.op k) = 4
      · rw [h4, if_pos (show nI 4 = 4 from rfl)]
        refine key 2 ?_ (by decide)
        unfold wdt at h4; unfold wx at hle
        split at h4
        · rename_i q; rw [if_pos q] at hle; exact hle
        · split at h4 <;> omega
      · obtain ⟨x, hx⟩ : ∃ x, wdt (w.op k) = x + 1 := ⟨wdt (w.op k) - 1, by unfold wdt; split; omega; split <;> omega⟩
        have hx4 : x < 4 := by unfold wdt at hx; split at hx; omega; split at hx <;> omega
        have n4 : ¬ nI (wdt (w.op k)) = 4 := fun q => h4 ((nI_eq (b := 4) (by omega) (by decide)).mp q)
        rw [if_neg n4, hx, nI_pred]
        refine key x ?_ (by omega)
        unfold wdt at hx h4; unfold wx at hle
        by_cases q : w.op k = 40 ∨ w.op k = 54
        · rw [if_pos q] at h4; omega
        · rw [if_neg q] at hx hle
          by_cases q2 : w.op k = 46 ∨ w.op k = 47 ∨ w.op k = 59
          · rw [if_pos q2] at hx hle; omega
          · rw [if_neg q2] at hx hle; omega
    · have : ∀ (A B : Option SM), (if nI (w.op k) ≤ 39 then A else if 60 ≤ nI (w.op k) then A else B) = A := by
        intro A B
        by_cases q : w.op k ≤ 39
        · simp (disch := omega) only [nI_leI, nI_ltI, nI_eq, if_pos, if_neg, if_true, if_false , lit_39, lit_60]
        · simp (disch := omega) only [nI_leI, nI_ltI, nI_eq, if_pos, if_neg, if_true, if_false , lit_39, lit_60]
      rw [this, h192]
  have h141n : (39 < w.op k ∧ w.op k < 60) → ¬ w.a k ≤ wx (w.op k) → f_M_validatePlain_141 (nI f) (nI k) (nI (w.op k)) t = some (stI t 0 5 3) := by
    intro hacc hle
    rw [f_M_validatePlain_141]
    obtain ⟨w1, w2, w3⟩ := wd_x (w.op k) ho hkn hacc
    simp (disch := omega) only [nI_leI, nI_ltI, nI_eq, if_pos, if_neg, if_true, if_false , lit_39, lit_60]
    rw [gi_n hk2 (by decide), w2, nI_clamp (by omega), c1 (by omega)]
    simp only [lt1, bd1_some, f_M_validatePlain_178, f_M_validatePlain_188]
    have key : ∀ x : Nat, ¬ w.a k ≤ x → x < 10 → (if 0 < lg_cmp (lN (w.a k)) (Int32.toInt64 (nI x)) then bd1 (f_M_will 0 3 t) fun s1 => f_M_validatePlain_192 (nI f) (nI k) (nI (w.op k)) s1 else bd1 (f_M_will 1 3 t) fun s1 => f_M_validatePlain_192 (nI f) (nI k) (nI (w.op k)) s1) = some (stI t 0 5 3) := by
      intro x hx hx2
      rw [nI_l (by omega), if_pos ((lcmp_le (by omega) (by omega)).mpr (by omega)), mw_f h0, bd1_some, p192_flt f1]
    by_cases h4 : wdt (w.op k) = 4
    · rw [h4, if_pos (show nI 4 = 4 from rfl)]
      refine key 2 ?_ (by decide)
      unfold wdt at h4; unfold wx at hle
      split at h4
      · rename_i q; rw [if_pos q] at hle; exact hle
      · split at h4 <;> omega
    · obtain ⟨x, hx⟩ : ∃ x, wdt (w.op k) = x + 1 := ⟨wdt (w.op k) - 1, by unfold wdt; split; omega; split <;> omega⟩
      have hx4 : x < 4 := by unfold wdt at hx; split at hx; omega; split at hx <;> omega
      have n4 : ¬ nI (wdt (w.op k)) = 4 := fun q => h4 ((nI_eq (b := 4) (by omega) (by decide)).mp q)
      rw [if_neg n4, hx, nI_pred]
      refine key x ?_ (by omega)
      unfold wdt at hx h4; unfold wx at hle
      by_cases q : w.op k = 40 ∨ w.op k = 54
      · rw [if_pos q] at h4; omega
      · rw [if_neg q] at hx hle
        by_cases q2 : w.op k = 46 ∨ w.op k = 47 ∨ w.op k = 59
        · rw [if_pos q2] at hx hle; omega
        · rw [if_neg q2] at hx hle; omega
  have h112 : (39 < w.op k ∧ w.op k < 65 → m.me = 1) → (39 < w.op k ∧ w.op k < 60 → w.a k ≤ wx (w.op k)) → f_M_validatePlain_112 (nI f) (nI k) (nI (w.op k)) t = opmR (w.op k) t := by
    intro hme hw
    rw [f_M_validatePlain_112]
    by_cases hr : 39 < w.op k ∧ w.op k < 65
    · simp (disch := omega) only [nI_leI, nI_ltI, nI_eq, if_pos, if_neg, if_true, if_false , lit_39, lit_65]
      rw [E.mm, hme hr, if_neg (show ¬ nI 1 ≤ 0 by decide), f_M_validatePlain_137, mw_t (by decide), bd1_some, h141 hw]
    · have : ∀ (A B : Option SM), (if nI (w.op k) ≤ 39 then A else if 65 ≤ nI (w.op k) then A else B) = A := by
        intro A B
        by_cases q : w.op k ≤ 39
        · simp (disch := omega) only [nI_leI, nI_ltI, nI_eq, if_pos, if_neg, if_true, if_false , lit_39, lit_65]
        · simp (disch := omega) only [nI_leI, nI_ltI, nI_eq, if_pos, if_neg, if_true, if_false , lit_39, lit_65]
      rw [this, h141 hw]
  have h112n : ¬ ((39 < w.op k ∧ w.op k < 65 → m.me = 1) ∧ (39 < w.op k ∧ w.op k < 60 → w.a k ≤ wx (w.op k))) → f_M_validatePlain_112 (nI f) (nI k) (nI (w.op k)) t = some (stI t 0 5 3) := by
    intro hn
    have hr : 39 < w.op k ∧ w.op k < 65 := by
      by_cases q : 39 < w.op k ∧ w.op k < 65
      · exact q
      · exact absurd ⟨fun z => absurd z q, fun z => absurd ⟨z.1, by omega⟩ q⟩ hn
    rw [f_M_validatePlain_112]
    simp (disch := omega) only [nI_leI, nI_ltI, nI_eq, if_pos, if_neg, if_true, if_false , lit_39, lit_65]
    by_cases hme : m.me = 1
    · have hw : (39 < w.op k ∧ w.op k < 60) ∧ ¬ w.a k ≤ wx (w.op k) := by
        by_cases q : 39 < w.op k ∧ w.op k < 60
        · refine ⟨q, fun z => hn ⟨fun _ => hme, fun _ => z⟩⟩
        · exact absurd ⟨fun _ => hme, fun z => absurd z q⟩ hn
      rw [E.mm, hme, if_neg (show ¬ nI 1 ≤ 0 by decide), f_M_validatePlain_137, mw_t (by decide), bd1_some, h141n hw.1 hw.2]
    · rw [E.mm, show m.me = 0 by omega, if_pos (show nI 0 ≤ 0 by decide), f_M_validatePlain_137, mw_f h0, bd1_some, p141_flt hk2 ho hkn f1 f2]
  rw [f_M_validatePlain, gi_n hk2 (by decide)]
  simp only [lt1, nI_clamp (show k < 2 ^ 31 by omega), R.c0, f_M_validatePlain_41]
  by_cases hL : 31 < w.op k ∧ w.op k < 35
  · simp (disch := omega) only [nI_leI, nI_ltI, nI_eq, if_pos, if_neg, if_true, if_false , lit_31, lit_35]
    rw [gi_n hk2 (by decide), E.lcM hf, c1 (by omega)]
    simp only [lt1, bd1_some, nI_l (show m.loc f < 2 ^ 31 by omega), lcmp_ge (show w.a k < 2 ^ 63 by omega) (show m.loc f < 2 ^ 63 by omega)]
    have h45 : f_M_validatePlain_45 (nI f) (nI k) (nI (w.op k)) t = opmR (w.op k) t := by
      rw [f_M_validatePlain_45, f_M_validatePlain_82, h0]
      simp (disch := omega) only [nI_leI, nI_ltI, nI_eq, if_pos, if_neg, if_true, if_false , lit_35, lit_36]
      exact h112 (fun q => by omega) (fun q => by omega)
    have h45n : f_M_validatePlain_45 (nI f) (nI k) (nI (w.op k)) (stI t 0 5 3) = some (stI t 0 5 3) := by
      rw [f_M_validatePlain_45]
      simp (disch := omega) only [nI_leI, nI_ltI, nI_eq, if_pos, if_neg, if_true, if_false , lit_35, lit_36]
      exact p82_flt hk2 ho hkn f1 f2
    refine ⟨fun q => ?_, fun q => ?_⟩
    · have := q.1 hL
      rw [if_neg (by omega), mw_t (by decide), bd1_some, h45]
    · have : ¬ w.a k < m.loc f := fun z => q ⟨fun _ => z, fun z => by omega, fun z => by omega, fun z => by omega, fun z => by omega⟩
      rw [if_pos (by omega), mw_f h0, bd1_some, h45n]
  · have h1 : ∀ (A B : Option SM), (if nI (w.op k) ≤ 31 then A else if 35 ≤ nI (w.op k) then A else B) = A := by
      intro A B
      by_cases q : w.op k ≤ 31
      · simp (disch := omega) only [nI_leI, nI_ltI, nI_eq, if_pos, if_neg, if_true, if_false , lit_31, lit_35]
      · simp (disch := omega) only [nI_leI, nI_ltI, nI_eq, if_pos, if_neg, if_true, if_false , lit_31, lit_35]
    rw [h1, f_M_validatePlain_45]
    simp only [f_M_validatePlain_57, f_M_validatePlain_78]
    by_cases hg : w.op k = 35 ∨ w.op k = 36
    · have h2 : ∀ (A B : Option SM), (if nI (w.op k) = 35 then A else if nI (w.op k) = 36 then A else B) = A := by
        intro A B
        rcases hg with q | q
        · simp (disch := omega) only [nI_leI, nI_ltI, nI_eq, if_pos, if_neg, if_true, if_false , lit_35, lit_36]
        · simp (disch := omega) only [nI_leI, nI_ltI, nI_eq, if_pos, if_neg, if_true, if_false , lit_35, lit_36]
      rw [h2, gi_n hk2 (by decide), nI_clamp (by omega), c1 (by omega), E.m11]
      simp only [lt1, nI_l (show m.nG < 2 ^ 31 by omega), lcmp_ge (show w.a k < 2 ^ 63 by omega) (show m.nG < 2 ^ 63 by omega)]
      by_cases hag : w.a k < m.nG
      · rw [if_neg (by omega), mw_t (by decide), bd1_some, f_M_validatePlain_82, h0, if_pos rfl]
        by_cases h36 : w.op k = 36
        · obtain ⟨g1, g2, g3⟩ := E.gX (w.a k) hag
          simp (disch := omega) only [nI_leI, nI_ltI, nI_eq, if_pos, if_neg, if_true, if_false , lit_36]
          rw [gi_n hk2 (by decide), nI_clamp (by omega), c1 (by omega)]
          simp only [lt1, lN_i]
          rw [gi_n (show w.a k < 4 by omega) (by decide), nI_clamp (by omega), g2]
          refine ⟨fun q => ?_, fun q => ?_⟩
          · rw [q.2.2.1 h36 hag, mw_t (show ¬ nI 1 = 0 by decide), bd1_some]
            exact h112 (fun q => by omega) (fun q => by omega)
          · have hc : m.ch (w.a k) = 0 := by
              by_cases z : m.ch (w.a k) = 1
              · exact absurd ⟨fun z => by omega, fun _ => hag, fun _ _ => z, fun z => by omega, fun z => by omega⟩ q
              · omega
            rw [hc, show nI 0 = 0 from rfl, mw_f h0, bd1_some, p112_flt hk2 ho hkn f1 f2]
        · simp (disch := omega) only [nI_leI, nI_ltI, nI_eq, if_pos, if_neg, if_true, if_false , lit_36]
          refine ⟨fun q => h112 (fun q => by omega) (fun q => by omega), fun q => absurd ⟨fun z => by omega, fun _ => hag, fun z => by omega, fun z => by omega, fun z => by omega⟩ q⟩
      · refine ⟨fun q => absurd (q.2.1 hg) hag, fun _ => ?_⟩
        rw [if_pos (by omega), mw_f h0, bd1_some, p82_flt hk2 ho hkn f1 f2]
    · simp (disch := omega) only [nI_leI, nI_ltI, nI_eq, if_pos, if_neg, if_true, if_false , lit_35, lit_36]
      rw [f_M_validatePlain_82, h0, if_pos rfl]
      simp (disch := omega) only [nI_leI, nI_ltI, nI_eq, if_pos, if_neg, if_true, if_false , lit_36]
      refine ⟨fun q => h112 q.2.2.2.1 q.2.2.2.2, fun q => h112n (fun z => q ⟨fun z => absurd z hL, fun z => absurd z hg, fun z => by omega, z.1, z.2⟩)⟩
end OPM
