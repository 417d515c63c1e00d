-- the calls that need no more than what is there
section SMP
variable {s : St} {t : SM}
theorem IV.feed (x : Int32) (H : IV s t) : ∃ (r : Int32) (s1 : St) (t1 : SM), f_X_feed x s = some (r, s1) ∧ f_M_feed x t = some (r, t1) ∧ IV s1 t1 := by
  obtain ⟨B, H2⟩ := H
  have no : ∃ (r : Int32) (s1 : St) (t1 : SM), f_X_feed_22 x s = some (r, s1) ∧ f_M_feed_33 x (stI t 0 0 0) = some (r, t1) ∧ IV s1 t1 := by
    refine ⟨0, s, stI t 0 0 0, ?_, ?_, IV.code ⟨B, H2⟩⟩
    · rw [f_X_feed_22, f_X_feed_23, bz0]
    · rw [f_M_feed_33, bz0]
  rcases H2 with N | ⟨w, v, m, C, nP, mx, Q⟩
  · obtain ⟨fed, hfed, hs1, ht1⟩ := B.f
    have ea : ∀ y, f_Rd_append_30 y s = some (0, s) := fun y => by rw [f_Rd_append_30, bz0]
    rw [f_X_feed, if_pos N.x1, f_M_feed, lt1, if_pos (show (stI t 0 0 0).1 0 2 = 0 by simp (disch := first | decide | omega) only [stI1, stI2, stp_eq, stp_row, stp_ne, stp_nj ]; exact N.m2), f_Rd_append, ea]
    by_cases h1 : x < 0
    · rw [if_pos h1, if_pos h1, bd_some, if_pos rfl]; exact no
    rw [if_neg h1, if_neg h1]
    by_cases h2 : 255 < x
    · rw [if_pos h2, if_pos h2, bd_some, if_pos rfl]; exact no
    rw [if_neg h2, if_neg h2, hs1, if_neg (nI_pos (by omega)), show (stI t 0 0 0).1 0 1 = nI fed by simp (disch := first | decide | omega) only [stI1, stI2, stp_eq, stp_row, stp_ne, stp_nj ]; exact ht1]
    by_cases h3 : fed < 240
    · have hb : ∃ b, b < 256 ∧ x = nI b := by
        obtain ⟨b, hb, e⟩ := wb_of32 x
        have hb31 : b < 2 ^ 31 := by
          by_cases q : b < 2 ^ 31
          · exact q
          · exfalso
            apply h1
            rw [e, Int32.lt_iff_toInt_lt]
            show (Int32.ofNat b).toInt < 0
            rw [Int32.toInt_ofNat']
            simp only [Int.bmod, Int32.size]
            omega
        refine ⟨b, ?_, e⟩
        by_cases q : b < 256
        · exact q
        · exfalso
          apply h2
          rw [e]
          exact nI_lt (a := 255) (by omega) hb31
      obtain ⟨b, hb, eb⟩ := hb
      rw [if_pos (show nI fed < 240 from nI_lt (b := 240) h3 (by decide)), gi_n h3 (by decide), nI_clamp (by omega), lt1, stp_ne _ _ _ (by decide), hs1, nI_1, lt1, lt1, bz1, bd_some, if_neg (by decide), f_X_feed_23, bz1, if_neg (show ¬ nI fed = 240 from fun q => absurd ((nI_eq (b := 240) (by omega) (by decide)).mp q) (by omega)), gi_n h3 (by decide), lt1, show (stI (stI t 0 0 0) 1 fed x).1 0 1 = nI fed by simp (disch := first | decide | omega) only [stI1, stI2, stp_eq, stp_row, stp_ne, stp_nj ]; exact ht1, nI_1, lt1, lt1, bz1]
      refine ⟨_, _, _, rfl, rfl, ⟨⟨fed + 1, by omega, by simp (disch := first | decide | omega) only [stI1, stI2, stp_eq, stp_row, stp_ne, stp_nj ], by simp (disch := first | decide | omega) only [stI1, stI2, stp_eq, stp_row, stp_ne, stp_nj ]⟩, fun j hj => ?_⟩, Or.inl ⟨by simp (disch := first | decide | omega) only [stI1, stI2, stp_eq, stp_row, stp_ne, stp_nj ]; exact N.x1, by simp (disch := first | decide | omega) only [stI1, stI2, stp_eq, stp_row, stp_ne, stp_nj ]; exact N.x0, by simp (disch := first | decide | omega) only [stI1, stI2, stp_eq, stp_row, stp_ne, stp_nj ]; exact N.x2, by simp (disch := first | decide | omega) only [stI1, stI2, stp_eq, stp_row, stp_ne, stp_nj ]; exact N.x3, by simp (disch := first | decide | omega) only [stI1, stI2, stp_eq, stp_row, stp_ne, stp_nj ]; exact N.x4, by simp (disch := first | decide | omega) only [stI1, stI2, stp_eq, stp_row, stp_ne, stp_nj ]; exact N.m2, by simp (disch := first | decide | omega) only [stI1, stI2, stp_eq, stp_row, stp_ne, stp_nj ]; exact N.m18, by simp (disch := first | decide | omega) only [stI1, stI2, stp_eq, stp_row, stp_ne, stp_nj ]; exact N.m19, by simp (disch := first | decide | omega) only [stI1, stI2, stp_eq, stp_row, stp_ne, stp_nj ]; exact N.m20, by simp (disch := first | decide | omega) only [stI1, stI2, stp_eq, stp_row, stp_ne, stp_nj ]; exact N.m21, by simp (disch := first | decide | omega) only [stI1, stI2, stp_eq, stp_row, stp_ne, stp_nj ]; exact N.m24, by simp (disch := first | decide | omega) only [stI1, stI2, stp_eq, stp_row, stp_ne, stp_nj ]; exact N.m25⟩⟩
      by_cases e : j = fed
      · exact ⟨b, hb, by rw [e, stp_ne _ _ _ (by decide), stp_eq, eb], by rw [e]; simp (disch := first | decide | omega) only [stI1, stI2, stp_eq, stp_row, stp_ne, stp_nj ]; exact eb⟩
      · obtain ⟨b', c1, c2, c3⟩ := B.b j hj
        exact ⟨b', c1, by rw [stp_ne _ _ _ (by decide), stp_nj _ _ _ e]; exact c2, by simp (disch := first | decide | omega) only [stI1, stI2, stp_eq, stp_row, stp_ne, stp_nj ]; exact c3⟩
    · rw [if_neg (show ¬ nI fed < 240 from fun q => h3 ((nI_ltI (b := 240) (by omega) (by decide)).mp q)), bd_some, if_pos rfl, if_pos (show nI fed = 240 by rw [show fed = 240 by omega]; rfl)]; exact no
  · rw [f_X_feed, if_neg (show ¬ s 0 1 = 0 by rw [Q.x1]; decide), f_M_feed, lt1, if_neg (show ¬ (stI t 0 0 0).1 0 2 = 0 by simp (disch := first | decide | omega) only [stI1, stI2, stp_eq, stp_row, stp_ne, stp_nj ]; rw [Q.m2]; decide)]
    exact no
theorem IV.arg (x : Int32) (H : IV s t) : ∃ (r : Int32) (s1 : St) (t1 : SM), f_X_arg x s = some (r, s1) ∧ f_M_arg x t = some (r, t1) ∧ IV s1 t1 := by
  have Hc : IV s (stI t 0 0 0) := H.code
  have no : ∃ (r : Int32) (s1 : St) (t1 : SM), f_X_arg_23 x s = some (r, s1) ∧ f_M_arg_27 x (stI t 0 0 0) = some (r, t1) ∧ IV s1 t1 := ⟨0, s, stI t 0 0 0, by rw [f_X_arg_23, bz0], by rw [f_M_arg_27, bz0], Hc⟩
  obtain ⟨B, H2⟩ := Hc
  rw [f_M_arg, lt1]
  rcases H2 with N | ⟨w, v, m, C, nP, mx, Q⟩
  · rw [f_X_arg, if_pos N.x1, if_pos N.m2]; exact no
  · rw [f_X_arg, if_neg (show ¬ s 0 1 = 0 by rw [Q.x1]; decide), if_neg (show ¬ (stI t 0 0 0).1 0 2 = 0 by rw [Q.m2]; decide)]
    have run : s 0 3 ≠ -1 → ¬ (stI t 0 0 0).1 0 20 = 0 → ∃ (r : Int32) (s1 : St) (t1 : SM), (if s 0 3 = -1 then if s 0 0 < 4 then lt1 (rSet s 9 4 (s 0 0) x) fun s1 => lt1 (s1 0 0 + 1) fun v2 => lt1 (stp s1 0 0 v2) fun s3 => bz 1 <| some (1, s3) else f_X_arg_23 x s else f_X_arg_23 x s) = some (r, s1) ∧ (if (stI t 0 0 0).1 0 20 = 0 then if (stI t 0 0 0).1 0 19 = 4 then f_M_arg_27 x (stI t 0 0 0) else gi ((stI t 0 0 0).1 0 19) 4 <| lt1 (stI (stI t 0 0 0) 31 (Int32.toNatClampNeg ((stI t 0 0 0).1 0 19)) x) fun s2 => lt1 (s2.1 0 19 + 1) fun v3 => lt1 (stI s2 0 19 v3) fun s4 => bz 1 <| some (1, s4) else f_M_arg_27 x (stI t 0 0 0)) = some (r, t1) ∧ IV s1 t1 := by
      intro h1 h2
      rw [if_neg h1, if_neg h2]; exact no
    rcases Q.ac with ⟨a1, a2, a3⟩ | ⟨a1, a2, c, F, K, L, k, a3⟩ | ⟨a1, a4, a2, c, F, K, L, k, a3⟩
    · obtain ⟨n, n4, h1, h2, h3⟩ := Q.ar
      rw [if_pos a1, if_pos a2, h1, h2]
      by_cases q : n = 4
      · rw [if_neg (show ¬ nI n < 4 by rw [q]; decide), if_pos (show nI n = 4 by rw [q]; rfl)]; exact no
      · rw [if_pos (show nI n < 4 from nI_lt (b := 4) (by omega) (by decide)), if_neg (show ¬ nI n = 4 from fun z => q ((nI_eq (b := 4) (by omega) (by decide)).mp z)), rSet_n (by omega) (by decide), lt1, stp_ne _ _ _ (by decide), h1, nI_1, lt1, lt1, bz1, gi_n (show n < 4 by omega) (by decide), nI_clamp (by omega), lt1, show (stI (stI t 0 0 0) 31 n x).1 0 19 = nI n by rw [stI1, stp_ne _ _ _ (by decide)]; exact h2, nI_1, lt1, lt1, bz1]
        refine ⟨_, _, _, rfl, rfl, ⟨by simp (disch := first | decide | omega) only [stI1, stI2, stp_eq, stp_row, stp_ne, stp_nj ]; exact B.f, by simp (disch := first | decide | omega) only [stI1, stI2, stp_eq, stp_row, stp_ne, stp_nj ]; exact B.b⟩, Or.inr ⟨w, v, m, C, nP, mx, Q.args (fun a b1 b2 => by simp (disch := first | decide | omega) only [stI1, stI2, stp_eq, stp_row, stp_ne, stp_nj ]) (fun j hj => by simp (disch := first | decide | omega) only [stI1, stI2, stp_eq, stp_row, stp_ne, stp_nj ]) rfl (fun a b1 b2 => by simp (disch := first | decide | omega) only [stI1, stI2, stp_eq, stp_row, stp_ne, stp_nj ]) (fun j b1 b2 => by simp (disch := first | decide | omega) only [stI1, stI2, stp_eq, stp_row, stp_ne, stp_nj ]) ⟨n + 1, by omega, by simp (disch := first | decide | omega) only [stI1, stI2, stp_eq, stp_row, stp_ne, stp_nj ], by simp (disch := first | decide | omega) only [stI1, stI2, stp_eq, stp_row, stp_ne, stp_nj ], fun i hi => ?_⟩⟩⟩
        have h3' : ∀ i, i < n → s 9 i = t.1 31 i := fun i hi => by have := h3 i hi; rw [stI1, stp_ne _ _ _ (by decide)] at this; exact this
        by_cases e : i = n
        · rw [e]; simp (disch := first | decide | omega) only [stI1, stI2, stp_eq, stp_row, stp_ne, stp_nj ]
        · rw [stp_ne _ _ _ (by decide), stp_nj _ _ _ e]; simp (disch := first | decide | omega) only [stI1, stI2, stp_eq, stp_row, stp_ne, stp_nj ]; exact h3' i (by omega)
    · exact run (by rw [a1]; decide +kernel) (by rw [a3.cf.ru]; decide)
    · exact run (by rw [a1]; decide +kernel) (by rw [a3.cf.ru]; decide)
theorem IV.result (H : IV s t) : ∃ (r : Int32) (t1 : SM), f_X_result s = some r ∧ f_M_result t = some (r, t1) ∧ IV s t1 := by
  have Hc : IV s (stI t 0 0 0) := H.code
  have e : s 0 4 = (stI t 0 0 0).1 0 21 := by
    rcases Hc.2 with N | ⟨w, v, m, C, nP, mx, Q⟩
    · rw [N.x4, N.m21]
    · rcases Q.ac with ⟨a1, a2, a3⟩ | ⟨a1, a2, c, F, K, L, k, a3⟩ | ⟨a1, a4, a2, c, F, K, L, k, a3⟩
      · exact a3
      · rw [a2, a3.cf.rz]
      · rw [a2, a3.cf.rz]
  refine ⟨s 0 4, stI t 0 0 0, rfl, ?_, Hc⟩
  rw [f_M_result, lt1, ← e]
theorem IV.peekMem (x : Int32) (H : IV s t) : ∃ (r : Int32) (t1 : SM), f_X_peekMem s x = some r ∧ f_M_peekMem x t = some (r, t1) ∧ IV s t1 := by
  have Hc : IV s (stI t 0 0 0) := H.code
  rw [f_M_peekMem, lt1]
  rcases Hc.2 with N | ⟨w, v, m, C, nP, mx, Q⟩
  · refine ⟨-1, stI t 0 0 0, by rw [f_X_peekMem, if_pos N.x1, f_X_peekMem_25], ?_, Hc⟩
    rw [N.m18, f_M_peekMem_29, f_M_peekMem_30, show (64 : Int32) * 0 = 0 by decide, lt1]
    by_cases h : x < 0
    · rw [if_pos h]
    · rw [if_neg h, if_pos (Int32.not_lt.mp h)]
  · obtain ⟨p, D⟩ := Q.D
    have p4 := D.p4
    rw [f_X_peekMem, if_neg (show ¬ s 0 1 = 0 by rw [Q.x1]; decide), f_X_peekMem_25, f_M_peekMem_29, f_M_peekMem_30]
    by_cases h : x < 0
    · rw [if_pos h, if_pos h]
      exact ⟨-1, stI t 0 0 0, rfl, rfl, Hc⟩
    · rw [if_neg h, if_neg h, D.px, show nI p * 64 = nI (p * 64) from pk_mul p 64, lt1, D.pm, show 64 * nI p = nI (64 * p) from pk_mul 64 p, lt1, lt1, Nat.mul_comm p 64]
      by_cases h2 : x < nI (64 * p)
      · have hx : ∃ b, b < 256 ∧ x = nI b := by
          obtain ⟨b, hb, e⟩ := wb_of32 x
          have hb31 : b < 2 ^ 31 := by
            by_cases q : b < 2 ^ 31
            · exact q
            · exfalso
              apply h
              rw [e, Int32.lt_iff_toInt_lt]
              show (Int32.ofNat b).toInt < 0
              rw [Int32.toInt_ofNat']
              simp only [Int.bmod, Int32.size]
              omega
          rw [e] at h2
          have := (nI_ltI hb31 (by omega)).mp h2
          exact ⟨b, by omega, e⟩
        obtain ⟨b, hb, e⟩ := hx
        rw [if_pos h2, if_neg (Int32.not_le.mpr h2), e, rGet_n hb (by decide), gi_n hb (by decide), nI_clamp (by omega), lt1, f_M_peekMem_30, D.mem b hb]
        exact ⟨_, stI t 0 0 0, rfl, rfl, Hc⟩
      · rw [if_neg h2, if_pos (Int32.not_lt.mp h2)]
        exact ⟨-1, stI t 0 0 0, rfl, rfl, Hc⟩
/-- how long the register code is -/
theorem IV.len (H : IV s t) : ∃ n, n ≤ 960 ∧ f_X_rcodeLen s = some (nI n) ∧ t.1 0 25 = nI n ∧ ∀ j, j < n → s 30 j = t.1 36 j := by
  rcases H.2 with N | ⟨w, v, m, C, nP, mx, Q⟩
  · exact ⟨0, by decide, by rw [f_X_rcodeLen, if_pos N.x2]; rfl, N.m25, fun j hj => by omega⟩
  · rcases Q.cp with ⟨a1, a2, a3⟩ | ⟨a1, a2, a3, a4, a5, a6⟩
    · exact ⟨0, by decide, by rw [f_X_rcodeLen, if_pos a1]; rfl, a3, fun j hj => by omega⟩
    · have := Q.e24
      refine ⟨ent w v C * 4, by omega, ?_, a4, a6⟩
      rw [f_X_rcodeLen, if_neg (show ¬ s 0 2 = 0 by rw [a1]; decide), f_RC_length, a5, show nI (ent w v C) * 4 = nI (ent w v C * 4) from pk_mul _ 4, lt1, bd1_some, f_X_rcodeLen_18]
theorem IV.rcodeLen (H : IV s t) : ∃ (r : Int32) (t1 : SM), f_X_rcodeLen s = some r ∧ f_M_rcodeLen t = some (r, t1) ∧ IV s t1 := by
  have Hc : IV s (stI t 0 0 0) := H.code
  obtain ⟨n, h1, h2, h3, h4⟩ := Hc.len
  exact ⟨nI n, stI t 0 0 0, h2, by rw [f_M_rcodeLen, lt1, h3], Hc⟩
theorem IV.rcode (x : Int32) (H : IV s t) : ∃ (r : Int32) (t1 : SM), f_X_rcode s x = some r ∧ f_M_rcode x t = some (r, t1) ∧ IV s t1 := by
  have Hc : IV s (stI t 0 0 0) := H.code
  obtain ⟨n, h1, h2, h3, h4⟩ := Hc.len
  rw [f_M_rcode, lt1, h3, f_X_rcode, h2, bd1_some, f_X_rcode_12, f_M_rcode_26, f_M_rcode_27]
  by_cases h : x < 0
  · rw [if_pos h, if_pos h]
    exact ⟨-1, stI t 0 0 0, rfl, rfl, Hc⟩
  · rw [if_neg h, if_neg h]
    by_cases q : x < nI n
    · have hx : ∃ b, b < n ∧ x = nI b := by
        obtain ⟨b, hb, e⟩ := wb_of32 x
        have hb31 : b < 2 ^ 31 := by
          by_cases q : b < 2 ^ 31
          · exact q
          · exfalso
            apply h
            rw [e, Int32.lt_iff_toInt_lt]
            show (Int32.ofNat b).toInt < 0
            rw [Int32.toInt_ofNat']
            simp only [Int.bmod, Int32.size]
            omega
        rw [e] at q
        have := (nI_ltI hb31 (by omega)).mp q
        exact ⟨b, by omega, e⟩
      obtain ⟨b, hb, e⟩ := hx
      rw [if_pos q, if_neg (Int32.not_le.mpr q), e, rGet_n (by omega) (by decide), lt1, gi_n (show b < 2400 by omega) (by decide), nI_clamp (by omega), lt1, f_M_rcode_27, h4 b hb]
      exact ⟨_, stI t 0 0 0, rfl, rfl, Hc⟩
    · rw [if_neg q, if_pos (Int32.not_lt.mp q)]
      exact ⟨-1, stI t 0 0 0, rfl, rfl, Hc⟩
theorem IV.reset (H : IV s t) : ∃ (s1 : St) (t1 : SM), f_X_reset s = some s1 ∧ f_M_reset t = some t1 ∧ IV s1 t1 := by
  rw [f_X_reset, f_Rd_forget]
  simp only [lt1, bd1_some, f_M_reset]
  refine ⟨_, _, rfl, rfl, ⟨⟨0, by decide, by simp (disch := first | decide | omega) only [stI1, stI2, stp_eq, stp_row, stp_ne, stp_nj ]; rfl, by simp (disch := first | decide | omega) only [stI1, stI2, stp_eq, stp_row, stp_ne, stp_nj ]; rfl⟩, by simp (disch := first | decide | omega) only [stI1, stI2, stp_eq, stp_row, stp_ne, stp_nj ]; exact H.1.b⟩, Or.inl ⟨by simp (disch := first | decide | omega) only [stI1, stI2, stp_eq, stp_row, stp_ne, stp_nj ], by simp (disch := first | decide | omega) only [stI1, stI2, stp_eq, stp_row, stp_ne, stp_nj ], by simp (disch := first | decide | omega) only [stI1, stI2, stp_eq, stp_row, stp_ne, stp_nj ], by simp (disch := first | decide | omega) only [stI1, stI2, stp_eq, stp_row, stp_ne, stp_nj ], by simp (disch := first | decide | omega) only [stI1, stI2, stp_eq, stp_row, stp_ne, stp_nj ], by simp (disch := first | decide | omega) only [stI1, stI2, stp_eq, stp_row, stp_ne, stp_nj ], by simp (disch := first | decide | omega) only [stI1, stI2, stp_eq, stp_row, stp_ne, stp_nj ], by simp (disch := first | decide | omega) only [stI1, stI2, stp_eq, stp_row, stp_ne, stp_nj ], by simp (disch := first | decide | omega) only [stI1, stI2, stp_eq, stp_row, stp_ne, stp_nj ], by simp (disch := first | decide | omega) only [stI1, stI2, stp_eq, stp_row, stp_ne, stp_nj ], by simp (disch := first | decide | omega) only [stI1, stI2, stp_eq, stp_row, stp_ne, stp_nj ], by simp (disch := first | decide | omega) only [stI1, stI2, stp_eq, stp_row, stp_ne, stp_nj ]⟩⟩
theorem IV.compile (H : IV s t) : ∃ (r : Int32) (s1 : St) (t1 : SM), f_X_compile s = some (r, s1) ∧ f_M_compile t = some (r, t1) ∧ IV s1 t1 := by
  obtain ⟨B, H2⟩ := H
  rcases H2 with N | ⟨w, v, m, C, nP, mx, Q⟩
  · rw [f_X_compile, if_pos N.x1, f_M_compile, lt1, if_pos (show (stI t 0 0 0).1 0 2 = 0 by simp (disch := first | decide | omega) only [stI1, stI2, stp_eq, stp_row, stp_ne, stp_nj ]; exact N.m2)]
    exact ⟨_, _, _, rfl, rfl, B.code, Or.inl N.code⟩
  · have S := Q.S
    have fin : ∀ s' t', CMf t t' → t'.1 0 24 = 1 → t'.1 0 25 = nI (ent w v C * 4) → Sta w v m C nP s' t' → (∀ a, a ≠ 0 → a ≠ 4 → a ≠ 21 → a ≠ 30 → a ≠ 32 → s' a = s a) → s' 0 1 = 1 → s' 0 3 = s 0 3 → s' 0 4 = s 0 4 → s' 0 0 = s 0 0 → s' 0 2 = 1 → (∃ bgf lsf, Ctg w m C bgf lsf s' t' ∧ RCr w v m C bgf lsf s' t') → s' 4 1 = nI (ent w v C) → (∀ j, j < ent w v C * 4 → s' 30 j = t'.1 36 j) → IV s' t' := by
      intro s' t' e2 e3 e4 S' hx y1 y3 y4 y0 y2 yR yl yw
      refine ⟨⟨by rw [hx 2 (by decide) (by decide) (by decide) (by decide) (by decide), e2.z 1 (by decide) (by decide) (by decide)]; exact B.f, by rw [hx 26 (by decide) (by decide) (by decide) (by decide) (by decide), e2.o 1 (by decide) (by decide) (by decide)]; exact B.b⟩, Or.inr ⟨w, v, m, C, nP, mx, y1, ?_, S', Q.e24, ?_, ?_, Or.inr ⟨y2, e3, yR, e4, yl, yw⟩, ?_⟩⟩
      · rw [e2.z 2 (by decide) (by decide) (by decide)]; exact Q.m2
      · obtain ⟨p, D⟩ := Q.D
        exact ⟨p, D.dp (fun a q => hx a (by omega) (by omega) (by omega) (by omega) (by omega)) e2.l (fun a q => e2.o a (by omega) (by omega) (by omega)) (fun j q => e2.z j (by omega) (by omega) (by omega))⟩
      · obtain ⟨n, h1, h2, h3, h4⟩ := Q.ar
        exact ⟨n, h1, y0.trans h2, (e2.z 19 (by decide) (by decide) (by decide)).trans h3, by rw [hx 9 (by decide) (by decide) (by decide) (by decide) (by decide), e2.o 31 (by decide) (by decide) (by decide)]; exact h4⟩
      · rcases Q.ac with ⟨a1, a2, a3⟩ | ⟨a1, a2, c, F, K, L, k, a3⟩ | ⟨a1, a4, a2, c, F, K, L, k, a3⟩
        · exact Or.inl ⟨y3.trans a1, (e2.z 20 (by decide) (by decide) (by decide)).trans a2, by rw [y4, e2.z 21 (by decide) (by decide) (by decide)]; exact a3⟩
        · exact Or.inr (Or.inl ⟨y3.trans a1, y4.trans a2, c, F, K, L, k, a3.dep S (fun a q => hx a (by omega) (by omega) (by omega) (by omega) (by omega)) (fun a q1 q2 => e2.o a (by omega) (by omega) (by omega)) (fun j q1 q2 => e2.z j (by omega) (by omega) (by omega))⟩)
        · exact Or.inr (Or.inr ⟨y3.trans a1, y2, y4.trans a2, c, F, K, L, k, a3.dep S (fun a q => hx a (by omega) (by omega) (by omega) (by omega) (by omega)) (fun a q1 q2 => e2.o a (by omega) (by omega) (by omega)) (fun j q1 q2 => e2.z j (by omega) (by omega) (by omega))⟩)
    rw [f_X_compile, if_neg (show ¬ s 0 1 = 0 by rw [Q.x1]; decide)]
    rcases Q.cp with ⟨a1, a2, a3⟩ | ⟨a1, a2, ⟨bg2, ls2, G2, a3⟩, a4, a5, a6⟩
    · obtain ⟨bgf, lsf, G⟩ := S.ctg
      obtain ⟨t', e1, e2, e3, e4, e5⟩ := cpl_m S G Q.e24 (by rw [Q.m2]; decide)
      obtain ⟨s', g1, g2, g3, g4, g5⟩ := make_x S G Q.e24
      have o := g2.o 0 (by decide) (by decide) (by decide) (by decide)
      have S' : Sta w v m C nP (stp s' 0 2 1) t' := (S.rc g2 e2).dp (fun a q => by rw [stp_ne _ _ _ (by omega)]) rfl (fun _ _ => rfl) (fun _ _ _ => rfl)
      have G' : Ctg w m C bgf lsf (stp s' 0 2 1) t' := (G.rc g2 e2).dp (by rw [stp_ne _ _ _ (by decide)]) rfl rfl
      rw [if_pos a1, g1, bd1_some, lt1, f_X_compile_28, e1]
      refine ⟨_, _, _, rfl, rfl, fin (stp s' 0 2 1) t' e2 e3 e4 S' (fun a q0 q1 q2 q3 q4 => by rw [stp_ne _ _ _ q0]; exact g2.o a q1 q2 q3 q4) (by simp (disch := first | decide | omega) only [stI1, stI2, stp_eq, stp_row, stp_ne, stp_nj ]; rw [o]; exact Q.x1) (by simp (disch := first | decide | omega) only [stI1, stI2, stp_eq, stp_row, stp_ne, stp_nj ]; rw [o]) (by simp (disch := first | decide | omega) only [stI1, stI2, stp_eq, stp_row, stp_ne, stp_nj ]; rw [o]) (by simp (disch := first | decide | omega) only [stI1, stI2, stp_eq, stp_row, stp_ne, stp_nj ]; rw [o]) (by simp (disch := first | decide | omega) only [stI1, stI2, stp_eq, stp_row, stp_ne, stp_nj ]) ⟨bgf, lsf, G', ?_⟩ (by simp (disch := first | decide | omega) only [stI1, stI2, stp_eq, stp_row, stp_ne, stp_nj ]; exact g4) (by rw [stp_ne _ _ _ (by decide)]; exact g5.eq e5)⟩
      exact ⟨G'.fs, Q.e24, fun k hk => by rw [stp_ne _ _ _ (by decide)]; exact g3 k hk, by rw [stp_ne _ _ _ (by decide)]; exact g5.wd, by rw [stp_ne _ _ _ (by decide)]; exact g5.tb⟩
    · obtain ⟨t', e1, e2, e3, e4, e5⟩ := cpl_m S G2 Q.e24 (by rw [Q.m2]; decide)
      have b22 := e2.o 22 (by decide) (by decide) (by decide)
      have b23 := e2.o 23 (by decide) (by decide) (by decide)
      rw [if_neg (show ¬ s 0 2 = 0 by rw [a1]; decide), f_X_compile_28, e1]
      have Wx : Wds w v m bg2 ls2 (s 30) C := ⟨a3.wd, a3.tb⟩
      exact ⟨_, _, _, rfl, rfl, fin s t' e2 e3 e4 (S.rc (CXf.refl s) e2) (fun _ _ _ _ _ _ => rfl) Q.x1 rfl rfl rfl a1 ⟨bg2, ls2, G2.dp rfl b22 b23, a3.dp (fun _ _ => rfl) b22 b23⟩ a5 (Wx.eq e5)⟩
end SMP
