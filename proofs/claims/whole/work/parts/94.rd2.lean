theorem nI_shl (a k : Nat) (hk : k < 32) : nI a <<< (nI k &&& 31) = nI (a * 2 ^ k) := by
  apply Int32.toBitVec_inj.mp
  apply BitVec.eq_of_toNat_eq
  rw [pk_shl _ _ k (s_l k hk)]
  show (BitVec.ofNat 32 a).toNat * 2 ^ k % 2 ^ 32 = (BitVec.ofNat 32 (a * 2 ^ k)).toNat
  rw [BitVec.toNat_ofNat, BitVec.toNat_ofNat, Nat.mul_mod, Nat.mod_mod, ← Nat.mul_mod]
theorem x_acc4 {v b : Nat} (hv : v < 2 ^ 28) (hb : b < 256) : nI v ||| ((nI b &&& 127) <<< ((7 * nI 4) &&& 31)) = nI (v + (b % 128) * 2 ^ (7 * 4)) := by
  have e7 : (7 : Int32) * nI 4 = nI 28 := by decide
  rw [and127 hb, e7, nI_shl _ 28 (by decide), nI_or, or_add hv]
theorem to32_or (a b : Int64) : (a ||| b).toInt32 = a.toInt32 ||| b.toInt32 := Int64.toInt32_or a b
theorem sg_sh : ∀ i, i < 5 → (((-1 : Int64) <<< ((7 * nI i + 7).toInt64 &&& 63)).toInt32 = if i = 4 then 0 else (-1 : Int32) <<< ((7 * (nI i + 1)) &&& 31)) := by decide +kernel
theorem b64 {b : Nat} : ∀ b, b < 256 → ((nI b &&& 64 = 0) = (b % 128 < 64)) := by decide +kernel
theorem b120 : ∀ b, b < 256 → (((nI b &&& 120 = 0) = (b % 128 < 8)) ∧ ((nI b &&& 120 = 120) = (120 ≤ b % 128)) ∧ ((nI b >>> ((3 : Int32) &&& 31) = 0) = (b < 8)) ∧ ((nI b >>> ((3 : Int32) &&& 31) = 15) = (120 ≤ b ∧ b < 128))) := by decide +kernel
/-- the reading stopped: what is wrong, and where; nothing else has changed -/
def Fl (s : St) (t : SM) (s' : St) (t' : SM) : Prop := ∃ p e : Nat, 0 < e ∧ e < 10 ∧ p ≤ 240 ∧ s' = stp (stp s 2 2 (nI p)) 2 5 (nI e) ∧ t' = stI (stI t 0 3 (nI p)) 0 5 (nI e)
/-- a read that moves on by the place alone, or stops -/
def Mv {α β : Type} (s : St) (t : SM) (pl bd : Nat) (P : α → β → Prop) (x : α × St) (y : β × SM) : Prop :=
  (∃ pl' : Nat, pl < pl' ∧ pl' ≤ bd ∧ P x.1 y.1 ∧ x.2 = stp s 2 2 (nI pl') ∧ y.2 = stI t 0 3 (nI pl')) ∨ Fl s t x.2 y.2
theorem Fl.end {s : St} {t : SM} {pl bd : Nat} (h : At s t pl bd) {e : Nat} (he : 0 < e) (he2 : e < 10) : Fl s t (stp s 2 5 (nI e)) (stI t 0 5 (nI e)) := by
  refine ⟨pl, e, he, he2, by have := h.2.2.2.2.2.2.1; have := h.2.2.2.2.2.2.2.1; omega, ?_, ?_⟩
  · rw [← h.2.2.1, stp_self]
  · have e0 : stI t 0 3 (nI pl) = t := by rw [← h.2.2.2.1]; exact Prod.ext (stp_self _ _ _) rfl
    rw [e0]
theorem Fl.back {s : St} {t : SM} {p1 : Nat} {s' : St} {t' : SM} (h : Fl (stp s 2 2 (nI p1)) (stI t 0 3 (nI p1)) s' t') : Fl s t s' t' := by
  obtain ⟨p, e, h1, h2, h3, h4, h5⟩ := h
  exact ⟨p, e, h1, h2, h3, by rw [h4, stp_stp], by rw [h5, stI_stI]⟩
theorem Fl.at {s : St} {t : SM} {p e : Nat} (hp : p ≤ 240) (he : 0 < e) (he2 : e < 10) : Fl s t (stp (stp s 2 2 (nI p)) 2 5 (nI e)) (stI (stI t 0 3 (nI p)) 0 5 (nI e)) := ⟨p, e, he, he2, hp, rfl, rfl⟩
theorem n1 : nI 1 = (1 : Int32) := rfl
theorem n2 : nI 2 = (2 : Int32) := rfl
theorem Fl.end1 {s : St} {t : SM} {pl bd : Nat} (h : At s t pl bd) : Fl s t (stp s 2 5 1) (stI t 0 5 1) := by
  have q := Fl.end h (e := 1) (by decide) (by decide)
  rw [n1] at q
  exact q
theorem Fl.at1 {s : St} {t : SM} {p : Nat} (hp : p ≤ 240) : Fl s t (stp (stp s 2 2 (nI p)) 2 5 1) (stI (stI t 0 3 (nI p)) 0 5 1) := by
  have q := Fl.at (s := s) (t := t) (p := p) (e := 1) hp (by decide) (by decide)
  rw [n1] at q
  exact q
theorem Fl.at2 {s : St} {t : SM} {p : Nat} (hp : p ≤ 240) : Fl s t (stp (stp s 2 2 (nI p)) 2 5 2) (stI (stI t 0 3 (nI p)) 0 5 2) := by
  have q := Fl.at (s := s) (t := t) (p := p) (e := 2) hp (by decide) (by decide)
  rw [n2] at q
  exact q
theorem Mv.back {α β : Type} {s : St} {t : SM} {pl bd p1 : Nat} {P : α → β → Prop} (hp : pl < p1) {x : α × St} {y : β × SM} (h : Mv (stp s 2 2 (nI p1)) (stI t 0 3 (nI p1)) p1 bd P x y) : Mv s t pl bd P x y := by
  rcases h with ⟨pl', h1, h2, h3, h4, h5⟩ | h
  · exact Or.inl ⟨pl', by omega, h2, h3, by rw [h4, stp_stp], by rw [h5, stI_stI]⟩
  · exact Or.inr h.back
theorem Un.mv {s : St} {t : SM} {pl bd : Nat} (hb : bd ≤ 240) {x : Int32 × St} {y : Int64 × SM} (h : Un s t pl bd x y) : Mv s t pl bd (fun a b => ∃ v, v < 2 ^ 32 ∧ a = nI v ∧ b = lN v) x y := by
  rcases h with ⟨v, pl', h1, h2, h3, rfl, rfl⟩ | ⟨pl', h1, h2, h3⟩
  · exact Or.inl ⟨pl', h2, h3, ⟨v, h1, rfl, rfl⟩, rfl, rfl⟩
  · exact Or.inr ⟨pl', 1, by decide, by decide, by omega, h2, h3⟩
theorem or_z (x : Int32) : x ||| 0 = x := Int32.or_zero
theorem sg0 (k : Int64 → Int32 → Int32 → SM → Option (Int32 × SM)) (z : Int64) (x3 x4 x5 x6 : Int32) (q : SM) (h : x5 &&& 64 = 0) : f_M_signed_100 k z x3 x4 x5 x6 0 q = k z 0 (x4 + 1) q := by
  show (if (0 : Int32) = 0 then (if x5 &&& 64 = 0 then k z 0 (x4 + 1) q else _) else _) = _
  rw [if_pos rfl, if_pos h]
theorem sg1 (k : Int64 → Int32 → Int32 → SM → Option (Int32 × SM)) (z : Int64) (x3 x4 x5 x6 : Int32) (q : SM) (h : ¬ x5 &&& 64 = 0) : f_M_signed_100 k z x3 x4 x5 x6 0 q = k (z ||| ((-1 : Int64) <<< ((7 * x4 + 7).toInt64 &&& 63))) 0 (x4 + 1) q := by
  show (if (0 : Int32) = 0 then (if x5 &&& 64 = 0 then _ else k (z ||| ((-1 : Int64) <<< ((7 * x4 + 7).toInt64 &&& 63))) 0 (x4 + 1) q) else _) = _
  rw [if_pos rfl, if_neg h]
theorem sg2 (k : Int64 → Int32 → Int32 → SM → Option (Int32 × SM)) (z : Int64) (x3 x4 x5 x6 : Int32) (q : SM) : f_M_signed_100 k z x3 x4 x5 x6 1 q = k z 1 (x4 + 1) q := by
  show (if (1 : Int32) = 0 then _ else k z 1 (x4 + 1) q) = _
  rw [if_neg (by decide)]
/-- whatever the sign, the value is some number and the state is left alone -/
theorem sgE (k : Int64 → Int32 → Int32 → SM → Option (Int32 × SM)) (z : Int64) (x3 x4 x5 x6 : Int32) (q : SM) : ∃ z' : Int64, f_M_signed_100 k z x3 x4 x5 x6 0 q = k z' 0 (x4 + 1) q := by
  by_cases h : x5 &&& 64 = 0
  · exact ⟨_, sg0 k z x3 x4 x5 x6 q h⟩
  · exact ⟨_, sg1 k z x3 x4 x5 x6 q h⟩
theorem sg_loop : ∀ (d i v pl bd nX nM : Nat) (s : St) (t : SM), i + d = 4 → d + 2 ≤ nX → d + 2 ≤ nM → v < 2 ^ (7 * i) → At s t pl bd →
    ok2 (f_Rd_nextSigned_4 nX (nI v) (nI i) s) (f_M_signed_7 nM (lN v) 1 (nI i) t) (Mv s t pl bd (fun a b => a = b)) := by
  intro d
  induction d with
  | zero =>
    intro i v pl bd nX nM s t hi hX hM hv h
    obtain ⟨nX, rfl⟩ : ∃ n, nX = n + 1 := ⟨nX - 1, by omega⟩
    obtain ⟨nM, rfl⟩ : ∃ n, nM = n + 2 := ⟨nM - 2, by omega⟩
    have hi : i = 4 := by omega
    subst hi
    have hv28 : v < 2 ^ 28 := by rw [show 7 * 4 = 28 by decide] at hv; exact hv
    have c5 : ¬ (5 : Int32) ≤ nI 4 := by decide
    have c4 : nI 4 = (4 : Int32) := rfl
    have c44 : ¬ nI 4 < (4 : Int32) := by decide
    have hbd : bd ≤ 240 := h.2.2.2.2.2.2.2.1
    have fin : ∀ (z : Int64) (y : Int32) (q : SM), f_M_signed_7 (nM + 1) z y (nI 4 + 1) q = some (z.toInt32, q) := fun z y q => by rw [f_M_signed_7, if_pos (show (5 : Int32) ≤ nI 4 + 1 by decide)]; rfl
    rw [f_Rd_nextSigned_4, f_M_signed_7, if_neg c5, if_neg c5, if_neg (show ¬ (1 : Int32) = 0 by decide), if_pos h.2.1]
    rcases byte2 h with ⟨hp, b, hb, -, e1, e2, h1⟩ | ⟨hp, e1, e2⟩
    · refine ok2.bL e1 (ok2.bR e2 ?_)
      obtain ⟨k1, k2, k3, k4⟩ := b120 b hb
      have k5 := b64 (b := 0) b hb
      have sh := sg_sh 4 (by decide)
      rw [if_pos rfl] at sh
      have good : (b < 8 ∨ 120 ≤ b ∧ b < 128) → ok2 (f_Rd_nextSigned_50 (nI v ||| ((nI b &&& 127) <<< ((7 * nI 4) &&& 31))) (nI 4) (nI b) (stp s 2 2 (nI (pl + 1)))) (f_M_signed_64 (f_M_signed_7 (nM + 1)) (lN v) 1 (nI 4) (nI b) (nI b &&& 120) (stI t 0 3 (nI (pl + 1)))) (Mv s t pl bd (fun a b => a = b)) := by
        intro hg
        have c127 : nI b ≤ 127 := nI_le (b := 127) (by omega) (by omega)
        rw [f_Rd_nextSigned_50, f_M_signed_64, f_M_signed_69, mw_t (t := stI t 0 3 (nI (pl + 1))) (x := 1) (by decide) 1]
        simp only [bd1, lt1]
        rw [if_pos c127, x_acc4 hv28 hb, m_acc hv hb (by omega)]
        by_cases g : nI b &&& 64 = 0
        · rw [sg0 _ _ _ _ _ _ _ g, fin]
          exact ok2.some (Or.inl ⟨pl + 1, by omega, by omega, (lN_i _).symm, rfl, rfl⟩)
        · rw [sg1 _ _ _ _ _ _ _ g, fin]
          refine ok2.some (Or.inl ⟨pl + 1, by omega, by omega, ?_, rfl, rfl⟩)
          show nI _ = Int64.toInt32 _
          rw [to32_or, sh, lN_i, or_z]
      have bad : ok2 (bd1 (f_Rd_refuse 1 (stp s 2 2 (nI (pl + 1)))) fun s15 => f_Rd_nextSigned_50 (nI v ||| ((nI b &&& 127) <<< ((7 * nI 4) &&& 31))) (nI 4) (nI b) s15) (f_M_signed_68 (f_M_signed_7 (nM + 1)) (lN v) 1 (nI 4) (nI b) (nI b &&& 120) (stI t 0 3 (nI (pl + 1)))) (Mv s t pl bd (fun a b => a = b)) := by
        refine ok2.b1L (xr_0 h1.1 1) ?_
        rw [f_Rd_nextSigned_50, f_M_signed_68, f_M_signed_69, mw_f h1.2.1 1]
        simp only [bd1, lt1]
        split
        · obtain ⟨z', ez⟩ := sgE (f_M_signed_7 (nM + 1)) (lN v ||| ((nI b &&& 127).toInt64 <<< ((7 * nI 4).toInt64 &&& 63))) 1 (nI 4) (nI b) (nI b &&& 120) (stI (stI t 0 3 (nI (pl + 1))) 0 5 1)
          rw [ez, fin]
          exact ok2.some (Or.inr (Fl.at1 (p := pl + 1) (by omega)))
        · rw [sg2, fin]
          exact ok2.some (Or.inr (Fl.at1 (p := pl + 1) (by omega)))
      simp only [lt1, if_pos c4, if_neg c44]
      by_cases g1 : b < 8
      · rw [if_pos (by rw [k3]; exact g1), if_neg (show ¬ (128 : Int32) ≤ nI b from nI_ge (a := b) (b := 128) (by omega) (by omega)), if_pos (by rw [k1]; omega)]
        exact good (Or.inl g1)
      · rw [if_neg (by rw [k3]; exact g1)]
        by_cases g2 : 120 ≤ b ∧ b < 128
        · rw [if_pos (by rw [k4]; exact g2), if_neg (show ¬ (128 : Int32) ≤ nI b from nI_ge (a := b) (b := 128) (by omega) (by omega)), if_neg (by rw [k1]; omega), if_pos (by rw [k2]; omega)]
          exact good (Or.inr g2)
        · rw [if_neg (by rw [k4]; exact g2)]
          by_cases g3 : 128 ≤ b
          · rw [if_pos (show (128 : Int32) ≤ nI b from nI_le (a := 128) g3 (by omega))]
            exact bad
          · rw [if_neg (show ¬ (128 : Int32) ≤ nI b from nI_ge (a := b) (b := 128) (by omega) (by omega)), if_neg (by rw [k1]; omega), if_neg (by rw [k2]; omega)]
            exact bad
    · obtain ⟨r0, hr0⟩ : ∃ r : Int32, r = 0 := ⟨0, rfl⟩
      rw [← hr0] at e1 e2
      refine ok2.bL e1 (ok2.bR e2 ?_)
      have z3 : r0 >>> ((3 : Int32) &&& 31) = 0 := by rw [hr0]; decide +kernel
      have z4 : r0 &&& 120 = 0 := by rw [hr0]; decide +kernel
      have z6 : ¬ (128 : Int32) ≤ r0 := by rw [hr0]; decide +kernel
      have z7 : r0 ≤ 127 := by rw [hr0]; decide +kernel
      simp only [lt1, if_pos c4, if_neg c44]
      rw [if_pos z3, if_neg z6, if_pos z4]
      rw [f_Rd_nextSigned_50, f_M_signed_64, f_M_signed_69, mw_t (t := stI t 0 5 1) (x := 1) (by decide) 1]
      simp only [bd1, lt1]
      rw [if_pos z7]
      obtain ⟨z', ez⟩ := sgE (f_M_signed_7 (nM + 1)) (lN v ||| ((r0 &&& 127).toInt64 <<< ((7 * nI 4).toInt64 &&& 63))) 1 (nI 4) r0 (r0 &&& 120) (stI t 0 5 1)
      rw [ez, fin]
      exact ok2.some (Or.inr (Fl.end1 h))
  | succ d ih =>
    intro i v pl bd nX nM s t hi hX hM hv h
    obtain ⟨nX, rfl⟩ : ∃ n, nX = n + 1 := ⟨nX - 1, by omega⟩
    obtain ⟨nM, rfl⟩ : ∃ n, nM = n + 2 := ⟨nM - 2, by omega⟩
    have c5 : ¬ (5 : Int32) ≤ nI i := nI_ge (b := 5) (by omega) (by omega)
    have c4 : ¬ nI i = (4 : Int32) := nI_ne (b := 4) (by omega) (by omega) (by omega)
    have c44 : nI i < (4 : Int32) := nI_lt (b := 4) (by omega) (by omega)
    have fin : ∀ (z : Int64) (w : Int32) (q : SM), f_M_signed_7 (nM + 1) z 0 w q = some (z.toInt32, q) := fun z w q => by
      rw [f_M_signed_7]
      by_cases hc : (5 : Int32) ≤ w
      · rw [if_pos hc]; rfl
      · rw [if_neg hc]; rfl
    rw [f_Rd_nextSigned_4, f_M_signed_7, if_neg c5, if_neg c5, if_neg (show ¬ (1 : Int32) = 0 by decide), if_pos h.2.1]
    rcases byte2 h with ⟨hp, b, hb, -, e1, e2, h1⟩ | ⟨hp, e1, e2⟩
    · refine ok2.bL e1 (ok2.bR e2 ?_)
      have hpw : 2 ^ (7 * i) ≤ 2 ^ 21 := Nat.pow_le_pow_right (by decide) (by omega)
      have hk : (b % 128) * 2 ^ (7 * i) < 2 ^ 32 := by
        have h3 : b % 128 ≤ 127 := by omega
        have h4 : (b % 128) * 2 ^ (7 * i) ≤ 127 * 2 ^ 21 := Nat.mul_le_mul h3 hpw
        omega
      have hv2 : v + b % 128 * 2 ^ (7 * i) < 2 ^ (7 * (i + 1)) := by
        have h3 : b % 128 ≤ 127 := by omega
        have h4 : (b % 128) * 2 ^ (7 * i) ≤ 127 * 2 ^ (7 * i) := Nat.mul_le_mul_right _ h3
        have e : 2 ^ (7 * (i + 1)) = 2 ^ (7 * i) * 128 := by rw [Nat.mul_add, Nat.pow_add]
        omega
      have sh := sg_sh i (by omega)
      rw [if_neg (by omega)] at sh
      simp only [lt1, if_neg c4, if_pos c44, f_Rd_nextSigned_80]
      rw [f_M_signed_64, f_M_signed_69, mw_t (t := stI t 0 3 (nI (pl + 1))) (x := 1) (by decide) 1]
      simp only [bd1, lt1]
      rw [x_acc hv hb (by omega) hk, m_acc hv hb (by omega)]
      rcases Nat.lt_or_ge b 128 with h128 | h128
      · have c128 : ¬ (128 : Int32) ≤ nI b := nI_ge (b := 128) (by omega) (by omega)
        have c127 : nI b ≤ 127 := nI_le (b := 127) (by omega) (by omega)
        rw [if_neg c128, if_pos c127]
        by_cases g : nI b &&& 64 = 0
        · rw [if_pos g, sg0 _ _ _ _ _ _ _ g, fin]
          exact ok2.some (Or.inl ⟨pl + 1, by omega, by omega, (lN_i _).symm, rfl, rfl⟩)
        · rw [if_neg g, sg1 _ _ _ _ _ _ _ g, fin]
          refine ok2.some (Or.inl ⟨pl + 1, by omega, by omega, ?_, rfl, rfl⟩)
          show _ = Int64.toInt32 _
          rw [to32_or, sh, lN_i]
      · have c128 : (128 : Int32) ≤ nI b := nI_le (a := 128) (by omega) (by omega)
        have c127 : ¬ nI b ≤ 127 := fun q => nI_ge (a := 127) (b := b) (by omega) (by omega) q
        rw [if_pos c128, if_neg c127, sg2, nI_1]
        exact (ih (i + 1) _ (pl + 1) bd nX (nM + 1) _ _ (by omega) (by omega) (by omega) hv2 h1).mono (fun x y hxy => hxy.back (by omega))
    · obtain ⟨r0, hr0⟩ : ∃ r : Int32, r = 0 := ⟨0, rfl⟩
      rw [← hr0] at e1 e2
      refine ok2.bL e1 (ok2.bR e2 ?_)
      have z5 : r0 &&& 64 = 0 := by rw [hr0]; decide +kernel
      have z6 : ¬ (128 : Int32) ≤ r0 := by rw [hr0]; decide +kernel
      have z7 : r0 ≤ 127 := by rw [hr0]; decide +kernel
      simp only [lt1, if_neg c4, if_pos c44, if_neg z6, if_pos z5, f_Rd_nextSigned_80]
      rw [f_M_signed_64, f_M_signed_69, mw_t (t := stI t 0 5 1) (x := 1) (by decide) 1]
      simp only [bd1, lt1]
      rw [if_pos z7, sg0 _ _ _ _ _ _ _ z5, fin]
      exact ok2.some (Or.inr (Fl.end1 h))
theorem sgn2 {s : St} {t : SM} {pl bd : Nat} (h : At s t pl bd) : ok2 (f_Rd_nextSigned s) (f_M_signed t) (Mv s t pl bd (fun a b => a = b)) :=
  sg_loop 4 0 0 pl bd FU FU s t rfl (by decide) (by decide) (by decide) h
