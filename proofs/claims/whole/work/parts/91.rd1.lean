theorem upd_self (f : Nat → Int32) (j : Nat) : upd f j (f j) = f := by
  funext i
  by_cases h : i = j
  · subst h; rw [pk_us]
  · rw [pk_un h]
theorem upd_upd (f : Nat → Int32) (j : Nat) (v w : Int32) : upd (upd f j v) j w = upd f j w := by
  funext i
  by_cases h : i = j
  · subst h; rw [pk_us, pk_us]
  · rw [pk_un h, pk_un h, pk_un h]
theorem sta_sta (s : St) (k : Nat) (f g : Nat → Int32) : sta (sta s k f) k g = sta s k g := by
  funext a
  by_cases h : a = k
  · subst h; rw [sta_eq, sta_eq]
  · rw [sta_ne _ _ h, sta_ne _ _ h, sta_ne _ _ h]
theorem sta_self (s : St) (k : Nat) : sta s k (s k) = s := by
  funext a
  by_cases h : a = k
  · subst h; rw [sta_eq]
  · rw [sta_ne _ _ h]
theorem stp_self (s : St) (k j : Nat) : stp s k j (s k j) = s := by rw [stp, upd_self, sta_self]
theorem stp_stp (s : St) (k j : Nat) (v w : Int32) : stp (stp s k j v) k j w = stp s k j w := by
  rw [stp, stp_row, upd_upd, stp, stp, sta_sta]
theorem stI_stI (t : SM) (k j : Nat) (v w : Int32) : stI (stI t k j v) k j w = stI t k j w := by
  simp only [stI, stp_stp]
-- the reader's smallest words: a byte, a refusal
theorem xb_ok {s : St} {pl bd b : Nat} (hf : s 2 5 = 0) (hp : s 2 2 = nI pl) (hb : s 2 3 = nI bd) (h1 : pl < bd) (h2 : bd ≤ 240) (hv : s 26 pl = nI b) : f_Rd_nextByte s = some (nI b, stp s 2 2 (nI (pl + 1))) := by
  have a1 : ¬ nI pl < 0 := nI_pos (by omega)
  have a2 : ¬ nI bd ≤ nI pl := nI_ge h1 (by omega)
  have a3 : nI pl < 240 := nI_lt (b := 240) (by omega) (by omega)
  have a4 : nI (pl + 1) - 1 = nI pl := nI_pred pl
  simp only [f_Rd_nextByte, hf, hp, hb, if_pos, if_neg a1, if_neg a2, if_pos a3, lt1, nI_1, stp_eq, a4, gi_ok (nI_in (c := pl) (N := 240) (by omega) (by omega)), nI_clamp (n := pl) (by omega), stp_ne s 2 (nI (pl + 1)) (show (26 : Nat) ≠ 2 by decide), hv]
theorem xb_end {s : St} {pl bd : Nat} (hf : s 2 5 = 0) (hp : s 2 2 = nI pl) (hb : s 2 3 = nI bd) (h1 : bd ≤ pl) (h2 : pl ≤ 240) : f_Rd_nextByte s = some (0, stp s 2 5 1) := by
  have a1 : ¬ nI pl < 0 := nI_pos (by omega)
  have a2 : nI bd ≤ nI pl := nI_le h1 (by omega)
  simp only [f_Rd_nextByte, f_Rd_nextByte_37, f_Rd_nextByte_53, hf, hp, hb, if_pos, if_neg a1, if_pos a2, lt1]
theorem xb_flt {s : St} (hf : ¬ s 2 5 = 0) : f_Rd_nextByte s = some (0, s) := by
  simp only [f_Rd_nextByte, f_Rd_nextByte_37, f_Rd_nextByte_53, if_neg hf, lt1, stp_self]
theorem xr_0 {s : St} (hf : s 2 5 = 0) (w : Int32) : f_Rd_refuse w s = some (stp s 2 5 w) := by
  simp only [f_Rd_refuse, f_Rd_refuse_16, hf, if_pos, lt1]
theorem xr_flt {s : St} (hf : ¬ s 2 5 = 0) (w : Int32) : f_Rd_refuse w s = some s := by
  simp only [f_Rd_refuse, f_Rd_refuse_16, if_neg hf, lt1, stp_self]
theorem mw_t {t : SM} {x : Int32} (hx : ¬ x = 0) (w : Int32) : f_M_will x w t = some t := by
  simp only [f_M_will, f_M_will_16, if_neg hx]
  split <;> rfl
theorem mw_f {t : SM} (hw : t.1 0 5 = 0) (w : Int32) : f_M_will 0 w t = some (stI t 0 5 w) := by
  simp only [f_M_will, f_M_will_16, hw, if_pos, lt1]
theorem mw_flt {t : SM} (hw : ¬ t.1 0 5 = 0) (x w : Int32) : f_M_will x w t = some t := by
  simp only [f_M_will, f_M_will_16, if_neg hw]
theorem mn_ok {t : SM} {pl bd b : Nat} (hf : t.1 0 5 = 0) (hp : t.1 0 3 = nI pl) (hb : t.1 0 4 = nI bd) (h1 : pl < bd) (h2 : bd ≤ 240) (hv : t.1 1 pl = nI b) : f_M_next t = some (nI b, stI t 0 3 (nI (pl + 1))) := by
  have a2 : ¬ nI bd ≤ nI pl := nI_ge h1 (by omega)
  have a4 : nI (pl + 1) - 1 = nI pl := nI_pred pl
  simp only [f_M_next, f_M_next_17, hp, hb, if_neg a2, mw_t (t := t) (x := 1) (by decide) 1, bd1, hf, if_pos (show (0 : Int32) ≤ 0 by decide), lt1, nI_1, stI1, stp_eq, a4, gi_ok (nI_in (c := pl) (N := 240) (by omega) (by omega)), nI_clamp (n := pl) (by omega), stp_ne t.1 3 (nI (pl + 1)) (show (1 : Nat) ≠ 0 by decide), hv]
theorem mn_end {t : SM} {pl bd : Nat} (hf : t.1 0 5 = 0) (hp : t.1 0 3 = nI pl) (hb : t.1 0 4 = nI bd) (h1 : bd ≤ pl) (h2 : pl ≤ 240) : f_M_next t = some (0, stI t 0 5 1) := by
  have a2 : nI bd ≤ nI pl := nI_le h1 (by omega)
  simp only [f_M_next, f_M_next_17, hp, hb, if_pos a2, mw_f hf 1, bd1, stI1, stp_eq, if_neg (show ¬ (1 : Int32) ≤ 0 by decide)]
theorem mn_flt {t : SM} {e : Nat} (hf : t.1 0 5 = nI e) (h0 : 0 < e) (h1 : e < 10) : f_M_next t = some (0, t) := by
  have a : ¬ t.1 0 5 = 0 := by rw [hf]; exact nI_ne0 h0 (by omega)
  have a2 : ¬ t.1 0 5 ≤ 0 := by rw [hf]; exact nI_nle h0 (by omega)
  simp only [f_M_next, f_M_next_17, mw_flt a, bd1, if_neg a2]
  split <;> rfl
