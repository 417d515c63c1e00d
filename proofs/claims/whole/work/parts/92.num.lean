-- numbers in LEB128, on both sides
theorem nI_or (a b : Nat) : nI a ||| nI b = nI (a ||| b) := by
  apply Int32.toBitVec_inj.mp
  rw [Int32.toBitVec_or]
  show BitVec.ofNat 32 a ||| BitVec.ofNat 32 b = BitVec.ofNat 32 (a ||| b)
  apply BitVec.eq_of_getLsbD_eq
  intro i hi
  simp [BitVec.getLsbD_or, BitVec.getLsbD_ofNat, hi]
theorem or_add {a b k : Nat} (h : a < 2 ^ k) : a ||| b * 2 ^ k = a + b * 2 ^ k := by
  have h2 := Nat.two_pow_add_eq_or_of_lt h b
  rw [Nat.or_comm, Nat.mul_comm, ← h2, Nat.add_comm]
theorem and127 {b : Nat} (h : b < 256) : nI b &&& 127 = nI (b % 128) := pk_andN (by omega) 7 (by decide)
theorem x_acc {v b i : Nat} (hv : v < 2 ^ (7 * i)) (hb : b < 256) (hi : i ≤ 4) (h : (b % 128) * 2 ^ (7 * i) < 2 ^ 32) : nI v ||| ((nI b &&& 127) <<< ((7 * nI i) &&& 31)) = nI (v + (b % 128) * 2 ^ (7 * i)) := by
  have e7 : (7 : Int32) * nI i = nI (7 * i) := pk_mul 7 i
  rw [and127 hb, e7, pk_shlN _ (7 * i) (s_l _ (by omega)) h, nI_or, or_add hv]
theorem m_acc {v b i : Nat} (hv : v < 2 ^ (7 * i)) (hb : b < 256) (hi : i ≤ 4) : lN v ||| ((nI b &&& 127).toInt64 <<< ((7 * nI i).toInt64 &&& 63)) = lN (v + (b % 128) * 2 ^ (7 * i)) := by
  have e7 : (7 : Int32) * nI i = nI (7 * i) := pk_mul 7 i
  have hp : 2 ^ (7 * i) ≤ 2 ^ 28 := Nat.pow_le_pow_right (by decide) (by omega)
  have h3 : b % 128 ≤ 127 := by omega
  have h4 : (b % 128) * 2 ^ (7 * i) ≤ 127 * 2 ^ 28 := Nat.mul_le_mul h3 hp
  rw [and127 hb, e7, nI_l (by omega), wb_shl _ (by omega), g_or' rfl hv (by omega)]
/-- what a number leaves behind, on both sides: it is read up to pl', or that is malformed -/
def Un (s : St) (t : SM) (pl bd : Nat) (x : Int32 × St) (y : Int64 × SM) : Prop :=
  (∃ v pl' : Nat, v < 2 ^ 32 ∧ pl < pl' ∧ pl' ≤ bd ∧ x = (nI v, stp s 2 2 (nI pl')) ∧ y = (lN v, stI t 0 3 (nI pl'))) ∨
  (∃ pl' : Nat, pl' ≤ bd ∧ x.2 = stp (stp s 2 2 (nI pl')) 2 5 1 ∧ y.2 = stI (stI t 0 3 (nI pl')) 0 5 1)
/-- both readers at the same place, with the same bytes, nothing wrong yet -/
def At (s : St) (t : SM) (pl bd : Nat) : Prop :=
  s 2 5 = 0 ∧ t.1 0 5 = 0 ∧ s 2 2 = nI pl ∧ t.1 0 3 = nI pl ∧ s 2 3 = nI bd ∧ t.1 0 4 = nI bd ∧ pl ≤ bd ∧ bd ≤ 240 ∧ ∀ j, j < 240 → ∃ b, b < 256 ∧ s 26 j = nI b ∧ t.1 1 j = nI b
theorem At.step {s : St} {t : SM} {pl bd pl' : Nat} (h : At s t pl bd) (h2 : pl' ≤ bd) : At (stp s 2 2 (nI pl')) (stI t 0 3 (nI pl')) pl' bd := by
  obtain ⟨a1, a2, a3, a4, a5, a6, a7, a8, a9⟩ := h
  refine ⟨?_, ?_, stp_eq _ _ _ _, by rw [stI1]; exact stp_eq _ _ _ _, ?_, ?_, h2, a8, ?_⟩
  · rw [stp_nj _ _ _ (by decide)]; exact a1
  · rw [stI1, stp_nj _ _ _ (by decide)]; exact a2
  · rw [stp_nj _ _ _ (by decide)]; exact a5
  · rw [stI1, stp_nj _ _ _ (by decide)]; exact a6
  · intro j hj
    rw [stI1, stp_ne _ _ _ (by decide), stp_ne _ _ _ (by decide)]
    exact a9 j hj
/-- a byte, on both sides -/
theorem byte2 {s : St} {t : SM} {pl bd : Nat} (h : At s t pl bd) :
    (pl < bd ∧ ∃ b, b < 256 ∧ s 26 pl = nI b ∧ f_Rd_nextByte s = some (nI b, stp s 2 2 (nI (pl + 1))) ∧ f_M_next t = some (nI b, stI t 0 3 (nI (pl + 1))) ∧ At (stp s 2 2 (nI (pl + 1))) (stI t 0 3 (nI (pl + 1))) (pl + 1) bd) ∨
    (pl = bd ∧ f_Rd_nextByte s = some (0, stp s 2 5 1) ∧ f_M_next t = some (0, stI t 0 5 1)) := by
  have h' := h
  obtain ⟨a1, a2, a3, a4, a5, a6, a7, a8, a9⟩ := h
  rcases Nat.lt_or_ge pl bd with hp | hp
  · obtain ⟨b, hb, e1, e2⟩ := a9 pl (by omega)
    exact Or.inl ⟨hp, b, hb, e1, xb_ok a1 a3 a5 hp a8 e1, mn_ok a2 a4 a6 hp a8 e2, h'.step (by omega)⟩
  · exact Or.inr ⟨by omega, xb_end a1 a3 a5 (by omega) (by omega), mn_end a2 a4 a6 (by omega) (by omega)⟩
theorem Un.flt0 {s : St} {t : SM} {pl bd : Nat} (h : At s t pl bd) {v : Int32} {w : Int64} : Un s t pl bd (v, stp s 2 5 1) (w, stI t 0 5 1) := by
  refine Or.inr ⟨pl, h.2.2.2.2.2.2.1, ?_, ?_⟩
  · show stp s 2 5 1 = _
    rw [← h.2.2.1, stp_self]
  · show stI t 0 5 1 = _
    have e : stI t 0 3 (nI pl) = t := by rw [← h.2.2.2.1]; exact Prod.ext (stp_self _ _ _) rfl
    rw [e]
theorem Un.back {s : St} {t : SM} {pl bd p1 : Nat} (hp : pl < p1) {x : Int32 × St} {y : Int64 × SM} (h : Un (stp s 2 2 (nI p1)) (stI t 0 3 (nI p1)) p1 bd x y) : Un s t pl bd x y := by
  rcases h with ⟨v, pl', h1, h2, h3, rfl, rfl⟩ | ⟨pl', h1, h2, h3⟩
  · exact Or.inl ⟨v, pl', h1, by omega, h3, by rw [stp_stp], by rw [stI_stI]⟩
  · exact Or.inr ⟨pl', h1, by rw [h2, stp_stp], by rw [h3, stI_stI]⟩
