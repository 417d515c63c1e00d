-- counting bits
theorem sbit {a k : Nat} (ha : a < 2 ^ 32) (hk : k < 32) : (nI a >>> (nI k &&& 31)) &&& 1 = nI (a / 2 ^ k % 2) := by
  have e1 : (nI a >>> (nI k &&& 31)).toBitVec = (nI a).toBitVec.sshiftRight k := by
    show (nI a).toBitVec.sshiftRight ((nI k &&& 31).toBitVec.smod 32).toNat = _
    rw [s_l k hk]
  rw [show (nI a >>> (nI k &&& 31)) &&& 1 = nI ((nI a >>> (nI k &&& 31)).toBitVec.toNat % 2 ^ 1) from pk_and _ 1 (by decide), e1]
  refine congrArg nI ?_
  have h1 : ((nI a).toBitVec.sshiftRight k).getLsbD 0 = (nI a).toBitVec.getLsbD k := by
    rw [BitVec.getLsbD_sshiftRight, Nat.add_zero, if_pos hk]
    simp
  have h2 : ((nI a).toBitVec.sshiftRight k).toNat.testBit 0 = a.testBit k := by
    have := h1
    unfold BitVec.getLsbD at this
    rw [this, pk_tn ha]
  rw [Nat.testBit_zero, Nat.testBit_eq_decide_div_mod_eq] at h2
  have h3 : (((nI a).toBitVec.sshiftRight k).toNat % 2 = 1) ↔ (a / 2 ^ k % 2 = 1) := by
    by_cases q : a / 2 ^ k % 2 = 1
    · rw [decide_eq_true q] at h2; exact ⟨fun _ => q, fun _ => of_decide_eq_true h2⟩
    · rw [decide_eq_false q] at h2; exact ⟨fun z => absurd z (of_decide_eq_false h2), fun z => absurd z q⟩
  rw [Nat.pow_one]
  omega
theorem ush_n {a k : Nat} (ha : a < 2 ^ 32) (hk : k < 32) : ush (nI a) (nI k) = nI (a / 2 ^ k) := by
  have : ∀ k, k < 32 → (((nI k).toUInt32 &&& Int32.toUInt32 31).toBitVec % 32).toNat = k := by decide +kernel
  exact pk_ushrN ha (nI k) k (this k hk)
theorem top1 {a : Nat} (h0 : 0 < a) (ha : a < 2 ^ 32) : ∃ L, L < 32 ∧ 2 ^ L ≤ a ∧ a < 2 ^ (L + 1) := by
  refine ⟨Nat.log2 a, ?_, Nat.log2_self_le (by omega), Nat.lt_log2_self⟩
  exact (Nat.log2_lt (by omega)).mpr ha
/-- from the top: the other side -/
theorem mclz {a L : Nat} {z : Int32} (hz : z = nI 103) (ha : a < 2 ^ 32) (hL : L < 32) (h1 : 2 ^ L ≤ a) (h2 : a < 2 ^ (L + 1)) : ∀ d n N, n + d = 31 - L → d < N → f_M_single_48 N z (nI a) (nI n) = some (nI (31 - L)) := by
  intro d
  induction d with
  | zero =>
    intro n N hn hN
    obtain ⟨N, rfl⟩ : ∃ q, N = q + 1 := ⟨N - 1, by omega⟩
    rw [f_M_single_48, if_neg (show ¬ (32 : Int32) ≤ nI n from nI_ge (b := 32) (by omega) (by decide)), if_pos (show z = 103 by rw [hz]; rfl)]
    simp only [lt1]
    rw [show (31 : Int32) - nI n = nI (31 - n) from pk_sub (a := 31) (by omega), sbit ha (by omega)]
    have : a / 2 ^ (31 - n) = 1 := by
      rw [show 31 - n = L by omega]
      apply Nat.div_eq_of_lt_le
      · omega
      · rw [Nat.pow_succ] at h2; omega
    rw [this, f_M_single_76, if_neg (show ¬ nI (1 % 2) = 0 by decide), f_M_single_85, show n = 31 - L by omega]
  | succ d ih =>
    intro n N hn hN
    obtain ⟨N, rfl⟩ : ∃ q, N = q + 1 := ⟨N - 1, by omega⟩
    rw [f_M_single_48, if_neg (show ¬ (32 : Int32) ≤ nI n from nI_ge (b := 32) (by omega) (by decide)), if_pos (show z = 103 by rw [hz]; rfl)]
    simp only [lt1]
    rw [show (31 : Int32) - nI n = nI (31 - n) from pk_sub (a := 31) (by omega), sbit ha (by omega)]
    have : a / 2 ^ (31 - n) = 0 := by
      apply Nat.div_eq_of_lt
      have : 2 ^ (L + 1) ≤ 2 ^ (31 - n) := Nat.pow_le_pow_right (by decide) (by omega)
      omega
    rw [this, f_M_single_76, if_pos (show nI (0 % 2) = 0 from rfl)]
    simp only [lt1, nI_1]
    exact ih (n + 1) N (by omega) (by omega)
theorem mz0 {z : Int32} : ∀ d n N, n + d = 32 → d < N → f_M_single_48 N z (nI 0) (nI n) = some (nI 32) := by
  intro d
  induction d with
  | zero =>
    intro n N hn hN
    obtain ⟨N, rfl⟩ : ∃ q, N = q + 1 := ⟨N - 1, by omega⟩
    rw [f_M_single_48, if_pos (show (32 : Int32) ≤ nI n from nI_le (a := 32) (by omega) (by omega)), f_M_single_85, show n = 32 by omega]
  | succ d ih =>
    intro n N hn hN
    obtain ⟨N, rfl⟩ : ∃ q, N = q + 1 := ⟨N - 1, by omega⟩
    rw [f_M_single_48, if_neg (show ¬ (32 : Int32) ≤ nI n from nI_ge (b := 32) (by omega) (by decide))]
    simp only [lt1]
    rw [show (31 : Int32) - nI n = nI (31 - n) from pk_sub (a := 31) (by omega), sbit (by decide) (by omega), sbit (by decide) (by omega), Nat.zero_div, Nat.zero_div, f_M_single_76, if_pos (show nI (0 % 2) = 0 from rfl), ite_self]
    simp only [lt1, nI_1]
    exact ih (n + 1) N (by omega) (by omega)
/-- from the bottom: the other side -/
theorem mctz {a T : Nat} {z : Int32} (hz : z = nI 104) (ha : a < 2 ^ 32) (hT : T < 32) (h0 : ∀ k, k < T → a / 2 ^ k % 2 = 0) (h1 : a / 2 ^ T % 2 = 1) : ∀ d n N, n + d = T → d < N → f_M_single_48 N z (nI a) (nI n) = some (nI T) := by
  intro d
  induction d with
  | zero =>
    intro n N hn hN
    obtain ⟨N, rfl⟩ : ∃ q, N = q + 1 := ⟨N - 1, by omega⟩
    rw [f_M_single_48, if_neg (show ¬ (32 : Int32) ≤ nI n from nI_ge (b := 32) (by omega) (by decide)), if_neg (show ¬ z = 103 by rw [hz]; decide)]
    simp only [lt1]
    rw [sbit ha (by omega), show n = T by omega, h1, f_M_single_76, if_neg (show ¬ nI 1 = 0 by decide), f_M_single_85]
  | succ d ih =>
    intro n N hn hN
    obtain ⟨N, rfl⟩ : ∃ q, N = q + 1 := ⟨N - 1, by omega⟩
    rw [f_M_single_48, if_neg (show ¬ (32 : Int32) ≤ nI n from nI_ge (b := 32) (by omega) (by decide)), if_neg (show ¬ z = 103 by rw [hz]; decide)]
    simp only [lt1]
    rw [sbit ha (by omega), h0 n (by omega), f_M_single_76, if_pos (show nI 0 = 0 from rfl)]
    simp only [lt1, nI_1]
    exact ih (n + 1) N (by omega) (by omega)
/-- from the top: the class -/
theorem xclz_s {a m L c : Nat} (hc : c < 32) (h1 : 2 ^ (L - m) ≤ a) (h2 : a < 2 ^ (L - m + 1)) (hmL : m ≤ L) (hge : 2 ^ c ≤ a) : m + c ≤ L ∧ 2 ^ (L - (m + c)) ≤ a / 2 ^ c ∧ a / 2 ^ c < 2 ^ (L - (m + c) + 1) := by
  have hcl : c ≤ L - m := by
    by_cases q : c ≤ L - m
    · exact q
    · have : 2 ^ (L - m + 1) ≤ 2 ^ c := Nat.pow_le_pow_right (by decide) (by omega)
      omega
  have e1 : 2 ^ (L - m) = 2 ^ (L - (m + c)) * 2 ^ c := by rw [← Nat.pow_add]; congr 1; omega
  have e2 : 2 ^ (L - m + 1) = 2 ^ (L - (m + c) + 1) * 2 ^ c := by rw [← Nat.pow_add]; congr 1; omega
  refine ⟨by omega, ?_, ?_⟩
  · rw [Nat.le_div_iff_mul_le (Nat.two_pow_pos c), ← e1]; exact h1
  · rw [Nat.div_lt_iff_lt_mul (Nat.two_pow_pos c), ← e2]; exact h2
theorem xclz_e {a m L : Nat} (hm31 : m ≤ 31) (hL : L ≤ 31) (h1 : 2 ^ (L - m) ≤ a) (h2 : a < 2 ^ (L - m + 1)) (hmL : m ≤ L) (ha : a < 4) : f_Integer_numberOfLeadingZeros_73 (nI a) (nI (31 - m)) = some (nI (31 - L)) := by
  rw [f_Integer_numberOfLeadingZeros_73]
  simp only [lt1]
  rw [show ush (nI a) 1 = nI (a / 2 ^ 1) from ush_n (k := 1) (by omega) (by decide)]
  have hL2 : L - m ≤ 1 := by
    by_cases q : L - m ≤ 1
    · exact q
    · have : 2 ^ 2 ≤ 2 ^ (L - m) := Nat.pow_le_pow_right (by decide) (by omega)
      omega
  have hd : a / 2 ^ 1 = L - m := by
    rcases (show L - m = 0 ∨ L - m = 1 by omega) with q | q
    · rw [q] at h1 h2 ⊢
      have : a = 1 := by omega
      rw [this]
    · rw [q] at h1 h2 ⊢
      have : a = 2 ∨ a = 3 := by omega
      rcases this with z | z <;> rw [z]
  rw [hd, pk_sub (by omega)]
  exact congrArg (fun x => some (nI x)) (by omega)
theorem am2 {m : Nat} (hm : m ≤ 29) : nI (31 - m) + -2 = nI (31 - (m + 2)) := by
  rw [show (-2 : Int32) = - nI 2 by decide, ← Int32.sub_eq_add_neg, pk_sub (by omega)]; exact congrArg nI (by omega)
theorem am4 {m : Nat} (hm : m ≤ 27) : nI (31 - m) + -4 = nI (31 - (m + 4)) := by
  rw [show (-4 : Int32) = - nI 4 by decide, ← Int32.sub_eq_add_neg, pk_sub (by omega)]; exact congrArg nI (by omega)
theorem am8 {m : Nat} (hm : m ≤ 23) : nI (31 - m) + -8 = nI (31 - (m + 8)) := by
  rw [show (-8 : Int32) = - nI 8 by decide, ← Int32.sub_eq_add_neg, pk_sub (by omega)]; exact congrArg nI (by omega)
theorem us2 {b : Nat} (hb : b < 65536) : ush (nI b) 2 = nI (b / 2 ^ 2) := ush_n (k := 2) (by omega) (by decide)
theorem us4 {b : Nat} (hb : b < 65536) : ush (nI b) 4 = nI (b / 2 ^ 4) := ush_n (k := 4) (by omega) (by decide)
theorem us8 {b : Nat} (hb : b < 65536) : ush (nI b) 8 = nI (b / 2 ^ 8) := ush_n (k := 8) (by omega) (by decide)
theorem us16 {b : Nat} (hb : b < 2 ^ 32) : ush (nI b) 16 = nI (b / 2 ^ 16) := ush_n (k := 16) hb (by decide)
section XCLZ
variable {L : Nat}
theorem s61 (hL : L ≤ 31) {b m : Nat} (hm : m ≤ 29) (hmL : m ≤ L) (g1 : 2 ^ (L - m) ≤ b) (g2 : b < 2 ^ (L - m + 1)) (hb : b < 16) : f_Integer_numberOfLeadingZeros_61 (nI b) (nI (31 - m)) = some (nI (31 - L)) := by
  rw [f_Integer_numberOfLeadingZeros_61]
  by_cases q : b < 4
  · rw [if_pos (show nI b < 4 from nI_lt (b := 4) q (by decide))]
    exact xclz_e (by clear g1 g2; omega) hL g1 g2 hmL q
  · rw [if_neg (show ¬ nI b < 4 from nI_nlt (b := 4) (by clear g1 g2; omega) (by clear g1 g2; omega))]
    obtain ⟨z1, z2, z3⟩ := xclz_s (c := 2) (by decide) g1 g2 hmL (by clear g1 g2; omega)
    have hq : b / 2 ^ 2 < 4 := Nat.div_lt_of_lt_mul hb
    rw [am2 hm, us2 (by clear g1 g2 z2 z3; omega)]
    unfold lt1
    exact xclz_e (by clear g1 g2 z2 z3; omega) hL z2 z3 z1 hq
theorem s48 (hL : L ≤ 31) {b m : Nat} (hm : m ≤ 25) (hmL : m ≤ L) (g1 : 2 ^ (L - m) ≤ b) (g2 : b < 2 ^ (L - m + 1)) (hb : b < 256) : f_Integer_numberOfLeadingZeros_48 (nI b) (nI (31 - m)) = some (nI (31 - L)) := by
  rw [f_Integer_numberOfLeadingZeros_48]
  by_cases q : b < 16
  · rw [if_pos (show nI b < 16 from nI_lt (b := 16) q (by decide))]
    exact s61 hL (by clear g1 g2; omega) hmL g1 g2 q
  · rw [if_neg (show ¬ nI b < 16 from nI_nlt (b := 16) (by clear g1 g2; omega) (by clear g1 g2; omega))]
    obtain ⟨z1, z2, z3⟩ := xclz_s (c := 4) (by decide) g1 g2 hmL (by clear g1 g2; omega)
    have hq : b / 2 ^ 4 < 16 := Nat.div_lt_of_lt_mul hb
    rw [am4 (by clear g1 g2 z2 z3; omega), us4 (by clear g1 g2 z2 z3; omega)]
    unfold lt1
    exact s61 hL (by clear g1 g2 z2 z3; omega) z1 z2 z3 hq
theorem s33 (hL : L ≤ 31) {b m : Nat} (hm : m ≤ 17) (hmL : m ≤ L) (g1 : 2 ^ (L - m) ≤ b) (g2 : b < 2 ^ (L - m + 1)) (hb : b < 65536) : f_Integer_numberOfLeadingZeros_33 (nI b) (nI (31 - m)) = some (nI (31 - L)) := by
  rw [f_Integer_numberOfLeadingZeros_33]
  by_cases q : b < 256
  · rw [if_pos (show nI b < 256 from nI_lt (b := 256) q (by decide))]
    exact s48 hL (by clear g1 g2; omega) hmL g1 g2 q
  · rw [if_neg (show ¬ nI b < 256 from nI_nlt (b := 256) (by clear g1 g2; omega) (by clear g1 g2; omega))]
    obtain ⟨z1, z2, z3⟩ := xclz_s (c := 8) (by decide) g1 g2 hmL (by clear g1 g2; omega)
    have hq : b / 2 ^ 8 < 256 := Nat.div_lt_of_lt_mul hb
    rw [am8 (by clear g1 g2 z2 z3; omega), us8 hb]
    unfold lt1
    exact s48 hL (by clear g1 g2 z2 z3; omega) z1 z2 z3 hq
theorem lz_i (x : Int32) (h0 : 0 < x) (h : x < 65536) : f_Integer_numberOfLeadingZeros x = f_Integer_numberOfLeadingZeros_33 x 31 := by
  rw [f_Integer_numberOfLeadingZeros, if_pos h0, if_pos h]
theorem lz_j (x : Int32) (h0 : 0 < x) (h : ¬ x < 65536) : f_Integer_numberOfLeadingZeros x = f_Integer_numberOfLeadingZeros_33 (ush x 16) (31 + (-16)) := by
  rw [f_Integer_numberOfLeadingZeros, if_pos h0, if_neg h]
  rfl
theorem e15 : (31 : Int32) + (-16) = nI (31 - 16) := by decide
theorem xclz {a : Nat} (ha0 : 0 < a) (ha : a < 2 ^ 31) (hL : L ≤ 31) (h1 : 2 ^ L ≤ a) (h2 : a < 2 ^ (L + 1)) : f_Integer_numberOfLeadingZeros (nI a) = some (nI (31 - L)) := by
  have g0 : (0 : Int32) < nI a := nI_lt (a := 0) ha0 ha
  by_cases q : a < 65536
  · rw [lz_i _ g0 (nI_lt (b := 65536) q (by decide))]
    exact s33 (m := 0) hL (by decide) (Nat.zero_le _) h1 h2 q
  · rw [lz_j _ g0 (nI_nlt (b := 65536) (by clear h1 h2; omega) ha), us16 (by clear h1 h2; omega), e15]
    obtain ⟨z1, z2, z3⟩ := xclz_s (m := 0) (c := 16) (by decide) h1 h2 (Nat.zero_le _) (by clear h1 h2; omega)
    rw [Nat.zero_add] at z1 z2 z3
    have hq : a / 2 ^ 16 < 65536 := by clear h1 h2 z2 z3; omega
    exact s33 (m := 16) hL (by decide) z1 z2 z3 hq
end XCLZ
theorem clz2 (x : Int32) {z : Int32} (hz : z = nI 103) : ∃ r, f_Integer_numberOfLeadingZeros x = some r ∧ f_M_single_48 FU z x 0 = some r := by
  obtain ⟨a, ha, rfl⟩ := wb_of32 x
  by_cases h0 : a = 0
  · subst h0
    refine ⟨nI 32, ?_, mz0 32 0 FU rfl (by unfold FU; omega)⟩
    rw [f_Integer_numberOfLeadingZeros, if_neg (show ¬ (0 : Int32) < nI 0 by decide), if_pos (show nI 0 = 0 from rfl), f_Integer_numberOfLeadingZeros_14]
    rfl
  · obtain ⟨L, hL, h1, h2⟩ := top1 (by omega) ha
    refine ⟨nI (31 - L), ?_, mclz hz ha hL h1 h2 (31 - L) 0 FU (by omega) (by unfold FU; omega)⟩
    by_cases h31 : a < 2 ^ 31
    · exact xclz (by omega) h31 (by omega) h1 h2
    · have hL31 : L = 31 := by
        by_cases q : L = 31
        · exact q
        · have : 2 ^ (L + 1) ≤ 2 ^ 31 := Nat.pow_le_pow_right (by decide) (by omega)
          omega
      have hneg : nI a < 0 := by
        rw [Int32.lt_iff_toInt_lt]
        show (Int32.ofNat a).toInt < 0
        rw [Int32.toInt_ofNat']
        simp only [Int.bmod, Int32.size]
        omega
      rw [f_Integer_numberOfLeadingZeros, if_neg (fun q => absurd (Int32.lt_trans q hneg) (by decide)), if_neg (fun q => by rw [q] at hneg; exact absurd hneg (by decide)), f_Integer_numberOfLeadingZeros_14, hL31]
      rfl
