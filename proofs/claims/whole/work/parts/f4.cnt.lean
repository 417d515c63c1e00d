-- counting from the bottom, counting all
def ctv (v3 : Int32) : Option Int32 :=
    if 0 < v3 then
      if v3 ≤ 65536 then
        f_Integer_numberOfTrailingZeros_34 v3 1
      else
        lt1 (1 + (16)) fun v4 =>
        lt1 (ush v3 16) fun v5 =>
        f_Integer_numberOfTrailingZeros_34 v5 v4
    else
      lt1 (v3 &&& 32) fun v6 =>
      some (v6)
theorem ctv_e (x : Int32) : f_Integer_numberOfTrailingZeros x = ctv ((x ^^^ (-1)) &&& (x - 1)) := rfl
theorem ctv_t : ∀ T, T < 32 → ctv (nI (2 ^ T - 1)) = some (nI T) := by decide +kernel
theorem ctv_0 : ctv (((0 : Int32) ^^^ (-1)) &&& (0 - 1)) = some (nI 32) := by decide +kernel
theorem tzn {T q : Nat} (ha : 2 ^ T * (2 * q + 1) < 2 ^ 32) : (2 ^ 32 - 1 - 2 ^ T * (2 * q + 1)) &&& (2 ^ T * (2 * q + 1) - 1) = 2 ^ T - 1 := by
  apply Nat.eq_of_testBit_eq
  intro i
  have hp := Nat.two_pow_pos T
  have e1 : 2 ^ 32 - 1 - 2 ^ T * (2 * q + 1) = 2 ^ 32 - (2 ^ T * (2 * q + 1) + 1) := by omega
  have e2 : 2 ^ T * (2 * q + 1) - 1 = 2 ^ T * (2 * q) + (2 ^ T - 1) := by rw [Nat.mul_add, Nat.mul_one]; omega
  rw [Nat.testBit_and, e1, Nat.testBit_two_pow_sub_succ ha, e2, Nat.testBit_two_pow_mul_add _ (by omega), Nat.testBit_two_pow_sub_one, ← Nat.add_zero (2 ^ T * (2 * q + 1)), Nat.testBit_two_pow_mul_add _ hp]
  by_cases hi : i < T
  · have h32 : i < 32 := by
      by_cases z : i < 32
      · exact z
      · have : 2 ^ 32 ≤ 2 ^ T := Nat.pow_le_pow_right (by decide) (by omega)
        have := Nat.mul_le_mul_left (2 ^ T) (show 1 ≤ 2 * q + 1 by omega)
        omega
    rw [if_pos hi, if_pos hi, Nat.zero_testBit, decide_eq_true hi, decide_eq_true h32]; rfl
  · rw [if_neg hi, if_neg hi, decide_eq_false hi]
    cases hj : i - T with
    | zero => rw [Nat.testBit_zero, Nat.testBit_zero]; rw [show (2 * q) % 2 = 0 by omega, show (2 * q + 1) % 2 = 1 by omega]; simp
    | succ j => rw [Nat.testBit_succ, Nat.testBit_succ, show (2 * q + 1) / 2 = q by omega, show 2 * q / 2 = q by omega]; cases q.testBit j <;> simp
theorem odd1 {a : Nat} (h : 0 < a) : ∃ T q, a = 2 ^ T * (2 * q + 1) := by
  induction a using Nat.strongRecOn with
  | ind a ih =>
    by_cases ho : a % 2 = 1
    · exact ⟨0, a / 2, by rw [Nat.pow_zero]; omega⟩
    · obtain ⟨T, q, e⟩ := ih (a / 2) (by omega) (by omega)
      exact ⟨T + 1, q, by rw [Nat.pow_succ, Nat.mul_comm (2 ^ T) 2, Nat.mul_assoc, ← e]; omega⟩
theorem nI_xm (a : Nat) (ha : a < 2 ^ 32) : nI a ^^^ (-1) = nI (2 ^ 32 - 1 - a) := by
  apply Int32.toBitVec_inj.mp
  rw [show (nI a ^^^ (-1)).toBitVec = (nI a).toBitVec ^^^ (-1 : Int32).toBitVec from rfl, show (-1 : Int32).toBitVec = BitVec.allOnes 32 by decide, BitVec.xor_allOnes]
  apply BitVec.eq_of_toNat_eq
  rw [BitVec.toNat_not, pk_tn ha, pk_tn (by omega)]
theorem nI_an (a b : Nat) (ha : a < 2 ^ 32) (hb : b < 2 ^ 32) : nI a &&& nI b = nI (a &&& b) := by
  apply Int32.toBitVec_inj.mp
  rw [show (nI a &&& nI b).toBitVec = (nI a).toBitVec &&& (nI b).toBitVec from rfl]
  apply BitVec.eq_of_toNat_eq
  rw [BitVec.toNat_and, pk_tn ha, pk_tn hb, pk_tn (Nat.lt_of_le_of_lt Nat.and_le_left ha)]
theorem ctz2 (x : Int32) {z : Int32} (hz : z = nI 104) : ∃ r, f_Integer_numberOfTrailingZeros x = some r ∧ f_M_single_48 FU z x 0 = some r := by
  obtain ⟨a, ha, rfl⟩ := wb_of32 x
  rw [ctv_e]
  by_cases h0 : a = 0
  · subst h0
    exact ⟨nI 32, ctv_0, mz0 32 0 FU rfl (by unfold FU; omega)⟩
  · obtain ⟨T, q, e⟩ := odd1 (a := a) (by omega)
    have hp := Nat.two_pow_pos T
    have hT : T < 32 := by
      by_cases z : T < 32
      · exact z
      · have h1 : 2 ^ 32 ≤ 2 ^ T := Nat.pow_le_pow_right (by decide) (by omega)
        have h2 := Nat.mul_le_mul_left (2 ^ T) (show 1 ≤ 2 * q + 1 by omega)
        omega
    refine ⟨nI T, ?_, mctz hz ha hT ?_ ?_ T 0 FU (by omega) (by unfold FU; omega)⟩
    · rw [nI_xm a ha, show nI a - 1 = nI (a - 1) from pk_sub (b := 1) (by omega), nI_an _ _ (by omega) (by omega), e, tzn (by rw [← e]; exact ha)]
      exact ctv_t T hT
    · intro k hk
      rw [e, show T = k + (1 + (T - k - 1)) by omega, Nat.pow_add, Nat.mul_assoc, Nat.mul_div_cancel_left _ (Nat.two_pow_pos k), Nat.pow_add, Nat.pow_one, Nat.mul_assoc]
      exact Nat.mul_mod_right 2 _
    · rw [e, Nat.mul_div_cancel_left _ hp]; omega
/-- four bytes -/
def N4 (a b c d : Nat) : Nat := a + 256 * b + 65536 * c + 16777216 * d
theorem an1 {d e x m : Nat} (hd : d < 256) (he : e < 256) : (d + 256 * x) &&& (e + 256 * m) = (d &&& e) + 256 * (x &&& m) := by
  have h1 : ((d + 256 * x) &&& (e + 256 * m)) % 2 ^ 8 = (d + 256 * x) % 2 ^ 8 &&& (e + 256 * m) % 2 ^ 8 := Nat.and_mod_two_pow
  have h2 : ((d + 256 * x) &&& (e + 256 * m)) / 2 ^ 8 = (d + 256 * x) / 2 ^ 8 &&& (e + 256 * m) / 2 ^ 8 := Nat.and_div_two_pow
  rw [show (d + 256 * x) % 2 ^ 8 = d by omega, show (e + 256 * m) % 2 ^ 8 = e by omega] at h1
  rw [show (d + 256 * x) / 2 ^ 8 = x by omega, show (e + 256 * m) / 2 ^ 8 = m by omega] at h2
  rw [← h1, ← h2]; omega
theorem an4 {a b c d m : Nat} (ha : a < 256) (hb : b < 256) (hc : c < 256) (hm : m < 256) : N4 a b c d &&& N4 m m m m = N4 (a &&& m) (b &&& m) (c &&& m) (d &&& m) := by
  have e : ∀ a b c d, N4 a b c d = a + 256 * (b + 256 * (c + 256 * d)) := by intro a b c d; unfold N4; omega
  rw [e, e, e, an1 ha hm, an1 hb hm, an1 hc hm]
def h1b (x : Nat) : Nat := x / 2 &&& 85
def p1b (x : Nat) : Nat := x - h1b x
def q1b (x : Nat) : Nat := (p1b x &&& 51) + (p1b x / 4 &&& 51)
def c1b (x : Nat) : Nat := (q1b x + q1b x / 16) % 16
theorem b_1 : ∀ x, x < 256 → ∀ b, b < 2 → (x / 2 + 128 * b) &&& 85 = h1b x := by decide +kernel
theorem b_2 : ∀ x, x < 256 → h1b x ≤ x := by decide +kernel
theorem b_3 : ∀ x, x < 256 → ∀ b, b < 4 → (p1b x / 4 + 64 * b) &&& 51 = p1b x / 4 &&& 51 := by decide +kernel
theorem b_4 : ∀ x, x < 256 → q1b x % 16 ≤ 4 ∧ q1b x / 16 ≤ 4 := by decide +kernel
theorem b_5 : ∀ x, x < 256 → ∀ b, b < 16 → (q1b x + (q1b x / 16 + 16 * b)) &&& 15 = c1b x := by decide +kernel
def sb (a : Nat) : Nat → Nat
  | 0 => 0
  | k + 1 => sb a k + a / 2 ^ k % 2
theorem b_6 : ∀ x, x < 256 → c1b x = sb x 8 ∧ c1b x ≤ 8 := by decide +kernel
theorem sb_add (a m : Nat) : ∀ k, sb a (m + k) = sb a m + sb (a / 2 ^ m) k := by
  intro k
  induction k with
  | zero => rfl
  | succ k ih =>
    rw [show m + (k + 1) = (m + k) + 1 by omega]
    show sb a (m + k) + a / 2 ^ (m + k) % 2 = sb a m + (sb (a / 2 ^ m) k + a / 2 ^ m / 2 ^ k % 2)
    rw [ih, Nat.pow_add, Nat.div_div_eq_div_mul]; omega
theorem sb_lo {d y : Nat} (k : Nat) (hk : k ≤ 8) (hd : d < 256) : sb (d + 256 * y) k = sb d k := by
  induction k with
  | zero => rfl
  | succ k ih =>
    show sb (d + 256 * y) k + (d + 256 * y) / 2 ^ k % 2 = sb d k + d / 2 ^ k % 2
    rw [ih (by omega)]
    have : k = 0 ∨ k = 1 ∨ k = 2 ∨ k = 3 ∨ k = 4 ∨ k = 5 ∨ k = 6 ∨ k = 7 := by omega
    rcases this with e | e | e | e | e | e | e | e <;> subst e <;> omega
theorem sb_4 {a b c d : Nat} (ha : a < 256) (hb : b < 256) (hc : c < 256) (hd : d < 256) : sb (N4 a b c d) 32 = c1b a + c1b b + c1b c + c1b d := by
  have e : N4 a b c d = a + 256 * (b + 256 * (c + 256 * d)) := by unfold N4; omega
  rw [e, show (32 : Nat) = 8 + (8 + (8 + 8)) from rfl, sb_add, sb_add, sb_add, sb_lo 8 (by decide) ha,
    show (a + 256 * (b + 256 * (c + 256 * d))) / 2 ^ 8 = b + 256 * (c + 256 * d) by omega, sb_lo 8 (by decide) hb,
    show (b + 256 * (c + 256 * d)) / 2 ^ 8 = c + 256 * d by omega, sb_lo 8 (by decide) hc, show (c + 256 * d) / 2 ^ 8 = d by omega,
    (b_6 a ha).1, (b_6 b hb).1, (b_6 c hc).1, (b_6 d hd).1]
  omega
theorem ush1 {a : Nat} (ha : a < 2 ^ 32) : ush (nI a) 1 = nI (a / 2 ^ 1) := ush_n (k := 1) ha (by decide)
theorem ush2 {a : Nat} (ha : a < 2 ^ 32) : ush (nI a) 2 = nI (a / 2 ^ 2) := ush_n (k := 2) ha (by decide)
theorem ush4 {a : Nat} (ha : a < 2 ^ 32) : ush (nI a) 4 = nI (a / 2 ^ 4) := ush_n (k := 4) ha (by decide)
theorem ush8 {a : Nat} (ha : a < 2 ^ 32) : ush (nI a) 8 = nI (a / 2 ^ 8) := ush_n (k := 8) ha (by decide)
theorem N4_lt {a b c d : Nat} (ha : a < 256) (hb : b < 256) (hc : c < 256) (hd : d < 256) : N4 a b c d < 2 ^ 32 := by unfold N4; omega
theorem bcnt {a b c d : Nat} (ha : a < 256) (hb : b < 256) (hc : c < 256) (hd : d < 256) : f_Integer_bitCount (nI (N4 a b c d)) = some (nI (c1b a + c1b b + c1b c + c1b d)) := by
  have h0 := N4_lt ha hb hc hd
  have s1 : ush (nI (N4 a b c d)) 1 = nI (N4 (a / 2 + 128 * (b % 2)) (b / 2 + 128 * (c % 2)) (c / 2 + 128 * (d % 2)) (d / 2 + 128 * 0)) := by
    rw [ush1 h0]; exact congrArg nI (by unfold N4; omega)
  have s2 : nI (N4 (a / 2 + 128 * (b % 2)) (b / 2 + 128 * (c % 2)) (c / 2 + 128 * (d % 2)) (d / 2 + 128 * 0)) &&& 1431655765 = nI (N4 (h1b a) (h1b b) (h1b c) (h1b d)) := by
    rw [show (1431655765 : Int32) = nI (N4 85 85 85 85) by decide, nI_an _ _ (N4_lt (by omega) (by omega) (by omega) (by omega)) (by decide), an4 (by omega) (by omega) (by omega) (by decide), b_1 a ha _ (by omega), b_1 b hb _ (by omega), b_1 c hc _ (by omega), b_1 d hd _ (by omega)]
  have a1 := b_2 a ha
  have a2 := b_2 b hb
  have a3 := b_2 c hc
  have a4 := b_2 d hd
  have s3 : nI (N4 a b c d) - nI (N4 (h1b a) (h1b b) (h1b c) (h1b d)) = nI (N4 (p1b a) (p1b b) (p1b c) (p1b d)) := by
    rw [pk_sub (by unfold N4; omega)]; exact congrArg nI (by unfold N4 p1b; omega)
  have p1 : p1b a < 256 := by unfold p1b; omega
  have p2 : p1b b < 256 := by unfold p1b; omega
  have p3 : p1b c < 256 := by unfold p1b; omega
  have p4 : p1b d < 256 := by unfold p1b; omega
  have hp := N4_lt p1 p2 p3 p4
  have s4 : nI (N4 (p1b a) (p1b b) (p1b c) (p1b d)) &&& 858993459 = nI (N4 (p1b a &&& 51) (p1b b &&& 51) (p1b c &&& 51) (p1b d &&& 51)) := by
    rw [show (858993459 : Int32) = nI (N4 51 51 51 51) by decide, nI_an _ _ hp (by decide), an4 p1 p2 p3 (by decide)]
  have s5 : ush (nI (N4 (p1b a) (p1b b) (p1b c) (p1b d))) 2 = nI (N4 (p1b a / 4 + 64 * (p1b b % 4)) (p1b b / 4 + 64 * (p1b c % 4)) (p1b c / 4 + 64 * (p1b d % 4)) (p1b d / 4 + 64 * 0)) := by
    rw [ush2 hp]; exact congrArg nI (by unfold N4; omega)
  have s6 : nI (N4 (p1b a / 4 + 64 * (p1b b % 4)) (p1b b / 4 + 64 * (p1b c % 4)) (p1b c / 4 + 64 * (p1b d % 4)) (p1b d / 4 + 64 * 0)) &&& 858993459 = nI (N4 (p1b a / 4 &&& 51) (p1b b / 4 &&& 51) (p1b c / 4 &&& 51) (p1b d / 4 &&& 51)) := by
    rw [show (858993459 : Int32) = nI (N4 51 51 51 51) by decide, nI_an _ _ (N4_lt (by omega) (by omega) (by omega) (by omega)) (by decide), an4 (by omega) (by omega) (by omega) (by decide), b_3 a ha _ (by omega), b_3 b hb _ (by omega), b_3 c hc _ (by omega), b_3 d hd _ (by omega)]
  have s7 : nI (N4 (p1b a &&& 51) (p1b b &&& 51) (p1b c &&& 51) (p1b d &&& 51)) + nI (N4 (p1b a / 4 &&& 51) (p1b b / 4 &&& 51) (p1b c / 4 &&& 51) (p1b d / 4 &&& 51)) = nI (N4 (q1b a) (q1b b) (q1b c) (q1b d)) := by
    rw [nI_add]; exact congrArg nI (by unfold N4 q1b; omega)
  obtain ⟨x1, y1⟩ := b_4 a ha
  obtain ⟨x2, y2⟩ := b_4 b hb
  obtain ⟨x3, y3⟩ := b_4 c hc
  obtain ⟨x4, y4⟩ := b_4 d hd
  have q1 : q1b a < 80 := by omega
  have q2 : q1b b < 80 := by omega
  have q3 : q1b c < 80 := by omega
  have q4 : q1b d < 80 := by omega
  have hq := N4_lt (a := q1b a) (b := q1b b) (c := q1b c) (d := q1b d) (by omega) (by omega) (by omega) (by omega)
  have s8 : ush (nI (N4 (q1b a) (q1b b) (q1b c) (q1b d))) 4 = nI (N4 (q1b a / 16 + 16 * (q1b b % 16)) (q1b b / 16 + 16 * (q1b c % 16)) (q1b c / 16 + 16 * (q1b d % 16)) (q1b d / 16 + 16 * 0)) := by
    rw [ush4 hq]; exact congrArg nI (by unfold N4; omega)
  have s9 : (nI (N4 (q1b a) (q1b b) (q1b c) (q1b d)) + nI (N4 (q1b a / 16 + 16 * (q1b b % 16)) (q1b b / 16 + 16 * (q1b c % 16)) (q1b c / 16 + 16 * (q1b d % 16)) (q1b d / 16 + 16 * 0))) &&& 252645135 = nI (N4 (c1b a) (c1b b) (c1b c) (c1b d)) := by
    rw [nI_add, show N4 (q1b a) (q1b b) (q1b c) (q1b d) + N4 (q1b a / 16 + 16 * (q1b b % 16)) (q1b b / 16 + 16 * (q1b c % 16)) (q1b c / 16 + 16 * (q1b d % 16)) (q1b d / 16 + 16 * 0) = N4 (q1b a + (q1b a / 16 + 16 * (q1b b % 16))) (q1b b + (q1b b / 16 + 16 * (q1b c % 16))) (q1b c + (q1b c / 16 + 16 * (q1b d % 16))) (q1b d + (q1b d / 16 + 16 * 0)) by unfold N4; omega,
      show (252645135 : Int32) = nI (N4 15 15 15 15) by decide, nI_an _ _ (N4_lt (by omega) (by omega) (by omega) (by omega)) (by decide), an4 (by omega) (by omega) (by omega) (by decide), b_5 a ha _ (by omega), b_5 b hb _ (by omega), b_5 c hc _ (by omega), b_5 d hd _ (by omega)]
  have c1 := (b_6 a ha).2
  have c2 := (b_6 b hb).2
  have c3 := (b_6 c hc).2
  have c4 := (b_6 d hd).2
  have sa : ush (nI (N4 (c1b a) (c1b b) (c1b c) (c1b d))) 8 = nI (N4 (c1b b) (c1b c) (c1b d) 0) := by
    rw [ush8 (N4_lt (by omega) (by omega) (by omega) (by omega))]; exact congrArg nI (by unfold N4; omega)
  have sc : nI (N4 (c1b a) (c1b b) (c1b c) (c1b d)) + nI (N4 (c1b b) (c1b c) (c1b d) 0) = nI (N4 (c1b a + c1b b) (c1b b + c1b c) (c1b c + c1b d) (c1b d)) := by
    rw [nI_add]; exact congrArg nI (by unfold N4; omega)
  have sd : ush (nI (N4 (c1b a + c1b b) (c1b b + c1b c) (c1b c + c1b d) (c1b d))) 16 = nI (N4 (c1b c + c1b d) (c1b d) 0 0) := by
    rw [us16 (N4_lt (by omega) (by omega) (by omega) (by omega))]; exact congrArg nI (by unfold N4; omega)
  have se : (nI (N4 (c1b a + c1b b) (c1b b + c1b c) (c1b c + c1b d) (c1b d)) + nI (N4 (c1b c + c1b d) (c1b d) 0 0)) &&& 63 = nI (c1b a + c1b b + c1b c + c1b d) := by
    rw [nI_add, pk_andN (by unfold N4; omega) 6 (by decide)]; exact congrArg nI (by unfold N4; omega)
  rw [f_Integer_bitCount]
  rw [lt1, s1, lt1, s2, lt1, s3, lt1, s4, lt1, s5, lt1, s6, lt1, s7, lt1, s8, lt1, lt1, s9, lt1, sa, lt1, sc, lt1, sd, lt1, lt1, se]
theorem mpop {a : Nat} (ha : a < 2 ^ 32) {z : Int32} : ∀ d n N, n + d = 32 → d < N → f_M_single_26 N z (nI a) (nI (sb a n)) (nI n) = some (nI (sb a 32)) := by
  intro d
  induction d with
  | zero =>
    intro n N hn hN
    obtain ⟨N, rfl⟩ : ∃ q, N = q + 1 := ⟨N - 1, by omega⟩
    rw [f_M_single_26, if_pos (show (32 : Int32) ≤ nI n from nI_le (a := 32) (by omega) (by omega)), show n = 32 by omega]
  | succ d ih =>
    intro n N hn hN
    obtain ⟨N, rfl⟩ : ∃ q, N = q + 1 := ⟨N - 1, by omega⟩
    rw [f_M_single_26, if_neg (show ¬ (32 : Int32) ≤ nI n from nI_ge (b := 32) (by omega) (by decide))]
    rw [lt1, lt1, sbit ha (by omega), lt1, nI_add, lt1, nI_1]
    exact ih (n + 1) N (by omega) (by omega)
theorem pop2 (x : Int32) {z : Int32} : ∃ r, f_Integer_bitCount x = some r ∧ f_M_single_26 FU z x 0 0 = some r := by
  obtain ⟨a, ha, rfl⟩ := wb_of32 x
  have e : a = N4 (a % 256) (a / 256 % 256) (a / 65536 % 256) (a / 16777216) := by unfold N4; omega
  refine ⟨nI (sb a 32), ?_, mpop ha 32 0 FU rfl (by unfold FU; omega)⟩
  rw [e, sb_4 (by omega) (by omega) (by omega) (by omega)]
  exact bcnt (by omega) (by omega) (by omega) (by omega)
theorem onev2 (x : Int32) {z : Int32} (h : z = nI 69 ∨ z = nI 103 ∨ z = nI 104 ∨ z = nI 105) : ∃ r, f_Op_ofOne z x = some r ∧ f_M_single z x = some r := by
  rcases h with h | h | h | h
  · rw [f_Op_ofOne, f_M_single, if_pos (show z = 69 by rw [h]; rfl), if_pos (show z = 69 by rw [h]; rfl)]
    by_cases q : x = 0
    · rw [if_pos q, if_pos q]; exact ⟨_, rfl, rfl⟩
    · rw [if_neg q, if_neg q]; exact ⟨_, rfl, rfl⟩
  · rw [f_Op_ofOne, f_M_single, if_neg (show ¬ z = 69 by rw [h]; decide), if_neg (show ¬ z = 69 by rw [h]; decide), if_pos (show z = 103 by rw [h]; rfl), if_neg (show ¬ z = 105 by rw [h]; decide)]
    obtain ⟨r, r1, r2⟩ := clz2 x h
    exact ⟨r, by rw [r1]; rfl, r2⟩
  · rw [f_Op_ofOne, f_M_single, if_neg (show ¬ z = 69 by rw [h]; decide), if_neg (show ¬ z = 69 by rw [h]; decide), if_neg (show ¬ z = 103 by rw [h]; decide), if_pos (show z = 104 by rw [h]; rfl), if_neg (show ¬ z = 105 by rw [h]; decide)]
    obtain ⟨r, r1, r2⟩ := ctz2 x h
    exact ⟨r, by rw [r1]; rfl, r2⟩
  · rw [f_Op_ofOne, f_M_single, if_neg (show ¬ z = 69 by rw [h]; decide), if_neg (show ¬ z = 69 by rw [h]; decide), if_neg (show ¬ z = 103 by rw [h]; decide), if_neg (show ¬ z = 104 by rw [h]; decide), if_pos (show z = 105 by rw [h]; rfl)]
    obtain ⟨r, r1, r2⟩ := pop2 x
    exact ⟨r, by rw [r1]; rfl, r2⟩
