-- a module is read: both sides alike
def cd0 : Cd := (fun _ => 0, fun _ => 0, fun _ => 0, fun _ => 0, fun _ => 0, fun _ => 0, fun _ => 0, fun _ => 0, fun _ => 0)
theorem wf0 : WF cd0 0 := by
  refine ⟨rfl, rfl, rfl, fun k hk => absurd hk (by omega), fun k hk => absurd hk (by omega), fun k hk => absurd hk (by omega), fun k hk => Nat.zero_le _, fun k hk q => absurd rfl q, fun k hk _ => rfl, fun k hk => Nat.zero_le _, fun k hk => absurd hk (by omega), fun k hk => absurd hk (by omega), fun k hk => rfl, fun k hk => absurd hk (by omega), fun b q => absurd rfl q, fun k hk => absurd hk (by omega), fun j b q => rfl⟩
theorem aF_eq (s : St) (k n : Nat) {j : Nat} (h : j < n) : aFill s k n k j = 0 := by
  rw [aFill, sta_eq, aFillF, if_pos h]
theorem aF_ne (s : St) {k a : Nat} (n : Nat) (h : a ≠ k) : aFill s k n a = s a := by
  rw [aFill, sta_ne _ _ h]
def clr (s : St) : St := stp (stp (stp (stp (aFill (stp (aFill (stp (aFill (stp (aFill (stp (aFill (stp (aFill (stp (aFill s 11 16) 10 0 0) 13 32) 12 0 0) 15 8) 14 0 0) 17 88) 16 0 0) 19 16) 18 0 0) 21 1680) 20 0 0) 23 240) 22 0 0) 1 0 0) 1 1 0) 1 2 0
theorem clear_eq (s : St) : f_Cont_clear s = some (clr s) := rfl
theorem readMod2 {s : St} {t : SM} {fed : Nat} (hs1 : s 2 1 = nI fed) (ht1 : t.1 0 1 = nI fed) (hfed : fed ≤ 240) (hby : ∀ j, j < 240 → ∃ b, b < 256 ∧ s 26 j = nI b ∧ t.1 1 j = nI b) (h0 : ∀ j, 5 ≤ j → j ≤ 15 → t.1 0 j = 0) (hl : t.2 0 0 = 0) :
    o2 FF some (f_Rd_readModule s) (f_M_readModule t) (RB s t (ModR s t)) := by
  rw [f_Rd_readModule, f_M_readModule, clear_eq, bd1_some]
  simp only [lt1]
  have q21 : clr s 2 = s 2 := by rw [clr]; simp (disch := decide) only [stp_ne, aF_ne]
  have q26 : clr s 26 = s 26 := by rw [clr]; simp (disch := decide) only [stp_ne, aF_ne]
  have q0 : clr s 0 = s 0 := by rw [clr]; simp (disch := decide) only [stp_ne, aF_ne]
  have c10 : clr s 10 0 = 0 := by rw [clr]; simp (disch := decide) only [stp_ne, aF_ne, stp_eq]
  have c12 : clr s 12 0 = 0 := by rw [clr]; simp (disch := decide) only [stp_ne, aF_ne, stp_eq]
  have c14 : clr s 14 0 = 0 := by rw [clr]; simp (disch := decide) only [stp_ne, aF_ne, stp_eq]
  have c16 : clr s 16 0 = 0 := by rw [clr]; simp (disch := decide) only [stp_ne, aF_ne, stp_eq]
  have c18 : clr s 18 0 = 0 := by rw [clr]; simp (disch := decide) only [stp_ne, aF_ne, stp_eq]
  have c20 : clr s 20 0 = 0 := by rw [clr]; simp (disch := decide) only [stp_ne, aF_ne, stp_eq]
  have c22 : clr s 22 0 = 0 := by rw [clr]; simp (disch := decide) only [stp_ne, aF_ne, stp_eq]
  have c1 : clr s 1 0 = 0 ∧ clr s 1 1 = 0 ∧ clr s 1 2 = 0 := by rw [clr]; refine ⟨?_, ?_, ?_⟩ <;> simp (disch := decide) only [stp_nj, stp_eq]
  have c17 : ∀ q, q < 88 → clr s 17 q = 0 := by
    intro q hq
    rw [clr]
    simp (disch := decide) only [stp_ne, aF_ne]
    exact aF_eq _ _ _ hq
  have c21 : ∀ q, q < 1680 → clr s 21 q = 0 := by
    intro q hq
    rw [clr]
    simp (disch := decide) only [stp_ne, aF_ne]
    exact aF_eq _ _ _ hq
  generalize clr s = z at *
  have e1 : (stp z 2 2 0) 2 1 = nI fed := by simp (disch := first | decide | omega) only [stp_eq, stp_ne, stp_nj, stI1, stI2, stL1, stL_eq, stL_ne, stL_nj, gi_n, nI_clamp ]; rw [q21]; exact hs1
  rw [e1]
  refine head2 hs1 ht1 hfed (nT := 0) (nF := 0) (nG := 0) (nE := 0) (nD := 0) (nB := 0) (w := cd0) (C := 0) (nP := 0) 8 0 FU FU _ _ 0 rfl (by unfold FU; omega) (by unfold FU; omega) ⟨?_, ?_, ?_⟩ ?_
  · refine ⟨by simp (disch := first | decide | omega) only [stp_eq, stp_ne, stp_nj, stI1, stI2, stL1, stL_eq, stL_ne, stL_nj, gi_n, nI_clamp ], by simp (disch := first | decide | omega) only [stp_eq, stp_ne, stp_nj, stI1, stI2, stL1, stL_eq, stL_ne, stL_nj, gi_n, nI_clamp ]; exact h0 5 (by decide) (by decide), by simp (disch := first | decide | omega) only [stp_eq, stp_ne, stp_nj, stI1, stI2, stL1, stL_eq, stL_ne, stL_nj, gi_n, nI_clamp ]; rfl, by simp (disch := first | decide | omega) only [stp_eq, stp_ne, stp_nj, stI1, stI2, stL1, stL_eq, stL_ne, stL_nj, gi_n, nI_clamp ]; rfl, by simp (disch := first | decide | omega) only [stp_eq, stp_ne, stp_nj, stI1, stI2, stL1, stL_eq, stL_ne, stL_nj, gi_n, nI_clamp ], by simp (disch := first | decide | omega) only [stp_eq, stp_ne, stp_nj, stI1, stI2, stL1, stL_eq, stL_ne, stL_nj, gi_n, nI_clamp ]; exact ht1, Nat.zero_le _, hfed, ?_⟩
    simp (disch := first | decide | omega) only [stp_eq, stp_ne, stp_nj, stI1, stI2, stL1, stL_eq, stL_ne, stL_nj, gi_n, nI_clamp ]
    rw [q26]
    exact hby
  · refine ⟨?_, ?_, ?_⟩
    · simp (disch := first | decide | omega) only [stp_eq, stp_ne, stp_nj, stI1, stI2, stL1, stL_eq, stL_ne, stL_nj, gi_n, nI_clamp ]; exact q0
    · simp (disch := first | decide | omega) only [stp_eq, stp_ne, stp_nj, stI1, stI2, stL1, stL_eq, stL_ne, stL_nj, gi_n, nI_clamp ]; exact q26
    · simp (disch := first | decide | omega) only [stp_eq, stp_ne, stp_nj, stI1, stI2, stL1, stL_eq, stL_ne, stL_nj, gi_n, nI_clamp ]; rw [q21]
  · exact FM.p0 (by decide) (FM.p0 (by decide) (FM.refl t))
  · have hw := wf0
    refine ⟨⟨by simp (disch := first | decide | omega) only [stp_eq, stp_ne, stp_nj, stI1, stI2, stL1, stL_eq, stL_ne, stL_nj, gi_n, nI_clamp ]; exact c10, by simp (disch := first | decide | omega) only [stp_eq, stp_ne, stp_nj, stI1, stI2, stL1, stL_eq, stL_ne, stL_nj, gi_n, nI_clamp ]; exact h0 6 (by decide) (by decide), by decide, fun j hj => absurd hj (by omega), by simp (disch := first | decide | omega) only [stp_eq, stp_ne, stp_nj, stI1, stI2, stL1, stL_eq, stL_ne, stL_nj, gi_n, nI_clamp ]; exact c12, by simp (disch := first | decide | omega) only [stp_eq, stp_ne, stp_nj, stI1, stI2, stL1, stL_eq, stL_ne, stL_nj, gi_n, nI_clamp ]; exact h0 7 (by decide) (by decide), by decide, fun j hj => absurd hj (by omega)⟩, fun _ => rfl, fun _ => rfl, ?_, fun _ => ⟨?_, by simp (disch := first | decide | omega) only [stp_eq, stp_ne, stp_nj, stI1, stI2, stL1, stL_eq, stL_ne, stL_nj, gi_n, nI_clamp ]; exact h0 10 (by decide) (by decide), hl⟩, by simp (disch := first | decide | omega) only [stp_eq, stp_ne, stp_nj, stI1, stI2, stL1, stL_eq, stL_ne, stL_nj, gi_n, nI_clamp ]; exact c14, by simp (disch := first | decide | omega) only [stp_eq, stp_ne, stp_nj, stI1, stI2, stL1, stL_eq, stL_ne, stL_nj, gi_n, nI_clamp ]; exact h0 11 (by decide) (by decide), by decide, fun j hj => absurd hj (by omega), fun _ => rfl, by simp (disch := first | decide | omega) only [stp_eq, stp_ne, stp_nj, stI1, stI2, stL1, stL_eq, stL_ne, stL_nj, gi_n, nI_clamp ]; exact c16, by simp (disch := first | decide | omega) only [stp_eq, stp_ne, stp_nj, stI1, stI2, stL1, stL_eq, stL_ne, stL_nj, gi_n, nI_clamp ]; exact h0 12 (by decide) (by decide), by decide, fun j hj => absurd hj (by omega), fun _ => ⟨rfl, fun q hq => by simp (disch := first | decide | omega) only [stp_eq, stp_ne, stp_nj, stI1, stI2, stL1, stL_eq, stL_ne, stL_nj, gi_n, nI_clamp ]; exact c17 q hq⟩, by simp (disch := first | decide | omega) only [stp_eq, stp_ne, stp_nj, stI1, stI2, stL1, stL_eq, stL_ne, stL_nj, gi_n, nI_clamp ]; exact c18, by simp (disch := first | decide | omega) only [stp_eq, stp_ne, stp_nj, stI1, stI2, stL1, stL_eq, stL_ne, stL_nj, gi_n, nI_clamp ]; exact h0 13 (by decide) (by decide), by decide, fun j hj => absurd hj (by omega), fun _ => rfl, ?_, by simp (disch := first | decide | omega) only [stp_eq, stp_ne, stp_nj, stI1, stI2, stL1, stL_eq, stL_ne, stL_nj, gi_n, nI_clamp ]; rfl, by simp (disch := first | decide | omega) only [stp_eq, stp_ne, stp_nj, stI1, stI2, stL1, stL_eq, stL_ne, stL_nj, gi_n, nI_clamp ]; exact h0 8 (by decide) (by decide), ?_, fun _ => ⟨rfl, rfl, rfl⟩, by decide⟩
    · refine Or.inl ⟨?_, ?_, ?_, ?_, ?_, hl⟩
      · simp (disch := first | decide | omega) only [stp_eq, stp_ne, stp_nj, stI1, stI2, stL1, stL_eq, stL_ne, stL_nj, gi_n, nI_clamp ]; exact c1.1
      · simp (disch := first | decide | omega) only [stp_eq, stp_ne, stp_nj, stI1, stI2, stL1, stL_eq, stL_ne, stL_nj, gi_n, nI_clamp ]; exact c1.2.1
      · simp (disch := first | decide | omega) only [stp_eq, stp_ne, stp_nj, stI1, stI2, stL1, stL_eq, stL_ne, stL_nj, gi_n, nI_clamp ]; exact c1.2.2
      · simp (disch := first | decide | omega) only [stp_eq, stp_ne, stp_nj, stI1, stI2, stL1, stL_eq, stL_ne, stL_nj, gi_n, nI_clamp ]; exact h0 9 (by decide) (by decide)
      · simp (disch := first | decide | omega) only [stp_eq, stp_ne, stp_nj, stI1, stI2, stL1, stL_eq, stL_ne, stL_nj, gi_n, nI_clamp ]; exact h0 10 (by decide) (by decide)
    · refine Or.inl ⟨?_, ?_, ?_, rfl, rfl, rfl⟩
      · simp (disch := first | decide | omega) only [stp_eq, stp_ne, stp_nj, stI1, stI2, stL1, stL_eq, stL_ne, stL_nj, gi_n, nI_clamp ]; exact c1.1
      · simp (disch := first | decide | omega) only [stp_eq, stp_ne, stp_nj, stI1, stI2, stL1, stL_eq, stL_ne, stL_nj, gi_n, nI_clamp ]; exact c1.2.1
      · simp (disch := first | decide | omega) only [stp_eq, stp_ne, stp_nj, stI1, stI2, stL1, stL_eq, stL_ne, stL_nj, gi_n, nI_clamp ]; exact c1.2.2
    · exact ⟨by simp (disch := first | decide | omega) only [stp_eq, stp_ne, stp_nj, stI1, stI2, stL1, stL_eq, stL_ne, stL_nj, gi_n, nI_clamp ]; exact c20, by simp (disch := first | decide | omega) only [stp_eq, stp_ne, stp_nj, stI1, stI2, stL1, stL_eq, stL_ne, stL_nj, gi_n, nI_clamp ]; exact h0 14 (by decide) (by decide), fun k hk => absurd hk (by omega), fun k hk => absurd hk (by omega), fun q _ hq => by simp (disch := first | decide | omega) only [stp_eq, stp_ne, stp_nj, stI1, stI2, stL1, stL_eq, stL_ne, stL_nj, gi_n, nI_clamp ]; exact c21 q hq, by simp (disch := first | decide | omega) only [stp_eq, stp_ne, stp_nj, stI1, stI2, stL1, stL_eq, stL_ne, stL_nj, gi_n, nI_clamp ]; exact c22, by simp (disch := first | decide | omega) only [stp_eq, stp_ne, stp_nj, stI1, stI2, stL1, stL_eq, stL_ne, stL_nj, gi_n, nI_clamp ]; exact h0 15 (by decide) (by decide), fun j hj => absurd hj (by omega), Nat.zero_le _, Nat.zero_le _, fun k hk => absurd hk (by omega), hw⟩
    · exact ⟨fun j hj => absurd hj (by omega), fun k hk => absurd hk (by omega), rfl, rfl, rfl⟩
