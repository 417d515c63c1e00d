-- what is known of a module while its sections are read
def MS (L pl : Nat) (s : St) (t : SM) (nT nF nG nE nD nB : Nat) (w : Cd) (C nP : Nat) : Prop :=
  (TyE s t nT nF) ∧
  (L ≤ 1 → nT = 0) ∧
  (L ≤ 3 → nF = 0) ∧
  (DMe (s 1) (t.1 0 9) (t.1 0 10) (t.2 0 0) (t.2 0 1)) ∧
  (L ≤ 5 → DMe (s 1) 0 0 0 0 ∧ t.1 0 10 = 0 ∧ t.2 0 0 = 0) ∧
  (s 14 0 = nI nG) ∧
  (t.1 0 11 = nI nG) ∧
  (nG ≤ 4) ∧
  (DGl (s 15) (t.1 5) (t.1 6) nG) ∧
  (L ≤ 6 → nG = 0) ∧
  (s 16 0 = nI nE) ∧
  (t.1 0 12 = nI nE) ∧
  (nE ≤ 8) ∧
  (DEx (s 17) (t.2 7) (t.1 8) (t.2 9) nE) ∧
  (L ≤ 7 → nE = 0 ∧ ∀ q, q < 88 → s 17 q = 0) ∧
  (s 18 0 = nI nD) ∧
  (t.1 0 13 = nI nD) ∧
  (nD ≤ 4) ∧
  (DSg (s 19) (t.2 10) (t.1 11) (t.1 12) (t.1 13) nD) ∧
  (L ≤ 11 → nD = 0) ∧
  (CR w C nP s t pl) ∧
  (s 2 4 = nI nB) ∧
  (t.1 0 8 = nI nB) ∧
  (Fns w C nB s t) ∧
  (L ≤ 10 → C = 0 ∧ nP = 0 ∧ nB = 0) ∧
  (nB ≤ 8)
theorem MS.ty {L pl : Nat} {s : St} {t : SM} {nT nF nG nE nD nB : Nat} {w : Cd} {C nP : Nat} (h : MS L pl s t nT nF nG nE nD nB w C nP) : TyE s t nT nF := h.1
theorem MS.zT {L pl : Nat} {s : St} {t : SM} {nT nF nG nE nD nB : Nat} {w : Cd} {C nP : Nat} (h : MS L pl s t nT nF nG nE nD nB w C nP) : L ≤ 1 → nT = 0 := h.2.1
theorem MS.zF {L pl : Nat} {s : St} {t : SM} {nT nF nG nE nD nB : Nat} {w : Cd} {C nP : Nat} (h : MS L pl s t nT nF nG nE nD nB w C nP) : L ≤ 3 → nF = 0 := h.2.2.1
theorem MS.me {L pl : Nat} {s : St} {t : SM} {nT nF nG nE nD nB : Nat} {w : Cd} {C nP : Nat} (h : MS L pl s t nT nF nG nE nD nB w C nP) : DMe (s 1) (t.1 0 9) (t.1 0 10) (t.2 0 0) (t.2 0 1) := h.2.2.2.1
theorem MS.zM {L pl : Nat} {s : St} {t : SM} {nT nF nG nE nD nB : Nat} {w : Cd} {C nP : Nat} (h : MS L pl s t nT nF nG nE nD nB w C nP) : L ≤ 5 → DMe (s 1) 0 0 0 0 ∧ t.1 0 10 = 0 ∧ t.2 0 0 = 0 := h.2.2.2.2.1
theorem MS.g14 {L pl : Nat} {s : St} {t : SM} {nT nF nG nE nD nB : Nat} {w : Cd} {C nP : Nat} (h : MS L pl s t nT nF nG nE nD nB w C nP) : s 14 0 = nI nG := h.2.2.2.2.2.1
theorem MS.m11 {L pl : Nat} {s : St} {t : SM} {nT nF nG nE nD nB : Nat} {w : Cd} {C nP : Nat} (h : MS L pl s t nT nF nG nE nD nB w C nP) : t.1 0 11 = nI nG := h.2.2.2.2.2.2.1
theorem MS.hG {L pl : Nat} {s : St} {t : SM} {nT nF nG nE nD nB : Nat} {w : Cd} {C nP : Nat} (h : MS L pl s t nT nF nG nE nD nB w C nP) : nG ≤ 4 := h.2.2.2.2.2.2.2.1
theorem MS.gl {L pl : Nat} {s : St} {t : SM} {nT nF nG nE nD nB : Nat} {w : Cd} {C nP : Nat} (h : MS L pl s t nT nF nG nE nD nB w C nP) : DGl (s 15) (t.1 5) (t.1 6) nG := h.2.2.2.2.2.2.2.2.1
theorem MS.zG {L pl : Nat} {s : St} {t : SM} {nT nF nG nE nD nB : Nat} {w : Cd} {C nP : Nat} (h : MS L pl s t nT nF nG nE nD nB w C nP) : L ≤ 6 → nG = 0 := h.2.2.2.2.2.2.2.2.2.1
theorem MS.g16 {L pl : Nat} {s : St} {t : SM} {nT nF nG nE nD nB : Nat} {w : Cd} {C nP : Nat} (h : MS L pl s t nT nF nG nE nD nB w C nP) : s 16 0 = nI nE := h.2.2.2.2.2.2.2.2.2.2.1
theorem MS.m12 {L pl : Nat} {s : St} {t : SM} {nT nF nG nE nD nB : Nat} {w : Cd} {C nP : Nat} (h : MS L pl s t nT nF nG nE nD nB w C nP) : t.1 0 12 = nI nE := h.2.2.2.2.2.2.2.2.2.2.2.1
theorem MS.hE {L pl : Nat} {s : St} {t : SM} {nT nF nG nE nD nB : Nat} {w : Cd} {C nP : Nat} (h : MS L pl s t nT nF nG nE nD nB w C nP) : nE ≤ 8 := h.2.2.2.2.2.2.2.2.2.2.2.2.1
theorem MS.ex {L pl : Nat} {s : St} {t : SM} {nT nF nG nE nD nB : Nat} {w : Cd} {C nP : Nat} (h : MS L pl s t nT nF nG nE nD nB w C nP) : DEx (s 17) (t.2 7) (t.1 8) (t.2 9) nE := h.2.2.2.2.2.2.2.2.2.2.2.2.2.1
theorem MS.zE {L pl : Nat} {s : St} {t : SM} {nT nF nG nE nD nB : Nat} {w : Cd} {C nP : Nat} (h : MS L pl s t nT nF nG nE nD nB w C nP) : L ≤ 7 → nE = 0 ∧ ∀ q, q < 88 → s 17 q = 0 := h.2.2.2.2.2.2.2.2.2.2.2.2.2.2.1
theorem MS.g18 {L pl : Nat} {s : St} {t : SM} {nT nF nG nE nD nB : Nat} {w : Cd} {C nP : Nat} (h : MS L pl s t nT nF nG nE nD nB w C nP) : s 18 0 = nI nD := h.2.2.2.2.2.2.2.2.2.2.2.2.2.2.2.1
theorem MS.m13 {L pl : Nat} {s : St} {t : SM} {nT nF nG nE nD nB : Nat} {w : Cd} {C nP : Nat} (h : MS L pl s t nT nF nG nE nD nB w C nP) : t.1 0 13 = nI nD := h.2.2.2.2.2.2.2.2.2.2.2.2.2.2.2.2.1
theorem MS.hD {L pl : Nat} {s : St} {t : SM} {nT nF nG nE nD nB : Nat} {w : Cd} {C nP : Nat} (h : MS L pl s t nT nF nG nE nD nB w C nP) : nD ≤ 4 := h.2.2.2.2.2.2.2.2.2.2.2.2.2.2.2.2.2.1
theorem MS.da {L pl : Nat} {s : St} {t : SM} {nT nF nG nE nD nB : Nat} {w : Cd} {C nP : Nat} (h : MS L pl s t nT nF nG nE nD nB w C nP) : DSg (s 19) (t.2 10) (t.1 11) (t.1 12) (t.1 13) nD := h.2.2.2.2.2.2.2.2.2.2.2.2.2.2.2.2.2.2.1
theorem MS.zD {L pl : Nat} {s : St} {t : SM} {nT nF nG nE nD nB : Nat} {w : Cd} {C nP : Nat} (h : MS L pl s t nT nF nG nE nD nB w C nP) : L ≤ 11 → nD = 0 := h.2.2.2.2.2.2.2.2.2.2.2.2.2.2.2.2.2.2.2.1
theorem MS.cr {L pl : Nat} {s : St} {t : SM} {nT nF nG nE nD nB : Nat} {w : Cd} {C nP : Nat} (h : MS L pl s t nT nF nG nE nD nB w C nP) : CR w C nP s t pl := h.2.2.2.2.2.2.2.2.2.2.2.2.2.2.2.2.2.2.2.2.1
theorem MS.g24 {L pl : Nat} {s : St} {t : SM} {nT nF nG nE nD nB : Nat} {w : Cd} {C nP : Nat} (h : MS L pl s t nT nF nG nE nD nB w C nP) : s 2 4 = nI nB := h.2.2.2.2.2.2.2.2.2.2.2.2.2.2.2.2.2.2.2.2.2.1
theorem MS.m8 {L pl : Nat} {s : St} {t : SM} {nT nF nG nE nD nB : Nat} {w : Cd} {C nP : Nat} (h : MS L pl s t nT nF nG nE nD nB w C nP) : t.1 0 8 = nI nB := h.2.2.2.2.2.2.2.2.2.2.2.2.2.2.2.2.2.2.2.2.2.2.1
theorem MS.fn {L pl : Nat} {s : St} {t : SM} {nT nF nG nE nD nB : Nat} {w : Cd} {C nP : Nat} (h : MS L pl s t nT nF nG nE nD nB w C nP) : Fns w C nB s t := h.2.2.2.2.2.2.2.2.2.2.2.2.2.2.2.2.2.2.2.2.2.2.2.1
theorem MS.zC {L pl : Nat} {s : St} {t : SM} {nT nF nG nE nD nB : Nat} {w : Cd} {C nP : Nat} (h : MS L pl s t nT nF nG nE nD nB w C nP) : L ≤ 10 → C = 0 ∧ nP = 0 ∧ nB = 0 := h.2.2.2.2.2.2.2.2.2.2.2.2.2.2.2.2.2.2.2.2.2.2.2.2.1
theorem MS.hB {L pl : Nat} {s : St} {t : SM} {nT nF nG nE nD nB : Nat} {w : Cd} {C nP : Nat} (h : MS L pl s t nT nF nG nE nD nB w C nP) : nB ≤ 8 := h.2.2.2.2.2.2.2.2.2.2.2.2.2.2.2.2.2.2.2.2.2.2.2.2.2
theorem Fns.cg {w : Cd} {C n : Nat} {s s' : St} {t t' : SM} (h : Fns w C n s t) (h13 : n ≠ 0 → s' 13 = s 13) (h24 : t'.1 24 = t.1 24) (h22 : t'.1 22 = t.1 22) (h23 : t'.1 23 = t.1 23) (hp : n ≠ 0 → t'.2 4 = t.2 4 ∧ t'.1 0 6 = t.1 0 6 ∧ t'.1 2 = t.1 2) : Fns w C n s' t' := by
  refine ⟨fun j hj => ?_, h.lt, h.fC, h.iC, h.dC⟩
  obtain ⟨p, e, bg, ls, q⟩ := h.all j hj
  have hn : n ≠ 0 := by omega
  obtain ⟨p1, p2, p3⟩ := hp hn
  exact ⟨p, e, bg, ls, ⟨by rw [← q.pm]; exact mpar_cg _ p1 p2 p3, q.p4, q.pe, by rw [h13 hn]; exact q.x1, by rw [h24]; exact q.m24, by rw [h13 hn]; exact q.x2, by rw [h22]; exact q.m22, by rw [h13 hn]; exact q.x3, by rw [h23]; exact q.m23, q.bl, q.lC, q.ib, q.ol, q.il, q.fn, q.nf⟩⟩
section MSS
variable {L pl : Nat} {s s' : St} {t t' : SM} {nT nF nG nE nD nB : Nat} {w : Cd} {C nP : Nat}
theorem MS.fr (h : MS L pl s t nT nF nG nE nD nB w C nP) (hs : ∀ a, a ≠ 2 → s' a = s a) (hs4 : s' 2 4 = s 2 4) (ht : ∀ a, a ≠ 0 → t'.1 a = t.1 a) (htl : t'.2 = t.2) (ht0 : ∀ j, j ≠ 3 → j ≠ 4 → j ≠ 5 → t'.1 0 j = t.1 0 j) {pl' : Nat} (hp : pl ≤ pl') : MS L pl' s' t' nT nF nG nE nD nB w C nP := by
  have z : ∀ j, j = 6 ∨ j = 7 ∨ j = 8 ∨ j = 9 ∨ j = 10 ∨ j = 11 ∨ j = 12 ∨ j = 13 ∨ j = 14 ∨ j = 15 → t'.1 0 j = t.1 0 j := fun j hj => ht0 j (by omega) (by omega) (by omega)
  refine ⟨h.ty.cg (by rw [hs 10 (by decide)]) (hs 11 (by decide)) (by rw [hs 12 (by decide)]) (fun j => by rw [hs 13 (by decide)]) (z 6 (by decide)) (z 7 (by decide)) (ht 2 (by decide)) (ht 3 (by decide)) (by rw [htl]), h.zT, h.zF, ?_, ?_, ?_, ?_, h.hG, ?_, h.zG, ?_, ?_, h.hE, ?_, ?_, ?_, ?_, h.hD, ?_, h.zD, ?_, hs4.trans h.g24, (z 8 (by decide)).trans h.m8, ?_, h.zC, h.hB⟩
  · rw [hs 1 (by decide), z 9 (by decide), z 10 (by decide), htl]; exact h.me
  · intro hL; rw [hs 1 (by decide), z 10 (by decide), htl]; exact h.zM hL
  · rw [hs 14 (by decide)]; exact h.g14
  · rw [z 11 (by decide)]; exact h.m11
  · rw [hs 15 (by decide), ht 5 (by decide), ht 6 (by decide)]; exact h.gl
  · rw [hs 16 (by decide)]; exact h.g16
  · rw [z 12 (by decide)]; exact h.m12
  · rw [hs 17 (by decide), htl, ht 8 (by decide)]; exact h.ex
  · intro hL; rw [hs 17 (by decide)]; exact h.zE hL
  · rw [hs 18 (by decide)]; exact h.g18
  · rw [z 13 (by decide)]; exact h.m13
  · rw [hs 19 (by decide), htl, ht 11 (by decide), ht 12 (by decide), ht 13 (by decide)]; exact h.da
  · exact h.cr.cg hp (by rw [hs 20 (by decide)]) (hs 21 (by decide)) (by rw [hs 22 (by decide)]) (hs 23 (by decide)) (z 14 (by decide)) (z 15 (by decide)) (ht 14 (by decide)) (ht 17 (by decide)) (ht 18 (by decide)) (ht 19 (by decide)) (by rw [htl]) (by rw [htl]) (by rw [htl])
  · exact h.fn.cg (fun _ => hs 13 (by decide)) (ht 24 (by decide)) (ht 22 (by decide)) (ht 23 (by decide)) (fun _ => ⟨by rw [htl], z 6 (by decide), ht 2 (by decide)⟩)
theorem MS.s1 {c pl' : Nat} (h : MS L pl s t nT nF nG nE nD nB w C nP) (hL : L ≤ 1) (hc : c ≤ 8) (hp : pl ≤ pl') (a1 : s' 10 0 = nI c) (a2 : DTy (s' 11) (t'.1 2) (t'.1 3) c) (a3 : t'.1 0 6 = nI c) (u : Ux [10, 11] [] s s') (v : Um [2, 3] [] [6] t t') : MS 2 pl' s' t' c nF nG nE nD nB w C nP := by
  obtain ⟨hC0, hP0, hB0⟩ := h.zC (by omega)
  refine ⟨⟨a1, a3, hc, a2, ?_, ?_, h.ty.hF, ?_⟩, fun q => absurd q (by decide), fun _ => h.zF (by omega), ?_, fun _ => ?_, ?_, ?_, h.hG, ?_, fun _ => h.zG (by omega), ?_, ?_, h.hE, ?_, fun _ => ?_, ?_, ?_, h.hD, ?_, fun _ => h.zD (by omega), ?_, (u.2 4 (by decide)).trans h.g24, (v.2.2 8 (by decide)).trans h.m8, ?_, fun _ => h.zC (by omega), h.hB⟩
  · rw [u.1 12 (by decide)]; exact h.ty.x12
  · rw [v.2.2 7 (by decide)]; exact h.ty.m7
  · rw [u.1 13 (by decide), v.2.1 4 (by decide)]; exact h.ty.ft
  · rw [u.1 1 (by decide), v.2.2 9 (by decide), v.2.2 10 (by decide), v.2.1 0 (by decide)]; exact h.me
  · rw [u.1 1 (by decide), v.2.2 10 (by decide), v.2.1 0 (by decide)]; exact h.zM (by omega)
  · rw [u.1 14 (by decide)]; exact h.g14
  · rw [v.2.2 11 (by decide)]; exact h.m11
  · rw [u.1 15 (by decide), v.1 5 (by decide), v.1 6 (by decide)]; exact h.gl
  · rw [u.1 16 (by decide)]; exact h.g16
  · rw [v.2.2 12 (by decide)]; exact h.m12
  · rw [u.1 17 (by decide), v.2.1 7 (by decide), v.1 8 (by decide), v.2.1 9 (by decide)]; exact h.ex
  · rw [u.1 17 (by decide)]; exact h.zE (by omega)
  · rw [u.1 18 (by decide)]; exact h.g18
  · rw [v.2.2 13 (by decide)]; exact h.m13
  · rw [u.1 19 (by decide), v.2.1 10 (by decide), v.1 11 (by decide), v.1 12 (by decide), v.1 13 (by decide)]; exact h.da
  · exact h.cr.cg hp (by rw [u.1 20 (by decide)]) (u.1 21 (by decide)) (by rw [u.1 22 (by decide)]) (u.1 23 (by decide)) (v.2.2 14 (by decide)) (v.2.2 15 (by decide)) (v.1 14 (by decide)) (v.1 17 (by decide)) (v.1 18 (by decide)) (v.1 19 (by decide)) (v.2.1 15 (by decide)) (v.2.1 16 (by decide)) (v.2.1 25 (by decide))
  · exact h.fn.cg (fun q => absurd hB0 q) (v.1 24 (by decide)) (v.1 22 (by decide)) (v.1 23 (by decide)) (fun q => absurd hB0 q)
theorem MS.s3 {c pl' : Nat} (h : MS L pl s t nT nF nG nE nD nB w C nP) (hL : L ≤ 3) (hc : c ≤ 8) (hp : pl ≤ pl') (a1 : s' 12 0 = nI c) (a2 : DFt (s' 13) (t'.2 4) c) (a3 : t'.1 0 7 = nI c) (u : Ux [12, 13] [] s s') (v : Um [] [4] [7] t t') : MS 4 pl' s' t' nT c nG nE nD nB w C nP := by
  obtain ⟨hC0, hP0, hB0⟩ := h.zC (by omega)
  refine ⟨⟨?_, ?_, h.ty.hT, ?_, a1, a3, hc, a2⟩, fun q => absurd q (by decide), fun q => absurd q (by decide), ?_, fun _ => ?_, ?_, ?_, h.hG, ?_, fun _ => h.zG (by omega), ?_, ?_, h.hE, ?_, fun _ => ?_, ?_, ?_, h.hD, ?_, fun _ => h.zD (by omega), ?_, (u.2 4 (by decide)).trans h.g24, (v.2.2 8 (by decide)).trans h.m8, ?_, fun _ => h.zC (by omega), h.hB⟩
  · rw [u.1 10 (by decide)]; exact h.ty.x10
  · rw [v.2.2 6 (by decide)]; exact h.ty.m6
  · rw [u.1 11 (by decide), v.1 2 (by decide), v.1 3 (by decide)]; exact h.ty.ty
  · rw [u.1 1 (by decide), v.2.2 9 (by decide), v.2.2 10 (by decide), v.2.1 0 (by decide)]; exact h.me
  · rw [u.1 1 (by decide), v.2.2 10 (by decide), v.2.1 0 (by decide)]; exact h.zM (by omega)
  · rw [u.1 14 (by decide)]; exact h.g14
  · rw [v.2.2 11 (by decide)]; exact h.m11
  · rw [u.1 15 (by decide), v.1 5 (by decide), v.1 6 (by decide)]; exact h.gl
  · rw [u.1 16 (by decide)]; exact h.g16
  · rw [v.2.2 12 (by decide)]; exact h.m12
  · rw [u.1 17 (by decide), v.2.1 7 (by decide), v.1 8 (by decide), v.2.1 9 (by decide)]; exact h.ex
  · rw [u.1 17 (by decide)]; exact h.zE (by omega)
  · rw [u.1 18 (by decide)]; exact h.g18
  · rw [v.2.2 13 (by decide)]; exact h.m13
  · rw [u.1 19 (by decide), v.2.1 10 (by decide), v.1 11 (by decide), v.1 12 (by decide), v.1 13 (by decide)]; exact h.da
  · exact h.cr.cg hp (by rw [u.1 20 (by decide)]) (u.1 21 (by decide)) (by rw [u.1 22 (by decide)]) (u.1 23 (by decide)) (v.2.2 14 (by decide)) (v.2.2 15 (by decide)) (v.1 14 (by decide)) (v.1 17 (by decide)) (v.1 18 (by decide)) (v.1 19 (by decide)) (v.2.1 15 (by decide)) (v.2.1 16 (by decide)) (v.2.1 25 (by decide))
  · exact h.fn.cg (fun q => absurd hB0 q) (v.1 24 (by decide)) (v.1 22 (by decide)) (v.1 23 (by decide)) (fun q => absurd hB0 q)
theorem MS.s5 {pl' : Nat} (h : MS L pl s t nT nF nG nE nD nB w C nP) (hL : L ≤ 5) (hp : pl ≤ pl') (a2 : DMe (s' 1) (t'.1 0 9) (t'.1 0 10) (t'.2 0 0) (t'.2 0 1)) (u : Ux [1] [] s s') (v : Um [] [0] [9, 10] t t') : MS 6 pl' s' t' nT nF nG nE nD nB w C nP := by
  refine ⟨h.ty.cg (by rw [u.1 10 (by decide)]) (u.1 11 (by decide)) (by rw [u.1 12 (by decide)]) (fun j => by rw [u.1 13 (by decide)]) (v.2.2 6 (by decide)) (v.2.2 7 (by decide)) (v.1 2 (by decide)) (v.1 3 (by decide)) (v.2.1 4 (by decide)), fun q => absurd q (by decide), fun q => absurd q (by decide), a2, fun q => absurd q (by decide), ?_, ?_, h.hG, ?_, fun _ => h.zG (by omega), ?_, ?_, h.hE, ?_, fun _ => ?_, ?_, ?_, h.hD, ?_, fun _ => h.zD (by omega), ?_, (u.2 4 (by decide)).trans h.g24, (v.2.2 8 (by decide)).trans h.m8, ?_, fun _ => h.zC (by omega), h.hB⟩
  · rw [u.1 14 (by decide)]; exact h.g14
  · rw [v.2.2 11 (by decide)]; exact h.m11
  · rw [u.1 15 (by decide), v.1 5 (by decide), v.1 6 (by decide)]; exact h.gl
  · rw [u.1 16 (by decide)]; exact h.g16
  · rw [v.2.2 12 (by decide)]; exact h.m12
  · rw [u.1 17 (by decide), v.2.1 7 (by decide), v.1 8 (by decide), v.2.1 9 (by decide)]; exact h.ex
  · rw [u.1 17 (by decide)]; exact h.zE (by omega)
  · rw [u.1 18 (by decide)]; exact h.g18
  · rw [v.2.2 13 (by decide)]; exact h.m13
  · rw [u.1 19 (by decide), v.2.1 10 (by decide), v.1 11 (by decide), v.1 12 (by decide), v.1 13 (by decide)]; exact h.da
  · exact h.cr.cg hp (by rw [u.1 20 (by decide)]) (u.1 21 (by decide)) (by rw [u.1 22 (by decide)]) (u.1 23 (by decide)) (v.2.2 14 (by decide)) (v.2.2 15 (by decide)) (v.1 14 (by decide)) (v.1 17 (by decide)) (v.1 18 (by decide)) (v.1 19 (by decide)) (v.2.1 15 (by decide)) (v.2.1 16 (by decide)) (v.2.1 25 (by decide))
  · exact h.fn.cg (fun _ => u.1 13 (by decide)) (v.1 24 (by decide)) (v.1 22 (by decide)) (v.1 23 (by decide)) (fun _ => ⟨v.2.1 4 (by decide), v.2.2 6 (by decide), v.1 2 (by decide)⟩)
theorem MS.s6 {c pl' : Nat} (h : MS L pl s t nT nF nG nE nD nB w C nP) (hL : L ≤ 6) (hc : c ≤ 4) (hp : pl ≤ pl') (a1 : s' 14 0 = nI c) (a2 : DGl (s' 15) (t'.1 5) (t'.1 6) c) (a3 : t'.1 0 11 = nI c) (u : Ux [14, 15] [] s s') (v : Um [5, 6] [] [11] t t') : MS 7 pl' s' t' nT nF c nE nD nB w C nP := by
  refine ⟨h.ty.cg (by rw [u.1 10 (by decide)]) (u.1 11 (by decide)) (by rw [u.1 12 (by decide)]) (fun j => by rw [u.1 13 (by decide)]) (v.2.2 6 (by decide)) (v.2.2 7 (by decide)) (v.1 2 (by decide)) (v.1 3 (by decide)) (v.2.1 4 (by decide)), fun q => absurd q (by decide), fun q => absurd q (by decide), ?_, fun q => absurd q (by decide), a1, a3, hc, a2, fun q => absurd q (by decide), ?_, ?_, h.hE, ?_, fun _ => ?_, ?_, ?_, h.hD, ?_, fun _ => h.zD (by omega), ?_, (u.2 4 (by decide)).trans h.g24, (v.2.2 8 (by decide)).trans h.m8, ?_, fun _ => h.zC (by omega), h.hB⟩
  · rw [u.1 1 (by decide), v.2.2 9 (by decide), v.2.2 10 (by decide), v.2.1 0 (by decide)]; exact h.me
  · rw [u.1 16 (by decide)]; exact h.g16
  · rw [v.2.2 12 (by decide)]; exact h.m12
  · rw [u.1 17 (by decide), v.2.1 7 (by decide), v.1 8 (by decide), v.2.1 9 (by decide)]; exact h.ex
  · rw [u.1 17 (by decide)]; exact h.zE (by omega)
  · rw [u.1 18 (by decide)]; exact h.g18
  · rw [v.2.2 13 (by decide)]; exact h.m13
  · rw [u.1 19 (by decide), v.2.1 10 (by decide), v.1 11 (by decide), v.1 12 (by decide), v.1 13 (by decide)]; exact h.da
  · exact h.cr.cg hp (by rw [u.1 20 (by decide)]) (u.1 21 (by decide)) (by rw [u.1 22 (by decide)]) (u.1 23 (by decide)) (v.2.2 14 (by decide)) (v.2.2 15 (by decide)) (v.1 14 (by decide)) (v.1 17 (by decide)) (v.1 18 (by decide)) (v.1 19 (by decide)) (v.2.1 15 (by decide)) (v.2.1 16 (by decide)) (v.2.1 25 (by decide))
  · exact h.fn.cg (fun _ => u.1 13 (by decide)) (v.1 24 (by decide)) (v.1 22 (by decide)) (v.1 23 (by decide)) (fun _ => ⟨v.2.1 4 (by decide), v.2.2 6 (by decide), v.1 2 (by decide)⟩)
theorem MS.s7 {c pl' : Nat} (h : MS L pl s t nT nF nG nE nD nB w C nP) (hL : L ≤ 7) (hc : c ≤ 8) (hp : pl ≤ pl') (a1 : s' 16 0 = nI c) (a2 : DEx (s' 17) (t'.2 7) (t'.1 8) (t'.2 9) c) (a3 : t'.1 0 12 = nI c) (u : Ux [16, 17] [] s s') (v : Um [8] [7, 9] [12] t t') : MS 8 pl' s' t' nT nF nG c nD nB w C nP := by
  refine ⟨h.ty.cg (by rw [u.1 10 (by decide)]) (u.1 11 (by decide)) (by rw [u.1 12 (by decide)]) (fun j => by rw [u.1 13 (by decide)]) (v.2.2 6 (by decide)) (v.2.2 7 (by decide)) (v.1 2 (by decide)) (v.1 3 (by decide)) (v.2.1 4 (by decide)), fun q => absurd q (by decide), fun q => absurd q (by decide), ?_, fun q => absurd q (by decide), ?_, ?_, h.hG, ?_, fun q => absurd q (by decide), a1, a3, hc, a2, fun q => absurd q (by decide), ?_, ?_, h.hD, ?_, fun _ => h.zD (by omega), ?_, (u.2 4 (by decide)).trans h.g24, (v.2.2 8 (by decide)).trans h.m8, ?_, fun _ => h.zC (by omega), h.hB⟩
  · rw [u.1 1 (by decide), v.2.2 9 (by decide), v.2.2 10 (by decide), v.2.1 0 (by decide)]; exact h.me
  · rw [u.1 14 (by decide)]; exact h.g14
  · rw [v.2.2 11 (by decide)]; exact h.m11
  · rw [u.1 15 (by decide), v.1 5 (by decide), v.1 6 (by decide)]; exact h.gl
  · rw [u.1 18 (by decide)]; exact h.g18
  · rw [v.2.2 13 (by decide)]; exact h.m13
  · rw [u.1 19 (by decide), v.2.1 10 (by decide), v.1 11 (by decide), v.1 12 (by decide), v.1 13 (by decide)]; exact h.da
  · exact h.cr.cg hp (by rw [u.1 20 (by decide)]) (u.1 21 (by decide)) (by rw [u.1 22 (by decide)]) (u.1 23 (by decide)) (v.2.2 14 (by decide)) (v.2.2 15 (by decide)) (v.1 14 (by decide)) (v.1 17 (by decide)) (v.1 18 (by decide)) (v.1 19 (by decide)) (v.2.1 15 (by decide)) (v.2.1 16 (by decide)) (v.2.1 25 (by decide))
  · exact h.fn.cg (fun _ => u.1 13 (by decide)) (v.1 24 (by decide)) (v.1 22 (by decide)) (v.1 23 (by decide)) (fun _ => ⟨v.2.1 4 (by decide), v.2.2 6 (by decide), v.1 2 (by decide)⟩)
theorem MS.s11 {c pl' : Nat} (h : MS L pl s t nT nF nG nE nD nB w C nP) (hL : L ≤ 11) (hc : c ≤ 4) (hp : pl ≤ pl') (a1 : s' 18 0 = nI c) (a2 : DSg (s' 19) (t'.2 10) (t'.1 11) (t'.1 12) (t'.1 13) c) (a3 : t'.1 0 13 = nI c) (u : Ux [18, 19] [] s s') (v : Um [11, 12, 13] [10] [13] t t') : MS 12 pl' s' t' nT nF nG nE c nB w C nP := by
  refine ⟨h.ty.cg (by rw [u.1 10 (by decide)]) (u.1 11 (by decide)) (by rw [u.1 12 (by decide)]) (fun j => by rw [u.1 13 (by decide)]) (v.2.2 6 (by decide)) (v.2.2 7 (by decide)) (v.1 2 (by decide)) (v.1 3 (by decide)) (v.2.1 4 (by decide)), fun q => absurd q (by decide), fun q => absurd q (by decide), ?_, fun q => absurd q (by decide), ?_, ?_, h.hG, ?_, fun q => absurd q (by decide), ?_, ?_, h.hE, ?_, fun q => absurd q (by decide), a1, a3, hc, a2, fun q => absurd q (by decide), ?_, (u.2 4 (by decide)).trans h.g24, (v.2.2 8 (by decide)).trans h.m8, ?_, fun q => absurd q (by decide), h.hB⟩
  · rw [u.1 1 (by decide), v.2.2 9 (by decide), v.2.2 10 (by decide), v.2.1 0 (by decide)]; exact h.me
  · rw [u.1 14 (by decide)]; exact h.g14
  · rw [v.2.2 11 (by decide)]; exact h.m11
  · rw [u.1 15 (by decide), v.1 5 (by decide), v.1 6 (by decide)]; exact h.gl
  · rw [u.1 16 (by decide)]; exact h.g16
  · rw [v.2.2 12 (by decide)]; exact h.m12
  · rw [u.1 17 (by decide), v.2.1 7 (by decide), v.1 8 (by decide), v.2.1 9 (by decide)]; exact h.ex
  · exact h.cr.cg hp (by rw [u.1 20 (by decide)]) (u.1 21 (by decide)) (by rw [u.1 22 (by decide)]) (u.1 23 (by decide)) (v.2.2 14 (by decide)) (v.2.2 15 (by decide)) (v.1 14 (by decide)) (v.1 17 (by decide)) (v.1 18 (by decide)) (v.1 19 (by decide)) (v.2.1 15 (by decide)) (v.2.1 16 (by decide)) (v.2.1 25 (by decide))
  · exact h.fn.cg (fun _ => u.1 13 (by decide)) (v.1 24 (by decide)) (v.1 22 (by decide)) (v.1 23 (by decide)) (fun _ => ⟨v.2.1 4 (by decide), v.2.2 6 (by decide), v.1 2 (by decide)⟩)
theorem MS.s10 {pl' C' nP' : Nat} {w' : Cd} (h : MS L pl s t nT nF nG nE nD nB w C nP) (hL : L ≤ 10) (a1 : CR w' C' nP' s' t' pl') (a2 : Fns w' C' nF s' t') (a3 : TyE s' t' nT nF) (a4 : s' 2 4 = nI nF) (a5 : t'.1 0 8 = nI nF) (u : Ux [13, 20, 21, 22, 23, 24, 25] [0, 3, 4] s s') (v : Um [14, 17, 18, 19, 22, 23, 24] [15, 16, 25] [4, 8, 14, 15] t t') : MS 11 pl' s' t' nT nF nG nE nD nF w' C' nP' := by
  refine ⟨a3, fun q => absurd q (by decide), fun q => absurd q (by decide), ?_, fun q => absurd q (by decide), ?_, ?_, h.hG, ?_, fun q => absurd q (by decide), ?_, ?_, h.hE, ?_, fun q => absurd q (by decide), ?_, ?_, h.hD, ?_, fun _ => h.zD (by omega), a1, a4, a5, a2, fun q => absurd q (by decide), a3.hF⟩
  · rw [u.1 1 (by decide), v.2.2 9 (by decide), v.2.2 10 (by decide), v.2.1 0 (by decide)]; exact h.me
  · rw [u.1 14 (by decide)]; exact h.g14
  · rw [v.2.2 11 (by decide)]; exact h.m11
  · rw [u.1 15 (by decide), v.1 5 (by decide), v.1 6 (by decide)]; exact h.gl
  · rw [u.1 16 (by decide)]; exact h.g16
  · rw [v.2.2 12 (by decide)]; exact h.m12
  · rw [u.1 17 (by decide), v.2.1 7 (by decide), v.1 8 (by decide), v.2.1 9 (by decide)]; exact h.ex
  · rw [u.1 18 (by decide)]; exact h.g18
  · rw [v.2.2 13 (by decide)]; exact h.m13
  · rw [u.1 19 (by decide), v.2.1 10 (by decide), v.1 11 (by decide), v.1 12 (by decide), v.1 13 (by decide)]; exact h.da
end MSS
