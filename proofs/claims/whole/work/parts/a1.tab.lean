-- tables and rows at numbers that are there
theorem nI_lit' (n : Nat) : (@OfNat.ofNat Int32 n Int32.instOfNat) = nI (@OfNat.ofNat Nat n (instOfNatNat n)) := rfl
theorem rGet_n {n i : Nat} {f : Nat → Int32} (h : i < n) (hn : n < 2 ^ 31) : rGet n f (nI i) = f i := by
  rw [rGet, if_neg (nI_pos (by omega)), if_neg (nI_ge h hn), nI_clamp (by omega)]
theorem rSetF_n {n i : Nat} {f : Nat → Int32} {v : Int32} (h : i < n) (hn : n < 2 ^ 31) : rSetF n f (nI i) v = upd f i v := by
  rw [rSetF, if_neg (nI_pos (by omega)), if_neg (nI_ge h hn), nI_clamp (by omega)]
theorem rSet_n {s : St} {k n i : Nat} {v : Int32} (h : i < n) (hn : n < 2 ^ 31) : rSet s k n (nI i) v = stp s k i v := by
  rw [rSet, rSetF_n h hn, stp]
theorem tIdx {r c h w : Nat} (hr : r < h) (hc : c < w) : r * w + c < h * w := by
  have : (r + 1) * w ≤ h * w := Nat.mul_le_mul_right _ hr
  have e : (r + 1) * w = r * w + w := Nat.succ_mul r w
  omega
theorem tGet_n {h w r c : Nat} {f : Nat → Int32} (hr : r < h) (hc : c < w) (hh : h * w < 2 ^ 31) (hh1 : h < 2 ^ 31) (hw : w < 2 ^ 31) : tGet h w f (nI r) (nI c) = f (r * w + c) := by
  have h1 := tIdx hr hc
  rw [tGet, if_neg (nI_pos (by omega)), if_neg (nI_ge hr (by omega)), if_neg (nI_pos (by omega)), if_pos (nI_lt hc (by omega)), pk_mul, nI_add, rGet_n h1 hh]
theorem tSet_n {s : St} {k h w r c : Nat} {v : Int32} (hr : r < h) (hc : c < w) (hh : h * w < 2 ^ 31) (hh1 : h < 2 ^ 31) (hw : w < 2 ^ 31) : tSet s k h w (nI r) (nI c) v = stp s k (r * w + c) v := by
  have h1 := tIdx hr hc
  rw [tSet, tSetF, if_neg (nI_pos (by omega)), if_neg (nI_ge hr (by omega)), if_neg (nI_pos (by omega)), if_pos (nI_lt hc (by omega)), pk_mul, nI_add, rSetF_n h1 hh, stp]
theorem tGet_neg {h w : Nat} {f : Nat → Int32} {r c : Int32} (hr : r < 0) : tGet h w f r c = 0 := by rw [tGet, if_pos hr]
theorem tSet_neg {s : St} {k h w : Nat} {r c v : Int32} (hr : r < 0) : tSet s k h w r c v = s := by rw [tSet, tSetF, if_pos hr, sta_self]
theorem tHas_n {c r : Nat} (hc : c < 2 ^ 31) (hr : r < 2 ^ 32) : tHas (nI c) (nI r) = if r < c then 1 else 0 := by
  rw [tHas]
  by_cases h31 : r < 2 ^ 31
  · rw [if_neg (nI_pos h31)]
    by_cases h : r < c
    · rw [if_neg (nI_ge h hc), if_pos h]
    · rw [if_pos (nI_le (by omega) h31), if_neg h]
  · have hneg : nI r < 0 := by
      rw [Int32.lt_iff_toInt_lt]
      show (Int32.ofNat r).toInt < 0
      rw [Int32.toInt_ofNat']
      simp only [Int.bmod, Int32.size]
      omega
    rw [if_pos hneg, if_neg (by omega)]
theorem add1 (n : Nat) : nI n + 1 - 1 = nI n := by rw [nI_1, nI_pred]
theorem tg_8_2_0 {r : Nat} {f : Nat → Int32} (hr : r < 8) : tGet 8 2 f (nI r) 0 = f (r * 2 + 0) := tGet_n (c := 0) hr (by decide) (by decide) (by decide) (by decide)
theorem ts_8_2_0 {r k : Nat} {s : St} {v : Int32} (hr : r < 8) : tSet s k 8 2 (nI r) 0 v = stp s k (r * 2 + 0) v := tSet_n (c := 0) hr (by decide) (by decide) (by decide) (by decide)
theorem tg_8_2_1 {r : Nat} {f : Nat → Int32} (hr : r < 8) : tGet 8 2 f (nI r) 1 = f (r * 2 + 1) := tGet_n (c := 1) hr (by decide) (by decide) (by decide) (by decide)
theorem ts_8_2_1 {r k : Nat} {s : St} {v : Int32} (hr : r < 8) : tSet s k 8 2 (nI r) 1 v = stp s k (r * 2 + 1) v := tSet_n (c := 1) hr (by decide) (by decide) (by decide) (by decide)
theorem tg_8_4_0 {r : Nat} {f : Nat → Int32} (hr : r < 8) : tGet 8 4 f (nI r) 0 = f (r * 4 + 0) := tGet_n (c := 0) hr (by decide) (by decide) (by decide) (by decide)
theorem ts_8_4_0 {r k : Nat} {s : St} {v : Int32} (hr : r < 8) : tSet s k 8 4 (nI r) 0 v = stp s k (r * 4 + 0) v := tSet_n (c := 0) hr (by decide) (by decide) (by decide) (by decide)
theorem tg_8_4_1 {r : Nat} {f : Nat → Int32} (hr : r < 8) : tGet 8 4 f (nI r) 1 = f (r * 4 + 1) := tGet_n (c := 1) hr (by decide) (by decide) (by decide) (by decide)
theorem ts_8_4_1 {r k : Nat} {s : St} {v : Int32} (hr : r < 8) : tSet s k 8 4 (nI r) 1 v = stp s k (r * 4 + 1) v := tSet_n (c := 1) hr (by decide) (by decide) (by decide) (by decide)
theorem tg_8_4_2 {r : Nat} {f : Nat → Int32} (hr : r < 8) : tGet 8 4 f (nI r) 2 = f (r * 4 + 2) := tGet_n (c := 2) hr (by decide) (by decide) (by decide) (by decide)
theorem ts_8_4_2 {r k : Nat} {s : St} {v : Int32} (hr : r < 8) : tSet s k 8 4 (nI r) 2 v = stp s k (r * 4 + 2) v := tSet_n (c := 2) hr (by decide) (by decide) (by decide) (by decide)
theorem tg_8_4_3 {r : Nat} {f : Nat → Int32} (hr : r < 8) : tGet 8 4 f (nI r) 3 = f (r * 4 + 3) := tGet_n (c := 3) hr (by decide) (by decide) (by decide) (by decide)
theorem ts_8_4_3 {r k : Nat} {s : St} {v : Int32} (hr : r < 8) : tSet s k 8 4 (nI r) 3 v = stp s k (r * 4 + 3) v := tSet_n (c := 3) hr (by decide) (by decide) (by decide) (by decide)
theorem tg_4_2_0 {r : Nat} {f : Nat → Int32} (hr : r < 4) : tGet 4 2 f (nI r) 0 = f (r * 2 + 0) := tGet_n (c := 0) hr (by decide) (by decide) (by decide) (by decide)
theorem ts_4_2_0 {r k : Nat} {s : St} {v : Int32} (hr : r < 4) : tSet s k 4 2 (nI r) 0 v = stp s k (r * 2 + 0) v := tSet_n (c := 0) hr (by decide) (by decide) (by decide) (by decide)
theorem tg_4_2_1 {r : Nat} {f : Nat → Int32} (hr : r < 4) : tGet 4 2 f (nI r) 1 = f (r * 2 + 1) := tGet_n (c := 1) hr (by decide) (by decide) (by decide) (by decide)
theorem ts_4_2_1 {r k : Nat} {s : St} {v : Int32} (hr : r < 4) : tSet s k 4 2 (nI r) 1 v = stp s k (r * 2 + 1) v := tSet_n (c := 1) hr (by decide) (by decide) (by decide) (by decide)
theorem tg_8_11_0 {r : Nat} {f : Nat → Int32} (hr : r < 8) : tGet 8 11 f (nI r) 0 = f (r * 11 + 0) := tGet_n (c := 0) hr (by decide) (by decide) (by decide) (by decide)
theorem ts_8_11_0 {r k : Nat} {s : St} {v : Int32} (hr : r < 8) : tSet s k 8 11 (nI r) 0 v = stp s k (r * 11 + 0) v := tSet_n (c := 0) hr (by decide) (by decide) (by decide) (by decide)
theorem tg_8_11_1 {r : Nat} {f : Nat → Int32} (hr : r < 8) : tGet 8 11 f (nI r) 1 = f (r * 11 + 1) := tGet_n (c := 1) hr (by decide) (by decide) (by decide) (by decide)
theorem ts_8_11_1 {r k : Nat} {s : St} {v : Int32} (hr : r < 8) : tSet s k 8 11 (nI r) 1 v = stp s k (r * 11 + 1) v := tSet_n (c := 1) hr (by decide) (by decide) (by decide) (by decide)
theorem tg_8_11_2 {r : Nat} {f : Nat → Int32} (hr : r < 8) : tGet 8 11 f (nI r) 2 = f (r * 11 + 2) := tGet_n (c := 2) hr (by decide) (by decide) (by decide) (by decide)
theorem ts_8_11_2 {r k : Nat} {s : St} {v : Int32} (hr : r < 8) : tSet s k 8 11 (nI r) 2 v = stp s k (r * 11 + 2) v := tSet_n (c := 2) hr (by decide) (by decide) (by decide) (by decide)
theorem tg_4_4_0 {r : Nat} {f : Nat → Int32} (hr : r < 4) : tGet 4 4 f (nI r) 0 = f (r * 4 + 0) := tGet_n (c := 0) hr (by decide) (by decide) (by decide) (by decide)
theorem ts_4_4_0 {r k : Nat} {s : St} {v : Int32} (hr : r < 4) : tSet s k 4 4 (nI r) 0 v = stp s k (r * 4 + 0) v := tSet_n (c := 0) hr (by decide) (by decide) (by decide) (by decide)
theorem tg_4_4_1 {r : Nat} {f : Nat → Int32} (hr : r < 4) : tGet 4 4 f (nI r) 1 = f (r * 4 + 1) := tGet_n (c := 1) hr (by decide) (by decide) (by decide) (by decide)
theorem ts_4_4_1 {r k : Nat} {s : St} {v : Int32} (hr : r < 4) : tSet s k 4 4 (nI r) 1 v = stp s k (r * 4 + 1) v := tSet_n (c := 1) hr (by decide) (by decide) (by decide) (by decide)
theorem tg_4_4_2 {r : Nat} {f : Nat → Int32} (hr : r < 4) : tGet 4 4 f (nI r) 2 = f (r * 4 + 2) := tGet_n (c := 2) hr (by decide) (by decide) (by decide) (by decide)
theorem ts_4_4_2 {r k : Nat} {s : St} {v : Int32} (hr : r < 4) : tSet s k 4 4 (nI r) 2 v = stp s k (r * 4 + 2) v := tSet_n (c := 2) hr (by decide) (by decide) (by decide) (by decide)
theorem tg_4_4_3 {r : Nat} {f : Nat → Int32} (hr : r < 4) : tGet 4 4 f (nI r) 3 = f (r * 4 + 3) := tGet_n (c := 3) hr (by decide) (by decide) (by decide) (by decide)
theorem ts_4_4_3 {r k : Nat} {s : St} {v : Int32} (hr : r < 4) : tSet s k 4 4 (nI r) 3 v = stp s k (r * 4 + 3) v := tSet_n (c := 3) hr (by decide) (by decide) (by decide) (by decide)
theorem tg_240_7_0 {r : Nat} {f : Nat → Int32} (hr : r < 240) : tGet 240 7 f (nI r) 0 = f (r * 7 + 0) := tGet_n (c := 0) hr (by decide) (by decide) (by decide) (by decide)
theorem ts_240_7_0 {r k : Nat} {s : St} {v : Int32} (hr : r < 240) : tSet s k 240 7 (nI r) 0 v = stp s k (r * 7 + 0) v := tSet_n (c := 0) hr (by decide) (by decide) (by decide) (by decide)
theorem tg_240_7_1 {r : Nat} {f : Nat → Int32} (hr : r < 240) : tGet 240 7 f (nI r) 1 = f (r * 7 + 1) := tGet_n (c := 1) hr (by decide) (by decide) (by decide) (by decide)
theorem ts_240_7_1 {r k : Nat} {s : St} {v : Int32} (hr : r < 240) : tSet s k 240 7 (nI r) 1 v = stp s k (r * 7 + 1) v := tSet_n (c := 1) hr (by decide) (by decide) (by decide) (by decide)
theorem tg_240_7_2 {r : Nat} {f : Nat → Int32} (hr : r < 240) : tGet 240 7 f (nI r) 2 = f (r * 7 + 2) := tGet_n (c := 2) hr (by decide) (by decide) (by decide) (by decide)
theorem ts_240_7_2 {r k : Nat} {s : St} {v : Int32} (hr : r < 240) : tSet s k 240 7 (nI r) 2 v = stp s k (r * 7 + 2) v := tSet_n (c := 2) hr (by decide) (by decide) (by decide) (by decide)
theorem tg_240_7_3 {r : Nat} {f : Nat → Int32} (hr : r < 240) : tGet 240 7 f (nI r) 3 = f (r * 7 + 3) := tGet_n (c := 3) hr (by decide) (by decide) (by decide) (by decide)
theorem ts_240_7_3 {r k : Nat} {s : St} {v : Int32} (hr : r < 240) : tSet s k 240 7 (nI r) 3 v = stp s k (r * 7 + 3) v := tSet_n (c := 3) hr (by decide) (by decide) (by decide) (by decide)
theorem tg_240_7_4 {r : Nat} {f : Nat → Int32} (hr : r < 240) : tGet 240 7 f (nI r) 4 = f (r * 7 + 4) := tGet_n (c := 4) hr (by decide) (by decide) (by decide) (by decide)
theorem ts_240_7_4 {r k : Nat} {s : St} {v : Int32} (hr : r < 240) : tSet s k 240 7 (nI r) 4 v = stp s k (r * 7 + 4) v := tSet_n (c := 4) hr (by decide) (by decide) (by decide) (by decide)
theorem tg_240_7_5 {r : Nat} {f : Nat → Int32} (hr : r < 240) : tGet 240 7 f (nI r) 5 = f (r * 7 + 5) := tGet_n (c := 5) hr (by decide) (by decide) (by decide) (by decide)
theorem ts_240_7_5 {r k : Nat} {s : St} {v : Int32} (hr : r < 240) : tSet s k 240 7 (nI r) 5 v = stp s k (r * 7 + 5) v := tSet_n (c := 5) hr (by decide) (by decide) (by decide) (by decide)
theorem tg_240_7_6 {r : Nat} {f : Nat → Int32} (hr : r < 240) : tGet 240 7 f (nI r) 6 = f (r * 7 + 6) := tGet_n (c := 6) hr (by decide) (by decide) (by decide) (by decide)
theorem ts_240_7_6 {r k : Nat} {s : St} {v : Int32} (hr : r < 240) : tSet s k 240 7 (nI r) 6 v = stp s k (r * 7 + 6) v := tSet_n (c := 6) hr (by decide) (by decide) (by decide) (by decide)
theorem tg_240_1_0 {r : Nat} {f : Nat → Int32} (hr : r < 240) : tGet 240 1 f (nI r) 0 = f (r * 1 + 0) := tGet_n (c := 0) hr (by decide) (by decide) (by decide) (by decide)
theorem ts_240_1_0 {r k : Nat} {s : St} {v : Int32} (hr : r < 240) : tSet s k 240 1 (nI r) 0 v = stp s k (r * 1 + 0) v := tSet_n (c := 0) hr (by decide) (by decide) (by decide) (by decide)
theorem tg_11_6_0 {r : Nat} {f : Nat → Int32} (hr : r < 11) : tGet 11 6 f (nI r) 0 = f (r * 6 + 0) := tGet_n (c := 0) hr (by decide) (by decide) (by decide) (by decide)
theorem ts_11_6_0 {r k : Nat} {s : St} {v : Int32} (hr : r < 11) : tSet s k 11 6 (nI r) 0 v = stp s k (r * 6 + 0) v := tSet_n (c := 0) hr (by decide) (by decide) (by decide) (by decide)
theorem tg_11_6_1 {r : Nat} {f : Nat → Int32} (hr : r < 11) : tGet 11 6 f (nI r) 1 = f (r * 6 + 1) := tGet_n (c := 1) hr (by decide) (by decide) (by decide) (by decide)
theorem ts_11_6_1 {r k : Nat} {s : St} {v : Int32} (hr : r < 11) : tSet s k 11 6 (nI r) 1 v = stp s k (r * 6 + 1) v := tSet_n (c := 1) hr (by decide) (by decide) (by decide) (by decide)
theorem tg_11_6_2 {r : Nat} {f : Nat → Int32} (hr : r < 11) : tGet 11 6 f (nI r) 2 = f (r * 6 + 2) := tGet_n (c := 2) hr (by decide) (by decide) (by decide) (by decide)
theorem ts_11_6_2 {r k : Nat} {s : St} {v : Int32} (hr : r < 11) : tSet s k 11 6 (nI r) 2 v = stp s k (r * 6 + 2) v := tSet_n (c := 2) hr (by decide) (by decide) (by decide) (by decide)
theorem tg_11_6_3 {r : Nat} {f : Nat → Int32} (hr : r < 11) : tGet 11 6 f (nI r) 3 = f (r * 6 + 3) := tGet_n (c := 3) hr (by decide) (by decide) (by decide) (by decide)
theorem ts_11_6_3 {r k : Nat} {s : St} {v : Int32} (hr : r < 11) : tSet s k 11 6 (nI r) 3 v = stp s k (r * 6 + 3) v := tSet_n (c := 3) hr (by decide) (by decide) (by decide) (by decide)
theorem tg_11_6_4 {r : Nat} {f : Nat → Int32} (hr : r < 11) : tGet 11 6 f (nI r) 4 = f (r * 6 + 4) := tGet_n (c := 4) hr (by decide) (by decide) (by decide) (by decide)
theorem ts_11_6_4 {r k : Nat} {s : St} {v : Int32} (hr : r < 11) : tSet s k 11 6 (nI r) 4 v = stp s k (r * 6 + 4) v := tSet_n (c := 4) hr (by decide) (by decide) (by decide) (by decide)
theorem tg_11_6_5 {r : Nat} {f : Nat → Int32} (hr : r < 11) : tGet 11 6 f (nI r) 5 = f (r * 6 + 5) := tGet_n (c := 5) hr (by decide) (by decide) (by decide) (by decide)
theorem ts_11_6_5 {r k : Nat} {s : St} {v : Int32} (hr : r < 11) : tSet s k 11 6 (nI r) 5 v = stp s k (r * 6 + 5) v := tSet_n (c := 5) hr (by decide) (by decide) (by decide) (by decide)
theorem tg_80_2_0 {r : Nat} {f : Nat → Int32} (hr : r < 80) : tGet 80 2 f (nI r) 0 = f (r * 2 + 0) := tGet_n (c := 0) hr (by decide) (by decide) (by decide) (by decide)
theorem ts_80_2_0 {r k : Nat} {s : St} {v : Int32} (hr : r < 80) : tSet s k 80 2 (nI r) 0 v = stp s k (r * 2 + 0) v := tSet_n (c := 0) hr (by decide) (by decide) (by decide) (by decide)
theorem tg_80_2_1 {r : Nat} {f : Nat → Int32} (hr : r < 80) : tGet 80 2 f (nI r) 1 = f (r * 2 + 1) := tGet_n (c := 1) hr (by decide) (by decide) (by decide) (by decide)
theorem ts_80_2_1 {r k : Nat} {s : St} {v : Int32} (hr : r < 80) : tSet s k 80 2 (nI r) 1 v = stp s k (r * 2 + 1) v := tSet_n (c := 1) hr (by decide) (by decide) (by decide) (by decide)
