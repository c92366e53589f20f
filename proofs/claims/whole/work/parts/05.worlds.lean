def wdC (tI tJ tZ : ClassId) (ad : Nat → Nat) (σ : St) : va_W := [(ad 0, .inr (6, [.ref (ad 1), .ref (ad 5), .ref (ad 10), .ref (ad 15), .ref (ad 19)])), (ad 1, .inr (2, [.ref (ad 2), .ref (ad 3), .ref (ad 4), .int (gI σ 0), .int (gI σ 1), .int (gI σ 2), .int (gI σ 3), .int (gI σ 4)])), (ad 2, .inl (tI, 10, .inl (gA σ 0))), (ad 3, .inl (tI, 10, .inl (gA σ 1))), (ad 4, .inl (tI, 10, .inl (gA σ 2))), (ad 5, .inr (0, [.ref (ad 6), .ref (ad 7), .ref (ad 8), .ref (ad 9), .int (gI σ 5), .int (gI σ 6), .int (gI σ 7), .int (gI σ 8), .long (gL σ 0), .int (gI σ 9), .int (gI σ 10), .int (gI σ 11), .int (gI σ 12)])), (ad 6, .inl (tJ, 210, .inr (.inl (gB σ 0)))), (ad 7, .inl (tI, 10, .inl (gA σ 3))), (ad 8, .inl (tI, 10, .inl (gA σ 4))), (ad 9, .inl (tI, 10, .inl (gA σ 5))), (ad 10, .inr (1, [.ref (ad 11), .ref (ad 13), .int (gI σ 13)])), (ad 11, .inr (3, [.ref (ad 12), .int (gI σ 14)])), (ad 12, .inl (tI, 252, .inl (gA σ 6))), (ad 13, .inr (3, [.ref (ad 14), .int (gI σ 15)])), (ad 14, .inl (tI, 252, .inl (gA σ 7))), (ad 15, .inr (5, [.ref (ad 16), .ref (ad 17), .ref (ad 18), .int (gI σ 17), .int (gI σ 18), .int (gI σ 19)])), (ad 16, .inl (tI, 3300, .inl (gA σ 9))), (ad 17, .inl (tI, 11, .inl (gA σ 10))), (ad 18, .inl (tI, 11, .inl (gA σ 11))), (ad 19, .inr (4, [.ref (ad 20)])), (ad 20, .inr (3, [.ref (ad 21), .int (gI σ 16)])), (ad 21, .inl (tI, 252, .inl (gA σ 8)))]
def wdM (tI tJ tZ : ClassId) (ad : Nat → Nat) (σ : St) : va_W := [(ad 0, .inr (7, [.int (gI σ 0), .ref (ad 1), .ref (ad 2), .ref (ad 3), .ref (ad 4), .int (gI σ 1), .ref (ad 5), .int (gI σ 2), .ref (ad 6), .int (gI σ 3), .long (gL σ 0), .ref (ad 7), .ref (ad 8), .long (gL σ 1), .ref (ad 9), .long (gL σ 2), .ref (ad 10), .int (gI σ 4)])), (ad 1, .inl (tI, 10, .inl (gA σ 0))), (ad 2, .inl (tI, 10, .inl (gA σ 1))), (ad 3, .inl (tZ, 10, .inl (gA σ 2))), (ad 4, .inl (tZ, 10, .inl (gA σ 3))), (ad 5, .inl (tI, 10, .inl (gA σ 4))), (ad 6, .inl (tJ, 800, .inr (.inl (gB σ 0)))), (ad 7, .inl (tI, 10, .inl (gA σ 5))), (ad 8, .inl (tJ, 10, .inr (.inl (gB σ 1)))), (ad 9, .inl (tJ, 10, .inr (.inl (gB σ 2)))), (ad 10, .inl (tI, 1024, .inl (gA σ 6)))]
theorem lc_lt (x y : Int64) : lg_cmp x y < 0 ↔ x < y := by
  unfold lg_cmp
  by_cases h1 : x > y
  · rw [if_pos h1]; exact ⟨fun h => absurd h (by decide), fun h => absurd h (Int64.not_lt.mpr (Int64.le_of_lt h1))⟩
  · rw [if_neg h1]
    by_cases h2 : x = y
    · rw [if_pos h2]; exact ⟨fun h => absurd h (by decide), fun h => absurd h (by rw [h2]; exact Int64.lt_irrefl)⟩
    · rw [if_neg h2]; exact ⟨fun _ => Int64.lt_of_le_of_ne (Int64.not_lt.mp h1) h2, fun _ => by decide⟩
theorem lc_gt (x y : Int64) : 0 < lg_cmp x y ↔ y < x := by
  unfold lg_cmp
  by_cases h1 : x > y
  · rw [if_pos h1]; exact ⟨fun _ => h1, fun _ => by decide⟩
  · rw [if_neg h1]
    by_cases h2 : x = y
    · rw [if_pos h2]; exact ⟨fun h => absurd h (by decide), fun h => absurd h h1⟩
    · rw [if_neg h2]; exact ⟨fun h => absurd h (by decide), fun h => absurd h h1⟩
theorem lc_eq (x y : Int64) : lg_cmp x y = 0 ↔ x = y := by
  unfold lg_cmp
  by_cases h1 : x > y
  · rw [if_pos h1]; exact ⟨fun h => absurd h (by decide), fun h => absurd h1 (by rw [h]; exact Int64.lt_irrefl)⟩
  · rw [if_neg h1]
    by_cases h2 : x = y
    · rw [if_pos h2]; exact ⟨fun _ => h2, fun _ => rfl⟩
    · rw [if_neg h2]; exact ⟨fun h => absurd h (by decide), fun h => absurd h h2⟩
theorem lc_ne (x y : Int64) : ¬ lg_cmp x y = 0 ↔ ¬ x = y := not_congr (lc_eq x y)
theorem lc_ge (x y : Int64) : 0 ≤ lg_cmp x y ↔ y ≤ x := by rw [← Int32.not_lt, ← Int64.not_lt]; exact not_congr (lc_lt x y)
theorem lc_le (x y : Int64) : lg_cmp x y ≤ 0 ↔ x ≤ y := by rw [← Int32.not_lt, ← Int64.not_lt]; exact not_congr (lc_gt x y)
theorem lc_nlt (x y : Int64) : ¬ lg_cmp x y < 0 ↔ ¬ x < y := not_congr (lc_lt x y)
theorem lc_ngt (x y : Int64) : ¬ 0 < lg_cmp x y ↔ ¬ y < x := not_congr (lc_gt x y)
theorem lc_neq (x y : Int64) : ¬ lg_cmp x y = 0 ↔ ¬ x = y := not_congr (lc_eq x y)
theorem lc_nne (x y : Int64) : lg_cmp x y = 0 ↔ x = y := lc_eq x y
theorem lc_nge (x y : Int64) : ¬ 0 ≤ lg_cmp x y ↔ ¬ y ≤ x := not_congr (lc_ge x y)
theorem lc_nle (x y : Int64) : ¬ lg_cmp x y ≤ 0 ↔ ¬ x ≤ y := not_congr (lc_le x y)
theorem sw_ne {x k : Int32} {a : Int} (h : ¬ x = k) (hk : k.toInt = a) : ¬ x.toInt = a := fun q => h (Int32.toInt_inj.mp (by rw [hk]; exact q))
theorem sw_out3 {x : Int32} (h0 : ¬ x = 0) (h1 : ¬ x = 1) (h2 : ¬ x = 2) (h3 : ¬ x = 3) : x.toInt < 0 ∨ 3 < x.toInt := by
  have := sw_ne (a := 0) h0 (by decide); have := sw_ne (a := 1) h1 (by decide); have := sw_ne (a := 2) h2 (by decide); have := sw_ne (a := 3) h3 (by decide)
  omega
theorem sw_out8 {x : Int32} (h0 : ¬ x = 0) (h1 : ¬ x = 1) (h2 : ¬ x = 2) (h3 : ¬ x = 3) (h4 : ¬ x = 4) (h5 : ¬ x = 5) (h6 : ¬ x = 6) (h7 : ¬ x = 7) (h8 : ¬ x = 8) : x.toInt < 0 ∨ 8 < x.toInt := by
  have := sw_ne (a := 0) h0 (by decide); have := sw_ne (a := 1) h1 (by decide); have := sw_ne (a := 2) h2 (by decide); have := sw_ne (a := 3) h3 (by decide); have := sw_ne (a := 4) h4 (by decide); have := sw_ne (a := 5) h5 (by decide); have := sw_ne (a := 6) h6 (by decide); have := sw_ne (a := 7) h7 (by decide); have := sw_ne (a := 8) h8 (by decide)
  omega
