/-! ===== Delays: which line comes in, which row gives way ===== -/
theorem divL {x y : Int64} {q : Int} (hy : y.toInt ≠ 0) (hx : x.toInt = y.toInt * q) (h1 : -9223372036854775808 ≤ q) (h2 : q < 9223372036854775808) : (x / y).toInt = q := by
  rw [Int64.toInt_div, hx, Int.mul_tdiv_cancel_left _ hy]
  exact fb_bmodL h1 h2
section FST
variable {σ : St} {n m : Nat} {S : Sx} {lc : Nat → Int} {sc : Int} {br : Nat}
theorem hlp_cst (lc : Nat → Int) (sc : Int) {j : Nat} (hj : j < n) (S : Sx) : Hlp m S.1 S.2.1 S.2.2 (cst n m lc sc) j ↔ S.2.1 * lc j < Kc m S.1 S.2.2 (cst n m lc sc) j := by
  unfold Hlp
  have : cst n m lc sc j = lc j := if_pos hj
  rw [this]
theorem first_lp (H : DelC σ n m S lc sc br) (B : DelB n m S lc sc br) {post : Int32 → St → Prop}
    (h0 : (∀ j, j < n → br.testBit j = false → ¬ Hlp m S.1 S.2.1 S.2.2 (cst n m lc sc) j) → post (-1) σ)
    (h1 : ∀ e, e < n → br.testBit e = false → Hlp m S.1 S.2.1 S.2.2 (cst n m lc sc) e → (∀ j, j < e → br.testBit j = false → ¬ Hlp m S.1 S.2.1 S.2.2 (cst n m lc sc) j) → post (nI e) σ) :
    ∀ (k j : Nat), j + k = n → (∀ i, i < j → br.testBit i = false → ¬ Hlp m S.1 S.2.1 S.2.2 (cst n m lc sc) i) → lp_X0_firstLineThatHelps_2 post (k + 1) (nI j) σ := by
  have H0 := H
  have B0 := B
  obtain ⟨h6, h7, h8, h9, h5, hd, hho, hlc, hT⟩ := H
  obtain ⟨b1, b2, b3, b4, b5, b6, b7, b8, b9, b10⟩ := B
  have hbr : br < 2 ^ 31 := Nat.lt_of_lt_of_le b4 (Nat.pow_le_pow_right (by decide) (by omega))
  intro k
  induction k with
  | zero =>
    intro j hk hn
    have : j = n := by omega
    subst this
    unfold lp_X0_firstLineThatHelps_2
    rw [h6]
    exact ⟨fun _ => h0 hn, fun q => absurd (nI_le (Nat.le_refl j) (by omega)) q⟩
  | succ k ih =>
    intro j hk hn
    have hj : j < n := by omega
    unfold lp_X0_firstLineThatHelps_2
    rw [h6, h9]
    refine ⟨fun q => absurd q (nI_ge hj (by omega)), fun _ => bitOf_wp hbr (by omega) ⟨fun q v hv => ?_, fun q => ?_⟩⟩
    · rw [hv, nI_1]
      have q2 := (bit_ne0 _).mp q
      refine ih (j + 1) (by omega) (fun i hi hb => ?_)
      by_cases z : i = j
      · subst z; rw [q2] at hb; cases hb
      · exact hn i (by omega) hb
    · have q2 := (bit_0 _).mp q
      refine ⟨idx10 (by omega), cost_wp H0 B0 (by omega) (fun r hr => ?_)⟩
      rw [nI_clamp (by omega)]
      have hl := b6 j hj
      have hm1 := abs_mul_le (A := 38981) (B := 1) b8 hl
      have e1 : (gL σ 0 * Int32.toInt64 (gA σ 5 j)).toInt = S.2.1 * lc j := by
        rw [fb_mulL (by rw [Int32.toInt_toInt64, hd, hlc j hj]; omega) (by rw [Int32.toInt_toInt64, hd, hlc j hj]; omega), Int32.toInt_toInt64, hd, hlc j hj]
      refine ⟨fun z v hv => ?_, fun z => ?_⟩
      · rw [hv, nI_1]
        rw [Int64.le_iff_toInt_le, e1, hr] at z
        refine ih (j + 1) (by omega) (fun i hi hb => ?_)
        by_cases w : i = j
        · subst w; rw [hlp_cst lc sc hj]; omega
        · exact hn i (by omega) hb
      · rw [Int64.le_iff_toInt_le, e1, hr] at z
        exact h1 j hj q2 ((hlp_cst lc sc hj S).mpr (by omega)) hn
theorem first_wp (H : DelC σ n m S lc sc br) (B : DelB n m S lc sc br) {post : Int32 → St → Prop}
    (h0 : (∀ j, j < n → br.testBit j = false → ¬ Hlp m S.1 S.2.1 S.2.2 (cst n m lc sc) j) → post (-1) σ)
    (h1 : ∀ e, e < n → br.testBit e = false → Hlp m S.1 S.2.1 S.2.2 (cst n m lc sc) e → (∀ j, j < e → br.testBit j = false → ¬ Hlp m S.1 S.2.1 S.2.2 (cst n m lc sc) j) → post (nI e) σ) : wp_X0_firstLineThatHelps σ post := by
  refine ⟨n + 1, ?_⟩
  have := first_lp H B h0 h1 n 0 (by omega) (fun i hi => absurd hi (Nat.not_lt_zero i))
  rw [nI_0] at this
  exact this
/-- the holder of a row, as the class orders them: a slack ahead of all lines -/
def hd (n : Nat) (S : Sx) (s : Nat) : Int := if S.1 s < n then (S.1 s : Int) else -1
/-- row r gives way no later than row s -/
def gw (n m : Nat) (S : Sx) (e r s : Nat) : Prop := S.2.2 r (n + m) * S.2.2 s e ≤ S.2.2 s (n + m) * S.2.2 r e ∧ (S.2.2 r (n + m) * S.2.2 s e = S.2.2 s (n + m) * S.2.2 r e → hd n S r ≤ hd n S s)
theorem gw_trans {e r b s : Nat} (hr : 0 < S.2.2 r e) (hb : 0 < S.2.2 b e) (hs : 0 < S.2.2 s e) (h1 : gw n m S e r b) (h2 : gw n m S e b s) : gw n m S e r s := by
  obtain ⟨h1, g1⟩ := h1
  obtain ⟨h2, g2⟩ := h2
  unfold gw
  generalize S.2.2 r (n + m) = ar at *
  generalize S.2.2 b (n + m) = ab at *
  generalize S.2.2 s (n + m) = as at *
  generalize S.2.2 r e = yr at *
  generalize S.2.2 b e = yb at *
  generalize S.2.2 s e = ys at *
  have p1 : ar * yb * ys ≤ ab * yr * ys := Int.mul_le_mul_of_nonneg_right h1 (Int.le_of_lt hs)
  have p2 : ab * ys * yr ≤ as * yb * yr := Int.mul_le_mul_of_nonneg_right h2 (Int.le_of_lt hr)
  have c1 : ar * yb * ys = ar * ys * yb := by rw [Int.mul_assoc, Int.mul_comm yb, ← Int.mul_assoc]
  have c2 : ab * yr * ys = ab * ys * yr := by rw [Int.mul_assoc, Int.mul_comm yr, ← Int.mul_assoc]
  have c3 : as * yb * yr = as * yr * yb := by rw [Int.mul_assoc, Int.mul_comm yb, ← Int.mul_assoc]
  refine ⟨Int.le_of_mul_le_mul_right (a := yb) (by omega) hb, fun he => ?_⟩
  have p3 : ar * ys * yb = as * yr * yb := by rw [he]
  have q1 : ar * yb * ys = ab * yr * ys := by omega
  have q2 : ab * ys * yr = as * yb * yr := by omega
  have k1 := g1 (Int.eq_of_mul_eq_mul_right (by omega) q1)
  have k2 := g2 (Int.eq_of_mul_eq_mul_right (by omega) q2)
  omega
theorem hold_le (H : DelC σ n m S lc sc br) (B : DelB n m S lc sc br) {r s : Nat} (hr : r < m) (hs : s < m) : gA σ 3 r ≤ gA σ 3 s ↔ hd n S r ≤ hd n S s := by
  have e : ∀ t, t < m → (gA σ 3 t).toInt = hd n S t := by
    intro t ht
    rw [H.2.2.2.2.2.2.1 t ht]
    unfold hd
    have := B.2.1
    by_cases q : S.1 t < n
    · rw [if_pos q, if_pos q, nI_toInt (by omega)]
    · rw [if_neg q, if_neg q]; rfl
  rw [Int32.le_iff_toInt_le, e r hr, e s hs]
theorem gives_wp (H : DelC σ n m S lc sc br) (B : DelB n m S lc sc br) {r o e : Nat} (hr : r < m) (ho : o < m) (he : e < n) {post : Int32 → St → Prop}
    (h1 : gw n m S e r o → post 1 σ) (h0 : gw n m S e o r → post 0 σ) : wp_X0_givesWayBefore (nI r) (nI o) (nI e) σ post := by
  have H0 := H
  have B0 := B
  obtain ⟨h6, h7, h8, h9, h5, hdd, hho, hlc, hT⟩ := H
  obtain ⟨b1, b2, b3, b4, b5, b6, b7, b8, b9, b10⟩ := B
  have w0 : ∀ s, s < m → s * (n + m + 1) + (n + m) < 210 := fun s hs => row_lt b2 b3 hs (by omega)
  have w1 : ∀ s, s < m → s * (n + m + 1) + e < 210 := fun s hs => row_lt b2 b3 hs (by omega)
  unfold wp_X0_givesWayBefore
  intro v1 hv1 v3 hv3
  have e1 : ∀ s, nI s * gI σ 8 + gI σ 8 - 1 = nI (s * (n + m + 1) + (n + m)) := by
    intro s
    rw [h8, pk_mul, nI_add, show s * (n + m + 1) + (n + m + 1) = (s * (n + m + 1) + (n + m)) + 1 by omega, nI_pred]
  have e2 : ∀ s, nI s * gI σ 8 + nI e = nI (s * (n + m + 1) + e) := by
    intro s
    rw [h8, pk_mul, nI_add]
  have k1 := w0 r hr
  have k2 := w0 o ho
  have k3 := w1 r hr
  have k4 := w1 o ho
  rw [hv1, hv3, e1 r, e1 o, e2 r, e2 o, nI_clamp (by omega), nI_clamp (by omega), nI_clamp (by omega), nI_clamp (by omega)]
  refine ⟨idx_in (w0 r hr), idx_in (w1 o ho), fun v5 hv5 => ⟨idx_in (w0 o ho), idx_in (w1 r hr), fun v7 hv7 => ?_⟩⟩
  have m1 := abs_mul_le (A := 362880000000) (B := 38981) (b10 r hr) (b9 o e ho (by omega))
  have m2 := abs_mul_le (A := 362880000000) (B := 38981) (b10 o ho) (b9 r e hr (by omega))
  have t5 : v5.toInt = S.2.2 r (n + m) * S.2.2 o e := by
    rw [hv5, fb_mulL (by rw [hT r (n + m) hr (by omega), hT o e ho (by omega)]; omega) (by rw [hT r (n + m) hr (by omega), hT o e ho (by omega)]; omega), hT r (n + m) hr (by omega), hT o e ho (by omega)]
  have t7 : v7.toInt = S.2.2 o (n + m) * S.2.2 r e := by
    rw [hv7, fb_mulL (by rw [hT o (n + m) ho (by omega), hT r e hr (by omega)]; omega) (by rw [hT o (n + m) ho (by omega), hT r e hr (by omega)]; omega), hT o (n + m) ho (by omega), hT r e hr (by omega)]
  rw [nI_clamp (by omega), nI_clamp (by omega)]
  have l1 : v5 < v7 ↔ S.2.2 r (n + m) * S.2.2 o e < S.2.2 o (n + m) * S.2.2 r e := by rw [Int64.lt_iff_toInt_lt, t5, t7]
  have l2 : v5 = v7 ↔ S.2.2 r (n + m) * S.2.2 o e = S.2.2 o (n + m) * S.2.2 r e := by rw [← Int64.toInt_inj, t5, t7]
  refine ⟨fun q => h1 ⟨Int.le_of_lt (l1.mp q), fun z => ?_⟩, fun q => ⟨fun z => h0 ⟨?_, fun w => ?_⟩, fun z => ⟨idx10 (by omega), idx10 (by omega), fun w => h0 ⟨?_, fun _ => (hold_le H0 B0 ho hr).mp w⟩, fun w => h1 ⟨?_, fun _ => ?_⟩⟩⟩⟩
  · have := l1.mp q; omega
  · rw [l1] at q; omega
  · rw [l2] at z; exact absurd w.symm z
  · rw [l2] at z; omega
  · rw [l2] at z; omega
  · have := mt (hold_le H0 B0 ho hr).mpr w; omega
/-- the row that gives way -/
def best (n m : Nat) (S : Sx) (e r : Nat) (k : Nat) : Prop := r < k ∧ 0 < S.2.2 r e ∧ ∀ s, s < k → 0 < S.2.2 s e → gw n m S e r s
theorem gw_refl (n m : Nat) (S : Sx) (e r : Nat) : gw n m S e r r := ⟨Int.le_refl _, fun _ => Int.le_refl _⟩
theorem rowg_lp (H : DelC σ n m S lc sc br) (B : DelB n m S lc sc br) {e : Nat} (he : e < n) {post : Int32 → St → Prop}
    (h0 : (∀ s, s < m → ¬ 0 < S.2.2 s e) → post (-1) σ) (h1 : ∀ r, best n m S e r m → post (nI r) σ) :
    ∀ (k row : Nat) (b : Int32), row + k = m → ((b = -1 ∧ ∀ s, s < row → ¬ 0 < S.2.2 s e) ∨ ∃ r, b = nI r ∧ best n m S e r row) → lp_X0_rowThatGivesWay_4 post (k + 1) (nI e) b (nI row) σ := by
  have H0 := H
  have B0 := B
  obtain ⟨h6, h7, h8, h9, h5, hdd, hho, hlc, hT⟩ := H
  obtain ⟨b1, b2, b3, b4, b5, b6, b7, b8, b9, b10⟩ := B
  intro k
  induction k with
  | zero =>
    intro row b hk hb
    have : row = m := by omega
    subst this
    unfold lp_X0_rowThatGivesWay_4
    rw [h7]
    refine ⟨fun _ => ?_, fun q => absurd (nI_le (Nat.le_refl row) (by omega)) q⟩
    rcases hb with ⟨rfl, hb⟩ | ⟨r, rfl, hb⟩
    · exact h0 hb
    · exact h1 r hb
  | succ k ih =>
    intro row b hk hb
    have hrow : row < m := by omega
    unfold lp_X0_rowThatGivesWay_4
    rw [h7]
    refine ⟨fun q => absurd q (nI_ge hrow (by omega)), fun _ => ?_⟩
    have e1 : nI row * gI σ 8 + nI e = nI (row * (n + m + 1) + e) := by rw [h8, pk_mul, nI_add]
    have hlt := row_lt b2 b3 hrow (show e < n + m + 1 by omega)
    rw [e1, nI_clamp (by omega)]
    refine ⟨idx_in hlt, ?_⟩
    have hv := hT row e hrow (by omega)
    have z0 : (0 : Int64).toInt = 0 := rfl
    refine ⟨fun q v hv3 => ?_, fun q => ⟨fun z v hv6 => ?_, fun z => ?_⟩⟩
    · rw [lc_le, Int64.le_iff_toInt_le, hv, z0] at q
      rw [hv3, nI_1]
      refine ih (row + 1) b (by omega) ?_
      rcases hb with ⟨rfl, hb⟩ | ⟨r, rfl, hb1, hb2, hb3⟩
      · exact Or.inl ⟨rfl, fun s hs => by
          by_cases w : s = row
          · subst w; omega
          · exact hb s (by omega)⟩
      · exact Or.inr ⟨r, rfl, by omega, hb2, fun s hs hp => by
          by_cases w : s = row
          · subst w; omega
          · exact hb3 s (by omega) hp⟩
    · rw [lc_le, Int64.le_iff_toInt_le, hv, z0] at q
      rw [hv6, nI_1]
      refine ih (row + 1) (nI row) (by omega) (Or.inr ⟨row, rfl, by omega, by omega, fun s hs hp => ?_⟩)
      rcases hb with ⟨_, hb⟩ | ⟨r, hr, hb1, hb2, hb3⟩
      · by_cases w : s = row
        · subst w; exact gw_refl n m S e s
        · exact absurd hp (hb s (by omega))
      · rw [hr] at z
        have := nI_pos (n := r) (by omega)
        rw [z] at this
        exact absurd (by decide) this
    · rw [lc_le, Int64.le_iff_toInt_le, hv, z0] at q
      rcases hb with ⟨hb0, hb⟩ | ⟨r, rfl, hb1, hb2, hb3⟩
      · exact absurd hb0 z
      · refine gives_wp H0 B0 hrow (show r < m by omega) he (fun g => ⟨fun w => absurd w (by decide), fun _ v hv13 => ?_⟩) (fun g => ⟨fun _ v hv11 => ?_, fun w => absurd rfl w⟩)
        · rw [hv13, nI_1]
          refine ih (row + 1) (nI row) (by omega) (Or.inr ⟨row, rfl, by omega, by omega, fun s hs hp => ?_⟩)
          by_cases w : s = row
          · subst w; exact gw_refl n m S e s
          · exact gw_trans (by omega) hb2 hp g (hb3 s (by omega) hp)
        · rw [hv11, nI_1]
          refine ih (row + 1) (nI r) (by omega) (Or.inr ⟨r, rfl, by omega, hb2, fun s hs hp => ?_⟩)
          by_cases w : s = row
          · subst w; exact g
          · exact hb3 s (by omega) hp
theorem rowg_wp (H : DelC σ n m S lc sc br) (B : DelB n m S lc sc br) {e : Nat} (he : e < n) {post : Int32 → St → Prop}
    (h0 : (∀ s, s < m → ¬ 0 < S.2.2 s e) → post (-1) σ) (h1 : ∀ r, best n m S e r m → post (nI r) σ) : wp_X0_rowThatGivesWay (nI e) σ post := by
  refine ⟨m + 1, ?_⟩
  have := rowg_lp H B he h0 h1 m 0 (-1) (by omega) (Or.inl ⟨rfl, fun s hs => absurd hs (Nat.not_lt_zero s)⟩)
  rw [nI_0] at this
  exact this
end FST
