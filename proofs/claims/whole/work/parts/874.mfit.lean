/-! ===== the reference's doFit: its step ===== -/
/-- the costs' row over a pivot -/
theorem kc_piv {m r e : Nat} {C : Nat → Nat} {d : Int} {T T' : Nat → Nat → Int} (c : Nat → Int) (hr : r < m) (t2 : ∀ j, T' r j = T r j) (t3 : ∀ i, i < m → i ≠ r → ∀ j, d * T' i j = T i j * T r e - T i e * T r j) (j : Nat) :
    d * (Kc m (cu C r e) T' c j - T r e * c j) = (Kc m C T c j - d * c j) * T r e - (Kc m C T c e - d * c e) * T r j := by
  have e1 : ∀ i, Kc m C T c i = sg (fun s => if s = r then 0 else c (C s) * T s i) m + c (C r) * T r i := fun i => sg_out hr
  have e2 : Kc m (cu C r e) T' c j = sg (fun s => if s = r then 0 else c (cu C r e s) * T' s j) m + c (cu C r e r) * T' r j := sg_out hr
  rw [e1 j, e1 e, e2, cu_same, t2]
  have e3 : d * sg (fun s => if s = r then 0 else c (cu C r e s) * T' s j) m = T r e * sg (fun s => if s = r then 0 else c (C s) * T s j) m - T r j * sg (fun s => if s = r then 0 else c (C s) * T s e) m := by
    rw [← sg_mul, ← sg_mul, ← sg_mul, ← sg_sub]
    refine sg_congr (fun s hs => ?_)
    by_cases q : s = r
    · simp [q]
    · simp only [if_neg q]
      rw [cu_ne _ q]
      have := t3 s hs q j
      grind
  grind
/-- row r gives way no later than row s, as the reference orders them -/
def gm (n m : Nat) (S : Sx) (e r s : Nat) : Prop := S.2.2 r (n + m) * S.2.2 s e ≤ S.2.2 s (n + m) * S.2.2 r e ∧ (S.2.2 r (n + m) * S.2.2 s e = S.2.2 s (n + m) * S.2.2 r e → S.1 r ≤ S.1 s)
theorem gm_refl (n m : Nat) (S : Sx) (e r : Nat) : gm n m S e r r := ⟨Int.le_refl _, fun _ => Nat.le_refl _⟩
theorem gm_trans {n m : Nat} {S : Sx} {e r b s : Nat} (hr : 0 < S.2.2 r e) (hb : 0 < S.2.2 b e) (hs : 0 < S.2.2 s e) (h1 : gm n m S e r b) (h2 : gm n m S e b s) : gm n m S e r s := by
  obtain ⟨h1, g1⟩ := h1
  obtain ⟨h2, g2⟩ := h2
  unfold gm
  generalize S.2.2 r (n + m) = ar at *
  generalize S.2.2 b (n + m) = ab at *
  generalize S.2.2 s (n + m) = as at *
  generalize S.2.2 r e = yr at *
  generalize S.2.2 b e = yb at *
  generalize S.2.2 s e = ys at *
  have p1 : ar * yb * ys ≤ ab * yr * ys := Int.mul_le_mul_of_nonneg_right h1 (Int.le_of_lt hs)
  have p2 : ab * ys * yr ≤ as * yb * yr := Int.mul_le_mul_of_nonneg_right h2 (Int.le_of_lt hr)
  have c1 : ar * yb * ys = ar * ys * yb := by rw [Int.mul_assoc, Int.mul_comm yb, ← Int.mul_assoc]
  have c2 : ab * yr * ys = ab * ys * yr := by rw [Int.mul_assoc, Int.mul_comm yr, ← Int.mul_assoc]
  have c3 : as * yb * yr = as * yr * yb := by rw [Int.mul_assoc, Int.mul_comm yb, ← Int.mul_assoc]
  refine ⟨Int.le_of_mul_le_mul_right (a := yb) (by omega) hb, fun he => ?_⟩
  have p3 : ar * ys * yb = as * yr * yb := by rw [he]
  have q1 : ar * yb * ys = ab * yr * ys := by omega
  have q2 : ab * ys * yr = as * yb * yr := by omega
  have k1 := g1 (Int.eq_of_mul_eq_mul_right (by omega) q1)
  have k2 := g2 (Int.eq_of_mul_eq_mul_right (by omega) q2)
  omega
def bestM (n m : Nat) (S : Sx) (e r : Nat) (k : Nat) : Prop := r < k ∧ 0 < S.2.2 r e ∧ ∀ s, s < k → 0 < S.2.2 s e → gm n m S e r s
section MF
variable {n m : Nat} {A : Nat → Nat → Int} {b : Nat → Int}
theorem stepM_std {S : Sx} (h : Std n m (vrow n m A b) S) {e r : Nat} (he : e < n) (hg : bestM n m S e r m) : ∃ T' : Nat → Nat → Int, Std n m (vrow n m A b) (cu S.1 r e, S.2.2 r e, T') ∧ (∀ j, T' r j = S.2.2 r j) ∧ ∀ i, i < m → i ≠ r → ∀ j, S.2.1 * T' i j = S.2.2 i j * S.2.2 r e - S.2.2 i e * S.2.2 r j := by
  obtain ⟨hr, hp, hg⟩ := hg
  obtain ⟨T', t1, t2, t3⟩ := tab_piv h.1 hr (show S.2.2 r e ≠ 0 by omega)
  refine ⟨T', ⟨t1, hp, fun s hs => ?_, fun s hs => ?_⟩, t2, t3⟩
  · show 0 ≤ T' s (n + m)
    have f := h.2.2.1
    by_cases q : s = r
    · rw [q, t2]; exact f r hr
    · have e1 := t3 s hs q (n + m)
      have d0 := h.2.1
      have k1 : 0 ≤ S.2.2 s (n + m) * S.2.2 r e - S.2.2 s e * S.2.2 r (n + m) := by
        by_cases z : 0 < S.2.2 s e
        · have := (hg s hs z).1
          rw [Int.mul_comm (S.2.2 s e)]; omega
        · have k2 := Int.mul_nonneg (f s hs) (Int.le_of_lt hp)
          have k3 := Int.mul_nonpos_of_nonpos_of_nonneg (show S.2.2 s e ≤ 0 by omega) (f r hr)
          omega
      rw [← e1] at k1
      by_cases w : 0 ≤ T' s (n + m)
      · exact w
      · have := Int.mul_neg_of_pos_of_neg d0 (show T' s (n + m) < 0 by omega)
        omega
  · show cu S.1 r e s < n ∨ cu S.1 r e s = n + s
    by_cases q : s = r
    · rw [q, cu_same]; exact Or.inl he
    · rw [cu_ne _ q]; exact h.2.2.2 s hs
theorem stepM_bstp {S : Sx} {T' : Nat → Nat → Int} {c : Nat → Int} (h : Std n m (vrow n m A b) S) {e r : Nat} (he : e < n) (hh : Hlp m S.1 S.2.1 S.2.2 c e) (hf : ∀ j, j < e → ¬ Hlp m S.1 S.2.1 S.2.2 c j) (hg : bestM n m S e r m) (h' : Std n m (vrow n m A b) (cu S.1 r e, S.2.2 r e, T')) (t2 : ∀ j, T' r j = S.2.2 r j) (t3 : ∀ i, i < m → i ≠ r → ∀ j, S.2.1 * T' i j = S.2.2 i j * S.2.2 r e - S.2.2 i e * S.2.2 r j) : BStp n m (vrow n m A b) c (fun _ => False) S (cu S.1 r e, S.2.2 r e, T') e r :=
  ⟨h, h', ⟨he, id, hh, fun j hj _ => hf j hj⟩, ⟨hg.1, hg.2.1, fun s hs hp => ⟨(hg.2.2 s hs hp).1, fun q _ _ => (hg.2.2 s hs hp).2 q⟩⟩, rfl, rfl, t2, t3⟩
/-- the costs' row -/
def Ob (n m : Nat) (S : Sx) (j : Nat) : Int := Kc m S.1 S.2.2 (cSlack n m) j - S.2.1 * cSlack n m j
theorem cSl_01 (n m j : Nat) : 0 ≤ cSlack n m j ∧ cSlack n m j ≤ 1 := by
  unfold cSlack
  by_cases q : j < n
  · rw [if_pos q]; omega
  · rw [if_neg q]
    by_cases q2 : j < n + m
    · rw [if_pos q2]; omega
    · rw [if_neg q2]; omega
theorem cSl_line {j : Nat} (h : j < n) : cSlack n m j = 0 := if_pos h
theorem cSl_last (n m : Nat) : cSlack n m (n + m) = 0 := by unfold cSlack; rw [if_neg (by omega), if_neg (by omega)]
theorem ob_hlp {S : Sx} {j : Nat} (h : j < n) : 0 < Ob n m S j ↔ Hlp m S.1 S.2.1 S.2.2 (cSlack n m) j := by
  unfold Ob Hlp; omega
theorem ob_pos {S : Sx} {e : Nat} (he : e < n) (h : 0 < Ob n m S e) : ∃ s, s < m ∧ 0 < S.2.2 s e := by
  have h0 : 0 < Kc m S.1 S.2.2 (cSlack n m) e := by
    unfold Ob at h; rw [cSl_line he] at h; omega
  obtain ⟨s, hs, hpos⟩ := sg_pos h0
  refine ⟨s, hs, ?_⟩
  by_cases q : 0 < S.2.2 s e
  · exact q
  · have := Int.mul_nonpos_of_nonneg_of_nonpos (cSl_01 n m (S.1 s)).1 (show S.2.2 s e ≤ 0 by omega)
    omega
/-- bounds of the table with the costs' row -/
theorem ob_bound {S : Sx} {lc : Nat → Int} {sc : Int} {br : Nat} (B : DelB n m S lc sc br) : (∀ j, j < n + m → -1000000 ≤ Ob n m S j ∧ Ob n m S j ≤ 1000000) ∧ -4000000000000 ≤ Ob n m S (n + m) ∧ Ob n m S (n + m) ≤ 4000000000000 := by
  obtain ⟨b1, b2, b3, b4, b5, b6, b7, b8, b9, b10⟩ := B
  have gen : ∀ (j : Nat) (K : Int), (∀ s, s < m → -K ≤ S.2.2 s j ∧ S.2.2 s j ≤ K) → -(m * K) ≤ Kc m S.1 S.2.2 (cSlack n m) j ∧ Kc m S.1 S.2.2 (cSlack n m) j ≤ m * K := fun j K h => sg_bound (fun s hs => by
    have c := cSl_01 n m (S.1 s)
    have := abs_mul_le (a := cSlack n m (S.1 s)) (A := 1) (b := S.2.2 s j) (B := K) (by omega) (h s hs)
    rw [Int.one_mul] at this
    exact this)
  refine ⟨fun j hj => ?_, ?_⟩
  · have g := gen j 38981 (fun s hs => b9 s j hs hj)
    have c := cSl_01 n m j
    have d := abs_mul_le (a := S.2.1) (A := 38981) (b := cSlack n m j) (B := 1) b8 (by omega)
    unfold Ob
    omega
  · have g := gen (n + m) 362880000000 (fun s hs => b10 s hs)
    unfold Ob
    rw [cSl_last]
    omega
/-- rows and costs' row, as they lie -/
def TT (n m : Nat) (S : Sx) : Nat → Nat → Int := fun s j => if s = m then Ob n m S j else S.2.2 s j
theorem ob_start {j : Nat} (hj : j < n + m + 1) : Ob n m (c0 n, 1, vrow n m A b) j = sg (fun t => if j < n ∨ j = n + m then vrow n m A b t j else 0) m := by
  have e1 : ∀ s, s < m → cSlack n m (c0 n s) = 1 := fun s hs => by
    unfold cSlack c0; rw [if_neg (by omega), if_pos (by omega)]
  have e2 : Kc m (c0 n) (vrow n m A b) (cSlack n m) j = sg (fun t => vrow n m A b t j) m := sg_congr (fun s hs => by rw [e1 s hs, Int.one_mul])
  unfold Ob
  show Kc m (c0 n) (vrow n m A b) (cSlack n m) j - 1 * cSlack n m j = _
  rw [e2]
  by_cases q : j < n ∨ j = n + m
  · have : cSlack n m j = 0 := by
      rcases q with q | q
      · exact cSl_line q
      · rw [q]; exact cSl_last n m
    rw [this, Int.mul_zero, Int.sub_zero]
    exact sg_congr (fun t _ => by rw [if_pos q])
  · rw [sg_zero (f := fun t => if j < n ∨ j = n + m then vrow n m A b t j else 0) (fun t _ => if_neg q)]
    have hu : n + (j - n) = j := by omega
    have : sg (fun t => vrow n m A b t j) m = 1 := by
      rw [sg_one (i := j - n) (by omega) (fun t ht hne => by rw [← hu, vrow_slack (by omega), if_neg (fun z => hne (by omega))])]
      rw [← hu, vrow_slack (by omega), if_pos (by omega)]
    rw [this]
    unfold cSlack
    rw [if_neg (by omega), if_pos (by omega)]; rfl
end MF
