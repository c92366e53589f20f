/-! ===== ends: the face of the best solutions ===== -/
/-- of a set: the sum -/
def osum (n s : Nat) (X : Nat → Int) : Int := sg (fun j => if s.testBit j then X j else 0) n
/-- the solutions with the least g times the sum of s (0), of these those with the least number of line 0, and so on -/
def EndF (n : Nat) (ws ss : Nat → Nat) (W s : Nat) (g : Int) : Nat → (Nat → Int) → Int → Prop
  | 0, X, τ => SolW n ws ss W X τ ∧ ∀ Y υ, SolW n ws ss W Y υ → g * osum n s X * υ ≤ g * osum n s Y * τ
  | i + 1, X, τ => EndF n ws ss W s g i X τ ∧ ∀ Y υ, EndF n ws ss W s g i Y υ → X i * υ ≤ Y i * τ
theorem endF_sol {n : Nat} {ws ss : Nat → Nat} {W s : Nat} {g : Int} : ∀ {i : Nat} {X : Nat → Int} {τ : Int}, EndF n ws ss W s g i X τ → SolW n ws ss W X τ
  | 0, _, _, h => h.1
  | _ + 1, _, _, h => endF_sol h.1
section OPT
variable {n m : Nat} {A : Nat → Nat → Int} {b : Nat → Int}
theorem cst_line (n m : Nat) (lc : Nat → Int) : cst n m lc 0 = cLine n lc := by
  funext j
  unfold cst cLine
  by_cases q : j < n
  · rw [if_pos q, if_pos q]
  · rw [if_neg q, if_neg q]
    by_cases q2 : j < n + m
    · rw [if_pos q2]
    · rw [if_neg q2]
/-- slack rows that say nothing stay so -/
theorem dr_bstp {v : Nat → Vc} {c : Nat → Int} {bar : Nat → Prop} {S S' : Sx} {e r : Nat} (hI : DrI n m S m) (h : BStp n m v c bar S S' e r) : DrI n m S' m := by
  obtain ⟨hS, hS', ⟨he, -, -, -⟩, ⟨hr, hp, -⟩, e1, e2, e3, e4⟩ := h
  have d0 := hS.2.1
  have hrl : S.1 r < n := by
    rcases hI.2 r hr with q | q
    · exact q
    · have := q e he; omega
  have zz : ∀ s, s < m → s ≠ r → ∀ j, S.2.2 s e = 0 → S.2.2 s j = 0 → S'.2.2 s j = 0 := fun s hs hne j q1 q2 => by
    have := e4 s hs hne j
    rw [q1, q2, Int.zero_mul, Int.zero_mul] at this
    rcases Int.mul_eq_zero.mp this with z | z
    · omega
    · exact z
  refine ⟨fun s hs q => ?_, fun s hs => ?_⟩
  · rw [e1] at q
    by_cases w : s = r
    · rw [w, cu_same] at q; omega
    · rw [cu_ne _ w] at q
      have z1 : S.2.2 s e = 0 := by
        rcases hI.2 s hs with y | y
        · omega
        · exact y e he
      exact zz s hs w _ z1 (hI.1 s hs q)
  · by_cases w : s = r
    · rw [e1, w, cu_same]; exact Or.inl he
    · rw [e1, cu_ne _ w]
      rcases hI.2 s hs with y | y
      · exact Or.inl y
      · exact Or.inr (fun j hj => zz s hs w j (y e he) (y j hj))
theorem bar_bstp {v : Nat → Vc} {c : Nat → Int} {bar : Nat → Prop} {S S' : Sx} {e r : Nat} (hb : ∀ j, bar j → ¬ Inb m S j) (h : BStp n m v c bar S S' e r) : ∀ j, bar j → ¬ Inb m S' j := fun j hj hq => by
  have := stp_up h (hb j hj) hq
  subst this
  exact h.2.2.1.2.1 hj
/-- a line that a row is over: its column has a positive number -/
theorem col_pos {S : Sx} (hA : ∀ t j, t < m → j < n → 0 ≤ A t j ∧ A t j ≤ 1) (hS : Std n m (vrow n m A b) S) {e t : Nat} (he : e < n) (ht : t < m) (h1 : A t e = 1) : ∃ s, s < m ∧ 0 < S.2.2 s e := by
  have h := tab_row hS.1 ht e
  rw [vrow_line he, h1, Int.mul_one] at h
  have hp : 0 < sg (fun s => vrow n m A b t (S.1 s) * S.2.2 s e) m := by rw [← h]; exact hS.2.1
  obtain ⟨s, hs, q⟩ := sg_pos hp
  refine ⟨s, hs, ?_⟩
  have v0 : 0 ≤ vrow n m A b t (S.1 s) := by
    rcases hS.2.2.2 s hs with z | z
    · rw [vrow_line z]; exact (hA t _ ht z).1
    · rw [z, vrow_slack hs]
      by_cases w : s = t
      · rw [if_pos w]; omega
      · rw [if_neg w]; omega
  by_cases w : 0 < S.2.2 s e
  · exact w
  · have := Int.mul_nonpos_of_nonneg_of_nonpos v0 (show S.2.2 s e ≤ 0 by omega)
    omega
/-- a line that no row is over: its column is 0 -/
theorem col_zero {S : Sx} (hS : Std n m (vrow n m A b) S) {e : Nat} (he : e < n) (h0 : ∀ t, t < m → A t e = 0) {s : Nat} (hs : s < m) : S.2.2 s e = 0 := by
  rw [sp_rows (tab_sp hS.1 hs) e]
  exact sg_zero (fun t ht => by rw [vrow_line he, h0 t ht, Int.mul_zero])
theorem hU_gen {S : Sx} {lc : Nat → Int} (hA : ∀ t j, t < m → j < n → 0 ≤ A t j ∧ A t j ≤ 1) (hS : Std n m (vrow n m A b) S) (hl : ∀ j, j < n → lc j < 0 → ∃ t, t < m ∧ A t j = 1) {e : Nat} (he : e < n) (hh : Hlp m S.1 S.2.1 S.2.2 (cst n m lc 0) e) : ∃ s, s < m ∧ 0 < S.2.2 s e := by
  by_cases q : ∃ t, t < m ∧ A t e = 1
  · obtain ⟨t, ht, h1⟩ := q
    exact col_pos hA hS he ht h1
  · exfalso
    have h0 : ∀ t, t < m → A t e = 0 := fun t ht => by
      have := hA t e ht he
      have : A t e ≠ 1 := fun z => q ⟨t, ht, z⟩
      omega
    rw [hlp_cst lc 0 he] at hh
    have hk : Kc m S.1 S.2.2 (cst n m lc 0) e = 0 := sg_zero (fun s hs => by rw [col_zero hS he h0 hs, Int.mul_zero])
    rw [hk] at hh
    have hneg : lc e < 0 := by
      by_cases z : lc e < 0
      · exact z
      · have := Int.mul_nonneg (Int.le_of_lt hS.2.1) (show 0 ≤ lc e by omega); omega
    exact q (hl e he hneg)
def lsum (n : Nat) (lc X : Nat → Int) : Int := sg (fun j => lc j * X j) n
/-- the best of the solutions whose barred lines are 0 are those that are 0 where a line costs -/
theorem opt_face {S : Sx} {lc : Nat → Int} {br : Nat} (hS : Std n m (vrow n m A b) S) (hI : DrI n m S m) (hbn : ∀ j, j < n → br.testBit j = true → ¬ Inb m S j) (hno : ∀ j, j < n → br.testBit j = false → ¬ Hlp m S.1 S.2.1 S.2.2 (cst n m lc 0) j) {Y : Nat → Int} {υ : Int} (hY : Sol n m A b Y υ) (hYb : ∀ j, j < n → br.testBit j = true → Y j = 0) :
    (∀ Z ζ, Sol n m A b Z ζ → (∀ j, j < n → br.testBit j = true → Z j = 0) → lsum n lc Y * ζ ≤ lsum n lc Z * υ) ↔ ∀ j, j < n → Kc m S.1 S.2.2 (cst n m lc 0) j < S.2.1 * lc j → Y j = 0 := by
  have d0 := hS.2.1
  have cs : ∀ X τ, Sol n m A b X τ → S.2.1 * lsum n lc X = sg (fun j => (S.2.1 * lc j - Kc m S.1 S.2.2 (cst n m lc 0) j) * X j) n + τ * Zc n m (cLine n lc) S := fun X τ h => by
    have := cost_sol hS lc h.2.2
    rw [cst_line]; exact this
  have nn : ∀ X τ, Sol n m A b X τ → (∀ j, j < n → br.testBit j = true → X j = 0) → ∀ j, j < n → 0 ≤ (S.2.1 * lc j - Kc m S.1 S.2.2 (cst n m lc 0) j) * X j := fun X τ h hb j hj => by
    by_cases q : br.testBit j = true
    · rw [hb j hj q, Int.mul_zero]; exact Int.le_refl 0
    · have := hno j hj (Bool.eq_false_iff.mpr q)
      rw [hlp_cst lc 0 hj] at this
      exact Int.mul_nonneg (by omega) (h.2.1 j hj)
  have vb : ∀ j, j < n → br.testBit j = true → Xl n m S j = 0 := fun j hj q => xl_out hS (by omega) (hbn j hj q)
  have vs := xl_sol hS hI.1
  have v0 : sg (fun j => (S.2.1 * lc j - Kc m S.1 S.2.2 (cst n m lc 0) j) * Xl n m S j) n = 0 := sg_zero (fun j hj => by
    by_cases q : Inb m S j
    · have := kc_inb (c := cst n m lc 0) hS q
      rw [show cst n m lc 0 j = lc j from if_pos hj] at this
      rw [this, Int.zero_mul]
    · rw [xl_out hS (by omega) q, Int.mul_zero])
  have vz : S.2.1 * lsum n lc (Xl n m S) = S.2.1 * Zc n m (cLine n lc) S := by rw [cs _ _ vs, v0, Int.zero_add]
  have vz2 : lsum n lc (Xl n m S) = Zc n m (cLine n lc) S := by
    have : lsum n lc (Xl n m S) * S.2.1 = Zc n m (cLine n lc) S * S.2.1 := by rw [Int.mul_comm, vz, Int.mul_comm]
    exact Int.eq_of_mul_eq_mul_right (by omega) this
  constructor
  · intro h j hj hlt
    have h1 := h _ _ vs vb
    rw [vz2] at h1
    have h2 := cs Y υ hY
    have h3 : sg (fun j => (S.2.1 * lc j - Kc m S.1 S.2.2 (cst n m lc 0) j) * Y j) n ≤ 0 := by
      rw [Int.mul_comm (lsum n lc Y), Int.mul_comm (Zc n m (cLine n lc) S)] at h1
      omega
    have h4 := sg_nonneg_zero (nn Y υ hY hYb) h3 j hj
    rcases Int.mul_eq_zero.mp h4 with z | z
    · omega
    · exact z
  · intro h Z ζ hZ hZb
    have h1 := cs Y υ hY
    have h2 : sg (fun j => (S.2.1 * lc j - Kc m S.1 S.2.2 (cst n m lc 0) j) * Y j) n = 0 := sg_zero (fun j hj => by
      by_cases q : br.testBit j = true
      · rw [hYb j hj q, Int.mul_zero]
      · have := hno j hj (Bool.eq_false_iff.mpr q)
        rw [hlp_cst lc 0 hj] at this
        by_cases z : Kc m S.1 S.2.2 (cst n m lc 0) j < S.2.1 * lc j
        · rw [h j hj z, Int.mul_zero]
        · rw [show S.2.1 * lc j - Kc m S.1 S.2.2 (cst n m lc 0) j = 0 by omega, Int.zero_mul])
    have h3 := cs Z ζ hZ
    have h4 := sg_nonneg (nn Z ζ hZ hZb)
    rw [h2, Int.zero_add] at h1
    have k1 : S.2.1 * lsum n lc Y * ζ = υ * Zc n m (cLine n lc) S * ζ := by rw [h1]
    have k2 : ζ * Zc n m (cLine n lc) S * υ ≤ S.2.1 * lsum n lc Z * υ := Int.mul_le_mul_of_nonneg_right (by omega) (Int.le_of_lt hY.1)
    have k3 : υ * Zc n m (cLine n lc) S * ζ = ζ * Zc n m (cLine n lc) S * υ := by rw [Int.mul_assoc, Int.mul_comm υ, Int.mul_comm (Zc n m (cLine n lc) S) ζ]
    have k4 : S.2.1 * (lsum n lc Y * ζ) ≤ S.2.1 * (lsum n lc Z * υ) := by rw [← Int.mul_assoc, ← Int.mul_assoc]; omega
    exact Int.le_of_mul_le_mul_left k4 d0
end OPT
