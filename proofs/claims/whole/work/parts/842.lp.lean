/-! ===== the simplex method: n lines (columns 0 .. n-1), m rows with a slack each (columns n .. n+m-1), the sums in column n+m ===== -/
/-- unit columns -/
def ue (c : Nat) : Nat → Int := fun j => if j = c then 1 else 0
theorem dt_add (N : Nat) (v X Y : Nat → Int) : dt N v (fun j => X j + Y j) = dt N v X + dt N v Y := by
  unfold dt; rw [← sg_add]; exact sg_congr (fun j _ => by rw [Int.mul_add])
theorem dt_sub (N : Nat) (v X Y : Nat → Int) : dt N v (fun j => X j - Y j) = dt N v X - dt N v Y := by
  unfold dt; rw [← sg_sub]; exact sg_congr (fun j _ => by rw [Int.mul_sub])
theorem dt_mul (N : Nat) (v X : Nat → Int) (a : Int) : dt N v (fun j => a * X j) = a * dt N v X := by
  unfold dt; rw [← sg_mul]; exact sg_congr (fun j _ => by rw [Int.mul_left_comm])
theorem dt_ue (N : Nat) (v : Nat → Int) {c : Nat} (h : c < N) : dt N v (ue c) = v c := by
  unfold dt
  rw [sg_one h (fun k _ hne => by simp [ue, hne])]
  simp [ue]
theorem dt_sg (N m : Nat) (v : Nat → Int) (f : Nat → Nat → Int) : dt N v (fun j => sg (fun t => f t j) m) = sg (fun t => dt N v (f t)) m := by
  unfold dt
  rw [← sg_swap]
  exact sg_congr (fun j _ => by rw [sg_mul])
/-- the corner of a base: each base column its number, the last column minus the scale -/
def Xb (m L : Nat) (C : Nat → Nat) (d : Int) (T : Nat → Nat → Int) : Nat → Int := fun j => sg (fun t => T t L * ue (C t) j) m - d * ue L j
/-- the way from it, when column c comes in -/
def Xd (m : Nat) (C : Nat → Nat) (d : Int) (T : Nat → Nat → Int) (c : Nat) : Nat → Int := fun j => d * ue c j - sg (fun t => T t c * ue (C t) j) m
section LP
variable {m L : Nat} {v : Nat → Vc} {C : Nat → Nat} {d : Int} {T : Nat → Nat → Int}
theorem dt_Xb (a : Nat → Int) (hC : ∀ s, s < m → C s < L) : dt (L + 1) a (Xb m L C d T) = sg (fun t => T t L * a (C t)) m - d * a L := by
  unfold Xb
  rw [dt_sub, dt_sg, dt_mul, dt_ue _ _ (Nat.lt_succ_self L)]
  congr 1
  exact sg_congr (fun t ht => by rw [dt_mul, dt_ue _ _ (by have := hC t ht; omega)])
theorem dt_Xd (a : Nat → Int) (hC : ∀ s, s < m → C s < L) {c : Nat} (hc : c < L) : dt (L + 1) a (Xd m C d T c) = d * a c - sg (fun t => T t c * a (C t)) m := by
  unfold Xd
  rw [dt_sub, dt_sg, dt_mul, dt_ue _ _ (by omega)]
  congr 1
  exact sg_congr (fun t ht => by rw [dt_mul, dt_ue _ _ (by have := hC t ht; omega)])
theorem sol_Xb (h : Tab m v C d T) (hC : ∀ s, s < m → C s < L) : ∀ t, t < m → dt (L + 1) (v t) (Xb m L C d T) = 0 := by
  rw [tab_sol h]
  intro s hs
  rw [dt_Xb _ hC, sg_one hs (fun t ht hne => by rw [tab_at h hs ht, if_neg hne, Int.mul_zero]), tab_at h hs hs, if_pos rfl, Int.mul_comm]
  omega
theorem sol_Xd (h : Tab m v C d T) (hC : ∀ s, s < m → C s < L) {c : Nat} (hc : c < L) : ∀ t, t < m → dt (L + 1) (v t) (Xd m C d T c) = 0 := by
  rw [tab_sol h]
  intro s hs
  rw [dt_Xd _ hC hc, sg_one hs (fun t ht hne => by rw [tab_at h hs ht, if_neg hne, Int.mul_zero]), tab_at h hs hs, if_pos rfl, Int.mul_comm]
  omega
/-- the cost of a column by the base -/
def Kc (m : Nat) (C : Nat → Nat) (T : Nat → Nat → Int) (c : Nat → Int) (j : Nat) : Int := sg (fun s => c (C s) * T s j) m
theorem kc_base (h : Tab m v C d T) (c : Nat → Int) {s : Nat} (hs : s < m) : Kc m C T c (C s) = d * c (C s) := by
  unfold Kc
  rw [sg_one hs (fun t ht hne => by rw [tab_at h ht hs, if_neg (fun e => hne e.symm), Int.mul_zero]), tab_at h hs hs, if_pos rfl, Int.mul_comm]
/-- what a solution costs, by the table's reduced costs (c is 0 at the last column) -/
theorem cost_id (h : Tab m v C d T) (c : Nat → Int) (X : Nat → Int) (hX : ∀ t, t < m → dt (L + 1) (v t) X = 0) : d * dt (L + 1) c X = sg (fun j => (d * c j - Kc m C T c j) * X j) (L + 1) := by
  have h0 := (tab_sol h (L + 1) X).mp hX
  have e1 : sg (fun j => Kc m C T c j * X j) (L + 1) = 0 := by
    unfold Kc
    rw [sg_congr (g := fun j => sg (fun s => c (C s) * (T s j * X j)) m) (fun j _ => by rw [← sg_mulr]; exact sg_congr (fun s _ => by rw [Int.mul_assoc])), sg_swap]
    refine sg_zero (fun s hs => ?_)
    rw [sg_mul]
    have : sg (fun j => T s j * X j) (L + 1) = 0 := h0 s hs
    rw [this, Int.mul_zero]
  have e2 : sg (fun j => (d * c j - Kc m C T c j) * X j) (L + 1) = sg (fun j => d * (c j * X j)) (L + 1) - sg (fun j => Kc m C T c j * X j) (L + 1) := by
    rw [← sg_sub]; exact sg_congr (fun j _ => by rw [Int.sub_mul, Int.mul_assoc])
  rw [e2, e1, sg_mul]
  unfold dt
  omega
end LP
/-! a step: which line comes in, which row gives way -/
def Hlp (m : Nat) (C : Nat → Nat) (d : Int) (T : Nat → Nat → Int) (c : Nat → Int) (j : Nat) : Prop := d * c j < Kc m C T c j
/-- state: base, scale, table -/
abbrev Sx : Type := (Nat → Nat) × Int × (Nat → Nat → Int)
/-- a state that stands: n lines, m rows, the last column L = n + m -/
def Std (n m : Nat) (v : Nat → Vc) (S : Sx) : Prop := Tab m v S.1 S.2.1 S.2.2 ∧ 0 < S.2.1 ∧ (∀ s, s < m → 0 ≤ S.2.2 s (n + m)) ∧ ∀ s, s < m → S.1 s < n ∨ S.1 s = n + s
def Stp (n m : Nat) (v : Nat → Vc) (c : Nat → Int) (bar : Nat → Prop) (S S' : Sx) (e r : Nat) : Prop :=
  Std n m v S ∧ Std n m v S' ∧
  (e < n ∧ ¬ bar e ∧ Hlp m S.1 S.2.1 S.2.2 c e ∧ ∀ j, j < e → ¬ bar j → ¬ Hlp m S.1 S.2.1 S.2.2 c j) ∧
  (r < m ∧ 0 < S.2.2 r e ∧ ∀ s, s < m → 0 < S.2.2 s e → S.2.2 r (n + m) * S.2.2 s e ≤ S.2.2 s (n + m) * S.2.2 r e ∧ (S.2.2 r (n + m) * S.2.2 s e = S.2.2 s (n + m) * S.2.2 r e → S.1 s < n → S.1 r < n → S.1 r ≤ S.1 s)) ∧
  S'.1 = cu S.1 r e ∧ S'.2.1 = S.2.2 r e ∧ (∀ j, S'.2.2 r j = S.2.2 r j) ∧ ∀ i, i < m → i ≠ r → ∀ j, S.2.1 * S'.2.2 i j = S.2.2 i j * S.2.2 r e - S.2.2 i e * S.2.2 r j
section BL
variable {n m : Nat} {v : Nat → Vc} {c : Nat → Int} {bar : Nat → Prop}
theorem std_lt {S : Sx} (h : Std n m v S) : ∀ s, s < m → S.1 s < n + m := fun s hs => by rcases h.2.2.2 s hs with q | q <;> omega
/-- the cost number of a corner -/
def Zc (n m : Nat) (c : Nat → Int) (S : Sx) : Int := Kc m S.1 S.2.2 c (n + m)
theorem dt_c_Xb {S : Sx} (h : Std n m v S) (hc : c (n + m) = 0) : dt (n + m + 1) c (Xb m (n + m) S.1 S.2.1 S.2.2) = Zc n m c S := by
  rw [dt_Xb _ (std_lt h), hc, Int.mul_zero, Int.sub_zero]
  unfold Zc Kc
  exact sg_congr (fun s _ => Int.mul_comm _ _)
/-- costs fall, unless the row that gives way is 0 -/
theorem stp_cost {S S' : Sx} {e r : Nat} (h : Stp n m v c bar S S' e r) (hc : c (n + m) = 0) : S.2.1 * Zc n m c S' = Zc n m c S * S'.2.1 + (S.2.1 * c e - Kc m S.1 S.2.2 c e) * S.2.2 r (n + m) := by
  obtain ⟨hS, hS', ⟨he, -, -, -⟩, ⟨hr, -, -⟩, e1, e2, e3, e4⟩ := h
  have h1 := cost_id (L := n + m) hS.1 c _ (sol_Xb hS'.1 (std_lt hS'))
  rw [dt_c_Xb hS' hc] at h1
  rw [h1]
  have h2 := dt_Xb (d := S'.2.1) (T := S'.2.2) (fun j => S.2.1 * c j - Kc m S.1 S.2.2 c j) (std_lt hS')
  have h3 : dt (n + m + 1) (fun j => S.2.1 * c j - Kc m S.1 S.2.2 c j) (Xb m (n + m) S'.1 S'.2.1 S'.2.2) = sg (fun j => (S.2.1 * c j - Kc m S.1 S.2.2 c j) * Xb m (n + m) S'.1 S'.2.1 S'.2.2 j) (n + m + 1) := rfl
  rw [← h3, h2, sg_one hr (fun t ht hne => by
    rw [e1, cu_ne _ hne, kc_base hS.1 c ht, Int.sub_self, Int.mul_zero])]
  rw [e1, cu_same, e3, hc, Int.mul_zero, Int.zero_sub]
  show _ - S'.2.1 * -(Zc n m c S) = _
  rw [Int.mul_neg, Int.mul_comm (S.2.2 r (n + m)), Int.mul_comm S'.2.1]
  omega
end BL
