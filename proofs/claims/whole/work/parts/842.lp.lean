/-! ===== the simplex method: n lines (columns 0 .. n-1), m rows with a slack each (columns n .. n+m-1), the sums in column n+m ===== -/
/-- unit columns -/
def ue (c : Nat) : Nat → Int := fun j => if j = c then 1 else 0
theorem dt_add (N : Nat) (v X Y : Nat → Int) : dt N v (fun j => X j + Y j) = dt N v X + dt N v Y := by
  unfold dt; rw [← sg_add]; exact sg_congr (fun j _ => by rw [Int.mul_add])
theorem dt_sub (N : Nat) (v X Y : Nat → Int) : dt N v (fun j => X j - Y j) = dt N v X - dt N v Y := by
  unfold dt; rw [← sg_sub]; exact sg_congr (fun j _ => by rw [Int.mul_sub])
theorem dt_mul (N : Nat) (v X : Nat → Int) (a : Int) : dt N v (fun j => a * X j) = a * dt N v X := by
  unfold dt; rw [← sg_mul]; exact sg_congr (fun j _ => by rw [Int.mul_left_comm])
theorem dt_ue (N : Nat) (v : Nat → Int) {c : Nat} (h : c < N) : dt N v (ue c) = v c := by
  unfold dt
  rw [sg_one h (fun k _ hne => by simp [ue, hne])]
  simp [ue]
theorem dt_sg (N m : Nat) (v : Nat → Int) (f : Nat → Nat → Int) : dt N v (fun j => sg (fun t => f t j) m) = sg (fun t => dt N v (f t)) m := by
  unfold dt
  rw [← sg_swap]
  exact sg_congr (fun j _ => by rw [sg_mul])
/-- the corner of a base: each base column its number, the last column minus the scale -/
def Xb (m L : Nat) (C : Nat → Nat) (d : Int) (T : Nat → Nat → Int) : Nat → Int := fun j => sg (fun t => T t L * ue (C t) j) m - d * ue L j
/-- the way from it, when column c comes in -/
def Xd (m : Nat) (C : Nat → Nat) (d : Int) (T : Nat → Nat → Int) (c : Nat) : Nat → Int := fun j => d * ue c j - sg (fun t => T t c * ue (C t) j) m
section LP
variable {m L : Nat} {v : Nat → Vc} {C : Nat → Nat} {d : Int} {T : Nat → Nat → Int}
theorem dt_Xb (a : Nat → Int) (hC : ∀ s, s < m → C s < L) : dt (L + 1) a (Xb m L C d T) = sg (fun t => T t L * a (C t)) m - d * a L := by
  unfold Xb
  rw [dt_sub, dt_sg, dt_mul, dt_ue _ _ (Nat.lt_succ_self L)]
  congr 1
  exact sg_congr (fun t ht => by rw [dt_mul, dt_ue _ _ (by have := hC t ht; omega)])
theorem dt_Xd (a : Nat → Int) (hC : ∀ s, s < m → C s < L) {c : Nat} (hc : c < L) : dt (L + 1) a (Xd m C d T c) = d * a c - sg (fun t => T t c * a (C t)) m := by
  unfold Xd
  rw [dt_sub, dt_sg, dt_mul, dt_ue _ _ (by omega)]
  congr 1
  exact sg_congr (fun t ht => by rw [dt_mul, dt_ue _ _ (by have := hC t ht; omega)])
theorem sol_Xb (h : Tab m v C d T) (hC : ∀ s, s < m → C s < L) : ∀ t, t < m → dt (L + 1) (v t) (Xb m L C d T) = 0 := by
  rw [tab_sol h]
  intro s hs
  rw [dt_Xb _ hC, sg_one hs (fun t ht hne => by rw [tab_at h hs ht, if_neg hne, Int.mul_zero]), tab_at h hs hs, if_pos rfl, Int.mul_comm]
  omega
theorem sol_Xd (h : Tab m v C d T) (hC : ∀ s, s < m → C s < L) {c : Nat} (hc : c < L) : ∀ t, t < m → dt (L + 1) (v t) (Xd m C d T c) = 0 := by
  rw [tab_sol h]
  intro s hs
  rw [dt_Xd _ hC hc, sg_one hs (fun t ht hne => by rw [tab_at h hs ht, if_neg hne, Int.mul_zero]), tab_at h hs hs, if_pos rfl, Int.mul_comm]
  omega
/-- the cost of a column by the base -/
def Kc (m : Nat) (C : Nat → Nat) (T : Nat → Nat → Int) (c : Nat → Int) (j : Nat) : Int := sg (fun s => c (C s) * T s j) m
theorem kc_base (h : Tab m v C d T) (c : Nat → Int) {s : Nat} (hs : s < m) : Kc m C T c (C s) = d * c (C s) := by
  unfold Kc
  rw [sg_one hs (fun t ht hne => by rw [tab_at h ht hs, if_neg (fun e => hne e.symm), Int.mul_zero]), tab_at h hs hs, if_pos rfl, Int.mul_comm]
/-- what a solution costs, by the table's reduced costs (c is 0 at the last column) -/
theorem cost_id (h : Tab m v C d T) (c : Nat → Int) (X : Nat → Int) (hX : ∀ t, t < m → dt (L + 1) (v t) X = 0) : d * dt (L + 1) c X = sg (fun j => (d * c j - Kc m C T c j) * X j) (L + 1) := by
  have h0 := (tab_sol h (L + 1) X).mp hX
  have e1 : sg (fun j => Kc m C T c j * X j) (L + 1) = 0 := by
    unfold Kc
    rw [sg_congr (g := fun j => sg (fun s => c (C s) * (T s j * X j)) m) (fun j _ => by rw [← sg_mulr]; exact sg_congr (fun s _ => by rw [Int.mul_assoc])), sg_swap]
    refine sg_zero (fun s hs => ?_)
    rw [sg_mul]
    have : sg (fun j => T s j * X j) (L + 1) = 0 := h0 s hs
    rw [this, Int.mul_zero]
  have e2 : sg (fun j => (d * c j - Kc m C T c j) * X j) (L + 1) = sg (fun j => d * (c j * X j)) (L + 1) - sg (fun j => Kc m C T c j * X j) (L + 1) := by
    rw [← sg_sub]; exact sg_congr (fun j _ => by rw [Int.sub_mul, Int.mul_assoc])
  rw [e2, e1, sg_mul]
  unfold dt
  omega
end LP
/-! a step: which line comes in, which row gives way -/
def Hlp (m : Nat) (C : Nat → Nat) (d : Int) (T : Nat → Nat → Int) (c : Nat → Int) (j : Nat) : Prop := d * c j < Kc m C T c j
/-- state: base, scale, table -/
abbrev Sx : Type := (Nat → Nat) × Int × (Nat → Nat → Int)
/-- a state that stands: n lines, m rows, the last column L = n + m -/
def Std (n m : Nat) (v : Nat → Vc) (S : Sx) : Prop := Tab m v S.1 S.2.1 S.2.2 ∧ 0 < S.2.1 ∧ (∀ s, s < m → 0 ≤ S.2.2 s (n + m)) ∧ ∀ s, s < m → S.1 s < n ∨ S.1 s = n + s
def Stp (n m : Nat) (v : Nat → Vc) (c : Nat → Int) (bar : Nat → Prop) (S S' : Sx) (e r : Nat) : Prop :=
  Std n m v S ∧ Std n m v S' ∧
  (e < n ∧ ¬ bar e ∧ Hlp m S.1 S.2.1 S.2.2 c e ∧ ∀ j, j < e → ¬ bar j → ¬ Hlp m S.1 S.2.1 S.2.2 c j) ∧
  (r < m ∧ 0 < S.2.2 r e ∧ ∀ s, s < m → 0 < S.2.2 s e → S.2.2 r (n + m) * S.2.2 s e ≤ S.2.2 s (n + m) * S.2.2 r e ∧ (S.2.2 r (n + m) * S.2.2 s e = S.2.2 s (n + m) * S.2.2 r e → S.1 s < n → S.1 r < n → S.1 r ≤ S.1 s)) ∧
  S'.1 = cu S.1 r e ∧ S'.2.1 = S.2.2 r e ∧ (∀ j, S'.2.2 r j = S.2.2 r j) ∧ ∀ i, i < m → i ≠ r → ∀ j, S.2.1 * S'.2.2 i j = S.2.2 i j * S.2.2 r e - S.2.2 i e * S.2.2 r j
section BL
variable {n m : Nat} {v : Nat → Vc} {c : Nat → Int} {bar : Nat → Prop}
theorem std_lt {S : Sx} (h : Std n m v S) : ∀ s, s < m → S.1 s < n + m := fun s hs => by rcases h.2.2.2 s hs with q | q <;> omega
/-- the cost number of a corner -/
def Zc (n m : Nat) (c : Nat → Int) (S : Sx) : Int := Kc m S.1 S.2.2 c (n + m)
theorem dt_c_Xb {S : Sx} (h : Std n m v S) (hc : c (n + m) = 0) : dt (n + m + 1) c (Xb m (n + m) S.1 S.2.1 S.2.2) = Zc n m c S := by
  rw [dt_Xb _ (std_lt h), hc, Int.mul_zero, Int.sub_zero]
  unfold Zc Kc
  exact sg_congr (fun s _ => Int.mul_comm _ _)
/-- costs fall, unless the row that gives way is 0 -/
theorem stp_cost {S S' : Sx} {e r : Nat} (h : Stp n m v c bar S S' e r) (hc : c (n + m) = 0) : S.2.1 * Zc n m c S' = Zc n m c S * S'.2.1 + (S.2.1 * c e - Kc m S.1 S.2.2 c e) * S.2.2 r (n + m) := by
  obtain ⟨hS, hS', ⟨he, -, -, -⟩, ⟨hr, -, -⟩, e1, e2, e3, e4⟩ := h
  have h1 := cost_id (L := n + m) hS.1 c _ (sol_Xb hS'.1 (std_lt hS'))
  rw [dt_c_Xb hS' hc] at h1
  rw [h1]
  have h2 := dt_Xb (d := S'.2.1) (T := S'.2.2) (fun j => S.2.1 * c j - Kc m S.1 S.2.2 c j) (std_lt hS')
  have h3 : dt (n + m + 1) (fun j => S.2.1 * c j - Kc m S.1 S.2.2 c j) (Xb m (n + m) S'.1 S'.2.1 S'.2.2) = sg (fun j => (S.2.1 * c j - Kc m S.1 S.2.2 c j) * Xb m (n + m) S'.1 S'.2.1 S'.2.2 j) (n + m + 1) := rfl
  rw [← h3, h2, sg_one hr (fun t ht hne => by
    rw [e1, cu_ne _ hne, kc_base hS.1 c ht, Int.sub_self, Int.mul_zero])]
  rw [e1, cu_same, e3, hc, Int.mul_zero, Int.zero_sub]
  show _ - S'.2.1 * -(Zc n m c S) = _
  rw [Int.mul_neg, Int.mul_comm (S.2.2 r (n + m)), Int.mul_comm S'.2.1]
  omega
/-- in the base -/
def Inb (m : Nat) (S : Sx) (j : Nat) : Prop := ∃ s, s < m ∧ S.1 s = j
theorem kc_inb {S : Sx} (h : Std n m v S) {j : Nat} (hj : Inb m S j) : S.2.1 * c j - Kc m S.1 S.2.2 c j = 0 := by
  obtain ⟨s, hs, rfl⟩ := hj
  rw [kc_base h.1 c hs, Int.sub_self]
/-- the corner is told by the base -/
theorem corner_eq {S S' : Sx} (h : Std n m v S) (h' : Std n m v S') (hb : ∀ j, Inb m S j → Inb m S' j) {s' : Nat} (hs' : s' < m) : S.2.1 * S'.2.2 s' (n + m) = S'.2.1 * Xb m (n + m) S.1 S.2.1 S.2.2 (S'.1 s') := by
  have h0 := (tab_sol h'.1 (n + m + 1) _).mp (sol_Xb h.1 (std_lt h)) s' hs'
  rw [dt_Xb _ (std_lt h)] at h0
  have e : sg (fun t => S.2.2 t (n + m) * S'.2.2 s' (S.1 t)) m = S'.2.1 * sg (fun t => S.2.2 t (n + m) * ue (S.1 t) (S'.1 s')) m := by
    rw [← sg_mul]
    refine sg_congr (fun t ht => ?_)
    obtain ⟨u, hu, hue⟩ := hb (S.1 t) ⟨t, ht, rfl⟩
    rw [← hue, tab_at h'.1 hs' hu]
    unfold ue
    by_cases q : u = s'
    · subst q; simp [Int.mul_comm]
    · rw [if_neg q, if_neg (fun z => q (tab_inj h'.1 hs' hu z).symm)]; simp
  rw [e] at h0
  unfold Xb
  have hL : ue (n + m) (S'.1 s') = 0 := if_neg (by have := std_lt h' s' hs'; omega)
  rw [hL, Int.mul_zero, Int.sub_zero]
  omega
theorem cost_eq {S S' : Sx} (h : Std n m v S) (h' : Std n m v S') (hb : ∀ j, Inb m S j ↔ Inb m S' j) (hc : c (n + m) = 0) : S.2.1 * Zc n m c S' = S'.2.1 * Zc n m c S := by
  have h1 := cost_id (L := n + m) h.1 c _ (sol_Xb h'.1 (std_lt h'))
  rw [dt_c_Xb h' hc] at h1
  have h3 : dt (n + m + 1) (fun j => S.2.1 * c j - Kc m S.1 S.2.2 c j) (Xb m (n + m) S'.1 S'.2.1 S'.2.2) = sg (fun j => (S.2.1 * c j - Kc m S.1 S.2.2 c j) * Xb m (n + m) S'.1 S'.2.1 S'.2.2 j) (n + m + 1) := rfl
  rw [h1, ← h3, dt_Xb _ (std_lt h'), sg_zero (fun t ht => by rw [kc_inb h ((hb _).mpr ⟨t, ht, rfl⟩), Int.mul_zero]), hc, Int.mul_zero, Int.zero_sub, Int.zero_sub, Int.mul_neg, Int.neg_neg]
  rfl
/-- the steps of a walk, from a to b: all of them -/
def Wlk (n m : Nat) (v : Nat → Vc) (c : Nat → Int) (bar : Nat → Prop) (S : Nat → Sx) (e r : Nat → Nat) (N : Nat) : Prop := ∀ i, i < N → Stp n m v c bar (S i) (S (i + 1)) (e i) (r i)
section WK
variable {S : Nat → Sx} {e r : Nat → Nat} {N : Nat}
theorem wlk_std (h : Wlk n m v c bar S e r N) {i : Nat} (hi : i ≤ N) (hN : 0 < N) : Std n m v (S i) := by
  by_cases q : i < N
  · exact (h i q).1
  · have : i = (N - 1) + 1 := by omega
    rw [this]
    exact (h (N - 1) (by omega)).2.1
theorem stp_up {S S' : Sx} {e r : Nat} (h : Stp n m v c bar S S' e r) {j : Nat} (h0 : ¬ Inb m S j) (h1 : Inb m S' j) : j = e := by
  obtain ⟨s, hs, hj⟩ := h1
  rw [h.2.2.2.2.1] at hj
  by_cases q : s = r
  · subst q; rw [cu_same] at hj; exact hj.symm
  · rw [cu_ne _ q] at hj
    exact absurd ⟨s, hs, hj⟩ h0
theorem stp_dn {S S' : Sx} {e r : Nat} (h : Stp n m v c bar S S' e r) {j : Nat} (h0 : Inb m S j) (h1 : ¬ Inb m S' j) : S.1 r = j := by
  obtain ⟨s, hs, hj⟩ := h0
  by_cases q : s = r
  · subst q; exact hj
  · exact absurd ⟨s, hs, by rw [h.2.2.2.2.1, cu_ne _ q]; exact hj⟩ h1
theorem stp_in {S S' : Sx} {e r : Nat} (h : Stp n m v c bar S S' e r) : Inb m S' e := ⟨r, h.2.2.2.1.1, by rw [h.2.2.2.2.1, cu_same]⟩
theorem stp_out {S S' : Sx} {e r : Nat} (h : Stp n m v c bar S S' e r) : ¬ Inb m S e := by
  intro hq
  have h1 := kc_inb (c := c) h.1 hq
  have h2 : S.2.1 * c e < Kc m S.1 S.2.2 c e := h.2.2.1.2.2.1
  omega
/-- a slack never comes back -/
theorem wlk_slack (h : Wlk n m v c bar S e r N) {j : Nat} (hj : n ≤ j) : ∀ (k i : Nat), i + k ≤ N → ¬ Inb m (S i) j → ¬ Inb m (S (i + k)) j
  | 0, _, _, h0 => h0
  | k + 1, i, hk, h0 => fun h1 => by
    have h2 := wlk_slack h hj k i (by omega) h0
    have h3 := stp_up (h (i + k) (by omega)) h2 h1
    have := (h (i + k) (by omega)).2.2.1.1
    omega
theorem zc_trans {a b c' x y z : Int} (hb : 0 < b) (h1 : y * a ≤ x * b) (h2 : z * b ≤ y * c') (ha : 0 < a) (hc : 0 < c') : z * a ≤ x * c' := by
  have e1 : z * b * a ≤ y * c' * a := Int.mul_le_mul_of_nonneg_right h2 (Int.le_of_lt ha)
  have e2 : y * a * c' ≤ x * b * c' := Int.mul_le_mul_of_nonneg_right h1 (Int.le_of_lt hc)
  have e3 : z * a * b ≤ x * c' * b := by
    calc z * a * b = z * b * a := by rw [Int.mul_assoc, Int.mul_comm a b, ← Int.mul_assoc]
      _ ≤ y * c' * a := e1
      _ = y * a * c' := by rw [Int.mul_assoc, Int.mul_comm c' a, ← Int.mul_assoc]
      _ ≤ x * b * c' := e2
      _ = x * c' * b := by rw [Int.mul_assoc, Int.mul_comm b c', ← Int.mul_assoc]
  exact Int.le_of_mul_le_mul_right e3 hb
theorem stp_fall {S S' : Sx} {e r : Nat} (h : Stp n m v c bar S S' e r) (hc : c (n + m) = 0) : Zc n m c S' * S.2.1 ≤ Zc n m c S * S'.2.1 ∧ (S.2.2 r (n + m) ≠ 0 → Zc n m c S' * S.2.1 < Zc n m c S * S'.2.1) := by
  have h1 := stp_cost h hc
  have h2 : S.2.1 * c e < Kc m S.1 S.2.2 c e := h.2.2.1.2.2.1
  have h3 := h.1.2.2.1 r h.2.2.2.1.1
  have h4 : (S.2.1 * c e - Kc m S.1 S.2.2 c e) * S.2.2 r (n + m) ≤ 0 := Int.mul_nonpos_of_nonpos_of_nonneg (by omega) h3
  rw [Int.mul_comm] at h1
  refine ⟨by omega, fun hne => ?_⟩
  have h5 : (S.2.1 * c e - Kc m S.1 S.2.2 c e) * S.2.2 r (n + m) < 0 := Int.mul_neg_of_neg_of_pos (by omega) (by omega)
  omega
theorem wlk_fall (h : Wlk n m v c bar S e r N) (hc : c (n + m) = 0) : ∀ (k i : Nat), i + k ≤ N → 0 < N → Zc n m c (S (i + k)) * (S i).2.1 ≤ Zc n m c (S i) * (S (i + k)).2.1
  | 0, _, _, _ => Int.le_refl _
  | k + 1, i, hk, hN => by
    have h1 := wlk_fall h hc k i (by omega) hN
    have h2 := (stp_fall (h (i + k) (by omega)) hc).1
    exact zc_trans (wlk_std h (by omega) hN).2.1 h1 h2 (wlk_std h (by omega) hN).2.1 (wlk_std h (i := i + k + 1) (by omega) hN).2.1
end WK
end BL
