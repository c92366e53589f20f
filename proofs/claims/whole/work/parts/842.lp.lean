/-! ===== the simplex method: n lines (columns 0 .. n-1), m rows with a slack each (columns n .. n+m-1), the sums in column n+m ===== -/
/-- unit columns -/
def ue (c : Nat) : Nat → Int := fun j => if j = c then 1 else 0
theorem dt_add (N : Nat) (v X Y : Nat → Int) : dt N v (fun j => X j + Y j) = dt N v X + dt N v Y := by
  unfold dt; rw [← sg_add]; exact sg_congr (fun j _ => by rw [Int.mul_add])
theorem dt_sub (N : Nat) (v X Y : Nat → Int) : dt N v (fun j => X j - Y j) = dt N v X - dt N v Y := by
  unfold dt; rw [← sg_sub]; exact sg_congr (fun j _ => by rw [Int.mul_sub])
theorem dt_mul (N : Nat) (v X : Nat → Int) (a : Int) : dt N v (fun j => a * X j) = a * dt N v X := by
  unfold dt; rw [← sg_mul]; exact sg_congr (fun j _ => by rw [Int.mul_left_comm])
theorem dt_ue (N : Nat) (v : Nat → Int) {c : Nat} (h : c < N) : dt N v (ue c) = v c := by
  unfold dt
  rw [sg_one h (fun k _ hne => by simp [ue, hne])]
  simp [ue]
theorem dt_sg (N m : Nat) (v : Nat → Int) (f : Nat → Nat → Int) : dt N v (fun j => sg (fun t => f t j) m) = sg (fun t => dt N v (f t)) m := by
  unfold dt
  rw [← sg_swap]
  exact sg_congr (fun j _ => by rw [sg_mul])
/-- the corner of a base: each base column its number, the last column minus the scale -/
def Xb (m L : Nat) (C : Nat → Nat) (d : Int) (T : Nat → Nat → Int) : Nat → Int := fun j => sg (fun t => T t L * ue (C t) j) m - d * ue L j
/-- the way from it, when column c comes in -/
def Xd (m : Nat) (C : Nat → Nat) (d : Int) (T : Nat → Nat → Int) (c : Nat) : Nat → Int := fun j => d * ue c j - sg (fun t => T t c * ue (C t) j) m
section LP
variable {m L : Nat} {v : Nat → Vc} {C : Nat → Nat} {d : Int} {T : Nat → Nat → Int}
theorem dt_Xb (a : Nat → Int) (hC : ∀ s, s < m → C s < L) : dt (L + 1) a (Xb m L C d T) = sg (fun t => T t L * a (C t)) m - d * a L := by
  unfold Xb
  rw [dt_sub, dt_sg, dt_mul, dt_ue _ _ (Nat.lt_succ_self L)]
  congr 1
  exact sg_congr (fun t ht => by rw [dt_mul, dt_ue _ _ (by have := hC t ht; omega)])
theorem dt_Xd (a : Nat → Int) (hC : ∀ s, s < m → C s < L) {c : Nat} (hc : c < L) : dt (L + 1) a (Xd m C d T c) = d * a c - sg (fun t => T t c * a (C t)) m := by
  unfold Xd
  rw [dt_sub, dt_sg, dt_mul, dt_ue _ _ (by omega)]
  congr 1
  exact sg_congr (fun t ht => by rw [dt_mul, dt_ue _ _ (by have := hC t ht; omega)])
theorem sol_Xb (h : Tab m v C d T) (hC : ∀ s, s < m → C s < L) : ∀ t, t < m → dt (L + 1) (v t) (Xb m L C d T) = 0 := by
  rw [tab_sol h]
  intro s hs
  rw [dt_Xb _ hC, sg_one hs (fun t ht hne => by rw [tab_at h hs ht, if_neg hne, Int.mul_zero]), tab_at h hs hs, if_pos rfl, Int.mul_comm]
  omega
theorem sol_Xd (h : Tab m v C d T) (hC : ∀ s, s < m → C s < L) {c : Nat} (hc : c < L) : ∀ t, t < m → dt (L + 1) (v t) (Xd m C d T c) = 0 := by
  rw [tab_sol h]
  intro s hs
  rw [dt_Xd _ hC hc, sg_one hs (fun t ht hne => by rw [tab_at h hs ht, if_neg hne, Int.mul_zero]), tab_at h hs hs, if_pos rfl, Int.mul_comm]
  omega
/-- the cost of a column by the base -/
def Kc (m : Nat) (C : Nat → Nat) (T : Nat → Nat → Int) (c : Nat → Int) (j : Nat) : Int := sg (fun s => c (C s) * T s j) m
theorem kc_base (h : Tab m v C d T) (c : Nat → Int) {s : Nat} (hs : s < m) : Kc m C T c (C s) = d * c (C s) := by
  unfold Kc
  rw [sg_one hs (fun t ht hne => by rw [tab_at h ht hs, if_neg (fun e => hne e.symm), Int.mul_zero]), tab_at h hs hs, if_pos rfl, Int.mul_comm]
/-- what a solution costs, by the table's reduced costs (c is 0 at the last column) -/
theorem cost_id (h : Tab m v C d T) (c : Nat → Int) (X : Nat → Int) (hX : ∀ t, t < m → dt (L + 1) (v t) X = 0) : d * dt (L + 1) c X = sg (fun j => (d * c j - Kc m C T c j) * X j) (L + 1) := by
  have h0 := (tab_sol h (L + 1) X).mp hX
  have e1 : sg (fun j => Kc m C T c j * X j) (L + 1) = 0 := by
    unfold Kc
    rw [sg_congr (g := fun j => sg (fun s => c (C s) * (T s j * X j)) m) (fun j _ => by rw [← sg_mulr]; exact sg_congr (fun s _ => by rw [Int.mul_assoc])), sg_swap]
    refine sg_zero (fun s hs => ?_)
    rw [sg_mul]
    have : sg (fun j => T s j * X j) (L + 1) = 0 := h0 s hs
    rw [this, Int.mul_zero]
  have e2 : sg (fun j => (d * c j - Kc m C T c j) * X j) (L + 1) = sg (fun j => d * (c j * X j)) (L + 1) - sg (fun j => Kc m C T c j * X j) (L + 1) := by
    rw [← sg_sub]; exact sg_congr (fun j _ => by rw [Int.sub_mul, Int.mul_assoc])
  rw [e2, e1, sg_mul]
  unfold dt
  omega
end LP
/-! a step: which line comes in, which row gives way -/
def Hlp (m : Nat) (C : Nat → Nat) (d : Int) (T : Nat → Nat → Int) (c : Nat → Int) (j : Nat) : Prop := d * c j < Kc m C T c j
/-- state: base, scale, table -/
abbrev Sx : Type := (Nat → Nat) × Int × (Nat → Nat → Int)
/-- a state that stands: n lines, m rows, the last column L = n + m -/
def Std (n m : Nat) (v : Nat → Vc) (S : Sx) : Prop := Tab m v S.1 S.2.1 S.2.2 ∧ 0 < S.2.1 ∧ (∀ s, s < m → 0 ≤ S.2.2 s (n + m)) ∧ ∀ s, s < m → S.1 s < n ∨ S.1 s = n + s
def BStp (n m : Nat) (v : Nat → Vc) (c : Nat → Int) (bar : Nat → Prop) (S S' : Sx) (e r : Nat) : Prop :=
  Std n m v S ∧ Std n m v S' ∧
  (e < n ∧ ¬ bar e ∧ Hlp m S.1 S.2.1 S.2.2 c e ∧ ∀ j, j < e → ¬ bar j → ¬ Hlp m S.1 S.2.1 S.2.2 c j) ∧
  (r < m ∧ 0 < S.2.2 r e ∧ ∀ s, s < m → 0 < S.2.2 s e → S.2.2 r (n + m) * S.2.2 s e ≤ S.2.2 s (n + m) * S.2.2 r e ∧ (S.2.2 r (n + m) * S.2.2 s e = S.2.2 s (n + m) * S.2.2 r e → S.1 s < n → S.1 r < n → S.1 r ≤ S.1 s)) ∧
  S'.1 = cu S.1 r e ∧ S'.2.1 = S.2.2 r e ∧ (∀ j, S'.2.2 r j = S.2.2 r j) ∧ ∀ i, i < m → i ≠ r → ∀ j, S.2.1 * S'.2.2 i j = S.2.2 i j * S.2.2 r e - S.2.2 i e * S.2.2 r j
section BL
variable {n m : Nat} {v : Nat → Vc} {c : Nat → Int} {bar : Nat → Prop}
theorem std_lt {S : Sx} (h : Std n m v S) : ∀ s, s < m → S.1 s < n + m := fun s hs => by rcases h.2.2.2 s hs with q | q <;> omega
/-- the cost number of a corner -/
def Zc (n m : Nat) (c : Nat → Int) (S : Sx) : Int := Kc m S.1 S.2.2 c (n + m)
theorem dt_c_Xb {S : Sx} (h : Std n m v S) (hc : c (n + m) = 0) : dt (n + m + 1) c (Xb m (n + m) S.1 S.2.1 S.2.2) = Zc n m c S := by
  rw [dt_Xb _ (std_lt h), hc, Int.mul_zero, Int.sub_zero]
  unfold Zc Kc
  exact sg_congr (fun s _ => Int.mul_comm _ _)
/-- costs fall, unless the row that gives way is 0 -/
theorem stp_cost {S S' : Sx} {e r : Nat} (h : BStp n m v c bar S S' e r) (hc : c (n + m) = 0) : S.2.1 * Zc n m c S' = Zc n m c S * S'.2.1 + (S.2.1 * c e - Kc m S.1 S.2.2 c e) * S.2.2 r (n + m) := by
  obtain ⟨hS, hS', ⟨he, -, -, -⟩, ⟨hr, -, -⟩, e1, e2, e3, e4⟩ := h
  have h1 := cost_id (L := n + m) hS.1 c _ (sol_Xb hS'.1 (std_lt hS'))
  rw [dt_c_Xb hS' hc] at h1
  rw [h1]
  have h2 := dt_Xb (d := S'.2.1) (T := S'.2.2) (fun j => S.2.1 * c j - Kc m S.1 S.2.2 c j) (std_lt hS')
  have h3 : dt (n + m + 1) (fun j => S.2.1 * c j - Kc m S.1 S.2.2 c j) (Xb m (n + m) S'.1 S'.2.1 S'.2.2) = sg (fun j => (S.2.1 * c j - Kc m S.1 S.2.2 c j) * Xb m (n + m) S'.1 S'.2.1 S'.2.2 j) (n + m + 1) := rfl
  rw [← h3, h2, sg_one hr (fun t ht hne => by
    rw [e1, cu_ne _ hne, kc_base hS.1 c ht, Int.sub_self, Int.mul_zero])]
  rw [e1, cu_same, e3, hc, Int.mul_zero, Int.zero_sub]
  show _ - S'.2.1 * -(Zc n m c S) = _
  rw [Int.mul_neg, Int.mul_comm (S.2.2 r (n + m)), Int.mul_comm S'.2.1]
  omega
/-- in the base -/
def Inb (m : Nat) (S : Sx) (j : Nat) : Prop := ∃ s, s < m ∧ S.1 s = j
theorem kc_inb {S : Sx} (h : Std n m v S) {j : Nat} (hj : Inb m S j) : S.2.1 * c j - Kc m S.1 S.2.2 c j = 0 := by
  obtain ⟨s, hs, rfl⟩ := hj
  rw [kc_base h.1 c hs, Int.sub_self]
/-- the corner is told by the base -/
theorem corner_eq {S S' : Sx} (h : Std n m v S) (h' : Std n m v S') (hb : ∀ j, Inb m S j → Inb m S' j) {s' : Nat} (hs' : s' < m) : S.2.1 * S'.2.2 s' (n + m) = S'.2.1 * Xb m (n + m) S.1 S.2.1 S.2.2 (S'.1 s') := by
  have h0 := (tab_sol h'.1 (n + m + 1) _).mp (sol_Xb h.1 (std_lt h)) s' hs'
  rw [dt_Xb _ (std_lt h)] at h0
  have e : sg (fun t => S.2.2 t (n + m) * S'.2.2 s' (S.1 t)) m = S'.2.1 * sg (fun t => S.2.2 t (n + m) * ue (S.1 t) (S'.1 s')) m := by
    rw [← sg_mul]
    refine sg_congr (fun t ht => ?_)
    obtain ⟨u, hu, hue⟩ := hb (S.1 t) ⟨t, ht, rfl⟩
    rw [← hue, tab_at h'.1 hs' hu]
    unfold ue
    by_cases q : u = s'
    · subst q; simp [Int.mul_comm]
    · rw [if_neg q, if_neg (fun z => q (tab_inj h'.1 hs' hu z).symm)]; simp
  rw [e] at h0
  unfold Xb
  have hL : ue (n + m) (S'.1 s') = 0 := if_neg (by have := std_lt h' s' hs'; omega)
  rw [hL, Int.mul_zero, Int.sub_zero]
  omega
theorem cost_eq {S S' : Sx} (h : Std n m v S) (h' : Std n m v S') (hb : ∀ j, Inb m S j ↔ Inb m S' j) (hc : c (n + m) = 0) : S.2.1 * Zc n m c S' = S'.2.1 * Zc n m c S := by
  have h1 := cost_id (L := n + m) h.1 c _ (sol_Xb h'.1 (std_lt h'))
  rw [dt_c_Xb h' hc] at h1
  have h3 : dt (n + m + 1) (fun j => S.2.1 * c j - Kc m S.1 S.2.2 c j) (Xb m (n + m) S'.1 S'.2.1 S'.2.2) = sg (fun j => (S.2.1 * c j - Kc m S.1 S.2.2 c j) * Xb m (n + m) S'.1 S'.2.1 S'.2.2 j) (n + m + 1) := rfl
  rw [h1, ← h3, dt_Xb _ (std_lt h'), sg_zero (fun t ht => by rw [kc_inb h ((hb _).mpr ⟨t, ht, rfl⟩), Int.mul_zero]), hc, Int.mul_zero, Int.zero_sub, Int.zero_sub, Int.mul_neg, Int.neg_neg]
  rfl
/-- the steps of a walk, from a to b: all of them -/
def Wlk (n m : Nat) (v : Nat → Vc) (c : Nat → Int) (bar : Nat → Prop) (S : Nat → Sx) (e r : Nat → Nat) (N : Nat) : Prop := ∀ i, i < N → BStp n m v c bar (S i) (S (i + 1)) (e i) (r i)
section WK
variable {S : Nat → Sx} {e r : Nat → Nat} {N : Nat}
theorem wlk_std (h : Wlk n m v c bar S e r N) {i : Nat} (hi : i ≤ N) (hN : 0 < N) : Std n m v (S i) := by
  by_cases q : i < N
  · exact (h i q).1
  · have : i = (N - 1) + 1 := by omega
    rw [this]
    exact (h (N - 1) (by omega)).2.1
theorem stp_up {S S' : Sx} {e r : Nat} (h : BStp n m v c bar S S' e r) {j : Nat} (h0 : ¬ Inb m S j) (h1 : Inb m S' j) : j = e := by
  obtain ⟨s, hs, hj⟩ := h1
  rw [h.2.2.2.2.1] at hj
  by_cases q : s = r
  · subst q; rw [cu_same] at hj; exact hj.symm
  · rw [cu_ne _ q] at hj
    exact absurd ⟨s, hs, hj⟩ h0
theorem stp_dn {S S' : Sx} {e r : Nat} (h : BStp n m v c bar S S' e r) {j : Nat} (h0 : Inb m S j) (h1 : ¬ Inb m S' j) : S.1 r = j := by
  obtain ⟨s, hs, hj⟩ := h0
  by_cases q : s = r
  · subst q; exact hj
  · exact absurd ⟨s, hs, by rw [h.2.2.2.2.1, cu_ne _ q]; exact hj⟩ h1
theorem stp_in {S S' : Sx} {e r : Nat} (h : BStp n m v c bar S S' e r) : Inb m S' e := ⟨r, h.2.2.2.1.1, by rw [h.2.2.2.2.1, cu_same]⟩
theorem stp_out {S S' : Sx} {e r : Nat} (h : BStp n m v c bar S S' e r) : ¬ Inb m S e := by
  intro hq
  have h1 := kc_inb (c := c) h.1 hq
  have h2 : S.2.1 * c e < Kc m S.1 S.2.2 c e := h.2.2.1.2.2.1
  omega
/-- a slack never comes back -/
theorem wlk_slack (h : Wlk n m v c bar S e r N) {j : Nat} (hj : n ≤ j) : ∀ (k i : Nat), i + k ≤ N → ¬ Inb m (S i) j → ¬ Inb m (S (i + k)) j
  | 0, _, _, h0 => h0
  | k + 1, i, hk, h0 => fun h1 => by
    have h2 := wlk_slack h hj k i (by omega) h0
    have h3 := stp_up (h (i + k) (by omega)) h2 h1
    have := (h (i + k) (by omega)).2.2.1.1
    omega
theorem zc_trans {a b c' x y z : Int} (hb : 0 < b) (h1 : y * a ≤ x * b) (h2 : z * b ≤ y * c') (ha : 0 < a) (hc : 0 < c') : z * a ≤ x * c' := by
  have e1 : z * b * a ≤ y * c' * a := Int.mul_le_mul_of_nonneg_right h2 (Int.le_of_lt ha)
  have e2 : y * a * c' ≤ x * b * c' := Int.mul_le_mul_of_nonneg_right h1 (Int.le_of_lt hc)
  have e3 : z * a * b ≤ x * c' * b := by
    calc z * a * b = z * b * a := by rw [Int.mul_assoc, Int.mul_comm a b, ← Int.mul_assoc]
      _ ≤ y * c' * a := e1
      _ = y * a * c' := by rw [Int.mul_assoc, Int.mul_comm c' a, ← Int.mul_assoc]
      _ ≤ x * b * c' := e2
      _ = x * c' * b := by rw [Int.mul_assoc, Int.mul_comm b c', ← Int.mul_assoc]
  exact Int.le_of_mul_le_mul_right e3 hb
theorem stp_fall {S S' : Sx} {e r : Nat} (h : BStp n m v c bar S S' e r) (hc : c (n + m) = 0) : Zc n m c S' * S.2.1 ≤ Zc n m c S * S'.2.1 ∧ (S.2.2 r (n + m) ≠ 0 → Zc n m c S' * S.2.1 < Zc n m c S * S'.2.1) := by
  have h1 := stp_cost h hc
  have h2 : S.2.1 * c e < Kc m S.1 S.2.2 c e := h.2.2.1.2.2.1
  have h3 := h.1.2.2.1 r h.2.2.2.1.1
  have h4 : (S.2.1 * c e - Kc m S.1 S.2.2 c e) * S.2.2 r (n + m) ≤ 0 := Int.mul_nonpos_of_nonpos_of_nonneg (by omega) h3
  rw [Int.mul_comm] at h1
  refine ⟨by omega, fun hne => ?_⟩
  have h5 : (S.2.1 * c e - Kc m S.1 S.2.2 c e) * S.2.2 r (n + m) < 0 := Int.mul_neg_of_neg_of_pos (by omega) (by omega)
  omega
theorem wlk_fall (h : Wlk n m v c bar S e r N) (hc : c (n + m) = 0) : ∀ (k i : Nat), i + k ≤ N → 0 < N → Zc n m c (S (i + k)) * (S i).2.1 ≤ Zc n m c (S i) * (S (i + k)).2.1
  | 0, _, _, _ => Int.le_refl _
  | k + 1, i, hk, hN => by
    have h1 := wlk_fall h hc k i (by omega) hN
    have h2 := (stp_fall (h (i + k) (by omega)) hc).1
    exact zc_trans (wlk_std h (by omega) hN).2.1 h1 h2 (wlk_std h (by omega) hN).2.1 (wlk_std h (i := i + k + 1) (by omega) hN).2.1
/-- a walk that comes back to its base goes on zeros alone -/
theorem wlk_still (h : Wlk n m v c bar S e r N) (hc : c (n + m) = 0) {a b : Nat} (hab : a < b) (hb : b ≤ N) (he : ∀ j, Inb m (S a) j ↔ Inb m (S b) j) : ∀ i, a ≤ i → i < b → (S i).2.2 (r i) (n + m) = 0 := by
  intro i h1 h2
  have hN : 0 < N := by omega
  by_cases q : (S i).2.2 (r i) (n + m) = 0
  · exact q
  · have f1 := wlk_fall h hc (i - a) a (by omega) hN
    have f2 := (stp_fall (h i (by omega)) hc).2 q
    have f3 := wlk_fall h hc (b - (i + 1)) (i + 1) (by omega) hN
    rw [show a + (i - a) = i by omega] at f1
    rw [show i + 1 + (b - (i + 1)) = b by omega] at f3
    have pa := (wlk_std h (i := a) (by omega) hN).2.1
    have pi := (wlk_std h (i := i) (by omega) hN).2.1
    have pi1 := (wlk_std h (i := i + 1) (by omega) hN).2.1
    have pb := (wlk_std h (i := b) (by omega) hN).2.1
    have g1 := zc_trans pi1 (Int.le_refl _ : Zc n m c (S (i + 1)) * (S (i + 1)).2.1 ≤ _) f3 pi1 pb
    have e1 := cost_eq (c := c) (wlk_std h (i := a) (by omega) hN) (wlk_std h hb hN) he hc
    -- Zb * da = db * Za; Zi*da <= Za*di; Z(i+1)*di < Zi*d(i+1); Zb*d(i+1) <= Z(i+1)*db
    exfalso
    have k1 : Zc n m c (S b) * (S (i + 1)).2.1 * (S i).2.1 ≤ Zc n m c (S (i + 1)) * (S b).2.1 * (S i).2.1 := Int.mul_le_mul_of_nonneg_right f3 (Int.le_of_lt pi)
    have k2 : Zc n m c (S (i + 1)) * (S i).2.1 * (S b).2.1 < Zc n m c (S i) * (S (i + 1)).2.1 * (S b).2.1 := Int.mul_lt_mul_of_pos_right f2 pb
    have k3 : Zc n m c (S b) * (S i).2.1 < Zc n m c (S i) * (S b).2.1 := by
      have : Zc n m c (S b) * (S i).2.1 * (S (i + 1)).2.1 < Zc n m c (S i) * (S b).2.1 * (S (i + 1)).2.1 := by
        calc Zc n m c (S b) * (S i).2.1 * (S (i + 1)).2.1 = Zc n m c (S b) * (S (i + 1)).2.1 * (S i).2.1 := by rw [Int.mul_assoc, Int.mul_comm (S i).2.1, ← Int.mul_assoc]
          _ ≤ Zc n m c (S (i + 1)) * (S b).2.1 * (S i).2.1 := k1
          _ = Zc n m c (S (i + 1)) * (S i).2.1 * (S b).2.1 := by rw [Int.mul_assoc, Int.mul_comm (S b).2.1, ← Int.mul_assoc]
          _ < Zc n m c (S i) * (S (i + 1)).2.1 * (S b).2.1 := k2
          _ = Zc n m c (S i) * (S b).2.1 * (S (i + 1)).2.1 := by rw [Int.mul_assoc, Int.mul_comm (S (i + 1)).2.1, ← Int.mul_assoc]
      exact Int.lt_of_mul_lt_mul_right this (Int.le_of_lt pi1)
    have k4 : Zc n m c (S b) * (S i).2.1 * (S a).2.1 < Zc n m c (S i) * (S b).2.1 * (S a).2.1 := Int.mul_lt_mul_of_pos_right k3 pa
    have k5 : Zc n m c (S i) * (S a).2.1 * (S b).2.1 ≤ Zc n m c (S a) * (S i).2.1 * (S b).2.1 := Int.mul_le_mul_of_nonneg_right f1 (Int.le_of_lt pb)
    have k6 : Zc n m c (S b) * (S i).2.1 * (S a).2.1 = Zc n m c (S a) * (S i).2.1 * (S b).2.1 := by
      have : Zc n m c (S b) * (S a).2.1 = Zc n m c (S a) * (S b).2.1 := by rw [Int.mul_comm, e1, Int.mul_comm]
      calc Zc n m c (S b) * (S i).2.1 * (S a).2.1 = Zc n m c (S b) * (S a).2.1 * (S i).2.1 := by rw [Int.mul_assoc, Int.mul_comm (S i).2.1, ← Int.mul_assoc]
        _ = Zc n m c (S a) * (S b).2.1 * (S i).2.1 := by rw [this]
        _ = Zc n m c (S a) * (S i).2.1 * (S b).2.1 := by rw [Int.mul_assoc, Int.mul_comm (S b).2.1, ← Int.mul_assoc]
    have k7 : Zc n m c (S i) * (S b).2.1 * (S a).2.1 = Zc n m c (S i) * (S a).2.1 * (S b).2.1 := by rw [Int.mul_assoc, Int.mul_comm (S b).2.1, ← Int.mul_assoc]
    omega
/-- the number of a column of the base is 0 -/
def Vz (n m : Nat) (S : Sx) (j : Nat) : Prop := ∀ s, s < m → S.1 s = j → S.2.2 s (n + m) = 0
theorem stp_vz {S S' : Sx} {e r : Nat} (h : BStp n m v c bar S S' e r) (h0 : S.2.2 r (n + m) = 0) (j : Nat) : Vz n m S j ↔ Vz n m S' j := by
  obtain ⟨hS, hS', -, ⟨hr, hp, -⟩, e1, e2, e3, e4⟩ := h
  have key : ∀ s, s < m → s ≠ r → (S.2.2 s (n + m) = 0 ↔ S'.2.2 s (n + m) = 0) := fun s hs hne => by
    have := e4 s hs hne (n + m)
    rw [h0, Int.mul_zero, Int.sub_zero] at this
    constructor
    · intro q
      rw [q, Int.zero_mul] at this
      rcases Int.mul_eq_zero.mp this with z | z
      · have := hS.2.1; omega
      · exact z
    · intro q
      rw [q, Int.mul_zero] at this
      rcases Int.mul_eq_zero.mp this.symm with z | z
      · exact z
      · omega
  constructor
  · intro hv s hs hj
    by_cases q : s = r
    · subst q; rw [e3]; exact h0
    · rw [e1, cu_ne _ q] at hj
      exact (key s hs q).mp (hv s hs hj)
  · intro hv s hs hj
    by_cases q : s = r
    · subst q; exact h0
    · exact (key s hs q).mpr (hv s hs (by rw [e1, cu_ne _ q]; exact hj))
theorem wlk_vz (h : Wlk n m v c bar S e r N) {a b : Nat} (hb : b ≤ N) (hz : ∀ i, a ≤ i → i < b → (S i).2.2 (r i) (n + m) = 0) (j : Nat) : ∀ k i, a ≤ i → i + k ≤ b → (Vz n m (S i) j ↔ Vz n m (S (i + k)) j)
  | 0, _, _, _ => Iff.rfl
  | k + 1, i, h1, h2 => (wlk_vz h hb hz j k i h1 (by omega)).trans (stp_vz (h (i + k) (by omega)) (hz (i + k) (by omega) (by omega)) j)
theorem seq_up {f : Nat → Prop} : ∀ (k i : Nat), ¬ f i → f (i + k) → ∃ q, i ≤ q ∧ q < i + k ∧ ¬ f q ∧ f (q + 1)
  | 0, i, h0, h1 => absurd h1 h0
  | k + 1, i, h0, h1 => by
    by_cases q : f (i + k)
    · obtain ⟨x, a, b, c, d⟩ := seq_up k i h0 q
      exact ⟨x, a, by omega, c, d⟩
    · exact ⟨i + k, by omega, by omega, q, h1⟩
theorem seq_dn {f : Nat → Prop} (k i : Nat) (h0 : f i) (h1 : ¬ f (i + k)) : ∃ q, i ≤ q ∧ q < i + k ∧ f q ∧ ¬ f (q + 1) := by
  obtain ⟨q, a, b, c, d⟩ := seq_up (f := fun x => ¬ f x) k i (fun z => z h0) h1
  exact ⟨q, a, b, Classical.not_not.mp c, d⟩
/-- BLAND: no base comes back -/
theorem bland (h : Wlk n m v c bar S e r N) (hc : c (n + m) = 0) {a b : Nat} (hab : a < b) (hb : b ≤ N) : ¬ ∀ j, Inb m (S a) j ↔ Inb m (S b) j := by
  intro he
  have hN : 0 < N := by omega
  have hz := wlk_still h hc hab hb he
  -- lines whose state changes
  let F : Nat → Prop := fun j => j < n ∧ (∃ i, a ≤ i ∧ i ≤ b ∧ Inb m (S i) j) ∧ (∃ i, a ≤ i ∧ i ≤ b ∧ ¬ Inb m (S i) j)
  have hent : ∀ i, a ≤ i → i < b → F (e i) := fun i h1 h2 => ⟨(h i (by omega)).2.2.1.1, ⟨i + 1, by omega, by omega, stp_in (h i (by omega))⟩, ⟨i, h1, by omega, stp_out (h i (by omega))⟩⟩
  obtain ⟨t, hFt, hmax⟩ : ∃ t, F t ∧ ∀ j, F j → j ≤ t := by
    have : ∀ k, (∀ j, F j → j < k) → (∃ j, F j) → ∃ t, F t ∧ ∀ j, F j → j ≤ t := by
      intro k
      induction k with
      | zero => exact fun h1 ⟨j, hj⟩ => absurd (h1 j hj) (Nat.not_lt_zero j)
      | succ k ih =>
        intro h1 h2
        by_cases q : F k
        · exact ⟨k, q, fun j hj => by have := h1 j hj; omega⟩
        · refine ih (fun j hj => ?_) h2
          have := h1 j hj
          have : j ≠ k := fun e => q (e ▸ hj)
          omega
    exact this n (fun j hj => hj.1) ⟨e a, hent a (Nat.le_refl a) hab⟩
  obtain ⟨htn, ⟨i1, a1, a2, a3⟩, ⟨i2, b1, b2, b3⟩⟩ := hFt
  have up : ∃ p, a ≤ p ∧ p < b ∧ ¬ Inb m (S p) t ∧ Inb m (S (p + 1)) t := by
    by_cases q : Inb m (S a) t
    · have q2 := (he t).mp q
      obtain ⟨p, x1, x2, x3, x4⟩ := seq_up (f := fun i => Inb m (S i) t) (b - i2) i2 b3 (by rw [show i2 + (b - i2) = b by omega]; exact q2)
      exact ⟨p, by omega, by omega, x3, x4⟩
    · obtain ⟨p, x1, x2, x3, x4⟩ := seq_up (f := fun i => Inb m (S i) t) (i1 - a) a q (by rw [show a + (i1 - a) = i1 by omega]; exact a3)
      exact ⟨p, by omega, by omega, x3, x4⟩
  have dn : ∃ p, a ≤ p ∧ p < b ∧ Inb m (S p) t ∧ ¬ Inb m (S (p + 1)) t := by
    by_cases q : Inb m (S a) t
    · obtain ⟨p, x1, x2, x3, x4⟩ := seq_dn (f := fun i => Inb m (S i) t) (i2 - a) a q (by rw [show a + (i2 - a) = i2 by omega]; exact b3)
      exact ⟨p, by omega, by omega, x3, x4⟩
    · have q2 := fun z => q ((he t).mpr z)
      obtain ⟨p, x1, x2, x3, x4⟩ := seq_dn (f := fun i => Inb m (S i) t) (b - i1) i1 a3 (by rw [show i1 + (b - i1) = b by omega]; exact q2)
      exact ⟨p, by omega, by omega, x3, x4⟩
  obtain ⟨p, p1, p2, p3, p4⟩ := up
  obtain ⟨q, q1, q2, q3, q4⟩ := dn
  have hp := h p (by omega)
  have hq := h q (by omega)
  have ep : e p = t := (stp_up hp p3 p4).symm
  have eq : (S q).1 (r q) = t := stp_dn hq q3 q4
  have hs := hent q q1 q2
  have hst : e q < t := by
    have h1 := hmax _ hs
    have h2 : e q ≠ t := fun z => stp_out hq (z ▸ q3)
    omega
  have hSp := hp.1
  have hSq := hq.1
  -- the cost along the way out of S q, seen from S p
  have id1 := cost_id (L := n + m) hSp.1 c _ (sol_Xd (c := e q) hSq.1 (std_lt hSq) (by have := hq.2.2.1.1; omega))
  rw [dt_Xd _ (std_lt hSq) (by have := hq.2.2.1.1; omega)] at id1
  have id2 := dt_Xd (d := (S q).2.1) (T := (S q).2.2) (fun j => (S p).2.1 * c j - Kc m (S p).1 (S p).2.2 c j) (std_lt hSq) (c := e q) (by have := hq.2.2.1.1; omega)
  have id3 : dt (n + m + 1) (fun j => (S p).2.1 * c j - Kc m (S p).1 (S p).2.2 c j) (Xd m (S q).1 (S q).2.1 (S q).2.2 (e q)) = sg (fun j => ((S p).2.1 * c j - Kc m (S p).1 (S p).2.2 c j) * Xd m (S q).1 (S q).2.1 (S q).2.2 (e q) j) (n + m + 1) := rfl
  rw [← id3, id2] at id1
  have l1 : (S q).2.1 * c (e q) - sg (fun t => (S q).2.2 t (e q) * c ((S q).1 t)) m < 0 := by
    have h2 : (S q).2.1 * c (e q) < Kc m (S q).1 (S q).2.2 c (e q) := hq.2.2.1.2.2.1
    have h3 : Kc m (S q).1 (S q).2.2 c (e q) = sg (fun t => (S q).2.2 t (e q) * c ((S q).1 t)) m := sg_congr (fun s _ => Int.mul_comm _ _)
    omega
  have l2 : (S p).2.1 * ((S q).2.1 * c (e q) - sg (fun t => (S q).2.2 t (e q) * c ((S q).1 t)) m) < 0 := Int.mul_neg_of_pos_of_neg hSp.2.1 l1
  have l3 : 0 ≤ (S q).2.1 * ((S p).2.1 * c (e q) - Kc m (S p).1 (S p).2.2 c (e q)) := by
    refine Int.mul_nonneg (Int.le_of_lt hSq.2.1) ?_
    have h1 : ¬ Hlp m (S p).1 (S p).2.1 (S p).2.2 c (e q) := hp.2.2.1.2.2.2 (e q) (by rw [ep]; exact hst) hq.2.2.1.2.1
    have : ¬ (S p).2.1 * c (e q) < Kc m (S p).1 (S p).2.2 c (e q) := h1
    omega
  have l4 : sg (fun t => (S q).2.2 t (e q) * ((S p).2.1 * c ((S q).1 t) - Kc m (S p).1 (S p).2.2 c ((S q).1 t))) m ≤ 0 := by
    have := sg_le (f := fun t => (S q).2.2 t (e q) * ((S p).2.1 * c ((S q).1 t) - Kc m (S p).1 (S p).2.2 c ((S q).1 t))) (g := fun _ => 0) (n := m) ?_
    · rw [sg_zero (f := fun _ => 0) (fun _ _ => rfl)] at this; exact this
    intro s hs2
    show (S q).2.2 s (e q) * ((S p).2.1 * c ((S q).1 s) - Kc m (S p).1 (S p).2.2 c ((S q).1 s)) ≤ 0
    by_cases z1 : Inb m (S p) ((S q).1 s)
    · rw [kc_inb hSp z1, Int.mul_zero]; exact Int.le_refl 0
    have hqb : Inb m (S q) ((S q).1 s) := ⟨s, hs2, rfl⟩
    rcases hSq.2.2.2 s hs2 with z2 | z2
    · have hF : F ((S q).1 s) := ⟨z2, ⟨q, q1, by omega, hqb⟩, ⟨p, p1, by omega, z1⟩⟩
      have hle := hmax _ hF
      by_cases z3 : (S q).1 s = t
      · have : s = r q := tab_inj hSq.1 hs2 hq.2.2.2.1.1 (by rw [z3, eq])
        subst this
        rw [z3]
        have h5 := hq.2.2.2.1.2.1
        have h6 : (S p).2.1 * c (e p) < Kc m (S p).1 (S p).2.2 c (e p) := hp.2.2.1.2.2.1
        rw [ep] at h6
        exact Int.mul_nonpos_of_nonneg_of_nonpos (Int.le_of_lt h5) (by omega)
      · -- an earlier line
        have hnb : ¬ bar ((S q).1 s) := by
          -- it comes in at some step
          obtain ⟨i0, x1, x2, x3⟩ : ∃ i, a ≤ i ∧ i < b ∧ e i = (S q).1 s := by
            by_cases y : Inb m (S a) ((S q).1 s)
            · have y2 := (he _).mp y
              obtain ⟨k, k1, k2, k3, k4⟩ := seq_up (f := fun i => Inb m (S i) ((S q).1 s)) (b - p) p z1 (by rw [show p + (b - p) = b by omega]; exact y2)
              exact ⟨k, by omega, by omega, (stp_up (h k (by omega)) k3 k4).symm⟩
            · obtain ⟨k, k1, k2, k3, k4⟩ := seq_up (f := fun i => Inb m (S i) ((S q).1 s)) (q - a) a y (by rw [show a + (q - a) = q by omega]; exact hqb)
              exact ⟨k, by omega, by omega, (stp_up (h k (by omega)) k3 k4).symm⟩
          rw [← x3]
          exact (h i0 (by omega)).2.2.1.2.1
        have hnh : ¬ Hlp m (S p).1 (S p).2.1 (S p).2.2 c ((S q).1 s) := hp.2.2.1.2.2.2 _ (by rw [ep]; omega) hnb
        have hnh2 : ¬ (S p).2.1 * c ((S q).1 s) < Kc m (S p).1 (S p).2.2 c ((S q).1 s) := hnh
        have hneg : (S q).2.2 s (e q) ≤ 0 := by
          by_cases w : 0 < (S q).2.2 s (e q)
          · exfalso
            obtain ⟨w1, w2⟩ := hq.2.2.2.1.2.2 s hs2 w
            have v1 : Vz n m (S q) ((S q).1 s) := by
              have vp : Vz n m (S p) ((S q).1 s) := fun s' hs' hj => absurd ⟨s', hs', hj⟩ z1
              rcases Nat.le_total p q with y | y
              · have := (wlk_vz h hb hz ((S q).1 s) (q - p) p p1 (by omega)).mp vp
                rwa [show p + (q - p) = q by omega] at this
              · refine (wlk_vz h hb hz ((S q).1 s) (p - q) q q1 (by omega)).mpr ?_
                rw [show q + (p - q) = p by omega]; exact vp
            have v2 := v1 s hs2 rfl
            have v3 := hz q q1 q2
            have := w2 (by rw [v2, v3]; simp) z2 (by rw [eq]; exact htn)
            rw [eq] at this
            omega
          · omega
        exact Int.mul_nonpos_of_nonpos_of_nonneg hneg (by omega)
    · exfalso
      -- a slack
      have hge : n ≤ (S q).1 s := by omega
      rcases Nat.le_total p q with y | y
      · have := wlk_slack h hge (q - p) p (by omega) z1
        rw [show p + (q - p) = q by omega] at this
        exact this hqb
      · have y1 := wlk_slack h hge (b - p) p (by omega) z1
        rw [show p + (b - p) = b by omega] at y1
        have y2 : Inb m (S a) ((S q).1 s) := by
          by_cases w : Inb m (S a) ((S q).1 s)
          · exact w
          · have := wlk_slack h hge (q - a) a (by omega) w
            rw [show a + (q - a) = q by omega] at this
            exact absurd hqb this
        exact y1 ((he _).mp y2)
  omega
end WK
end BL
