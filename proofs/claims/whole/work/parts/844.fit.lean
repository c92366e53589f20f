/-! ===== rows with a slack each; solutions; what the ends of the walks say ===== -/
theorem sg_split (f : Nat → Int) (a : Nat) : ∀ b, sg f (a + b) = sg f a + sg (fun k => f (a + k)) b
  | 0 => (Int.add_zero _).symm
  | b + 1 => by
    show sg f (a + b) + f (a + b) = sg f a + (sg (fun k => f (a + k)) b + f (a + b))
    rw [sg_split f a b]; omega
/-- row t: n lines, m slacks, its sum in column n + m -/
def vrow (n m : Nat) (A : Nat → Nat → Int) (b : Nat → Int) (t : Nat) : Vc := fun j => if j < n then A t j else if j < n + m then (if j = n + t then 1 else 0) else if j = n + m then b t else 0
def c0 (n : Nat) : Nat → Nat := fun s => n + s
section FIT
variable {n m : Nat} {A : Nat → Nat → Int} {b : Nat → Int}
theorem vrow_line {t j : Nat} (h : j < n) : vrow n m A b t j = A t j := if_pos h
theorem vrow_slack {t s : Nat} (h : s < m) : vrow n m A b t (n + s) = if s = t then 1 else 0 := by
  unfold vrow
  rw [if_neg (by omega), if_pos (by omega)]
  by_cases e : s = t
  · subst e; simp
  · rw [if_neg (by omega), if_neg e]
theorem vrow_last (t : Nat) : vrow n m A b t (n + m) = b t := by
  unfold vrow
  rw [if_neg (by omega), if_neg (by omega), if_pos rfl]
theorem bs_c0 : ∀ k, k ≤ m → Bs k (c0 n) (rowsL (vrow n m A b) k) ∧ DC (c0 n) k (rowsL (vrow n m A b) k) = 1
  | 0, _ => ⟨bs_nil _, rfl⟩
  | k + 1, hk => by
    obtain ⟨B, hd⟩ := bs_c0 k (by omega)
    have e1 : Rd k (c0 n) (rowsL (vrow n m A b) k) (vrow n m A b k) (n + k) = 1 := by
      show vrow n m A b k (cu (c0 n) k (n + k) k) * DC (cu (c0 n) k (n + k)) k (rowsL (vrow n m A b) k) - alt (fun u r => u (cu (c0 n) k (n + k) k) * DC (cu (c0 n) k (n + k)) k (vrow n m A b k :: r)) (rowsL (vrow n m A b) k) = 1
      have e2 : cu (c0 n) k (n + k) = c0 n := cu_self (c0 n) k
      rw [e2, hd]
      have e3 : alt (fun u r => u (c0 n k) * DC (c0 n) k (vrow n m A b k :: r)) (rowsL (vrow n m A b) k) = 0 := by
        rw [← alt_zero (rowsL (vrow n m A b) k)]
        refine alt_congr _ _ _ fun u r hu _ _ => ?_
        obtain ⟨t, ht, rfl⟩ := (rowsL_mem _ _ _).mp hu
        show vrow n m A b t (n + k) * _ = 0
        rw [vrow_slack (by omega), if_neg (by omega), Int.zero_mul]
      rw [e3]
      show vrow n m A b k (n + k) * 1 - 0 = 1
      rw [vrow_slack (by omega), if_pos rfl]; rfl
    have B2 := bs_more B (vrow n m A b k) (n + k) (by rw [e1]; decide)
    have e2 : cu (c0 n) k (n + k) = c0 n := cu_self (c0 n) k
    rw [e2] at B2
    refine ⟨B2, ?_⟩
    have : DC (c0 n) (k + 1) (rowsL (vrow n m A b) (k + 1)) = Rd k (c0 n) (rowsL (vrow n m A b) k) (vrow n m A b k) (n + k) := by
      unfold Rd; rw [e2]; rfl
    rw [this, e1]
theorem bs_rows : Bs m (c0 n) (rowsL (vrow n m A b) m) := (bs_c0 m (Nat.le_refl m)).1
/-- what is put together of the rows is told by its slack columns -/
theorem sp_rows {y : Vc} (h : InSp (rowsL (vrow n m A b) m) y) (j : Nat) : y j = sg (fun t => y (n + t) * vrow n m A b t j) m := by
  have := bs_rows.2.2 (fun j => y j - sg (fun t => y (n + t) * vrow n m A b t j) m) (sp_sub h (sp_sg (fun t => y (n + t)) (vrow n m A b) (fun s hs => sp_mem ((rowsL_mem _ _ _).mpr ⟨s, hs, rfl⟩)))) (fun s hs => by
    show y (n + s) - sg (fun t => y (n + t) * vrow n m A b t (n + s)) m = 0
    rw [sg_one hs (fun t ht hne => by rw [vrow_slack hs, if_neg (fun e => hne e.symm), Int.mul_zero]), vrow_slack hs, if_pos rfl]; omega) j
  omega
theorem tab_start : Tab m (vrow n m A b) (c0 n) 1 (vrow n m A b) := by
  obtain ⟨B, hd⟩ := bs_c0 (n := n) (A := A) (b := b) m (Nat.le_refl m)
  refine ⟨B, 1, Or.inl rfl, by rw [hd]; rfl, fun s hs j => ?_⟩
  have := B.2.2 (fun j => vrow n m A b s j - DC (cu (c0 n) s j) m (rowsL (vrow n m A b) m)) (sp_sub (sp_mem ((rowsL_mem _ _ _).mpr ⟨s, hs, rfl⟩)) (dc_sp (c0 n) m s _ hs)) (fun t ht => by
    show vrow n m A b s (n + t) - DC (cu (c0 n) s (c0 n t)) m _ = 0
    rw [vrow_slack ht]
    by_cases e : t = s
    · subst e; rw [cu_self, hd, if_pos rfl]; rfl
    · rw [if_neg e, dc_at m (c0 n) _ B.1 hs ht e]; rfl) j
  omega
theorem std_start (hb : ∀ t, t < m → 0 ≤ b t) : Std n m (vrow n m A b) (c0 n, 1, vrow n m A b) :=
  ⟨tab_start, Int.one_pos, fun s hs => by show 0 ≤ vrow n m A b s (n + m); rw [vrow_last]; exact hb s hs, fun s _ => Or.inr rfl⟩
/-- delays X over t: all rows come to their sums -/
def Sol (n m : Nat) (A : Nat → Nat → Int) (b : Nat → Int) (X : Nat → Int) (τ : Int) : Prop := 0 < τ ∧ (∀ j, j < n → 0 ≤ X j) ∧ ∀ t, t < m → sg (fun j => A t j * X j) n = τ * b t
def emb (n m : Nat) (X : Nat → Int) (τ : Int) : Nat → Int := fun j => if j < n then X j else if j = n + m then -τ else 0
theorem dt_emb (a : Nat → Int) (X : Nat → Int) (τ : Int) : dt (n + m + 1) a (emb n m X τ) = sg (fun j => a j * X j) n - τ * a (n + m) := by
  unfold dt
  show sg (fun j => a j * emb n m X τ j) (n + m) + a (n + m) * emb n m X τ (n + m) = _
  rw [sg_split, sg_zero (f := fun k => a (n + k) * emb n m X τ (n + k)) (fun k hk => by unfold emb; rw [if_neg (by omega), if_neg (by omega), Int.mul_zero]), Int.add_zero]
  have e1 : emb n m X τ (n + m) = -τ := by unfold emb; rw [if_neg (by omega), if_pos rfl]
  rw [e1, sg_congr (g := fun j => a j * X j) (fun k hk => by unfold emb; rw [if_pos hk]), Int.mul_neg, Int.mul_comm τ]
  omega
theorem sol_emb {X : Nat → Int} {τ : Int} : (∀ t, t < m → sg (fun j => A t j * X j) n = τ * b t) ↔ ∀ t, t < m → dt (n + m + 1) (vrow n m A b t) (emb n m X τ) = 0 := by
  have e : ∀ t, dt (n + m + 1) (vrow n m A b t) (emb n m X τ) = sg (fun j => A t j * X j) n - τ * b t := fun t => by
    rw [dt_emb, vrow_last, sg_congr (g := fun j => A t j * X j) (fun k hk => by rw [vrow_line hk])]
  constructor
  · intro h t ht; rw [e, h t ht]; omega
  · intro h t ht; have := h t ht; rw [e] at this; omega
/-- costs: on lines alone (slack 0), or 1 on each slack -/
def cLine (n : Nat) (c : Nat → Int) : Nat → Int := fun j => if j < n then c j else 0
def cSlack (n m : Nat) : Nat → Int := fun j => if j < n then 0 else if j < n + m then 1 else 0
/-- the corner, of the lines -/
def Xl (n m : Nat) (S : Sx) : Nat → Int := Xb m (n + m) S.1 S.2.1 S.2.2
theorem xl_at {S : Sx} (h : Std n m (vrow n m A b) S) {j : Nat} (hj : j < n + m) : Xl n m S j = sg (fun t => if S.1 t = j then S.2.2 t (n + m) else 0) m := by
  unfold Xl Xb
  rw [show ue (n + m) j = 0 from if_neg (by omega), Int.mul_zero, Int.sub_zero]
  refine sg_congr (fun t ht => ?_)
  unfold ue
  by_cases e : j = S.1 t
  · rw [if_pos e, if_pos e.symm, Int.mul_one]
  · rw [if_neg e, if_neg (fun q => e q.symm), Int.mul_zero]
theorem xl_nonneg {S : Sx} (h : Std n m (vrow n m A b) S) {j : Nat} (hj : j < n + m) : 0 ≤ Xl n m S j := by
  rw [xl_at h hj]
  refine sg_nonneg (fun t ht => ?_)
  by_cases e : S.1 t = j
  · rw [if_pos e]; exact h.2.2.1 t ht
  · rw [if_neg e]; exact Int.le_refl 0
theorem xl_base {S : Sx} (h : Std n m (vrow n m A b) S) {s : Nat} (hs : s < m) : Xl n m S (S.1 s) = S.2.2 s (n + m) := by
  rw [xl_at h (std_lt h s hs), sg_one hs (fun t ht hne => if_neg (fun e => hne (tab_inj h.1 ht hs e))), if_pos rfl]
theorem xl_out {S : Sx} (h : Std n m (vrow n m A b) S) {j : Nat} (hj : j < n + m) (ho : ¬ Inb m S j) : Xl n m S j = 0 := by
  rw [xl_at h hj]
  exact sg_zero (fun t ht => if_neg (fun e => ho ⟨t, ht, e⟩))
/-- a corner whose slacks are 0 is a solution -/
theorem xl_sol {S : Sx} (h : Std n m (vrow n m A b) S) (h0 : ∀ s, s < m → n ≤ S.1 s → S.2.2 s (n + m) = 0) : Sol n m A b (Xl n m S) S.2.1 := by
  refine ⟨h.2.1, fun j hj => xl_nonneg h (by omega), ?_⟩
  rw [sol_emb]
  intro t ht
  have h1 := sol_Xb h.1 (std_lt h) t ht
  have e : ∀ j, j < n + m + 1 → emb n m (Xl n m S) S.2.1 j = Xb m (n + m) S.1 S.2.1 S.2.2 j := by
    intro j hj
    unfold emb
    by_cases h2 : j < n
    · rw [if_pos h2]; rfl
    · rw [if_neg h2]
      by_cases h3 : j = n + m
      · rw [if_pos h3]
        subst h3
        unfold Xb
        rw [sg_zero (fun t ht => by show S.2.2 t (n + m) * ue (S.1 t) (n + m) = 0; rw [show ue (S.1 t) (n + m) = 0 from if_neg (by have := std_lt h t ht; omega), Int.mul_zero]), show ue (n + m) (n + m) = 1 from if_pos rfl]; omega
      · rw [if_neg h3]
        have := xl_at h (show j < n + m by omega)
        unfold Xl at this
        rw [this, sg_zero (fun t ht => ?_)]
        by_cases e : S.1 t = j
        · rw [if_pos e]; exact h0 t ht (by omega)
        · rw [if_neg e]
  have e2 : dt (n + m + 1) (vrow n m A b t) (emb n m (Xl n m S) S.2.1) = dt (n + m + 1) (vrow n m A b t) (Xb m (n + m) S.1 S.2.1 S.2.2) := sg_congr (fun j hj => by rw [e j hj])
  rw [e2]; exact h1
/-- the costs of a column come from its slack columns' -/
theorem kc_sp {S : Sx} (h : Std n m (vrow n m A b) S) (c : Nat → Int) (j : Nat) : Kc m S.1 S.2.2 c j = sg (fun t => Kc m S.1 S.2.2 c (n + t) * vrow n m A b t j) m := by
  refine sp_rows (y := fun j => Kc m S.1 S.2.2 c j) ?_ j
  exact sp_sg (fun s => c (S.1 s)) S.2.2 (fun s hs => tab_sp h.1 hs)
/-- the end of the first walk: no line helps. The cost is the sum of the slacks. -/
theorem z_slack {S : Sx} (h : Std n m (vrow n m A b) S) : 0 ≤ Zc n m (cSlack n m) S ∧ (Zc n m (cSlack n m) S = 0 ↔ ∀ s, s < m → n ≤ S.1 s → S.2.2 s (n + m) = 0) := by
  have hc : ∀ s, s < m → cSlack n m (S.1 s) = if S.1 s < n then 0 else 1 := fun s hs => by
    unfold cSlack
    by_cases e : S.1 s < n
    · rw [if_pos e, if_pos e]
    · rw [if_neg e, if_neg e, if_pos (std_lt h s hs)]
  have hn : ∀ s, s < m → 0 ≤ cSlack n m (S.1 s) * S.2.2 s (n + m) := fun s hs => by
    rw [hc s hs]
    have := h.2.2.1 s hs
    by_cases e : S.1 s < n
    · rw [if_pos e]; omega
    · rw [if_neg e]; omega
  refine ⟨sg_nonneg hn, fun h0 s hs hs2 => ?_, fun h0 => sg_zero (fun s hs => ?_)⟩
  · have := sg_nonneg_zero hn (Int.le_of_eq h0) s hs
    rw [hc s hs, if_neg (by omega)] at this
    omega
  · rw [hc s hs]
    by_cases e : S.1 s < n
    · rw [if_pos e, Int.zero_mul]
    · rw [if_neg e, h0 s hs (by omega), Int.mul_zero]
/-- no line helps and the cost isn't 0: the rows whose slack column costs something have no solution by themselves -/
theorem no_sol {S : Sx} (h : Std n m (vrow n m A b) S) (hh : ∀ j, j < n → Kc m S.1 S.2.2 (cSlack n m) j ≤ 0) (hz : Zc n m (cSlack n m) S ≠ 0) {X : Nat → Int} {τ : Int} (hτ : 0 < τ) (hX : ∀ j, j < n → 0 ≤ X j) : ¬ ∀ t, t < m → Kc m S.1 S.2.2 (cSlack n m) (n + t) ≠ 0 → sg (fun j => A t j * X j) n = τ * b t := by
  intro hs
  have hz2 : 0 < Zc n m (cSlack n m) S := by have := (z_slack h).1; omega
  have e1 : sg (fun j => Kc m S.1 S.2.2 (cSlack n m) j * X j) n = τ * Zc n m (cSlack n m) S := by
    have e2 : sg (fun j => Kc m S.1 S.2.2 (cSlack n m) j * X j) n = sg (fun j => sg (fun t => Kc m S.1 S.2.2 (cSlack n m) (n + t) * (A t j * X j)) m) n := by
      refine sg_congr (fun j hj => ?_)
      rw [kc_sp h, ← sg_mulr]
      exact sg_congr (fun t _ => by rw [vrow_line hj, Int.mul_assoc])
    rw [e2, sg_swap]
    unfold Zc
    rw [kc_sp h (cSlack n m) (n + m), ← sg_mul]
    refine sg_congr (fun t ht => ?_)
    rw [sg_mul, vrow_last]
    by_cases q : Kc m S.1 S.2.2 (cSlack n m) (n + t) = 0
    · rw [q]; simp
    · rw [hs t ht q]
      simp only [Int.mul_left_comm]
  have e3 : 0 < τ * Zc n m (cSlack n m) S := Int.mul_pos hτ hz2
  rw [← e1] at e3
  obtain ⟨j, hj, hp⟩ := sg_pos e3
  have := Int.mul_nonpos_of_nonpos_of_nonneg (hh j hj) (hX j hj)
  omega
/-- the end of a walk with costs on lines: every solution whose barred lines are 0 costs at least as much; and as much just if it is 0 where a line costs -/
theorem cost_sol {S : Sx} (h : Std n m (vrow n m A b) S) (c : Nat → Int) {X : Nat → Int} {τ : Int} (hs : ∀ t, t < m → sg (fun j => A t j * X j) n = τ * b t) : S.2.1 * sg (fun j => c j * X j) n = sg (fun j => (S.2.1 * c j - Kc m S.1 S.2.2 (cLine n c) j) * X j) n + τ * Zc n m (cLine n c) S := by
  have h1 := cost_id (L := n + m) h.1 (cLine n c) _ (sol_emb.mp hs)
  rw [dt_emb] at h1
  have e0 : cLine n c (n + m) = 0 := if_neg (by omega)
  have e1 : sg (fun j => cLine n c j * X j) n = sg (fun j => c j * X j) n := sg_congr (fun j hj => by unfold cLine; rw [if_pos hj])
  have e2 : dt (n + m + 1) (fun j => S.2.1 * cLine n c j - Kc m S.1 S.2.2 (cLine n c) j) (emb n m X τ) = sg (fun j => (S.2.1 * cLine n c j - Kc m S.1 S.2.2 (cLine n c) j) * emb n m X τ j) (n + m + 1) := rfl
  rw [e0, e1, ← e2, dt_emb, e0] at h1
  have e3 : sg (fun j => (S.2.1 * cLine n c j - Kc m S.1 S.2.2 (cLine n c) j) * X j) n = sg (fun j => (S.2.1 * c j - Kc m S.1 S.2.2 (cLine n c) j) * X j) n := sg_congr (fun j hj => by unfold cLine; rw [if_pos hj])
  rw [e3] at h1
  unfold Zc
  simp only [Int.mul_zero, Int.sub_zero, Int.zero_sub, Int.mul_neg] at h1
  omega
end FIT
