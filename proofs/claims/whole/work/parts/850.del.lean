/-! ===== the class Delays: its cells and a table ===== -/
/-- costs: of lines, of slacks -/
def cst (n m : Nat) (lc : Nat → Int) (sc : Int) : Nat → Int := fun j => if j < n then lc j else if j < n + m then sc else 0
/-- the bounds that keep all numbers within a long -/
theorem tab_small {n m : Nat} {A : Nat → Nat → Int} {b : Nat → Int} {C : Nat → Nat} {d : Int} {T : Nat → Nat → Int} (hm : m ≤ 10) (hA : ∀ t j, t < m → j < n → 0 ≤ A t j ∧ A t j ≤ 1) (hb : ∀ t, t < m → 0 ≤ b t ∧ b t ≤ 100000) (h : Tab m (vrow n m A b) C d T) (hC : ∀ s, s < m → C s < n + m) : (-38981 ≤ d ∧ d ≤ 38981) ∧ (∀ s j, s < m → j < n + m → -38981 ≤ T s j ∧ T s j ≤ 38981) ∧ ∀ s, s < m → -362880000000 ≤ T s (n + m) ∧ T s (n + m) ≤ 362880000000 := by
  obtain ⟨B, ε, he, hd, hT⟩ := h
  have h01 : ∀ u ∈ rowsL (vrow n m A b) m, ∀ j, j < n + m → 0 ≤ u j ∧ u j ≤ 1 := by
    intro u hu j hj
    obtain ⟨t, ht, rfl⟩ := (rowsL_mem _ _ _).mp hu
    unfold vrow
    by_cases q : j < n
    · rw [if_pos q]; exact hA t j ht q
    · rw [if_neg q, if_pos hj]
      by_cases q2 : j = n + t
      · rw [if_pos q2]; omega
      · rw [if_neg q2]; omega
  have hL : ∀ u ∈ rowsL (vrow n m A b) m, -100000 ≤ u (n + m) ∧ u (n + m) ≤ 100000 := by
    intro u hu
    obtain ⟨t, ht, rfl⟩ := (rowsL_mem _ _ _).mp hu
    rw [vrow_last]; have := hb t ht; omega
  have hfm : ∀ k : Nat, k ≤ 10 → (fct (k + 1) : Int) ≤ 38981 * 2 ^ k + 2 ^ k - 1 := by decide
  have hfm2 : ∀ k : Nat, k ≤ 10 → (fct k : Int) ≤ 3628800 := by decide
  have small : ∀ C' : Nat → Nat, (∀ s, s < m → C' s < n + m) → -38981 ≤ ε * DC C' m (rowsL (vrow n m A b) m) ∧ ε * DC C' m (rowsL (vrow n m A b) m) ≤ 38981 := by
    intro C' hC'
    have h1 := dc_sign C' m _ (rowsL_len _ m) (fun u hu t ht => h01 u hu _ (hC' t ht))
    have h2 := hfm m hm
    have hp : (0 : Int) < 2 ^ m := Int.pow_pos (by decide)
    generalize hD : DC C' m (rowsL (vrow n m A b) m) = D at h1 ⊢
    have u1 : D ≤ 38981 := by
      by_cases q : D ≤ 38981
      · exact q
      · have : 2 ^ m * 38982 ≤ 2 ^ m * D := Int.mul_le_mul_of_nonneg_left (by omega) (Int.le_of_lt hp)
        omega
    have u2 : -38981 ≤ D := by
      by_cases q : -38981 ≤ D
      · exact q
      · have : 2 ^ m * D ≤ 2 ^ m * (-38982) := Int.mul_le_mul_of_nonneg_left (by omega) (Int.le_of_lt hp)
        omega
    rcases he with e | e <;> subst e <;> omega
  refine ⟨by rw [hd]; exact small C hC, fun s j hs hj => ?_, fun s hs => ?_⟩
  · rw [hT s hs]
    refine small _ (fun t ht => ?_)
    unfold cu
    by_cases q : t = s
    · rw [if_pos q]; exact hj
    · rw [if_neg q]; exact hC t ht
  · rw [hT s hs]
    have h1 := dc_fct_big (cu C s (n + m)) s 100000 (by decide) m _ (rowsL_len _ m) (fun u hu t ht hne => by
      rw [cu_ne _ hne]; have := h01 u hu _ (hC t ht); omega) (fun u hu => by rw [cu_same]; exact hL u hu)
    have h2 := hfm2 m hm
    generalize DC (cu C s (n + m)) m (rowsL (vrow n m A b) m) = D at h1 ⊢
    rcases he with e | e <;> subst e <;> omega
/-- the object's cells stand for the table S of n lines and m rows; costs lc, sc; barred lines br (as a set) -/
def DelC (σ : St) (n m : Nat) (S : Sx) (lc : Nat → Int) (sc : Int) (br : Nat) : Prop :=
  gI σ 6 = nI n ∧ gI σ 7 = nI m ∧ gI σ 8 = nI (n + m + 1) ∧ gI σ 9 = nI br ∧ (gI σ 5).toInt = sc ∧ (gL σ 0).toInt = S.2.1 ∧
  (∀ s, s < m → gA σ 3 s = if S.1 s < n then nI (S.1 s) else -1) ∧ (∀ j, j < n → (gA σ 5 j).toInt = lc j) ∧
  ∀ s j, s < m → j < n + m + 1 → (gB σ 0 (s * (n + m + 1) + j)).toInt = S.2.2 s j
/-- small sizes, small numbers -/
def DelB (n m : Nat) (S : Sx) (lc : Nat → Int) (sc : Int) (br : Nat) : Prop :=
  1 ≤ n ∧ n ≤ 10 ∧ m ≤ 10 ∧ br < 2 ^ n ∧ (-1 ≤ sc ∧ sc ≤ 1) ∧ (∀ j, j < n → -1 ≤ lc j ∧ lc j ≤ 1) ∧ (∀ s, s < m → S.1 s < n ∨ S.1 s = n + s) ∧
  (-38981 ≤ S.2.1 ∧ S.2.1 ≤ 38981) ∧ (∀ s j, s < m → j < n + m → -38981 ≤ S.2.2 s j ∧ S.2.2 s j ≤ 38981) ∧ ∀ s, s < m → -362880000000 ≤ S.2.2 s (n + m) ∧ S.2.2 s (n + m) ≤ 362880000000
theorem idx_in {a : Nat} (h : a < 210) : vp_in (nI a) 210 := vp_in_nI h (by decide)
theorem idx10 {a : Nat} (h : a < 10) : vp_in (nI a) 10 := vp_in_nI h (by decide)
theorem row_lt {n m s j : Nat} (hn : n ≤ 10) (hm : m ≤ 10) (hs : s < m) (hj : j < n + m + 1) : s * (n + m + 1) + j < 210 := by
  have h1 : s * (n + m + 1) + (n + m + 1) ≤ m * (n + m + 1) := by
    have : (s + 1) * (n + m + 1) ≤ m * (n + m + 1) := Nat.mul_le_mul_right _ hs
    rw [Nat.add_mul, Nat.one_mul] at this; exact this
  have h2 : m * (n + m + 1) ≤ 10 * 21 := Nat.mul_le_mul hm (by omega)
  omega
section DEL
variable {σ : St} {n m : Nat} {S : Sx} {lc : Nat → Int} {sc : Int} {br : Nat}
theorem cost_lp (H : DelC σ n m S lc sc br) (B : DelB n m S lc sc br) {j : Nat} (hj : j < n + m + 1) {post : Int64 → St → Prop} (hp : ∀ r : Int64, r.toInt = Kc m S.1 S.2.2 (cst n m lc sc) j → post r σ) :
    ∀ (k row : Nat) (acc : Int64), row + k = m → acc.toInt = sg (fun s => cst n m lc sc (S.1 s) * S.2.2 s j) row → lp_X0_costOfColumn_5 post (k + 1) (nI j) acc (nI row) σ := by
  obtain ⟨h6, h7, h8, h9, h5, hd, hho, hlc, hT⟩ := H
  obtain ⟨b1, b2, b3, b4, b5, b6, b7, b8, b9, b10⟩ := B
  have hbnd : ∀ s, s < m → -362880000000 ≤ S.2.2 s j ∧ S.2.2 s j ≤ 362880000000 := by
    intro s hs
    by_cases q : j = n + m
    · rw [q]; exact b10 s hs
    · have := b9 s j hs (by omega); omega
  have hcs : ∀ s, s < m → -1 ≤ cst n m lc sc (S.1 s) ∧ cst n m lc sc (S.1 s) ≤ 1 := by
    intro s hs
    unfold cst
    by_cases q : S.1 s < n
    · rw [if_pos q]; exact b6 _ q
    · rw [if_neg q, if_pos (by rcases b7 s hs with z | z <;> omega)]; exact b5
  have hterm : ∀ s, s < m → -362880000000 ≤ cst n m lc sc (S.1 s) * S.2.2 s j ∧ cst n m lc sc (S.1 s) * S.2.2 s j ≤ 362880000000 := by
    intro s hs
    have := abs_mul_le (hcs s hs) (hbnd s hs)
    rw [Int.one_mul] at this; exact this
  intro k
  induction k with
  | zero =>
    intro row acc hk hacc
    have : row = m := by omega
    subst this
    unfold lp_X0_costOfColumn_5
    rw [h7]
    exact ⟨fun _ => hp acc hacc, fun q => absurd (nI_le (Nat.le_refl row) (by omega)) q⟩
  | succ k ih =>
    intro row acc hk hacc
    have hrow : row < m := by omega
    have hacb := sg_bound (f := fun s => cst n m lc sc (S.1 s) * S.2.2 s j) (c := 362880000000) (n := row) (fun s hs => hterm s (by omega))
    unfold lp_X0_costOfColumn_5
    rw [h7]
    refine ⟨fun q => absurd q (nI_ge hrow (by omega)), fun _ => ⟨idx10 (by omega), ?_⟩⟩
    have hcl : (nI row).toNatClampNeg = row := nI_clamp (by omega)
    rw [hcl, hho row hrow]
    -- the join
    have jn : ∀ rc : Int32, rc.toInt = cst n m lc sc (S.1 row) → jn_X0_costOfColumn_43 post (lp_X0_costOfColumn_5 post (k + 1)) (nI j) acc (nI row) rc σ := by
      intro rc hrc
      unfold jn_X0_costOfColumn_43
      have e1 : nI row * gI σ 8 + nI j = nI (row * (n + m + 1) + j) := by rw [h8, pk_mul, nI_add]
      have hlt := row_lt b2 b3 hrow hj
      rw [e1, nI_clamp (by omega)]
      refine ⟨idx_in hlt, fun v hv w hw => ?_⟩
      have e2 : v.toInt = sg (fun s => cst n m lc sc (S.1 s) * S.2.2 s j) (row + 1) := by
        have ht := hterm row hrow
        have e3 : (Int32.toInt64 rc * gB σ 0 (row * (n + m + 1) + j)).toInt = cst n m lc sc (S.1 row) * S.2.2 row j := by
          rw [fb_mulL (by rw [Int32.toInt_toInt64, hrc, hT row j hrow hj]; omega) (by rw [Int32.toInt_toInt64, hrc, hT row j hrow hj]; omega), Int32.toInt_toInt64, hrc, hT row j hrow hj]
        have hr10 : ((row : Nat) : Int) ≤ 10 := by omega
        have hb2 : (row : Int) * 362880000000 ≤ 10 * 362880000000 := Int.mul_le_mul_of_nonneg_right hr10 (by decide)
        rw [hv, fb_addL (by rw [e3, hacc]; omega) (by rw [e3, hacc]; omega), e3, hacc]; rfl
      rw [hw, nI_1]
      exact ih (row + 1) v (by omega) e2
    by_cases q : S.1 row < n
    · rw [if_pos q]
      refine ⟨fun _ => ⟨idx10 (by omega), ?_⟩, fun z => absurd (nI_pos' (by omega)) z⟩
      refine ⟨idx10 (by omega), ?_⟩
      rw [nI_clamp (by omega)]
      exact jn _ (by rw [hlc _ q]; unfold cst; rw [if_pos q])
    · rw [if_neg q]
      refine ⟨fun z => absurd z (by decide), fun _ => ?_⟩
      exact jn _ (by rw [h5]; unfold cst; rw [if_neg q, if_pos (by rcases b7 row hrow with z | z <;> omega)])
theorem cost_wp (H : DelC σ n m S lc sc br) (B : DelB n m S lc sc br) {j : Nat} (hj : j < n + m + 1) {post : Int64 → St → Prop} (hp : ∀ r : Int64, r.toInt = Kc m S.1 S.2.2 (cst n m lc sc) j → post r σ) : wp_X0_costOfColumn (nI j) σ post := by
  refine ⟨m + 1, ?_⟩
  have := cost_lp H B hj hp m 0 0 (by omega) rfl
  rw [nI_0] at this
  exact this
end DEL
