/-! ===== Delays: walkToLeast ===== -/
/-- sizes and numbers of a system, and costs -/
def SysB (n m : Nat) (A : Nat → Nat → Int) (b : Nat → Int) (lc : Nat → Int) (sc : Int) (br : Nat) : Prop :=
  1 ≤ n ∧ n ≤ 10 ∧ m ≤ 10 ∧ br < 2 ^ n ∧ (-1 ≤ sc ∧ sc ≤ 1) ∧ (∀ j, j < n → -1 ≤ lc j ∧ lc j ≤ 1) ∧ (∀ t j, t < m → j < n → 0 ≤ A t j ∧ A t j ≤ 1) ∧ ∀ t, t < m → 0 ≤ b t ∧ b t ≤ 100000
section WLK
variable {n m : Nat} {A : Nat → Nat → Int} {b : Nat → Int} {lc : Nat → Int} {sc : Int} {br : Nat}
theorem std_B (Y : SysB n m A b lc sc br) {S : Sx} (h : Std n m (vrow n m A b) S) : DelB n m S lc sc br := by
  obtain ⟨y1, y2, y3, y4, y5, y6, y7, y8⟩ := Y
  have := tab_small y3 y7 y8 h.1 (std_lt h)
  exact ⟨y1, y2, y3, y4, y5, y6, h.2.2.2, this.1, this.2.1, this.2.2⟩
theorem cst_last (n m : Nat) (lc : Nat → Int) (sc : Int) : cst n m lc sc (n + m) = 0 := by
  unfold cst; rw [if_neg (by omega), if_neg (by omega)]
/-- the step that the class does -/
theorem step_std {S : Sx} (h : Std n m (vrow n m A b) S) {e r : Nat} (he : e < n) (hg : best n m S e r m) : ∃ T' : Nat → Nat → Int, Std n m (vrow n m A b) (cu S.1 r e, S.2.2 r e, T') ∧ (∀ j, T' r j = S.2.2 r j) ∧ ∀ i, i < m → i ≠ r → ∀ j, S.2.1 * T' i j = S.2.2 i j * S.2.2 r e - S.2.2 i e * S.2.2 r j := by
  obtain ⟨hr, hp, hg⟩ := hg
  obtain ⟨T', t1, t2, t3⟩ := tab_piv h.1 hr (show S.2.2 r e ≠ 0 by omega)
  refine ⟨T', ⟨t1, hp, fun s hs => ?_, fun s hs => ?_⟩, t2, t3⟩
  · show 0 ≤ T' s (n + m)
    have f := h.2.2.1
    by_cases q : s = r
    · rw [q, t2]; exact f r hr
    · have e1 := t3 s hs q (n + m)
      have d0 := h.2.1
      have k1 : 0 ≤ S.2.2 s (n + m) * S.2.2 r e - S.2.2 s e * S.2.2 r (n + m) := by
        by_cases z : 0 < S.2.2 s e
        · have := (hg s hs z).1
          rw [Int.mul_comm (S.2.2 s e)]; omega
        · have k2 := Int.mul_nonneg (f s hs) (Int.le_of_lt hp)
          have k3 := Int.mul_nonpos_of_nonpos_of_nonneg (show S.2.2 s e ≤ 0 by omega) (f r hr)
          omega
      rw [← e1] at k1
      by_cases w : 0 ≤ T' s (n + m)
      · exact w
      · have := Int.mul_neg_of_pos_of_neg d0 (show T' s (n + m) < 0 by omega)
        omega
  · show cu S.1 r e s < n ∨ cu S.1 r e s = n + s
    by_cases q : s = r
    · rw [q, cu_same]; exact Or.inl he
    · rw [cu_ne _ q]; exact h.2.2.2 s hs
theorem step_bstp {S : Sx} {T' : Nat → Nat → Int} {c : Nat → Int} {bar : Nat → Prop} (h : Std n m (vrow n m A b) S) {e r : Nat} (he : e < n) (hb : ¬ bar e) (hh : Hlp m S.1 S.2.1 S.2.2 c e) (hf : ∀ j, j < e → ¬ bar j → ¬ Hlp m S.1 S.2.1 S.2.2 c j) (hg : best n m S e r m) (h' : Std n m (vrow n m A b) (cu S.1 r e, S.2.2 r e, T')) (t2 : ∀ j, T' r j = S.2.2 r j) (t3 : ∀ i, i < m → i ≠ r → ∀ j, S.2.1 * T' i j = S.2.2 i j * S.2.2 r e - S.2.2 i e * S.2.2 r j) : BStp n m (vrow n m A b) c bar S (cu S.1 r e, S.2.2 r e, T') e r := by
  refine ⟨h, h', ⟨he, hb, hh, hf⟩, ⟨hg.1, hg.2.1, fun s hs hp => ⟨(hg.2.2 s hs hp).1, fun q c1 c2 => ?_⟩⟩, rfl, rfl, t2, t3⟩
  have := (hg.2.2 s hs hp).2 q
  unfold hd at this
  rw [if_pos c1, if_pos c2] at this
  omega
def ext (S : Nat → Sx) (N : Nat) (X : Sx) : Nat → Sx := fun i => if i ≤ N then S i else X
def extn (e : Nat → Nat) (N x : Nat) : Nat → Nat := fun i => if i < N then e i else x
theorem wlk_ext {v : Nat → Vc} {c : Nat → Int} {bar : Nat → Prop} {S : Nat → Sx} {e r : Nat → Nat} {N : Nat} {X : Sx} {a q : Nat} (h : Wlk n m v c bar S e r N) (hs : BStp n m v c bar (S N) X a q) : Wlk n m v c bar (ext S N X) (extn e N a) (extn r N q) (N + 1) := by
  intro i hi
  unfold ext extn
  by_cases z : i < N
  · rw [if_pos (show i ≤ N by omega), if_pos (show i + 1 ≤ N by omega), if_pos z, if_pos z]
    exact h i z
  · have : i = N := by omega
    subst this
    rw [if_pos (Nat.le_refl i), if_neg (by omega), if_neg (by omega), if_neg (by omega)]
    exact hs
theorem walk_lp (Y : SysB n m A b lc sc br) {σ0 : St} {J : Sx → Prop}
    (hJ : ∀ S S' e r, J S → BStp n m (vrow n m A b) (cst n m lc sc) (fun j => br.testBit j = true) S S' e r → J S')
    (hU : ∀ S e, Std n m (vrow n m A b) S → J S → e < n → br.testBit e = false → Hlp m S.1 S.2.1 S.2.2 (cst n m lc sc) e → ∃ s, s < m ∧ 0 < S.2.2 s e)
    {post : St → Prop} (hp : ∀ τ S, Std n m (vrow n m A b) S → J S → DelC τ n m S lc sc br → ExF σ0 τ → (∀ j, j < n → br.testBit j = false → ¬ Hlp m S.1 S.2.1 S.2.2 (cst n m lc sc) j) → post τ) :
    ∀ (k N : Nat) (S : Nat → Sx) (e r : Nat → Nat) (τ : St), N + k = 258048 → Wlk n m (vrow n m A b) (cst n m lc sc) (fun j => br.testBit j = true) S e r N → Std n m (vrow n m A b) (S N) → J (S N) → DelC τ n m (S N) lc sc br → ExF σ0 τ → lp_X0_walkToLeast_2 post (k + 1) (nI N) τ := by
  intro k
  induction k with
  | zero =>
    intro N S e r τ hk hW _ _ _ _
    have := wlk_short Y.2.1 Y.2.2.1 (cst_last n m lc sc) hW
    omega
  | succ k ih =>
    intro N S e r τ hk hW hS hJS H hF
    have B := std_B Y hS
    unfold lp_X0_walkToLeast_2
    have e6 : (1000000 : Int32) = nI 1000000 := by decide
    refine ⟨fun q => absurd (by rw [e6] at q; exact q) (nI_ge (show N < 1000000 by omega) (by decide)), fun _ => ?_⟩
    refine first_wp H B (fun h0 => ⟨fun q => absurd rfl q, fun _ => hp τ (S N) hS hJS H hF h0⟩) (fun e1 he1 hb1 hh1 hf1 => ⟨fun _ => ?_, fun q => ?_⟩)
    · obtain ⟨s0, hs0, hs1⟩ := hU (S N) e1 hS hJS he1 hb1 hh1
      refine rowg_wp H B he1 (fun hno => absurd hs1 (hno s0 hs0)) (fun r1 hr1 => ⟨fun _ => ?_, fun q => ?_⟩)
      · obtain ⟨T', t1, t2, t3⟩ := step_std hS he1 hr1
        have hB2 := std_B Y t1
        have hbp := step_bstp (c := cst n m lc sc) (bar := fun j => br.testBit j = true) hS he1 (by rw [hb1]; exact fun z => by cases z) hh1 (fun j hj hnb => hf1 j hj (Bool.eq_false_iff.mpr hnb)) hr1 t1 t2 t3
        refine exch_pos (v := vrow n m A b) (T' := T') H B hr1.1 he1 (by have := hS.2.1; omega) hr1.2.1 t2 t3 (fun i j hi hj => ?_) (fun τ2 H2 F2 w hw => ?_)
        · by_cases z : j = n + m
          · have := hB2.2.2.2.2.2.2.2.2.2 i hi
            rw [z]
            show -1000000000000 ≤ T' i (n + m) ∧ T' i (n + m) ≤ 1000000000000
            have : -362880000000 ≤ T' i (n + m) ∧ T' i (n + m) ≤ 362880000000 := this
            omega
          · have : -38981 ≤ T' i j ∧ T' i j ≤ 38981 := hB2.2.2.2.2.2.2.2.2.1 i j hi (by omega)
            omega
        · rw [hw, nI_1]
          have hx : ext S N (cu (S N).1 r1 e1, (S N).2.2 r1 e1, T') (N + 1) = (cu (S N).1 r1 e1, (S N).2.2 r1 e1, T') := if_neg (by omega)
          refine ih (N + 1) (ext S N (cu (S N).1 r1 e1, (S N).2.2 r1 e1, T')) (extn e N e1) (extn r N r1) τ2 (by omega) (wlk_ext hW hbp) (by rw [hx]; exact t1) (by rw [hx]; exact hJ _ _ _ _ hJS hbp) (by rw [hx]; exact H2) ⟨fun k => (F2.1 k).trans (hF.1 k), fun k hk => (F2.2 k hk).trans (hF.2 k hk)⟩
      · exact absurd q (fun z => by
          have := nI_pos (n := r1) (by have := hr1.1; have := Y.2.2.1; omega)
          rw [z] at this; exact this (by decide))
    · exact absurd q (fun z => by
        have := nI_pos (n := e1) (by have := Y.2.1; omega)
        rw [z] at this; exact this (by decide))
/-- walkToLeast: comes to a corner where no line helps -/
theorem walk_wp (Y : SysB n m A b lc sc br) {σ : St} {S : Sx} {J : Sx → Prop} (hS : Std n m (vrow n m A b) S) (hJS : J S) (H : DelC σ n m S lc sc br)
    (hJ : ∀ S S' e r, J S → BStp n m (vrow n m A b) (cst n m lc sc) (fun j => br.testBit j = true) S S' e r → J S')
    (hU : ∀ S e, Std n m (vrow n m A b) S → J S → e < n → br.testBit e = false → Hlp m S.1 S.2.1 S.2.2 (cst n m lc sc) e → ∃ s, s < m ∧ 0 < S.2.2 s e)
    {post : St → Prop} (hp : ∀ τ S, Std n m (vrow n m A b) S → J S → DelC τ n m S lc sc br → ExF σ τ → (∀ j, j < n → br.testBit j = false → ¬ Hlp m S.1 S.2.1 S.2.2 (cst n m lc sc) j) → post τ) : wp_X0_walkToLeast σ post := by
  refine ⟨258048 + 1, ?_⟩
  have := walk_lp Y hJ hU hp 258048 0 (fun _ => S) (fun _ => 0) (fun _ => 0) σ (by omega) (fun i hi => absurd hi (Nat.not_lt_zero i)) hS hJS H ⟨fun _ => rfl, fun _ _ => rfl⟩
  rw [nI_0] at this
  exact this
end WLK
