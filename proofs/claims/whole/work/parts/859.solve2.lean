/-! ===== Delays: waysThatClash, solve ===== -/
/-- the set that waysThatClash puts together -/
def clS (W : Nat) (f : Nat → Int) : Nat → Nat
  | 0 => 0
  | t + 1 => if f t = 0 then clS W f t else clS W f t ||| 2 ^ wy W t
theorem clS_bit (W : Nat) (f : Nat → Int) : ∀ (t i : Nat), (clS W f t).testBit i = true ↔ ∃ s, s < t ∧ f s ≠ 0 ∧ wy W s = i
  | 0, i => by
    show Nat.testBit 0 i = true ↔ _
    rw [Nat.zero_testBit]
    exact ⟨fun h => absurd h (by decide), fun ⟨s, h, _⟩ => absurd h (Nat.not_lt_zero s)⟩
  | t + 1, i => by
    have ih := clS_bit W f t i
    show (if f t = 0 then clS W f t else clS W f t ||| 2 ^ wy W t).testBit i = true ↔ _
    by_cases q : f t = 0
    · rw [if_pos q, ih]
      constructor
      · rintro ⟨s, h1, h2⟩; exact ⟨s, by omega, h2⟩
      · rintro ⟨s, h1, h2, h3⟩
        by_cases z : s = t
        · rw [z] at h2; exact absurd q h2
        · exact ⟨s, by omega, h2, h3⟩
    · rw [if_neg q, Nat.testBit_or, Nat.testBit_two_pow, Bool.or_eq_true, ih, decide_eq_true_iff]
      constructor
      · rintro (⟨s, h1, h2⟩ | h)
        · exact ⟨s, by omega, h2⟩
        · exact ⟨t, by omega, q, h⟩
      · rintro ⟨s, h1, h2, h3⟩
        by_cases z : s = t
        · rw [z] at h3; exact Or.inr h3
        · exact Or.inl ⟨s, by omega, h2, h3⟩
section SV2
variable {n k : Nat} {ws ss : Nat → Nat}
theorem clash_wp {σ : St} {W m : Nat} {S : Sx} {lc : Nat → Int} {sc : Int} {br : Nat} (H : DelC σ n m S lc sc br) (B : DelB n m S lc sc br) (hw : ∀ t, t < m → gA σ 4 t = nI (wy W t) ∧ wy W t < 10) {post : Int32 → St → Prop}
    (hp : post (nI (clS W (fun t => Kc m S.1 S.2.2 (cst n m lc sc) (n + t)) m)) σ) : wp_X0_waysThatClash σ post := by
  have n10 := B.2.1
  have m10 := B.2.2.1
  have key : ∀ (d t : Nat), t + d = m → lp_X0_waysThatClash_4 post (d + 1) (nI (clS W (fun t => Kc m S.1 S.2.2 (cst n m lc sc) (n + t)) t)) (nI t) σ := by
    intro d
    induction d with
    | zero =>
      intro t hd
      have : t = m := by omega
      subst this
      unfold lp_X0_waysThatClash_4
      rw [H.2.1]
      exact ⟨fun _ => hp, fun q => absurd (nI_le (Nat.le_refl t) (by omega)) q⟩
    | succ d ih =>
      intro t hd
      have ht : t < m := by omega
      unfold lp_X0_waysThatClash_4
      rw [H.2.1, H.1, nI_add]
      refine ⟨fun q => absurd q (nI_ge ht (by omega)), fun _ => cost_wp H B (show n + t < n + m + 1 by omega) (fun r hr => ⟨fun q v hv => ?_, fun q => ⟨idx10 (by omega), fun v7 hv7 v9 hv9 => ?_⟩⟩)⟩
      · rw [hv, nI_1]
        have e0 : Kc m S.1 S.2.2 (cst n m lc sc) (n + t) = 0 := by rw [← hr, q]; rfl
        have := ih (t + 1) (by omega)
        rw [show clS W (fun t => Kc m S.1 S.2.2 (cst n m lc sc) (n + t)) (t + 1) = clS W (fun t => Kc m S.1 S.2.2 (cst n m lc sc) (n + t)) t from if_pos e0] at this
        exact this
      · have e0 : ¬ Kc m S.1 S.2.2 (cst n m lc sc) (n + t) = 0 := fun z => q (Int64.toInt_inj.mp (by rw [hr, z]; rfl))
        have := ih (t + 1) (by omega)
        rw [show clS W (fun t => Kc m S.1 S.2.2 (cst n m lc sc) (n + t)) (t + 1) = clS W (fun t => Kc m S.1 S.2.2 (cst n m lc sc) (n + t)) t ||| 2 ^ wy W t from if_neg e0] at this
        rw [hv7, hv9, nI_1, nI_clamp (by omega), (hw t ht).1, one_shl (by have := (hw t ht).2; omega), (and_or_bit _ _).2]
        exact this
  refine ⟨m + 1, ?_⟩
  have := key m 0 (by omega)
  rw [show clS W (fun t => Kc m S.1 S.2.2 (cst n m lc sc) (n + t)) 0 = 0 from rfl, nI_0] at this
  exact this
theorem delC_sI {σ : St} {m : Nat} {S : Sx} {lc : Nat → Int} {sc : Int} {br i : Nat} (v : Int32) (hi : 9 < i) (H : DelC σ n m S lc sc br) : DelC (sI σ i v) n m S lc sc br := by
  obtain ⟨h6, h7, h8, h9, h5, hd, hho, hlc, hT⟩ := H
  exact ⟨by rw [gI_sI, if_neg (by omega)]; exact h6, by rw [gI_sI, if_neg (by omega)]; exact h7, by rw [gI_sI, if_neg (by omega)]; exact h8, by rw [gI_sI, if_neg (by omega)]; exact h9, by rw [gI_sI, if_neg (by omega)]; exact h5, hd, hho, hlc, hT⟩
/-- the object's answer for the ways W is right -/
def DelOK (σ : St) (n : Nat) (ws ss : Nat → Nat) (W : Nat) : Prop :=
  (gI σ 11 = 1 ∧ ∃ (S : Sx) (lc : Nat → Int) (sc : Int) (br : Nat), SysB n (pc W) (Aw ws W) (bw ss W) lc sc br ∧ Std n (pc W) (vrow n (pc W) (Aw ws W) (bw ss W)) S ∧ DrI n (pc W) S (pc W) ∧ DelC σ n (pc W) S lc sc br) ∨
  (gI σ 11 = 0 ∧ ¬ FitW n ws ss W ∧ ∃ cl, gI σ 12 = nI cl ∧ (∀ i, cl.testBit i = true → W.testBit i = true) ∧ ¬ FitW n ws ss cl)
/-- what stays over a solve -/
def FrS (σ τ : St) : Prop := (∀ i, i < 5 ∨ 12 < i → gI τ i = gI σ i) ∧ ∀ i, i ≠ 3 → i ≠ 4 → i ≠ 5 → gA τ i = gA σ i
theorem delOK_fit {σ : St} {W : Nat} (hk : k ≤ 10) (hW : W < 2 ^ k) (h : DelOK σ n ws ss W) : (gI σ 11 = 1 ↔ FitW n ws ss W) ∧ bz (gI σ 11) := by
  rcases h with ⟨h1, S, lc, sc, br, Y, hS, hI, H⟩ | ⟨h1, h2, _⟩
  · refine ⟨⟨fun _ => ⟨_, _, (solW_iff hk hW _ _).mpr (xl_sol hS hI.1)⟩, fun _ => h1⟩, Or.inr h1⟩
  · exact ⟨⟨fun q => absurd (h1.symm.trans q) (by decide), fun q => absurd q h2⟩, Or.inl h1⟩
theorem cst_slack (n m : Nat) : cst n m (fun j => if Nat.testBit 0 j then (0 : Int32).toInt else 0) (1 : Int32).toInt = cSlack n m := by
  funext j
  unfold cst cSlack
  by_cases q : j < n
  · rw [if_pos q, if_pos q]
    show (if Nat.testBit 0 j = true then (0 : Int32).toInt else 0) = 0
    rw [Nat.zero_testBit]; rfl
  · rw [if_neg q, if_neg q]; rfl
theorem solve_wp {σ : St} (N : NetB n k ws ss) (C : NetC σ n k ws ss) {W : Nat} (hW : W < 2 ^ k) (hc : nI W = gI σ 10 → DelOK σ n ws ss W) {post : Int32 → St → Prop}
    (hp : ∀ τ, DelOK τ n ws ss W → gI τ 10 = nI W → FrS σ τ → post (gI τ 11) τ) : wp_X0_solve (nI W) σ post := by
  have n3 := N.2.2.1
  have n2 := N.2.1
  unfold wp_X0_solve
  refine ⟨fun _ => ?_, fun q => ⟨(delOK_fit n3 hW (hc q)).2, hp σ (hc q) q.symm ⟨fun _ _ => rfl, fun _ _ _ _ => rfl⟩⟩⟩
  refine load_wp N C hW (fun σ3 H3 w3 F3 => ?_)
  rw [show (0 : Int32) = nI 0 from nI_0.symm]
  refine goal_wp n2 (s := 0) (by decide) H3 (fun σ5 H5 F5 => ?_)
  have Y : SysB n (pc W) (Aw ws W) (bw ss W) (fun j => if Nat.testBit 0 j then (nI 0).toInt else 0) (1 : Int32).toInt 0 := sys_of N hW (Nat.two_pow_pos n) (by decide) (fun j _ => by rw [Nat.zero_testBit]; decide)
  have hb0 : ∀ t, t < pc W → 0 ≤ bw ss W t := fun t ht => (Y.2.2.2.2.2.2.2 t ht).1
  have ecs : cst n (pc W) (fun j => if Nat.testBit 0 j then (nI 0).toInt else 0) (1 : Int32).toInt = cSlack n (pc W) := cst_slack n (pc W)
  refine walk_wp (J := fun _ => True) Y (std_start hb0) trivial H5 (fun _ _ _ _ _ _ => trivial) (fun S e hS _ he _ hh => ?_) (fun σ7 S hS _ H7 F7 hno => ?_)
  · rw [hlp_cst _ _ he, ecs] at hh
    have h0 : 0 < Kc (pc W) S.1 S.2.2 (cSlack n (pc W)) e := by
      have e1 : S.2.1 * (if Nat.testBit 0 e then (nI 0).toInt else 0) = 0 := by rw [Nat.zero_testBit]; exact Int.mul_zero _
      omega
    obtain ⟨s, hs, hpos⟩ := sg_pos h0
    refine ⟨s, hs, ?_⟩
    have c01 : 0 ≤ cSlack n (pc W) (S.1 s) := by
      unfold cSlack
      by_cases q : S.1 s < n
      · rw [if_pos q]; omega
      · rw [if_neg q]
        by_cases q2 : S.1 s < n + pc W
        · rw [if_pos q2]; omega
        · rw [if_neg q2]; omega
    by_cases q : 0 < S.2.2 s e
    · exact q
    · have := Int.mul_nonpos_of_nonneg_of_nonpos c01 (show S.2.2 s e ≤ 0 by omega)
      omega
  have B7 := std_B Y hS
  have e8 : gI σ7 8 - 1 = nI (n + pc W) := by rw [H7.2.2.1, nI_pred]
  rw [e8]
  refine cost_wp H7 B7 (by omega) (fun r hr => ?_)
  rw [ecs] at hr
  have fr7 : FrS σ σ7 := ⟨fun i hi => by rw [F7.1 i, F5.1 i (by omega) (by omega), F3.1 i (by omega)], fun i a1 a2 a3 => by rw [F7.2 i a1, F5.2 i a1 a3, F3.2 i a1 a2]⟩
  have w7 : ∀ t, t < pc W → gA σ7 4 t = nI (wy W t) ∧ wy W t < 10 := fun t ht => ⟨by rw [F7.2 4 (by decide), F5.2 4 (by decide) (by decide)]; exact w3 t ht, by have := (wy_in n3 hW ht).1; omega⟩
  refine ⟨fun q => ?_, fun q => ?_⟩
  · -- no solution
    have hz : Zc n (pc W) (cSlack n (pc W)) S ≠ 0 := fun z => q (Int64.toInt_inj.mp (by rw [hr]; exact z))
    have hh : ∀ j, j < n → Kc (pc W) S.1 S.2.2 (cSlack n (pc W)) j ≤ 0 := fun j hj => by
      have := hno j hj (Nat.zero_testBit j)
      rw [hlp_cst _ _ hj, ecs] at this
      have e1 : S.2.1 * (if Nat.testBit 0 j then (nI 0).toInt else 0) = 0 := by rw [Nat.zero_testBit]; exact Int.mul_zero _
      omega
    have nof : ∀ cl : Nat, (∀ t, t < pc W → Kc (pc W) S.1 S.2.2 (cSlack n (pc W)) (n + t) ≠ 0 → cl.testBit (wy W t) = true) → ¬ FitW n ws ss cl := by
      intro cl hcl ⟨X, τ, s1, s2, s3⟩
      exact no_sol hS hh hz s1 s2 (fun t ht hne => s3 _ (hcl t ht hne))
    unfold jn_X0_solve_51
    refine ⟨by rw [nI_0]; exact bz_0, fun σ1 e1 => ⟨fun _ => ?_, fun w => absurd (by rw [e1, gI_sI, if_pos rfl, nI_0]) w⟩⟩
    refine clash_wp (W := W) (H := by rw [e1]; exact delC_sI _ (by decide) H7) B7 (fun t ht => by rw [e1, gA_sI]; exact w7 t ht) (fun σ6 e6 σ8 e8 => ?_)
    have g11 : gI σ8 11 = 0 := by rw [e8, gI_sI, if_neg (by decide), e6, gI_sI, if_neg (by decide), e1, gI_sI, if_pos rfl, nI_0]
    refine ⟨by rw [g11]; exact bz_0, hp σ8 (Or.inr ⟨g11, nof W (fun t ht _ => (wy_in n3 hW ht).2), clS W (fun t => Kc (pc W) S.1 S.2.2 (cst n (pc W) (fun j => if Nat.testBit 0 j then (nI 0).toInt else 0) (1 : Int32).toInt) (n + t)) (pc W), by rw [e8, gI_sI, if_neg (by decide), e6, gI_sI, if_pos rfl], fun i hi => ?_, nof _ (fun t ht hne => ?_)⟩) (by rw [e8, gI_sI, if_pos rfl]) ⟨fun i hi => ?_, fun i a1 a2 a3 => ?_⟩⟩
    · obtain ⟨s, h1, h2, h3⟩ := (clS_bit _ _ _ _).mp hi
      rw [← h3]; exact (wy_in n3 hW h1).2
    · exact (clS_bit _ _ _ _).mpr ⟨t, ht, by rw [ecs]; exact hne, rfl⟩
    · rw [e8, gI_sI, if_neg (by omega), e6, gI_sI, if_neg (by omega), e1, gI_sI, if_neg (by omega)]; exact fr7.1 i hi
    · rw [e8, gA_sI, e6, gA_sI, e1, gA_sI]; exact fr7.2 i a1 a2 a3
  · -- there is one
    have hz : Zc n (pc W) (cSlack n (pc W)) S = 0 := by
      have : r.toInt = 0 := by rw [q]; rfl
      rw [← this, hr]; rfl
    have h0 := (z_slack hS).2.mp hz
    unfold jn_X0_solve_51
    refine ⟨bz_1, fun σ1 e1 => ⟨fun w => ?_, fun _ => ?_⟩⟩
    · rw [e1, gI_sI, if_pos rfl] at w
      exact absurd w (by decide)
    · refine drop_wp Y hS (H := by rw [e1]; exact delC_sI _ (by decide) H7) h0 (fun σ11 S2 hS2 hI2 H2 F2 σ12 e12 => ?_)
      have g11 : gI σ12 11 = 1 := by rw [e12, gI_sI, if_neg (by decide), F2.1 11, e1, gI_sI, if_pos rfl]
      refine ⟨by rw [g11]; exact bz_1, hp σ12 (Or.inl ⟨g11, S2, _, _, _, Y, hS2, hI2, by rw [e12]; exact delC_sI _ (by decide) H2⟩) (by rw [e12, gI_sI, if_pos rfl]) ⟨fun i hi => ?_, fun i a1 a2 a3 => ?_⟩⟩
      · rw [e12, gI_sI, if_neg (by omega), F2.1 i, e1, gI_sI, if_neg (by omega)]; exact fr7.1 i hi
      · rw [e12, gA_sI, F2.2 i a1, e1, gA_sI]; exact fr7.2 i a1 a2 a3
end SV2
