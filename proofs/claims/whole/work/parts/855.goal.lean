/-! ===== Delays: goals, sums, bars ===== -/
/-- what stays while a table is walked on: all but costs, bars, holders, scale, table -/
def FrW (σ τ : St) : Prop := (∀ k, k ≠ 5 → k ≠ 9 → gI τ k = gI σ k) ∧ ∀ k, k ≠ 3 → k ≠ 5 → gA τ k = gA σ k
theorem FrW.rf (σ : St) : FrW σ σ := ⟨fun _ _ _ => rfl, fun _ _ _ => rfl⟩
theorem FrW.tr {σ τ ρ : St} (h : FrW σ τ) (g : FrW τ ρ) : FrW σ ρ := ⟨fun k a b => (g.1 k a b).trans (h.1 k a b), fun k a b => (g.2 k a b).trans (h.2 k a b)⟩
theorem FrW.ex {σ τ : St} (h : ExF σ τ) : FrW σ τ := ⟨fun k _ _ => h.1 k, fun k a _ => h.2 k a⟩
section GOAL
variable {n m : Nat} {S : Sx} {lc : Nat → Int} {sc : Int} {br : Nat}
theorem goal_lp {σ0 : St} (hn : n ≤ 10) {s : Nat} (hs : s < 2 ^ 31) {ci cs : Int32} (H : DelC σ0 n m S lc sc br) {post : St → Prop}
    (hp : ∀ τ, DelC τ n m S (fun j => if s.testBit j then ci.toInt else 0) cs.toInt br → FrW σ0 τ → post τ) :
    ∀ (k j : Nat) (τ : St), j + k = n → (∀ k, gI τ k = gI σ0 k) → (∀ k, gL τ k = gL σ0 k) → (∀ k, gB τ k = gB σ0 k) → (∀ k, k ≠ 5 → gA τ k = gA σ0 k) → (∀ i, i < j → (gA τ 5 i).toInt = if s.testBit i then ci.toInt else 0) → lp_X0_setGoal_3 post (k + 1) (nI s) ci cs (nI j) τ := by
  obtain ⟨h6, h7, h8, h9, h5, hd, hho, hlc, hT⟩ := H
  intro k
  induction k with
  | zero =>
    intro j τ hk gi gl gb ga hc
    have : j = n := by omega
    subst this
    unfold lp_X0_setGoal_3
    rw [gi 6, h6]
    refine ⟨fun _ τ2 e2 => ?_, fun q => absurd (nI_le (Nat.le_refl j) (by omega)) q⟩
    rw [e2]
    have gi2 : ∀ k, k ≠ 5 → gI (sI τ 5 cs) k = gI σ0 k := fun k hk => by rw [gI_sI, if_neg hk]; exact gi k
    refine hp _ ⟨by rw [gi2 6 (by decide)]; exact h6, by rw [gi2 7 (by decide)]; exact h7, by rw [gi2 8 (by decide)]; exact h8, by rw [gi2 9 (by decide)]; exact h9, by rw [gI_sI, if_pos rfl], by rw [gL_sI, gl]; exact hd, fun t ht => by rw [gA_sI, ga 3 (by decide)]; exact hho t ht, fun i hi => by rw [gA_sI]; exact hc i hi, fun t i ht hi => by rw [gB_sI, gb]; exact hT t i ht hi⟩ ⟨fun k a _ => gi2 k a, fun k _ b => by rw [gA_sI]; exact ga k b⟩
  | succ k ih =>
    intro j τ hk gi gl gb ga hc
    have hj : j < n := by omega
    have step : ∀ x : Int32, x.toInt = (if s.testBit j then ci.toInt else 0) → lp_X0_setGoal_3 post (k + 1) (nI s) ci cs (nI (j + 1)) (sA τ 5 j x) := by
      intro x hx
      refine ih (j + 1) _ (by omega) gi gl gb (fun k hk => by funext y; rw [gA_sA, if_neg (fun z => hk z.1), ga k hk]) (fun i hi => ?_)
      rw [gA_sA]
      by_cases q : i = j
      · rw [if_pos ⟨rfl, q⟩, q]; exact hx
      · rw [if_neg (fun z => q z.2)]; exact hc i (by omega)
    unfold lp_X0_setGoal_3
    rw [gi 6, h6]
    refine ⟨fun q => absurd q (nI_ge hj (by omega)), fun _ => bitOf_wp hs (by omega) ⟨fun q => ⟨idx10 (by omega), fun τ2 e2 v hv => ?_⟩, fun q => ⟨idx10 (by omega), fun τ2 e2 v hv => ?_⟩⟩⟩
    · rw [hv, nI_1, e2, nI_clamp (by omega)]
      exact step 0 (by rw [(bit_ne1 _).mp q]; rfl)
    · rw [hv, nI_1, e2, nI_clamp (by omega)]
      exact step ci (by rw [(bit_1 _).mp q]; rfl)
theorem goal_wp {σ : St} (hn : n ≤ 10) {s : Nat} (hs : s < 2 ^ 31) {ci cs : Int32} (H : DelC σ n m S lc sc br) {post : St → Prop}
    (hp : ∀ τ, DelC τ n m S (fun j => if s.testBit j then ci.toInt else 0) cs.toInt br → FrW σ τ → post τ) : wp_X0_setGoal (nI s) ci cs σ post := by
  refine ⟨n + 1, ?_⟩
  have := goal_lp hn hs H hp n 0 σ (by omega) (fun _ => rfl) (fun _ => rfl) (fun _ => rfl) (fun _ _ => rfl) (fun i hi => absurd hi (Nat.not_lt_zero i))
  rw [nI_0] at this
  exact this
/-- the sum of a set at the corner, times the scale -/
def upr (n m : Nat) (S : Sx) (s : Nat) : Int := sg (fun t => if S.1 t < n ∧ s.testBit (S.1 t) = true then S.2.2 t (n + m) else 0) m
theorem upper_lp {σ : St} (H : DelC σ n m S lc sc br) (B : DelB n m S lc sc br) {s : Nat} (hs : s < 2 ^ 31) {post : Int64 → St → Prop} (hp : ∀ r : Int64, r.toInt = upr n m S s → post r σ) :
    ∀ (k row : Nat) (acc : Int64), row + k = m → acc.toInt = sg (fun t => if S.1 t < n ∧ s.testBit (S.1 t) = true then S.2.2 t (n + m) else 0) row → lp_X0_upperOf_5 post (k + 1) (nI s) acc (nI row) σ := by
  obtain ⟨h6, h7, h8, h9, h5, hd, hho, hlc, hT⟩ := H
  obtain ⟨b1, b2, b3, b4, b5, b6, b7, b8, b9, b10⟩ := B
  intro k
  induction k with
  | zero =>
    intro row acc hk hacc
    have : row = m := by omega
    subst this
    unfold lp_X0_upperOf_5
    rw [h7]
    exact ⟨fun _ => hp acc hacc, fun q => absurd (nI_le (Nat.le_refl row) (by omega)) q⟩
  | succ k ih =>
    intro row acc hk hacc
    have hrow : row < m := by omega
    have hacb := sg_bound (f := fun t => if S.1 t < n ∧ s.testBit (S.1 t) = true then S.2.2 t (n + m) else 0) (c := 362880000000) (n := row) (fun t ht => by
      show -362880000000 ≤ (if S.1 t < n ∧ s.testBit (S.1 t) = true then S.2.2 t (n + m) else 0) ∧ (if S.1 t < n ∧ s.testBit (S.1 t) = true then S.2.2 t (n + m) else 0) ≤ 362880000000
      by_cases q : S.1 t < n ∧ s.testBit (S.1 t) = true
      · rw [if_pos q]; exact b10 t (by omega)
      · rw [if_neg q]; omega)
    have hr10 : ((row : Nat) : Int) ≤ 10 := by omega
    have hb2 : (row : Int) * 362880000000 ≤ 10 * 362880000000 := Int.mul_le_mul_of_nonneg_right hr10 (by decide)
    have skip : ¬ (S.1 row < n ∧ s.testBit (S.1 row) = true) → acc.toInt = sg (fun t => if S.1 t < n ∧ s.testBit (S.1 t) = true then S.2.2 t (n + m) else 0) (row + 1) := fun q => by
      show _ = sg _ row + (if S.1 row < n ∧ s.testBit (S.1 row) = true then S.2.2 row (n + m) else 0)
      rw [if_neg q, Int.add_zero]; exact hacc
    unfold lp_X0_upperOf_5
    rw [h7, nI_clamp (show row < 2 ^ 31 by omega), hho row hrow]
    refine ⟨fun q => absurd q (nI_ge hrow (by omega)), fun _ => ⟨idx10 (by omega), fun q v hv => ?_, fun q => ⟨idx10 (by omega), ?_⟩⟩⟩
    · rw [hv, nI_1]
      refine ih (row + 1) acc (by omega) (skip (fun z => ?_))
      rw [if_pos z.1] at q
      exact nI_pos (by omega) q
    · by_cases z : S.1 row < n
      · rw [if_pos z]
        refine bitOf_wp hs (by omega) ⟨fun w v hv => ?_, fun w => ?_⟩
        · rw [hv, nI_1]
          refine ih (row + 1) acc (by omega) (skip (fun y => ?_))
          rw [(bit_ne1 _).mp w] at y; cases y.2
        · have e1 : nI row * gI σ 8 + gI σ 8 - 1 = nI (row * (n + m + 1) + (n + m)) := by
            rw [h8, pk_mul, nI_add, show row * (n + m + 1) + (n + m + 1) = (row * (n + m + 1) + (n + m)) + 1 by omega, nI_pred]
          have l1 := row_lt b2 b3 hrow (show n + m < n + m + 1 by omega)
          rw [e1, nI_clamp (by omega)]
          refine ⟨idx_in l1, fun v hv u hu => ?_⟩
          rw [hu, nI_1]
          refine ih (row + 1) v (by omega) ?_
          have t1 := hT row (n + m) hrow (by omega)
          have t2 := b10 row hrow
          show _ = sg _ row + (if S.1 row < n ∧ s.testBit (S.1 row) = true then S.2.2 row (n + m) else 0)
          rw [if_pos ⟨z, (bit_1 _).mp w⟩, hv, fb_addL (by rw [t1, hacc]; omega) (by rw [t1, hacc]; omega), t1, hacc]
      · rw [if_neg z] at q
        exact absurd (by decide) q
theorem upper_wp {σ : St} (H : DelC σ n m S lc sc br) (B : DelB n m S lc sc br) {s : Nat} (hs : s < 2 ^ 31) {post : Int64 → St → Prop} (hp : ∀ r : Int64, r.toInt = upr n m S s → post r σ) : wp_X0_upperOf (nI s) σ post := by
  refine ⟨m + 1, ?_⟩
  have := upper_lp H B hs hp m 0 0 (by omega) rfl
  rw [nI_0] at this
  exact this
/-- lines that cost are barred from now on -/
theorem bar_lp {σ0 : St} (hn : n ≤ 10) (B : DelB n m S lc sc 0) {post : St → Prop} (hp : ∀ τ br', DelC τ n m S lc sc br' → br' < 2 ^ n → FrW σ0 τ → (∀ j, j < n → (br'.testBit j = true ↔ br.testBit j = true ∨ Kc m S.1 S.2.2 (cst n m lc sc) j < S.2.1 * lc j)) → post τ) :
    ∀ (k j : Nat) (br1 : Nat) (τ : St), j + k = n → DelC τ n m S lc sc br1 → br1 < 2 ^ n → FrW σ0 τ → (∀ i, i < n → (br1.testBit i = true ↔ br.testBit i = true ∨ (i < j ∧ Kc m S.1 S.2.2 (cst n m lc sc) i < S.2.1 * lc i))) → lp_X0_barWhatCosts_2 post (k + 1) (nI j) τ := by
  obtain ⟨b1, b2, b3, b4, b5, b6, b7, b8, b9, b10⟩ := B
  intro k
  induction k with
  | zero =>
    intro j br1 τ hk H hb hF hx
    have : j = n := by omega
    subst this
    unfold lp_X0_barWhatCosts_2
    rw [H.1]
    refine ⟨fun _ => hp τ br1 H hb hF (fun i hi => ?_), fun q => absurd (nI_le (Nat.le_refl j) (by omega)) q⟩
    rw [hx i hi]
    exact ⟨fun z => z.imp id And.right, fun z => z.imp id (fun w => ⟨hi, w⟩)⟩
  | succ k ih =>
    intro j br1 τ hk H hb hF hx
    have hj : j < n := by omega
    have B1 : DelB n m S lc sc br1 := ⟨b1, b2, b3, hb, b5, b6, b7, b8, b9, b10⟩
    have hl := b6 j hj
    have hm1 := abs_mul_le (A := 38981) (B := 1) b8 hl
    have e1 : (gL τ 0 * Int32.toInt64 (gA τ 5 j)).toInt = S.2.1 * lc j := by
      rw [fb_mulL (by rw [Int32.toInt_toInt64, H.2.2.2.2.2.1, H.2.2.2.2.2.2.2.1 j hj]; omega) (by rw [Int32.toInt_toInt64, H.2.2.2.2.2.1, H.2.2.2.2.2.2.2.1 j hj]; omega), Int32.toInt_toInt64, H.2.2.2.2.2.1, H.2.2.2.2.2.2.2.1 j hj]
    unfold lp_X0_barWhatCosts_2
    rw [H.1]
    refine ⟨fun q => absurd q (nI_ge hj (by omega)), fun _ => ⟨idx10 (by omega), cost_wp H B1 (by omega) (fun r hr => ?_)⟩⟩
    rw [nI_clamp (by omega)]
    refine ⟨fun q v hv => ?_, fun q τ2 e2 v hv => ?_⟩
    · rw [Int64.le_iff_toInt_le, e1, hr] at q
      rw [hv, nI_1]
      refine ih (j + 1) br1 τ (by omega) H hb hF (fun i hi => ?_)
      rw [hx i hi]
      constructor
      · exact fun z => z.imp id (fun w => ⟨by omega, w.2⟩)
      · rintro (z | ⟨z, w⟩)
        · exact Or.inl z
        · by_cases y : i = j
          · subst y; omega
          · exact Or.inr ⟨by omega, w⟩
    · rw [Int64.le_iff_toInt_le, e1, hr] at q
      have e9 : gI τ 9 ||| 1 <<< (nI j &&& 31) = nI (br1 ||| 2 ^ j) := by
        rw [H.2.2.2.1, one_shl (by omega), (and_or_bit br1 (2 ^ j)).2]
      rw [hv, nI_1]
      have hlt : br1 ||| 2 ^ j < 2 ^ n := lt_of_bits (fun i hi => by
        rw [Nat.testBit_or, bits_of_lt hb hi, Nat.testBit_two_pow, decide_eq_false (by omega)]; rfl)
      have H2 : DelC τ2 n m S lc sc (br1 ||| 2 ^ j) := by
        rw [e2, e9]
        obtain ⟨h6, h7, h8, h9, h5, hd, hho, hlc, hT⟩ := H
        exact ⟨h6, h7, h8, by rw [gI_sI, if_pos rfl], h5, hd, hho, hlc, hT⟩
      refine ih (j + 1) (br1 ||| 2 ^ j) τ2 (by omega) H2 hlt (hF.tr ?_) (fun i hi => ?_)
      · rw [e2]
        exact ⟨fun k _ c => by rw [gI_sI, if_neg c], fun _ _ _ => rfl⟩
      · rw [Nat.testBit_or, Nat.testBit_two_pow, Bool.or_eq_true, hx i hi, decide_eq_true_iff]
        constructor
        · rintro ((z | ⟨z, w⟩) | z)
          · exact Or.inl z
          · exact Or.inr ⟨by omega, w⟩
          · subst z; exact Or.inr ⟨by omega, by omega⟩
        · rintro (z | ⟨z, w⟩)
          · exact Or.inl (Or.inl z)
          · by_cases y : j = i
            · exact Or.inr y
            · exact Or.inl (Or.inr ⟨by omega, w⟩)
theorem bar_wp {σ : St} (hn : n ≤ 10) (H : DelC σ n m S lc sc br) (B : DelB n m S lc sc br) {post : St → Prop} (hp : ∀ τ br', DelC τ n m S lc sc br' → br' < 2 ^ n → FrW σ τ → (∀ j, j < n → (br'.testBit j = true ↔ br.testBit j = true ∨ Kc m S.1 S.2.2 (cst n m lc sc) j < S.2.1 * lc j)) → post τ) : wp_X0_barWhatCosts σ post := by
  refine ⟨n + 1, ?_⟩
  have B0 : DelB n m S lc sc 0 := ⟨B.1, B.2.1, B.2.2.1, Nat.two_pow_pos n, B.2.2.2.2⟩
  have := bar_lp (br := br) hn B0 hp n 0 br σ (by omega) H B.2.2.2.1 (FrW.rf σ) (fun i hi => ⟨Or.inl, fun z => z.elim id (fun w => absurd w.1 (Nat.not_lt_zero i))⟩)
  rw [nI_0] at this
  exact this
end GOAL
