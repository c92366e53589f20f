/-! ===== the reference: in, gcd, part; pair on both sides ===== -/
theorem mgcd_lp {σ : St} {post : Int64 → St → Prop} : ∀ (k a b : Nat), a < 2 ^ 63 → b < 2 ^ 63 → b ≤ k → post (lN (Nat.gcd a b)) σ → lp_X7_gcd_6 post (k + 1) (lN a) (lN b) σ := by
  have z : ∀ x : Nat, x < 2 ^ 63 → (lN x = 0 ↔ x = 0) := fun x hx => by
    rw [show (0 : Int64) = lN 0 from rfl]; exact pk_lEQ hx (by decide)
  intro k
  induction k with
  | zero =>
    intro a b ha hb hk hp
    have : b = 0 := by omega
    subst this
    rw [Nat.gcd_zero_right] at hp
    unfold lp_X7_gcd_6
    exact ⟨fun _ => hp, fun q => absurd rfl q⟩
  | succ k ih =>
    intro a b ha hb hk hp
    unfold lp_X7_gcd_6
    refine ⟨fun q => ?_, fun q => ⟨q, fun v hv => ?_⟩⟩
    · rw [(z b hb).mp q, Nat.gcd_zero_right] at hp; exact hp
    · have hb0 : 0 < b := Nat.pos_of_ne_zero (fun y => q ((z b hb).mpr y))
      have hr : a % b < b := Nat.mod_lt a hb0
      rw [hv, pk_lRem ha hb0 hb]
      refine ih b (a % b) hb (by omega) (by omega) ?_
      have : Nat.gcd b (a % b) = Nat.gcd a b := by rw [Nat.gcd_comm b, ← Nat.gcd_rec, Nat.gcd_comm]
      rw [this]; exact hp
theorem mpart_wp {σ : St} {post : Int64 → St → Prop} {a b : Nat} {w : Int32} (ha : a < 2 ^ 63) (hb : b < 2 ^ 63) (h0 : 0 < b) (hp : post (lN (if w = 0 then frU a b else frL a b)) σ) : wp_X7_part (lN a) (lN b) w σ post := by
  have g0 : 0 < Nat.gcd a b := Nat.gcd_pos_of_pos_right a h0
  have gb : Nat.gcd a b ≤ b := Nat.gcd_le_right a h0
  have ne : ¬ lN (Nat.gcd a b) = 0 := fun q => by
    rw [show (0 : Int64) = lN 0 from rfl, pk_lEQ (by omega) (by decide)] at q
    omega
  unfold wp_X7_part
  refine ⟨b + 1, mgcd_lp b a b ha hb (Nat.le_refl b) ⟨fun q => ⟨ne, ?_⟩, fun q => ⟨ne, ?_⟩⟩⟩
  · rw [pk_lDiv hb g0 (by omega)]; rw [if_neg q] at hp; exact hp
  · rw [pk_lDiv ha g0 (by omega)]; rw [if_pos q] at hp; exact hp
theorem in_wp {σ : St} {x lo hi : Int64} {post : Int32 → St → Prop} (h1 : lo.toInt ≤ x.toInt → x.toInt ≤ hi.toInt → post 1 σ) (h0 : ¬ (lo.toInt ≤ x.toInt ∧ x.toInt ≤ hi.toInt) → post 0 σ) : wp_X7_in x lo hi σ post := by
  unfold wp_X7_in
  rw [Int64.lt_iff_toInt_lt, Int64.lt_iff_toInt_lt]
  exact ⟨fun q => h0 (by omega), fun q => ⟨fun z => h0 (by omega), fun z => h1 (by omega) (by omega)⟩⟩
/-- what pair() answers -/
def PairOk (n a b c p w : Int32) : Prop := (0 ≤ c.toInt ∧ c.toInt ≤ a.toInt ∧ c.toInt ≤ b.toInt ∧ a.toInt ≤ n.toInt ∧ b.toInt ≤ n.toInt ∧ n.toInt ≤ 1000000) ∧ (0 ≤ p.toInt ∧ p.toInt ≤ 2) ∧ bz w
def PairS (n a b c p w : Int32) (r : Int64) : Prop := (¬ PairOk n a b c p w → r = -102) ∧ (PairOk n a b c p w → (c = 0 → r = -103) ∧ (¬ c = 0 → r = if p = 0 then frac (a.toInt * b.toInt) (n.toInt * c.toInt) w else if p = 1 then frac c.toInt b.toInt w else frac c.toInt a.toInt w))
theorem pairS_one {n a b c p w : Int32} {r r' : Int64} (h : PairS n a b c p w r) (h' : PairS n a b c p w r') : r = r' := by
  by_cases q : PairOk n a b c p w
  · by_cases z : c = 0
    · rw [(h.2 q).1 z, (h'.2 q).1 z]
    · rw [(h.2 q).2 z, (h'.2 q).2 z]
  · rw [h.1 q, h'.1 q]
theorem bz_int (w : Int32) : bz w ↔ 0 ≤ w.toInt ∧ w.toInt ≤ 1 := by
  constructor
  · rintro (h | h) <;> subst h <;> decide
  · intro h
    rcases (show w.toInt = 0 ∨ w.toInt = 1 by omega) with q | q
    · exact Or.inl (Int32.toInt_inj.mp q)
    · exact Or.inr (Int32.toInt_inj.mp q)
theorem c_pos {c : Int32} (h : 0 ≤ c.toInt) (hc : ¬ c = 0) : 0 < c.toInt := by
  have : c.toInt ≠ 0 := fun q => hc (Int32.toInt_inj.mp q)
  omega
/-- the fractions of a pair, by either side's part -/
theorem pair_fr {n a b c : Int32} (h : 0 ≤ c.toInt ∧ c.toInt ≤ a.toInt ∧ c.toInt ≤ b.toInt ∧ a.toInt ≤ n.toInt ∧ b.toInt ≤ n.toInt ∧ n.toInt ≤ 1000000) (hc : ¬ c = 0) :
    (∀ x : Int32, 0 ≤ x.toInt → Int32.toInt64 x = lN x.toInt.toNat) ∧ Int32.toInt64 a * Int32.toInt64 b = lN (a.toInt * b.toInt).toNat ∧ Int32.toInt64 n * Int32.toInt64 c = lN (n.toInt * c.toInt).toNat ∧ 0 ≤ a.toInt * b.toInt ∧ a.toInt * b.toInt ≤ 1000000000000 ∧ 0 < n.toInt * c.toInt ∧ n.toInt * c.toInt ≤ 1000000000000 := by
  have cp := c_pos h.1 hc
  have m1 := Int.mul_nonneg (show 0 ≤ a.toInt by omega) (show 0 ≤ b.toInt by omega)
  have m2 : a.toInt * b.toInt ≤ 1000000 * 1000000 := Int.mul_le_mul (by omega) (by omega) (by omega) (by decide)
  have m3 := Int.mul_pos (show 0 < n.toInt by omega) cp
  have m4 : n.toInt * c.toInt ≤ 1000000 * 1000000 := Int.mul_le_mul (by omega) (by omega) (by omega) (by decide)
  refine ⟨fun x hx => lN_of (Int32.toInt_toInt64 x) hx, ?_, ?_, m1, by omega, m3, by omega⟩
  · exact lN_of (by rw [fb_mulL (by rw [Int32.toInt_toInt64, Int32.toInt_toInt64]; omega) (by rw [Int32.toInt_toInt64, Int32.toInt_toInt64]; omega), Int32.toInt_toInt64, Int32.toInt_toInt64]) m1
  · exact lN_of (by rw [fb_mulL (by rw [Int32.toInt_toInt64, Int32.toInt_toInt64]; omega) (by rw [Int32.toInt_toInt64, Int32.toInt_toInt64]; omega), Int32.toInt_toInt64, Int32.toInt_toInt64]) (Int.le_of_lt m3)
theorem pairC_wp {σ : St} {n a b c p w : Int32} {post : Int64 → St → Prop} (hp : ∀ r, PairS n a b c p w r → post r σ) : wp_X6_pair n a b c p w σ post := by
  have out : ¬ PairOk n a b c p w → post (-102) σ := fun q => hp _ ⟨fun _ => rfl, fun z => absurd z q⟩
  have i6 : (1000000 : Int32).toInt = 1000000 := by decide
  have i0 : (0 : Int32).toInt = 0 := rfl
  have i2 : (2 : Int32).toInt = 2 := by decide
  unfold wp_X6_pair wp_X6_isPair
  simp only [Int32.lt_iff_toInt_lt, i6, i0, i2]
  have bad : ∀ P : Prop, (P → ¬ PairOk n a b c p w) → P → ((0 : Int32) = 0 → post (-102) σ) := fun P h hP _ => out (h hP)
  refine ⟨fun q => ⟨fun _ => out (fun z => by have := z.1; omega), fun z => absurd trivial z⟩, fun q1 => ⟨fun q => ⟨fun _ => out (fun z => by have := z.1; omega), fun z => absurd trivial z⟩, fun q2 => ⟨fun q => ⟨fun _ => out (fun z => by have := z.1; omega), fun z => absurd trivial z⟩, fun q3 => ⟨fun q => ⟨fun _ => out (fun z => by have := z.1; omega), fun z => absurd trivial z⟩, fun q4 => ⟨fun q => ⟨fun _ => out (fun z => by have := z.1; omega), fun z => absurd trivial z⟩, fun q5 => ⟨fun q => ⟨fun _ => out (fun z => by have := z.1; omega), fun z => absurd trivial z⟩, fun q6 => ⟨fun z => absurd z (by decide), fun _ => ⟨fun q => out (fun z => by have := z.2.1; omega), fun q7 => ⟨fun q => out (fun z => by have := z.2.1; omega), fun q8 => z1_wp (fun q => ⟨fun z => absurd rfl z, fun _ => out (fun z => q z.2.2)⟩) (fun hw => ⟨fun _ => ?_, fun z => absurd z (by decide)⟩)⟩⟩⟩⟩⟩⟩⟩⟩⟩
  have ok : PairOk n a b c p w := ⟨by omega, by omega, hw⟩
  refine ⟨fun hc => ?_, fun hc => hp _ ⟨fun z => absurd ok z, fun _ => ⟨fun _ => rfl, fun z => absurd hc z⟩⟩⟩
  obtain ⟨f1, f2, f3, f4, f5, f6, f7⟩ := pair_fr ok.1 hc
  have cp := c_pos ok.1.1 hc
  have fin : ∀ r, (r = if p = 0 then frac (a.toInt * b.toInt) (n.toInt * c.toInt) w else if p = 1 then frac c.toInt b.toInt w else frac c.toInt a.toInt w) → post r σ := fun r hr => hp r ⟨fun z => absurd ok z, fun _ => ⟨fun z => absurd z hc, fun _ => hr⟩⟩
  refine ⟨fun z0 => ⟨fun z1 => ?_, fun z1 => ?_⟩, fun z0 => ?_⟩
  · rw [f1 c ok.1.1, f1 a (by omega)]
    exact part_wp (by omega) (by omega) (by omega) (fin _ (by rw [if_neg z0, if_neg z1]; rfl))
  · rw [f1 c ok.1.1, f1 b (by omega)]
    exact part_wp (by omega) (by omega) (by omega) (fin _ (by rw [if_neg z0, if_pos z1]; rfl))
  · rw [f2, f3]
    exact part_wp (by omega) (by omega) (by omega) (fin _ (by rw [if_pos z0]; rfl))
