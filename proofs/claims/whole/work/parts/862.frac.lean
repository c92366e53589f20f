/-! ===== fractions in least terms ===== -/
def frU (a b : Nat) : Nat := a / Nat.gcd a b
def frL (a b : Nat) : Nat := b / Nat.gcd a b
theorem fr_eq {a b c d : Nat} (hb : 0 < b) (hd : 0 < d) (h : a * d = c * b) : frU a b = frU c d ∧ frL a b = frL c d := by
  have e1 : Nat.gcd a b * d = Nat.gcd c d * b := by
    rw [← Nat.gcd_mul_right, ← Nat.gcd_mul_right, h, Nat.mul_comm b d]
  have g1 : 0 < Nat.gcd a b := Nat.gcd_pos_of_pos_right a hb
  have g2 : 0 < Nat.gcd c d := Nat.gcd_pos_of_pos_right c hd
  unfold frU frL
  refine ⟨?_, ?_⟩
  · rw [← Nat.mul_div_mul_right a (Nat.gcd a b) hd, e1, h, Nat.mul_div_mul_right c (Nat.gcd c d) hb]
  · rw [← Nat.mul_div_mul_right b (Nat.gcd a b) hd, e1, Nat.mul_comm b d, Nat.mul_div_mul_right d (Nat.gcd c d) hb]
theorem lN_of {r : Int64} {u : Int} (h : r.toInt = u) (h0 : 0 ≤ u) : r = lN u.toNat := by
  have hu : (u.toNat : Int) = u := Int.toNat_of_nonneg h0
  have h2 := (fb_rngL r).2
  refine Int64.toInt_inj.mp ?_
  rw [pk_lT (by omega), hu, h]
theorem mod_half {b r k : Nat} (h0 : 0 < r) (hr : r < b) (hb : b < 2 ^ (k + 1)) : b % r < 2 ^ k := by
  have h1 := Nat.mod_lt b h0
  have h2 : b % r + r ≤ b := by
    have := Nat.div_add_mod b r
    have h3 : 1 ≤ b / r := Nat.div_pos (Nat.le_of_lt hr) h0
    have h4 : r * 1 ≤ r * (b / r) := Nat.mul_le_mul_left r h3
    omega
  rw [Nat.pow_succ] at hb
  omega
theorem gd_lp {σ : St} {post : Int64 → St → Prop} : ∀ (k a b st : Nat), a < 2 ^ 63 → b < 2 ^ 63 → b < 2 ^ k → st + 2 * k + 1 ≤ 100 → (post (lN (Nat.gcd a b)) σ) → lp_X6_greatestDivisor_9 post (2 * k + 1) (lN a) (lN b) (nI st) σ := by
  have e100 : (100 : Int32) = nI 100 := by decide
  have z : ∀ x : Nat, x < 2 ^ 63 → (lN x = 0 ↔ x = 0) := fun x hx => by
    rw [show (0 : Int64) = lN 0 from rfl]; exact pk_lEQ hx (by decide)
  intro k
  induction k with
  | zero =>
    intro a b st ha hb hk hs hp
    have : b = 0 := by have : b < 1 := hk; omega
    subst this
    rw [Nat.gcd_zero_right] at hp
    show lp_X6_greatestDivisor_9 post (0 + 1) _ _ _ σ
    unfold lp_X6_greatestDivisor_9
    rw [e100]
    exact ⟨fun _ => hp, fun _ => ⟨fun _ => hp, fun q => absurd rfl q⟩⟩
  | succ k ih =>
    intro a b st ha hb hk hs hp
    show lp_X6_greatestDivisor_9 post ((2 * k + 1 + 1) + 1) _ _ _ σ
    unfold lp_X6_greatestDivisor_9
    rw [e100]
    refine ⟨fun q => absurd q (nI_ge (show st < 100 by omega) (by decide)), fun _ => ⟨fun q => ?_, fun q => ⟨q, fun v hv w hw => ?_⟩⟩⟩
    · rw [(z b hb).mp q, Nat.gcd_zero_right] at hp; exact hp
    · have hb0 : 0 < b := Nat.pos_of_ne_zero (fun y => q ((z b hb).mpr y))
      have hr : a % b < b := Nat.mod_lt a hb0
      rw [hv, hw, pk_lRem ha hb0 hb, nI_1]
      unfold lp_X6_greatestDivisor_9
      rw [e100]
      refine ⟨fun q2 => absurd q2 (nI_ge (show st + 1 < 100 by omega) (by decide)), fun _ => ⟨fun q2 => ?_, fun q2 => ⟨q2, fun v2 hv2 w2 hw2 => ?_⟩⟩⟩
      · have y := (z (a % b) (by omega)).mp q2
        have : Nat.gcd a b = b := by rw [Nat.gcd_comm, Nat.gcd_rec, y, Nat.gcd_zero_left]
        rw [this] at hp; exact hp
      · have r0 : 0 < a % b := Nat.pos_of_ne_zero (fun y => q2 ((z (a % b) (by omega)).mpr y))
        have hm := mod_half r0 hr hk
        rw [hv2, hw2, pk_lRem hb r0 (by omega), nI_1]
        refine ih (a % b) (b % (a % b)) (st + 1 + 1) (by omega) (Nat.lt_of_le_of_lt (Nat.mod_le b (a % b)) hb) hm (by omega) ?_
        have e1 : Nat.gcd a b = Nat.gcd (a % b) (b % (a % b)) := by
          rw [Nat.gcd_comm a b, Nat.gcd_rec b a, Nat.gcd_rec (a % b) b, Nat.gcd_comm]
        rw [← e1]; exact hp
theorem gd_wp {σ : St} {post : Int64 → St → Prop} {a b : Nat} (ha : a < 2 ^ 63) (hb : b < 2 ^ 49) (hp : post (lN (Nat.gcd a b)) σ) : wp_X6_greatestDivisor (lN a) (lN b) σ post := by
  refine ⟨2 * 49 + 1, ?_⟩
  have := gd_lp (σ := σ) (post := post) 49 a b 0 ha (by omega) hb (by omega) hp
  rw [nI_0] at this
  exact this
/-- partOfFraction: in least terms -/
theorem part_wp {σ : St} {post : Int64 → St → Prop} {a b : Nat} {w : Int32} (ha : a < 2 ^ 63) (hb : b < 2 ^ 49) (h0 : 0 < b) (hp : post (lN (if w = 0 then frU a b else frL a b)) σ) : wp_X6_partOfFraction (lN a) (lN b) w σ post := by
  have g0 : 0 < Nat.gcd a b := Nat.gcd_pos_of_pos_right a h0
  have gb : Nat.gcd a b ≤ b := Nat.gcd_le_right a h0
  have jn : ∀ x : Nat, x < 2 ^ 63 → post (lN (x / Nat.gcd a b)) σ → jn_X6_partOfFraction_17 post (lN (Nat.gcd a b)) (lN x) σ := fun x hx h => by
    unfold jn_X6_partOfFraction_17
    refine ⟨fun q => ?_, fun _ => ⟨fun q => ?_, by rw [pk_lDiv hx g0 (by omega)]; exact h⟩⟩
    · rw [show (0 : Int64) = lN 0 from rfl, pk_lLE (by omega) (by decide)] at q
      omega
    · rw [show (0 : Int64) = lN 0 from rfl, pk_lEQ (by omega) (by decide)] at q
      omega
  unfold wp_X6_partOfFraction
  refine gd_wp ha hb ⟨fun q => jn b (by omega) ?_, fun q => jn a ha ?_⟩
  · rw [if_neg q] at hp; exact hp
  · rw [if_pos q] at hp; exact hp
