/-! ===== the reference's pair ===== -/
theorem pairM_wp {σ : St} {n a b c p w : Int32} {post : Int64 → St → Prop} (hp : ∀ r, PairS n a b c p w r → post r σ) : wp_X7_pair n a b c p w σ post := by
  have out : ¬ PairOk n a b c p w → post (-102) σ := fun q => hp _ ⟨fun _ => rfl, fun z => absurd z q⟩
  have t : ∀ x : Int32, (Int32.toInt64 x).toInt = x.toInt := fun x => Int32.toInt_toInt64 x
  have l0 : (0 : Int64).toInt = 0 := rfl
  have l1 : (1 : Int64).toInt = 1 := by decide
  have l2 : (2 : Int64).toInt = 2 := by decide
  have l6 : (1000000 : Int64).toInt = 1000000 := by decide
  have bad : ¬ PairOk n a b c p w → jn_X7_pair_56 post n a b c p w σ := fun q => ⟨fun _ => out q, fun z => absurd rfl z⟩
  unfold wp_X7_pair
  refine in_wp (fun h1 h2 => ⟨fun z => absurd z (by decide), fun _ => in_wp (fun h3 h4 => ⟨fun z => absurd z (by decide), fun _ => in_wp (fun h5 h6 => ⟨fun z => absurd z (by decide), fun _ => in_wp (fun h7 h8 => ⟨fun z => absurd z (by decide), fun _ => ⟨fun q => bad (fun z => ?_), fun q => ?_⟩⟩) (fun q => ⟨fun _ => bad (fun z => q ?_), fun z => absurd rfl z⟩)⟩) (fun q => ⟨fun _ => bad (fun z => q ?_), fun z => absurd rfl z⟩)⟩) (fun q => ⟨fun _ => bad (fun z => q ?_), fun z => absurd rfl z⟩)⟩) (fun q => ⟨fun _ => bad (fun z => q ?_), fun z => absurd rfl z⟩)
  · rw [Int32.lt_iff_toInt_lt] at q
    have := z.1; omega
  · rw [t] at h1 h2 h3 h4 h5 h6 h7 h8
    rw [t] at h4 h6 h8
    rw [l0] at h1 h3 h5 h7
    rw [l6] at h2
    rw [Int32.lt_iff_toInt_lt] at q
    refine ⟨fun z => absurd z (by decide), fun _ => in_wp (fun g1 g2 => ⟨fun z => absurd z (by decide), fun _ => in_wp (fun g3 g4 => ⟨fun _ => ?_, fun z => absurd z (by decide)⟩) (fun q2 => ⟨fun z => absurd rfl z, fun _ => out (fun z => q2 ?_)⟩)⟩) (fun q2 => ⟨fun _ => out (fun z => q2 ?_), fun z => absurd rfl z⟩)⟩
    · rw [t, l0] at g1 g3
      rw [t, l2] at g2
      rw [t, l1] at g4
      have ok : PairOk n a b c p w := ⟨by omega, by omega, (bz_int w).mpr (by omega)⟩
      refine ⟨fun hc => ?_, fun hc => hp _ ⟨fun z => absurd ok z, fun _ => ⟨fun _ => rfl, fun z => absurd hc z⟩⟩⟩
      obtain ⟨f1, f2, f3, f4, f5, f6, f7⟩ := pair_fr ok.1 hc
      have cp := c_pos ok.1.1 hc
      have fin : ∀ r, (r = if p = 0 then frac (a.toInt * b.toInt) (n.toInt * c.toInt) w else if p = 1 then frac c.toInt b.toInt w else frac c.toInt a.toInt w) → post r σ := fun r hr => hp r ⟨fun z => absurd ok z, fun _ => ⟨fun z => absurd z hc, fun _ => hr⟩⟩
      refine ⟨fun z0 => ⟨fun z1 => ?_, fun z1 => ?_⟩, fun z0 => ?_⟩
      · rw [f1 c ok.1.1, f1 a (by omega)]
        exact mpart_wp (by omega) (by omega) (by omega) (fin _ (by rw [if_neg z0, if_neg z1]; rfl))
      · rw [f1 c ok.1.1, f1 b (by omega)]
        exact mpart_wp (by omega) (by omega) (by omega) (fin _ (by rw [if_neg z0, if_pos z1]; rfl))
      · rw [f2, f3]
        exact mpart_wp (by omega) (by omega) (by omega) (fin _ (by rw [if_pos z0]; rfl))
    · rw [t, l0, l1]; exact (bz_int w).mp z.2.2
    · rw [t, l0, l2]; exact z.2.1
  · rw [t, t, l0]; have := z.1; omega
  · rw [t, t, l0]; have := z.1; omega
  · rw [t, t, l0]; have := z.1; omega
  · rw [t, l0, l6]; have := z.1; omega
/-- pair, on both sides -/
theorem pair_step {σ τ : St} {a1 a2 a3 a4 a5 a6 : Int32} {next : St → St → Prop} (h : next σ τ) : wp_X6_pair a1 a2 a3 a4 a5 a6 σ (fun r1 σ1 => wp_X7_pair a1 a2 a3 a4 a5 a6 τ (fun r2 τ1 => r1 = r2 ∧ next σ1 τ1)) :=
  pairC_wp (fun _ h1 => pairM_wp (fun _ h2 => ⟨pairS_one h1 h2, h⟩))
