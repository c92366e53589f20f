/-! ===== the reference's bound, shown, settled ===== -/
theorem in01_wp {σ : St} {x : Int32} {post : Int32 → St → Prop} (hno : ¬ bz x → post 0 σ) (hyes : bz x → post 1 σ) : wp_X7_in (Int32.toInt64 x) 0 1 σ post := by
  have l1 : (1 : Int64).toInt = 1 := by decide
  have l0 : (0 : Int64).toInt = 0 := rfl
  refine in_wp (fun h1 h2 => hyes ((bz_int x).mpr ?_)) (fun h => hno (fun z => h ?_))
  · rw [Int32.toInt_toInt64, l0] at h1
    rw [Int32.toInt_toInt64, l1] at h2
    exact ⟨h1, h2⟩
  · rw [Int32.toInt_toInt64, l0, l1]; exact (bz_int x).mp z
section MBD
variable {n k o M Bm : Nat} {ws ss os : Nat → Nat}
theorem partX_wp {σ : St} {r l : Int64} {u d : Int} {w : Int32} (hr : r.toInt = u) (hl : l.toInt = d) (h0 : 0 ≤ u) (hd : 0 < d) {post : Int64 → St → Prop} (hp : post (frac u d w) σ) : wp_X7_part r l w σ post := by
  have e1 := lN_of hr h0
  have e2 := lN_of hl (Int.le_of_lt hd)
  have b1 := (fb_rngL r).2
  have b2 := (fb_rngL l).2
  rw [e1, e2]
  exact mpart_wp (by omega) (by omega) (by omega) hp
theorem boundM_wp {σ : St} (F : NetM σ n k o M Bm ws ss os) (G : NetG n k o M Bm ws ss os) {x e w : Int32} {post : Int64 → St → Prop} (hp : ∀ r τ, BndA n k M ws ss x e w r → FrD σ τ → post r τ) : wp_X7_bound x e w σ post := by
  have n10 := G.1.2.1
  have out : ¬ ((∃ s, s < 2 ^ n ∧ x = nI s) ∧ bz e ∧ bz w) → post (-102) σ := fun q => hp _ _ ⟨fun _ => rfl, fun s hs a b c => absurd ⟨⟨s, hs, a⟩, b, c⟩ q⟩ (FrD.rf σ)
  unfold wp_X7_bound
  refine noSet_wp F.1 n10 nI_0.symm (by decide) (fun q => ⟨fun _ => out (fun z => q (by obtain ⟨s, a, b⟩ := z.1; exact ⟨s, Nat.zero_le s, a, b⟩)), fun z => absurd z (by decide)⟩) (fun s _ hs hx => ⟨fun z => absurd rfl z, fun _ => in01_wp (fun q => ⟨fun _ => out (fun z => q z.2.1), fun z => absurd rfl z⟩) (fun he => ⟨fun z => absurd z (by decide), fun _ => in01_wp (fun q => ⟨fun z => absurd rfl z, fun _ => out (fun z => q z.2.2)⟩) (fun hw => ⟨fun _ => ?_, fun z => absurd z (by decide)⟩)⟩)⟩)
  have mk : ∀ r τ, BndS n k M ws ss s e w r → FrD σ τ → post r τ := fun r τ h a => hp r τ ⟨fun q => absurd ⟨⟨s, hs, hx⟩, he, hw⟩ q, fun s2 hs2 hx2 _ _ => by
    have : s2 = s := (nI_eq (m31 hs2 n10) (m31 hs n10)).mp (hx2.symm.trans hx)
    rw [this]; exact h⟩ a
  refine onSet_wp F G (doFit_wp F G G.2.2.1 (fun r12 τ hr hF => ⟨fun q => ?_, fun q => mk _ _ ⟨fun _ => rfl, fun z => absurd (hr.1 z) (by rw [q]; decide)⟩ hF⟩))
  have fit : FitW n ws ss M := Classical.not_not.mp (fun z => q (hr.2 z))
  have F2 := netM_fr F hF.m
  rw [hx]
  refine endlessM_wp F2 G hs (fun h0 => ⟨fun _ => ?_, fun z => absurd rfl z⟩) (fun h1 h2 => ⟨fun z => absurd z (by decide), fun _ => mk _ _ ⟨fun z => absurd fit z, fun _ => ⟨fun _ => rfl, fun z => absurd ⟨h1, h2⟩ z⟩⟩ hF⟩)
  refine find_wp F2 G hs he fit h0 (fun r18 τ2 X d fx hE lX vX hF2 => of9_wp n10 hs vX fx.2 (fun r20 hr20 => partX_wp hr20 lX (osum_nonneg (fun j hj => (fx.2 j hj).1)) fx.1.1 ?_))
  exact mk _ _ ⟨fun z => absurd fit z, fun _ => ⟨fun z => absurd (h0 z.1) z.2, fun _ => ⟨X, d, hE 0 (Nat.zero_le n), rfl⟩⟩⟩ (hF.tr hF2)
theorem shownM_wp {σ : St} (F : NetM σ n k o M Bm ws ss os) (G : NetG n k o M Bm ws ss os) {x e l w : Int32} {post : Int64 → St → Prop} (hp : ∀ r τ, ShwA n k M ws ss x e l w r → FrD σ τ → post r τ) : wp_X7_shown x e l w σ post := by
  have n10 := G.1.2.1
  unfold wp_X7_shown
  refine noLine_wp F.1 n10 (fun q => ⟨fun z => absurd z (by decide), fun _ => hp _ _ ⟨fun _ => rfl, fun j hj e => absurd ⟨j, hj, e⟩ q⟩ (FrD.rf σ)⟩) (fun j hj hl => ⟨fun _ => ?_, fun z => absurd rfl z⟩)
  have mk0 : ∀ r τ, ((¬ ((∃ s, s < 2 ^ n ∧ x = nI s) ∧ bz e ∧ bz w) → r = -102) ∧ ∀ s, s < 2 ^ n → x = nI s → bz e → bz w → ShwS n k M ws ss s e j w r) → FrD σ τ → post r τ := fun r τ h a => hp r τ ⟨fun q => absurd ⟨j, hj, hl⟩ q, fun j2 hj2 hl2 => by
    have : j2 = j := (nI_eq (by omega) (by omega)).mp (hl2.symm.trans hl)
    rw [this]; exact h⟩ a
  have out : ¬ ((∃ s, s < 2 ^ n ∧ x = nI s) ∧ bz e ∧ bz w) → post (-102) σ := fun q => mk0 _ _ ⟨fun _ => rfl, fun s hs a b c => absurd ⟨⟨s, hs, a⟩, b, c⟩ q⟩ (FrD.rf σ)
  refine noSet_wp F.1 n10 nI_0.symm (by decide) (fun q => ⟨fun _ => out (fun z => q (by obtain ⟨s, a, b⟩ := z.1; exact ⟨s, Nat.zero_le s, a, b⟩)), fun z => absurd z (by decide)⟩) (fun s _ hs hx => ⟨fun z => absurd rfl z, fun _ => in01_wp (fun q => ⟨fun _ => out (fun z => q z.2.1), fun z => absurd rfl z⟩) (fun he => ⟨fun z => absurd z (by decide), fun _ => in01_wp (fun q => ⟨fun z => absurd rfl z, fun _ => out (fun z => q z.2.2)⟩) (fun hw => ⟨fun _ => ?_, fun z => absurd z (by decide)⟩)⟩)⟩)
  have mk : ∀ r τ, ShwS n k M ws ss s e j w r → FrD σ τ → post r τ := fun r τ h a => mk0 r τ ⟨fun q => absurd ⟨⟨s, hs, hx⟩, he, hw⟩ q, fun s2 hs2 hx2 _ _ => by
    have : s2 = s := (nI_eq (m31 hs2 n10) (m31 hs n10)).mp (hx2.symm.trans hx)
    rw [this]; exact h⟩ a
  refine onSet_wp F G (doFit_wp F G G.2.2.1 (fun r12 τ hr hF => ⟨fun q => ?_, fun q => mk _ _ ⟨fun _ => rfl, fun z => absurd (hr.1 z) (by rw [q]; decide)⟩ hF⟩))
  have fit : FitW n ws ss M := Classical.not_not.mp (fun z => q (hr.2 z))
  have F2 := netM_fr F hF.m
  rw [hx]
  refine endlessM_wp F2 G hs (fun h0 => ⟨fun _ => ?_, fun z => absurd rfl z⟩) (fun h1 h2 => ⟨fun z => absurd z (by decide), fun _ => mk _ _ ⟨fun z => absurd fit z, fun _ => ⟨fun _ => rfl, fun z => absurd ⟨h1, h2⟩ z⟩⟩ hF⟩)
  refine find_wp F2 G hs he fit h0 (fun r18 τ2 X d fx hE lX vX hF2 => ?_)
  rw [hl, nI_clamp (by omega)]
  refine ⟨idx10 (by omega), partX_wp (vX j hj) lX (fx.2 j hj).1 fx.1.1 ?_⟩
  exact mk _ _ ⟨fun z => absurd fit z, fun _ => ⟨fun z => absurd (h0 z.1) z.2, fun _ => ⟨X, d, hE (j + 1) (by omega), rfl⟩⟩⟩ (hF.tr hF2)
theorem seenM_lt (G : NetG n k o M Bm ws ss os) : seenM ws M k < 2 ^ n := lt_of_bits (fun i hi => by
  rw [Bool.eq_false_iff]
  intro q
  obtain ⟨w, h1, h2, h3⟩ := (seenM_bit ws M k i).mp q
  rw [bits_of_lt (G.1.2.2.2.1 w h1).2 hi] at h3
  cases h3)
theorem seen_one {j : Nat} : allSeen ws M k (2 ^ j) ↔ (seenM ws M k).testBit j = true := by
  constructor
  · exact fun h => h j (by rw [Nat.testBit_two_pow, decide_eq_true rfl])
  · intro h i hi
    rw [Nat.testBit_two_pow, decide_eq_true_iff] at hi
    rw [← hi]; exact h
theorem isSettledM_wp {σ : St} (F : NetM σ n k o M Bm ws ss os) (G : NetG n k o M Bm ws ss os) (fit : FitW n ws ss M) {j : Nat} (hj : j < n) {post : Int32 → St → Prop} (hp : ∀ r τ, ((StlP n k M ws ss j → r = 1) ∧ (¬ StlP n k M ws ss j → r = 0)) → FrD σ τ → post r τ) : wp_X7_isSettled (nI j) σ post := by
  have n10 := G.1.2.1
  have hpj : 2 ^ j < 2 ^ n := Nat.pow_lt_pow_right (by decide) hj
  unfold wp_X7_isSettled
  refine seenSet_wp F G ?_
  rw [bit_at (m31 (seenM_lt G) n10) (by omega), one_shl (by omega), nI_clamp (by omega)]
  refine ⟨fun q => ?_, fun q => hp _ _ ⟨fun z => ?_, fun _ => rfl⟩ (FrD.rf σ)⟩
  · have hs : allSeen ws M k (2 ^ j) := seen_one.mpr ((bit_ne0 _).mp q)
    refine find_wp F G hpj bz_0 fit (fun z => absurd z (by decide)) (fun r4 τ X d fx hE lX vX hF => ⟨idx10 (by omega), fun v6 hv6 v8 hv8 => ?_⟩)
    rw [if_pos rfl] at hE
    refine find_wp (netM_fr F hF.m) G hpj bz_1 fit (fun _ => hs) (fun r10 τ2 Y e fy hE2 lY vY hF2 => ⟨idx10 (by omega), ?_⟩)
    rw [if_neg (by decide)] at hE2
    have t6 : v6.toInt = X j := by rw [hv6]; exact vX j hj
    have t8 : v8.toInt = d := by rw [hv8]; exact lX
    have bx := fx.2 j hj
    have by_ := fy.2 j hj
    have m1 := abs_mul_le (a := X j) (A := 362880000000) (b := e) (B := 38981) (by omega) (by have := fy.1; omega)
    have m2 := abs_mul_le (a := Y j) (A := 362880000000) (b := d) (B := 38981) (by omega) (by have := fx.1; omega)
    have p1 : (v6 * gL τ2 2).toInt = X j * e := by rw [fb_mulL (by rw [t6, lY]; omega) (by rw [t6, lY]; omega), t6, lY]
    have p2 : (gB τ2 2 j * v8).toInt = Y j * d := by rw [fb_mulL (by rw [vY j hj, t8]; omega) (by rw [vY j hj, t8]; omega), vY j hj, t8]
    have iff := stlP_of (k := k) hj hs (hE 0 (Nat.zero_le n)) (hE2 0 (Nat.zero_le n))
    exact ⟨fun q2 => hp _ _ ⟨fun z => absurd (Int64.toInt_inj.mp (by rw [p1, p2]; exact iff.mp z)) q2, fun _ => rfl⟩ (hF.tr hF2), fun q2 => hp _ _ ⟨fun _ => rfl, fun z => absurd (iff.mpr (by rw [← p1, ← p2, q2])) z⟩ (hF.tr hF2)⟩
  · have := seen_one.mp z.1
    rw [(bit_0 _).mp q] at this; cases this
theorem settledM_wp {σ : St} (F : NetM σ n k o M Bm ws ss os) (G : NetG n k o M Bm ws ss os) {x : Int32} {post : Int32 → St → Prop} (hp : ∀ r τ, StlA n k M ws ss x r → FrD σ τ → post r τ) : wp_X7_settled x σ post := by
  have n10 := G.1.2.1
  unfold wp_X7_settled
  refine noLine_wp F.1 n10 (fun q => ⟨fun z => absurd z (by decide), fun _ => hp _ _ ⟨fun _ => rfl, fun j hj e => absurd ⟨j, hj, e⟩ q⟩ (FrD.rf σ)⟩) (fun j hj hl => ⟨fun _ => ?_, fun z => absurd rfl z⟩)
  have mk : ∀ r τ, ((¬ FitW n ws ss M → r = -103) ∧ (FitW n ws ss M → (StlP n k M ws ss j → r = 1) ∧ (¬ StlP n k M ws ss j → r = 0))) → FrD σ τ → post r τ := fun r τ h a => hp r τ ⟨fun q => absurd ⟨j, hj, hl⟩ q, fun j2 hj2 hl2 => by
    have : j2 = j := (nI_eq (by omega) (by omega)).mp (hl2.symm.trans hl)
    rw [this]; exact h⟩ a
  refine onSet_wp F G (doFit_wp F G G.2.2.1 (fun r12 τ hr hF => ⟨fun q => ?_, fun q => mk _ _ ⟨fun _ => rfl, fun z => absurd (hr.1 z) (by rw [q]; decide)⟩ hF⟩))
  have fit : FitW n ws ss M := Classical.not_not.mp (fun z => q (hr.2 z))
  rw [hl]
  refine isSettledM_wp (netM_fr F hF.m) G fit hj (fun r τ2 h hF2 => ?_)
  refine ⟨fun z => mk _ _ ⟨fun y => absurd fit y, fun _ => ⟨fun y => absurd (h.1 y) (by rw [z]; decide), fun _ => rfl⟩⟩ (hF.tr hF2), fun z => mk _ _ ⟨fun y => absurd fit y, fun _ => ⟨fun _ => rfl, fun y => absurd (h.2 y) z⟩⟩ (hF.tr hF2)⟩
theorem stlA_one {x r r' : Int32} (h : StlA n k M ws ss x r) (h' : StlA n k M ws ss x r') : r = r' := by
  by_cases q : ∃ j, j < n ∧ x = nI j
  · obtain ⟨j, hj, e⟩ := q
    have a := h.2 j hj e
    have b := h'.2 j hj e
    by_cases f : FitW n ws ss M
    · by_cases z : StlP n k M ws ss j
      · rw [(a.2 f).1 z, (b.2 f).1 z]
      · rw [(a.2 f).2 z, (b.2 f).2 z]
    · rw [a.1 f, b.1 f]
  · rw [h.1 q, h'.1 q]
theorem bndA_one {x e w : Int32} {r r' : Int64} (h : BndA n k M ws ss x e w r) (h' : BndA n k M ws ss x e w r') : r = r' := by
  by_cases q : (∃ s, s < 2 ^ n ∧ x = nI s) ∧ bz e ∧ bz w
  · obtain ⟨⟨s, hs, hx⟩, he, hw⟩ := q
    exact bndS_one (h.2 s hs hx he hw) (h'.2 s hs hx he hw)
  · rw [h.1 q, h'.1 q]
theorem shwA_one {x e l w : Int32} {r r' : Int64} (h : ShwA n k M ws ss x e l w r) (h' : ShwA n k M ws ss x e l w r') : r = r' := by
  by_cases q : ∃ j, j < n ∧ l = nI j
  · obtain ⟨j, hj, e0⟩ := q
    have a := h.2 j hj e0
    have b := h'.2 j hj e0
    by_cases q : (∃ s, s < 2 ^ n ∧ x = nI s) ∧ bz e ∧ bz w
    · obtain ⟨⟨s, hs, hx⟩, he, hw⟩ := q
      exact shwS_one hj (a.2 s hs hx he hw) (b.2 s hs hx he hw)
    · rw [a.1 q, b.1 q]
  · rw [h.1 q, h'.1 q]
end MBD
