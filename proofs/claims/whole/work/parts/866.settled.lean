/-! ===== the class's settled ===== -/
section STL
variable {n k o M Bm : Nat} {ws ss os : Nat → Nat}
/-- a line is settled: it is seen, and its least and greatest are the same -/
def StlP (n k M : Nat) (ws ss : Nat → Nat) (j : Nat) : Prop := allSeen ws M k (2 ^ j) ∧ ∀ X d Y e, EndF n ws ss M (2 ^ j) 1 0 X d → EndF n ws ss M (2 ^ j) (-1) 0 Y e → X j * e = Y j * d
theorem cross4 {x d x' d' y e y' e' : Int} (hd : 0 < d) (he : 0 < e) (h1 : x * d' = x' * d) (h2 : y * e' = y' * e) (h3 : x * e = y * d) : x' * e' = y' * d' := by
  have k : x' * e' * (d * e) = y' * d' * (d * e) := by
    calc x' * e' * (d * e) = (x' * d) * (e * e') := by simp only [Int.mul_assoc, Int.mul_left_comm, Int.mul_comm]
      _ = (x * d') * (e * e') := by rw [h1]
      _ = (x * e) * (d' * e') := by simp only [Int.mul_assoc, Int.mul_left_comm, Int.mul_comm]
      _ = (y * d) * (d' * e') := by rw [h3]
      _ = (y * e') * (d * d') := by simp only [Int.mul_assoc, Int.mul_left_comm, Int.mul_comm]
      _ = (y' * e) * (d * d') := by rw [h2]
      _ = y' * d' * (d * e) := by simp only [Int.mul_assoc, Int.mul_left_comm, Int.mul_comm]
  exact Int.eq_of_mul_eq_mul_right (by have := Int.mul_pos hd he; omega) k
theorem stlP_of {j : Nat} (hj : j < n) (hs : allSeen ws M k (2 ^ j)) {X Y : Nat → Int} {d e : Int} (h1 : EndF n ws ss M (2 ^ j) 1 0 X d) (h2 : EndF n ws ss M (2 ^ j) (-1) 0 Y e) : StlP n k M ws ss j ↔ X j * e = Y j * d := by
  refine ⟨fun h => h.2 X d Y e h1 h2, fun h => ⟨hs, fun X' d' Y' e' h1' h2' => ?_⟩⟩
  have a := endF_same (Or.inl rfl) h1 h1'
  have b := endF_same (Or.inr rfl) h2 h2'
  rw [osum_one hj, osum_one hj] at a b
  exact cross4 h1.1.1 h2.1.1 a b h
theorem upr_bound {m : Nat} {S : Sx} {lc : Nat → Int} {sc : Int} {br : Nat} (B : DelB n m S lc sc br) (s : Nat) : -3628800000000 ≤ upr n m S s ∧ upr n m S s ≤ 3628800000000 := by
  have := sg_bound (f := fun t => if S.1 t < n ∧ s.testBit (S.1 t) = true then S.2.2 t (n + m) else 0) (c := 362880000000) (n := m) (fun t ht => by
    show -362880000000 ≤ (if S.1 t < n ∧ s.testBit (S.1 t) = true then S.2.2 t (n + m) else 0) ∧ (if S.1 t < n ∧ s.testBit (S.1 t) = true then S.2.2 t (n + m) else 0) ≤ 362880000000
    by_cases q : S.1 t < n ∧ s.testBit (S.1 t) = true
    · rw [if_pos q]; exact B.2.2.2.2.2.2.2.2.2 t ht
    · rw [if_neg q]; omega)
  have m10 : ((m : Nat) : Int) ≤ 10 := by have := B.2.2.1; omega
  have hb2 : (m : Int) * 362880000000 ≤ 10 * 362880000000 := Int.mul_le_mul_of_nonneg_right m10 (by decide)
  unfold upr
  omega
theorem isSettled_wp {σ : St} (F : NetF σ n k o M Bm ws ss os) (G : NetG n k o M Bm ws ss os) (h11 : gI σ 11 = 1) (ok : DelOK σ n ws ss M) {j : Nat} (hj : j < n) {post : Int32 → St → Prop}
    (hp : ∀ r τ, ((StlP n k M ws ss j → r = 1) ∧ (¬ StlP n k M ws ss j → r = 0)) → FrW σ τ → DelOK τ n ws ss M → post r τ) : wp_X6_isSettledLine (nI j) σ post := by
  have g2 := G.1.2.1
  have g3 := G.1.2.2.1
  have hM := G.2.2.1
  have hpj : 2 ^ j < 2 ^ n := Nat.pow_lt_pow_right (by decide) hj
  have p31 : 2 ^ j < 2 ^ 31 := Nat.pow_lt_pow_right (by decide) (by omega)
  unfold wp_X6_isSettledLine
  intro v1 hv1
  rw [one_shl (by omega)] at hv1
  rw [hv1]
  refine endless_wp F G hpj (fun h0 => ⟨fun _ => ?_, fun z => absurd rfl z⟩) (fun _ h2 => ⟨fun z => absurd z (by decide), fun _ => hp _ _ ⟨fun z => absurd z.1 h2, fun _ => rfl⟩ (FrW.rf σ) ok⟩)
  have hs := h0 rfl
  rcases id ok with ⟨_, S, lc, sc, br, Y, hS, hI, H⟩ | ⟨z, _⟩
  · refine toEnd_wp G.1 hM hS hI H hpj bz_0 (fun z => absurd z (by decide)) (fun σ7 st F7 => ?_)
    rw [if_pos rfl] at st
    obtain ⟨S2, lc2, br2, Y2, hS2, hI2, H2, hb2, hno2, hE2⟩ := id st
    obtain ⟨S2', lc2', br2', Y2', hS2', H2', hEn⟩ := stg_corner g3 hM st
    have B2 := std_B Y2' hS2'
    refine upper_wp H2' B2 p31 (fun r hr v10 hv10 => ?_)
    refine toEnd_wp G.1 hM hS2 hI2 H2 hpj bz_1 (fun _ => seen_row G hs) (fun σ13 st3 F13 => ?_)
    rw [if_neg (by decide)] at st3
    obtain ⟨S3, lc3, br3, Y3, hS3, H3, hE3⟩ := stg_corner g3 hM st3
    have B3 := std_B Y3 hS3
    refine upper_wp H3 B3 p31 (fun r2 hr2 => ?_)
    have ub := upr_bound B2 (2 ^ j)
    have ub3 := upr_bound B3 (2 ^ j)
    have d2 := B2.2.2.2.2.2.2.2.1
    have d3 := B3.2.2.2.2.2.2.2.1
    have m1 := abs_mul_le (A := 3628800000000) (B := 38981) ub d3
    have m2 := abs_mul_le (A := 3628800000000) (B := 38981) ub3 d2
    have eL : (gL σ13 0).toInt = S3.2.1 := H3.2.2.2.2.2.1
    have e10 : v10.toInt = S2'.2.1 := by rw [hv10]; exact H2'.2.2.2.2.2.1
    have p1 : (r * gL σ13 0).toInt = Xl n (pc M) S2' j * S3.2.1 := by
      rw [fb_mulL (by rw [hr, eL]; omega) (by rw [hr, eL]; omega), hr, eL, upr_osum hS2', osum_one hj]
    have p2 : (r2 * v10).toInt = Xl n (pc M) S3 j * S2'.2.1 := by
      rw [fb_mulL (by rw [hr2, e10]; omega) (by rw [hr2, e10]; omega), hr2, e10, upr_osum hS3, osum_one hj]
    have iff := stlP_of (k := k) hj hs hEn hE3
    have ok13 := stg_ok h11 (F7.tr F13) st3
    refine ⟨fun q => hp _ _ ⟨fun z => absurd (Int64.toInt_inj.mp (by rw [p1, p2]; exact iff.mp z)) q, fun _ => rfl⟩ (F7.tr F13) ok13, fun q => hp _ _ ⟨fun _ => rfl, fun z => absurd (iff.mpr (by rw [← p1, ← p2, q])) z⟩ (F7.tr F13) ok13⟩
  · rw [h11] at z; exact absurd z (by decide)
/-- settled(k) -/
def StlA (n k M : Nat) (ws ss : Nat → Nat) (x : Int32) (r : Int32) : Prop :=
  ((¬ ∃ j, j < n ∧ x = nI j) → r = -101) ∧ ∀ j, j < n → x = nI j → (¬ FitW n ws ss M → r = -103) ∧ (FitW n ws ss M → (StlP n k M ws ss j → r = 1) ∧ (¬ StlP n k M ws ss j → r = 0))
theorem settled_wp {σ : St} (F : NetF σ n k o M Bm ws ss os) (G : NetG n k o M Bm ws ss os) (hC : CacheD σ n k ws ss) {x : Int32} {post : Int32 → St → Prop}
    (hp : ∀ r τ, StlA n k M ws ss x r → FrO σ τ → CacheD τ n k ws ss → post r τ) : wp_X6_settled x σ post := by
  have f0 : FrO σ σ := ⟨fun _ _ => rfl, fun _ _ _ _ => rfl⟩
  have g2 := G.1.2.1
  have g3 := G.1.2.2.1
  have hM := G.2.2.1
  unfold wp_X6_settled
  refine hasLine_wp F.1.1 g2 (fun q => ⟨fun z => absurd rfl z, fun _ => hp _ _ ⟨fun _ => rfl, fun j hj e => absurd ⟨j, hj, e⟩ q⟩ f0 hC⟩) (fun j hj hl => ⟨fun _ => ?_, fun z => absurd z (by decide)⟩)
  have mk : ∀ r τ, ((¬ FitW n ws ss M → r = -103) ∧ (FitW n ws ss M → (StlP n k M ws ss j → r = 1) ∧ (¬ StlP n k M ws ss j → r = 0))) → FrO σ τ → CacheD τ n k ws ss → post r τ := fun r τ h a b => hp r τ ⟨fun q => absurd ⟨j, hj, hl⟩ q, fun j2 hj2 hl2 => by
    have : j2 = j := (nI_eq (by omega) (by omega)).mp (hl2.symm.trans hl)
    rw [this]; exact h⟩ a b
  rw [F.2.2.1, hl]
  refine solve_wp G.1 F.1 hM (fun q => hC M hM q.symm) (fun σ11 ok h10 fr => ?_)
  have F11 : NetF σ11 n k o M Bm ws ss os := netF_fr F (fun i hi => fr.1 i (by omega)) (fun i hi => fr.2 i (by omega) (by omega) (by omega))
  have c11 := cache_one g3 hM h10 ok
  obtain ⟨hfit, hbz⟩ := delOK_fit g3 hM ok
  refine ⟨fun q => ?_, fun q => mk _ _ ⟨fun _ => rfl, fun z => absurd (hfit.mpr z) (by rw [q]; decide)⟩ fr c11⟩
  have h11 : gI σ11 11 = 1 := hbz.elim (fun z => absurd z q) id
  have fit := hfit.mp h11
  refine isSettled_wp F11 G h11 ok hj (fun r τ hr Fw ok2 => ?_)
  have fo := FrO.w fr Fw
  have c2 := cache_one g3 hM (show gI τ 10 = nI M by rw [Fw.1 10 (by decide) (by decide)]; exact h10) ok2
  refine ⟨fun z => mk _ _ ⟨fun y => absurd fit y, fun _ => ⟨fun y => absurd (hr.1 y) (by rw [z]; decide), fun _ => rfl⟩⟩ fo c2, fun z => mk _ _ ⟨fun y => absurd fit y, fun _ => ⟨fun _ => rfl, fun y => absurd (hr.2 y) z⟩⟩ fo c2⟩
end STL
