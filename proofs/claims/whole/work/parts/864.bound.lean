/-! ===== the class's bound ===== -/
theorem upr_osum {n m : Nat} {A : Nat → Nat → Int} {b : Nat → Int} {S : Sx} (hS : Std n m (vrow n m A b) S) (s : Nat) : upr n m S s = osum n s (Xl n m S) := by
  unfold upr osum
  have e1 : ∀ j, j < n → (if s.testBit j then Xl n m S j else 0) = sg (fun t => if s.testBit j = true ∧ S.1 t = j then S.2.2 t (n + m) else 0) m := by
    intro j hj
    by_cases q : s.testBit j = true
    · rw [if_pos q, xl_at hS (by omega)]
      refine sg_congr (fun t _ => ?_)
      by_cases z : S.1 t = j
      · rw [if_pos z, if_pos ⟨q, z⟩]
      · rw [if_neg z, if_neg (fun w => z w.2)]
    · rw [if_neg q, sg_zero (fun t _ => if_neg (fun w => q w.1))]
  rw [sg_congr e1, sg_swap]
  refine sg_congr (fun t ht => ?_)
  by_cases z : S.1 t < n
  · rw [sg_one z (fun j _ hne => if_neg (fun w => hne w.2.symm))]
    by_cases q : s.testBit (S.1 t) = true
    · rw [if_pos ⟨z, q⟩, if_pos ⟨q, rfl⟩]
    · rw [if_neg (fun w => q w.2), if_neg (fun w => q w.1)]
  · rw [if_neg (fun w => z w.1), sg_zero (fun j hj => if_neg (fun w => z (by omega)))]
theorem osum_nonneg {n s : Nat} {X : Nat → Int} (h : ∀ j, j < n → 0 ≤ X j) : 0 ≤ osum n s X := sg_nonneg (fun j hj => by
  show 0 ≤ if s.testBit j = true then X j else 0
  by_cases q : s.testBit j = true
  · rw [if_pos q]; exact h j hj
  · rw [if_neg q]; exact Int.le_refl 0)
/-- a fraction's part -/
def frac (u d : Int) (w : Int32) : Int64 := lN (if w = 0 then frU u.toNat d.toNat else frL u.toNat d.toNat)
theorem frac_eq {u d u' d' : Int} {w : Int32} (h0 : 0 ≤ u) (h1 : 0 < d) (h0' : 0 ≤ u') (h1' : 0 < d') (h : u * d' = u' * d) : frac u d w = frac u' d' w := by
  have e : u.toNat * d'.toNat = u'.toNat * d.toNat := by
    have a1 := Int.toNat_of_nonneg h0
    have a2 := Int.toNat_of_nonneg h0'
    have a3 := Int.toNat_of_nonneg (Int.le_of_lt h1)
    have a4 := Int.toNat_of_nonneg (Int.le_of_lt h1')
    have : ((u.toNat * d'.toNat : Nat) : Int) = ((u'.toNat * d.toNat : Nat) : Int) := by rw [Int.natCast_mul, Int.natCast_mul, a1, a2, a3, a4]; exact h
    exact Int.ofNat.inj this
  obtain ⟨f1, f2⟩ := fr_eq (by omega) (by omega) e
  unfold frac
  rw [f1, f2]
theorem endF_same {n : Nat} {ws ss : Nat → Nat} {W s : Nat} {g : Int} (hg : g = 1 ∨ g = -1) {X Y : Nat → Int} {d e : Int} (h : EndF n ws ss W s g 0 X d) (h' : EndF n ws ss W s g 0 Y e) : osum n s X * e = osum n s Y * d := by
  have a := h.2 Y e h'.1
  have b := h'.2 X d h.1
  rcases hg with q | q <;> subst q
  · simp only [Int.one_mul] at a b; omega
  · simp only [Int.neg_mul, Int.one_mul] at a b; omega
/-- what bound() has to answer -/
def BndS (n k M : Nat) (ws ss : Nat → Nat) (s : Nat) (e w : Int32) (r : Int64) : Prop :=
  (¬ FitW n ws ss M → r = -103) ∧ (FitW n ws ss M → ((e = 1 ∧ ¬ allSeen ws M k s) → r = -105) ∧ (¬ (e = 1 ∧ ¬ allSeen ws M k s) → ∃ X d, EndF n ws ss M s (if e = 0 then 1 else -1) 0 X d ∧ r = frac (osum n s X) d w))
theorem bndS_one {n k M : Nat} {ws ss : Nat → Nat} {s : Nat} {e w : Int32} {r r' : Int64} (h : BndS n k M ws ss s e w r) (h' : BndS n k M ws ss s e w r') : r = r' := by
  by_cases q : FitW n ws ss M
  · by_cases z : e = 1 ∧ ¬ allSeen ws M k s
    · rw [(h.2 q).1 z, (h'.2 q).1 z]
    · obtain ⟨X, d, a1, a2⟩ := (h.2 q).2 z
      obtain ⟨Y, c, b1, b2⟩ := (h'.2 q).2 z
      have hg : (if e = 0 then (1 : Int) else -1) = 1 ∨ (if e = 0 then (1 : Int) else -1) = -1 := by
        by_cases y : e = 0
        · rw [if_pos y]; exact Or.inl rfl
        · rw [if_neg y]; exact Or.inr rfl
      rw [a2, b2]
      exact frac_eq (osum_nonneg a1.1.2.1) a1.1.1 (osum_nonneg b1.1.2.1) b1.1.1 (endF_same hg a1 b1)
  · rw [h.1 q, h'.1 q]
section BND
variable {n k o M Bm : Nat} {ws ss os : Nat → Nat}
/-- the cache of Delays is right -/
def CacheD (σ : St) (n k : Nat) (ws ss : Nat → Nat) : Prop := ∀ W, W < 2 ^ k → gI σ 10 = nI W → DelOK σ n ws ss W
/-- what stays of the rest of the object -/
def FrO (σ τ : St) : Prop := (∀ i, i < 5 ∨ 12 < i → gI τ i = gI σ i) ∧ ∀ i, i ≠ 3 → i ≠ 4 → i ≠ 5 → gA τ i = gA σ i
theorem FrO.w {σ τ ρ : St} (h : FrO σ τ) (g : FrW τ ρ) : FrO σ ρ := ⟨fun i hi => (g.1 i (by omega) (by omega)).trans (h.1 i hi), fun i a b c => (g.2 i a c).trans (h.2 i a b c)⟩
/-- a stage keeps the cache -/
theorem stg_ok {σ τ : St} {W s : Nat} {g : Int} {i : Nat} (h1 : gI σ 11 = 1) (F : FrW σ τ) (h : Stg τ n ws ss W s g i) : DelOK τ n ws ss W := by
  obtain ⟨S, lc, br, Y, hS, hI, H, _⟩ := h
  exact Or.inl ⟨by rw [F.1 11 (by decide) (by decide)]; exact h1, S, lc, 0, br, Y, hS, hI, H⟩
theorem cache_one {σ : St} {W : Nat} (hk : k ≤ 10) (hW : W < 2 ^ k) (h10 : gI σ 10 = nI W) (h : DelOK σ n ws ss W) : CacheD σ n k ws ss := fun W' hW' h' => by
  have : W' = W := (nI_eq (m31 hW' hk) (m31 hW hk)).mp (h'.symm.trans h10)
  rw [this]; exact h
/-- solve, then an end of a set: the corner and its scale -/
theorem end_part {σ : St} (F : NetF σ n k o M Bm ws ss os) (G : NetG n k o M Bm ws ss os) (hC : CacheD σ n k ws ss) {s : Nat} (hs : s < 2 ^ n) {e w : Int32} (he : bz e) {post : Int64 → St → Prop}
    (hp : ∀ r τ, BndS n k M ws ss s e w r → FrO σ τ → CacheD τ n k ws ss → post r τ) :
    wp_X0_solve (gI σ 3) σ (fun r10 σ11 => (¬ r10 = 0 → wp_X6_isEndless (nI s) e σ11 (fun r13 σ14 => (r13 = 0 → wp_X0_goToEnd (nI s) e σ14 (fun σ17 => wp_X0_upperOf (nI s) σ17 (fun r18 σ19 => wp_X6_partOfFraction r18 (gL σ19 0) w σ19 (fun r20 σ21 => post r20 σ21)))) ∧ (¬ r13 = 0 → post (-105) σ14))) ∧ (r10 = 0 → post (-103) σ11)) := by
  have g3 := G.1.2.2.1
  have hM := G.2.2.1
  rw [F.2.2.1]
  refine solve_wp G.1 F.1 hM (fun q => hC M hM q.symm) (fun σ11 ok h10 fr => ?_)
  have F11 : NetF σ11 n k o M Bm ws ss os := netF_fr F (fun i hi => fr.1 i (by omega)) (fun i hi => fr.2 i (by omega) (by omega) (by omega))
  have c11 := cache_one g3 hM h10 ok
  obtain ⟨hfit, hbz⟩ := delOK_fit g3 hM ok
  refine ⟨fun q => ?_, fun q => ?_⟩
  · have h11 : gI σ11 11 = 1 := hbz.elim (fun z => absurd z q) id
    have fit := hfit.mp h11
    refine endless_wp F11 G hs (fun h0 => ⟨fun _ => ?_, fun z => absurd rfl z⟩) (fun h1 h2 => ⟨fun z => absurd z (by decide), fun _ => hp _ _ ⟨fun z => absurd fit z, fun _ => ⟨fun _ => rfl, fun z => absurd ⟨h1, h2⟩ z⟩⟩ fr c11⟩)
    rcases id ok with ⟨_, S, lc, sc, br, Y, hS, hI, H⟩ | ⟨z, _⟩
    · refine toEnd_wp G.1 hM hS hI H hs he (fun h1 => seen_row G (h0 h1)) (fun σ17 st F17 => ?_)
      have ok17 := stg_ok h11 F17 st
      obtain ⟨S2, lc2, br2, Y2, hS2, H2, hE⟩ := stg_corner g3 hM st
      refine upper_wp H2 (std_B Y2 hS2) (m31 hs G.1.2.1) (fun r hr => ?_)
      rw [upr_osum hS2] at hr
      have sol := endF_sol hE
      have u0 := osum_nonneg (s := s) sol.2.1
      have e1 := lN_of hr u0
      have e2 := lN_of H2.2.2.2.2.2.1 (Int.le_of_lt sol.1)
      have db := (std_B Y2 hS2).2.2.2.2.2.2.2.1.2
      have rb := (fb_rngL r).2
      rw [e1, e2]
      refine part_wp (by omega) (by omega) (by have := sol.1; omega) (hp _ _ ⟨fun z => absurd fit z, fun _ => ⟨fun z => absurd (h0 z.1) z.2, fun _ => ⟨_, _, hE, rfl⟩⟩⟩ (FrO.w fr F17) (cache_one g3 hM (by rw [F17.1 10 (by decide) (by decide)]; exact h10) ok17))
    · rw [h11] at z; exact absurd z (by decide)
  · exact hp _ _ ⟨fun _ => rfl, fun z => absurd (hfit.mpr z) (by rw [q]; decide)⟩ fr c11
end BND
