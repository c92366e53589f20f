/-! ===== the class's net: what is seen, what is endless ===== -/
def NetF (σ : St) (n k o M Bm : Nat) (ws ss os : Nat → Nat) : Prop := NetC σ n k ws ss ∧ gI σ 2 = nI o ∧ gI σ 3 = nI M ∧ gI σ 4 = nI Bm ∧ ∀ i, i < o → gA σ 2 i = nI (os i)
def NetG (n k o M Bm : Nat) (ws ss os : Nat → Nat) : Prop := NetB n k ws ss ∧ o ≤ 10 ∧ M < 2 ^ k ∧ Bm < 2 ^ k ∧ ∀ i, i < o → 1 ≤ os i ∧ os i < 2 ^ n
/-- the net's cells stay -/
theorem netF_fr {σ τ : St} {n k o M Bm : Nat} {ws ss os : Nat → Nat} (h : NetF σ n k o M Bm ws ss os) (gi : ∀ i, i < 5 → gI τ i = gI σ i) (ga : ∀ i, i < 3 → gA τ i = gA σ i) : NetF τ n k o M Bm ws ss os := by
  obtain ⟨⟨c1, c2, c3, c4⟩, h2, h3, h4, h5⟩ := h
  exact ⟨⟨by rw [gi 0 (by decide)]; exact c1, by rw [gi 1 (by decide)]; exact c2, fun w hw => by rw [ga 0 (by decide)]; exact c3 w hw, fun w hw => by rw [ga 1 (by decide)]; exact c4 w hw⟩, by rw [gi 2 (by decide)]; exact h2, by rw [gi 3 (by decide)]; exact h3, by rw [gi 4 (by decide)]; exact h4, fun i hi => by rw [ga 2 (by decide)]; exact h5 i hi⟩
def seenM (ws : Nat → Nat) (M : Nat) : Nat → Nat
  | 0 => 0
  | w + 1 => if M.testBit w then seenM ws M w ||| ws w else seenM ws M w
theorem seenM_bit (ws : Nat → Nat) (M : Nat) : ∀ (k j : Nat), (seenM ws M k).testBit j = true ↔ ∃ w, w < k ∧ M.testBit w = true ∧ (ws w).testBit j = true
  | 0, j => by
    show Nat.testBit 0 j = true ↔ _
    rw [Nat.zero_testBit]
    exact ⟨fun h => absurd h (by decide), fun ⟨s, h, _⟩ => absurd h (Nat.not_lt_zero s)⟩
  | k + 1, j => by
    have ih := seenM_bit ws M k j
    show (if M.testBit k then seenM ws M k ||| ws k else seenM ws M k).testBit j = true ↔ _
    by_cases q : M.testBit k = true
    · rw [if_pos q, Nat.testBit_or, Bool.or_eq_true, ih]
      constructor
      · rintro (⟨w, h1, h2⟩ | h)
        · exact ⟨w, by omega, h2⟩
        · exact ⟨k, by omega, q, h⟩
      · rintro ⟨w, h1, h2, h3⟩
        by_cases z : w = k
        · rw [z] at h3; exact Or.inr h3
        · exact Or.inl ⟨w, by omega, h2, h3⟩
    · rw [if_neg q, ih]
      constructor
      · rintro ⟨w, h1, h2⟩; exact ⟨w, by omega, h2⟩
      · rintro ⟨w, h1, h2, h3⟩
        by_cases z : w = k
        · rw [z] at h2; exact absurd h2 q
        · exact ⟨w, by omega, h2, h3⟩
section NET
variable {σ : St} {n k o M Bm : Nat} {ws ss os : Nat → Nat}
theorem m31 {a b : Nat} (h : a < 2 ^ b) (hb : b ≤ 10) : a < 2 ^ 31 := Nat.lt_of_lt_of_le h (Nat.pow_le_pow_right (by decide) (by omega))
theorem isOn_wp (hM : gI σ 3 = nI M) (h31 : M < 2 ^ 31) {w : Nat} (hw : w < 31) {post : Int32 → St → Prop} (h : post (if M.testBit w then 1 else 0) σ) : wp_X2_isOn (nI w) σ post := by
  unfold wp_X2_isOn
  rw [hM]
  refine bitOf_wp h31 hw ⟨fun q => ?_, fun q => ?_⟩
  · rw [(bit_ne1 _).mp q] at h; exact h
  · rw [(bit_1 _).mp q] at h; exact h
theorem seen_wp (F : NetF σ n k o M Bm ws ss os) (G : NetG n k o M Bm ws ss os) {post : Int32 → St → Prop} (h : post (nI (seenM ws M k)) σ) : wp_X2_seenLines σ post := by
  obtain ⟨⟨c1, c2, c3, c4⟩, h2, h3, h4, h5⟩ := F
  obtain ⟨⟨g1, g2, g3, g4, g5⟩, g6, g7, g8, g9⟩ := G
  have key : ∀ (d w : Nat), w + d = k → lp_X2_seenLines_4 post (d + 1) (nI (seenM ws M w)) (nI w) σ := by
    intro d
    induction d with
    | zero =>
      intro w hd
      have : w = k := by omega
      subst this
      unfold lp_X2_seenLines_4
      rw [c2]
      exact ⟨fun _ => h, fun q => absurd (nI_le (Nat.le_refl w) (by omega)) q⟩
    | succ d ih =>
      intro w hd
      have hw : w < k := by omega
      unfold lp_X2_seenLines_4
      rw [c2]
      refine ⟨fun q => absurd q (nI_ge hw (by omega)), fun _ => isOn_wp h3 (m31 g7 g3) (by omega) ⟨fun q v hv => ?_, fun q => ⟨idx10 (by omega), fun v7 hv7 v9 hv9 => ?_⟩⟩⟩
      · have := ih (w + 1) (by omega)
        rw [show seenM ws M (w + 1) = seenM ws M w from if_neg (by rw [(bit_0 _).mp q]; decide)] at this
        rw [hv, nI_1]; exact this
      · have := ih (w + 1) (by omega)
        rw [show seenM ws M (w + 1) = seenM ws M w ||| ws w from if_pos ((bit_ne0 _).mp q)] at this
        rw [hv7, hv9, nI_1, nI_clamp (by omega), c3 w hw, (and_or_bit _ _).2]; exact this
  refine ⟨k + 1, ?_⟩
  have := key k 0 (by omega)
  rw [show seenM ws M 0 = 0 from rfl, nI_0] at this
  exact this
/-- a set within what is seen -/
def allSeen (ws : Nat → Nat) (M k s : Nat) : Prop := ∀ j, s.testBit j = true → (seenM ws M k).testBit j = true
theorem wo_zero {s m : Nat} : wo s m = 0 ↔ ∀ j, s.testBit j = true → m.testBit j = true := by
  constructor
  · intro h j hj
    have := wo_bit s m j
    rw [h, Nat.zero_testBit, hj, Bool.true_and] at this
    cases e : m.testBit j with
    | true => rfl
    | false => rw [e] at this; cases this
  · intro h
    refine Nat.eq_of_testBit_eq (fun j => ?_)
    rw [wo_bit, Nat.zero_testBit]
    cases e : s.testBit j with
    | false => rfl
    | true => rw [h j e]; rfl
theorem wo_lt {s m b : Nat} (h : s < 2 ^ b) : wo s m < 2 ^ b := lt_of_bits (fun i hi => by rw [wo_bit, bits_of_lt h hi]; rfl)
theorem endless_wp (F : NetF σ n k o M Bm ws ss os) (G : NetG n k o M Bm ws ss os) {s : Nat} (hs : s < 2 ^ n) {e : Int32} {post : Int32 → St → Prop} (h0 : (e = 1 → allSeen ws M k s) → post 0 σ) (h1 : e = 1 → ¬ allSeen ws M k s → post 1 σ) : wp_X6_isEndless (nI s) e σ post := by
  unfold wp_X6_isEndless
  refine ⟨fun q => h0 (fun z => absurd z q), fun q => seen_wp F G ?_⟩
  have e1 : nI s &&& (nI (seenM ws M k) ^^^ (-1)) = nI (wo s (seenM ws M k)) := and_not s _
  rw [e1]
  have l1 : wo s (seenM ws M k) < 2 ^ 31 := m31 (wo_lt hs) G.1.2.1
  refine ⟨fun z => h0 (fun _ => wo_zero.mp ?_), fun z => h1 q (fun y => z ?_)⟩
  · exact (nI_eq l1 (by decide)).mp (z.trans nI_0.symm)
  · rw [wo_zero.mpr y, nI_0]
/-- a seen line is in a row -/
theorem seen_row (G : NetG n k o M Bm ws ss os) {s : Nat} (h : allSeen ws M k s) : ∀ j, j < n → s.testBit j = true → ∃ t, t < pc M ∧ Aw ws M t j = 1 := by
  obtain ⟨⟨g1, g2, g3, g4, g5⟩, g6, g7, g8, g9⟩ := G
  intro j _ hj
  obtain ⟨w, hw, hb, hj2⟩ := (seenM_bit ws M k j).mp (h j hj)
  have hlt : (wyL M w).length < pc M := by
    have := (List.getElem?_eq_some_iff.mp (wyL_at (k := 10) (show w < 10 by omega) hb)).1
    rw [wyL_len M 10] at this
    exact this
  refine ⟨_, hlt, ?_⟩
  unfold Aw
  rw [wy_of g3 g7 hw hb, if_pos hj2]
end NET
