/-! ===== the reference's of, betters, find ===== -/
section FND
variable {n k o M Bm : Nat} {ws ss os : Nat → Nat}
theorem of8_wp {σ : St} {s : Nat} (hn : n ≤ 10) (hs : s < 2 ^ n) {X : Nat → Int} (hX : ∀ j, j < n → (gB σ 1 j).toInt = X j) (hb : ∀ j, j < n → 0 ≤ X j ∧ X j ≤ 362880000000) {post : Int64 → St → Prop} (hp : ∀ r : Int64, r.toInt = osum n s X → post r σ) : wp_X7_of_8 (nI s) σ post := by
  have i10 : (10 : Int32) = nI 10 := rfl
  have bn : ∀ j, s.testBit j = true → j < n := fun j hj => by
    rcases Nat.lt_or_ge j n with q | q
    · exact q
    · rw [bits_of_lt hs q] at hj; cases hj
  have tb : ∀ j, -362880000000 ≤ (if s.testBit j then X j else 0) ∧ (if s.testBit j then X j else 0) ≤ 362880000000 := fun j => by
    by_cases q : s.testBit j = true
    · rw [if_pos q]; have := hb j (bn j q); omega
    · rw [if_neg q]; omega
  have z0 : (0 : Int64).toInt = 0 := rfl
  obtain ⟨f, hf⟩ := lupE (fun f i (x : Int64) => lp_X7_of_8_5 post f (nI s) x (nI i) σ) (fun i x => x.toInt = sg (fun j => if s.testBit j then X j else 0) i) 10
    (fun f x hx => by
      unfold lp_X7_of_8_5
      rw [i10]
      refine ⟨fun _ => hp x ?_, fun q => absurd (nI_le (Nat.le_refl 10) (by omega)) q⟩
      rw [hx]
      exact sg_cut hn (fun j h1 _ => if_neg (by rw [bits_of_lt hs h1]; decide)))
    (fun f i x hi hx ih => by
      have bd := sg_bound (f := fun j => if s.testBit j then X j else 0) (c := 362880000000) (n := i) (fun j _ => tb j)
      have hi10 : ((i : Nat) : Int) * 362880000000 ≤ 10 * 362880000000 := Int.mul_le_mul_of_nonneg_right (by omega) (by decide)
      unfold lp_X7_of_8_5
      rw [i10, bit_at (m31 hs hn) (by omega), nI_clamp (show i < 2 ^ 31 by omega)]
      refine ⟨fun q => absurd q (nI_ge hi (by omega)), fun _ => ⟨fun q v hv u hu => ?_, fun q => ⟨idx10 hi, fun v hv u hu => ?_⟩⟩⟩
      · rw [hu, nI_1]
        refine ih v ?_
        show _ = sg _ i + (if s.testBit i then X i else 0)
        rw [if_neg (by rw [(bit_ne1 _).mp q]; decide), hv, fb_addL (by rw [hx, z0]; omega) (by rw [hx, z0]; omega), hx, z0]
      · rw [hu, nI_1]
        refine ih v ?_
        have q2 := (bit_1 _).mp q
        have ev := hX i (bn i q2)
        have b2 := hb i (bn i q2)
        show _ = sg _ i + (if s.testBit i then X i else 0)
        rw [if_pos q2, hv, fb_addL (by rw [hx, ev]; omega) (by rw [hx, ev]; omega), hx, ev])
    (Nat.zero_le 10) (s := 0) rfl
  rw [nI_0] at hf
  exact ⟨f, hf⟩
theorem of9_wp {σ : St} {s : Nat} (hn : n ≤ 10) (hs : s < 2 ^ n) {X : Nat → Int} (hX : ∀ j, j < n → (gB σ 2 j).toInt = X j) (hb : ∀ j, j < n → 0 ≤ X j ∧ X j ≤ 362880000000) {post : Int64 → St → Prop} (hp : ∀ r : Int64, r.toInt = osum n s X → post r σ) : wp_X7_of_9 (nI s) σ post := by
  have i10 : (10 : Int32) = nI 10 := rfl
  have bn : ∀ j, s.testBit j = true → j < n := fun j hj => by
    rcases Nat.lt_or_ge j n with q | q
    · exact q
    · rw [bits_of_lt hs q] at hj; cases hj
  have tb : ∀ j, -362880000000 ≤ (if s.testBit j then X j else 0) ∧ (if s.testBit j then X j else 0) ≤ 362880000000 := fun j => by
    by_cases q : s.testBit j = true
    · rw [if_pos q]; have := hb j (bn j q); omega
    · rw [if_neg q]; omega
  have z0 : (0 : Int64).toInt = 0 := rfl
  obtain ⟨f, hf⟩ := lupE (fun f i (x : Int64) => lp_X7_of_9_5 post f (nI s) x (nI i) σ) (fun i x => x.toInt = sg (fun j => if s.testBit j then X j else 0) i) 10
    (fun f x hx => by
      unfold lp_X7_of_9_5
      rw [i10]
      refine ⟨fun _ => hp x ?_, fun q => absurd (nI_le (Nat.le_refl 10) (by omega)) q⟩
      rw [hx]
      exact sg_cut hn (fun j h1 _ => if_neg (by rw [bits_of_lt hs h1]; decide)))
    (fun f i x hi hx ih => by
      have bd := sg_bound (f := fun j => if s.testBit j then X j else 0) (c := 362880000000) (n := i) (fun j _ => tb j)
      have hi10 : ((i : Nat) : Int) * 362880000000 ≤ 10 * 362880000000 := Int.mul_le_mul_of_nonneg_right (by omega) (by decide)
      unfold lp_X7_of_9_5
      rw [i10, bit_at (m31 hs hn) (by omega), nI_clamp (show i < 2 ^ 31 by omega)]
      refine ⟨fun q => absurd q (nI_ge hi (by omega)), fun _ => ⟨fun q v hv u hu => ?_, fun q => ⟨idx10 hi, fun v hv u hu => ?_⟩⟩⟩
      · rw [hu, nI_1]
        refine ih v ?_
        show _ = sg _ i + (if s.testBit i then X i else 0)
        rw [if_neg (by rw [(bit_ne1 _).mp q]; decide), hv, fb_addL (by rw [hx, z0]; omega) (by rw [hx, z0]; omega), hx, z0]
      · rw [hu, nI_1]
        refine ih v ?_
        have q2 := (bit_1 _).mp q
        have ev := hX i (bn i q2)
        have b2 := hb i (bn i q2)
        show _ = sg _ i + (if s.testBit i then X i else 0)
        rw [if_pos q2, hv, fb_addL (by rw [hx, ev]; omega) (by rw [hx, ev]; omega), hx, ev])
    (Nat.zero_le 10) (s := 0) rfl
  rw [nI_0] at hf
  exact ⟨f, hf⟩
theorem osum_bd {s : Nat} (hn : n ≤ 10) {X : Nat → Int} (hb : ∀ j, j < n → 0 ≤ X j ∧ X j ≤ 362880000000) : 0 ≤ osum n s X ∧ osum n s X ≤ 3628800000000 := by
  refine ⟨osum_nonneg (fun j hj => (hb j hj).1), ?_⟩
  have := sg_bound (f := fun j => if s.testBit j then X j else 0) (c := 362880000000) (n := n) (fun j hj => by
    show -362880000000 ≤ (if s.testBit j = true then X j else 0) ∧ (if s.testBit j = true then X j else 0) ≤ 362880000000
    by_cases q : s.testBit j = true
    · rw [if_pos q]; have := hb j hj; omega
    · rw [if_neg q]; omega)
  have h10 : ((n : Nat) : Int) * 362880000000 ≤ 10 * 362880000000 := Int.mul_le_mul_of_nonneg_right (by omega) (by decide)
  unfold osum
  omega
theorem lx_strict {N : Nat} {a b : Nat → Int} {i : Nat} (heq : ∀ j, j < i → a j = b j) (hlt : a i < b i) : Lxq N a b := fun l _ h => by
  rcases Nat.lt_trichotomy l i with q | q | q
  · exact Int.le_of_eq (heq l q)
  · rw [q]; exact Int.le_of_lt hlt
  · have := h i q; omega
theorem lx_eq {N : Nat} {a b : Nat → Int} (heq : ∀ j, j < N → a j = b j) : Lxq N a b := fun l hl _ => Int.le_of_eq (heq l hl)
/-- numbers told at σ: X over d -/
def FrX (n : Nat) (X : Nat → Int) (d : Int) : Prop := (0 < d ∧ d ≤ 38981) ∧ ∀ j, j < n → 0 ≤ X j ∧ X j ≤ 362880000000
theorem betters_wp {σ : St} {s : Nat} (hn : n ≤ 10) (hs : s < 2 ^ n) (h0 : gI σ 0 = nI n) {X Y : Nat → Int} {d υ : Int} (hX : FrX n X d) (hY : FrX n Y υ) (h1 : (gL σ 1).toInt = d) (h2 : (gL σ 2).toInt = υ) (x1 : ∀ j, j < n → (gB σ 1 j).toInt = X j) (x2 : ∀ j, j < n → (gB σ 2 j).toInt = Y j) {e : Int32} (he : bz e) {g : Int} (hg : g = if e = 0 then 1 else -1) {post : Int32 → St → Prop}
    (p1 : LxF n s g X d Y υ → post 1 σ) (p0 : LxF n s g Y υ X d → post 0 σ) : wp_X7_betters (nI s) e σ post := by
  have oX := osum_bd (s := s) hn hX.2
  have oY := osum_bd (s := s) hn hY.2
  unfold wp_X7_betters
  refine of8_wp hn hs x1 hX.2 (fun r1 hr1 v3 hv3 => of9_wp hn hs x2 hY.2 (fun r5 hr5 v7 hv7 => ?_))
  have m1 := abs_mul_le (a := osum n s X) (A := 3628800000000) (b := υ) (B := 38981) (by omega) (by have := hY.1; omega)
  have m2 := abs_mul_le (a := osum n s Y) (A := 3628800000000) (b := d) (B := 38981) (by omega) (by have := hX.1; omega)
  have t3 : v3.toInt = osum n s X * υ := by rw [hv3, fb_mulL (by rw [hr1, h2]; omega) (by rw [hr1, h2]; omega), hr1, h2]
  have t7 : v7.toInt = osum n s Y * d := by rw [hv7, fb_mulL (by rw [hr5, h1]; omega) (by rw [hr5, h1]; omega), hr5, h1]
  have c3 : v3 = v7 ↔ osum n s X * υ = osum n s Y * d := by rw [← Int64.toInt_inj, t3, t7]
  have c4 : v3 ≤ v7 ↔ osum n s X * υ ≤ osum n s Y * d := by rw [Int64.le_iff_toInt_le, t3, t7]
  have c5 : v7 ≤ v3 ↔ osum n s Y * d ≤ osum n s X * υ := by rw [Int64.le_iff_toInt_le, t3, t7]
  rw [c3, c4, c5]
  have o0 : ∀ (g : Int) (Z : Nat → Int) (ζ : Int), obj n s g Z 0 * ζ = g * (osum n s Z * ζ) := fun g Z ζ => Int.mul_assoc _ _ _
  refine ⟨fun q => ?_, fun q => ⟨fun z => ⟨fun w => p0 ?_, fun w => p1 ?_⟩, fun z => ⟨fun w => p0 ?_, fun w => p1 ?_⟩⟩⟩
  · have eq0 : obj n s g X 0 * υ = obj n s g Y 0 * d := by rw [o0, o0, q]
    obtain ⟨f, hf⟩ := lupE (fun f i (_ : Unit) => lp_X7_betters_71 post f (nI i) σ) (fun i _ => ∀ j, j < i + 1 → obj n s g X j * υ = obj n s g Y j * d) n
      (fun f _ h => by
        unfold lp_X7_betters_71
        rw [h0]
        exact ⟨fun _ => p0 (lx_eq (fun j hj => (h j hj).symm)), fun q => absurd (nI_le (Nat.le_refl n) (by omega)) q⟩)
      (fun f i _ hi h ih => by
        unfold lp_X7_betters_71
        rw [h0, nI_clamp (show i < 2 ^ 31 by omega)]
        refine ⟨fun q => absurd q (nI_ge hi (by omega)), fun _ => ⟨idx10 (by omega), fun v2 hv2 => ⟨idx10 (by omega), fun v4 hv4 => ?_⟩⟩⟩
        have bX := hX.2 i hi
        have bY := hY.2 i hi
        have n1 := abs_mul_le (a := X i) (A := 362880000000) (b := υ) (B := 38981) (by omega) (by have := hY.1; omega)
        have n2 := abs_mul_le (a := Y i) (A := 362880000000) (b := d) (B := 38981) (by omega) (by have := hX.1; omega)
        have e2 : v2.toInt = X i * υ := by rw [hv2, fb_mulL (by rw [x1 i hi, h2]; omega) (by rw [x1 i hi, h2]; omega), x1 i hi, h2]
        have e4 : v4.toInt = Y i * d := by rw [hv4, fb_mulL (by rw [x2 i hi, h1]; omega) (by rw [x2 i hi, h1]; omega), x2 i hi, h1]
        have k1 : v2 = v4 ↔ X i * υ = Y i * d := by rw [← Int64.toInt_inj, e2, e4]
        refine ⟨fun w v hv => ?_, fun w => ?_⟩
        · rw [hv, nI_1]
          refine ih () (fun j hj => ?_)
          by_cases y : j = i + 1
          · subst y; exact k1.mp w
          · exact h j (by omega)
        · rw [k1] at w
          unfold jn_X7_betters_116
          rw [Int64.le_iff_toInt_le, e2, e4]
          exact ⟨fun y => p0 (lx_strict (i := i + 1) (fun j hj => (h j hj).symm) (show Y i * d < X i * υ by omega)), fun y => p1 (lx_strict (i := i + 1) (fun j hj => h j hj) (show X i * υ < Y i * d by omega))⟩)
      (Nat.zero_le n) (s := ()) (fun j hj => by
        have : j = 0 := by omega
        subst this; exact eq0)
    rw [nI_0] at hf
    exact ⟨f, hf⟩
  · rw [if_neg z] at hg
    refine lx_strict (i := 0) (fun j hj => absurd hj (Nat.not_lt_zero j)) ?_
    show obj n s g Y 0 * d < obj n s g X 0 * υ
    rw [o0, o0, hg]; omega
  · rw [if_neg z] at hg
    refine lx_strict (i := 0) (fun j hj => absurd hj (Nat.not_lt_zero j)) ?_
    show obj n s g X 0 * υ < obj n s g Y 0 * d
    rw [o0, o0, hg]; omega
  · rw [if_pos z] at hg
    refine lx_strict (i := 0) (fun j hj => absurd hj (Nat.not_lt_zero j)) ?_
    show obj n s g Y 0 * d < obj n s g X 0 * υ
    rw [o0, o0, hg]; omega
  · rw [if_pos z] at hg
    refine lx_strict (i := 0) (fun j hj => absurd hj (Nat.not_lt_zero j)) ?_
    show obj n s g X 0 * υ < obj n s g Y 0 * d
    rw [o0, o0, hg]; omega
theorem copy_wp {σ : St} (hn : n ≤ 10) (h0 : gI σ 0 = nI n) {i : Nat} {x1 x2 x4 : Int32} {post : Int32 → St → Prop} {K : Int32 → Int32 → Int32 → Int32 → Int32 → St → Prop} (hp : ∀ τ, (∀ l, gI τ l = gI σ l) → (∀ l, gA τ l = gA σ l) → gL τ 2 = gL σ 1 → (∀ j, j < n → gB τ 2 j = gB σ 1 j) → K x1 x2 1 x4 (nI (i + 1)) τ) : ∃ fu : Nat, lp_X7_find_57 post K fu x1 x2 x4 (nI i) 0 σ := by
  have i10 : (10 : Int32) = nI 10 := rfl
  obtain ⟨f, hf⟩ := lupE (fun f j (τ : St) => lp_X7_find_57 post K f x1 x2 x4 (nI i) (nI j) τ) (fun j τ => (∀ l, gI τ l = gI σ l) ∧ (∀ l, gA τ l = gA σ l) ∧ (∀ l, gL τ l = gL σ l) ∧ gB τ 1 = gB σ 1 ∧ ∀ l, l < j → l < n → gB τ 2 l = gB σ 1 l) 10
    (fun f τ hτ => by
      obtain ⟨t1, t2, t3, t4, t5⟩ := hτ
      unfold lp_X7_find_57
      rw [i10]
      refine ⟨fun _ τ2 e2 v hv => ?_, fun q => absurd (nI_le (Nat.le_refl 10) (by omega)) q⟩
      rw [hv, nI_1, e2]
      exact hp _ t1 t2 (by rw [gL_sL, if_pos rfl]; exact t3 1) (fun j hj => t5 j (by omega) hj))
    (fun f j τ hj hτ ih => by
      obtain ⟨t1, t2, t3, t4, t5⟩ := hτ
      unfold lp_X7_find_57
      rw [i10, t1 0, h0, nI_clamp (show j < 2 ^ 31 by omega), nI_leI (show n < 2 ^ 31 by omega) (show j < 2 ^ 31 by omega)]
      have stp : ∀ v : Int64, (j < n → v = gB σ 1 j) → ∀ τ', τ' = sB τ 2 j v → ∀ u, u = nI j + 1 → lp_X7_find_57 post K f x1 x2 x4 (nI i) u τ' := fun v hv τ' e u hu => by
        rw [hu, nI_1]
        refine ih τ' ⟨by rw [e]; exact t1, by rw [e]; exact t2, by rw [e]; exact t3, ?_, fun l hl hl2 => ?_⟩
        · funext x
          rw [e, gB_sB, if_neg (fun z => absurd z.1 (by decide)), t4]
        · rw [e, gB_sB]
          by_cases z : l = j
          · rw [if_pos ⟨rfl, z⟩, z]; exact hv (by omega)
          · rw [if_neg (fun y => z y.2)]; exact t5 l (by omega) hl2
      refine ⟨fun q => absurd q (nI_ge hj (by omega)), fun _ => ⟨fun q => ⟨idx10 hj, stp 0 (fun z => by omega)⟩, fun q => ⟨idx10 hj, idx10 hj, stp _ (fun _ => by rw [t4])⟩⟩⟩)
    (Nat.zero_le 10) (s := σ) ⟨fun _ => rfl, fun _ => rfl, fun _ => rfl, rfl, fun l hl => absurd hl (Nat.not_lt_zero l)⟩
  rw [nI_0] at hf
  exact ⟨f, hf⟩
/-- two solutions on the same told lines -/
theorem ind_same {s B : Nat} {g : Int} {X Z : Nat → Int} {d ζ : Int} (hI : Indp n ws M B) (hX : SolW n ws ss M X d) (hZ : SolW n ws ss M Z ζ) (sX : Supp n B X) (sZ : Supp n B Z) : LxF n s g X d Z ζ := by
  have h := hI (fun j => ζ * X j + (-d) * Z j) (fun j hj q => by show ζ * X j + (-d) * Z j = 0; rw [sX j hj q, sZ j hj q]; omega) (fun w hw => by
    rw [wsum_lin, hX.2.2 w hw, hZ.2.2 w hw]; grind)
  have eq : ∀ j, j < n → X j * ζ = Z j * d := fun j hj => by
    have : ζ * X j + (-d) * Z j = 0 := h j hj
    rw [Int.neg_mul, Int.mul_comm ζ, Int.mul_comm d] at this
    omega
  refine lx_eq (fun j hj => ?_)
  cases j with
  | zero =>
    show g * osum n s X * ζ = g * osum n s Z * d
    have : osum n s X * ζ = osum n s Z * d := by
      unfold osum
      rw [← sg_mulr, ← sg_mulr]
      refine sg_congr (fun j hj => ?_)
      show (if s.testBit j = true then X j else 0) * ζ = (if s.testBit j = true then Z j else 0) * d
      by_cases q : s.testBit j = true
      · rw [if_pos q, if_pos q]; exact eq j hj
      · rw [if_neg q, if_neg q, Int.zero_mul, Int.zero_mul]
    rw [Int.mul_assoc, this, Int.mul_assoc]
  | succ j => exact eq j (by omega)
theorem find_wp {σ : St} (F : NetM σ n k o M Bm ws ss os) (G : NetG n k o M Bm ws ss os) {s : Nat} (hs : s < 2 ^ n) {e : Int32} (he : bz e) (hfit : FitW n ws ss M) (hall : e = 1 → allSeen ws M k s) {post : Int32 → St → Prop}
    (hp : ∀ r τ X d, FrX n X d → (∀ i, i ≤ n → EndF n ws ss M s (if e = 0 then 1 else -1) i X d) → (gL τ 2).toInt = d → (∀ j, j < n → (gB τ 2 j).toInt = X j) → FrD σ τ → post r τ) : wp_X7_find (nI s) e σ post := by
  have hn := G.1.2.1
  have hk := G.1.2.2.1
  have hM := G.2.2.1
  have hg : (if e = 0 then (1 : Int) else -1) = 1 ∨ ((if e = 0 then (1 : Int) else -1) = -1 ∧ allSeen ws M k s) := by
    by_cases q : e = 0
    · rw [if_pos q]; exact Or.inl rfl
    · rw [if_neg q]; exact Or.inr ⟨rfl, hall (he.elim (fun z => absurd z q) id)⟩
  have l31 : 2 ^ n < 2 ^ 31 := Nat.pow_lt_pow_right (by decide) (by omega)
  unfold wp_X7_find
  refine seenSet_wp F G ?_
  obtain ⟨f, hf⟩ := lupE (fun f i (p : Int32 × St) => lp_X7_find_11 post f (nI s) e p.1 (nI (seenM ws M k)) (nI i) p.2) (fun i p => FrD σ p.2 ∧ ((p.1 = 0 ∧ ∀ B, B < i → (∀ j, B.testBit j = true → (seenM ws M k).testBit j = true) → ∀ Z ζ, SolW n ws ss M Z ζ → Supp n B Z → ¬ Indp n ws M B) ∨ (p.1 = 1 ∧ ∃ X d, FrX n X d ∧ SolW n ws ss M X d ∧ (gL p.2 2).toInt = d ∧ (∀ j, j < n → (gB p.2 2 j).toInt = X j) ∧ ∀ B, B < i → (∀ j, B.testBit j = true → (seenM ws M k).testBit j = true) → ∀ Z ζ, SolW n ws ss M Z ζ → Supp n B Z → Indp n ws M B → LxF n s (if e = 0 then 1 else -1) X d Z ζ))) (2 ^ n)
    (fun f p hp0 => by
      obtain ⟨x, τ⟩ := p
      obtain ⟨hF, hc⟩ := hp0
      show lp_X7_find_11 post (f + 1) (nI s) e x (nI (seenM ws M k)) (nI (2 ^ n)) τ
      unfold lp_X7_find_11
      have h0 : gI τ 0 = nI n := (hF.1 0 (by decide)).trans F.1
      rw [h0, one_shl (by omega)]
      refine ⟨fun _ => ?_, fun q => absurd (nI_le (Nat.le_refl _) l31) q⟩
      have hc2 : (x = 0 ∧ ∀ B, B < 2 ^ n → (∀ j, B.testBit j = true → (seenM ws M k).testBit j = true) → ∀ Z ζ, SolW n ws ss M Z ζ → Supp n B Z → ¬ Indp n ws M B) ∨ (x = 1 ∧ ∃ X d, FrX n X d ∧ SolW n ws ss M X d ∧ (gL τ 2).toInt = d ∧ (∀ j, j < n → (gB τ 2 j).toInt = X j) ∧ ∀ B, B < 2 ^ n → (∀ j, B.testBit j = true → (seenM ws M k).testBit j = true) → ∀ Z ζ, SolW n ws ss M Z ζ → Supp n B Z → Indp n ws M B → LxF n s (if e = 0 then 1 else -1) X d Z ζ) := hc
      rcases hc2 with ⟨hx, hno⟩ | ⟨hx, X, d, fx, sx, lx, bx, hmin⟩
      · exfalso
        obtain ⟨Y, υ, hY⟩ := hfit
        obtain ⟨B, Z, ζ, b1, b2, b3, b4, b5, _⟩ := basic_le (s := s) hM hg (sct n Y + 1) Y υ hY (Nat.lt_succ_self _)
        exact hno B b1 b2 Z ζ b3 b4 b5
      · refine ⟨by rw [hx]; exact bz_1, hp x τ X d fx (fun i hi => (lx_end sx (hg.imp id And.left) (fun Y υ hY => ?_) i hi).1) lx bx hF⟩
        obtain ⟨B, Z, ζ, b1, b2, b3, b4, b5, b6⟩ := basic_le (s := s) hM hg (sct n Y + 1) Y υ hY (Nat.lt_succ_self _)
        exact lxF_tr sx.1 b3.1 hY.1 (hmin B b1 b2 Z ζ b3 b4 b5) b6)
    (fun f i p hi hp0 ih => by
      obtain ⟨x, τ⟩ := p
      obtain ⟨hF, hc⟩ := hp0
      have hF : FrD σ τ := hF
      have hc2 : (x = 0 ∧ ∀ B, B < i → (∀ j, B.testBit j = true → (seenM ws M k).testBit j = true) → ∀ Z ζ, SolW n ws ss M Z ζ → Supp n B Z → ¬ Indp n ws M B) ∨ (x = 1 ∧ ∃ X d, FrX n X d ∧ SolW n ws ss M X d ∧ (gL τ 2).toInt = d ∧ (∀ j, j < n → (gB τ 2 j).toInt = X j) ∧ ∀ B, B < i → (∀ j, B.testBit j = true → (seenM ws M k).testBit j = true) → ∀ Z ζ, SolW n ws ss M Z ζ → Supp n B Z → Indp n ws M B → LxF n s (if e = 0 then 1 else -1) X d Z ζ) := hc
      show lp_X7_find_11 post (f + 1) (nI s) e x (nI (seenM ws M k)) (nI i) τ
      have h0 : gI τ 0 = nI n := (hF.1 0 (by decide)).trans F.1
      have e1 : nI i &&& (nI (seenM ws M k) ^^^ (-1)) = nI (wo i (seenM ws M k)) := and_not i _
      have hw : wo i (seenM ws M k) < 2 ^ 31 := m31 (wo_lt hi) hn
      unfold lp_X7_find_11
      rw [h0, one_shl (by omega), e1]
      -- nothing new at i
      have skip : ∀ τ', FrD σ τ' → gL τ' 2 = gL τ 2 → gB τ' 2 = gB τ 2 → (∀ B, B = i → (∀ j, B.testBit j = true → (seenM ws M k).testBit j = true) → ∀ Z ζ, SolW n ws ss M Z ζ → Supp n B Z → ¬ Indp n ws M B) → ∀ v, v = nI i + 1 → lp_X7_find_11 post f (nI s) e x (nI (seenM ws M k)) v τ' := by
        intro τ' hF' l2 b2 hno v hv
        rw [hv, nI_1]
        refine ih (x, τ') ⟨hF', ?_⟩
        rcases hc2 with ⟨hx, h⟩ | ⟨hx, X, d, fx, sx, lx, bx, hmin⟩
        · refine Or.inl ⟨hx, fun B hB => ?_⟩
          by_cases q : B = i
          · exact hno B q
          · exact h B (by omega)
        · refine Or.inr ⟨hx, X, d, fx, sx, by show (gL τ' 2).toInt = d; rw [l2]; exact lx, fun j hj => by show (gB τ' 2 j).toInt = X j; rw [b2]; exact bx j hj, fun B hB hsub Z ζ z1 z2 z3 => ?_⟩
          by_cases q : B = i
          · exact absurd z3 (hno B q hsub Z ζ z1 z2)
          · exact hmin B (by omega) hsub Z ζ z1 z2 z3
      refine ⟨fun q => absurd q (nI_ge hi l31), fun _ => ⟨fun q => ?_, fun q => ?_⟩⟩
      · refine skip τ hF rfl rfl (fun B hB hsub => ?_)
        rw [hB] at hsub
        exact absurd (by rw [wo_zero.mpr hsub, nI_0]) q
      · have hsub : ∀ j, i.testBit j = true → (seenM ws M k).testBit j = true := wo_zero.mp ((nI_eq hw (by decide)).mp (q.trans nI_0.symm))
        have Fτ := netM_fr F hF.m
        refine tries_wp Fτ G hi (fun ρ X' d' sX spX iX dX bX lX vX FX => ?_) (fun ρ hno FX => ?_)
        · have hF2 : FrD σ ρ := hF.tr FX.d
          have fx' : FrX n X' d' := ⟨⟨sX.1, dX⟩, fun j hj => ⟨sX.2.1 j hj, bX j hj⟩⟩
          have h0' : gI ρ 0 = nI n := (hF2.1 0 (by decide)).trans F.1
          have take : ∀ ρ2, ρ2 = ρ → (∀ B, B < i → (∀ j, B.testBit j = true → (seenM ws M k).testBit j = true) → ∀ Z ζ, SolW n ws ss M Z ζ → Supp n B Z → Indp n ws M B → LxF n s (if e = 0 then 1 else -1) X' d' Z ζ) → ∃ fu : Nat, lp_X7_find_57 post (lp_X7_find_11 post f) fu (nI s) e (nI (seenM ws M k)) (nI i) 0 ρ2 := by
            intro ρ2 er hmin
            rw [er]
            refine copy_wp hn h0' (fun τ4 t1 t2 t3 t4 => ih (1, τ4) ⟨hF2.tr ⟨fun l _ => t1 l, fun l _ => t2 l⟩, Or.inr ⟨rfl, X', d', fx', sX, by show (gL τ4 2).toInt = d'; rw [t3]; exact lX, fun j hj => by show (gB τ4 2 j).toInt = X' j; rw [t4 j hj]; exact vX j hj, fun B hB hs2 Z ζ z1 z2 z3 => ?_⟩⟩)
            by_cases w : B = i
            · rw [w] at z2
              exact ind_same iX sX z1 spX z2
            · exact hmin B (by omega) hs2 Z ζ z1 z2 z3
          refine ⟨fun z => absurd z (by decide), fun _ => ⟨fun z => ?_, fun z => ?_⟩⟩
          · refine take ρ rfl (fun B hB hs2 Z ζ z1 z2 z3 => ?_)
            rcases hc2 with ⟨_, h⟩ | ⟨hx, _⟩
            · exact absurd z3 (h B hB hs2 Z ζ z1 z2)
            · rw [z] at hx; exact absurd hx (by decide)
          · rcases id hc2 with ⟨hx, _⟩ | ⟨hx, X, d, fx, sx, lx, bx, hmin⟩
            · exact absurd hx z
            · refine betters_wp hn hs h0' fx' fx lX (by rw [FX.2.2.1]; exact lx) vX (fun j hj => by rw [FX.2.2.2]; exact bx j hj) he rfl (fun hl => ⟨fun y => absurd y (by decide), fun _ => take ρ rfl (fun B hB hs2 Z ζ z1 z2 z3 => lxF_tr sX.1 sx.1 z1.1 hl (hmin B hB hs2 Z ζ z1 z2 z3))⟩) (fun hl => ⟨fun _ v hv => ?_, fun y => absurd rfl y⟩)
              rw [hv, nI_1]
              refine ih (x, ρ) ⟨hF2, Or.inr ⟨hx, X, d, fx, sx, by show (gL ρ 2).toInt = d; rw [FX.2.2.1]; exact lx, fun j hj => by show (gB ρ 2 j).toInt = X j; rw [FX.2.2.2]; exact bx j hj, fun B hB hs2 Z ζ z1 z2 z3 => ?_⟩⟩
              by_cases w : B = i
              · rw [w] at z2
                exact lxF_tr sx.1 sX.1 z1.1 hl (ind_same iX sX z1 spX z2)
              · exact hmin B (by omega) hs2 Z ζ z1 z2 z3
        · refine ⟨fun _ => skip ρ (hF.tr FX.d) FX.2.2.1 FX.2.2.2 (fun B hB _ Z ζ z1 z2 => ?_), fun y => absurd rfl y⟩
          rw [hB] at z2 ⊢
          exact hno Z ζ z1 z2)
    (Nat.zero_le _) (s := ((0 : Int32), σ)) ⟨FrD.rf σ, Or.inl ⟨rfl, fun B hB => absurd hB (Nat.not_lt_zero B)⟩⟩
  have hf2 : lp_X7_find_11 post f (nI s) e 0 (nI (seenM ws M k)) (nI 0) σ := hf
  rw [nI_0] at hf2
  exact ⟨f, hf2⟩
end FND
