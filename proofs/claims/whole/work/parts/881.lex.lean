/-! ===== the best solution: by the sum of the set, then by the lines in turn ===== -/
def Lxq (N : Nat) (a b : Nat → Int) : Prop := ∀ i, i < N → (∀ j, j < i → a j = b j) → a i ≤ b i
theorem lx_tr {N : Nat} {a b c : Nat → Int} (h1 : Lxq N a b) (h2 : Lxq N b c) : Lxq N a c := fun i hi h => by
  have key : ∀ m, m ≤ i → ∀ j, j < m → a j = b j := by
    intro m
    induction m with
    | zero => exact fun _ j hj => absurd hj (Nat.not_lt_zero j)
    | succ m ih =>
      intro hm j hj
      by_cases q : j = m
      · subst q
        have e1 := h1 j (by omega) (fun l hl => ih (by omega) l hl)
        have e2 := h2 j (by omega) (fun l hl => by rw [← ih (by omega) l hl]; exact h l (by omega))
        have := h j (by omega)
        omega
      · exact ih (by omega) j (by omega)
  have e1 := h1 i hi (key i (Nat.le_refl i))
  have e2 := h2 i hi (fun l hl => by rw [← key i (Nat.le_refl i) l hl]; exact h l hl)
  omega
theorem lx_up {N : Nat} {a b : Nat → Int} {c : Int} (hc : 0 < c) (h : Lxq N a b) : Lxq N (fun i => c * a i) (fun i => c * b i) := fun i hi he => Int.mul_le_mul_of_nonneg_left (h i hi (fun j hj => Int.eq_of_mul_eq_mul_left (by omega) (he j hj))) (Int.le_of_lt hc)
theorem lx_dn {N : Nat} {a b : Nat → Int} {c : Int} (hc : 0 < c) (h : Lxq N (fun i => c * a i) (fun i => c * b i)) : Lxq N a b := fun i hi he => Int.le_of_mul_le_mul_left (h i hi (fun j hj => by show c * a j = c * b j; rw [he j hj])) hc
theorem lx_congr {N : Nat} {a b a' b' : Nat → Int} (h : Lxq N a b) (ea : ∀ i, a i = a' i) (eb : ∀ i, b i = b' i) : Lxq N a' b' := (funext ea : a = a') ▸ (funext eb : b = b') ▸ h
def obj (n s : Nat) (g : Int) (X : Nat → Int) : Nat → Int
  | 0 => g * osum n s X
  | i + 1 => X i
def LxF (n s : Nat) (g : Int) (X : Nat → Int) (d : Int) (Y : Nat → Int) (υ : Int) : Prop := Lxq (n + 1) (fun i => obj n s g X i * υ) (fun i => obj n s g Y i * d)
section LEX
variable {n k M s : Nat} {ws ss : Nat → Nat} {g : Int}
theorem lxF_tr {X Y Z : Nat → Int} {d υ ζ : Int} (hd : 0 < d) (hυ : 0 < υ) (hζ : 0 < ζ) (h1 : LxF n s g X d Y υ) (h2 : LxF n s g Y υ Z ζ) : LxF n s g X d Z ζ := by
  have a1 := lx_up hζ h1
  have a2 := lx_up hd h2
  refine lx_dn hυ (lx_tr (lx_congr a1 (fun i => ?_) (fun i => rfl)) (lx_congr a2 (fun i => ?_) (fun i => ?_)))
  · show ζ * (obj n s g X i * υ) = υ * (obj n s g X i * ζ); grind
  · show d * (obj n s g Y i * ζ) = ζ * (obj n s g Y i * d); grind
  · show d * (obj n s g Z i * υ) = υ * (obj n s g Z i * d); grind
theorem osum_lin (a b : Int) (X Z : Nat → Int) : osum n s (fun j => a * X j + b * Z j) = a * osum n s X + b * osum n s Z := by
  unfold osum
  rw [← sg_mul, ← sg_mul, ← sg_add]
  refine sg_congr (fun j _ => ?_)
  by_cases q : s.testBit j = true
  · simp only [if_pos q]
  · simp only [if_neg q, Int.mul_zero, Int.add_zero]
theorem obj_lin (a b : Int) (X Z : Nat → Int) (i : Nat) : obj n s g (fun j => a * X j + b * Z j) i = a * obj n s g X i + b * obj n s g Z i := by
  cases i with
  | zero =>
    show g * osum n s (fun j => a * X j + b * Z j) = a * (g * osum n s X) + b * (g * osum n s Z)
    rw [osum_lin]; grind
  | succ i => rfl
theorem wsum_lin (w : Nat) (a b : Int) (X Z : Nat → Int) : sg (fun j => (if (ws w).testBit j then 1 else 0) * (a * X j + b * Z j)) n = a * sg (fun j => (if (ws w).testBit j then 1 else 0) * X j) n + b * sg (fun j => (if (ws w).testBit j then 1 else 0) * Z j) n := by
  rw [← sg_mul, ← sg_mul, ← sg_add]
  refine sg_congr (fun j _ => ?_)
  by_cases q : (ws w).testBit j = true
  · simp only [if_pos q, Int.one_mul]
  · simp only [if_neg q, Int.zero_mul, Int.mul_zero, Int.add_zero]
theorem min_ratio (Y z : Nat → Int) : ∀ n : Nat, (∃ j, j < n ∧ z j < 0) → ∃ p, p < n ∧ z p < 0 ∧ ∀ j, j < n → z j < 0 → Y p * (-z j) ≤ Y j * (-z p)
  | 0, ⟨j, h, _⟩ => absurd h (Nat.not_lt_zero j)
  | n + 1, h => by
    by_cases h' : ∃ j, j < n ∧ z j < 0
    · obtain ⟨p, hp, hz, hm⟩ := min_ratio Y z n h'
      by_cases q : z n < 0 ∧ Y n * (-z p) < Y p * (-z n)
      · refine ⟨n, by omega, q.1, fun j hj hzj => ?_⟩
        by_cases e : j = n
        · rw [e]; exact Int.le_refl _
        · have m1 := hm j (by omega) hzj
          have q2 := q.2
          have a1 : Y n * (-z p) * (-z j) ≤ Y p * (-z n) * (-z j) := Int.mul_le_mul_of_nonneg_right (Int.le_of_lt q2) (by omega)
          have a2 : Y p * (-z j) * (-z n) ≤ Y j * (-z p) * (-z n) := Int.mul_le_mul_of_nonneg_right m1 (by have := q.1; omega)
          refine Int.le_of_mul_le_mul_right (a := -z p) ?_ (by omega)
          have e1 : Y n * (-z j) * (-z p) = Y n * (-z p) * (-z j) := by grind
          have e2 : Y p * (-z n) * (-z j) = Y p * (-z j) * (-z n) := by grind
          have e3 : Y j * (-z n) * (-z p) = Y j * (-z p) * (-z n) := by grind
          rw [e1, e3]; omega
      · refine ⟨p, by omega, hz, fun j hj hzj => ?_⟩
        by_cases e : j = n
        · subst e
          by_cases w : Y j * (-z p) < Y p * (-z j)
          · exact absurd ⟨hzj, w⟩ q
          · omega
        · exact hm j (by omega) hzj
    · obtain ⟨j, hj, hz⟩ := h
      have e : j = n := by
        by_cases e : j = n
        · exact e
        · exact absurd ⟨j, by omega, hz⟩ h'
      subst e
      refine ⟨j, by omega, hz, fun i hi hzi => ?_⟩
      by_cases e : i = j
      · rw [e]; exact Int.le_refl _
      · exact absurd ⟨i, by omega, hzi⟩ h'
theorem ct_lt {p p' : Nat → Bool} {n j0 : Nat} (hj : j0 < n) (h1 : p j0 = true) (h2 : p' j0 = false) (h : ∀ j, j < n → p' j = true → p j = true) : fb_ct p' n < fb_ct p n := by
  have a := fb_ct_upd p false hj
  rw [h1] at a
  simp only [if_true, Bool.false_eq_true, if_false] at a
  have b := fb_ct_sub (p := p') (q := fun k => if k = j0 then false else p k) (n := n) (fun j hj2 hp => by
    by_cases q : j = j0
    · rw [q, h2] at hp; cases hp
    · show (if j = j0 then false else p j) = true
      rw [if_neg q]; exact h j hj2 hp)
  omega
/-- how many lines aren't 0 -/
def sct (n : Nat) (Y : Nat → Int) : Nat := fb_ct (fun j => decide (Y j ≠ 0)) n
/-- a solution on lines that are told, no worse -/
def Bsc (n k M s : Nat) (ws ss : Nat → Nat) (g : Int) (Y : Nat → Int) (υ : Int) : Prop := ∃ B Z ζ, B < 2 ^ n ∧ (∀ j, B.testBit j = true → (seenM ws M k).testBit j = true) ∧ SolW n ws ss M Z ζ ∧ Supp n B Z ∧ Indp n ws M B ∧ LxF n s g Z ζ Y υ
theorem bsc_le {Y Y' : Nat → Int} {υ υ' : Int} (h : Bsc n k M s ws ss g Y' υ') (hυ' : 0 < υ') (hυ : 0 < υ) (hl : LxF n s g Y' υ' Y υ) : Bsc n k M s ws ss g Y υ := by
  obtain ⟨B, Z, ζ, b1, b2, b3, b4, b5, b6⟩ := h
  exact ⟨B, Z, ζ, b1, b2, b3, b4, b5, lxF_tr b3.1 hυ' hυ b6 hl⟩
theorem basic_step (hM : M < 2 ^ k) (hg : g = 1 ∨ (g = -1 ∧ allSeen ws M k s)) {Y : Nat → Int} {υ : Int} (hY : SolW n ws ss M Y υ) (IH : ∀ Y' υ', SolW n ws ss M Y' υ' → sct n Y' < sct n Y → Bsc n k M s ws ss g Y' υ') : Bsc n k M s ws ss g Y υ := by
  obtain ⟨y1, y2, y3⟩ := id hY
  have hb : ∀ j, (msk (fun j => decide (Y j ≠ 0)) n).testBit j = true ↔ j < n ∧ Y j ≠ 0 := fun j => by
    rw [msk_bit, Bool.and_eq_true, decide_eq_true_iff, decide_eq_true_iff]
  have wk : ∀ w, M.testBit w = true → w < k := fun w hw => by
    rcases Nat.lt_or_ge w k with q | q
    · exact q
    · rw [bits_of_lt hM q] at hw; cases hw
  by_cases c1 : ∃ j, j < n ∧ Y j ≠ 0 ∧ (seenM ws M k).testBit j = false
  · obtain ⟨j0, j1, j2, j3⟩ := c1
    have un : ∀ w, M.testBit w = true → (ws w).testBit j0 = false := fun w hw => by
      rw [Bool.eq_false_iff]
      intro q
      have := (seenM_bit ws M k j0).mpr ⟨w, wk w hw, hw, q⟩
      rw [j3] at this; cases this
    have le : ∀ j, (if j = j0 then 0 else Y j) ≤ Y j ∨ n ≤ j := fun j => by
      by_cases q : j < n
      · by_cases e : j = j0
        · rw [if_pos e]; exact Or.inl (y2 j q)
        · rw [if_neg e]; exact Or.inl (Int.le_refl _)
      · exact Or.inr (by omega)
    have hS : SolW n ws ss M (fun j => if j = j0 then 0 else Y j) υ := by
      refine ⟨y1, fun j hj => ?_, fun w hw => ?_⟩
      · show 0 ≤ if j = j0 then 0 else Y j
        by_cases e : j = j0
        · rw [if_pos e]; exact Int.le_refl 0
        · rw [if_neg e]; exact y2 j hj
      · rw [← y3 w hw]
        refine sg_congr (fun j _ => ?_)
        by_cases e : j = j0
        · rw [e, un w hw]; simp
        · simp only [if_neg e]
    refine bsc_le (IH _ υ hS (ct_lt j1 (decide_eq_true j2) (by simp) (fun j hj q => ?_))) y1 y1 (fun i hi _ => ?_)
    · have q2 := of_decide_eq_true q
      refine decide_eq_true (fun z => q2 ?_)
      show (if j = j0 then 0 else Y j) = 0
      rw [z]; simp
    · refine Int.mul_le_mul_of_nonneg_right ?_ (Int.le_of_lt y1)
      cases i with
      | zero =>
        show g * osum n s (fun j => if j = j0 then 0 else Y j) ≤ g * osum n s Y
        rcases hg with e | ⟨e, hs⟩
        · subst e
          rw [Int.one_mul, Int.one_mul]
          refine sg_le (fun j hj => ?_)
          show (if s.testBit j = true then (if j = j0 then 0 else Y j) else 0) ≤ if s.testBit j = true then Y j else 0
          by_cases q : s.testBit j = true
          · rw [if_pos q, if_pos q]; exact (le j).resolve_right (by omega)
          · rw [if_neg q, if_neg q]; exact Int.le_refl 0
        · have : osum n s (fun j => if j = j0 then 0 else Y j) = osum n s Y := sg_congr (fun j hj => by
            by_cases q : s.testBit j = true
            · have : j ≠ j0 := fun z => by
                have := hs j q
                rw [z, j3] at this; cases this
              show (if s.testBit j = true then (if j = j0 then 0 else Y j) else 0) = _
              rw [if_neg this]
            · rw [if_neg q, if_neg q])
          rw [this]; exact Int.le_refl _
      | succ i =>
        show (if i = j0 then 0 else Y i) ≤ Y i
        exact (le i).resolve_right (by omega)
  · have seenB : ∀ j, (msk (fun j => decide (Y j ≠ 0)) n).testBit j = true → (seenM ws M k).testBit j = true := fun j hj => by
      obtain ⟨h1, h2⟩ := (hb j).mp hj
      rcases Bool.eq_false_or_eq_true ((seenM ws M k).testBit j) with q | q
      · exact q
      · exact absurd ⟨j, h1, h2, q⟩ c1
    have supY : Supp n (msk (fun j => decide (Y j ≠ 0)) n) Y := fun j hj q => by
      by_cases z : Y j = 0
      · exact z
      · have := (hb j).mpr ⟨hj, z⟩
        rw [q] at this; cases this
    by_cases c2 : Indp n ws M (msk (fun j => decide (Y j ≠ 0)) n)
    · exact ⟨_, Y, υ, msk_lt _ n, seenB, hY, supY, c2, fun i _ _ => Int.le_refl _⟩
    · -- lines that aren't told
      obtain ⟨y, s1, s2, j1, j2, j3⟩ : ∃ y, Supp n (msk (fun j => decide (Y j ≠ 0)) n) y ∧ (∀ w, M.testBit w = true → sg (fun j => (if (ws w).testBit j then 1 else 0) * y j) n = 0) ∧ ∃ j, j < n ∧ y j ≠ 0 := by
        unfold Indp at c2
        rcases Classical.not_forall.mp c2 with ⟨y, h⟩
        rcases Classical.not_forall.mp h with ⟨h1, h⟩
        rcases Classical.not_forall.mp h with ⟨h2, h⟩
        rcases Classical.not_forall.mp h with ⟨j, h⟩
        rcases Classical.not_forall.mp h with ⟨h3, h⟩
        exact ⟨y, h1, h2, j, h3, h⟩
      obtain ⟨i0, i1, i2, i3⟩ := fb_first (p := fun i => obj n s g y i ≠ 0) (n := n + 1) ⟨j1 + 1, by omega, j3⟩
      obtain ⟨z, z1, z2, z3, z4⟩ : ∃ z, Supp n (msk (fun j => decide (Y j ≠ 0)) n) z ∧ (∀ w, M.testBit w = true → sg (fun j => (if (ws w).testBit j then 1 else 0) * z j) n = 0) ∧ (∃ j, j < n ∧ z j ≠ 0) ∧ ∀ i, i < n + 1 → (∀ j, j < i → obj n s g z j = 0) → obj n s g z i ≤ 0 := by
        have gen : ∀ ε : Int, (ε = 1 ∨ ε = -1) → ε * obj n s g y i0 < 0 → ∃ z, Supp n (msk (fun j => decide (Y j ≠ 0)) n) z ∧ (∀ w, M.testBit w = true → sg (fun j => (if (ws w).testBit j then 1 else 0) * z j) n = 0) ∧ (∃ j, j < n ∧ z j ≠ 0) ∧ ∀ i, i < n + 1 → (∀ j, j < i → obj n s g z j = 0) → obj n s g z i ≤ 0 := by
          intro ε hε hneg
          have ez : ∀ i, obj n s g (fun j => ε * y j + 0 * y j) i = ε * obj n s g y i := fun i => by rw [obj_lin]; omega
          refine ⟨fun j => ε * y j + 0 * y j, fun j hj q => ?_, fun w hw => ?_, ⟨j1, j2, ?_⟩, fun i hi h => ?_⟩
          · show ε * y j + 0 * y j = 0
            rw [s1 j hj q]; omega
          · rw [wsum_lin, s2 w hw]; omega
          · show ε * y j1 + 0 * y j1 ≠ 0
            rcases hε with e | e <;> subst e <;> omega
          · rw [ez]
            rcases Nat.lt_trichotomy i i0 with q | q | q
            · have : obj n s g y i = 0 := Classical.not_not.mp (i3 i q)
              rw [this, Int.mul_zero]; exact Int.le_refl 0
            · rw [q]; omega
            · have := h i0 q
              rw [ez] at this
              omega
        have i2' : obj n s g y i0 ≠ 0 := i2
        by_cases q : obj n s g y i0 < 0
        · exact gen 1 (Or.inl rfl) (by omega)
        · exact gen (-1) (Or.inr rfl) (by omega)
      have hneg : ∃ j, j < n ∧ z j < 0 := by
        rcases Classical.em (∃ j, j < n ∧ z j < 0) with q | q
        · exact q
        · exfalso
          obtain ⟨j, hj, hz⟩ := z3
          have hB : (msk (fun j => decide (Y j ≠ 0)) n).testBit j = true := by
            rcases Bool.eq_false_or_eq_true ((msk (fun j => decide (Y j ≠ 0)) n).testBit j) with w | w
            · exact w
            · exact absurd (z1 j hj w) hz
          obtain ⟨w, w1, w2, w3⟩ := (seenM_bit ws M k j).mp (seenB j hB)
          have nn : ∀ i, i < n → 0 ≤ (if (ws w).testBit i then (1 : Int) else 0) * z i := fun i hi => by
            have : 0 ≤ z i := by
              by_cases u : z i < 0
              · exact absurd ⟨i, hi, u⟩ q
              · omega
            by_cases u : (ws w).testBit i = true
            · rw [if_pos u]; omega
            · rw [if_neg u]; omega
          have := sg_nonneg_zero nn (Int.le_of_eq (z2 w w2)) j hj
          rw [if_pos w3] at this
          omega
      obtain ⟨p, p1, p2, p3⟩ := min_ratio Y z n hneg
      have hp : Y p ≠ 0 := fun e => by
        have q : (msk (fun j => decide (Y j ≠ 0)) n).testBit p = false := by
          rw [Bool.eq_false_iff]; intro q; exact ((hb p).mp q).2 e
        have := z1 p p1 q
        omega
      have yp := y2 p p1
      have hυ' : 0 < -z p * υ := Int.mul_pos (by omega) y1
      refine bsc_le (IH (fun j => -z p * Y j + Y p * z j) (-z p * υ) ⟨hυ', fun j hj => ?_, fun w hw => ?_⟩ (ct_lt p1 (decide_eq_true hp) (decide_eq_false (fun q => q ?_)) (fun j hj q => ?_))) hυ' y1 (fun i hi h => ?_)
      · show 0 ≤ -z p * Y j + Y p * z j
        by_cases q : z j < 0
        · have := p3 j hj q
          rw [Int.mul_neg, Int.mul_comm (Y j)] at this
          omega
        · have a1 := Int.mul_nonneg (show 0 ≤ -z p by omega) (y2 j hj)
          have a2 := Int.mul_nonneg yp (show 0 ≤ z j by omega)
          omega
      · rw [wsum_lin, z2 w hw, y3 w hw, Int.mul_zero, Int.add_zero, Int.mul_assoc]
      · show -z p * Y p + Y p * z p = 0
        rw [Int.neg_mul, Int.mul_comm (z p)]; omega
      · refine decide_eq_true (fun e => (of_decide_eq_true q) ?_)
        have q2 : (msk (fun j => decide (Y j ≠ 0)) n).testBit j = false := by
          rw [Bool.eq_false_iff]; intro q; exact ((hb j).mp q).2 e
        show -z p * Y j + Y p * z j = 0
        rw [e, z1 j hj q2]; omega
      · have eqv : ∀ i, obj n s g (fun j => -z p * Y j + Y p * z j) i * υ = obj n s g Y i * (-z p * υ) + (Y p * υ) * obj n s g z i := fun i => by rw [obj_lin]; grind
        have hpos : 0 < Y p * υ := Int.mul_pos (by omega) y1
        have z0 : ∀ j, j < i → obj n s g z j = 0 := fun j hj => by
          have := h j hj
          have h2 : obj n s g (fun j => -z p * Y j + Y p * z j) j * υ = obj n s g Y j * (-z p * υ) := this
          rw [eqv] at h2
          exact (Int.mul_eq_zero.mp (show (Y p * υ) * obj n s g z j = 0 by omega)).resolve_left (by omega)
        have zi := z4 i hi z0
        show obj n s g (fun j => -z p * Y j + Y p * z j) i * υ ≤ obj n s g Y i * (-z p * υ)
        rw [eqv]
        have := Int.mul_nonpos_of_nonneg_of_nonpos (Int.le_of_lt hpos) zi
        omega
theorem basic_le (hM : M < 2 ^ k) (hg : g = 1 ∨ (g = -1 ∧ allSeen ws M k s)) : ∀ (c : Nat) (Y : Nat → Int) (υ : Int), SolW n ws ss M Y υ → sct n Y < c → Bsc n k M s ws ss g Y υ
  | 0, _, _, _, h => absurd h (Nat.not_lt_zero _)
  | c + 1, Y, υ, hY, h => basic_step hM hg hY (fun Y' υ' hY' hl => basic_le hM hg c Y' υ' hY' (by omega))
/-- no worse than all solutions: at every end -/
theorem lx_end {X : Nat → Int} {d : Int} (hX : SolW n ws ss M X d) (hg : g = 1 ∨ g = -1) (hm : ∀ Y υ, SolW n ws ss M Y υ → LxF n s g X d Y υ) : ∀ i, i ≤ n → EndF n ws ss M s g i X d ∧ ∀ Y υ, EndF n ws ss M s g i Y υ → ∀ j, j < i + 1 → obj n s g X j * υ = obj n s g Y j * d
  | 0, _ => by
    have h0 : ∀ Y υ, SolW n ws ss M Y υ → g * osum n s X * υ ≤ g * osum n s Y * d := fun Y υ hY => hm Y υ hY 0 (by omega) (fun j hj => absurd hj (Nat.not_lt_zero j))
    refine ⟨⟨hX, h0⟩, fun Y υ hY j hj => ?_⟩
    have : j = 0 := by omega
    subst this
    have a := h0 Y υ hY.1
    have b := hY.2 X d hX
    show g * osum n s X * υ = g * osum n s Y * d
    omega
  | i + 1, hi => by
    obtain ⟨h1, h2⟩ := lx_end hX hg hm i (by omega)
    have h0 : ∀ Y υ, EndF n ws ss M s g i Y υ → X i * υ ≤ Y i * d := fun Y υ hY => hm Y υ (endF_sol hY) (i + 1) (by omega) (fun j hj => h2 Y υ hY j hj)
    refine ⟨⟨h1, h0⟩, fun Y υ hY j hj => ?_⟩
    by_cases q : j = i + 1
    · subst q
      have a := h0 Y υ hY.1
      have b := hY.2 X d h1
      show X i * υ = Y i * d
      omega
    · exact h2 Y υ hY.1 j (by omega)
end LEX
