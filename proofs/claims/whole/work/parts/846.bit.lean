/-! ===== bits of ints ===== -/
theorem sm32 : ∀ w, w < 32 → ((nI w).toBitVec.smod 32).toNat = w := by decide +kernel
theorem sh31 {w : Nat} (h : w < 32) : nI w &&& 31 = nI w := by
  rw [pk_andN (n := w) (by omega) (m := 31) 5 (by decide), Nat.mod_eq_of_lt (by omega)]
/-- the class's and the reference's bit of a set -/
theorem bit_at {s w : Nat} (hs : s < 2 ^ 31) (hw : w < 31) : (nI s >>> (nI w &&& 31)) &&& 1 = if s.testBit w then 1 else 0 := by
  rw [sh31 (by omega), pk_shrN hs (nI w) w (sm32 w (by omega)), pk_andN (by have := Nat.div_le_self s (2 ^ w); omega) (m := 1) 1 (by decide)]
  rw [Nat.testBit_eq_decide_div_mod_eq]
  have h2 : s / 2 ^ w % 2 ^ 1 < 2 := Nat.mod_lt _ (by decide)
  by_cases q : s / 2 ^ w % 2 = 1
  · rw [show s / 2 ^ w % 2 ^ 1 = 1 from q]; rfl
  · have : s / 2 ^ w % 2 ^ 1 = 0 := by omega
    rw [this]; rfl
theorem one_shl {w : Nat} (hw : w < 31) : (1 : Int32) <<< (nI w &&& 31) = nI (2 ^ w) := by
  have h1 : 2 ^ w < 2 ^ 31 := Nat.pow_lt_pow_right (by decide) hw
  rw [sh31 (by omega), show (1 : Int32) = nI 1 by decide, pk_shlN (nI w) w (sm32 w (by omega)) (by omega), Nat.one_mul]
/-- the class's bitOf -/
theorem bitOf_wp {σ : St} {s w : Nat} (hs : s < 2 ^ 31) (hw : w < 31) {post : Int32 → St → Prop} (h : post (if s.testBit w then 1 else 0) σ) : wp_X6_bitOf (nI s) (nI w) σ post := by
  unfold wp_X6_bitOf
  rw [bit_at hs hw]
  exact h
theorem bit_ne1 (b : Bool) : ¬ (if b then (1 : Int32) else 0) = 1 ↔ b = false := by cases b <;> decide
theorem bit_1 (b : Bool) : (if b then (1 : Int32) else 0) = 1 ↔ b = true := by cases b <;> decide
theorem bit_0 (b : Bool) : (if b then (1 : Int32) else 0) = 0 ↔ b = false := by cases b <;> decide
theorem bit_ne0 (b : Bool) : ¬ (if b then (1 : Int32) else 0) = 0 ↔ b = true := by cases b <;> decide
theorem i32_ext {x y : Int32} (h : ∀ i, i < 32 → x.toBitVec.getLsbD i = y.toBitVec.getLsbD i) : x = y := Int32.toBitVec_inj.mp (BitVec.eq_of_getLsbD_eq (fun i hi => h i hi))
theorem nI_bit (n i : Nat) : (nI n).toBitVec.getLsbD i = (decide (i < 32) && n.testBit i) := by
  have : (nI n).toBitVec = BitVec.ofNat 32 n := rfl
  rw [this, BitVec.getLsbD_ofNat]
theorem m1_bit {i : Nat} (h : i < 32) : (-1 : Int32).toBitVec.getLsbD i = true := by
  have : (-1 : Int32).toBitVec = BitVec.allOnes 32 := by decide
  rw [this, BitVec.getLsbD_allOnes]; simp [h]
/-- x without y, as ints -/
theorem and_not (x y : Nat) : nI x &&& (nI y ^^^ (-1)) = nI (x &&& (x ^^^ (x &&& y))) := by
  refine i32_ext (fun i hi => ?_)
  rw [Int32.toBitVec_and, Int32.toBitVec_xor, BitVec.getLsbD_and, BitVec.getLsbD_xor, nI_bit, nI_bit, nI_bit, m1_bit hi, Nat.testBit_and, Nat.testBit_xor, Nat.testBit_and]
  simp only [decide_eq_true hi, Bool.true_and]
  cases x.testBit i <;> cases y.testBit i <;> rfl
/-- x without y -/
def wo (x y : Nat) : Nat := x &&& (x ^^^ (x &&& y))
theorem wo_bit (x y i : Nat) : (wo x y).testBit i = (x.testBit i && !y.testBit i) := by
  unfold wo
  rw [Nat.testBit_and, Nat.testBit_xor, Nat.testBit_and]
  cases x.testBit i <;> cases y.testBit i <;> rfl
theorem and_or_bit (x y : Nat) : nI x &&& nI y = nI (x &&& y) ∧ nI x ||| nI y = nI (x ||| y) := by
  refine ⟨i32_ext (fun i hi => ?_), i32_ext (fun i hi => ?_)⟩
  · rw [Int32.toBitVec_and, BitVec.getLsbD_and, nI_bit, nI_bit, nI_bit, Nat.testBit_and]
    simp only [decide_eq_true hi, Bool.true_and]
  · rw [Int32.toBitVec_or, BitVec.getLsbD_or, nI_bit, nI_bit, nI_bit, Nat.testBit_or]
    simp only [decide_eq_true hi, Bool.true_and]
theorem lt_of_bits {x k : Nat} (h : ∀ i, k ≤ i → x.testBit i = false) : x < 2 ^ k := Nat.lt_pow_two_of_testBit x (fun i hi => h i hi)
theorem bits_of_lt {x k i : Nat} (h : x < 2 ^ k) (hi : k ≤ i) : x.testBit i = false := Nat.testBit_lt_two_pow (Nat.lt_of_lt_of_le h (Nat.pow_le_pow_right (by decide) hi))
/-! reading behind a write -/
theorem gI_sI (σ : St) (k j : Nat) (v : Int32) : gI (sI σ k v) j = if j = k then v else gI σ j := rfl
theorem gI_sL (σ : St) (k j : Nat) (v : Int64) : gI (sL σ k v) j = gI σ j := rfl
theorem gI_sA (σ : St) (k i j : Nat) (v : Int32) : gI (sA σ k i v) j = gI σ j := rfl
theorem gI_sB (σ : St) (k i j : Nat) (v : Int64) : gI (sB σ k i v) j = gI σ j := rfl
theorem gL_sI (σ : St) (k j : Nat) (v : Int32) : gL (sI σ k v) j = gL σ j := rfl
theorem gL_sL (σ : St) (k j : Nat) (v : Int64) : gL (sL σ k v) j = if j = k then v else gL σ j := rfl
theorem gL_sA (σ : St) (k i j : Nat) (v : Int32) : gL (sA σ k i v) j = gL σ j := rfl
theorem gL_sB (σ : St) (k i j : Nat) (v : Int64) : gL (sB σ k i v) j = gL σ j := rfl
theorem gA_sI (σ : St) (k j : Nat) (v : Int32) : gA (sI σ k v) j = gA σ j := rfl
theorem gA_sL (σ : St) (k j : Nat) (v : Int64) : gA (sL σ k v) j = gA σ j := rfl
theorem gA_sB (σ : St) (k i j : Nat) (v : Int64) : gA (sB σ k i v) j = gA σ j := rfl
theorem gA_sA (σ : St) (k i j x : Nat) (v : Int32) : gA (sA σ k i v) j x = if j = k ∧ x = i then v else gA σ j x := by
  show (if j = k then upd (σ.2.2.1 k) i v else σ.2.2.1 j) x = _
  by_cases q : j = k
  · subst q
    rw [if_pos rfl]
    show (if x = i then v else _) = _
    by_cases z : x = i
    · rw [if_pos z, if_pos ⟨rfl, z⟩]
    · rw [if_neg z, if_neg (fun w => z w.2)]; rfl
  · rw [if_neg q, if_neg (fun w => q w.1)]; rfl
theorem gB_sI (σ : St) (k j : Nat) (v : Int32) : gB (sI σ k v) j = gB σ j := rfl
theorem gB_sL (σ : St) (k j : Nat) (v : Int64) : gB (sL σ k v) j = gB σ j := rfl
theorem gB_sA (σ : St) (k i j : Nat) (v : Int32) : gB (sA σ k i v) j = gB σ j := rfl
theorem gB_sB (σ : St) (k i j x : Nat) (v : Int64) : gB (sB σ k i v) j x = if j = k ∧ x = i then v else gB σ j x := by
  show (if j = k then vp_updL (σ.2.2.2 k) i v else σ.2.2.2 j) x = _
  by_cases q : j = k
  · subst q
    rw [if_pos rfl]
    show (if x = i then v else _) = _
    by_cases z : x = i
    · rw [if_pos z, if_pos ⟨rfl, z⟩]
    · rw [if_neg z, if_neg (fun w => z w.2)]; rfl
  · rw [if_neg q, if_neg (fun w => q w.1)]; rfl
