/-! ===== how many bases: a walk by Bland's rule has fewer than 258048 steps ===== -/
def msk (f : Nat → Bool) : Nat → Nat
  | 0 => 0
  | k + 1 => msk f k + if f k then 2 ^ k else 0
theorem msk_lt (f : Nat → Bool) : ∀ k, msk f k < 2 ^ k
  | 0 => Nat.one_pos
  | k + 1 => by
    have := msk_lt f k
    show msk f k + (if f k then 2 ^ k else 0) < 2 ^ (k + 1)
    rw [Nat.pow_succ]
    by_cases h : f k = true
    · rw [if_pos h]; omega
    · rw [if_neg h]; omega
theorem msk_bit (f : Nat → Bool) : ∀ (k i : Nat), (msk f k).testBit i = (decide (i < k) && f i)
  | 0, i => by simp [msk]
  | k + 1, i => by
    have ih := msk_bit f k i
    have hl := msk_lt f k
    have hl1 := msk_lt f (k + 1)
    by_cases q : i < k
    · show (msk f k + if f k then 2 ^ k else 0).testBit i = _
      rw [show decide (i < k + 1) = true from decide_eq_true (by omega), Bool.true_and]
      rw [show decide (i < k) = true from decide_eq_true q, Bool.true_and] at ih
      by_cases h : f k = true
      · rw [if_pos h, Nat.add_comm, Nat.testBit_two_pow_add_gt q, ih]
      · rw [if_neg h, Nat.add_zero, ih]
    · by_cases q2 : i = k
      · subst q2
        show (msk f i + if f i then 2 ^ i else 0).testBit i = _
        rw [show decide (i < i + 1) = true from decide_eq_true (by omega), Bool.true_and]
        rw [show decide (i < i) = false from decide_eq_false (by omega), Bool.false_and] at ih
        by_cases h : f i = true
        · rw [if_pos h, Nat.add_comm, Nat.testBit_two_pow_add_eq, ih, h]; rfl
        · rw [if_neg h, Nat.add_zero, ih]
          exact (Bool.eq_false_iff.mpr h).symm
      · rw [show decide (i < k + 1) = false from decide_eq_false (by omega), Bool.false_and]
        exact Nat.testBit_lt_two_pow (Nat.lt_of_lt_of_le hl1 (Nat.pow_le_pow_right (by decide) (by omega)))
theorem msk_inj {f g : Nat → Bool} {k : Nat} (h : msk f k = msk g k) : ∀ i, i < k → f i = g i := fun i hi => by
  have h1 := msk_bit f k i
  have h2 := msk_bit g k i
  rw [h, h2, show decide (i < k) = true from decide_eq_true hi, Bool.true_and, Bool.true_and] at h1
  exact h1.symm
/-- how many bits of ten -/
def pc (x : Nat) : Nat := fb_ct (fun i => x.testBit i) 10
theorem pc_msk (f : Nat → Bool) {k : Nat} (hk : k ≤ 10) : pc (msk f k) = fb_ct f k := by
  unfold pc
  have e1 : 10 = k + (10 - k) := by omega
  rw [e1, fb_ct_split]
  rw [fb_ct_cong (q := f) (fun i hi => by rw [msk_bit, decide_eq_true hi, Bool.true_and])]
  have : fb_ct (fun q => (msk f k).testBit (k + q)) (10 - k) = 0 := fb_ct_zero.mpr (fun q _ => by rw [msk_bit, decide_eq_false (by omega), Bool.false_and])
  rw [this, Nat.add_zero]
theorem pc_le : ∀ k, k < 11 → fb_ct (fun y => pc y == k) 1024 ≤ 252 := by decide +kernel
def rk (x : Nat) : Nat := fb_ct (fun y => pc y == pc x) x
theorem rk_lt {x : Nat} (h : x < 1024) : rk x < 252 := by
  have h1 : pc x < 11 := Nat.lt_succ_of_le (fb_ct_le _ 10)
  have h2 := pc_le (pc x) h1
  have h3 : fb_ct (fun y => pc y == pc x) (x + 1) = rk x + 1 := by
    rw [fb_ct_succ]; simp [rk]
  have h4 := fb_ct_mono (fun y => pc y == pc x) (show x + 1 ≤ 1024 by omega)
  omega
theorem rk_inj {x y : Nat} (hp : pc x = pc y) (h : rk x = rk y) : x = y := by
  unfold rk at h
  rw [← hp] at h
  exact fb_ct_kth_one (p := fun z => pc z == pc x) (by simp) (by simp [hp]) h
/-- is column j of the base, as a Bool -/
def ib (m : Nat) (C : Nat → Nat) (j : Nat) : Bool := (List.range m).any (fun s => C s == j)
theorem ib_iff (m : Nat) (C : Nat → Nat) (j : Nat) : ib m C j = true ↔ ∃ s, s < m ∧ C s = j := by
  unfold ib
  rw [List.any_eq_true]
  constructor
  · rintro ⟨s, h1, h2⟩; exact ⟨s, List.mem_range.mp h1, by simpa using h2⟩
  · rintro ⟨s, h1, h2⟩; exact ⟨s, List.mem_range.mpr h1, by simpa using h2⟩
theorem ib_ct (C : Nat → Nat) (N : Nat) : ∀ m, (∀ s, s < m → C s < N) → (∀ s t, s < m → t < m → C s = C t → s = t) → fb_ct (ib m C) N = m
  | 0, _, _ => fb_ct_zero.mpr (fun k _ => rfl)
  | m + 1, h1, h2 => by
    have ih := ib_ct C N m (fun s hs => h1 s (by omega)) (fun s t hs ht => h2 s t (by omega) (by omega))
    have h0 : ib m C (C m) = false := by
      rw [Bool.eq_false_iff]
      intro q
      obtain ⟨s, hs, e⟩ := (ib_iff m C (C m)).mp q
      have := h2 s m (by omega) (by omega) e
      omega
    have e : ∀ j, ib (m + 1) C j = (if j = C m then true else ib m C j) := by
      intro j
      by_cases q : j = C m
      · rw [if_pos q]; exact (ib_iff _ _ _).mpr ⟨m, by omega, q.symm⟩
      · rw [if_neg q]
        by_cases z : ib m C j = true
        · rw [z]
          obtain ⟨s, hs, hh⟩ := (ib_iff _ _ _).mp z
          exact (ib_iff _ _ _).mpr ⟨s, by omega, hh⟩
        · rw [Bool.eq_false_iff.mpr z, Bool.eq_false_iff]
          intro w
          obtain ⟨s, hs, hh⟩ := (ib_iff _ _ _).mp w
          by_cases y : s = m
          · subst y; exact q hh.symm
          · exact z ((ib_iff _ _ _).mpr ⟨s, by omega, hh⟩)
    have := fb_ct_upd (ib m C) true (i := C m) (h1 m (by omega))
    rw [h0] at this
    simp only [if_true, Bool.false_eq_true, if_false] at this
    rw [fb_ct_cong (q := fun k => if k = C m then true else ib m C k) (fun k _ => e k)]
    omega
def bcode (n m : Nat) (S : Sx) : Nat := msk (fun t => ib m S.1 (n + t)) m * 252 + rk (msk (ib m S.1) n)
theorem bcode_lt {n m : Nat} (hn : n ≤ 10) (hm : m ≤ 10) (S : Sx) : bcode n m S < 258048 := by
  have h1 : msk (fun t => ib m S.1 (n + t)) m < 1024 := Nat.lt_of_lt_of_le (msk_lt _ m) (Nat.pow_le_pow_right (by decide) hm)
  have h2 := rk_lt (x := msk (ib m S.1) n) (Nat.lt_of_lt_of_le (msk_lt _ n) (Nat.pow_le_pow_right (by decide) hn))
  unfold bcode
  omega
theorem bcode_inj {n m : Nat} {v : Nat → Vc} (hn : n ≤ 10) (hm : m ≤ 10) {S S' : Sx} (h : Std n m v S) (h' : Std n m v S') (e : bcode n m S = bcode n m S') : ∀ j, Inb m S j ↔ Inb m S' j := by
  have r1 := rk_lt (x := msk (ib m S.1) n) (Nat.lt_of_lt_of_le (msk_lt _ n) (Nat.pow_le_pow_right (by decide) hn))
  have r2 := rk_lt (x := msk (ib m S'.1) n) (Nat.lt_of_lt_of_le (msk_lt _ n) (Nat.pow_le_pow_right (by decide) hn))
  unfold bcode at e
  have e1 : msk (fun t => ib m S.1 (n + t)) m = msk (fun t => ib m S'.1 (n + t)) m := by omega
  have e2 : rk (msk (ib m S.1) n) = rk (msk (ib m S'.1) n) := by omega
  have s1 := msk_inj e1
  have c1 := ib_ct S.1 (n + m) m (std_lt h) (fun s t hs ht q => tab_inj h.1 hs ht q)
  have c2 := ib_ct S'.1 (n + m) m (std_lt h') (fun s t hs ht q => tab_inj h'.1 hs ht q)
  rw [fb_ct_split] at c1 c2
  have e3 : fb_ct (fun k => ib m S.1 (n + k)) m = fb_ct (fun k => ib m S'.1 (n + k)) m := fb_ct_cong s1
  have e4 : msk (ib m S.1) n = msk (ib m S'.1) n := rk_inj (by rw [pc_msk _ hn, pc_msk _ hn]; omega) e2
  have s2 := msk_inj e4
  have key : ∀ j, ib m S.1 j = ib m S'.1 j := by
    intro j
    by_cases q : j < n
    · exact s2 j q
    · by_cases q2 : j < n + m
      · have := s1 (j - n) (by omega)
        simp only [show n + (j - n) = j by omega] at this
        exact this
      · have z1 : ib m S.1 j = false := Bool.eq_false_iff.mpr (fun w => by obtain ⟨s, hs, hh⟩ := (ib_iff _ _ _).mp w; have := std_lt h s hs; omega)
        have z2 : ib m S'.1 j = false := Bool.eq_false_iff.mpr (fun w => by obtain ⟨s, hs, hh⟩ := (ib_iff _ _ _).mp w; have := std_lt h' s hs; omega)
        rw [z1, z2]
  intro j
  exact ((ib_iff m S.1 j).symm.trans (by rw [key j])).trans (ib_iff m S'.1 j)
/-- no walk is longer -/
theorem wlk_short {n m : Nat} {v : Nat → Vc} {c : Nat → Int} {bar : Nat → Prop} {S : Nat → Sx} {e r : Nat → Nat} {N : Nat} (hn : n ≤ 10) (hm : m ≤ 10) (hc : c (n + m) = 0) (h : Wlk n m v c bar S e r N) : N < 258048 := by
  by_cases hN : N = 0
  · omega
  have := fb_holes 258048 (N + 1) (fun i => bcode n m (S i)) (fun i _ => bcode_lt hn hm (S i)) (fun i j hij hj q => bland h hc hij (by omega) (bcode_inj hn hm (wlk_std h (by omega) (by omega)) (wlk_std h (by omega) (by omega)) q))
  omega
