/-! ===== how great determinants of small numbers are ===== -/
theorem alt_bound : ∀ (vs : List Vc) (f : Vc → List Vc → Int) (M : Int), (∀ u r, u ∈ vs → (∀ x ∈ r, x ∈ vs) → r.length + 1 = vs.length → -M ≤ f u r ∧ f u r ≤ M) → -(vs.length * M) ≤ alt f vs ∧ alt f vs ≤ vs.length * M
  | [], _, M, _ => by simp [alt]
  | v :: vs, f, M, h => by
    have h1 := h v vs List.mem_cons_self (fun x hx => List.mem_cons_of_mem _ hx) rfl
    have h2 := alt_bound vs (fun u r => f u (v :: r)) M (fun u r hu hr hl => h u (v :: r) (List.mem_cons_of_mem _ hu) (fun x hx => by
      rcases List.mem_cons.mp hx with rfl | hx
      · exact List.mem_cons_self
      · exact List.mem_cons_of_mem _ (hr x hx)) (by simp [hl]))
    have e : (((v :: vs).length : Nat) : Int) * M = vs.length * M + M := by
      rw [List.length_cons, Int.natCast_succ, Int.add_mul, Int.one_mul]
    unfold alt
    omega
def fct : Nat → Nat
  | 0 => 1
  | n + 1 => (n + 1) * fct n
theorem abs_mul_le {a b A B : Int} (ha : -A ≤ a ∧ a ≤ A) (hb : -B ≤ b ∧ b ≤ B) : -(A * B) ≤ a * b ∧ a * b ≤ A * B := by
  have hA : 0 ≤ A := by omega
  have hB : 0 ≤ B := by omega
  have p1 := Int.mul_nonneg (show 0 ≤ A - a by omega) (show 0 ≤ B - b by omega)
  have p2 := Int.mul_nonneg (show 0 ≤ A + a by omega) (show 0 ≤ B + b by omega)
  have p3 := Int.mul_nonneg (show 0 ≤ A - a by omega) (show 0 ≤ B + b by omega)
  have p4 := Int.mul_nonneg (show 0 ≤ A + a by omega) (show 0 ≤ B - b by omega)
  simp only [Int.sub_mul, Int.mul_sub, Int.add_mul, Int.mul_add] at p1 p2 p3 p4
  omega
/-- entries of at most 1 -/
theorem dc_fct (C : Nat → Nat) : ∀ (m : Nat) (vs : List Vc), vs.length = m → (∀ u ∈ vs, ∀ t, t < m → -1 ≤ u (C t) ∧ u (C t) ≤ 1) → -(fct m : Int) ≤ DC C m vs ∧ DC C m vs ≤ fct m
  | 0, _, _, _ => by simp [DC, fct]
  | m + 1, vs, hl, h => by
    have := alt_bound vs (fun v r => v (C m) * DC C m r) (fct m) (fun u r hu hr hr2 => by
      have h1 := dc_fct C m r (by omega) (fun x hx t ht => h x (hr x hx) t (by omega))
      have h2 := h u hu m (by omega)
      have := abs_mul_le h2 h1
      rw [Int.one_mul] at this
      exact this)
    have e : ((fct (m + 1) : Nat) : Int) = vs.length * fct m := by rw [hl]; show (((m + 1) * fct m : Nat) : Int) = _; rw [Int.natCast_mul]
    rw [e]
    exact this
/-- one coordinate has greater entries -/
theorem dc_fct_big (C : Nat → Nat) (i : Nat) (K : Int) (hK : 1 ≤ K) : ∀ (m : Nat) (vs : List Vc), vs.length = m → (∀ u ∈ vs, ∀ t, t < m → t ≠ i → -1 ≤ u (C t) ∧ u (C t) ≤ 1) → (∀ u ∈ vs, -K ≤ u (C i) ∧ u (C i) ≤ K) → -(fct m * K) ≤ DC C m vs ∧ DC C m vs ≤ fct m * K
  | 0, _, _, _, _ => by simp [DC, fct]; omega
  | m + 1, vs, hl, h, hb => by
    have e : ((fct (m + 1) : Nat) : Int) * K = vs.length * (fct m * K) := by rw [hl]; show (((m + 1) * fct m : Nat) : Int) * K = _; rw [Int.natCast_mul, Int.mul_assoc]
    rw [e]
    refine alt_bound vs (fun v r => v (C m) * DC C m r) (fct m * K) (fun u r hu hr hr2 => ?_)
    by_cases q : m = i
    · have h1 := dc_fct C m r (by omega) (fun x hx t ht => h x (hr x hx) t (by omega) (by omega))
      have h2 := hb u hu
      rw [← q] at h2
      have := abs_mul_le h2 h1
      rw [Int.mul_comm K] at this
      exact this
    · have h1 := dc_fct_big C i K hK m r (by omega) (fun x hx t ht hne => h x (hr x hx) t (by omega) hne) (fun x hx => hb x (hr x hx))
      have h2 := h u hu m (by omega) q
      have := abs_mul_le h2 h1
      rw [Int.one_mul] at this
      exact this
/-! zeros and ones: better, by signs -/
/-- linear in the numbers at one coordinate: the coordinate's numbers given by a function of the vector -/
def DG (C : Nat → Vc → Int) : Nat → List Vc → Int
  | 0, _ => 1
  | m + 1, vs => alt (fun v r => C m v * DG C m r) vs
theorem dg_cram (C : Nat → Vc → Int) : ∀ (m l : Nat) (w : List Vc), l < m → w.length = m + 1 → alt (fun v r => C l v * DG C m r) w = 0
  | 0, l, _, h, _ => absurd h (Nat.not_lt_zero l)
  | m + 1, l, w, hl, hw => by
    have e0 : alt (fun v r => C l v * DG C (m + 1) r) w = alt (fun v r => alt (fun u r2 => C l v * (C m u * DG C m r2)) r) w := by
      refine alt_congr w _ _ fun u r _ _ _ => ?_
      rw [alt_mul]; rfl
    rw [e0]
    by_cases h : l = m
    · subst h
      have s := alt_swap w (fun v u r2 => C l v * (C l u * DG C l r2))
      have e1 : alt (fun v r => alt (fun u r2 => C l u * (C l v * DG C l r2)) r) w = alt (fun v r => alt (fun u r2 => C l v * (C l u * DG C l r2)) r) w := by
        refine alt_congr w _ _ fun u r _ _ _ => alt_congr r _ _ fun x y _ _ _ => ?_
        rw [Int.mul_left_comm]
      rw [e1] at s
      omega
    · have s := alt_swap w (fun v u r2 => C l v * (C m u * DG C m r2))
      have e1 : alt (fun v r => alt (fun u r2 => C l u * (C m v * DG C m r2)) r) w = 0 := by
        rw [← alt_zero w]
        refine alt_congr w _ _ fun u r _ _ hr => ?_
        have e2 : alt (fun x r2 => C l x * (C m u * DG C m r2)) r = alt (fun x r2 => C m u * (C l x * DG C m r2)) r := alt_congr r _ _ fun x y _ _ _ => Int.mul_left_comm _ _ _
        rw [e2, alt_mul, dg_cram C m l r (by omega) (by omega), Int.mul_zero]
      rw [s, e1]; rfl
theorem dg_congr (C C' : Nat → Vc → Int) : ∀ (m : Nat) (vs : List Vc), (∀ t, t < m → ∀ u ∈ vs, C t u = C' t u) → DG C m vs = DG C' m vs
  | 0, _, _ => rfl
  | m + 1, vs, h => by
    show alt _ vs = alt _ vs
    refine alt_congr vs _ _ fun u r hu hr _ => ?_
    rw [h m (Nat.lt_succ_self m) u hu, dg_congr C C' m r (fun t ht x hx => h t (Nat.lt_succ_of_lt ht) x (hr x hx))]
/-- the coordinate i taken less k -/
def gsub (C : Nat → Vc → Int) (i : Nat) (g : Vc → Int) : Nat → Vc → Int := fun t v => if t = i then C t v - g v else C t v
def gset (C : Nat → Vc → Int) (i : Nat) (g : Vc → Int) : Nat → Vc → Int := fun t v => if t = i then g v else C t v
theorem dg_lin (C : Nat → Vc → Int) (g : Vc → Int) : ∀ (m i : Nat) (vs : List Vc), i < m → DG (gsub C i g) m vs = DG C m vs - DG (gset C i g) m vs
  | 0, i, _, h => absurd h (Nat.not_lt_zero i)
  | m + 1, i, vs, hi => by
    show alt (fun v r => gsub C i g m v * DG (gsub C i g) m r) vs = alt (fun v r => C m v * DG C m r) vs - alt (fun v r => gset C i g m v * DG (gset C i g) m r) vs
    rw [← alt_sub]
    refine alt_congr vs _ _ fun u r _ _ _ => ?_
    by_cases q : i = m
    · subst q
      have e1 : DG (gsub C i g) i r = DG C i r := dg_congr _ _ i r (fun t ht x _ => if_neg (by omega))
      have e2 : DG (gset C i g) i r = DG C i r := dg_congr _ _ i r (fun t ht x _ => if_neg (by omega))
      rw [e1, e2]
      show (if i = i then C i u - g u else C i u) * _ = _ - (if i = i then g u else C i u) * _
      rw [if_pos rfl, if_pos rfl, Int.sub_mul]
    · rw [dg_lin C g m i r (by omega)]
      show (if m = i then C m u - g u else C m u) * _ = _ - (if m = i then g u else C m u) * _
      rw [if_neg (fun e => q e.symm), if_neg (fun e => q e.symm), Int.mul_sub]
/-- taking the top coordinate from a lower one changes nothing -/
theorem dg_take (C : Nat → Vc → Int) (m i : Nat) (vs : List Vc) (hi : i < m) (hl : vs.length = m + 1) : DG (gsub C i (C m)) (m + 1) vs = DG C (m + 1) vs := by
  show alt (fun v r => gsub C i (C m) m v * DG (gsub C i (C m)) m r) vs = alt (fun v r => C m v * DG C m r) vs
  have e : alt (fun v r => gsub C i (C m) m v * DG (gsub C i (C m)) m r) vs = alt (fun v r => C m v * DG C m r - gset C i (C m) i v * DG (gset C i (C m)) m r) vs := by
    refine alt_congr vs _ _ fun u r _ _ _ => ?_
    rw [dg_lin C (C m) m i r hi]
    show (if m = i then _ else C m u) * _ = _ - (if i = i then C m u else _) * _
    rw [if_neg (by omega), if_pos rfl, Int.mul_sub]
  rw [e, alt_sub, dg_cram (gset C i (C m)) m i vs hi hl, Int.sub_zero]
/-- the top coordinate taken from the first k -/
def gall (C : Nat → Vc → Int) (m k : Nat) : Nat → Vc → Int := fun t v => if t < k then C t v - C m v else C t v
theorem dg_takeAll (C : Nat → Vc → Int) (m : Nat) (vs : List Vc) (hl : vs.length = m + 1) : ∀ k, k ≤ m → DG (gall C m k) (m + 1) vs = DG C (m + 1) vs
  | 0, _ => dg_congr _ _ _ _ (fun t _ u _ => if_neg (by omega))
  | k + 1, hk => by
    rw [← dg_takeAll C m vs hl k (by omega), ← dg_take (gall C m k) m k vs (by omega) hl]
    refine dg_congr _ _ _ _ (fun t ht u _ => ?_)
    unfold gall gsub
    by_cases h1 : t = k
    · subst h1; simp [show ¬ m < t by omega]
    · by_cases h2 : t < k
      · simp [h1, h2, show t < k + 1 by omega]
      · simp [h1, h2, show ¬ t < k + 1 by omega]
theorem dg_zero (C : Nat → Vc → Int) : ∀ (m : Nat) (vs : List Vc), 0 < m → vs.length = m → (∃ z ∈ vs, ∀ t, t < m → C t z = 0) → DG C m vs = 0 := by
  intro m
  induction m with
  | zero => intro vs h; exact absurd h (Nat.lt_irrefl 0)
  | succ m ih =>
    intro vs _ hl ⟨z, hz, h0⟩
    show alt (fun v r => C m v * DG C m r) vs = 0
    rw [← alt_zero vs]
    -- the vector itself gives 0; of the others the rest holds it
    have key : ∀ (vs : List Vc) (f : Vc → List Vc → Int), z ∈ vs → (∀ r, f z r = 0) → (∀ u r, z ∈ r → r.length + 1 = vs.length → f u r = 0) → alt f vs = 0 := by
      intro vs
      induction vs with
      | nil => intro f h; exact absurd h List.not_mem_nil
      | cons a vs ih2 =>
        intro f hmem h1 h2
        unfold alt
        rcases List.mem_cons.mp hmem with e | e
        · subst e
          have : alt (fun u r => f u (z :: r)) vs = 0 := by
            rw [← alt_zero vs]
            exact alt_congr vs _ _ fun u r _ _ hr => h2 u (z :: r) List.mem_cons_self (by simp [hr])
          rw [h1, this]; rfl
        · rw [h2 a vs e rfl, ih2 (fun u r => f u (a :: r)) e (fun r => h1 _) (fun u r hr hl2 => h2 u (a :: r) (List.mem_cons_of_mem _ hr) (by simp [hl2]))]; rfl
    rw [alt_zero]
    refine key vs _ hz (fun r => by rw [h0 m (by omega), Int.zero_mul]) (fun u r hr hl2 => ?_)
    by_cases q : m = 0
    · subst q
      have : r = [] := List.eq_nil_of_length_eq_zero (by omega)
      rw [this] at hr
      exact absurd hr List.not_mem_nil
    · rw [ih r (by omega) (by omega) ⟨z, hr, fun t ht => h0 t (by omega)⟩, Int.mul_zero]
theorem dg_fct (C : Nat → Vc → Int) : ∀ (m : Nat) (vs : List Vc), vs.length = m → (∀ u ∈ vs, ∀ t, t < m → -1 ≤ C t u ∧ C t u ≤ 1) → -(fct m : Int) ≤ DG C m vs ∧ DG C m vs ≤ fct m
  | 0, _, _, _ => by simp [DG, fct]
  | m + 1, vs, hl, h => by
    have := alt_bound vs (fun v r => C m v * DG C m r) (fct m) (fun u r hu hr hr2 => by
      have h1 := dg_fct C m r (by omega) (fun x hx t ht => h x (hr x hx) t (by omega))
      have h2 := h u hu m (by omega)
      have := abs_mul_le h2 h1
      rw [Int.one_mul] at this
      exact this)
    have e : ((fct (m + 1) : Nat) : Int) = vs.length * fct m := by rw [hl]; show (((m + 1) * fct m : Nat) : Int) = _; rw [Int.natCast_mul]
    rw [e]
    exact this
theorem dg_scale (C : Nat → Vc → Int) : ∀ (m : Nat) (vs : List Vc), DG (fun t v => 2 * C t v) m vs = 2 ^ m * DG C m vs
  | 0, _ => rfl
  | m + 1, vs => by
    show alt (fun v r => 2 * C m v * DG (fun t v => 2 * C t v) m r) vs = 2 ^ (m + 1) * alt (fun v r => C m v * DG C m r) vs
    rw [← alt_mul]
    refine alt_congr vs _ _ fun u r _ _ _ => ?_
    rw [dg_scale C m r, Int.pow_succ]
    simp only [Int.mul_assoc, Int.mul_left_comm, Int.mul_comm]
theorem dc_dg (C : Nat → Nat) : ∀ (m : Nat) (vs : List Vc), DC C m vs = DG (fun t v => v (C t)) m vs
  | 0, _ => rfl
  | m + 1, vs => alt_congr vs _ _ fun u r _ _ _ => by rw [dc_dg C m r]
/-- zeros and ones: 2^m |det| is at most (m+1)! -/
theorem dc_sign (C : Nat → Nat) (m : Nat) (vs : List Vc) (hl : vs.length = m) (h : ∀ u ∈ vs, ∀ t, t < m → 0 ≤ u (C t) ∧ u (C t) ≤ 1) : -(fct (m + 1) : Int) ≤ 2 ^ m * DC C m vs ∧ 2 ^ m * DC C m vs ≤ fct (m + 1) := by
  by_cases hm : m = 0
  · subst hm; simp [DC, fct]
  -- the bordered one: the vectors marked by a number above all coordinates
  obtain ⟨M, hM⟩ : ∃ M : Nat, ∀ t, t < m → C t ≠ M := by
    have : ∀ k, ∃ M : Nat, ∀ t, t < k → C t < M := by
      intro k
      induction k with
      | zero => exact ⟨0, fun t h => absurd h (Nat.not_lt_zero t)⟩
      | succ k ih =>
        obtain ⟨M, hM⟩ := ih
        refine ⟨M + C k + 1, fun t ht => ?_⟩
        by_cases q : t = k
        · subst q; omega
        · have := hM t (by omega); omega
    obtain ⟨M, hM⟩ := this m
    exact ⟨M, fun t ht => by have := hM t ht; omega⟩
  let G : Nat → Vc → Int := fun t v => if t < m then 2 * v (C t) else 1
  let z : Vc := fun _ => 0
  have e1 : DG G (m + 1) (z :: vs) = 2 ^ m * DC C m vs := by
    show G m z * DG G m vs - alt (fun u r => G m u * DG G m (z :: r)) vs = _
    have e2 : alt (fun u r => G m u * DG G m (z :: r)) vs = 0 := by
      rw [← alt_zero vs]
      refine alt_congr vs _ _ fun u r _ _ hr => ?_
      rw [dg_zero G m (z :: r) (by omega) (by simp; omega) ⟨z, List.mem_cons_self, fun t ht => by show (if t < m then 2 * (0 : Int) else 1) = 0; rw [if_pos ht]; rfl⟩, Int.mul_zero]
    have e3 : DG G m vs = 2 ^ m * DC C m vs := by
      rw [dc_dg, ← dg_scale]
      exact dg_congr _ _ m vs (fun t ht u _ => if_pos ht)
    have e4 : G m z = 1 := if_neg (Nat.lt_irrefl m)
    rw [e2, e3, e4]; omega
  have e5 := dg_takeAll G m (z :: vs) (by simp [hl]) m (Nat.le_refl m)
  rw [← e1, ← e5]
  refine dg_fct _ (m + 1) (z :: vs) (by simp [hl]) (fun u hu t ht => ?_)
  have hG : G m u = 1 := if_neg (Nat.lt_irrefl m)
  unfold gall
  by_cases q : t < m
  · rw [if_pos q, hG]
    have e6 : G t u = 2 * u (C t) := if_pos q
    rw [e6]
    rcases List.mem_cons.mp hu with e | e
    · subst e; show -1 ≤ 2 * (0 : Int) - 1 ∧ 2 * (0 : Int) - 1 ≤ 1; omega
    · have := h u e t q; omega
  · rw [if_neg q]
    have e6 : G t u = 1 := if_neg q
    omega
