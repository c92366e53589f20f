/-! ===== determinants by expansion; coordinates by a map; no division ===== -/
abbrev Vc : Type := Nat → Int
def alt (f : Vc → List Vc → Int) : List Vc → Int
  | [] => 0
  | v :: vs => f v vs - alt (fun u r => f u (v :: r)) vs
theorem alt_congr : ∀ (vs : List Vc) (f g : Vc → List Vc → Int), (∀ u r, u ∈ vs → (∀ x ∈ r, x ∈ vs) → r.length + 1 = vs.length → f u r = g u r) → alt f vs = alt g vs
  | [], _, _, _ => rfl
  | v :: vs, f, g, h => by
    unfold alt
    rw [h v vs List.mem_cons_self (fun x hx => List.mem_cons_of_mem _ hx) rfl, alt_congr vs (fun u r => f u (v :: r)) (fun u r => g u (v :: r)) ?_]
    intro u r hu hr hl
    refine h u (v :: r) (List.mem_cons_of_mem _ hu) (fun x hx => ?_) (by simp [hl])
    rcases List.mem_cons.mp hx with rfl | hx
    · exact List.mem_cons_self
    · exact List.mem_cons_of_mem _ (hr x hx)
theorem alt_zero : ∀ (vs : List Vc), alt (fun _ _ => 0) vs = 0
  | [] => rfl
  | v :: vs => by unfold alt; rw [alt_zero vs]; rfl
theorem alt_add : ∀ (vs : List Vc) (f g : Vc → List Vc → Int), alt (fun u r => f u r + g u r) vs = alt f vs + alt g vs
  | [], _, _ => rfl
  | v :: vs, f, g => by unfold alt; rw [alt_add vs]; omega
theorem alt_sub : ∀ (vs : List Vc) (f g : Vc → List Vc → Int), alt (fun u r => f u r - g u r) vs = alt f vs - alt g vs
  | [], _, _ => rfl
  | v :: vs, f, g => by unfold alt; rw [alt_sub vs]; omega
theorem alt_mul : ∀ (vs : List Vc) (c : Int) (f : Vc → List Vc → Int), alt (fun u r => c * f u r) vs = c * alt f vs
  | [], c, _ => (Int.mul_zero c).symm
  | v :: vs, c, f => by unfold alt; rw [alt_mul vs, Int.mul_sub]
/-- choosing two in either order differs by the sign -/
theorem alt_swap : ∀ (w : List Vc) (g : Vc → Vc → List Vc → Int), alt (fun v r => alt (fun u r2 => g v u r2) r) w = - alt (fun v r => alt (fun u r2 => g u v r2) r) w
  | [], _ => rfl
  | a :: w, g => by
    have e1 : ∀ k : Vc → Vc → List Vc → Int, alt (fun v r => alt (fun u r2 => k v u r2) r) (a :: w) = alt (fun u r2 => k a u r2) w - alt (fun v r => k v a r) w + alt (fun v r => alt (fun u r2 => k v u (a :: r2)) r) w := by
      intro k
      show alt (fun u r2 => k a u r2) w - alt (fun v r => alt (fun u r2 => k v u r2) (a :: r)) w = _
      have e2 : alt (fun v r => alt (fun u r2 => k v u r2) (a :: r)) w = alt (fun v r => k v a r - alt (fun u r2 => k v u (a :: r2)) r) w := rfl
      rw [e2]
      have e3 := alt_sub w (fun v r => k v a r) (fun v r => alt (fun u r2 => k v u (a :: r2)) r)
      rw [e3]
      generalize alt (fun u r2 => k a u r2) w = x1
      generalize alt (fun v r => k v a r) w = x2
      generalize alt (fun v r => alt (fun u r2 => k v u (a :: r2)) r) w = x3
      omega
    have ih := alt_swap w (fun v u r2 => g v u (a :: r2))
    rw [e1 g, e1 (fun v u r2 => g u v r2), ih]
    omega
def DC (C : Nat → Nat) : Nat → List Vc → Int
  | 0, _ => 1
  | m + 1, vs => alt (fun v r => v (C m) * DC C m r) vs
/-- of one vector more than coordinates: the expansion by a coordinate that is there already is 0 -/
theorem dc_cram (C : Nat → Nat) : ∀ (m l : Nat) (w : List Vc), l < m → w.length = m + 1 → alt (fun v r => v (C l) * DC C m r) w = 0
  | 0, l, _, h, _ => absurd h (Nat.not_lt_zero l)
  | m + 1, l, w, hl, hw => by
    have e0 : alt (fun v r => v (C l) * DC C (m + 1) r) w = alt (fun v r => alt (fun u r2 => v (C l) * (u (C m) * DC C m r2)) r) w := by
      refine alt_congr w _ _ fun u r _ _ _ => ?_
      rw [alt_mul]; rfl
    rw [e0]
    by_cases h : l = m
    · subst h
      have s := alt_swap w (fun v u r2 => v (C l) * (u (C l) * DC C l r2))
      have e1 : alt (fun v r => alt (fun u r2 => u (C l) * (v (C l) * DC C l r2)) r) w = alt (fun v r => alt (fun u r2 => v (C l) * (u (C l) * DC C l r2)) r) w := by
        refine alt_congr w _ _ fun u r _ _ _ => alt_congr r _ _ fun x y _ _ _ => ?_
        rw [Int.mul_left_comm]
      rw [e1] at s
      omega
    · have s := alt_swap w (fun v u r2 => v (C l) * (u (C m) * DC C m r2))
      have e1 : alt (fun v r => alt (fun u r2 => u (C l) * (v (C m) * DC C m r2)) r) w = 0 := by
        rw [← alt_zero w]
        refine alt_congr w _ _ fun u r _ _ hr => ?_
        have e2 : alt (fun x r2 => x (C l) * (u (C m) * DC C m r2)) r = alt (fun x r2 => u (C m) * (x (C l) * DC C m r2)) r := alt_congr r _ _ fun x y _ _ _ => Int.mul_left_comm _ _ _
        rw [e2, alt_mul, dc_cram C m l r (by omega) (by omega), Int.mul_zero]
      rw [s, e1]; rfl
/-- one coordinate twice -/
theorem dc_twice (C : Nat → Nat) : ∀ (m p q : Nat) (vs : List Vc), p < q → q < m → C p = C q → vs.length = m → DC C m vs = 0
  | 0, _, q, _, _, h, _, _ => absurd h (Nat.not_lt_zero q)
  | m + 1, p, q, vs, hpq, hq, he, hl => by
    by_cases h : q = m
    · subst h
      have := dc_cram C q p vs hpq hl
      rw [he] at this
      exact this
    · show alt (fun v r => v (C m) * DC C m r) vs = 0
      rw [← alt_zero vs]
      refine alt_congr vs _ _ fun u r _ _ hr => ?_
      rw [dc_twice C m p q r hpq (by omega) he (by omega), Int.mul_zero]
theorem dc_congr (C C' : Nat → Nat) : ∀ (m : Nat) (vs : List Vc), (∀ t, t < m → C t = C' t) → DC C m vs = DC C' m vs
  | 0, _, _ => rfl
  | m + 1, vs, h => by
    show alt _ vs = alt _ vs
    refine alt_congr vs _ _ fun u r _ _ _ => ?_
    rw [h m (Nat.lt_succ_self m), dc_congr C C' m r (fun t ht => h t (Nat.lt_succ_of_lt ht))]
/-- a coordinate changed -/
def cu (C : Nat → Nat) (i j : Nat) : Nat → Nat := fun t => if t = i then j else C t
theorem cu_same (C : Nat → Nat) (i j : Nat) : cu C i j i = j := if_pos rfl
theorem cu_ne (C : Nat → Nat) {i j t : Nat} (h : t ≠ i) : cu C i j t = C t := if_neg h
theorem cu_self (C : Nat → Nat) (i : Nat) : cu C i (C i) = C := funext fun t => by unfold cu; split <;> simp_all
theorem cu_cu (C : Nat → Nat) (i j k : Nat) : cu (cu C i j) i k = cu C i k := funext fun t => by unfold cu; split <;> rfl
theorem cu_comm (C : Nat → Nat) {i j a b : Nat} (h : i ≠ j) : cu (cu C i a) j b = cu (cu C j b) i a := funext fun t => by
  unfold cu
  by_cases h1 : t = i
  · subst h1; simp [h]
  · by_cases h2 : t = j
    · subst h2; simp [h1]
    · simp [h1, h2]
/-! what is put together of vectors, with whole numbers -/
def InSp (vs : List Vc) (f : Vc) : Prop := ∃ cs : List (Int × Vc), (∀ c ∈ cs, c.2 ∈ vs) ∧ ∀ j, f j = (cs.map (fun c => c.1 * c.2 j)).sum
theorem sp_zero (vs : List Vc) : InSp vs (fun _ => 0) := ⟨[], (fun c h => absurd h List.not_mem_nil), fun _ => rfl⟩
theorem sp_mem {vs : List Vc} {v : Vc} (h : v ∈ vs) : InSp vs v := ⟨[(1, v)], fun c hc => by rw [List.mem_singleton.mp hc]; exact h, fun j => by simp⟩
theorem sp_mono {vs ws : List Vc} {f : Vc} (h : InSp vs f) (hs : ∀ x ∈ vs, x ∈ ws) : InSp ws f := by
  obtain ⟨cs, h1, h2⟩ := h
  exact ⟨cs, fun c hc => hs _ (h1 c hc), h2⟩
theorem sp_add {vs : List Vc} {f g : Vc} (hf : InSp vs f) (hg : InSp vs g) : InSp vs (fun j => f j + g j) := by
  obtain ⟨cs, h1, h2⟩ := hf
  obtain ⟨ds, h3, h4⟩ := hg
  refine ⟨cs ++ ds, fun c hc => ?_, fun j => ?_⟩
  · rcases List.mem_append.mp hc with h | h
    · exact h1 c h
    · exact h3 c h
  · show f j + g j = _
    rw [h2, h4, List.map_append, List.sum_append]
theorem sum_mul (a : Int) (cs : List (Int × Vc)) (j : Nat) : a * (cs.map (fun c => c.1 * c.2 j)).sum = ((cs.map (fun c => (a * c.1, c.2))).map (fun c => c.1 * c.2 j)).sum := by
  induction cs with
  | nil => simp
  | cons c cs ih => simp only [List.map_cons, List.sum_cons, Int.mul_add, ih, Int.mul_assoc]
theorem sp_mul {vs : List Vc} {f : Vc} (a : Int) (hf : InSp vs f) : InSp vs (fun j => a * f j) := by
  obtain ⟨cs, h1, h2⟩ := hf
  refine ⟨cs.map (fun c => (a * c.1, c.2)), fun c hc => ?_, fun j => ?_⟩
  · obtain ⟨d, hd, rfl⟩ := List.mem_map.mp hc
    exact h1 d hd
  · show a * f j = _
    rw [h2, sum_mul]
theorem sp_congr {vs : List Vc} {f g : Vc} (h : InSp vs f) (e : ∀ j, f j = g j) : InSp vs g := (funext e : f = g) ▸ h
theorem sp_sub {vs : List Vc} {f g : Vc} (hf : InSp vs f) (hg : InSp vs g) : InSp vs (fun j => f j - g j) := sp_congr (sp_add hf (sp_mul (-1) hg)) (fun j => by omega)
theorem sp_alt : ∀ (vs ws : List Vc) (f : Nat → Vc → List Vc → Int), (∀ u r, u ∈ vs → (∀ x ∈ r, x ∈ vs) → r.length + 1 = vs.length → InSp ws (fun j => f j u r)) → InSp ws (fun j => alt (f j) vs)
  | [], ws, _, _ => sp_zero ws
  | v :: vs, ws, f, h => by
    refine sp_sub (h v vs List.mem_cons_self (fun x hx => List.mem_cons_of_mem _ hx) rfl) (sp_alt vs ws (fun j u r => f j u (v :: r)) fun u r hu hr hl => ?_)
    refine h u (v :: r) (List.mem_cons_of_mem _ hu) (fun x hx => ?_) (by simp [hl])
    rcases List.mem_cons.mp hx with rfl | hx
    · exact List.mem_cons_self
    · exact List.mem_cons_of_mem _ (hr x hx)
/-- as a function of one of its coordinates a determinant is put together of the vectors -/
theorem dc_sp (C : Nat → Nat) : ∀ (m i : Nat) (vs : List Vc), i < m → InSp vs (fun j => DC (cu C i j) m vs)
  | 0, i, _, h => absurd h (Nat.not_lt_zero i)
  | m + 1, i, vs, hi => by
    show InSp vs (fun j => alt (fun v r => v (cu C i j m) * DC (cu C i j) m r) vs)
    refine sp_alt vs vs (fun j v r => v (cu C i j m) * DC (cu C i j) m r) fun u r hu hr _ => ?_
    by_cases h : i = m
    · subst h
      refine sp_congr (sp_mul (DC C i r) (sp_mem hu)) (fun j => ?_)
      rw [cu_same, dc_congr (cu C i j) C i r (fun t ht => cu_ne C (by omega)), Int.mul_comm]
    · refine sp_congr (sp_mul (u (C m)) (sp_mono (dc_sp C m i r (by omega)) hr)) (fun j => ?_)
      rw [cu_ne C (fun e => h e.symm)]
/-! a base: as many vectors as coordinates, the determinant not 0, and what is put together of the vectors and is 0 at the coordinates is 0 -/
def Bs (k : Nat) (C : Nat → Nat) (P : List Vc) : Prop := P.length = k ∧ DC C k P ≠ 0 ∧ ∀ y, InSp P y → (∀ s, s < k → y (C s) = 0) → ∀ j, y j = 0
theorem bs_nil (C : Nat → Nat) : Bs 0 C [] := ⟨rfl, (show (1 : Int) ≠ 0 by decide), fun y ⟨cs, h1, h2⟩ _ j => by
  have : cs = [] := by
    cases cs with
    | nil => rfl
    | cons c cs => exact absurd (h1 c List.mem_cons_self) List.not_mem_nil
  rw [h2, this]; rfl⟩
/-- the rows of the base: 1 (times the determinant) at their own coordinate, 0 at the others -/
theorem dc_at (k : Nat) (C : Nat → Nat) (P : List Vc) (hl : P.length = k) {i s : Nat} (hi : i < k) (hs : s < k) (hne : s ≠ i) : DC (cu C i (C s)) k P = 0 := by
  rcases Nat.lt_or_ge s i with h | h
  · exact dc_twice _ k s i P h hi (by rw [cu_same, cu_ne C hne]) hl
  · exact dc_twice _ k i s P (by omega) hs (by rw [cu_same, cu_ne C hne]) hl
/-- the fraction-free remainder of x modulo the base -/
def Rd (k : Nat) (C : Nat → Nat) (P : List Vc) (x : Vc) : Vc := fun j => DC (cu C k j) (k + 1) (x :: P)
theorem rd_at {k : Nat} {C : Nat → Nat} {P : List Vc} {x : Vc} (hl : P.length = k) {s : Nat} (hs : s < k) : Rd k C P x (C s) = 0 :=
  dc_twice _ (k + 1) s k (x :: P) hs (Nat.lt_succ_self k) (by rw [cu_same, cu_ne C (by omega)]) (by simp [hl])
theorem rd_sp (k : Nat) (C : Nat → Nat) (P : List Vc) (x : Vc) : InSp P (fun j => Rd k C P x j - DC C k P * x j) := by
  have e : ∀ j, Rd k C P x j = x j * DC C k P - alt (fun u r => u j * DC C k (x :: r)) P := by
    intro j
    show x (cu C k j k) * DC (cu C k j) k P - alt (fun u r => u (cu C k j k) * DC (cu C k j) k (x :: r)) P = _
    rw [cu_same, dc_congr (cu C k j) C k P (fun t ht => cu_ne C (by omega))]
    congr 1
    exact alt_congr P _ _ fun u r _ _ _ => by rw [dc_congr (cu C k j) C k (x :: r) (fun t ht => cu_ne C (by omega))]
  refine sp_congr (sp_mul (-1) (sp_alt P P (fun j u r => u j * DC C k (x :: r)) fun u r hu _ _ => sp_congr (sp_mul (DC C k (x :: r)) (sp_mem hu)) (fun j => Int.mul_comm _ _))) (fun j => ?_)
  rw [e j, Int.mul_comm (x j)]
  omega
/-- one vector more -/
theorem bs_more {k : Nat} {C : Nat → Nat} {P : List Vc} (B : Bs k C P) (x : Vc) (c : Nat) (hh : Rd k C P x c ≠ 0) : Bs (k + 1) (cu C k c) (x :: P) := by
  obtain ⟨hl, hd, hu⟩ := B
  refine ⟨by simp [hl], hh, fun y hy h0 j => ?_⟩
  obtain ⟨cs, h1, h2⟩ := hy
  -- y = a x + p
  have split : ∀ cs : List (Int × Vc), (∀ c ∈ cs, c.2 ∈ x :: P) → ∃ a : Int, InSp P (fun j => (cs.map (fun c => c.1 * c.2 j)).sum - a * x j) := by
    intro cs
    induction cs with
    | nil => exact fun _ => ⟨0, sp_congr (sp_zero P) (fun j => by simp)⟩
    | cons d ds ih =>
      intro hc
      obtain ⟨a, ha⟩ := ih (fun c h => hc c (List.mem_cons_of_mem _ h))
      rcases List.mem_cons.mp (hc d List.mem_cons_self) with h | h
      · refine ⟨a + d.1, sp_congr ha (fun j => ?_)⟩
        rw [List.map_cons, List.sum_cons, h, Int.add_mul]; omega
      · refine ⟨a, sp_congr (sp_add (sp_mul d.1 (sp_mem h)) ha) (fun j => ?_)⟩
        rw [List.map_cons, List.sum_cons]; omega
  obtain ⟨a, ha⟩ := split cs h1
  have hE : ∀ j, DC C k P * y j - a * Rd k C P x j = 0 := by
    refine hu _ (sp_congr (sp_sub (sp_mul (DC C k P) ha) (sp_mul a (rd_sp k C P x))) (fun j => ?_)) (fun s hs => ?_)
    · rw [← h2 j, Int.mul_sub, Int.mul_sub, ← Int.mul_assoc a, Int.mul_comm a (DC C k P), Int.mul_assoc]; omega
    · have h3 := h0 s (by omega)
      rw [cu_ne C (by omega)] at h3
      rw [h3, rd_at hl hs]; simp
  have hc0 := hE c
  have h3 := h0 k (Nat.lt_succ_self k)
  rw [cu_same] at h3
  rw [h3, Int.mul_zero, Int.zero_sub] at hc0
  have ha0 : a = 0 := by
    rcases Int.mul_eq_zero.mp (show a * Rd k C P x c = 0 by omega) with h | h
    · exact h
    · exact absurd h hh
  have := hE j
  rw [ha0, Int.zero_mul, Int.sub_zero] at this
  rcases Int.mul_eq_zero.mp this with h | h
  · exact absurd h hd
  · exact h
/-- another coordinate -/
theorem bs_swap {k : Nat} {C : Nat → Nat} {P : List Vc} (B : Bs k C P) {r : Nat} (hr : r < k) (c : Nat) (hh : DC (cu C r c) k P ≠ 0) : Bs k (cu C r c) P := by
  obtain ⟨hl, hd, hu⟩ := B
  refine ⟨hl, hh, fun y hy h0 j => ?_⟩
  have hE : ∀ j, DC C k P * y j - y (C r) * DC (cu C r j) k P = 0 := by
    refine hu _ (sp_sub (sp_mul (DC C k P) hy) (sp_mul (y (C r)) (dc_sp C k r P hr))) (fun s hs => ?_)
    by_cases h : s = r
    · subst h; rw [cu_self, Int.mul_comm]; omega
    · have h3 := h0 s hs
      rw [cu_ne C h] at h3
      rw [h3, dc_at k C P hl hr hs h]; simp
  have hc0 := hE c
  have h3 := h0 r hr
  rw [cu_same] at h3
  rw [h3, Int.mul_zero, Int.zero_sub] at hc0
  have ha0 : y (C r) = 0 := by
    rcases Int.mul_eq_zero.mp (show y (C r) * DC (cu C r c) k P = 0 by omega) with h | h
    · exact h
    · exact absurd h hh
  have := hE j
  rw [ha0, Int.zero_mul, Int.sub_zero] at this
  rcases Int.mul_eq_zero.mp this with h | h
  · exact absurd h hd
  · exact h
/-- the step for a row of the base, another coordinate at r -/
theorem bs_step_swap {k : Nat} {C : Nat → Nat} {P : List Vc} (B : Bs k C P) {r i : Nat} (hr : r < k) (hi : i < k) (hne : i ≠ r) (c : Nat) (hh : DC (cu C r c) k P ≠ 0) (j : Nat) :
    DC C k P * DC (cu (cu C r c) i j) k P = DC (cu C r c) k P * DC (cu C i j) k P - DC (cu C i c) k P * DC (cu C r j) k P := by
  have B' := bs_swap B hr c hh
  have hl := B.1
  have := B'.2.2 (fun j => DC C k P * DC (cu (cu C r c) i j) k P - DC (cu C r c) k P * DC (cu C i j) k P + DC (cu C i c) k P * DC (cu C r j) k P)
    (sp_add (sp_sub (sp_mul _ (dc_sp (cu C r c) k i P hi)) (sp_mul _ (dc_sp C k i P hi))) (sp_mul _ (dc_sp C k r P hr))) (fun s hs => by
      by_cases h1 : s = r
      · subst h1
        rw [cu_same, show DC (cu (cu C s c) i c) k P = 0 by
          have := dc_at k (cu C s c) P hl hi hr (fun e => hne e.symm)
          rw [cu_same] at this; exact this]
        rw [Int.mul_zero, Int.mul_comm (DC (cu C i c) k P)]; omega
      · rw [cu_ne C h1]
        by_cases h2 : s = i
        · subst h2
          have e1 : DC (cu (cu C r c) s (C s)) k P = DC (cu C r c) k P := by
            have : cu (cu C r c) s (C s) = cu C r c := by
              have := cu_self (cu C r c) s
              rw [cu_ne C hne] at this; exact this
            rw [this]
          rw [e1, cu_self, dc_at k C P hl hr hs h1, Int.mul_zero, Int.mul_comm]; omega
        · have e1 := dc_at k (cu C r c) P hl hi hs h2
          rw [cu_ne C h1] at e1
          rw [e1, dc_at k C P hl hi hs h2, dc_at k C P hl hr hs h1]; simp) j
  omega
/-- the step for a row of the base, one vector more -/
theorem bs_step_base {k : Nat} {C : Nat → Nat} {P : List Vc} (B : Bs k C P) (x : Vc) (c : Nat) (hh : Rd k C P x c ≠ 0) {i : Nat} (hi : i < k) (j : Nat) :
    DC C k P * DC (cu (cu C k c) i j) (k + 1) (x :: P) = Rd k C P x c * DC (cu C i j) k P - DC (cu C i c) k P * Rd k C P x j := by
  have B' := bs_more B x c hh
  have hl := B.1
  have hsub : ∀ y ∈ P, y ∈ x :: P := fun y hy => List.mem_cons_of_mem _ hy
  have spx : InSp (x :: P) (Rd k C P x) := sp_congr (sp_add (sp_mono (rd_sp k C P x) hsub) (sp_mul (DC C k P) (sp_mem List.mem_cons_self))) (fun j => by omega)
  have := B'.2.2 (fun j => DC C k P * DC (cu (cu C k c) i j) (k + 1) (x :: P) - Rd k C P x c * DC (cu C i j) k P + DC (cu C i c) k P * Rd k C P x j)
    (sp_add (sp_sub (sp_mul _ (dc_sp (cu C k c) (k + 1) i (x :: P) (by omega))) (sp_mul _ (sp_mono (dc_sp C k i P hi) hsub))) (sp_mul _ spx)) (fun s hs => by
      by_cases h1 : s = k
      · subst h1
        rw [cu_same]
        have e1 := dc_at (s + 1) (cu C s c) (x :: P) (by simp [hl]) (show i < s + 1 by omega) (show s < s + 1 by omega) (by omega)
        rw [cu_same] at e1
        rw [e1, Int.mul_zero, Int.mul_comm (DC (cu C i c) s P)]; omega
      · rw [cu_ne C h1]
        have hsk : s < k := by omega
        rw [rd_at hl hsk]
        by_cases h2 : s = i
        · subst h2
          have e1 : DC (cu (cu C k c) s (C s)) (k + 1) (x :: P) = Rd k C P x c := by
            have : cu (cu C k c) s (C s) = cu C k c := by
              have := cu_self (cu C k c) s
              rw [cu_ne C h1] at this; exact this
            rw [this]; rfl
          rw [e1, cu_self, Int.mul_zero, Int.mul_comm]; omega
        · have e1 := dc_at (k + 1) (cu C k c) (x :: P) (by simp [hl]) (show i < k + 1 by omega) (show s < k + 1 by omega) h2
          rw [cu_ne C h1] at e1
          rw [e1, dc_at k C P hl hi hsk h2]; simp) j
  omega
/-- the step for a row that isn't of the base -/
theorem bs_step_rest {k : Nat} {C : Nat → Nat} {P : List Vc} (B : Bs k C P) (x : Vc) (c : Nat) (hh : Rd k C P x c ≠ 0) (z : Vc) (j : Nat) :
    DC C k P * Rd (k + 1) (cu C k c) (x :: P) z j = Rd k C P x c * Rd k C P z j - Rd k C P z c * Rd k C P x j := by
  have B' := bs_more B x c hh
  have hl := B.1
  have hsub : ∀ y ∈ P, y ∈ x :: P := fun y hy => List.mem_cons_of_mem _ hy
  have spx : InSp (x :: P) (Rd k C P x) := sp_congr (sp_add (sp_mono (rd_sp k C P x) hsub) (sp_mul (DC C k P) (sp_mem List.mem_cons_self))) (fun j => by omega)
  have hd' : DC (cu C k c) (k + 1) (x :: P) = Rd k C P x c := rfl
  have s1 := rd_sp (k + 1) (cu C k c) (x :: P) z
  rw [hd'] at s1
  have s2 := sp_mono (rd_sp k C P z) hsub
  have := B'.2.2 (fun j => DC C k P * Rd (k + 1) (cu C k c) (x :: P) z j - Rd k C P x c * Rd k C P z j + Rd k C P z c * Rd k C P x j)
    (sp_congr (sp_add (sp_sub (sp_mul (DC C k P) s1) (sp_mul (Rd k C P x c) s2)) (sp_mul (Rd k C P z c) spx)) (fun j => by
      rw [Int.mul_sub, Int.mul_sub, ← Int.mul_assoc, ← Int.mul_assoc, Int.mul_comm (DC C k P) (Rd k C P x c)]; omega)) (fun s hs => by
      have e1 := rd_at (C := cu C k c) (x := z) (show (x :: P).length = k + 1 by simp [hl]) hs
      rw [e1]
      by_cases h1 : s = k
      · subst h1
        rw [cu_same, Int.mul_zero, Int.mul_comm (Rd s C P z c)]; omega
      · rw [cu_ne C h1, rd_at hl (by omega), rd_at hl (by omega)]; simp) j
  omega
