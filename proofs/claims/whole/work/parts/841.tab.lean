/-! ===== sums ===== -/
def sg (f : Nat → Int) : Nat → Int
  | 0 => 0
  | n + 1 => sg f n + f n
theorem sg_congr {f g : Nat → Int} : ∀ {n : Nat}, (∀ k, k < n → f k = g k) → sg f n = sg g n
  | 0, _ => rfl
  | n + 1, h => by unfold sg; rw [sg_congr (fun k hk => h k (by omega)), h n (by omega)]
theorem sg_add (f g : Nat → Int) : ∀ n, sg (fun k => f k + g k) n = sg f n + sg g n
  | 0 => rfl
  | n + 1 => by unfold sg; rw [sg_add f g n]; omega
theorem sg_sub (f g : Nat → Int) : ∀ n, sg (fun k => f k - g k) n = sg f n - sg g n
  | 0 => rfl
  | n + 1 => by unfold sg; rw [sg_sub f g n]; omega
theorem sg_mul (c : Int) (f : Nat → Int) : ∀ n, sg (fun k => c * f k) n = c * sg f n
  | 0 => (Int.mul_zero c).symm
  | n + 1 => by unfold sg; rw [sg_mul c f n, Int.mul_add]
theorem sg_mulr (c : Int) (f : Nat → Int) (n : Nat) : sg (fun k => f k * c) n = sg f n * c := by
  rw [Int.mul_comm, ← sg_mul]; exact sg_congr (fun k _ => Int.mul_comm _ _)
theorem sg_zero {f : Nat → Int} : ∀ {n : Nat}, (∀ k, k < n → f k = 0) → sg f n = 0
  | 0, _ => rfl
  | n + 1, h => by unfold sg; rw [sg_zero (fun k hk => h k (by omega)), h n (by omega)]; rfl
theorem sg_nonneg {f : Nat → Int} : ∀ {n : Nat}, (∀ k, k < n → 0 ≤ f k) → 0 ≤ sg f n
  | 0, _ => Int.le_refl 0
  | n + 1, h => by unfold sg; have := sg_nonneg (f := f) (n := n) (fun k hk => h k (by omega)); have := h n (by omega); omega
theorem sg_le {f g : Nat → Int} : ∀ {n : Nat}, (∀ k, k < n → f k ≤ g k) → sg f n ≤ sg g n
  | 0, _ => Int.le_refl 0
  | n + 1, h => by unfold sg; have := sg_le (f := f) (g := g) (n := n) (fun k hk => h k (by omega)); have := h n (by omega); omega
theorem sg_swap (f : Nat → Nat → Int) (m : Nat) : ∀ n, sg (fun i => sg (fun j => f i j) m) n = sg (fun j => sg (fun i => f i j) n) m
  | 0 => (sg_zero (fun _ _ => rfl)).symm
  | n + 1 => by
    show sg (fun i => sg (fun j => f i j) m) n + sg (fun j => f n j) m = _
    rw [sg_swap f m n, ← sg_add]; rfl
theorem sg_one {f : Nat → Int} {i : Nat} : ∀ {n : Nat}, i < n → (∀ k, k < n → k ≠ i → f k = 0) → sg f n = f i
  | 0, h, _ => absurd h (Nat.not_lt_zero i)
  | n + 1, h, h0 => by
    unfold sg
    by_cases e : i = n
    · subst e
      rw [sg_zero (fun k hk => h0 k (by omega) (by omega)), Int.zero_add]
    · rw [sg_one (i := i) (n := n) (by omega) (fun k hk hne => h0 k (by omega) hne), h0 n (by omega) (fun q => e q.symm), Int.add_zero]
/-- one term taken out -/
theorem sg_out {f : Nat → Int} {i n : Nat} (h : i < n) : sg f n = sg (fun k => if k = i then 0 else f k) n + f i := by
  have e : sg f n - sg (fun k => if k = i then 0 else f k) n = f i := by
    rw [← sg_sub, sg_one h (fun k _ hne => by simp [hne])]
    simp
  omega
theorem sg_nonneg_zero {f : Nat → Int} : ∀ {n : Nat}, (∀ k, k < n → 0 ≤ f k) → sg f n ≤ 0 → ∀ k, k < n → f k = 0
  | 0, _, _, k, hk => absurd hk (Nat.not_lt_zero k)
  | n + 1, h, h0, k, hk => by
    unfold sg at h0
    have h1 := sg_nonneg (f := f) (n := n) (fun k hk => h k (by omega))
    have h2 := h n (by omega)
    by_cases e : k = n
    · subst e; omega
    · exact sg_nonneg_zero (n := n) (fun k hk => h k (by omega)) (by omega) k (by omega)
theorem sg_pos {f : Nat → Int} : ∀ {n : Nat}, 0 < sg f n → ∃ k, k < n ∧ 0 < f k
  | 0, h => absurd h (by unfold sg; omega)
  | n + 1, h => by
    unfold sg at h
    by_cases e : 0 < f n
    · exact ⟨n, by omega, e⟩
    · obtain ⟨k, h1, h2⟩ := sg_pos (f := f) (n := n) (by omega)
      exact ⟨k, by omega, h2⟩
theorem sg_bound {f : Nat → Int} {c : Int} : ∀ {n : Nat}, (∀ k, k < n → -c ≤ f k ∧ f k ≤ c) → -(n * c) ≤ sg f n ∧ sg f n ≤ n * c
  | 0, _ => by simp [sg]
  | n + 1, h => by
    unfold sg
    have h1 := sg_bound (f := f) (c := c) (n := n) (fun k hk => h k (by omega))
    have h2 := h n (by omega)
    have e : ((n + 1 : Nat) : Int) * c = n * c + c := by rw [Int.natCast_succ, Int.add_mul, Int.one_mul]
    omega
/-- the product of a row and a column of N numbers -/
def dt (N : Nat) (v X : Nat → Int) : Int := sg (fun j => v j * X j) N
/-! ===== the table of a base of all rows ===== -/
def rowsL (v : Nat → Vc) : Nat → List Vc
  | 0 => []
  | m + 1 => v m :: rowsL v m
theorem rowsL_len (v : Nat → Vc) : ∀ m, (rowsL v m).length = m
  | 0 => rfl
  | m + 1 => by show (rowsL v m).length + 1 = m + 1; rw [rowsL_len v m]
theorem rowsL_mem (v : Nat → Vc) : ∀ (m : Nat) (x : Vc), x ∈ rowsL v m ↔ ∃ t, t < m ∧ x = v t
  | 0, x => ⟨(fun h => absurd h List.not_mem_nil), fun ⟨t, h, _⟩ => absurd h (Nat.not_lt_zero t)⟩
  | m + 1, x => by
    show x ∈ v m :: rowsL v m ↔ _
    rw [List.mem_cons, rowsL_mem v m x]
    constructor
    · rintro (rfl | ⟨t, h1, h2⟩)
      · exact ⟨m, by omega, rfl⟩
      · exact ⟨t, by omega, h2⟩
    · rintro ⟨t, h1, h2⟩
      by_cases e : t = m
      · subst e; exact Or.inl h2
      · exact Or.inr ⟨t, by omega, h2⟩
def Tab (m : Nat) (v : Nat → Vc) (C : Nat → Nat) (d : Int) (T : Nat → Nat → Int) : Prop :=
  Bs m C (rowsL v m) ∧ ∃ ε : Int, (ε = 1 ∨ ε = -1) ∧ d = ε * DC C m (rowsL v m) ∧ ∀ s, s < m → ∀ j, T s j = ε * DC (cu C s j) m (rowsL v m)
section TAB
variable {m : Nat} {v : Nat → Vc} {C : Nat → Nat} {d : Int} {T : Nat → Nat → Int}
theorem tab_d (h : Tab m v C d T) : d ≠ 0 := by
  obtain ⟨B, ε, he, hd, -⟩ := h
  intro h0
  rw [hd] at h0
  rcases Int.mul_eq_zero.mp h0 with h | h
  · rcases he with e | e <;> omega
  · exact B.2.1 h
theorem tab_at (h : Tab m v C d T) {s t : Nat} (hs : s < m) (ht : t < m) : T s (C t) = if t = s then d else 0 := by
  obtain ⟨B, ε, he, hd, hT⟩ := h
  rw [hT s hs]
  by_cases e : t = s
  · subst e; rw [cu_self, if_pos rfl, hd]
  · rw [if_neg e, dc_at m C _ B.1 hs ht e, Int.mul_zero]
theorem tab_inj (h : Tab m v C d T) {s t : Nat} (hs : s < m) (ht : t < m) (e : C s = C t) : s = t := by
  have h1 := tab_at h hs hs
  have h2 := tab_at h hs ht
  rw [← e] at h2
  rw [if_pos rfl] at h1
  by_cases q : t = s
  · exact q.symm
  · rw [if_neg q, h1] at h2
    exact absurd h2 (tab_d h)
theorem tab_sp (h : Tab m v C d T) {s : Nat} (hs : s < m) : InSp (rowsL v m) (T s) := by
  obtain ⟨B, ε, he, hd, hT⟩ := h
  exact sp_congr (sp_mul ε (dc_sp C m s _ hs)) (fun j => (hT s hs j).symm)
theorem sp_sg {vs : List Vc} {n : Nat} (a : Nat → Int) (f : Nat → Vc) (h : ∀ s, s < n → InSp vs (f s)) : InSp vs (fun j => sg (fun s => a s * f s j) n) := by
  induction n with
  | zero => exact sp_zero vs
  | succ n ih => exact sp_add (ih (fun s hs => h s (by omega))) (sp_mul (a n) (h n (by omega)))
/-- each row is put together of the table's -/
theorem tab_row (h : Tab m v C d T) {t : Nat} (ht : t < m) (j : Nat) : d * v t j = sg (fun s => v t (C s) * T s j) m := by
  have hsp : ∀ s, s < m → InSp (rowsL v m) (T s) := fun s hs => tab_sp h hs
  have := h.1.2.2 (fun j => d * v t j - sg (fun s => v t (C s) * T s j) m) (sp_sub (sp_mul d (sp_mem ((rowsL_mem v m _).mpr ⟨t, ht, rfl⟩))) (sp_sg (fun s => v t (C s)) T hsp)) (fun s hs => by
    have e : sg (fun q => v t (C q) * T q (C s)) m = v t (C s) * d := by
      rw [sg_one hs (fun q hq hne => by rw [tab_at h hq hs, if_neg (fun e => hne e.symm), Int.mul_zero])]
      rw [tab_at h hs hs, if_pos rfl]
    rw [e, Int.mul_comm]; omega) j
  omega
/-- the solutions are those of the table -/
theorem dt_sp {N : Nat} {vs : List Vc} {f : Vc} {X : Nat → Int} (h : InSp vs f) (hX : ∀ x ∈ vs, dt N x X = 0) : dt N f X = 0 := by
  obtain ⟨cs, h1, h2⟩ := h
  have e : dt N f X = (cs.map (fun c => c.1 * dt N c.2 X)).sum := by
    unfold dt
    rw [sg_congr (fun j _ => by rw [h2 j])]
    clear h2 h1
    induction cs with
    | nil => simp; exact sg_zero (fun k _ => by simp)
    | cons c cs ih =>
      simp only [List.map_cons, List.sum_cons]
      rw [← ih, ← sg_mul, ← sg_add]
      exact sg_congr (fun j _ => by rw [Int.add_mul, Int.mul_assoc])
  rw [e]
  clear e h2
  induction cs with
  | nil => rfl
  | cons c cs ih =>
    simp only [List.map_cons, List.sum_cons]
    rw [ih (fun c hc => h1 c (List.mem_cons_of_mem _ hc)), hX _ (h1 c List.mem_cons_self)]; simp
theorem tab_sol (h : Tab m v C d T) (N : Nat) (X : Nat → Int) : (∀ t, t < m → dt N (v t) X = 0) ↔ ∀ s, s < m → dt N (T s) X = 0 := by
  constructor
  · intro h0 s hs
    exact dt_sp (tab_sp h hs) (fun x hx => by obtain ⟨t, ht, rfl⟩ := (rowsL_mem v m x).mp hx; exact h0 t ht)
  · intro h0 t ht
    have e : d * dt N (v t) X = 0 := by
      unfold dt
      rw [← sg_mul, sg_congr (g := fun j => sg (fun s => v t (C s) * (T s j * X j)) m) (fun j _ => by
        rw [← Int.mul_assoc, tab_row h ht j, ← sg_mulr]
        exact sg_congr (fun s _ => by rw [Int.mul_assoc])), sg_swap]
      refine sg_zero (fun s hs => ?_)
      rw [sg_mul]
      have : sg (fun j => T s j * X j) N = 0 := h0 s hs
      rw [this, Int.mul_zero]
    rcases Int.mul_eq_zero.mp e with q | q
    · exact absurd q (tab_d h)
    · exact q
/-- a pivot -/
theorem tab_piv (h : Tab m v C d T) {r c : Nat} (hr : r < m) (hh : T r c ≠ 0) : ∃ T' : Nat → Nat → Int, Tab m v (cu C r c) (T r c) T' ∧ (∀ j, T' r j = T r j) ∧ ∀ i, i < m → i ≠ r → ∀ j, d * T' i j = T i j * T r c - T i c * T r j := by
  obtain ⟨B, ε, he, hd, hT⟩ := id h
  have hε : ε * ε = 1 := by rcases he with e | e <;> subst e <;> rfl
  have hh' : DC (cu C r c) m (rowsL v m) ≠ 0 := fun e => hh (by rw [hT r hr, e, Int.mul_zero])
  refine ⟨fun s j => ε * DC (cu (cu C r c) s j) m (rowsL v m), ⟨bs_swap B hr c hh', ε, he, hT r hr c, fun s _ j => rfl⟩, fun j => ?_, fun i hi hne j => ?_⟩
  · show ε * DC (cu (cu C r c) r j) m (rowsL v m) = _
    rw [cu_cu, hT r hr]
  · have := bs_step_swap B hr hi hne c hh' j
    show d * (ε * DC (cu (cu C r c) i j) m (rowsL v m)) = _
    rw [hd, hT i hi, hT i hi, hT r hr, hT r hr]
    have e1 : ε * DC C m (rowsL v m) * (ε * DC (cu (cu C r c) i j) m (rowsL v m)) = ε * ε * (DC C m (rowsL v m) * DC (cu (cu C r c) i j) m (rowsL v m)) := by
      simp only [Int.mul_assoc, Int.mul_left_comm]
    rw [e1, this, hε, Int.one_mul]
    have e2 : ∀ a b : Int, ε * a * (ε * b) = a * b := fun a b => by
      have : ε * a * (ε * b) = ε * ε * (a * b) := by simp only [Int.mul_assoc, Int.mul_left_comm]
      rw [this, hε, Int.one_mul]
    rw [e2, e2, Int.mul_comm (DC (cu C r c) m (rowsL v m))]
/-- all signs turned -/
theorem tab_neg (h : Tab m v C d T) : Tab m v C (-d) (fun s j => - T s j) := by
  obtain ⟨B, ε, he, hd, hT⟩ := h
  refine ⟨B, -ε, by omega, by rw [hd, Int.neg_mul], fun s hs j => ?_⟩
  show - T s j = _
  rw [hT s hs, Int.neg_mul]
end TAB
