/-! ===== Delays: the exchange of a line for a row's holder ===== -/
/-- all but the table's numbers stays -/
def SameB (σ τ : St) : Prop := (∀ k, gI τ k = gI σ k) ∧ (∀ k, gL τ k = gL σ k) ∧ (∀ k, gA τ k = gA σ k) ∧ ∀ k, k ≠ 0 → gB τ k = gB σ k
theorem SameB.rf (σ : St) : SameB σ σ := ⟨fun _ => rfl, fun _ => rfl, fun _ => rfl, fun _ _ => rfl⟩
theorem SameB.tr {σ τ ρ : St} (h : SameB σ τ) (g : SameB τ ρ) : SameB σ ρ := ⟨fun k => (g.1 k).trans (h.1 k), fun k => (g.2.1 k).trans (h.2.1 k), fun k => (g.2.2.1 k).trans (h.2.2.1 k), fun k hk => (g.2.2.2 k hk).trans (h.2.2.2 k hk)⟩
theorem SameB.put (σ : St) (i : Nat) (v : Int64) : SameB σ (sB σ 0 i v) := ⟨fun _ => rfl, fun _ => rfl, fun _ => rfl, fun k hk => by
  funext x; rw [gB_sB, if_neg (fun z => hk z.1)]⟩
/-- the numbers of row i are now those of R, the other rows' stay; w numbers a row -/
def RowB (σ τ : St) (w i k : Nat) (R : Nat → Int) : Prop := (∀ j, j < k → (gB τ 0 (i * w + j)).toInt = R j) ∧ ∀ x, (∀ j, j < k → x ≠ i * w + j) → gB τ 0 x = gB σ 0 x
theorem RowB.step {σ τ : St} {w i k : Nat} {R : Nat → Int} (h : RowB σ τ w i k R) {v : Int64} (hv : v.toInt = R k) : RowB σ (sB τ 0 (i * w + k) v) w i (k + 1) R := by
  refine ⟨fun j hj => ?_, fun x hx => ?_⟩
  · rw [gB_sB]
    by_cases q : j = k
    · subst q; rw [if_pos ⟨rfl, rfl⟩]; exact hv
    · rw [if_neg (fun z => q (by omega))]; exact h.1 j (by omega)
  · rw [gB_sB, if_neg (fun z => hx k (by omega) z.2)]
    exact h.2 x (fun j hj => hx j (by omega))
theorem row_ne {w i s j k : Nat} (hj : j < w) (hk : k < w) (h : i ≠ s) : s * w + j ≠ i * w + k := by
  intro e
  rcases Nat.lt_or_gt_of_ne h with q | q
  · have : (i + 1) * w ≤ s * w := Nat.mul_le_mul_right w q
    rw [Nat.add_mul, Nat.one_mul] at this; omega
  · have : (s + 1) * w ≤ i * w := Nat.mul_le_mul_right w q
    rw [Nat.add_mul, Nat.one_mul] at this; omega
section EXC
variable {n m : Nat}
/-- the loop of clearColumn: row i becomes R, where the scale times R is what is computed -/
theorem clear_lp {σ0 : St} (hn : n ≤ 10) (hm : m ≤ 10) {i r : Nat} (hi : i < m) (hr : r < m) (hne : i ≠ r) {d : Int} (h8 : gI σ0 8 = nI (n + m + 1)) (hd : (gL σ0 0).toInt = d) (hd0 : d ≠ 0) {f hh : Int64} {TI TR R : Nat → Int}
    (hI : ∀ j, j < n + m + 1 → (gB σ0 0 (i * (n + m + 1) + j)).toInt = TI j) (hRr : ∀ j, j < n + m + 1 → (gB σ0 0 (r * (n + m + 1) + j)).toInt = TR j)
    (hR : ∀ j, j < n + m + 1 → d * R j = TI j * hh.toInt - f.toInt * TR j)
    (hb1 : ∀ j, j < n + m + 1 → -20000000000000000 ≤ TI j * hh.toInt ∧ TI j * hh.toInt ≤ 20000000000000000) (hb2 : ∀ j, j < n + m + 1 → -20000000000000000 ≤ f.toInt * TR j ∧ f.toInt * TR j ≤ 20000000000000000) (hb3 : ∀ j, j < n + m + 1 → -1000000000000 ≤ R j ∧ R j ≤ 1000000000000)
    {post : St → Prop} (hp : ∀ τ, SameB σ0 τ → RowB σ0 τ (n + m + 1) i (n + m + 1) R → post τ) :
    ∀ (k j : Nat) (τ : St), j + k = n + m + 1 → SameB σ0 τ → RowB σ0 τ (n + m + 1) i j R → lp_X0_clearColumn_50 post (k + 1) (nI (i * (n + m + 1))) (nI (r * (n + m + 1))) hh f (nI j) τ := by
  intro k
  induction k with
  | zero =>
    intro j τ hk hS hB
    have : j = n + m + 1 := by omega
    subst this
    unfold lp_X0_clearColumn_50
    rw [hS.1 8, h8]
    exact ⟨fun _ => hp τ hS hB, fun q => absurd (nI_le (Nat.le_refl _) (by omega)) q⟩
  | succ k ih =>
    intro j τ hk hS hB
    have hj : j < n + m + 1 := by omega
    unfold lp_X0_clearColumn_50
    rw [hS.1 8, h8, hS.2.1 0]
    have l1 := row_lt hn hm hi hj
    have l2 := row_lt hn hm hr hj
    rw [nI_add, nI_add, nI_clamp (by omega), nI_clamp (by omega)]
    refine ⟨fun q => absurd q (nI_ge hj (by omega)), fun _ => ⟨idx_in l1, idx_in l2, fun v hv => ⟨fun z => hd0 (by rw [← hd, z]; rfl), idx_in l1, fun τ2 hτ2 u hu => ?_⟩⟩⟩
    have e1 : (gB τ 0 (i * (n + m + 1) + j)).toInt = TI j := by
      rw [hB.2 _ (fun q hq e => by omega)]; exact hI j hj
    have e2 : (gB τ 0 (r * (n + m + 1) + j)).toInt = TR j := by
      rw [hB.2 _ (fun q hq => row_ne hj (by omega) hne)]; exact hRr j hj
    have m1 := hb1 j hj
    have m2 := hb2 j hj
    have m3 := hb3 j hj
    have ev : v.toInt = (gL σ0 0).toInt * R j := by
      have a1 : (gB τ 0 (i * (n + m + 1) + j) * hh).toInt = TI j * hh.toInt := by rw [fb_mulL (by rw [e1]; omega) (by rw [e1]; omega), e1]
      have a2 : (f * gB τ 0 (r * (n + m + 1) + j)).toInt = f.toInt * TR j := by rw [fb_mulL (by rw [e2]; omega) (by rw [e2]; omega), e2]
      rw [hv, fb_subL (by rw [a1, a2]; omega) (by rw [a1, a2]; omega), a1, a2, hd, hR j hj]
    rw [hu, nI_1]
    have eq : (v / gL σ0 0).toInt = R j := divL (by rw [hd]; exact hd0) ev (by omega) (by omega)
    exact ih (j + 1) τ2 (by omega) (by rw [hτ2]; exact hS.tr (SameB.put τ _ _)) (by rw [hτ2]; exact hB.step eq)
/-- clearColumn: row i by row r, line c -/
theorem clear_wp {σ : St} (hn : n ≤ 10) (hm : m ≤ 10) {i r c : Nat} (hi : i < m) (hr : r < m) (hne : i ≠ r) (hc : c < n) {d : Int} (h8 : gI σ 8 = nI (n + m + 1)) (hd : (gL σ 0).toInt = d) (hd0 : d ≠ 0) {TI TR R : Nat → Int}
    (hI : ∀ j, j < n + m + 1 → (gB σ 0 (i * (n + m + 1) + j)).toInt = TI j) (hRr : ∀ j, j < n + m + 1 → (gB σ 0 (r * (n + m + 1) + j)).toInt = TR j)
    (hR : ∀ j, j < n + m + 1 → d * R j = TI j * TR c - TI c * TR j)
    (hb1 : ∀ j, j < n + m + 1 → -20000000000000000 ≤ TI j * TR c ∧ TI j * TR c ≤ 20000000000000000) (hb2 : ∀ j, j < n + m + 1 → -20000000000000000 ≤ TI c * TR j ∧ TI c * TR j ≤ 20000000000000000) (hb3 : ∀ j, j < n + m + 1 → -1000000000000 ≤ R j ∧ R j ≤ 1000000000000)
    {post : St → Prop} (hp : ∀ τ, SameB σ τ → RowB σ τ (n + m + 1) i (n + m + 1) R → post τ) : wp_X0_clearColumn (nI (i * (n + m + 1))) (nI (r * (n + m + 1))) (nI c) σ post := by
  have l1 := row_lt hn hm hi (show c < n + m + 1 by omega)
  have l2 := row_lt hn hm hr (show c < n + m + 1 by omega)
  unfold wp_X0_clearColumn
  rw [nI_add, nI_add, nI_clamp (by omega), nI_clamp (by omega)]
  refine ⟨idx_in l2, fun v1 hv1 => ⟨idx_in l1, fun v3 hv3 => ⟨fun z => absurd (by rw [← hd, z]; rfl) hd0, fun _ => ?_⟩⟩⟩
  have e1 : v1.toInt = TR c := by rw [hv1]; exact hRr c (by omega)
  have e3 : v3.toInt = TI c := by rw [hv3]; exact hI c (by omega)
  have go : ∃ fu : Nat, lp_X0_clearColumn_50 post fu (nI (i * (n + m + 1))) (nI (r * (n + m + 1))) v1 v3 0 σ := by
    refine ⟨n + m + 1 + 1, ?_⟩
    have := clear_lp hn hm hi hr hne h8 hd hd0 (f := v3) (hh := v1) hI hRr (by rw [e1, e3]; exact hR) (by rw [e1]; exact hb1) (by rw [e3]; exact hb2) hb3 hp (n + m + 1) 0 σ (by omega) (SameB.rf σ) ⟨fun j hj => absurd hj (Nat.not_lt_zero j), fun x _ => rfl⟩
    rw [nI_0] at this
    exact this
  refine ⟨fun _ => go, fun z => ⟨fun _ => go, fun w => ?_⟩⟩
  refine hp σ (SameB.rf σ) ⟨fun j hj => ?_, fun x _ => rfl⟩
  have k1 : TI c = 0 := by rw [← e3, z]; rfl
  have k2 : TR c = d := by rw [← e1, w, hd]
  have := hR j hj
  rw [k1, k2, Int.zero_mul, Int.sub_zero, Int.mul_comm] at this
  rw [hI j hj]
  exact (Int.eq_of_mul_eq_mul_right hd0 this).symm
end EXC
