/-! ===== Delays: load ===== -/
/-- the ways of a set, by rising numbers -/
def wyL (W k : Nat) : List Nat := (List.range k).filter (fun w => W.testBit w)
def wy (W t : Nat) : Nat := (wyL W 10).getD t 0
theorem wyL_succ (W k : Nat) : wyL W (k + 1) = wyL W k ++ (if W.testBit k then [k] else []) := by
  unfold wyL
  rw [List.range_succ, List.filter_append]
  by_cases h : W.testBit k = true
  · simp [h]
  · simp [h]
theorem wyL_mem {W k w : Nat} : w ∈ wyL W k ↔ w < k ∧ W.testBit w = true := by
  unfold wyL
  rw [List.mem_filter, List.mem_range]
theorem wyL_at {W : Nat} : ∀ {k w : Nat}, w < k → W.testBit w = true → (wyL W k)[(wyL W w).length]? = some w
  | 0, w, h, _ => absurd h (Nat.not_lt_zero w)
  | k + 1, w, h, hb => by
    rw [wyL_succ]
    by_cases q : w = k
    · subst q
      rw [List.getElem?_append_right (Nat.le_refl _), Nat.sub_self, if_pos hb]; rfl
    · have ih := wyL_at (k := k) (w := w) (by omega) hb
      rw [List.getElem?_append_left (List.getElem?_eq_some_iff.mp ih).1]
      exact ih
theorem wyL_len (W : Nat) : ∀ k, (wyL W k).length = fb_ct (fun i => W.testBit i) k
  | 0 => rfl
  | k + 1 => by
    rw [wyL_succ, List.length_append, wyL_len W k, fb_ct_succ]
    by_cases h : W.testBit k = true
    · simp [h]
    · simp [h]
theorem wyL_ten {W k : Nat} (hk : k ≤ 10) (h : W < 2 ^ k) : wyL W 10 = wyL W k := by
  have : ∀ d, k + d ≤ 10 → wyL W (k + d) = wyL W k := by
    intro d
    induction d with
    | zero => intro _; rfl
    | succ d ih =>
      intro hd
      rw [show k + (d + 1) = (k + d) + 1 by omega, wyL_succ, ih (by omega), if_neg (by rw [bits_of_lt h (by omega)]; decide), List.append_nil]
  have := this (10 - k) (by omega)
  rwa [show k + (10 - k) = 10 by omega] at this
theorem wy_of {W k w : Nat} (hk : k ≤ 10) (hW : W < 2 ^ k) (hw : w < k) (hb : W.testBit w = true) : wy W (wyL W w).length = w := by
  unfold wy
  rw [wyL_ten hk hW, List.getD_eq_getElem?_getD, wyL_at hw hb]; rfl
theorem wy_in {W k t : Nat} (hk : k ≤ 10) (hW : W < 2 ^ k) (ht : t < pc W) : wy W t < k ∧ W.testBit (wy W t) = true := by
  have hl : t < (wyL W 10).length := by rw [wyL_len]; exact ht
  have : wy W t ∈ wyL W 10 := by
    unfold wy
    rw [List.getD_eq_getElem?_getD, List.getElem?_eq_getElem hl]
    exact List.getElem_mem hl
  rw [wyL_ten hk hW] at this
  exact wyL_mem.mp this
/-- the rows and sums of a set of ways -/
def Aw (ws : Nat → Nat) (W : Nat) (t j : Nat) : Int := if (ws (wy W t)).testBit j then 1 else 0
def bw (ss : Nat → Nat) (W : Nat) (t : Nat) : Int := ss (wy W t)
theorem bit_i64 (x : Bool) : (Int32.toInt64 (if x then 1 else 0)).toInt = if x then 1 else 0 := by cases x <;> decide
section LOAD
variable {n m : Nat}
/-- loadRow's loop over the lines -/
theorem lrow_lp {σ0 : St} (hn : n ≤ 10) (hm : m ≤ 10) {t : Nat} (ht : t < m) (h6 : gI σ0 6 = nI n) {s : Nat} (hs : s < 2 ^ 31) {x3 : Int32} {post : St → Prop}
    (hp : ∀ τ, SameB σ0 τ → RowB σ0 τ (n + m + 1) t n (fun j => if s.testBit j then 1 else 0) → jn_X0_loadRow_43 post (nI t) x3 (nI (t * (n + m + 1))) τ) :
    ∀ (k j : Nat) (τ : St), j + k = n → SameB σ0 τ → RowB σ0 τ (n + m + 1) t j (fun j => if s.testBit j then 1 else 0) → lp_X0_loadRow_11 post (k + 1) (nI t) (nI s) x3 (nI (t * (n + m + 1))) (nI j) τ := by
  intro k
  induction k with
  | zero =>
    intro j τ hk hS hB
    have : j = n := by omega
    subst this
    unfold lp_X0_loadRow_11
    rw [hS.1 6, h6]
    exact ⟨fun _ => hp τ hS hB, fun q => absurd (nI_le (Nat.le_refl _) (by omega)) q⟩
  | succ k ih =>
    intro j τ hk hS hB
    have hj : j < n := by omega
    have l1 := row_lt hn hm ht (show j < n + m + 1 by omega)
    unfold lp_X0_loadRow_11
    rw [hS.1 6, h6]
    refine ⟨fun q => absurd q (nI_ge hj (by omega)), fun _ => bitOf_wp hs (by omega) ?_⟩
    rw [nI_add, nI_clamp (by omega)]
    refine ⟨idx_in l1, fun τ2 e2 v hv => ?_⟩
    rw [hv, nI_1]
    exact ih (j + 1) τ2 (by omega) (by rw [e2]; exact hS.tr (SameB.put τ _ _)) (by rw [e2]; exact hB.step (bit_i64 _))
/-- what loadRow leaves: row t is (set s, slack t, sum q) -/
theorem lrow_wp {σ : St} (hn : n ≤ 10) (hm : m ≤ 10) {t : Nat} (ht : t < m) (h6 : gI σ 6 = nI n) (h8 : gI σ 8 = nI (n + m + 1)) {s q : Nat} (hs : s < 2 ^ 31) (hq : q < 2 ^ 31) (hz : ∀ j, j < n + m + 1 → gB σ 0 (t * (n + m + 1) + j) = 0) {A : Nat → Nat → Int} {b : Nat → Int} (hA : ∀ j, A t j = if s.testBit j then 1 else 0) (hb : b t = q) {post : St → Prop}
    (hp : ∀ τ, (∀ k, gI τ k = gI σ k) → (∀ k, gL τ k = gL σ k) → (∀ k x, gA τ k x = if k = 3 ∧ x = t then -1 else gA σ k x) → RowB σ τ (n + m + 1) t (n + m + 1) (vrow n m A b t) → post τ) : wp_X0_loadRow (nI t) (nI s) (nI q) σ post := by
  unfold wp_X0_loadRow
  intro v1 hv1
  rw [hv1, h8, pk_mul]
  refine ⟨n + 1, ?_⟩
  have l1 := row_lt hn hm ht (show n + t < n + m + 1 by omega)
  have l2 := row_lt hn hm ht (show n + m < n + m + 1 by omega)
  have := lrow_lp (σ0 := σ) hn hm ht h6 hs (x3 := nI q) (post := post) (fun τ hS hB => by
    unfold jn_X0_loadRow_43
    have e1 : nI (t * (n + m + 1)) + gI τ 6 + nI t = nI (t * (n + m + 1) + (n + t)) := by rw [hS.1 6, h6, nI_add, nI_add]; congr 1; omega
    rw [e1, nI_clamp (by omega)]
    refine ⟨idx_in l1, fun τ1 f1 => ?_⟩
    have e2 : nI (t * (n + m + 1)) + gI τ1 8 - 1 = nI (t * (n + m + 1) + (n + m)) := by
      rw [f1]
      show nI (t * (n + m + 1)) + gI τ 8 - 1 = _
      rw [hS.1 8, h8, nI_add, show t * (n + m + 1) + (n + m + 1) = (t * (n + m + 1) + (n + m)) + 1 by omega, nI_pred]
    rw [e2, nI_clamp (by omega)]
    refine ⟨idx_in l2, fun τ2 f2 => ⟨idx10 (by omega), fun τ3 f3 => ?_⟩⟩
    rw [nI_clamp (by omega)] at f3
    have gb : ∀ x, gB τ3 0 x = if x = t * (n + m + 1) + (n + m) then Int32.toInt64 (nI q) else if x = t * (n + m + 1) + (n + t) then 1 else gB τ 0 x := by
      intro x
      rw [f3, gB_sA, f2, gB_sB, f1, gB_sB]
      by_cases z : x = t * (n + m + 1) + (n + m)
      · rw [if_pos ⟨rfl, z⟩, if_pos z]
      · rw [if_neg (fun w => z w.2), if_neg z]
        by_cases y : x = t * (n + m + 1) + (n + t)
        · rw [if_pos ⟨rfl, y⟩, if_pos y]
        · rw [if_neg (fun w => y w.2), if_neg y]
    refine hp τ3 (fun k => ?_) (fun k => ?_) (fun k x => ?_) ⟨fun j hj => ?_, fun x hx => ?_⟩
    · rw [f3, gI_sA, f2, gI_sB, f1, gI_sB]; exact hS.1 k
    · rw [f3, gL_sA, f2, gL_sB, f1, gL_sB]; exact hS.2.1 k
    · rw [f3, gA_sA]
      by_cases z : k = 3 ∧ x = t
      · rw [if_pos z, if_pos z]
      · rw [if_neg z, if_neg z, f2, gA_sB, f1, gA_sB, hS.2.2.1 k]
    · rw [gb]
      unfold vrow
      by_cases z1 : j < n
      · rw [if_neg (by omega), if_neg (by omega), if_pos z1, hA]; exact hB.1 j z1
      · rw [if_neg z1]
        by_cases z2 : j < n + m
        · rw [if_neg (by omega), if_pos z2]
          by_cases z3 : j = n + t
          · rw [if_pos (by omega), if_pos z3]; rfl
          · rw [if_neg (by omega), if_neg z3, hB.2 _ (fun i hi => by omega), hz j hj]; rfl
        · have z3 : j = n + m := by omega
          rw [if_pos (by omega), if_neg z2, if_pos z3, hb, Int32.toInt_toInt64, nI_toInt hq]
    · rw [gb, if_neg (hx (n + m) (by omega)), if_neg (hx (n + t) (by omega))]
      exact hB.2 x (fun i hi => hx i (by omega))) n 0 σ (by omega) (SameB.rf σ) ⟨fun j hj => absurd hj (Nat.not_lt_zero j), fun x _ => rfl⟩
  rw [nI_0] at this
  exact this
theorem fillB_lp {σ0 : St} {post : St → Prop} (hp : ∀ τ, SameB σ0 τ → (∀ x, x < 210 → gB τ 0 x = 0) → post τ) : ∀ (k j : Nat) (τ : St), j + k = 210 → SameB σ0 τ → (∀ x, x < j → gB τ 0 x = 0) → lp_J7_fill_d0a16_6_6 post (k + 1) 0 (nI j) 210 τ := by
  intro k
  have e210 : (210 : Int32) = nI 210 := by decide
  induction k with
  | zero =>
    intro j τ hk hS hB
    have : j = 210 := by omega
    subst this
    unfold lp_J7_fill_d0a16_6_6
    rw [e210]
    exact ⟨fun _ => hp τ hS hB, fun q => absurd (nI_le (Nat.le_refl _) (by decide)) q⟩
  | succ k ih =>
    intro j τ hk hS hB
    unfold lp_J7_fill_d0a16_6_6
    refine ⟨fun q => absurd (by rw [e210] at q; exact q) (nI_ge (show j < 210 by omega) (by decide)), fun _ => ⟨idx_in (by omega), fun τ2 e2 v hv => ?_⟩⟩
    rw [hv, nI_1]
    rw [nI_clamp (by omega)] at e2
    refine ih (j + 1) τ2 (by omega) (by rw [e2]; exact hS.tr (SameB.put τ _ _)) (fun x hx => ?_)
    rw [e2, gB_sB]
    by_cases q : x = j
    · rw [if_pos ⟨rfl, q⟩]
    · rw [if_neg (fun z => q z.2)]; exact hB x (by omega)
theorem fillB_wp {σ : St} {post : St → Prop} (hp : ∀ τ, SameB σ τ → (∀ x, x < 210 → gB τ 0 x = 0) → post τ) : wp_J7_fill_d0a16_6 0 σ post := by
  refine ⟨210 + 1, ?_⟩
  have := fillB_lp hp 210 0 σ (by omega) (SameB.rf σ) (fun x hx => absurd hx (Nat.not_lt_zero x))
  rw [nI_0] at this
  exact this
end LOAD
/-- Integer.bitCount, of sets of ten -/
def bcF (x0 : Int32) : Int32 :=
  let v1 := x0 - (((Int32.toUInt32 x0 >>> (Int32.toUInt32 1 &&& Int32.toUInt32 31)).toInt32) &&& 1431655765)
  let v3 := (v1 &&& 858993459) + (((Int32.toUInt32 v1 >>> (Int32.toUInt32 2 &&& Int32.toUInt32 31)).toInt32) &&& 858993459)
  let v5 := (v3 + ((Int32.toUInt32 v3 >>> (Int32.toUInt32 4 &&& Int32.toUInt32 31)).toInt32)) &&& 252645135
  let v7 := v5 + ((Int32.toUInt32 v5 >>> (Int32.toUInt32 8 &&& Int32.toUInt32 31)).toInt32)
  let v9 := v7 + ((Int32.toUInt32 v7 >>> (Int32.toUInt32 16 &&& Int32.toUInt32 31)).toInt32)
  v9 &&& 63
theorem bcF_all : ∀ s, s < 1024 → bcF (nI s) = nI (pc s) := by decide +kernel
theorem bc_wp {σ : St} {s : Nat} (hs : s < 1024) {post : Int32 → St → Prop} (h : post (nI (pc s)) σ) : wp_J6_bitCount_0f7a4 (nI s) σ post := by
  unfold wp_J6_bitCount_0f7a4
  intro v1 h1 v3 h3 v5 h5 v7 h7 v9 h9
  have e : v9 &&& 63 = nI (pc s) := by
    rw [← bcF_all s hs, h9, h7, h5, h3, h1]; rfl
  rw [e]
  exact h
