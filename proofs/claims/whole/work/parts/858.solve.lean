/-! ===== Delays: load, waysThatClash, solve ===== -/
/-- the net's lines and ways, as the class holds them -/
def NetC (σ : St) (n k : Nat) (ws ss : Nat → Nat) : Prop := gI σ 0 = nI n ∧ gI σ 1 = nI k ∧ (∀ w, w < k → gA σ 0 w = nI (ws w)) ∧ ∀ w, w < k → gA σ 1 w = nI (ss w)
def NetB (n k : Nat) (ws ss : Nat → Nat) : Prop := 1 ≤ n ∧ n ≤ 10 ∧ k ≤ 10 ∧ (∀ w, w < k → 1 ≤ ws w ∧ ws w < 2 ^ n) ∧ ∀ w, w < k → ss w ≤ 100000
/-- delays X over τ for the ways of W -/
def SolW (n : Nat) (ws ss : Nat → Nat) (W : Nat) (X : Nat → Int) (τ : Int) : Prop := 0 < τ ∧ (∀ j, j < n → 0 ≤ X j) ∧ ∀ w, W.testBit w = true → sg (fun j => (if (ws w).testBit j then 1 else 0) * X j) n = τ * (ss w : Int)
def FitW (n : Nat) (ws ss : Nat → Nat) (W : Nat) : Prop := ∃ X τ, SolW n ws ss W X τ
section SLV
variable {n k : Nat} {ws ss : Nat → Nat}
theorem solW_iff {W : Nat} (hk : k ≤ 10) (hW : W < 2 ^ k) (X : Nat → Int) (τ : Int) : SolW n ws ss W X τ ↔ Sol n (pc W) (Aw ws W) (bw ss W) X τ := by
  unfold SolW Sol
  refine and_congr_right fun _ => and_congr_right fun _ => ⟨fun h t ht => h _ (wy_in hk hW ht).2, fun h w hw => ?_⟩
  have hwk : w < k := by
    rcases Nat.lt_or_ge w k with q | q
    · exact q
    · rw [bits_of_lt hW q] at hw; cases hw
  have hlt : (wyL W w).length < pc W := by
    have := (List.getElem?_eq_some_iff.mp (wyL_at (k := 10) (show w < 10 by omega) hw)).1
    rw [wyL_len W 10] at this
    exact this
  have := h _ hlt
  unfold Aw bw at this
  rw [wy_of hk hW hwk hw] at this
  exact this
theorem sys_of {W : Nat} (N : NetB n k ws ss) (hW : W < 2 ^ k) {lc : Nat → Int} {sc : Int} {br : Nat} (hb : br < 2 ^ n) (hs : -1 ≤ sc ∧ sc ≤ 1) (hl : ∀ j, j < n → -1 ≤ lc j ∧ lc j ≤ 1) : SysB n (pc W) (Aw ws W) (bw ss W) lc sc br := by
  obtain ⟨n1, n2, n3, n4, n5⟩ := N
  refine ⟨n1, n2, fb_ct_le _ 10, hb, hs, hl, fun t j _ _ => ?_, fun t ht => ?_⟩
  · unfold Aw
    by_cases q : (ws (wy W t)).testBit j = true
    · rw [if_pos q]; omega
    · rw [if_neg q]; omega
  · unfold bw
    have := n5 _ (wy_in n3 hW ht).1
    omega
/-- what stays over a load -/
def FrL (σ τ : St) : Prop := (∀ i, i < 6 ∨ 9 < i → gI τ i = gI σ i) ∧ ∀ i, i ≠ 3 → i ≠ 4 → gA τ i = gA σ i
theorem load_lp {σ0 : St} (N : NetB n k ws ss) (C : NetC σ0 n k ws ss) {W : Nat} (hW : W < 2 ^ k) {m : Nat} (hm : m = pc W) (h6 : gI σ0 6 = nI n) (h8 : gI σ0 8 = nI (n + m + 1)) {post : St → Prop}
    (hp : ∀ τ, (∀ i, gI τ i = gI σ0 i) → (∀ i, gL τ i = gL σ0 i) → (∀ i, i ≠ 3 → i ≠ 4 → gA τ i = gA σ0 i) → (∀ t, t < m → gA τ 3 t = -1 ∧ gA τ 4 t = nI (wy W t)) → (∀ t j, t < m → j < n + m + 1 → (gB τ 0 (t * (n + m + 1) + j)).toInt = vrow n m (Aw ws W) (bw ss W) t j) → post τ) :
    ∀ (d w : Nat) (τ : St), w + d = k → (∀ i, gI τ i = gI σ0 i) → (∀ i, gL τ i = gL σ0 i) → (∀ i, i ≠ 3 → i ≠ 4 → gA τ i = gA σ0 i) → (∀ t, t < (wyL W w).length → gA τ 3 t = -1 ∧ gA τ 4 t = nI (wy W t)) → (∀ t j, t < (wyL W w).length → j < n + m + 1 → (gB τ 0 (t * (n + m + 1) + j)).toInt = vrow n m (Aw ws W) (bw ss W) t j) → (∀ t j, (wyL W w).length ≤ t → t < m → j < n + m + 1 → gB τ 0 (t * (n + m + 1) + j) = 0) → lp_X0_load_54 post (d + 1) (nI W) (nI (wyL W w).length) (nI w) τ := by
  obtain ⟨n1, n2, n3, n4, n5⟩ := N
  obtain ⟨c1, c2, c3, c4⟩ := C
  have hW31 : W < 2 ^ 31 := Nat.lt_of_lt_of_le hW (Nat.pow_le_pow_right (by decide) (by omega))
  have m10 : m ≤ 10 := by rw [hm]; exact fb_ct_le _ 10
  intro d
  induction d with
  | zero =>
    intro w τ hd gi gl ga h3 hT hz
    have : w = k := by omega
    subst this
    have hl : (wyL W w).length = m := by rw [hm, ← wyL_ten n3 hW, wyL_len]; rfl
    rw [hl] at h3 hT
    unfold lp_X0_load_54
    rw [gi 1, c2]
    exact ⟨fun _ => hp τ gi gl ga h3 hT, fun q => absurd (nI_le (Nat.le_refl w) (by omega)) q⟩
  | succ d ih =>
    intro w τ hd gi gl ga h3 hT hz
    have hw : w < k := by omega
    unfold lp_X0_load_54
    rw [gi 1, c2]
    refine ⟨fun q => absurd q (nI_ge hw (by omega)), fun _ => bitOf_wp hW31 (by omega) ⟨fun q v hv => ?_, fun q => ⟨idx10 (by omega), idx10 (by omega), ?_⟩⟩⟩
    · have q2 := (bit_ne1 _).mp q
      have e : wyL W (w + 1) = wyL W w := by rw [wyL_succ, if_neg (by rw [q2]; decide), List.append_nil]
      rw [hv, nI_1]
      have := ih (w + 1) τ (by omega) gi gl ga (by rw [e]; exact h3) (by rw [e]; exact hT) (by rw [e]; exact hz)
      rw [e] at this
      exact this
    · have q2 := (bit_1 _).mp q
      have e : (wyL W (w + 1)).length = (wyL W w).length + 1 := by rw [wyL_succ, if_pos q2, List.length_append]; rfl
      have ewy := wy_of n3 hW hw q2
      have hlt : (wyL W w).length < m := by
        have := (List.getElem?_eq_some_iff.mp (wyL_at (k := 10) (show w < 10 by omega) q2)).1
        rw [wyL_len W 10] at this
        rw [hm]; exact this
      rw [nI_clamp (by omega), ga 0 (by decide) (by decide), ga 1 (by decide) (by decide), c3 w hw, c4 w hw]
      have s1 := n4 w hw
      have s2 := n5 w hw
      have p10 : 2 ^ n ≤ 2 ^ 10 := Nat.pow_le_pow_right (by decide) n2
      refine lrow_wp n2 m10 hlt (by rw [gi 6]; exact h6) (by rw [gi 8]; exact h8) (by omega) (by omega) (fun j hj => hz _ j (Nat.le_refl _) hlt hj) (A := Aw ws W) (b := bw ss W) (fun j => by unfold Aw; rw [ewy]) (by unfold bw; rw [ewy]) (fun τ2 gi2 gl2 ga2 hB2 => ⟨idx10 (by omega), fun τ3 e3 v1 hv1 v2 hv2 => ?_⟩)
      rw [hv1, hv2, nI_1, nI_1, ← e]
      rw [nI_clamp (by omega)] at e3
      have ga3 : ∀ i x, gA τ3 i x = if i = 4 ∧ x = (wyL W w).length then nI w else if i = 3 ∧ x = (wyL W w).length then -1 else gA τ i x := fun i x => by
        rw [e3, gA_sA, ga2]
      have gb3 : ∀ x, gB τ3 0 x = gB τ2 0 x := fun x => by rw [e3, gB_sA]
      refine ih (w + 1) τ3 (by omega) (fun i => by rw [e3, gI_sA, gi2]; exact gi i) (fun i => by rw [e3, gL_sA, gl2]; exact gl i) (fun i a1 a2 => ?_) (fun t ht => ?_) (fun t j ht hj => ?_) (fun t j ht1 ht2 hj => ?_)
      · funext x
        rw [ga3, if_neg (fun z => a2 z.1), if_neg (fun z => a1 z.1), ga i a1 a2]
      · rw [e] at ht
        by_cases z : t = (wyL W w).length
        · rw [ga3, ga3, z, if_neg (fun y => absurd y.1 (by decide)), if_pos ⟨rfl, rfl⟩, if_pos ⟨rfl, rfl⟩, ewy]; exact ⟨rfl, rfl⟩
        · rw [ga3, ga3, if_neg (fun y => z y.2), if_neg (fun y => z y.2), if_neg (fun y => z y.2), if_neg (fun y => z y.2)]
          exact h3 t (by omega)
      · rw [e] at ht
        rw [gb3]
        by_cases z : t = (wyL W w).length
        · rw [z]; exact hB2.1 j hj
        · rw [hB2.2 _ (fun i hi => row_ne hj hi (fun y => z y.symm))]; exact hT t j (by omega) hj
      · rw [e] at ht1
        rw [gb3, hB2.2 _ (fun i hi => row_ne hj hi (by omega))]
        exact hz t j (by omega) ht2 hj
theorem load_wp {σ : St} (N : NetB n k ws ss) (C : NetC σ n k ws ss) {W : Nat} (hW : W < 2 ^ k) {post : St → Prop}
    (hp : ∀ τ, DelC τ n (pc W) (c0 n, 1, vrow n (pc W) (Aw ws W) (bw ss W)) (fun j => (gA σ 5 j).toInt) (gI σ 5).toInt 0 → (∀ t, t < pc W → gA τ 4 t = nI (wy W t)) → FrL σ τ → post τ) : wp_X0_load (nI W) σ post := by
  have N0 := N
  obtain ⟨n1, n2, n3, n4, n5⟩ := N
  obtain ⟨c1, c2, c3, c4⟩ := C
  have hW10 : W < 1024 := Nat.lt_of_lt_of_le hW (Nat.pow_le_pow_right (by decide) n3)
  have m10 : pc W ≤ 10 := fb_ct_le _ 10
  unfold wp_X0_load
  intro σ1 e1
  refine bc_wp hW10 (fun σ5 e5 σ7 e7 σ9 e9 σ11 e11 => fillB_wp (fun σ14 hS hz => ?_))
  have g11 : ∀ i, gI σ11 i = if i = 9 then 0 else if i = 8 then nI (n + pc W + 1) else if i = 7 then nI (pc W) else if i = 6 then nI n else gI σ i := by
    intro i
    have a6 : gI σ5 6 = nI n := by rw [e5, gI_sI, if_neg (by decide), e1, gI_sI, if_pos rfl, c1]
    have a7 : gI σ5 7 = nI (pc W) := by rw [e5, gI_sI, if_pos rfl]
    rw [e11, gI_sI]
    by_cases q9 : i = 9
    · rw [if_pos q9, if_pos q9]
    · rw [if_neg q9, if_neg q9, e9, gI_sL, e7, gI_sI]
      by_cases q8 : i = 8
      · rw [if_pos q8, if_pos q8, a6, a7, nI_add, nI_1]
      · rw [if_neg q8, if_neg q8, e5, gI_sI]
        by_cases q7 : i = 7
        · rw [if_pos q7, if_pos q7]
        · rw [if_neg q7, if_neg q7, e1, gI_sI]
          by_cases q6 : i = 6
          · rw [if_pos q6, if_pos q6, c1]
          · rw [if_neg q6, if_neg q6]
  have a11 : ∀ i, gA σ11 i = gA σ i := fun i => by rw [e11, gA_sI, e9, gA_sL, e7, gA_sI, e5, gA_sI, e1, gA_sI]
  have l11 : gL σ11 0 = 1 := by rw [e11, gL_sI, e9, gL_sL, if_pos rfl]
  have gi : ∀ i, gI σ14 i = gI σ11 i := hS.1
  have ga : ∀ i, gA σ14 i = gA σ i := fun i => (hS.2.2.1 i).trans (a11 i)
  have C14 : NetC σ14 n k ws ss := ⟨by rw [gi, g11]; exact c1, by rw [gi, g11]; exact c2, fun w hw => by rw [ga]; exact c3 w hw, fun w hw => by rw [ga]; exact c4 w hw⟩
  refine ⟨k + 1, ?_⟩
  have h6 : gI σ14 6 = nI n := by rw [gi, g11]; rfl
  have h7 : gI σ14 7 = nI (pc W) := by rw [gi, g11]; rfl
  have h8 : gI σ14 8 = nI (n + pc W + 1) := by rw [gi, g11]; rfl
  have h9 : gI σ14 9 = nI 0 := by rw [gi, g11]; rfl
  have h5 : gI σ14 5 = gI σ 5 := by rw [gi, g11]; rfl
  have := load_lp N0 C14 hW rfl h6 h8 (post := post) (fun τ ti tl ta t3 tT => by
    refine hp τ ⟨by rw [ti]; exact h6, by rw [ti]; exact h7, by rw [ti]; exact h8, by rw [ti]; exact h9, by rw [ti, h5], by rw [tl, hS.2.1, l11]; rfl, fun s hs => ?_, fun j hj => by rw [ta 5 (by decide) (by decide), ga], tT⟩ (fun t ht => (t3 t ht).2) ⟨fun i hi => ?_, fun i a1 a2 => (ta i a1 a2).trans (ga i)⟩
    · show gA τ 3 s = if n + s < n then nI (n + s) else -1
      rw [if_neg (by omega)]; exact (t3 s hs).1
    · rw [ti, gi, g11, if_neg (by omega), if_neg (by omega), if_neg (by omega), if_neg (by omega)]) k 0 σ14 (by omega) (fun _ => rfl) (fun _ => rfl) (fun _ _ _ => rfl) (fun t ht => absurd ht (Nat.not_lt_zero t)) (fun t j ht => absurd ht (Nat.not_lt_zero t)) (fun t j _ ht hj => hz _ (row_lt n2 m10 ht hj))
  have e0 : (wyL W 0).length = 0 := rfl
  rw [e0, nI_0] at this
  exact this
end SLV
