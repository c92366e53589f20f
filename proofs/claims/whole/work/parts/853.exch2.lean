/-! ===== Delays: exchange ===== -/
section EX2
variable {n m : Nat}
theorem exch_lp {σ0 : St} (hn : n ≤ 10) (hm : m ≤ 10) {r c : Nat} (hr : r < m) (hc : c < n) {d : Int} (h7 : gI σ0 7 = nI m) (h8 : gI σ0 8 = nI (n + m + 1)) (hd : (gL σ0 0).toInt = d) (hd0 : d ≠ 0) {T R : Nat → Nat → Int} {hh : Int64} (hhh : hh.toInt = T r c)
    (hR : ∀ i, i < m → i ≠ r → ∀ j, j < n + m + 1 → d * R i j = T i j * T r c - T i c * T r j)
    (hbT : ∀ i j, i < m → j < n + m → -38981 ≤ T i j ∧ T i j ≤ 38981) (hbL : ∀ i, i < m → -362880000000 ≤ T i (n + m) ∧ T i (n + m) ≤ 362880000000) (hb3 : ∀ i j, i < m → j < n + m + 1 → -1000000000000 ≤ R i j ∧ R i j ≤ 1000000000000)
    {post : St → Prop} (hp : ∀ τ, SameB σ0 τ → (∀ s j, s < m → j < n + m + 1 → (gB τ 0 (s * (n + m + 1) + j)).toInt = if s = r then T s j else R s j) → post (sA (sL τ 0 hh) 3 r (nI c))) :
    ∀ (k o : Nat) (τ : St), o + k = m → SameB σ0 τ → (∀ s j, s < m → j < n + m + 1 → (gB τ 0 (s * (n + m + 1) + j)).toInt = if s < o ∧ s ≠ r then R s j else T s j) → lp_X0_exchange_55 post (k + 1) (nI r) (nI c) (nI (r * (n + m + 1))) hh (nI o) τ := by
  have hbA : ∀ i j, i < m → j < n + m + 1 → -362880000000 ≤ T i j ∧ T i j ≤ 362880000000 := by
    intro i j hi hj
    by_cases q : j = n + m
    · rw [q]; exact hbL i hi
    · have := hbT i j hi (by omega); omega
  intro k
  induction k with
  | zero =>
    intro o τ hk hS hT
    have : o = m := by omega
    subst this
    unfold lp_X0_exchange_55
    rw [hS.1 7, h7]
    refine ⟨fun _ τ2 e2 => ⟨idx10 (by omega), fun τ3 e3 => ?_⟩, fun q => absurd (nI_le (Nat.le_refl o) (by omega)) q⟩
    rw [e3, e2, nI_clamp (by omega)]
    refine hp τ hS (fun s j hs hj => ?_)
    rw [hT s j hs hj]
    by_cases q : s = r
    · rw [if_neg (fun z => z.2 q), if_pos q]
    · rw [if_pos ⟨hs, q⟩, if_neg q]
  | succ k ih =>
    intro o τ hk hS hT
    have ho : o < m := by omega
    unfold lp_X0_exchange_55
    rw [hS.1 7, h7]
    refine ⟨fun q => absurd q (nI_ge ho (by omega)), fun _ => ⟨fun q v hv => ?_, fun q => ?_⟩⟩
    · have q2 : o = r := (nI_eq (by omega) (by omega)).mp q
      rw [hv, nI_1]
      refine ih (o + 1) τ (by omega) hS (fun s j hs hj => ?_)
      rw [hT s j hs hj]
      by_cases z : s < o ∧ s ≠ r
      · rw [if_pos z, if_pos ⟨by omega, z.2⟩]
      · rw [if_neg z, if_neg (fun w => z ⟨by omega, w.2⟩)]
    · have q2 : o ≠ r := fun e => q (by rw [e])
      rw [hS.1 8, h8, pk_mul]
      have eI : ∀ j, j < n + m + 1 → (gB τ 0 (o * (n + m + 1) + j)).toInt = T o j := fun j hj => by rw [hT o j ho hj, if_neg (fun z => absurd z.1 (Nat.lt_irrefl o))]
      have eR : ∀ j, j < n + m + 1 → (gB τ 0 (r * (n + m + 1) + j)).toInt = T r j := fun j hj => by rw [hT r j hr hj, if_neg (fun z => z.2 rfl)]
      refine clear_wp hn hm ho hr q2 hc (by rw [hS.1 8, h8]) (by rw [hS.2.1 0]; exact hd) hd0 eI eR (hR o ho q2) (fun j hj => ?_) (fun j hj => ?_) (fun j hj => hb3 o j ho hj) (fun τ2 hS2 hB2 v hv => ?_)
      · have := abs_mul_le (hbA o j ho hj) (hbT r c hr (by omega)); omega
      · have := abs_mul_le (hbT o c ho (by omega)) (hbA r j hr hj); omega
      · rw [hv, nI_1]
        refine ih (o + 1) τ2 (by omega) (hS.tr hS2) (fun s j hs hj => ?_)
        by_cases z : s = o
        · subst z
          rw [hB2.1 j hj, if_pos ⟨by omega, q2⟩]
        · rw [hB2.2 _ (fun q3 hq3 => row_ne hj hq3 (fun e => z e.symm)), hT s j hs hj]
          by_cases w : s < o ∧ s ≠ r
          · rw [if_pos w, if_pos ⟨by omega, w.2⟩]
          · rw [if_neg w, if_neg (fun y => w ⟨by omega, y.2⟩)]
theorem turn_lp {σ0 : St} (hn : n ≤ 10) (hm : m ≤ 10) {r : Nat} (hr : r < m) (h8 : gI σ0 8 = nI (n + m + 1)) {TR : Nat → Int} (hT : ∀ j, j < n + m + 1 → (gB σ0 0 (r * (n + m + 1) + j)).toInt = TR j) (hb : ∀ j, j < n + m + 1 → -362880000000 ≤ TR j ∧ TR j ≤ 362880000000)
    {post : St → Prop} (hp : ∀ τ, SameB σ0 τ → RowB σ0 τ (n + m + 1) r (n + m + 1) (fun j => - TR j) → post τ) :
    ∀ (k j : Nat) (τ : St), j + k = n + m + 1 → SameB σ0 τ → RowB σ0 τ (n + m + 1) r j (fun j => - TR j) → lp_X0_turnSigns_2 post (k + 1) (nI (r * (n + m + 1))) (nI j) τ := by
  intro k
  induction k with
  | zero =>
    intro j τ hk hS hB
    have : j = n + m + 1 := by omega
    subst this
    unfold lp_X0_turnSigns_2
    rw [hS.1 8, h8]
    exact ⟨fun _ => hp τ hS hB, fun q => absurd (nI_le (Nat.le_refl _) (by omega)) q⟩
  | succ k ih =>
    intro j τ hk hS hB
    have hj : j < n + m + 1 := by omega
    have l1 := row_lt hn hm hr hj
    unfold lp_X0_turnSigns_2
    rw [hS.1 8, h8, nI_add, nI_clamp (by omega)]
    refine ⟨fun q => absurd q (nI_ge hj (by omega)), fun _ => ⟨idx_in l1, idx_in l1, fun τ2 hτ2 u hu => ?_⟩⟩
    have e1 : (gB τ 0 (r * (n + m + 1) + j)).toInt = TR j := by rw [hB.2 _ (fun q hq e => by omega)]; exact hT j hj
    have b1 := hb j hj
    rw [hu, nI_1]
    refine ih (j + 1) τ2 (by omega) (by rw [hτ2]; exact hS.tr (SameB.put τ _ _)) (by
      rw [hτ2]
      refine hB.step ?_
      rw [Int64.toInt_neg, e1]
      exact fb_bmodL (by omega) (by omega))
variable {σ : St} {S : Sx} {lc : Nat → Int} {sc : Int} {br : Nat}
/-- what an exchange leaves -/
def ExF (σ τ : St) : Prop := (∀ k, gI τ k = gI σ k) ∧ ∀ k, k ≠ 3 → gA τ k = gA σ k
theorem exch_fin {σ0 τ : St} {T' : Nat → Nat → Int} {r c : Nat} {hh : Int64} (hn : n ≤ 10) (hr : r < m) (hc : c < n) (H : DelC σ0 n m S lc sc br) (hS : SameB σ0 τ) (hT : ∀ s j, s < m → j < n + m + 1 → (gB τ 0 (s * (n + m + 1) + j)).toInt = T' s j) : DelC (sA (sL τ 0 hh) 3 r (nI c)) n m (cu S.1 r c, hh.toInt, T') lc sc br ∧ ExF σ0 (sA (sL τ 0 hh) 3 r (nI c)) := by
  obtain ⟨h6, h7, h8, h9, h5, hd, hho, hlc, hT0⟩ := H
  have gi : ∀ k, gI (sA (sL τ 0 hh) 3 r (nI c)) k = gI σ0 k := fun k => hS.1 k
  refine ⟨⟨by rw [gi]; exact h6, by rw [gi]; exact h7, by rw [gi]; exact h8, by rw [gi]; exact h9, by rw [gi]; exact h5, rfl, fun s hs => ?_, fun j hj => ?_, fun s j hs hj => hT s j hs hj⟩, gi, fun k hk => ?_⟩
  · rw [gA_sA]
    show (if 3 = 3 ∧ s = r then nI c else gA τ 3 s) = if cu S.1 r c s < n then nI (cu S.1 r c s) else -1
    by_cases q : s = r
    · rw [if_pos ⟨rfl, q⟩, q, cu_same, if_pos hc]
    · rw [if_neg (fun z => q z.2), cu_ne _ q, hS.2.2.1 3]; exact hho s hs
  · rw [gA_sA, if_neg (fun z => absurd z.1 (by decide))]
    show (gA τ 5 j).toInt = _
    rw [hS.2.2.1 5]; exact hlc j hj
  · funext x
    rw [gA_sA, if_neg (fun z => hk z.1)]
    show gA τ k x = _
    rw [hS.2.2.1 k]
/-- exchange at a positive number -/
theorem exch_pos {v : Nat → Vc} {T' : Nat → Nat → Int} (H : DelC σ n m S lc sc br) (B : DelB n m S lc sc br) {r c : Nat} (hr : r < m) (hc : c < n) (hd0 : S.2.1 ≠ 0) (hp0 : 0 < S.2.2 r c) (hTr : ∀ j, T' r j = S.2.2 r j) (hTi : ∀ i, i < m → i ≠ r → ∀ j, S.2.1 * T' i j = S.2.2 i j * S.2.2 r c - S.2.2 i c * S.2.2 r j) (hb : ∀ i j, i < m → j < n + m + 1 → -1000000000000 ≤ T' i j ∧ T' i j ≤ 1000000000000)
    {post : St → Prop} (hp : ∀ τ, DelC τ n m (cu S.1 r c, S.2.2 r c, T') lc sc br → ExF σ τ → post τ) : wp_X0_exchange (nI r) (nI c) σ post := by
  have H0 := H
  obtain ⟨h6, h7, h8, h9, h5, hd, hho, hlc, hT⟩ := H
  obtain ⟨b1, b2, b3, b4, b5, b6, b7, b8, b9, b10⟩ := B
  have l1 := row_lt b2 b3 hr (show c < n + m + 1 by omega)
  have ev := hT r c hr (by omega)
  have z0 : (0 : Int64).toInt = 0 := rfl
  unfold wp_X0_exchange
  intro v1 hv1
  rw [hv1, h8, pk_mul, nI_add, nI_clamp (by omega)]
  refine ⟨idx_in l1, fun _ => ?_, fun q => absurd (by rw [Int64.le_iff_toInt_le, z0, ev]; omega) q⟩
  unfold jn_X0_exchange_25
  rw [nI_add, nI_clamp (by omega)]
  refine ⟨idx_in l1, fun v2 hv2 => ⟨fun q => ?_, fun _ => ⟨fun _ => ?_, fun q => ?_⟩⟩⟩
  · have : v2.toInt = 0 := by rw [q]; rfl
    rw [hv2, ev] at this; omega
  · have e2 : v2.toInt = S.2.2 r c := by rw [hv2]; exact ev
    refine ⟨m + 1, ?_⟩
    have := exch_lp (σ0 := σ) b2 b3 hr hc h7 h8 hd hd0 (T := S.2.2) (R := T') (hh := v2) e2 (fun i hi hne j _ => hTi i hi hne j) b9 b10 hb (post := post) (fun τ hS hTn => by
      have key := exch_fin (hh := v2) (T' := T') b2 hr hc H0 hS (fun s j hs hj => by
        rw [hTn s j hs hj]
        by_cases q : s = r
        · rw [if_pos q, q, hTr]
        · rw [if_neg q])
      rw [e2] at key
      exact hp _ key.1 key.2) m 0 σ (by omega) (SameB.rf σ) (fun s j hs hj => by rw [if_neg (fun z => absurd z.1 (Nat.not_lt_zero s))]; exact hT s j hs hj)
    rw [nI_0] at this
    exact this
  · exact absurd (by rw [← hd, q]; rfl) hd0
end EX2
