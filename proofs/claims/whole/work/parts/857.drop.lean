/-! ===== Delays: an exchange at a row that is 0; dropSlacks; waysThatClash ===== -/
section DRP
variable {n m : Nat} {A : Nat → Nat → Int} {b : Nat → Int} {lc : Nat → Int} {sc : Int} {br : Nat}
theorem big12 (Y : SysB n m A b lc sc br) {S : Sx} (h : Std n m (vrow n m A b) S) : ∀ i j, i < m → j < n + m + 1 → -1000000000000 ≤ S.2.2 i j ∧ S.2.2 i j ≤ 1000000000000 := by
  intro i j hi hj
  have B := std_B Y h
  by_cases z : j = n + m
  · have := B.2.2.2.2.2.2.2.2.2 i hi
    rw [z]; omega
  · have := B.2.2.2.2.2.2.2.2.1 i j hi (by omega); omega
theorem exch_any (Y : SysB n m A b lc sc br) {σ : St} {S : Sx} (hS : Std n m (vrow n m A b) S) (H : DelC σ n m S lc sc br) {r c : Nat} (hr : r < m) (hc : c < n) (h0 : S.2.2 r c ≠ 0) (hL : S.2.2 r (n + m) = 0) {post : St → Prop}
    (hp : ∀ τ S', DelC τ n m S' lc sc br → ExF σ τ → Std n m (vrow n m A b) S' → S'.1 = cu S.1 r c → (∀ s, s < m → s ≠ r → ∀ j, S.2.2 s c = 0 → S.2.2 s j = 0 → S'.2.2 s j = 0) → (∀ s, s < m → S.2.2 s (n + m) = 0 → S'.2.2 s (n + m) = 0) → post τ) : wp_X0_exchange (nI r) (nI c) σ post := by
  have d0 := hS.2.1
  obtain ⟨T', t1, t2, t3⟩ := tab_piv hS.1 hr h0
  have hol : ∀ s, s < m → cu S.1 r c s < n ∨ cu S.1 r c s = n + s := fun s hs => by
    by_cases q : s = r
    · rw [q, cu_same]; exact Or.inl hc
    · rw [cu_ne _ q]; exact hS.2.2.2 s hs
  have zer : ∀ s, s < m → s ≠ r → ∀ j, S.2.2 s c = 0 → S.2.2 s j = 0 → T' s j = 0 := fun s hs hne j q1 q2 => by
    have := t3 s hs hne j
    rw [q1, q2, Int.zero_mul, Int.zero_mul] at this
    rcases Int.mul_eq_zero.mp this with z | z
    · omega
    · exact z
  have zerL : ∀ s, s < m → S.2.1 * T' s (n + m) = S.2.2 s (n + m) * S.2.2 r c ∨ (s = r ∧ T' s (n + m) = 0) := fun s hs => by
    by_cases q : s = r
    · exact Or.inr ⟨q, by rw [q, t2]; exact hL⟩
    · exact Or.inl (by rw [t3 s hs q, hL, Int.mul_zero, Int.sub_zero])
  have zL : ∀ s, s < m → S.2.2 s (n + m) = 0 → T' s (n + m) = 0 := fun s hs q => by
    rcases zerL s hs with z | z
    · rw [q, Int.zero_mul] at z
      rcases Int.mul_eq_zero.mp z with w | w
      · omega
      · exact w
    · exact z.2
  by_cases hpos : 0 < S.2.2 r c
  · have t1' : Std n m (vrow n m A b) (cu S.1 r c, S.2.2 r c, T') := ⟨t1, hpos, fun s hs => by
      show 0 ≤ T' s (n + m)
      rcases zerL s hs with z | z
      · have := Int.mul_nonneg (hS.2.2.1 s hs) (Int.le_of_lt hpos)
        rw [← z] at this
        by_cases w : 0 ≤ T' s (n + m)
        · exact w
        · have := Int.mul_neg_of_pos_of_neg d0 (show T' s (n + m) < 0 by omega); omega
      · omega, hol⟩
    exact exch_pos (v := vrow n m A b) (T' := T') H (std_B Y hS) hr hc (by omega) hpos t2 t3 (big12 Y t1') (fun τ H2 F2 => hp τ _ H2 F2 t1' rfl zer zL)
  · have hneg : S.2.2 r c < 0 := by omega
    have t1' : Std n m (vrow n m A b) (cu S.1 r c, - S.2.2 r c, fun s j => - T' s j) := ⟨tab_neg t1, by show 0 < - S.2.2 r c; omega, fun s hs => by
      show 0 ≤ - T' s (n + m)
      rcases zerL s hs with z | z
      · have := Int.mul_nonpos_of_nonneg_of_nonpos (hS.2.2.1 s hs) (Int.le_of_lt hneg)
        rw [← z] at this
        by_cases w : T' s (n + m) ≤ 0
        · omega
        · have := Int.mul_pos d0 (show 0 < T' s (n + m) by omega); omega
      · omega, hol⟩
    have H0 := H
    obtain ⟨h6, h7, h8, h9, h5, hd, hho, hlc, hT⟩ := H
    obtain ⟨b1, b2, b3, b4, b5, b6, b7, b8, b9, b10⟩ := std_B Y hS
    have l1 := row_lt b2 b3 hr (show c < n + m + 1 by omega)
    have ev := hT r c hr (by omega)
    have z0 : (0 : Int64).toInt = 0 := rfl
    have hbA : ∀ j, j < n + m + 1 → -362880000000 ≤ S.2.2 r j ∧ S.2.2 r j ≤ 362880000000 := by
      intro j hj
      by_cases q : j = n + m
      · rw [q]; exact b10 r hr
      · have := b9 r j hr (by omega); omega
    unfold wp_X0_exchange
    intro v1 hv1
    rw [hv1, h8, pk_mul, nI_add, nI_clamp (by omega)]
    refine ⟨idx_in l1, fun q => absurd q (by rw [Int64.le_iff_toInt_le, z0, ev]; omega), fun _ => ⟨n + m + 1 + 1, ?_⟩⟩
    have := turn_lp (σ0 := σ) b2 b3 hr h8 (TR := S.2.2 r) (fun j hj => hT r j hr hj) hbA (post := fun σ5 => jn_X0_exchange_25 post (nI r) (nI c) (nI (r * (n + m + 1))) σ5) (fun τ hS1 hB1 => by
      unfold jn_X0_exchange_25
      rw [nI_add, nI_clamp (by omega)]
      have ev2 : (gB τ 0 (r * (n + m + 1) + c)).toInt = - S.2.2 r c := hB1.1 c (by omega)
      refine ⟨idx_in l1, fun v2 hv2 => ⟨fun q => ?_, fun _ => ⟨fun _ => ?_, fun q => ?_⟩⟩⟩
      · have : v2.toInt = 0 := by rw [q]; rfl
        rw [hv2, ev2] at this; omega
      · have e2 : v2.toInt = (fun s j => if s = r then - S.2.2 s j else S.2.2 s j) r c := by
          show _ = if r = r then - S.2.2 r c else S.2.2 r c
          rw [if_pos rfl, hv2]; exact ev2
        have e3 : v2.toInt = - S.2.2 r c := by rw [hv2]; exact ev2
        have hTn : ∀ s j, s < m → j < n + m + 1 → (gB τ 0 (s * (n + m + 1) + j)).toInt = (fun s j => if s = r then - S.2.2 s j else S.2.2 s j) s j := by
          intro s j hs hj
          show _ = if s = r then - S.2.2 s j else S.2.2 s j
          by_cases q : s = r
          · rw [if_pos q, q]; exact hB1.1 j hj
          · rw [if_neg q, hB1.2 _ (fun i hi => row_ne hj hi (fun e => q e.symm))]; exact hT s j hs hj
        refine ⟨m + 1, ?_⟩
        have := exch_lp (σ0 := τ) (d := S.2.1) b2 b3 hr hc (by rw [hS1.1 7]; exact h7) (by rw [hS1.1 8]; exact h8) (by rw [hS1.2.1 0]; exact hd) (by omega) (T := fun s j => if s = r then - S.2.2 s j else S.2.2 s j) (R := fun s j => - T' s j) (hh := v2) e2 (fun i hi hne j _ => by
          show S.2.1 * - T' i j = (if i = r then - S.2.2 i j else S.2.2 i j) * (if r = r then - S.2.2 r c else S.2.2 r c) - (if i = r then - S.2.2 i c else S.2.2 i c) * (if r = r then - S.2.2 r j else S.2.2 r j)
          rw [if_neg hne, if_pos rfl, if_neg hne, if_pos rfl, Int.mul_neg, t3 i hi hne j, Int.mul_neg, Int.mul_neg]; omega) (fun i j hi hj => by
          show -38981 ≤ (if i = r then - S.2.2 i j else S.2.2 i j) ∧ (if i = r then - S.2.2 i j else S.2.2 i j) ≤ 38981
          have := b9 i j hi hj
          by_cases q : i = r
          · rw [if_pos q]; omega
          · rw [if_neg q]; exact this) (fun i hi => by
          show -362880000000 ≤ (if i = r then - S.2.2 i (n + m) else S.2.2 i (n + m)) ∧ (if i = r then - S.2.2 i (n + m) else S.2.2 i (n + m)) ≤ 362880000000
          have := b10 i hi
          by_cases q : i = r
          · rw [if_pos q]; omega
          · rw [if_neg q]; exact this) (big12 Y t1') (post := post) (fun τ2 hS2 hT2 => by
          have key := exch_fin (hh := v2) (T' := fun s j => - T' s j) b2 hr hc H0 (hS1.tr hS2) (fun s j hs hj => by
            rw [hT2 s j hs hj]
            show (if s = r then (if s = r then - S.2.2 s j else S.2.2 s j) else - T' s j) = - T' s j
            by_cases q : s = r
            · rw [if_pos q, if_pos q, q, t2]
            · rw [if_neg q])
          rw [e3] at key
          exact hp _ _ key.1 key.2 t1' rfl (fun s hs hne j q1 q2 => by show - T' s j = 0; rw [zer s hs hne j q1 q2]; rfl) (fun s hs q => by show - T' s (n + m) = 0; rw [zL s hs q]; rfl)) m 0 τ (by omega) (SameB.rf τ) (fun s j hs hj => by rw [if_neg (fun z => absurd z.1 (Nat.not_lt_zero s))]; exact hTn s j hs hj)
        rw [nI_0] at this
        exact this
      · rw [hS1.2.1 0] at q
        have : S.2.1 = 0 := by rw [← hd, q]; rfl
        omega) (n + m + 1) 0 σ (by omega) (SameB.rf σ) ⟨fun j hj => absurd hj (Nat.not_lt_zero j), fun x _ => rfl⟩
    rw [nI_0] at this
    exact this
/-- rows done: their holder is a line, or all their lines are 0; slacks are 0 -/
def DrI (n m : Nat) (S : Sx) (k : Nat) : Prop := (∀ s, s < m → n ≤ S.1 s → S.2.2 s (n + m) = 0) ∧ ∀ s, s < k → S.1 s < n ∨ ∀ j, j < n → S.2.2 s j = 0
theorem dr_step {S S' : Sx} {r c k : Nat} (hk : k ≤ r) (hr : r < m) (h : DrI n m S k) (hl : ∀ s, s < k → S.1 s < n ∨ ∀ j, j < n → S.2.2 s j = 0) (hc : c < n) (e1 : S'.1 = cu S.1 r c) (z1 : ∀ s, s < m → s ≠ r → ∀ j, S.2.2 s c = 0 → S.2.2 s j = 0 → S'.2.2 s j = 0) (z2 : ∀ s, s < m → S.2.2 s (n + m) = 0 → S'.2.2 s (n + m) = 0) : DrI n m S' k := by
  refine ⟨fun s hs q => ?_, fun s hs => ?_⟩
  · rw [e1] at q
    by_cases w : s = r
    · rw [w, cu_same] at q; omega
    · rw [cu_ne _ w] at q; exact z2 s hs (h.1 s hs q)
  · rw [e1, cu_ne _ (by omega)]
    rcases hl s hs with w | w
    · exact Or.inl w
    · exact Or.inr (fun j hj => z1 s (by omega) (by omega) j (w c hc) (w j hj))
theorem drop_in (Y : SysB n m A b lc sc br) {σ0 : St} {r : Nat} (hr : r < m) {post : St → Prop} {K : Int32 → St → Prop} (hK : ∀ τ S, Std n m (vrow n m A b) S → DrI n m S (r + 1) → DelC τ n m S lc sc br → ExF σ0 τ → K (nI (r + 1)) τ) :
    ∀ (k l : Nat) (τ : St) (S : Sx), l + k = n → Std n m (vrow n m A b) S → DrI n m S r → DelC τ n m S lc sc br → ExF σ0 τ → (S.1 r < n ∨ ∀ j, j < l → S.2.2 r j = 0) → lp_X0_dropSlacks_12 post K (k + 1) (nI r) (nI l) τ := by
  have n10 := Y.2.1
  have m10 := Y.2.2.1
  intro k
  induction k with
  | zero =>
    intro l τ S hk hS hI H hF hz
    have : l = n := by omega
    subst this
    unfold lp_X0_dropSlacks_12
    rw [H.1]
    refine ⟨fun _ v hv => ?_, fun q => absurd (nI_le (Nat.le_refl l) (by omega)) q⟩
    rw [hv, nI_1]
    refine hK τ S hS ⟨hI.1, fun s hs => ?_⟩ H hF
    by_cases q : s = r
    · rw [q]; exact hz
    · exact hI.2 s (by omega)
  | succ k ih =>
    intro l τ S hk hS hI H hF hz
    have hl : l < n := by omega
    have l1 := row_lt n10 m10 hr (show l < n + m + 1 by omega)
    have z0 : (0 : Int64).toInt = 0 := rfl
    unfold lp_X0_dropSlacks_12
    rw [H.1, nI_clamp (show r < 2 ^ 31 by omega), H.2.2.2.2.2.2.1 r hr]
    refine ⟨fun q => absurd q (nI_ge hl (by omega)), fun _ => ⟨idx10 (by omega), fun q v hv => ?_, fun q => ?_⟩⟩
    · rw [hv, nI_1]
      refine hK τ S hS ⟨hI.1, fun s hs => ?_⟩ H hF
      by_cases w : s = r
      · rw [w]
        by_cases y : S.1 r < n
        · exact Or.inl y
        · rw [if_neg y] at q; exact absurd q (by decide)
      · exact hI.2 s (by omega)
    · have hsl : ¬ S.1 r < n := fun y => by rw [if_pos y] at q; exact q (nI_pos' (by omega))
      have hz2 : ∀ j, j < l → S.2.2 r j = 0 := hz.elim (fun y => absurd y hsl) id
      have e1 : nI r * gI τ 8 + nI l = nI (r * (n + m + 1) + l) := by rw [H.2.2.1, pk_mul, nI_add]
      rw [e1, nI_clamp (by omega)]
      have ev := H.2.2.2.2.2.2.2.2 r l hr (by omega)
      refine ⟨idx_in l1, fun w v hv => ?_, fun w => ?_⟩
      · rw [lc_eq] at w
        rw [hv, nI_1]
        refine ih (l + 1) τ S (by omega) hS hI H hF (Or.inr (fun j hj => ?_))
        by_cases y : j = l
        · rw [y, ← ev, w]; rfl
        · exact hz2 j (by omega)
      · have w2 : S.2.2 r l ≠ 0 := fun y => w ((lc_eq _ _).mpr (Int64.toInt_inj.mp (by rw [ev, y]; rfl)))
        refine exch_any Y hS H hr hl w2 (hI.1 r hr (by omega)) (fun τ2 S2 H2 F2 T2 c2 y1 y2 v hv => ?_)
        rw [hv, nI_1]
        refine ih (l + 1) τ2 S2 (by omega) T2 (dr_step (Nat.le_refl r) hr hI hI.2 hl c2 y1 y2) H2 ⟨fun k => (F2.1 k).trans (hF.1 k), fun k hk => (F2.2 k hk).trans (hF.2 k hk)⟩ (Or.inl ?_)
        rw [c2, cu_same]; exact hl
theorem drop_wp (Y : SysB n m A b lc sc br) {σ : St} {S : Sx} (hS : Std n m (vrow n m A b) S) (H : DelC σ n m S lc sc br) (h0 : ∀ s, s < m → n ≤ S.1 s → S.2.2 s (n + m) = 0) {post : St → Prop} (hp : ∀ τ S, Std n m (vrow n m A b) S → DrI n m S m → DelC τ n m S lc sc br → ExF σ τ → post τ) : wp_X0_dropSlacks σ post := by
  have key : ∀ (k r : Nat) (τ : St) (S : Sx), r + k = m → Std n m (vrow n m A b) S → DrI n m S r → DelC τ n m S lc sc br → ExF σ τ → lp_X0_dropSlacks_2 post (k + 1) (nI r) τ := by
    intro k
    induction k with
    | zero =>
      intro r τ S hk hS hI H hF
      have : r = m := by omega
      subst this
      unfold lp_X0_dropSlacks_2
      rw [H.2.1]
      exact ⟨fun _ => hp τ S hS hI H hF, fun q => absurd (nI_le (Nat.le_refl r) (by have := Y.2.2.1; omega)) q⟩
    | succ k ih =>
      intro r τ S hk hS hI H hF
      have hr : r < m := by omega
      unfold lp_X0_dropSlacks_2
      rw [H.2.1]
      refine ⟨fun q => absurd q (nI_ge hr (by have := Y.2.2.1; omega)), fun _ => ⟨n + 1, ?_⟩⟩
      have := drop_in Y (σ0 := σ) hr (post := post) (K := lp_X0_dropSlacks_2 post (k + 1)) (fun τ2 S2 a1 a2 a3 a4 => ih (r + 1) τ2 S2 (by omega) a1 a2 a3 a4) n 0 τ S (by omega) hS hI H hF (Or.inr (fun j hj => absurd hj (Nat.not_lt_zero j)))
      rw [nI_0] at this
      exact this
  refine ⟨m + 1, ?_⟩
  have := key m 0 σ S (by omega) hS ⟨h0, fun s hs => absurd hs (Nat.not_lt_zero s)⟩ H ⟨fun _ => rfl, fun _ _ => rfl⟩
  rw [nI_0] at this
  exact this
end DRP
