/-! ===== the calls that change the net, further ones ===== -/
section ST2
variable {σ τ : St}
theorem wayM_wp {n k o M Bm : Nat} {ws ss os : Nat → Nat} (FM : NetM τ n k o M Bm ws ss os) (n10 : n ≤ 10) (k10 : k ≤ 10) {x v : Int32} {P : Int32 → St → Prop} (ho : ¬ ((∃ s, 1 ≤ s ∧ s < 2 ^ n ∧ x = nI s) ∧ 0 ≤ v.toInt ∧ v.toInt ≤ 100000) → P (-102) τ) (hP : (∃ s, 1 ≤ s ∧ s < 2 ^ n ∧ x = nI s) ∧ 0 ≤ v.toInt ∧ v.toInt ≤ 100000 → (¬ k = 10 → ∀ τ16, gI τ16 1 = nI (k + 1) → (∀ i, i ≠ 1 → gI τ16 i = gI τ i) → (∀ i y, gA τ16 i y = if i = 3 ∧ y = k then 0 else if i = 2 ∧ y = k then 1 else if i = 1 ∧ y = k then v else if i = 0 ∧ y = k then x else gA τ i y) → P (nI k) τ16) ∧ (k = 10 → P (-104) τ)) : wp_X7_way x v τ P := by
  have i10 : (10 : Int32) = nI 10 := rfl
  unfold wp_X7_way
  refine noSet_wp FM.1 n10 (show (1 : Int32) = nI 1 from rfl) (by decide) (fun z => ⟨fun _ => ho (fun y => z y.1), fun y => absurd y (by decide)⟩) (fun t t1 t2 t3 => ⟨fun z => absurd rfl z, fun _ => inSum_wp (fun z => ⟨fun y => absurd rfl y, fun _ => ho (fun y => z y.2)⟩) (fun hv => ⟨fun _ => ?_, fun z => absurd z (by decide)⟩)⟩)
  have hP := hP ⟨⟨t, t1, t2, t3⟩, hv⟩
  rw [FM.2.1, i10, nI_eq (by omega) (by decide), nI_clamp (by omega)]
  refine ⟨fun q => ⟨idx10 (by omega), fun σ8 e8 => ?_⟩, hP.2⟩
  have g8 : gI σ8 1 = nI k := by rw [e8, gI_sA]; exact FM.2.1
  rw [g8, nI_clamp (by omega)]
  refine ⟨idx10 (by omega), fun σ10 e10 => ?_⟩
  have g10 : gI σ10 1 = nI k := by rw [e10, gI_sA]; exact g8
  rw [g10, nI_clamp (by omega)]
  refine ⟨idx10 (by omega), fun σ12 e12 => ?_⟩
  have g12 : gI σ12 1 = nI k := by rw [e12, gI_sA]; exact g10
  rw [g12, nI_clamp (by omega)]
  refine ⟨idx10 (by omega), fun σ14 e14 σ16 e16 => ?_⟩
  have g14 : gI σ14 1 = nI k := by rw [e14, gI_sA]; exact g12
  have g16 : gI σ16 1 = nI (k + 1) := by rw [e16, gI_sI, if_pos rfl, g14, nI_1]
  rw [g16, nI_pred]
  refine hP.1 q σ16 g16 (fun i hi => ?_) (fun i y => ?_)
  · rw [e16, gI_sI, if_neg hi, e14, gI_sA, e12, gI_sA, e10, gI_sA, e8, gI_sA]
  · rw [e16, gA_sI, e14, gA_sA, e12, gA_sA, e10, gA_sA, e8, gA_sA]
theorem way_step {x v : Int32} (h : InvE σ τ) : wp_X6_way x v σ (fun r1 σ1 => wp_X7_way x v τ (fun r2 τ1 => r1 = r2 ∧ InvE σ1 τ1)) := by
  have h0 := h
  obtain ⟨n, k, o, M, Bm, ws, ss, os, F, FM, G, C, L⟩ := h
  have n10 := G.1.2.1
  have k10 := G.1.2.2.1
  have i10 : (10 : Int32) = nI 10 := rfl
  unfold wp_X6_way
  refine isFill_wp F.1.1 n10 (fun q => ⟨fun _ => wayM_wp FM n10 k10 (fun _ => ⟨rfl, h0⟩) (fun z => absurd z.1 q), fun z => absurd rfl z⟩) (fun t t1 t2 t3 => ⟨fun z => absurd z (by decide), fun _ => isSum_wp (fun q => ⟨fun z => absurd rfl z, fun _ => wayM_wp FM n10 k10 (fun _ => ⟨rfl, h0⟩) (fun z => absurd z.2 q)⟩) (fun hv => ⟨fun _ => ?_, fun z => absurd z (by decide)⟩)⟩)
  have ok : (∃ s, 1 ≤ s ∧ s < 2 ^ n ∧ x = nI s) ∧ 0 ≤ v.toInt ∧ v.toInt ≤ 100000 := ⟨⟨t, t1, t2, t3⟩, hv⟩
  have mod : ∀ {P : Int32 → St → Prop}, ((¬ k = 10 → ∀ τ16, gI τ16 1 = nI (k + 1) → (∀ i, i ≠ 1 → gI τ16 i = gI τ i) → (∀ i y, gA τ16 i y = if i = 3 ∧ y = k then 0 else if i = 2 ∧ y = k then 1 else if i = 1 ∧ y = k then v else if i = 0 ∧ y = k then x else gA τ i y) → P (nI k) τ16) ∧ (k = 10 → P (-104) τ)) → wp_X7_way x v τ P := fun hP => wayM_wp FM n10 k10 (fun z => absurd ok z) (fun _ => hP)
  rw [F.1.2.1, i10, nI_ltI (by omega) (by decide)]
  refine ⟨fun q => ?_, fun q => mod ⟨fun z => absurd (show k = 10 by omega) z, fun _ => ⟨rfl, h0⟩⟩⟩
  refine forget_wp (fun σ9 gi g10 g13 ga => ?_)
  unfold wp_X2_addWay
  intro v1 hv1
  have ev1 : v1 = nI k := by rw [hv1, gi 1 (by decide) (by decide)]; exact F.1.2.1
  rw [ev1, nI_clamp (by omega)]
  refine ⟨idx10 (by omega), fun σ3 e3 => ⟨idx10 (by omega), fun σ5 e5 => ?_⟩⟩
  have m5 : gI σ5 3 = nI M := by rw [e5, gI_sA, e3, gI_sA, gi 3 (by decide) (by decide)]; exact F.2.2.1
  rw [m5]
  refine withBit_wp (by omega) (fun σ7 e7 => ?_)
  have b7 : gI σ7 4 = nI Bm := by rw [e7, gI_sI, if_neg (by decide), e5, gI_sA, e3, gI_sA, gi 4 (by decide) (by decide)]; exact F.2.2.2.1
  rw [b7]
  refine withBit_wp (by omega) (fun σ13 e13 σ15 e15 => mod ⟨fun _ τ16 t1' t2' t3' => ⟨rfl, ?_⟩, fun z => absurd z (by omega)⟩)
  have gI15 : ∀ i, i ≠ 10 → i ≠ 13 → gI σ15 i = if i = 1 then nI (k + 1) else if i = 4 then nI (mb Bm k 0) else if i = 3 then nI (mb M k 1) else gI σ i := fun i a b => by
    have s1 : gI σ13 1 = nI k := by rw [e13, gI_sI, if_neg (by decide), e7, gI_sI, if_neg (by decide), e5, gI_sA, e3, gI_sA, gi 1 (by decide) (by decide)]; exact F.1.2.1
    rw [e15, gI_sI, s1, nI_1, e13, gI_sI, e7, gI_sI, e5, gI_sA, e3, gI_sA, gi i a b]
  have gA15 : ∀ i y, gA σ15 i y = if i = 1 ∧ y = k then v else if i = 0 ∧ y = k then x else gA σ i y := fun i y => by
    rw [e15, gA_sI, e13, gA_sI, e7, gA_sI, e5, gA_sA, e3, gA_sA, ga]
  have g1510 : gI σ15 10 = -1 := by rw [e15, gI_sI, if_neg (by decide), e13, gI_sI, if_neg (by decide), e7, gI_sI, if_neg (by decide), e5, gI_sA, e3, gI_sA]; exact g10
  have g1513 : gI σ15 13 = 0 := by rw [e15, gI_sI, if_neg (by decide), e13, gI_sI, if_neg (by decide), e7, gI_sI, if_neg (by decide), e5, gI_sA, e3, gI_sA]; exact g13
  have ev := nI_ofI (x := v) hv.1
  obtain ⟨⟨c1, c2, c3, c4⟩, c5, c6, c7, c8⟩ := F
  obtain ⟨a1, a2, a3, a4, a5, a6, a7, a8⟩ := FM
  have up2 : 2 ^ k ≤ 2 ^ (k + 1) := Nat.pow_le_pow_right (by decide) (by omega)
  have M1 := G.2.2.1
  have B1 := G.2.2.2.1
  refine ⟨n, k + 1, o, mb M k 1, mb Bm k 0, upN ws k t, upN ss k v.toInt.toNat, os, ⟨⟨by rw [gI15 0 (by decide) (by decide)]; exact c1, by rw [gI15 1 (by decide) (by decide)]; rfl, fun w hw => ?_, fun w hw => ?_⟩, by rw [gI15 2 (by decide) (by decide)]; exact c5, by rw [gI15 3 (by decide) (by decide)]; rfl, by rw [gI15 4 (by decide) (by decide)]; rfl, fun i hi => ?_⟩, ⟨by rw [t2' 0 (by decide)]; exact a1, t1', by rw [t2' 2 (by decide)]; exact a3, fun w hw => ?_, fun w hw => ?_, fun w hw => ?_, fun w hw => ?_, fun w hw => ?_⟩, ⟨⟨G.1.1, n10, by omega, fun w hw => ?_, fun w hw => ?_⟩, G.2.1, mb_lt bz_1 (by omega) (by omega), mb_lt bz_0 (by omega) (by omega), G.2.2.2.2⟩, cache_fg (by omega) g1510, li_fg g1513⟩
  · rw [gA15, if_neg (fun z => absurd z.1 (by decide))]
    by_cases q2 : w = k
    · rw [if_pos ⟨rfl, q2⟩, q2, upN_s]; exact t3
    · rw [if_neg (fun z => q2 z.2), upN_n _ _ q2]; exact c3 w (by omega)
  · rw [gA15]
    by_cases q2 : w = k
    · rw [if_pos ⟨rfl, q2⟩, q2, upN_s]; exact ev
    · rw [if_neg (fun z => q2 z.2), if_neg (fun z => absurd z.1 (by decide)), upN_n _ _ q2]; exact c4 w (by omega)
  · rw [gA15, if_neg (fun z => absurd z.1 (by decide)), if_neg (fun z => absurd z.1 (by decide))]; exact c8 i hi
  · rw [t3', if_neg (fun z => absurd z.1 (by decide)), if_neg (fun z => absurd z.1 (by decide)), if_neg (fun z => absurd z.1 (by decide))]
    by_cases q2 : w = k
    · rw [if_pos ⟨rfl, q2⟩, q2, upN_s]; exact t3
    · rw [if_neg (fun z => q2 z.2), upN_n _ _ q2]; exact a4 w (by omega)
  · rw [t3', if_neg (fun z => absurd z.1 (by decide)), if_neg (fun z => absurd z.1 (by decide))]
    by_cases q2 : w = k
    · rw [if_pos ⟨rfl, q2⟩, q2, upN_s]; exact ev
    · rw [if_neg (fun z => q2 z.2), if_neg (fun z => absurd z.1 (by decide)), upN_n _ _ q2]; exact a5 w (by omega)
  · rw [t3', if_neg (fun z => absurd z.1 (by decide))]
    by_cases q2 : w = k
    · rw [if_pos ⟨rfl, q2⟩, q2]; exact (mb_at bz_1).symm
    · rw [if_neg (fun z => q2 z.2), if_neg (fun z => absurd z.1 (by decide)), if_neg (fun z => absurd z.1 (by decide)), mb_ne bz_1 q2]; exact a6 w (by omega)
  · rw [t3']
    by_cases q2 : w = k
    · rw [if_pos ⟨rfl, q2⟩, q2]; exact (mb_at bz_0).symm
    · rw [if_neg (fun z => q2 z.2), if_neg (fun z => absurd z.1 (by decide)), if_neg (fun z => absurd z.1 (by decide)), if_neg (fun z => absurd z.1 (by decide)), mb_ne bz_0 q2]; exact a7 w (by omega)
  · rw [t3', if_neg (fun z => absurd z.1 (by decide)), if_neg (fun z => absurd z.1 (by decide)), if_neg (fun z => absurd z.1 (by decide)), if_neg (fun z => absurd z.1 (by decide))]; exact a8 w hw
  · by_cases q2 : w = k
    · rw [q2, upN_s]; exact ⟨t1, t2⟩
    · rw [upN_n _ _ q2]; exact G.1.2.2.2.1 w (by omega)
  · by_cases q2 : w = k
    · rw [q2, upN_s]; omega
    · rw [upN_n _ _ q2]; exact G.1.2.2.2.2 w (by omega)
theorem on_step {x z : Int32} (hz : bz z) (h : InvE σ τ) : wp_X6_on x z σ (fun r1 σ1 => wp_X7_on x z τ (fun r2 τ1 => r1 = r2 ∧ InvE σ1 τ1)) := by
  have h0 := h
  obtain ⟨n, k, o, M, Bm, ws, ss, os, F, FM, G, C, L⟩ := h
  have k10 := G.1.2.2.1
  unfold wp_X6_on wp_X7_on
  refine hasWay_wp F.1.2.1 k10 (fun q => ⟨fun y => absurd rfl y, fun _ => noWay_wp FM.2.1 k10 (fun _ => ⟨fun y => absurd y (by decide), fun _ => ⟨rfl, h0⟩⟩) (fun s hs e => absurd ⟨s, hs, e⟩ q)⟩) (fun s hs e => ⟨fun _ => ?_, fun y => absurd y (by decide)⟩)
  rw [e, F.2.2.1, nI_clamp (show s < 2 ^ 31 by omega)]
  refine bitOf_wp (m31 G.2.2.1 k10) (by omega) ?_
  rw [F.2.2.1]
  refine withBit_wp (by omega) (fun σ8 e8 => forget_wp (fun σ11 gi g10 g13 ga => noWay_wp FM.2.1 k10 (fun y => absurd ⟨s, hs, rfl⟩ y) (fun _ _ _ => ⟨fun _ => ⟨idx10 (by omega), ?_⟩, fun y => absurd rfl y⟩)))
  have fin : ∀ τ5, τ5 = sA τ 2 s z → InvE σ11 τ5 := fun τ5 f5 => by
    have ta : ∀ i y, gA τ5 i y = if i = 2 ∧ y = s then z else gA τ i y := fun i y => by rw [f5, gA_sA]
    have ti : ∀ i, gI τ5 i = gI τ i := fun i => by rw [f5, gI_sA]
    have g8 : ∀ i, i ≠ 10 → i ≠ 13 → gI σ11 i = if i = 3 then nI (mb M s z) else gI σ i := fun i a b => by rw [gi i a b, e8, gI_sI]
    have g8a : ∀ i, gA σ11 i = gA σ i := fun i => by rw [ga i, e8, gA_sI]
    obtain ⟨⟨c1, c2, c3, c4⟩, c5, c6, c7, c8⟩ := F
    obtain ⟨a1, a2, a3, a4, a5, a6, a7, a8⟩ := FM
    refine ⟨n, k, o, mb M s z, Bm, ws, ss, os, ⟨⟨by rw [g8 0 (by decide) (by decide)]; exact c1, by rw [g8 1 (by decide) (by decide)]; exact c2, fun w hw => by rw [g8a]; exact c3 w hw, fun w hw => by rw [g8a]; exact c4 w hw⟩, by rw [g8 2 (by decide) (by decide)]; exact c5, by rw [g8 3 (by decide) (by decide)]; rfl, by rw [g8 4 (by decide) (by decide)]; exact c7, fun i hi => by rw [g8a]; exact c8 i hi⟩, ⟨by rw [ti]; exact a1, by rw [ti]; exact a2, by rw [ti]; exact a3, fun w hw => ?_, fun w hw => ?_, fun w hw => ?_, fun w hw => ?_, fun w hw => ?_⟩, ⟨G.1, G.2.1, mb_lt hz G.2.2.1 hs, G.2.2.2⟩, cache_fg k10 g10, li_fg g13⟩
    · rw [ta, if_neg (fun y => absurd y.1 (by decide))]; exact a4 w hw
    · rw [ta, if_neg (fun y => absurd y.1 (by decide))]; exact a5 w hw
    · rw [ta]
      by_cases q : w = s
      · rw [if_pos ⟨rfl, q⟩, q]; exact (mb_at hz).symm
      · rw [if_neg (fun y => q y.2), mb_ne hz q]; exact a6 w hw
    · rw [ta, if_neg (fun y => absurd y.1 (by decide))]; exact a7 w hw
    · rw [ta, if_neg (fun y => absurd y.1 (by decide))]; exact a8 w hw
  rw [FM.2.2.2.2.2.1 s hs]
  refine ⟨fun q => ⟨idx10 (by omega), hz, fun τ5 f5 => ⟨q, fin τ5 f5⟩⟩, fun q => ⟨idx10 (by omega), hz, fun τ5 f5 => ⟨?_, fin τ5 f5⟩⟩⟩
  rw [(bit_ne0 _).mp q]; rfl
theorem bad_step {x z : Int32} (hz : bz z) (h : InvE σ τ) : wp_X6_bad x z σ (fun r1 σ1 => wp_X7_bad x z τ (fun r2 τ1 => r1 = r2 ∧ InvE σ1 τ1)) := by
  have h0 := h
  obtain ⟨n, k, o, M, Bm, ws, ss, os, F, FM, G, C, L⟩ := h
  have k10 := G.1.2.2.1
  unfold wp_X6_bad wp_X7_bad
  refine hasWay_wp F.1.2.1 k10 (fun q => ⟨fun y => absurd rfl y, fun _ => noWay_wp FM.2.1 k10 (fun _ => ⟨fun y => absurd y (by decide), fun _ => ⟨rfl, h0⟩⟩) (fun s hs e => absurd ⟨s, hs, e⟩ q)⟩) (fun s hs e => ⟨fun _ => ?_, fun y => absurd y (by decide)⟩)
  rw [e, F.2.2.2.1, nI_clamp (show s < 2 ^ 31 by omega)]
  refine bitOf_wp (m31 G.2.2.2.1 k10) (by omega) ?_
  rw [F.2.2.2.1]
  refine withBit_wp (by omega) (fun σ8 e8 => noWay_wp FM.2.1 k10 (fun y => absurd ⟨s, hs, rfl⟩ y) (fun _ _ _ => ⟨fun _ => ⟨idx10 (by omega), ?_⟩, fun y => absurd rfl y⟩))
  have fin : ∀ τ5, τ5 = sA τ 3 s z → InvE σ8 τ5 := fun τ5 f5 => by
    have ta : ∀ i y, gA τ5 i y = if i = 3 ∧ y = s then z else gA τ i y := fun i y => by rw [f5, gA_sA]
    have ti : ∀ i, gI τ5 i = gI τ i := fun i => by rw [f5, gI_sA]
    have g8 : ∀ i, gI σ8 i = if i = 4 then nI (mb Bm s z) else gI σ i := fun i => by rw [e8, gI_sI]
    have g8a : ∀ i, gA σ8 i = gA σ i := fun i => by rw [e8, gA_sI]
    obtain ⟨⟨c1, c2, c3, c4⟩, c5, c6, c7, c8⟩ := F
    obtain ⟨a1, a2, a3, a4, a5, a6, a7, a8⟩ := FM
    have dl : ∀ W, DelOK σ n ws ss W → DelOK σ8 n ws ss W := fun W hd => by
      rcases hd with ⟨h1, S, lc, sc, br, Y, hS, hI, H⟩ | ⟨h1, h2, cl, d1, d2, d3⟩
      · refine Or.inl ⟨by rw [g8]; exact h1, S, lc, sc, br, Y, hS, hI, ?_⟩
        obtain ⟨b6, b7, b8, b9, b5, bd, bho, blc, bT⟩ := H
        refine ⟨by rw [g8]; exact b6, by rw [g8]; exact b7, by rw [g8]; exact b8, by rw [g8]; exact b9, by rw [g8]; exact b5, by rw [e8, gL_sI]; exact bd, fun s hs => by rw [g8a]; exact bho s hs, fun j hj => by rw [g8a]; exact blc j hj, fun s j hs hj => by rw [e8, gB_sI]; exact bT s j hs hj⟩
      · exact Or.inr ⟨by rw [g8]; exact h1, h2, cl, by rw [g8]; exact d1, d2, d3⟩
    refine ⟨n, k, o, M, mb Bm s z, ws, ss, os, ⟨⟨by rw [g8]; exact c1, by rw [g8]; exact c2, fun w hw => by rw [g8a]; exact c3 w hw, fun w hw => by rw [g8a]; exact c4 w hw⟩, by rw [g8]; exact c5, by rw [g8]; exact c6, by rw [g8]; rfl, fun i hi => by rw [g8a]; exact c8 i hi⟩, ⟨by rw [ti]; exact a1, by rw [ti]; exact a2, by rw [ti]; exact a3, fun w hw => ?_, fun w hw => ?_, fun w hw => ?_, fun w hw => ?_, fun w hw => ?_⟩, ⟨G.1, G.2.1, G.2.2.1, mb_lt hz G.2.2.2.1 hs, G.2.2.2.2⟩, fun W hW h10 => dl W (C W hW (by rw [← h10, g8]; rfl)), fun y => ?_⟩
    · rw [ta, if_neg (fun y => absurd y.1 (by decide))]; exact a4 w hw
    · rw [ta, if_neg (fun y => absurd y.1 (by decide))]; exact a5 w hw
    · rw [ta, if_neg (fun y => absurd y.1 (by decide))]; exact a6 w hw
    · rw [ta]
      by_cases q : w = s
      · rw [if_pos ⟨rfl, q⟩, q]; exact (mb_at hz).symm
      · rw [if_neg (fun y => q y.2), mb_ne hz q]; exact a7 w hw
    · rw [ta, if_neg (fun y => absurd y.1 (by decide))]; exact a8 w hw
    · rw [g8a, g8]
      refine L (fun w => y ?_)
      rw [g8]; exact w
  rw [FM.2.2.2.2.2.2.1 s hs]
  refine ⟨fun q => ⟨idx10 (by omega), hz, fun τ5 f5 => ⟨q, fin τ5 f5⟩⟩, fun q => ⟨idx10 (by omega), hz, fun τ5 f5 => ⟨?_, fin τ5 f5⟩⟩⟩
  rw [(bit_ne0 _).mp q]; rfl
theorem back_step (h : InvE σ τ) : wp_X6_back σ (fun r1 σ1 => wp_X7_back τ (fun r2 τ1 => r1 = r2 ∧ InvE σ1 τ1)) := by
  have h0 := h
  obtain ⟨n, k, o, M, Bm, ws, ss, os, F, FM, G, C, L⟩ := h
  have k10 := G.1.2.2.1
  have ek : nI k = 0 ↔ k = 0 := by rw [← nI_0]; exact nI_eq (by omega) (by decide)
  unfold wp_X6_back wp_X7_back
  rw [F.1.2.1, FM.2.1, ek]
  refine ⟨fun q => ?_, fun q => ⟨fun z => absurd q z, fun _ => ⟨rfl, h0⟩⟩⟩
  obtain ⟨k', rfl⟩ : ∃ k', k = k' + 1 := ⟨k - 1, by omega⟩
  unfold wp_X2_dropLastWay
  intro σ1 e1
  rw [F.1.2.1, nI_pred] at e1
  have g1 : ∀ i, gI σ1 i = if i = 1 then nI k' else gI σ i := fun i => by rw [e1, gI_sI]
  have m1 : gI σ1 3 = nI M := by rw [g1]; exact F.2.2.1
  have w1 : gI σ1 1 = nI k' := by rw [g1]; rfl
  rw [m1, w1]
  refine withBit_wp (by omega) (fun σ5 e5 => ?_)
  have g5 : ∀ i, gI σ5 i = if i = 3 then nI (mb M k' 0) else gI σ1 i := fun i => by rw [e5, gI_sI]
  have b5 : gI σ5 4 = nI Bm := by rw [g5, if_neg (by decide), g1]; exact F.2.2.2.1
  have w5 : gI σ5 1 = nI k' := by rw [g5, if_neg (by decide)]; exact w1
  rw [b5, w5]
  refine withBit_wp (by omega) (fun σ9 e9 => forget_wp (fun σ12 gi g10 g13 ga => ⟨fun _ τ2 f2 => ?_, fun z => absurd z q⟩))
  rw [nI_pred] at f2
  have g9 : ∀ i, i ≠ 10 → i ≠ 13 → gI σ12 i = if i = 4 then nI (mb Bm k' 0) else if i = 3 then nI (mb M k' 0) else if i = 1 then nI k' else gI σ i := fun i a b => by rw [gi i a b, e9, gI_sI, g5, g1]
  have gA9 : ∀ i, gA σ12 i = gA σ i := fun i => by rw [ga, e9, gA_sI, e5, gA_sI, e1, gA_sI]
  have t2 : ∀ i, gI τ2 i = if i = 1 then nI k' else gI τ i := fun i => by rw [f2, gI_sI]
  have tA : ∀ i, gA τ2 i = gA τ i := fun i => by rw [f2, gA_sI]
  refine ⟨by rw [g9 1 (by decide) (by decide), t2]; rfl, ?_⟩
  obtain ⟨⟨c1, c2, c3, c4⟩, c5, c6, c7, c8⟩ := F
  obtain ⟨a1, a2, a3, a4, a5, a6, a7, a8⟩ := FM
  have lt : ∀ A, A < 2 ^ (k' + 1) → mb A k' 0 < 2 ^ k' := fun A hA => lt_of_bits (fun i hi => by
    by_cases z : i = k'
    · rw [mb_bit bz_0, if_pos z, dcb_no (by decide)]
    · rw [mb_ne bz_0 z]; exact bits_of_lt hA (by omega))
  refine ⟨n, k', o, mb M k' 0, mb Bm k' 0, ws, ss, os, ⟨⟨by rw [g9 0 (by decide) (by decide)]; exact c1, by rw [g9 1 (by decide) (by decide)]; rfl, fun w hw => by rw [gA9]; exact c3 w (by omega), fun w hw => by rw [gA9]; exact c4 w (by omega)⟩, by rw [g9 2 (by decide) (by decide)]; exact c5, by rw [g9 3 (by decide) (by decide)]; rfl, by rw [g9 4 (by decide) (by decide)]; rfl, fun i hi => by rw [gA9]; exact c8 i hi⟩, ⟨by rw [t2]; exact a1, by rw [t2]; rfl, by rw [t2]; exact a3, fun w hw => by rw [tA]; exact a4 w (by omega), fun w hw => by rw [tA]; exact a5 w (by omega), fun w hw => by rw [tA, mb_ne bz_0 (by omega)]; exact a6 w (by omega), fun w hw => by rw [tA, mb_ne bz_0 (by omega)]; exact a7 w (by omega), fun w hw => by rw [tA]; exact a8 w hw⟩, ⟨⟨G.1.1, G.1.2.1, by omega, fun w hw => G.1.2.2.2.1 w (by omega), fun w hw => G.1.2.2.2.2 w (by omega)⟩, G.2.1, lt M G.2.2.1, lt Bm G.2.2.2.1, G.2.2.2.2⟩, cache_fg (by omega) g10, li_fg g13⟩
theorem toldM_wp {n k o M Bm : Nat} {ws ss os : Nat → Nat} (FM : NetM τ n k o M Bm ws ss os) (k10 : k ≤ 10) {x v : Int32} {P : Int32 → St → Prop} (ho : (¬ ∃ s, s < k ∧ x = nI s) → P (-101) τ) (hP : ∀ s, s < k → x = nI s → (v = 0 → P (nI (ws s)) τ) ∧ (v = 1 → P (nI (ss s)) τ) ∧ (v = 2 → P (if M.testBit s then 1 else 0) τ) ∧ (v = 3 → P (if Bm.testBit s then 1 else 0) τ) ∧ (¬ v = 0 → ¬ v = 1 → ¬ v = 2 → ¬ v = 3 → P (-102) τ)) : wp_X7_told x v τ P := by
  unfold wp_X7_told
  refine noWay_wp FM.2.1 k10 (fun y => ⟨fun z => absurd z (by decide), fun _ => ho y⟩) (fun s hs e => ⟨fun _ => ?_, fun y => absurd rfl y⟩)
  have hP := hP s hs e
  rw [e, nI_clamp (show s < 2 ^ 31 by omega), FM.2.2.2.1 s hs, FM.2.2.2.2.1 s hs, FM.2.2.2.2.2.1 s hs, FM.2.2.2.2.2.2.1 s hs]
  refine ⟨fun y => ⟨idx10 (by omega), hP.1 y⟩, fun y => ⟨idx10 (by omega), hP.2.1 y⟩, fun y => ⟨idx10 (by omega), fun w => ?_, fun w => ?_⟩, fun y => ⟨idx10 (by omega), fun w => ?_, fun w => ?_⟩, hP.2.2.2.2⟩
  · have := hP.2.2.1 y; rw [w] at this; exact this
  · have := hP.2.2.1 y; rw [(bit_ne0 _).mp w] at this; exact this
  · have := hP.2.2.2.1 y; rw [w] at this; exact this
  · have := hP.2.2.2.1 y; rw [(bit_ne0 _).mp w] at this; exact this
theorem told_step {x v : Int32} (h : InvE σ τ) : wp_X6_told x v σ (fun r1 σ1 => wp_X7_told x v τ (fun r2 τ1 => r1 = r2 ∧ InvE σ1 τ1)) := by
  have h0 := h
  obtain ⟨n, k, o, M, Bm, ws, ss, os, F, FM, G, C, L⟩ := h
  have k10 := G.1.2.2.1
  unfold wp_X6_told
  refine hasWay_wp F.1.2.1 k10 (fun q => ⟨fun y => absurd rfl y, fun _ => toldM_wp FM k10 (fun _ => ⟨rfl, h0⟩) (fun s hs e => absurd ⟨s, hs, e⟩ q)⟩) (fun s hs e => ⟨fun _ => ?_, fun y => absurd y (by decide)⟩)
  have mod : ∀ (r : Int32), ((v = 0 → r = nI (ws s)) ∧ (v = 1 → r = nI (ss s)) ∧ (v = 2 → r = if M.testBit s then 1 else 0) ∧ (v = 3 → r = if Bm.testBit s then 1 else 0) ∧ (¬ v = 0 → ¬ v = 1 → ¬ v = 2 → ¬ v = 3 → r = -102)) → wp_X7_told x v τ (fun r2 τ1 => r = r2 ∧ InvE σ τ1) := fun r hr => toldM_wp FM k10 (fun y => absurd ⟨s, hs, e⟩ y) (fun s2 hs2 e2 => by
    have es : s2 = s := (nI_eq (by omega) (by omega)).mp (e2.symm.trans e)
    rw [es]
    exact ⟨fun y => ⟨hr.1 y, h0⟩, fun y => ⟨hr.2.1 y, h0⟩, fun y => ⟨hr.2.2.1 y, h0⟩, fun y => ⟨hr.2.2.2.1 y, h0⟩, fun a b c d => ⟨hr.2.2.2.2 a b c d, h0⟩⟩)
  have arm : ∀ (c r : Int32), v = c → ((c = 0 → r = nI (ws s)) ∧ (c = 1 → r = nI (ss s)) ∧ (c = 2 → r = if M.testBit s then 1 else 0) ∧ (c = 3 → r = if Bm.testBit s then 1 else 0) ∧ (¬ c = 0 → ¬ c = 1 → ¬ c = 2 → ¬ c = 3 → r = -102)) → wp_X7_told x v τ (fun r2 τ1 => r = r2 ∧ InvE σ τ1) := fun c r ec hc => mod r (by rw [ec]; exact hc)
  have ecl : Int32.toNatClampNeg x = s := by rw [e]; exact nI_clamp (by omega)
  have ein : vp_in x 10 := by rw [e]; exact idx10 (by omega)
  refine ⟨fun y => ⟨ein, ?_⟩, fun y => ⟨ein, ?_⟩, fun y => ?_, fun y => ?_, fun c0 c1 c2 c3 => ?_⟩
  · rw [ecl, F.1.2.2.1 s hs]
    exact arm 0 _ y ⟨fun _ => rfl, fun w => absurd w (by decide), fun w => absurd w (by decide), fun w => absurd w (by decide), fun w => absurd rfl w⟩
  · rw [ecl, F.1.2.2.2 s hs]
    exact arm 1 _ y ⟨fun w => absurd w (by decide), fun _ => rfl, fun w => absurd w (by decide), fun w => absurd w (by decide), fun _ w => absurd rfl w⟩
  · rw [F.2.2.1]
    have := bitOf_wp (σ := σ) (m31 G.2.2.1 k10) (show s < 31 by omega) (post := fun r7 σ8 => wp_X7_told x v τ (fun r2 τ1 => r7 = r2 ∧ InvE σ8 τ1)) (arm 2 _ y ⟨fun w => absurd w (by decide), fun w => absurd w (by decide), fun _ => rfl, fun w => absurd w (by decide), fun _ _ w => absurd rfl w⟩)
    rw [← e] at this
    exact this
  · rw [F.2.2.2.1]
    have := bitOf_wp (σ := σ) (m31 G.2.2.2.1 k10) (show s < 31 by omega) (post := fun r7 σ8 => wp_X7_told x v τ (fun r2 τ1 => r7 = r2 ∧ InvE σ8 τ1)) (arm 3 _ y ⟨fun w => absurd w (by decide), fun w => absurd w (by decide), fun w => absurd w (by decide), fun _ => rfl, fun _ _ _ w => absurd rfl w⟩)
    rw [← e] at this
    exact this
  · exact mod _ ⟨fun y => absurd y c0, fun y => absurd y c1, fun y => absurd y c2, fun y => absurd y c3, fun _ _ _ _ => rfl⟩
theorem offer_step {x : Int32} (h : InvE σ τ) : wp_X6_offer x σ (fun r1 σ1 => wp_X7_offer x τ (fun r2 τ1 => r1 = r2 ∧ InvE σ1 τ1)) := by
  have h0 := h
  obtain ⟨n, k, o, M, Bm, ws, ss, os, F, FM, G, C, L⟩ := h
  have n10 := G.1.2.1
  have o10 := G.2.1
  have i10 : (10 : Int32) = nI 10 := rfl
  unfold wp_X6_offer wp_X7_offer
  refine isFill_wp F.1.1 n10 (fun q => ⟨fun z => absurd rfl z, fun _ => noSet_wp FM.1 n10 (show (1 : Int32) = nI 1 from rfl) (by decide) (fun _ => ⟨fun z => absurd z (by decide), fun _ => ⟨rfl, h0⟩⟩) (fun t t1 t2 t3 => absurd ⟨t, t1, t2, t3⟩ q)⟩) (fun t t1 t2 t3 => ⟨fun _ => ?_, fun z => absurd z (by decide)⟩)
  have e2 : gI σ 2 = nI o := F.2.1
  have f2 : gI τ 2 = nI o := FM.2.2.1
  have cl : gI σ 2 < 10 ↔ o < 10 := by rw [e2, i10]; exact nI_ltI (by omega) (by decide)
  have ce : gI τ 2 = 10 ↔ o = 10 := by rw [f2, i10]; exact nI_eq (by omega) (by decide)
  refine ⟨fun q => ?_, fun q => noSet_wp FM.1 n10 (show (1 : Int32) = nI 1 from rfl) (by decide) (fun z => absurd ⟨t, t1, t2, t3⟩ z) (fun _ _ _ _ => ⟨fun _ => ⟨fun z => absurd (ce.mpr (by have := mt cl.mpr q; omega)) z, fun _ => ⟨rfl, h0⟩⟩, fun z => absurd rfl z⟩)⟩
  have q := cl.mp q
  unfold wp_X2_addOffer
  intro v1 hv1
  have ev1 : v1 = nI o := hv1.trans e2
  rw [ev1, nI_clamp (by omega)]
  refine ⟨idx10 (by omega), fun σ3 e3 σ5 e5 => noSet_wp FM.1 n10 (show (1 : Int32) = nI 1 from rfl) (by decide) (fun z => absurd ⟨t, t1, t2, t3⟩ z) (fun _ _ _ _ => ⟨fun _ => ⟨fun _ => ?_, fun z => absurd (ce.mp z) (by omega)⟩, fun z => absurd rfl z⟩)⟩
  rw [f2, nI_clamp (by omega)]
  refine ⟨idx10 (by omega), fun τ5 f5 τ7 f7 => ?_⟩
  have s2 : gI σ3 2 = nI o := by rw [e3, gI_sA]; exact e2
  have s5 : gI τ5 2 = nI o := by rw [f5, gI_sA]; exact f2
  have gi : ∀ i, gI σ5 i = if i = 2 then nI (o + 1) else gI σ i := fun i => by rw [e5, gI_sI, s2, nI_1, e3, gI_sA]
  have ti : ∀ i, gI τ7 i = if i = 2 then nI (o + 1) else gI τ i := fun i => by rw [f7, gI_sI, s5, nI_1, f5, gI_sA]
  have ga : ∀ i y, gA σ5 i y = if i = 2 ∧ y = o then x else gA σ i y := fun i y => by rw [e5, gA_sI, e3, gA_sA]
  have ta : ∀ i y, gA τ7 i y = if i = 4 ∧ y = o then x else gA τ i y := fun i y => by rw [f7, gA_sI, f5, gA_sA]
  have gk : ∀ i, i ≠ 2 → gA σ5 i = gA σ i := fun i hi => funext (fun y => by rw [ga, if_neg (fun z => hi z.1)])
  refine ⟨by rw [ti, if_pos rfl, nI_pred], ?_⟩
  obtain ⟨⟨c1, c2, c3, c4⟩, c5, c6, c7, c8⟩ := F
  obtain ⟨a1, a2, a3, a4, a5, a6, a7, a8⟩ := FM
  have dl : ∀ W, DelOK σ n ws ss W → DelOK σ5 n ws ss W := fun W hd => by
    rcases hd with ⟨h1, S, lc, sc, br, Y, hS, hI, H⟩ | ⟨h1, h2, cl, d1, d2, d3⟩
    · refine Or.inl ⟨by rw [gi]; exact h1, S, lc, sc, br, Y, hS, hI, ?_⟩
      obtain ⟨b6, b7, b8, b9, b5, bd, bho, blc, bT⟩ := H
      refine ⟨by rw [gi]; exact b6, by rw [gi]; exact b7, by rw [gi]; exact b8, by rw [gi]; exact b9, by rw [gi]; exact b5, by rw [e5, gL_sI, e3, gL_sA]; exact bd, fun s hs => by rw [gk 3 (by decide)]; exact bho s hs, fun j hj => by rw [gk 5 (by decide)]; exact blc j hj, fun s j hs hj => by rw [e5, gB_sI, e3, gB_sA]; exact bT s j hs hj⟩
    · exact Or.inr ⟨by rw [gi]; exact h1, h2, cl, by rw [gi]; exact d1, d2, d3⟩
  refine ⟨n, k, o + 1, M, Bm, ws, ss, upN os o t, ⟨⟨by rw [gi]; exact c1, by rw [gi]; exact c2, fun w hw => by rw [gk 0 (by decide)]; exact c3 w hw, fun w hw => by rw [gk 1 (by decide)]; exact c4 w hw⟩, by rw [gi]; rfl, by rw [gi]; exact c6, by rw [gi]; exact c7, fun i hi => ?_⟩, ⟨by rw [ti]; exact a1, by rw [ti]; exact a2, by rw [ti]; rfl, fun w hw => ?_, fun w hw => ?_, fun w hw => ?_, fun w hw => ?_, fun w hw => ?_⟩, ⟨G.1, by omega, G.2.2.1, G.2.2.2.1, fun i hi => ?_⟩, fun W hW h10 => dl W (C W hW (by rw [← h10, gi]; rfl)), fun y => ?_⟩
  · rw [ga]
    by_cases z : i = o
    · rw [if_pos ⟨rfl, z⟩, z, upN_s]; exact t3
    · rw [if_neg (fun w => z w.2), upN_n _ _ z]; exact c8 i (by omega)
  · rw [ta, if_neg (fun y => absurd y.1 (by decide))]; exact a4 w hw
  · rw [ta, if_neg (fun y => absurd y.1 (by decide))]; exact a5 w hw
  · rw [ta, if_neg (fun y => absurd y.1 (by decide))]; exact a6 w hw
  · rw [ta, if_neg (fun y => absurd y.1 (by decide))]; exact a7 w hw
  · rw [ta]
    by_cases z : w = o
    · rw [if_pos ⟨rfl, z⟩, z, upN_s]; exact t3
    · rw [if_neg (fun y => z y.2), upN_n _ _ z]; exact a8 w (by omega)
  · by_cases z : i = o
    · rw [z, upN_s]; exact ⟨t1, t2⟩
    · rw [upN_n _ _ z]; exact G.2.2.2.2 i (by omega)
  · rw [gk 6 (by decide), gi]
    refine L (fun w => y ?_)
    rw [gi]; exact w
end ST2
