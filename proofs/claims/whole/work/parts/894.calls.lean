/-! ===== the invariant; each call keeps it and answers alike ===== -/
def InvE (σ τ : St) : Prop := ∃ (n k o M Bm : Nat) (ws ss os : Nat → Nat), NetF σ n k o M Bm ws ss os ∧ NetM τ n k o M Bm ws ss os ∧ NetG n k o M Bm ws ss os ∧ CacheD σ n k ws ss ∧ LiC σ n k M ws ss
theorem has_wp {σ : St} {g : Int32} {a : Nat} (hg : g = nI a) (ha : a ≤ 10) {x : Int32} {post : Int32 → St → Prop} (hno : (¬ ∃ s, s < a ∧ x = nI s) → post 0 σ) (hyes : ∀ s, s < a → x = nI s → post 1 σ) : (x < 0 → post 0 σ) ∧ (¬ x < 0 → (g ≤ x → post 0 σ) ∧ (¬ g ≤ x → post 1 σ)) := by
  rw [hg]
  rcases pk_ix x (show a < 2 ^ 31 by omega) with q | q | ⟨j, hj, q⟩
  · refine ⟨fun _ => hno (fun ⟨s, hs, e⟩ => ?_), fun z => absurd q z⟩
    rw [e] at q; exact nI_pos (by omega) q
  · refine ⟨fun _ => hno ?_, fun _ => ⟨fun _ => hno ?_, fun z => absurd q z⟩⟩
    · exact fun ⟨s, hs, e⟩ => by rw [e] at q; exact nI_ge hs (by omega) q
    · exact fun ⟨s, hs, e⟩ => by rw [e] at q; exact nI_ge hs (by omega) q
  · refine ⟨fun z => absurd z (by rw [q]; exact nI_pos (by omega)), fun _ => ⟨fun z => absurd z (by rw [q]; exact nI_ge hj (by omega)), fun _ => hyes j hj q⟩⟩
theorem hasWay_wp {σ : St} {a : Nat} (hg : gI σ 1 = nI a) (ha : a ≤ 10) {x : Int32} {post : Int32 → St → Prop} (hno : (¬ ∃ s, s < a ∧ x = nI s) → post 0 σ) (hyes : ∀ s, s < a → x = nI s → post 1 σ) : wp_X2_hasWay x σ post := has_wp hg ha hno hyes
theorem hasOffer_wp {σ : St} {a : Nat} (hg : gI σ 2 = nI a) (ha : a ≤ 10) {x : Int32} {post : Int32 → St → Prop} (hno : (¬ ∃ s, s < a ∧ x = nI s) → post 0 σ) (hyes : ∀ s, s < a → x = nI s → post 1 σ) : wp_X2_hasOffer x σ post := has_wp hg ha hno hyes
theorem isFill_wp {σ : St} {n : Nat} (h0 : gI σ 0 = nI n) (hn : n ≤ 10) {x : Int32} {post : Int32 → St → Prop} (hno : (¬ ∃ s, 1 ≤ s ∧ s < 2 ^ n ∧ x = nI s) → post 0 σ) (hyes : ∀ s, 1 ≤ s → s < 2 ^ n → x = nI s → post 1 σ) : wp_X2_isFilledLineSet x σ post := by
  unfold wp_X2_isFilledLineSet
  refine ⟨fun q => hno (fun ⟨s, s1, s2, s3⟩ => ?_), fun q => isSet_wp h0 hn (fun z => ⟨fun _ => hno (fun ⟨s, _, s2, s3⟩ => z ⟨s, s2, s3⟩), fun y => absurd rfl y⟩) (fun s hs e => ⟨fun y => absurd y (by decide), fun _ => hyes s ?_ hs e⟩)⟩
  · rw [s3] at q
    exact nI_ne0 (by omega) (m31 s2 hn) q
  · rcases Nat.eq_zero_or_pos s with z | z
    · rw [z, nI_0] at e; exact absurd e q
    · exact z
theorem isSum_wp {σ : St} {x : Int32} {post : Int32 → St → Prop} (hno : ¬ (0 ≤ x.toInt ∧ x.toInt ≤ 100000) → post 0 σ) (hyes : 0 ≤ x.toInt ∧ x.toInt ≤ 100000 → post 1 σ) : wp_X6_isSum x σ post := by
  have i1 : (100000 : Int32).toInt = 100000 := by decide
  unfold wp_X6_isSum
  rw [Int32.lt_iff_toInt_lt, Int32.lt_iff_toInt_lt, i1, show (0 : Int32).toInt = 0 from rfl]
  exact ⟨fun q => hno (by omega), fun q => ⟨fun z => hno (by omega), fun z => hyes (by omega)⟩⟩
theorem inSum_wp {σ : St} {x : Int32} {post : Int32 → St → Prop} (hno : ¬ (0 ≤ x.toInt ∧ x.toInt ≤ 100000) → post 0 σ) (hyes : 0 ≤ x.toInt ∧ x.toInt ≤ 100000 → post 1 σ) : wp_X7_in (Int32.toInt64 x) 0 100000 σ post := by
  have i1 : (100000 : Int64).toInt = 100000 := by decide
  refine in_wp (fun h1 h2 => hyes ?_) (fun h => hno (fun z => h ?_))
  · rw [Int32.toInt_toInt64, show (0 : Int64).toInt = 0 from rfl] at h1
    rw [Int32.toInt_toInt64, i1] at h2
    exact ⟨h1, h2⟩
  · rw [Int32.toInt_toInt64, show (0 : Int64).toInt = 0 from rfl, i1]; exact z
theorem nI_ofI {x : Int32} (h : 0 ≤ x.toInt) : x = nI x.toInt.toNat := by
  have := (fb_rng x).2
  refine Int32.toInt_inj.mp ?_
  rw [nI_toInt (by omega)]
  omega
theorem forget_wp {σ : St} {post : St → Prop} (hp : ∀ τ, (∀ i, i ≠ 10 → i ≠ 13 → gI τ i = gI σ i) → gI τ 10 = -1 → gI τ 13 = 0 → (∀ i, gA τ i = gA σ i) → post τ) : wp_X6_forgetAnswers σ post := by
  unfold wp_X6_forgetAnswers wp_X0_forget
  intro σ1 e1
  unfold wp_X1_forget
  intro σ2 e2
  refine hp σ2 (fun i a b => ?_) ?_ ?_ (fun i => ?_)
  · rw [e2, gI_sI, if_neg b, e1, gI_sI, if_neg a]
  · rw [e2, gI_sI, if_neg (by decide), e1, gI_sI, if_pos rfl]
  · rw [e2, gI_sI, if_pos rfl]
  · rw [e2, gA_sI, e1, gA_sI]
/-- a set with one bit set or cleared -/
def mb (s w : Nat) (z : Int32) : Nat := if z = 0 then wo s (2 ^ w) else s ||| 2 ^ w
theorem mb_bit {s w : Nat} {z : Int32} (hz : bz z) (j : Nat) : (mb s w z).testBit j = if j = w then dcb (z = 1) else s.testBit j := by
  unfold mb
  rcases hz with e | e
  · rw [if_pos e, wo_bit, Nat.testBit_two_pow]
    by_cases q : j = w
    · rw [if_pos q, decide_eq_true q.symm, dcb_no (by rw [e]; decide)]; simp
    · rw [if_neg q, decide_eq_false (fun y => q y.symm)]; simp
  · rw [if_neg (by rw [e]; decide), Nat.testBit_or, Nat.testBit_two_pow]
    by_cases q : j = w
    · rw [if_pos q, decide_eq_true q.symm, (dcb_iff _).mpr e]; simp
    · rw [if_neg q, decide_eq_false (fun y => q y.symm)]; simp
theorem mb_lt {s w k : Nat} {z : Int32} (hz : bz z) (h : s < 2 ^ k) (hw : w < k) : mb s w z < 2 ^ k := lt_of_bits (fun i hi => by rw [mb_bit hz, if_neg (by omega)]; exact bits_of_lt h hi)
theorem mb_at {s w : Nat} {z : Int32} (hz : bz z) : (if (mb s w z).testBit w then (1 : Int32) else 0) = z := by
  rw [mb_bit hz, if_pos rfl]
  rcases hz with e | e
  · rw [e, dcb_no (by decide)]; rfl
  · rw [e, (dcb_iff _).mpr rfl]; rfl
theorem mb_ne {s w j : Nat} {z : Int32} (hz : bz z) (h : j ≠ w) : (mb s w z).testBit j = s.testBit j := by rw [mb_bit hz, if_neg h]
theorem withBit_wp {σ : St} {s w : Nat} {z : Int32} (hw : w < 31) {post : Int32 → St → Prop} (h : post (nI (mb s w z)) σ) : wp_X6_withBit (nI s) (nI w) z σ post := by
  unfold wp_X6_withBit
  unfold mb at h
  rw [one_shl hw]
  refine ⟨fun q => ?_, fun q => ?_⟩
  · rw [if_pos q] at h
    have e : nI s &&& (nI (2 ^ w) ^^^ (-1)) = nI (wo s (2 ^ w)) := and_not s (2 ^ w)
    rw [e]; exact h
  · rw [if_neg q] at h
    rw [(and_or_bit _ _).2]; exact h
def upN (f : Nat → Nat) (i v : Nat) : Nat → Nat := fun j => if j = i then v else f j
theorem upN_s (f : Nat → Nat) (i v : Nat) : upN f i v i = v := if_pos rfl
theorem upN_n (f : Nat → Nat) {i j : Nat} (v : Nat) (h : j ≠ i) : upN f i v j = f j := if_neg h
section CLS
variable {n k o M Bm : Nat} {ws ss os : Nat → Nat}
theorem cache_fg {τ : St} (k10 : k ≤ 10) (h : gI τ 10 = -1) : CacheD τ n k ws ss := fun W hW e => by
  rw [h] at e
  have := nI_pos (m31 hW k10)
  rw [← e] at this
  exact absurd (by decide) this
theorem li_fg {τ : St} (h : gI τ 13 = 0) : LiC τ n k M ws ss := fun z => absurd h z
theorem inv_kp {σ τ σ1 τ1 : St} (F : NetF σ n k o M Bm ws ss os) (FM : NetM τ n k o M Bm ws ss os) (G : NetG n k o M Bm ws ss os) (L : LiC σ n k M ws ss) (kp : Kp σ σ1) (c : CacheD σ1 n k ws ss) (fm : FrM τ τ1) : InvE σ1 τ1 :=
  ⟨n, k, o, M, Bm, ws, ss, os, netF_fr F (fun i hi => kp.1 i (by omega)) (fun i hi => kp.2 i (by omega)), netM_fr FM fm, G, c, fun z => by
    rw [kp.2 6 (by omega), kp.1 14 (by omega)]
    exact L (by rw [← kp.1 13 (by omega)]; exact z)⟩
end CLS
section STP
variable {σ τ : St}
theorem count_step {x : Int32} (h : InvE σ τ) : wp_X6_count x σ (fun r1 σ1 => wp_X7_count x τ (fun r2 τ1 => r1 = r2 ∧ InvE σ1 τ1)) := by
  obtain ⟨n, k, o, M, Bm, ws, ss, os, F, FM, G, C, L⟩ := h
  exact countC_wp F G C (fun r1 σ1 h1 kp c => countM_wp FM G (fun r2 τ1 h2 hF => ⟨cntA_one h1 h2, inv_kp F FM G L kp c hF.m⟩))
theorem fits_step (h : InvE σ τ) : wp_X6_fits σ (fun r1 σ1 => wp_X7_fits τ (fun r2 τ1 => r1 = r2 ∧ InvE σ1 τ1)) := by
  obtain ⟨n, k, o, M, Bm, ws, ss, os, F, FM, G, C, L⟩ := h
  refine fits_wp F G C (fun r1 σ1 h1 fo c => fitsM_wp FM G (fun r2 τ1 h2 hF => ⟨?_, inv_kp F FM G L (Kp.fo fo) c hF.m⟩))
  rcases Classical.em (FitW n ws ss M) with q | q
  · rw [h1.1 q, h2.1 q]
  · rw [h1.2 q, h2.2 q]
theorem bound_step {x e w : Int32} (h : InvE σ τ) : wp_X6_bound x e w σ (fun r1 σ1 => wp_X7_bound x e w τ (fun r2 τ1 => r1 = r2 ∧ InvE σ1 τ1)) := by
  obtain ⟨n, k, o, M, Bm, ws, ss, os, F, FM, G, C, L⟩ := h
  exact bound_wp F G C (fun r1 σ1 h1 fo c => boundM_wp FM G (fun r2 τ1 h2 hF => ⟨bndA_one h1 h2, inv_kp F FM G L (Kp.fo fo) c hF.m⟩))
theorem shown_step {x e l w : Int32} (h : InvE σ τ) : wp_X6_shown x e l w σ (fun r1 σ1 => wp_X7_shown x e l w τ (fun r2 τ1 => r1 = r2 ∧ InvE σ1 τ1)) := by
  obtain ⟨n, k, o, M, Bm, ws, ss, os, F, FM, G, C, L⟩ := h
  exact shown_wp F G C (fun r1 σ1 h1 fo c => shownM_wp FM G (fun r2 τ1 h2 hF => ⟨shwA_one h1 h2, inv_kp F FM G L (Kp.fo fo) c hF.m⟩))
theorem settled_step {x : Int32} (h : InvE σ τ) : wp_X6_settled x σ (fun r1 σ1 => wp_X7_settled x τ (fun r2 τ1 => r1 = r2 ∧ InvE σ1 τ1)) := by
  obtain ⟨n, k, o, M, Bm, ws, ss, os, F, FM, G, C, L⟩ := h
  exact settled_wp F G C (fun r1 σ1 h1 fo c => settledM_wp FM G (fun r2 τ1 h2 hF => ⟨stlA_one h1 h2, inv_kp F FM G L (Kp.fo fo) c hF.m⟩))
theorem known_step {x : Int32} (h : InvE σ τ) : wp_X6_known x σ (fun r1 σ1 => wp_X7_known x τ (fun r2 τ1 => r1 = r2 ∧ InvE σ1 τ1)) := by
  obtain ⟨n, k, o, M, Bm, ws, ss, os, F, FM, G, C, L⟩ := h
  exact knownC_wp F G (fun r1 σ1 h1 fp => knownM_wp FM G (fun r2 τ1 h2 hF => ⟨knA_one h1 h2, inv_kp F FM G L (Kp.fp fp) (cache_p C fp) hF.m⟩))
theorem group_step {x : Int32} (h : InvE σ τ) : wp_X6_group x σ (fun r1 σ1 => wp_X7_group x τ (fun r2 τ1 => r1 = r2 ∧ InvE σ1 τ1)) := by
  have h0 := h
  obtain ⟨n, k, o, M, Bm, ws, ss, os, F, FM, G, C, L⟩ := h
  exact groupC_wp F G (fun r1 h1 => groupM_wp FM G (fun r2 h2 => ⟨grA_one h1 h2, h0⟩))
theorem lying_step {x : Int32} (h : InvE σ τ) : wp_X6_lying x σ (fun r1 σ1 => wp_X7_lying x τ (fun r2 τ1 => r1 = r2 ∧ InvE σ1 τ1)) := by
  obtain ⟨n, k, o, M, Bm, ws, ss, os, F, FM, G, C, L⟩ := h
  exact lyingC_wp F G C L (fun r1 σ1 h1 fy c l => lyingM_wp FM G (fun r2 τ1 h2 hF => ⟨ansL_one h1 h2, n, k, o, M, Bm, ws, ss, os, fy.net F, netM_fr FM hF, G, c, l⟩))
theorem advice_step {x : Int32} (h : InvE σ τ) : wp_X6_advice x σ (fun r1 σ1 => wp_X7_advice x τ (fun r2 τ1 => r1 = r2 ∧ InvE σ1 τ1)) := by
  obtain ⟨n, k, o, M, Bm, ws, ss, os, F, FM, G, C, L⟩ := h
  exact adviceC_wp F G (fun r1 σ1 h1 fp => adviceM_wp FM G (fun r2 τ1 h2 hF => ⟨adA_one h1 h2, inv_kp F FM G L (Kp.fp fp) (cache_p C fp) hF.m⟩))
theorem sick_step {x : Int32} (h : InvE σ τ) : wp_X6_sick x σ (fun r1 σ1 => wp_X7_sick x τ (fun r2 τ1 => r1 = r2 ∧ InvE σ1 τ1)) := by
  obtain ⟨n, k, o, M, Bm, ws, ss, os, F, FM, G, C, L⟩ := h
  exact sickC_wp F G (fun r1 σ1 h1 fk => sickM_wp FM G (fun r2 τ1 h2 hF => ⟨ansL_one h1 h2, inv_kp F FM G L (Kp.fk fk) (cache_k C fk) hF⟩))
theorem lines_step {x : Int32} (h : InvE σ τ) : wp_X6_lines x σ (fun r1 σ1 => wp_X7_lines x τ (fun r2 τ1 => r1 = r2 ∧ InvE σ1 τ1)) := by
  have h0 := h
  obtain ⟨n, k, o, M, Bm, ws, ss, os, F, FM, G, C, L⟩ := h
  have i1 : (1 : Int32).toInt = 1 := by decide
  have i10 : (10 : Int32).toInt = 10 := by decide
  have l1 : (1 : Int64).toInt = 1 := by decide
  have l10 : (10 : Int64).toInt = 10 := by decide
  have out : ¬ (1 ≤ x.toInt ∧ x.toInt ≤ 10) → wp_X7_lines x τ (fun r2 τ1 => (-102 : Int32) = r2 ∧ InvE σ τ1) := fun hn => by
    unfold wp_X7_lines
    refine in_wp (fun a b => ?_) (fun _ => ⟨fun z => absurd rfl z, fun _ => ⟨rfl, h0⟩⟩)
    rw [Int32.toInt_toInt64, l1] at a
    rw [Int32.toInt_toInt64, l10] at b
    exact absurd ⟨a, b⟩ hn
  unfold wp_X6_lines
  rw [Int32.lt_iff_toInt_lt, Int32.le_iff_toInt_le, i1, i10]
  refine ⟨fun q => out (by omega), fun q => ⟨fun z v3 hv3 => ?_, fun z => out (by omega)⟩⟩
  unfold wp_X2_startAnew
  intro σ1 e1 σ3 e3 σ5 e5 σ7 e7 σ9 e9
  refine forget_wp (fun σ8 gi g10 g13 ga => ?_)
  unfold wp_X7_lines
  refine in_wp (fun _ _ => ⟨fun _ v4 hv4 τ6 f6 τ8 f8 τ10 f10 => ⟨?_, ?_⟩, fun y => absurd y (by decide)⟩) (fun y => absurd ?_ y)
  · rw [hv3, hv4, F.1.1, FM.1]
  · have ex := nI_ofI (x := x) (by omega)
    have g9 : ∀ i, gI σ9 i = if i = 4 then 0 else if i = 3 then 0 else if i = 2 then 0 else if i = 1 then 0 else if i = 0 then x else gI σ i := fun i => by
      rw [e9, gI_sI, e7, gI_sI, e5, gI_sI, e3, gI_sI, e1, gI_sI]
    have t10 : ∀ i, gI τ10 i = if i = 2 then 0 else if i = 1 then 0 else if i = 0 then x else gI τ i := fun i => by
      rw [f10, gI_sI, f8, gI_sI, f6, gI_sI]
    refine ⟨x.toInt.toNat, 0, 0, 0, 0, ws, ss, os, ⟨⟨?_, ?_, fun w hw => absurd hw (Nat.not_lt_zero w), fun w hw => absurd hw (Nat.not_lt_zero w)⟩, ?_, ?_, ?_, fun i hi => absurd hi (Nat.not_lt_zero i)⟩, ⟨?_, ?_, ?_, fun w hw => absurd hw (Nat.not_lt_zero w), fun w hw => absurd hw (Nat.not_lt_zero w), fun w hw => absurd hw (Nat.not_lt_zero w), fun w hw => absurd hw (Nat.not_lt_zero w), fun w hw => absurd hw (Nat.not_lt_zero w)⟩, ⟨⟨by omega, by omega, by decide, fun w hw => absurd hw (Nat.not_lt_zero w), fun w hw => absurd hw (Nat.not_lt_zero w)⟩, by decide, by decide, by decide, fun i hi => absurd hi (Nat.not_lt_zero i)⟩, cache_fg (by decide) g10, li_fg g13⟩
    · rw [gi 0 (by decide) (by decide), g9]; exact ex
    · rw [gi 1 (by decide) (by decide), g9]; exact nI_0.symm
    · rw [gi 2 (by decide) (by decide), g9]; exact nI_0.symm
    · rw [gi 3 (by decide) (by decide), g9]; exact nI_0.symm
    · rw [gi 4 (by decide) (by decide), g9]; exact nI_0.symm
    · rw [t10]; exact ex
    · rw [t10]; exact nI_0.symm
    · rw [t10]; exact nI_0.symm
  · rw [Int32.toInt_toInt64, l1, l10]; omega
theorem sum_step {x v : Int32} (h : InvE σ τ) : wp_X6_sum x v σ (fun r1 σ1 => wp_X7_sum x v τ (fun r2 τ1 => r1 = r2 ∧ InvE σ1 τ1)) := by
  have h0 := h
  obtain ⟨n, k, o, M, Bm, ws, ss, os, F, FM, G, C, L⟩ := h
  have k10 := G.1.2.2.1
  unfold wp_X6_sum wp_X7_sum
  refine hasWay_wp F.1.2.1 k10 (fun q => ⟨fun z => absurd rfl z, fun _ => noWay_wp FM.2.1 k10 (fun _ => ⟨fun z => absurd z (by decide), fun _ => ⟨rfl, h0⟩⟩) (fun s hs e => absurd ⟨s, hs, e⟩ q)⟩) (fun s hs e => ⟨fun _ => isSum_wp (fun q => ⟨fun z => absurd rfl z, fun _ => noWay_wp FM.2.1 k10 (fun z => absurd ⟨s, hs, e⟩ z) (fun _ _ _ => ⟨fun _ => inSum_wp (fun _ => ⟨fun z => absurd rfl z, fun _ => ⟨rfl, h0⟩⟩) (fun z => absurd z q), fun z => absurd rfl z⟩)⟩) (fun hv => ⟨fun _ => ?_, fun z => absurd z (by decide)⟩), fun z => absurd z (by decide)⟩)
  rw [e, nI_clamp (show s < 2 ^ 31 by omega)]
  refine ⟨idx10 (by omega), fun v7 hv7 => ⟨idx10 (by omega), fun σ9 e9 => forget_wp (fun σ12 gi g10 g13 ga => noWay_wp FM.2.1 k10 (fun z => absurd ⟨s, hs, rfl⟩ z) (fun _ _ _ => ⟨fun _ => inSum_wp (fun z => absurd hv z) (fun _ => ⟨fun _ => ⟨idx10 (by omega), fun u7 hu7 => ⟨idx10 (by omega), fun τ9 f9 => ⟨?_, ?_⟩⟩⟩, fun z => absurd z (by decide)⟩), fun z => absurd rfl z⟩))⟩⟩
  · rw [hv7, hu7, F.1.2.2.2 s hs, FM.2.2.2.2.1 s hs]
  · have ev := nI_ofI (x := v) hv.1
    have ga9 : ∀ i y, gA σ12 i y = if i = 1 ∧ y = s then v else gA σ i y := fun i y => by rw [ga, e9, gA_sA]
    have gi9 : ∀ i, i ≠ 10 → i ≠ 13 → gI σ12 i = gI σ i := fun i a b => by rw [gi i a b, e9, gI_sA]
    have ta9 : ∀ i y, gA τ9 i y = if i = 1 ∧ y = s then v else gA τ i y := fun i y => by rw [f9, gA_sA]
    have ti9 : ∀ i, gI τ9 i = gI τ i := fun i => by rw [f9, gI_sA]
    obtain ⟨⟨c1, c2, c3, c4⟩, c5, c6, c7, c8⟩ := F
    obtain ⟨a1, a2, a3, a4, a5, a6, a7, a8⟩ := FM
    refine ⟨n, k, o, M, Bm, ws, upN ss s v.toInt.toNat, os, ⟨⟨by rw [gi9 0 (by decide) (by decide)]; exact c1, by rw [gi9 1 (by decide) (by decide)]; exact c2, fun w hw => ?_, fun w hw => ?_⟩, by rw [gi9 2 (by decide) (by decide)]; exact c5, by rw [gi9 3 (by decide) (by decide)]; exact c6, by rw [gi9 4 (by decide) (by decide)]; exact c7, fun i hi => ?_⟩, ⟨by rw [ti9]; exact a1, by rw [ti9]; exact a2, by rw [ti9]; exact a3, fun w hw => ?_, fun w hw => ?_, fun w hw => ?_, fun w hw => ?_, fun w hw => ?_⟩, ⟨⟨G.1.1, G.1.2.1, k10, G.1.2.2.2.1, fun w hw => ?_⟩, G.2⟩, cache_fg k10 g10, li_fg g13⟩
    · rw [ga9, if_neg (fun z => absurd z.1 (by decide))]; exact c3 w hw
    · rw [ga9]
      by_cases q : w = s
      · rw [if_pos ⟨rfl, q⟩, q, upN_s]; exact ev
      · rw [if_neg (fun z => q z.2), upN_n _ _ q]; exact c4 w hw
    · rw [ga9, if_neg (fun z => absurd z.1 (by decide))]; exact c8 i hi
    · rw [ta9, if_neg (fun z => absurd z.1 (by decide))]; exact a4 w hw
    · rw [ta9]
      by_cases q : w = s
      · rw [if_pos ⟨rfl, q⟩, q, upN_s]; exact ev
      · rw [if_neg (fun z => q z.2), upN_n _ _ q]; exact a5 w hw
    · rw [ta9, if_neg (fun z => absurd z.1 (by decide))]; exact a6 w hw
    · rw [ta9, if_neg (fun z => absurd z.1 (by decide))]; exact a7 w hw
    · rw [ta9, if_neg (fun z => absurd z.1 (by decide))]; exact a8 w hw
    · by_cases q : w = s
      · rw [q, upN_s]; omega
      · rw [upN_n _ _ q]; exact G.1.2.2.2.2 w hw
theorem over_step {x v : Int32} (h : InvE σ τ) : wp_X6_over x v σ (fun r1 σ1 => wp_X7_over x v τ (fun r2 τ1 => r1 = r2 ∧ InvE σ1 τ1)) := by
  have h0 := h
  obtain ⟨n, k, o, M, Bm, ws, ss, os, F, FM, G, C, L⟩ := h
  have n10 := G.1.2.1
  have k10 := G.1.2.2.1
  unfold wp_X6_over wp_X7_over
  refine hasWay_wp F.1.2.1 k10 (fun q => ⟨fun z => absurd rfl z, fun _ => noWay_wp FM.2.1 k10 (fun _ => ⟨fun z => absurd z (by decide), fun _ => ⟨rfl, h0⟩⟩) (fun s hs e => absurd ⟨s, hs, e⟩ q)⟩) (fun s hs e => ⟨fun _ => isFill_wp F.1.1 n10 (fun q => ⟨fun z => absurd rfl z, fun _ => noWay_wp FM.2.1 k10 (fun z => absurd ⟨s, hs, e⟩ z) (fun _ _ _ => ⟨fun _ => noSet_wp FM.1 n10 (show (1 : Int32) = nI 1 from rfl) (by decide) (fun _ => ⟨fun z => absurd z (by decide), fun _ => ⟨rfl, h0⟩⟩) (fun t t1 t2 t3 => absurd ⟨t, t1, t2, t3⟩ q), fun z => absurd rfl z⟩)⟩) (fun t t1 t2 t3 => ⟨fun _ => ?_, fun z => absurd z (by decide)⟩), fun z => absurd z (by decide)⟩)
  rw [e, nI_clamp (show s < 2 ^ 31 by omega)]
  refine ⟨idx10 (by omega), fun v7 hv7 => ⟨idx10 (by omega), fun σ9 e9 => forget_wp (fun σ12 gi g10 g13 ga => noWay_wp FM.2.1 k10 (fun z => absurd ⟨s, hs, rfl⟩ z) (fun _ _ _ => ⟨fun _ => noSet_wp FM.1 n10 (show (1 : Int32) = nI 1 from rfl) (by decide) (fun z => absurd ⟨t, t1, t2, t3⟩ z) (fun _ _ _ _ => ⟨fun _ => ⟨idx10 (by omega), fun u7 hu7 => ⟨idx10 (by omega), fun τ9 f9 => ⟨?_, ?_⟩⟩⟩, fun z => absurd rfl z⟩), fun z => absurd rfl z⟩))⟩⟩
  · rw [hv7, hu7, F.1.2.2.1 s hs, FM.2.2.2.1 s hs]
  · have ga9 : ∀ i y, gA σ12 i y = if i = 0 ∧ y = s then v else gA σ i y := fun i y => by rw [ga, e9, gA_sA]
    have gi9 : ∀ i, i ≠ 10 → i ≠ 13 → gI σ12 i = gI σ i := fun i a b => by rw [gi i a b, e9, gI_sA]
    have ta9 : ∀ i y, gA τ9 i y = if i = 0 ∧ y = s then v else gA τ i y := fun i y => by rw [f9, gA_sA]
    have ti9 : ∀ i, gI τ9 i = gI τ i := fun i => by rw [f9, gI_sA]
    obtain ⟨⟨c1, c2, c3, c4⟩, c5, c6, c7, c8⟩ := F
    obtain ⟨a1, a2, a3, a4, a5, a6, a7, a8⟩ := FM
    refine ⟨n, k, o, M, Bm, upN ws s t, ss, os, ⟨⟨by rw [gi9 0 (by decide) (by decide)]; exact c1, by rw [gi9 1 (by decide) (by decide)]; exact c2, fun w hw => ?_, fun w hw => ?_⟩, by rw [gi9 2 (by decide) (by decide)]; exact c5, by rw [gi9 3 (by decide) (by decide)]; exact c6, by rw [gi9 4 (by decide) (by decide)]; exact c7, fun i hi => ?_⟩, ⟨by rw [ti9]; exact a1, by rw [ti9]; exact a2, by rw [ti9]; exact a3, fun w hw => ?_, fun w hw => ?_, fun w hw => ?_, fun w hw => ?_, fun w hw => ?_⟩, ⟨⟨G.1.1, n10, k10, fun w hw => ?_, G.1.2.2.2.2⟩, G.2⟩, cache_fg k10 g10, li_fg g13⟩
    · rw [ga9]
      by_cases q : w = s
      · rw [if_pos ⟨rfl, q⟩, q, upN_s]; exact t3
      · rw [if_neg (fun z => q z.2), upN_n _ _ q]; exact c3 w hw
    · rw [ga9, if_neg (fun z => absurd z.1 (by decide))]; exact c4 w hw
    · rw [ga9, if_neg (fun z => absurd z.1 (by decide))]; exact c8 i hi
    · rw [ta9]
      by_cases q : w = s
      · rw [if_pos ⟨rfl, q⟩, q, upN_s]; exact t3
      · rw [if_neg (fun z => q z.2), upN_n _ _ q]; exact a4 w hw
    · rw [ta9, if_neg (fun z => absurd z.1 (by decide))]; exact a5 w hw
    · rw [ta9, if_neg (fun z => absurd z.1 (by decide))]; exact a6 w hw
    · rw [ta9, if_neg (fun z => absurd z.1 (by decide))]; exact a7 w hw
    · rw [ta9, if_neg (fun z => absurd z.1 (by decide))]; exact a8 w hw
    · by_cases q : w = s
      · rw [q, upN_s]; exact ⟨t1, t2⟩
      · rw [upN_n _ _ q]; exact G.1.2.2.2.1 w hw
theorem offered_step {x v : Int32} (h : InvE σ τ) : wp_X6_offered x v σ (fun r1 σ1 => wp_X7_offered x v τ (fun r2 τ1 => r1 = r2 ∧ InvE σ1 τ1)) := by
  have h0 := h
  obtain ⟨n, k, o, M, Bm, ws, ss, os, F, FM, G, C, L⟩ := h
  have n10 := G.1.2.1
  have o10 := G.2.1
  unfold wp_X6_offered wp_X7_offered
  refine hasOffer_wp F.2.1 o10 (fun q => ⟨fun z => absurd rfl z, fun _ => inA_wp FM.2.2.1 (by omega) (fun _ => ⟨fun z => absurd rfl z, fun _ => ⟨rfl, h0⟩⟩) (fun s hs e => absurd ⟨s, hs, e⟩ q)⟩) (fun s hs e => ⟨fun _ => isFill_wp F.1.1 n10 (fun q => ⟨fun z => absurd rfl z, fun _ => inA_wp FM.2.2.1 (by omega) (fun z => absurd ⟨s, hs, e⟩ z) (fun _ _ _ => ⟨fun _ => noSet_wp FM.1 n10 (show (1 : Int32) = nI 1 from rfl) (by decide) (fun _ => ⟨fun z => absurd z (by decide), fun _ => ⟨rfl, h0⟩⟩) (fun t t1 t2 t3 => absurd ⟨t, t1, t2, t3⟩ q), fun z => absurd z (by decide)⟩)⟩) (fun t t1 t2 t3 => ⟨fun _ => ?_, fun z => absurd z (by decide)⟩), fun z => absurd z (by decide)⟩)
  rw [e, nI_clamp (show s < 2 ^ 31 by omega)]
  refine ⟨idx10 (by omega), fun v7 hv7 => ⟨idx10 (by omega), fun σ9 e9 => inA_wp FM.2.2.1 (by omega) (fun z => absurd ⟨s, hs, rfl⟩ z) (fun _ _ _ => ⟨fun _ => noSet_wp FM.1 n10 (show (1 : Int32) = nI 1 from rfl) (by decide) (fun z => absurd ⟨t, t1, t2, t3⟩ z) (fun _ _ _ _ => ⟨fun _ => ⟨idx10 (by omega), fun u7 hu7 => ⟨idx10 (by omega), fun τ9 f9 => ⟨?_, ?_⟩⟩⟩, fun z => absurd rfl z⟩), fun z => absurd z (by decide)⟩)⟩⟩
  · rw [hv7, hu7, F.2.2.2.2 s hs, FM.2.2.2.2.2.2.2 s hs]
  · have ga9 : ∀ i y, gA σ9 i y = if i = 2 ∧ y = s then v else gA σ i y := fun i y => by rw [e9, gA_sA]
    have gi9 : ∀ i, gI σ9 i = gI σ i := fun i => by rw [e9, gI_sA]
    have ta9 : ∀ i y, gA τ9 i y = if i = 4 ∧ y = s then v else gA τ i y := fun i y => by rw [f9, gA_sA]
    have ti9 : ∀ i, gI τ9 i = gI τ i := fun i => by rw [f9, gI_sA]
    have gk : ∀ i, i ≠ 2 → gA σ9 i = gA σ i := fun i hi => funext (fun y => by rw [ga9, if_neg (fun z => hi z.1)])
    obtain ⟨⟨c1, c2, c3, c4⟩, c5, c6, c7, c8⟩ := F
    obtain ⟨a1, a2, a3, a4, a5, a6, a7, a8⟩ := FM
    refine ⟨n, k, o, M, Bm, ws, ss, upN os s t, ⟨⟨by rw [gi9]; exact c1, by rw [gi9]; exact c2, fun w hw => ?_, fun w hw => ?_⟩, by rw [gi9]; exact c5, by rw [gi9]; exact c6, by rw [gi9]; exact c7, fun i hi => ?_⟩, ⟨by rw [ti9]; exact a1, by rw [ti9]; exact a2, by rw [ti9]; exact a3, fun w hw => ?_, fun w hw => ?_, fun w hw => ?_, fun w hw => ?_, fun w hw => ?_⟩, ⟨G.1, o10, G.2.2.1, G.2.2.2.1, fun i hi => ?_⟩, cacheD_fr C (fun i _ => gi9 i) (fun i h1 h2 => gk i (by omega)) (fun i => by rw [e9, gL_sA]) (fun i => by rw [e9, gB_sA]), fun z => ?_⟩
    · rw [gk 0 (by decide)]; exact c3 w hw
    · rw [gk 1 (by decide)]; exact c4 w hw
    · rw [ga9]
      by_cases q : i = s
      · rw [if_pos ⟨rfl, q⟩, q, upN_s]; exact t3
      · rw [if_neg (fun z => q z.2), upN_n _ _ q]; exact c8 i hi
    · rw [ta9, if_neg (fun z => absurd z.1 (by decide))]; exact a4 w hw
    · rw [ta9, if_neg (fun z => absurd z.1 (by decide))]; exact a5 w hw
    · rw [ta9, if_neg (fun z => absurd z.1 (by decide))]; exact a6 w hw
    · rw [ta9, if_neg (fun z => absurd z.1 (by decide))]; exact a7 w hw
    · rw [ta9]
      by_cases q : w = s
      · rw [if_pos ⟨rfl, q⟩, q, upN_s]; exact t3
      · rw [if_neg (fun z => q z.2), upN_n _ _ q]; exact a8 w hw
    · by_cases q : i = s
      · rw [q, upN_s]; exact ⟨t1, t2⟩
      · rw [upN_n _ _ q]; exact G.2.2.2.2 i hi
    · rw [gk 6 (by decide), gi9]
      exact L (by rw [← gi9 13]; exact z)
end STP
