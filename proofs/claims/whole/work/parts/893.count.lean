/-! ===== count on both sides ===== -/
noncomputable def ctP (P : Nat → Prop) (n : Nat) : Nat := fb_ct (fun j => dcb (P j)) n
theorem ctP_yes {P : Nat → Prop} {n : Nat} (h : P n) : ctP P (n + 1) = ctP P n + 1 := by
  unfold ctP; rw [fb_ct_succ, (dcb_iff _).mpr h]; rfl
theorem ctP_no {P : Nat → Prop} {n : Nat} (h : ¬ P n) : ctP P (n + 1) = ctP P n := by
  unfold ctP; rw [fb_ct_succ, dcb_no h]; rfl
theorem ctP_le (P : Nat → Prop) (n : Nat) : ctP P n ≤ n := fb_ct_le _ n
theorem pc_ctP {S n : Nat} {P : Nat → Prop} (hn : n ≤ 10) (hS : S < 2 ^ n) (h : ∀ l, l < n → (S.testBit l = true ↔ P l)) : pc S = ctP P n := by
  unfold pc ctP
  rw [show 10 = n + (10 - n) by omega, fb_ct_split]
  have : fb_ct (fun i => S.testBit (n + i)) (10 - n) = 0 := fb_ct_zero.mpr (fun i _ => bits_of_lt hS (by omega))
  rw [this, Nat.add_zero]
  refine fb_ct_cong (fun l hl => ?_)
  rcases Classical.em (P l) with q | q
  · rw [(dcb_iff _).mpr q, (h l hl).mpr q]
  · rw [dcb_no q, Bool.eq_false_iff]; exact fun z => q ((h l hl).mp z)
section CNT
variable {n k o M Bm : Nat} {ws ss os : Nat → Nat}
/-- the first of its group -/
def GrF (n k M : Nat) (ws : Nat → Nat) (j : Nat) : Prop := ∀ S, Alk n k M ws j S → S &&& (2 ^ j - 1) = 0
theorem grF_of {j S : Nat} (h : Alk n k M ws j S) : GrF n k M ws j ↔ S &&& (2 ^ j - 1) = 0 := ⟨fun g => g S h, fun e S' h' => by rw [alk_one h' h]; exact e⟩
/-- what is counted by 5, 6, 7 -/
def CtQ (n k o M : Nat) (ws ss os : Nat → Nat) (x : Int32) (j : Nat) : Prop := (x = 5 ∧ StlP n k M ws ss j) ∨ (x = 6 ∧ KnP n k o M ws os 0 j) ∨ (x = 7 ∧ GrF n k M ws j)
theorem ctq5 {j : Nat} : CtQ n k o M ws ss os 5 j ↔ StlP n k M ws ss j := ⟨fun h => by
  rcases h with h | h | h
  · exact h.2
  · exact absurd h.1 (by decide)
  · exact absurd h.1 (by decide), fun h => Or.inl ⟨rfl, h⟩⟩
theorem ctq6 {j : Nat} : CtQ n k o M ws ss os 6 j ↔ KnP n k o M ws os 0 j := ⟨fun h => by
  rcases h with h | h | h
  · exact absurd h.1 (by decide)
  · exact h.2
  · exact absurd h.1 (by decide), fun h => Or.inr (Or.inl ⟨rfl, h⟩)⟩
theorem ctq7 {j : Nat} : CtQ n k o M ws ss os 7 j ↔ GrF n k M ws j := ⟨fun h => by
  rcases h with h | h | h
  · exact absurd h.1 (by decide)
  · exact absurd h.1 (by decide)
  · exact h.2, fun h => Or.inr (Or.inr ⟨rfl, h⟩)⟩
def CntA (n k o M : Nat) (ws ss os : Nat → Nat) (x r : Int32) : Prop :=
  (x = 0 → r = nI n) ∧ (x = 1 → r = nI k) ∧ (x = 2 → r = nI (pc M)) ∧ (x = 3 → ∃ q, RkB (rowsV n (rkL ws os M 0 k o)) q ∧ r = nI q) ∧ (x = 4 → r = nI (pc (seenM ws M k))) ∧ (x = 5 → (¬ FitW n ws ss M → r = -103) ∧ (FitW n ws ss M → r = nI (ctP (CtQ n k o M ws ss os x) n))) ∧ (x = 6 → r = nI (ctP (CtQ n k o M ws ss os x) n)) ∧ (x = 7 → r = nI (ctP (CtQ n k o M ws ss os x) n)) ∧ (x = 8 → r = nI o) ∧ (¬ x = 0 → ¬ x = 1 → ¬ x = 2 → ¬ x = 3 → ¬ x = 4 → ¬ x = 5 → ¬ x = 6 → ¬ x = 7 → ¬ x = 8 → r = -102)
theorem cntA_one {x r r' : Int32} (h : CntA n k o M ws ss os x r) (h' : CntA n k o M ws ss os x r') : r = r' := by
  obtain ⟨a0, a1, a2, a3, a4, a5, a6, a7, a8, a9⟩ := h
  obtain ⟨b0, b1, b2, b3, b4, b5, b6, b7, b8, b9⟩ := h'
  by_cases c0 : x = 0
  · rw [a0 c0, b0 c0]
  by_cases c1 : x = 1
  · rw [a1 c1, b1 c1]
  by_cases c2 : x = 2
  · rw [a2 c2, b2 c2]
  by_cases c3 : x = 3
  · obtain ⟨q, q1, q2⟩ := a3 c3
    obtain ⟨p, p1, p2⟩ := b3 c3
    rw [q2, p2, rk_one q1 p1]
  by_cases c4 : x = 4
  · rw [a4 c4, b4 c4]
  by_cases c5 : x = 5
  · by_cases f : FitW n ws ss M
    · rw [(a5 c5).2 f, (b5 c5).2 f]
    · rw [(a5 c5).1 f, (b5 c5).1 f]
  by_cases c6 : x = 6
  · rw [a6 c6, b6 c6]
  by_cases c7 : x = 7
  · rw [a7 c7, b7 c7]
  by_cases c8 : x = 8
  · rw [a8 c8, b8 c8]
  rw [a9 c0 c1 c2 c3 c4 c5 c6 c7 c8, b9 c0 c1 c2 c3 c4 c5 c6 c7 c8]
/-- which of the arms of CntA is meant -/
theorem cnt_arm {x r : Int32} {c : Int32} (e : x = c) (h : (c = 0 → r = nI n) ∧ (c = 1 → r = nI k) ∧ (c = 2 → r = nI (pc M)) ∧ (c = 3 → ∃ q, RkB (rowsV n (rkL ws os M 0 k o)) q ∧ r = nI q) ∧ (c = 4 → r = nI (pc (seenM ws M k))) ∧ (c = 5 → (¬ FitW n ws ss M → r = -103) ∧ (FitW n ws ss M → r = nI (ctP (CtQ n k o M ws ss os c) n))) ∧ (c = 6 → r = nI (ctP (CtQ n k o M ws ss os c) n)) ∧ (c = 7 → r = nI (ctP (CtQ n k o M ws ss os c) n)) ∧ (c = 8 → r = nI o) ∧ (¬ c = 0 → ¬ c = 1 → ¬ c = 2 → ¬ c = 3 → ¬ c = 4 → ¬ c = 5 → ¬ c = 6 → ¬ c = 7 → ¬ c = 8 → r = -102)) : CntA n k o M ws ss os x r := by
  subst e; exact h
/-- what stays of the class, so that its invariants stay -/
def Kp (σ τ : St) : Prop := (∀ i, i < 5 ∨ i = 13 ∨ i = 14 → gI τ i = gI σ i) ∧ ∀ i, i < 3 ∨ i = 6 → gA τ i = gA σ i
theorem Kp.rf (σ : St) : Kp σ σ := ⟨fun _ _ => rfl, fun _ _ => rfl⟩
theorem Kp.fp {σ τ : St} (h : FrP σ τ) : Kp σ τ := ⟨fun i hi => h.1 i (by omega), fun i hi => h.2.1 i (by omega)⟩
theorem Kp.fo {σ τ : St} (h : FrO σ τ) : Kp σ τ := ⟨fun i hi => h.1 i (by omega), fun i hi => h.2 i (by omega) (by omega) (by omega)⟩
theorem Kp.fk {σ τ : St} (h : FrK σ τ) : Kp σ τ := ⟨fun i hi => h.1 i (by omega), fun i hi => h.2.1 i (by omega)⟩
theorem cache_p {σ τ : St} (hC : CacheD σ n k ws ss) (h : FrP σ τ) : CacheD τ n k ws ss := cacheD_fr hC (fun i hi => h.1 i (by omega)) (fun i _ hi => h.2.1 i (by omega)) h.2.2.1 h.2.2.2
theorem cache_k {σ τ : St} (hC : CacheD σ n k ws ss) (h : FrK σ τ) : CacheD τ n k ws ss := cacheD_fr hC (fun i hi => h.1 i (by omega)) (fun i _ hi => h.2.1 i (by omega)) h.2.2.1 h.2.2.2
theorem mask_0 {S j : Nat} (hn : n ≤ 10) (hj : j < n) (hS : S < 2 ^ n) : nI S &&& (1 <<< (nI j &&& 31) - 1) = 0 ↔ S &&& (2 ^ j - 1) = 0 := by
  have p0 := Nat.two_pow_pos j
  rw [one_shl (by omega), show (1 : Int32) = nI 1 from rfl, pk_sub p0, (and_or_bit _ _).1, ← nI_0]
  refine nI_eq (m31 (b := n) (lt_of_bits (fun i hi => by rw [Nat.testBit_and, bits_of_lt hS hi]; rfl)) hn) (by decide)
theorem groupCnt_wp {σ : St} (F : NetF σ n k o M Bm ws ss os) (G : NetG n k o M Bm ws ss os) {post : Int32 → St → Prop} (hp : post (nI (ctP (CtQ n k o M ws ss os 7) n)) σ) : wp_X2_groupCount σ post := by
  have n10 := G.1.2.1
  unfold wp_X2_groupCount
  obtain ⟨f, hf⟩ := lupE (fun f j (x : Int32) => lp_X2_groupCount_4 post f x (nI j) σ) (fun j x => x = nI (ctP (CtQ n k o M ws ss os 7) j)) n
    (fun f x hx => by
      unfold lp_X2_groupCount_4
      rw [F.1.1, hx]
      exact ⟨fun _ => hp, fun q => absurd (nI_le (Nat.le_refl n) (by omega)) q⟩)
    (fun f j x hj hx ih => by
      unfold lp_X2_groupCount_4
      rw [F.1.1]
      refine ⟨fun q => absurd q (nI_ge hj (by omega)), fun _ v2 hv2 => alikeC_wp F G hj (fun S hS => ?_)⟩
      rw [hv2, mask_0 n10 hj hS.1]
      refine ⟨fun q v hv => ?_, fun q v hv u hu => ?_⟩
      · rw [hv, nI_1]
        refine ih x ?_
        rw [hx, ctP_no (fun z => q ((grF_of hS).mp (ctq7.mp z)))]
      · rw [hu, nI_1]
        refine ih v ?_
        rw [hv, hx, nI_1, ctP_yes (ctq7.mpr ((grF_of hS).mpr q))])
    (Nat.zero_le n) (s := nI 0) rfl
  rw [nI_0] at hf
  exact ⟨f, hf⟩
theorem stlLines_wp {σ : St} (F : NetF σ n k o M Bm ws ss os) (G : NetG n k o M Bm ws ss os) (hC : CacheD σ n k ws ss) {post : Int32 → St → Prop} (hp : ∀ r τ, ((¬ FitW n ws ss M → r = -103) ∧ (FitW n ws ss M → r = nI (ctP (CtQ n k o M ws ss os 5) n))) → FrO σ τ → CacheD τ n k ws ss → post r τ) : wp_X6_settledLines σ post := by
  have n10 := G.1.2.1
  have k10 := G.1.2.2.1
  have hM := G.2.2.1
  unfold wp_X6_settledLines
  rw [F.2.2.1]
  refine solve_wp G.1 F.1 hM (fun q => hC M hM q.symm) (fun σ2 ok h10 fr => ?_)
  have F2 : NetF σ2 n k o M Bm ws ss os := netF_fr F (fun i hi => fr.1 i (by omega)) (fun i hi => fr.2 i (by omega) (by omega) (by omega))
  have c2 := cache_one k10 hM h10 ok
  obtain ⟨hfit, hbz⟩ := delOK_fit k10 hM ok
  refine ⟨fun q => ?_, fun q => hp _ _ ⟨fun _ => rfl, fun z => absurd (hfit.mpr z) (by rw [q]; decide)⟩ fr c2⟩
  have h11 : gI σ2 11 = 1 := hbz.elim (fun z => absurd z q) id
  have fit := hfit.mp h11
  obtain ⟨f, hf⟩ := lupE (fun f j (p : Int32 × St) => lp_X6_settledLines_28 post f p.1 (nI j) p.2) (fun j p => p.1 = nI (ctP (CtQ n k o M ws ss os 5) j) ∧ FrW σ2 p.2 ∧ DelOK p.2 n ws ss M) n
    (fun f p hp0 => by
      obtain ⟨x, τ⟩ := p
      obtain ⟨q1, q2, q3⟩ := hp0
      have q2 : FrW σ2 τ := q2
      have q3 : DelOK τ n ws ss M := q3
      have fo := FrO.w fr q2
      show lp_X6_settledLines_28 post (f + 1) x (nI n) τ
      unfold lp_X6_settledLines_28
      rw [(fo.1 0 (by omega)).trans F.1.1]
      refine ⟨fun _ => hp x τ ⟨fun z => absurd fit z, fun _ => q1⟩ fo (cache_one k10 hM ((q2.1 10 (by decide) (by decide)).trans h10) q3), fun z => absurd (nI_le (Nat.le_refl n) (by omega)) z⟩)
    (fun f j p hj hp0 ih => by
      obtain ⟨x, τ⟩ := p
      obtain ⟨q1, q2, q3⟩ := hp0
      have q1 : x = nI (ctP (CtQ n k o M ws ss os 5) j) := q1
      have q2 : FrW σ2 τ := q2
      have q3 : DelOK τ n ws ss M := q3
      have fo := FrO.w fr q2
      have Fτ : NetF τ n k o M Bm ws ss os := netF_fr F (fun i hi => fo.1 i (by omega)) (fun i hi => fo.2 i (by omega) (by omega) (by omega))
      show lp_X6_settledLines_28 post (f + 1) x (nI j) τ
      unfold lp_X6_settledLines_28
      rw [Fτ.1.1]
      refine ⟨fun z => absurd z (nI_ge hj (by omega)), fun _ => isSettled_wp Fτ G ((q2.1 11 (by decide) (by decide)).trans h11) q3 hj (fun r τ2 hr F2 ok2 => ⟨fun z v hv => ?_, fun z v hv u hu => ?_⟩)⟩
      · rw [hv, nI_1]
        refine ih (x, τ2) ⟨?_, q2.tr F2, ok2⟩
        show x = _
        rw [q1, ctP_no (fun y => absurd (hr.1 (ctq5.mp y)) (by rw [z]; decide))]
      · rw [hu, nI_1]
        refine ih (v, τ2) ⟨?_, q2.tr F2, ok2⟩
        show v = _
        rw [hv, q1, nI_1, ctP_yes (ctq5.mpr (Classical.not_not.mp (fun y => z (hr.2 y))))])
    (Nat.zero_le n) (s := (nI 0, σ2)) ⟨rfl, FrW.rf σ2, ok⟩
  have hf2 : lp_X6_settledLines_28 post f (nI 0) (nI 0) σ2 := hf
  rw [nI_0] at hf2
  exact ⟨f, hf2⟩
theorem countC_wp {σ : St} (F : NetF σ n k o M Bm ws ss os) (G : NetG n k o M Bm ws ss os) (hC : CacheD σ n k ws ss) {x : Int32} {post : Int32 → St → Prop} (hp : ∀ r τ, CntA n k o M ws ss os x r → Kp σ τ → CacheD τ n k ws ss → post r τ) : wp_X6_count x σ post := by
  have n10 := G.1.2.1
  have k10 := G.1.2.2.1
  have l10 : ∀ {a b : Nat}, a < 2 ^ b → b ≤ 10 → a < 1024 := fun h hb => Nat.lt_of_lt_of_le h (Nat.pow_le_pow_right (by decide) hb)
  unfold wp_X6_count
  refine ⟨fun e => hp _ _ (cnt_arm e ?_) (Kp.rf σ) hC, fun e => hp _ _ (cnt_arm e ?_) (Kp.rf σ) hC, fun e => ?_, fun e => rankC_wp F G (fun r τ hr Fr => hp _ _ (cnt_arm e ?_) (Kp.fp Fr) (cache_p hC Fr)), fun e => seen_wp F G (bc_wp (l10 (seenM_lt G) n10) (hp _ _ (cnt_arm e ?_) (Kp.rf σ) hC)), fun e => stlLines_wp F G hC (fun r τ hr Fr c => hp _ _ (cnt_arm e ?_) (Kp.fo Fr) c), fun e => linesC_wp F G (fun S τ hS hb Fr => bc_wp (l10 hS n10) (hp _ _ (cnt_arm e ?_) (Kp.fp Fr) (cache_p hC Fr))), fun e => groupCnt_wp F G (hp _ _ (cnt_arm e ?_) (Kp.rf σ) hC), fun e => hp _ _ (cnt_arm e ?_) (Kp.rf σ) hC, fun c0 c1 c2 c3 c4 c5 c6 c7 c8 => hp _ _ ⟨fun z => absurd z c0, fun z => absurd z c1, fun z => absurd z c2, fun z => absurd z c3, fun z => absurd z c4, fun z => absurd z c5, fun z => absurd z c6, fun z => absurd z c7, fun z => absurd z c8, fun _ _ _ _ _ _ _ _ _ => rfl⟩ (Kp.rf σ) hC⟩
  · refine ⟨fun _ => F.1.1, fun z => absurd z (by decide), fun z => absurd z (by decide), fun z => absurd z (by decide), fun z => absurd z (by decide), fun z => absurd z (by decide), fun z => absurd z (by decide), fun z => absurd z (by decide), fun z => absurd z (by decide), fun z => absurd rfl z⟩
  · refine ⟨fun z => absurd z (by decide), fun _ => F.1.2.1, fun z => absurd z (by decide), fun z => absurd z (by decide), fun z => absurd z (by decide), fun z => absurd z (by decide), fun z => absurd z (by decide), fun z => absurd z (by decide), fun z => absurd z (by decide), fun _ z => absurd rfl z⟩
  · rw [F.2.2.1]
    refine bc_wp (l10 G.2.2.1 k10) (hp _ _ (cnt_arm e ?_) (Kp.rf σ) hC)
    refine ⟨fun z => absurd z (by decide), fun z => absurd z (by decide), fun _ => rfl, fun z => absurd z (by decide), fun z => absurd z (by decide), fun z => absurd z (by decide), fun z => absurd z (by decide), fun z => absurd z (by decide), fun z => absurd z (by decide), fun _ _ z => absurd rfl z⟩
  · refine ⟨fun z => absurd z (by decide), fun z => absurd z (by decide), fun z => absurd z (by decide), fun _ => ⟨r, hr, rfl⟩, fun z => absurd z (by decide), fun z => absurd z (by decide), fun z => absurd z (by decide), fun z => absurd z (by decide), fun z => absurd z (by decide), fun _ _ _ z => absurd rfl z⟩
  · refine ⟨fun z => absurd z (by decide), fun z => absurd z (by decide), fun z => absurd z (by decide), fun z => absurd z (by decide), fun _ => rfl, fun z => absurd z (by decide), fun z => absurd z (by decide), fun z => absurd z (by decide), fun z => absurd z (by decide), fun _ _ _ _ z => absurd rfl z⟩
  · refine ⟨fun z => absurd z (by decide), fun z => absurd z (by decide), fun z => absurd z (by decide), fun z => absurd z (by decide), fun z => absurd z (by decide), fun _ => hr, fun z => absurd z (by decide), fun z => absurd z (by decide), fun z => absurd z (by decide), fun _ _ _ _ _ z => absurd rfl z⟩
  · refine ⟨fun z => absurd z (by decide), fun z => absurd z (by decide), fun z => absurd z (by decide), fun z => absurd z (by decide), fun z => absurd z (by decide), fun z => absurd z (by decide), fun _ => ?_, fun z => absurd z (by decide), fun z => absurd z (by decide), fun _ _ _ _ _ _ z => absurd rfl z⟩
    rw [pc_ctP n10 hS (fun l hl => (hb l hl).trans ctq6.symm)]
  · refine ⟨fun z => absurd z (by decide), fun z => absurd z (by decide), fun z => absurd z (by decide), fun z => absurd z (by decide), fun z => absurd z (by decide), fun z => absurd z (by decide), fun z => absurd z (by decide), fun _ => rfl, fun z => absurd z (by decide), fun _ _ _ _ _ _ _ z => absurd rfl z⟩
  · refine ⟨fun z => absurd z (by decide), fun z => absurd z (by decide), fun z => absurd z (by decide), fun z => absurd z (by decide), fun z => absurd z (by decide), fun z => absurd z (by decide), fun z => absurd z (by decide), fun z => absurd z (by decide), fun _ => F.2.1, fun _ _ _ _ _ _ _ _ z => absurd rfl z⟩
theorem cntLoop_wp {σ0 σ : St} (F : NetM σ0 n k o M Bm ws ss os) (G : NetG n k o M Bm ws ss os) (F0 : FrD σ0 σ) {x : Int32} (hfit : x = 5 → FitW n ws ss M) {post : Int32 → St → Prop} (hp : ∀ τ, FrD σ0 τ → jn_X7_count_120 post x (nI (ctP (CtQ n k o M ws ss os x) n)) τ) : ∃ fu : Nat, lp_X7_count_38 post fu x 0 0 σ := by
  have n10 := G.1.2.1
  obtain ⟨f, hf⟩ := lupE (fun f j (p : Int32 × St) => lp_X7_count_38 post f x p.1 (nI j) p.2) (fun j p => p.1 = nI (ctP (CtQ n k o M ws ss os x) j) ∧ FrD σ0 p.2) n
    (fun f p hp0 => by
      obtain ⟨y, τ⟩ := p
      obtain ⟨q1, q2⟩ := hp0
      have q1 : y = nI (ctP (CtQ n k o M ws ss os x) n) := q1
      have q2 : FrD σ0 τ := q2
      show lp_X7_count_38 post (f + 1) x y (nI n) τ
      unfold lp_X7_count_38
      rw [(q2.1 0 (by decide)).trans F.1, q1]
      exact ⟨fun _ => hp τ q2, fun z => absurd (nI_le (Nat.le_refl n) (by omega)) z⟩)
    (fun f j p hj hp0 ih => by
      obtain ⟨y, τ⟩ := p
      obtain ⟨q1, q2⟩ := hp0
      have q1 : y = nI (ctP (CtQ n k o M ws ss os x) j) := q1
      have q2 : FrD σ0 τ := q2
      have Fτ := netM_fr F q2.m
      have stp : ∀ (s0 : Int32) (τ2 : St), FrD σ0 τ2 → ((CtQ n k o M ws ss os x j → ¬ s0 = 0) ∧ (¬ CtQ n k o M ws ss os x j → s0 = 0)) → jn_X7_count_99 post (lp_X7_count_38 post f) x y (nI j) s0 τ2 := fun s0 τ2 F2 hs => by
        unfold jn_X7_count_99
        refine ⟨fun z v hv u hu => ?_, fun z v hv u hu => ?_⟩
        · rw [hu, nI_1]
          refine ih (v, τ2) ⟨?_, F2⟩
          show v = _
          rw [hv, q1, ← nI_0, nI_add, Nat.add_zero, ctP_no (fun w => hs.1 w z)]
        · rw [hu, nI_1]
          refine ih (v, τ2) ⟨?_, F2⟩
          show v = _
          rw [hv, q1, nI_1, ctP_yes (Classical.not_not.mp (fun w => z (hs.2 w)))]
      show lp_X7_count_38 post (f + 1) x y (nI j) τ
      unfold lp_X7_count_38
      rw [(q2.1 0 (by decide)).trans F.1]
      refine ⟨fun z => absurd z (nI_ge hj (by omega)), fun _ => ⟨fun c5 => ⟨fun c6 => ⟨fun c7 => ?_, fun c7 => ?_⟩, fun c6 => ?_⟩, fun c5 => ?_⟩⟩
      · unfold jn_X7_count_98
        refine stp 0 τ q2 ⟨fun w => ?_, fun _ => rfl⟩
        rcases w with w | w | w
        · exact absurd w.1 c5
        · exact absurd w.1 c6
        · exact absurd w.1 c7
      · subst c7
        refine groupOf_wp Fτ G hj (fun S hS => ?_)
        rw [mask_0 n10 hj hS.1]
        refine ⟨fun z => ?_, fun z => stp 1 τ q2 ⟨fun _ => by decide, fun w => absurd (ctq7.mpr ((grF_of hS).mpr z)) w⟩⟩
        unfold jn_X7_count_98
        exact stp 0 τ q2 ⟨fun w => absurd ((grF_of hS).mp (ctq7.mp w)) z, fun _ => rfl⟩
      · subst c6
        rw [← nI_0]
        refine isKnown_wp Fτ G (Nat.two_pow_pos o) hj (fun r τ2 hr F2 => ?_)
        exact stp r τ2 (q2.tr F2) ⟨fun w => by rw [hr.1 (ctq6.mp w)]; decide, fun w => hr.2 (fun u => w (ctq6.mpr u))⟩
      · have fit := hfit c5
        subst c5
        refine isSettledM_wp Fτ G fit hj (fun r τ2 hr F2 => ?_)
        exact stp r τ2 (q2.tr F2) ⟨fun w => by rw [hr.1 (ctq5.mp w)]; decide, fun w => hr.2 (fun u => w (ctq5.mpr u))⟩)
    (Nat.zero_le n) (s := (nI 0, σ)) ⟨rfl, F0⟩
  have hf2 : lp_X7_count_38 post f x (nI 0) (nI 0) σ := hf
  rw [nI_0] at hf2
  exact ⟨f, hf2⟩
theorem countM_wp {σ : St} (F : NetM σ n k o M Bm ws ss os) (G : NetG n k o M Bm ws ss os) {x : Int32} {post : Int32 → St → Prop} (hp : ∀ r τ, CntA n k o M ws ss os x r → FrD σ τ → post r τ) : wp_X7_count x σ post := by
  have n10 := G.1.2.1
  have k10 := G.1.2.2.1
  have l10 : ∀ {a b : Nat}, a < 2 ^ b → b ≤ 10 → a < 1024 := fun h hb => Nat.lt_of_lt_of_le h (Nat.pow_le_pow_right (by decide) hb)
  have l8 : (8 : Int64).toInt = 8 := by decide
  have l0 : (0 : Int64).toInt = 0 := rfl
  have big : ∀ c : Int32, 0 ≤ c.toInt → c.toInt ≤ 8 → ¬ (0 ≤ x.toInt ∧ x.toInt ≤ 8) → ¬ x = c := fun c h1 h2 hn e => hn (by rw [e]; exact ⟨h1, h2⟩)
  unfold wp_X7_count
  refine in_wp (fun h1 h2 => ⟨fun _ => ?_, fun z => absurd z (by decide)⟩) (fun hout => ⟨fun z => absurd rfl z, fun _ => ?_⟩)
  · have tail : ∀ τ, FrD σ τ → (x = 5 → FitW n ws ss M) → jn_X7_count_120 post x (nI (ctP (CtQ n k o M ws ss os x) n)) τ := fun τ hF hfit => by
      have Fτ := netM_fr F hF.m
      unfold jn_X7_count_120
      refine ⟨fun e => hp _ _ (cnt_arm e ?_) hF, fun e => hp _ _ (cnt_arm e ?_) hF, fun e => onSet_wp Fτ G (bits_wp (l10 G.2.2.1 k10) (hp _ _ (cnt_arm e ?_) hF)), fun e => onSet_wp Fτ G ?_, fun e => seenSet_wp Fτ G (bits_wp (l10 (seenM_lt G) n10) (hp _ _ (cnt_arm e ?_) hF)), fun e => ?_, fun e => ?_, fun e => ?_, fun e => hp _ _ (cnt_arm e ?_) hF, fun c0 c1 c2 c3 c4 c5 c6 c7 c8 => ?_⟩
      · refine ⟨fun _ => Fτ.1, fun z => absurd z (by decide), fun z => absurd z (by decide), fun z => absurd z (by decide), fun z => absurd z (by decide), fun z => absurd z (by decide), fun z => absurd z (by decide), fun z => absurd z (by decide), fun z => absurd z (by decide), fun z => absurd rfl z⟩
      · refine ⟨fun z => absurd z (by decide), fun _ => Fτ.2.1, fun z => absurd z (by decide), fun z => absurd z (by decide), fun z => absurd z (by decide), fun z => absurd z (by decide), fun z => absurd z (by decide), fun z => absurd z (by decide), fun z => absurd z (by decide), fun _ z => absurd rfl z⟩
      · refine ⟨fun z => absurd z (by decide), fun z => absurd z (by decide), fun _ => rfl, fun z => absurd z (by decide), fun z => absurd z (by decide), fun z => absurd z (by decide), fun z => absurd z (by decide), fun z => absurd z (by decide), fun z => absurd z (by decide), fun _ _ z => absurd rfl z⟩
      · rw [← nI_0]
        refine rank_wp Fτ G G.2.2.1 (Nat.two_pow_pos o) (Or.inl rfl) (fun r τ2 hr _ _ F2 => hp _ _ (cnt_arm e ?_) (hF.tr F2))
        refine ⟨fun z => absurd z (by decide), fun z => absurd z (by decide), fun z => absurd z (by decide), fun _ => ⟨r, hr rfl, rfl⟩, fun z => absurd z (by decide), fun z => absurd z (by decide), fun z => absurd z (by decide), fun z => absurd z (by decide), fun z => absurd z (by decide), fun _ _ _ z => absurd rfl z⟩
      · refine ⟨fun z => absurd z (by decide), fun z => absurd z (by decide), fun z => absurd z (by decide), fun z => absurd z (by decide), fun _ => rfl, fun z => absurd z (by decide), fun z => absurd z (by decide), fun z => absurd z (by decide), fun z => absurd z (by decide), fun _ _ _ _ z => absurd rfl z⟩
      · have fit := hfit e
        subst e
        exact hp _ _ (cnt_arm rfl ⟨fun z => absurd z (by decide), fun z => absurd z (by decide), fun z => absurd z (by decide), fun z => absurd z (by decide), fun z => absurd z (by decide), fun _ => ⟨fun z => absurd fit z, fun _ => rfl⟩, fun z => absurd z (by decide), fun z => absurd z (by decide), fun z => absurd z (by decide), fun _ _ _ _ _ z => absurd rfl z⟩) hF
      · subst e
        exact hp _ _ (cnt_arm rfl ⟨fun z => absurd z (by decide), fun z => absurd z (by decide), fun z => absurd z (by decide), fun z => absurd z (by decide), fun z => absurd z (by decide), fun z => absurd z (by decide), fun _ => rfl, fun z => absurd z (by decide), fun z => absurd z (by decide), fun _ _ _ _ _ _ z => absurd rfl z⟩) hF
      · subst e
        exact hp _ _ (cnt_arm rfl ⟨fun z => absurd z (by decide), fun z => absurd z (by decide), fun z => absurd z (by decide), fun z => absurd z (by decide), fun z => absurd z (by decide), fun z => absurd z (by decide), fun z => absurd z (by decide), fun _ => rfl, fun z => absurd z (by decide), fun _ _ _ _ _ _ _ z => absurd rfl z⟩) hF
      · refine ⟨fun z => absurd z (by decide), fun z => absurd z (by decide), fun z => absurd z (by decide), fun z => absurd z (by decide), fun z => absurd z (by decide), fun z => absurd z (by decide), fun z => absurd z (by decide), fun z => absurd z (by decide), fun _ => Fτ.2.2.1, fun _ _ _ _ _ _ _ _ z => absurd rfl z⟩
      · exfalso
        rw [Int32.toInt_toInt64, l0] at h1
        rw [Int32.toInt_toInt64, l8] at h2
        rcases sw_out8 c0 c1 c2 c3 c4 c5 c6 c7 c8 with z | z <;> omega
    refine ⟨fun c5 => cntLoop_wp F G (FrD.rf σ) (fun z => absurd z c5) (fun τ hF => tail τ hF (fun z => absurd z c5)), fun c5 => onSet_wp F G (doFit_wp F G G.2.2.1 (fun r τ hr hF => ⟨fun q => ?_, fun q => ?_⟩))⟩
    · have fit : FitW n ws ss M := Classical.not_not.mp (fun z => q (hr.2 z))
      exact cntLoop_wp F G hF (fun _ => fit) (fun τ2 hF2 => tail τ2 hF2 (fun _ => fit))
    · have nf : ¬ FitW n ws ss M := fun z => absurd (hr.1 z) (by rw [q]; decide)
      exact hp _ _ (cnt_arm c5 ⟨fun z => absurd z (by decide), fun z => absurd z (by decide), fun z => absurd z (by decide), fun z => absurd z (by decide), fun z => absurd z (by decide), fun _ => ⟨fun _ => rfl, fun z => absurd z nf⟩, fun z => absurd z (by decide), fun z => absurd z (by decide), fun z => absurd z (by decide), fun _ _ _ _ _ z => absurd rfl z⟩) hF
  · have hout2 : ¬ (0 ≤ x.toInt ∧ x.toInt ≤ 8) := fun z => hout (by rw [Int32.toInt_toInt64, l0, l8]; exact z)
    exact hp _ _ ⟨fun z => absurd z (big 0 (by decide) (by decide) hout2), fun z => absurd z (big 1 (by decide) (by decide) hout2), fun z => absurd z (big 2 (by decide) (by decide) hout2), fun z => absurd z (big 3 (by decide) (by decide) hout2), fun z => absurd z (big 4 (by decide) (by decide) hout2), fun z => absurd z (big 5 (by decide) (by decide) hout2), fun z => absurd z (big 6 (by decide) (by decide) hout2), fun z => absurd z (big 7 (by decide) (by decide) hout2), fun z => absurd z (big 8 (by decide) (by decide) hout2), fun _ _ _ _ _ _ _ _ _ => rfl⟩ (FrD.rf σ)
end CNT
