/-! ===== known, advice, group: both sides ===== -/
section KNW
variable {n k o M Bm : Nat} {ws ss os : Nat → Nat}
def KnA (n k o M : Nat) (ws os : Nat → Nat) (x r : Int32) : Prop := ((¬ ∃ j, j < n ∧ x = nI j) → r = -101) ∧ ∀ j, j < n → x = nI j → (KnP n k o M ws os 0 j → r = 1) ∧ (¬ KnP n k o M ws os 0 j → r = 0)
theorem knA_one {x r r' : Int32} (h : KnA n k o M ws os x r) (h' : KnA n k o M ws os x r') : r = r' := by
  by_cases q : ∃ j, j < n ∧ x = nI j
  · obtain ⟨j, hj, e⟩ := q
    by_cases z : KnP n k o M ws os 0 j
    · rw [(h.2 j hj e).1 z, (h'.2 j hj e).1 z]
    · rw [(h.2 j hj e).2 z, (h'.2 j hj e).2 z]
  · rw [h.1 q, h'.1 q]
theorem knownC_wp {σ : St} (F : NetF σ n k o M Bm ws ss os) (G : NetG n k o M Bm ws ss os) {x : Int32} {post : Int32 → St → Prop} (hp : ∀ r τ, KnA n k o M ws os x r → FrP σ τ → post r τ) : wp_X6_known x σ post := by
  have n10 := G.1.2.1
  unfold wp_X6_known
  refine hasLine_wp F.1.1 n10 (fun q => ⟨fun z => absurd rfl z, fun _ => hp _ _ ⟨fun _ => rfl, fun j hj e => absurd ⟨j, hj, e⟩ q⟩ (FrP.rf σ)⟩) (fun j hj hl => ⟨fun _ => ?_, fun z => absurd z (by decide)⟩)
  refine linesC_wp F G (fun S τ hS hb Fr => ?_)
  rw [hl]
  refine bitOf_wp (m31 hS n10) (by omega) (hp _ τ ⟨fun q => absurd ⟨j, hj, hl⟩ q, fun j2 hj2 e2 => ?_⟩ Fr)
  have : j2 = j := (nI_eq (by omega) (by omega)).mp (e2.symm.trans hl)
  rw [this]
  refine ⟨fun z => ?_, fun z => ?_⟩
  · rw [if_pos ((hb j hj).mpr z)]
  · rw [if_neg (fun y => z ((hb j hj).mp y))]
theorem knownM_wp {σ : St} (F : NetM σ n k o M Bm ws ss os) (G : NetG n k o M Bm ws ss os) {x : Int32} {post : Int32 → St → Prop} (hp : ∀ r τ, KnA n k o M ws os x r → FrD σ τ → post r τ) : wp_X7_known x σ post := by
  have n10 := G.1.2.1
  unfold wp_X7_known
  refine noLine_wp F.1 n10 (fun q => ⟨fun z => absurd z (by decide), fun _ => hp _ _ ⟨fun _ => rfl, fun j hj e => absurd ⟨j, hj, e⟩ q⟩ (FrD.rf σ)⟩) (fun j hj hl => ⟨fun _ => ?_, fun z => absurd rfl z⟩)
  have mk : ∀ r τ, ((KnP n k o M ws os 0 j → r = 1) ∧ (¬ KnP n k o M ws os 0 j → r = 0)) → FrD σ τ → post r τ := fun r τ h a => hp r τ ⟨fun q => absurd ⟨j, hj, hl⟩ q, fun j2 hj2 hl2 => by
    have : j2 = j := (nI_eq (by omega) (by omega)).mp (hl2.symm.trans hl)
    rw [this]; exact h⟩ a
  rw [hl, ← nI_0]
  refine isKnown_wp F G (Nat.two_pow_pos o) hj (fun r τ hr hF => ?_)
  rw [nI_0]
  exact ⟨fun z => mk _ _ ⟨fun y => absurd (hr.1 y) (by rw [z]; decide), fun _ => rfl⟩ hF, fun z => mk _ _ ⟨fun _ => rfl, fun y => absurd (hr.2 y) z⟩ hF⟩
def AdA (n k o M : Nat) (ws os : Nat → Nat) (x r : Int32) : Prop := ((¬ ∃ s, s < 2 ^ n ∧ x = nI s) → r = -102) ∧ ∀ s, s < 2 ^ n → x = nI s → ((¬ ∃ S, S < 2 ^ o ∧ AdvP n k o M ws os s S) → r = -1) ∧ ∀ O, LeastA n k o M ws os s O → r = nI O
theorem least_ex {s : Nat} (h : ∃ S, S < 2 ^ o ∧ AdvP n k o M ws os s S) : ∃ O, LeastA n k o M ws os s O := by
  obtain ⟨S0, h1, h2⟩ := h
  obtain ⟨κ, ⟨S, s1, s2, s3⟩, s4⟩ := pk_least (fun κ => ∃ S, S < 2 ^ o ∧ AdvP n k o M ws os s S ∧ κ = pc S * 1024 + S) ⟨_, S0, h1, h2, rfl⟩
  refine ⟨S, s1, s2, fun S' h1 h2 => ?_⟩
  rcases Nat.lt_or_ge (pc S' * 1024 + S') (pc S * 1024 + S) with y | y
  · exact absurd ⟨S', h1, h2, rfl⟩ (s4 _ (by omega))
  · exact y
theorem adA_one {x r r' : Int32} (h : AdA n k o M ws os x r) (h' : AdA n k o M ws os x r') : r = r' := by
  by_cases q : ∃ s, s < 2 ^ n ∧ x = nI s
  · obtain ⟨s, hs, e⟩ := q
    by_cases z : ∃ S, S < 2 ^ o ∧ AdvP n k o M ws os s S
    · obtain ⟨O, hO⟩ := least_ex z
      rw [(h.2 s hs e).2 O hO, (h'.2 s hs e).2 O hO]
    · rw [(h.2 s hs e).1 z, (h'.2 s hs e).1 z]
  · rw [h.1 q, h'.1 q]
theorem adviceC_wp {σ : St} (F : NetF σ n k o M Bm ws ss os) (G : NetG n k o M Bm ws ss os) {x : Int32} {post : Int32 → St → Prop} (hp : ∀ r τ, AdA n k o M ws os x r → FrP σ τ → post r τ) : wp_X6_advice x σ post := by
  have n10 := G.1.2.1
  unfold wp_X6_advice
  refine isSet_wp F.1.1 n10 (fun q => ⟨fun z => absurd rfl z, fun _ => hp _ _ ⟨fun _ => rfl, fun s hs e => absurd ⟨s, hs, e⟩ q⟩ (FrP.rf σ)⟩) (fun s hs hx => ⟨fun _ => ?_, fun z => absurd z (by decide)⟩)
  rw [hx]
  refine few_wp F G hs (fun r τ h1 h2 Fr => hp r τ ⟨fun q => absurd ⟨s, hs, hx⟩ q, fun s2 hs2 e2 => ?_⟩ Fr)
  have : s2 = s := (nI_eq (m31 hs2 n10) (m31 hs n10)).mp (e2.symm.trans hx)
  rw [this]; exact ⟨h1, h2⟩
theorem advises_wp {σ : St} (F : NetM σ n k o M Bm ws ss os) (G : NetG n k o M Bm ws ss os) {s S : Nat} (hs : s < 2 ^ n) (hS : S < 2 ^ o) {post : Int32 → St → Prop} (hp : ∀ r τ, ((AdvP n k o M ws os s S → r = 1) ∧ (¬ AdvP n k o M ws os s S → r = 0)) → FrD σ τ → post r τ) : wp_X7_advises (nI S) (nI s) σ post := by
  have n10 := G.1.2.1
  unfold wp_X7_advises
  obtain ⟨f, hf⟩ := lupE (fun f i (p : Int32 × St) => lp_X7_advises_5 post f (nI S) (nI s) p.1 (nI i) p.2) (fun i p => FrD σ p.2 ∧ bz p.1 ∧ (p.1 = 1 ↔ ∀ l, l < i → s.testBit l = true → KnP n k o M ws os S l)) n
    (fun f p hp0 => by
      obtain ⟨x, τ⟩ := p
      obtain ⟨h1, h2, h3⟩ := hp0
      show lp_X7_advises_5 post (f + 1) (nI S) (nI s) x (nI n) τ
      unfold lp_X7_advises_5
      rw [(h1.1 0 (by decide) : gI τ 0 = _), F.1]
      refine ⟨fun _ => ⟨h2, hp x τ ⟨fun z => h3.mpr z, fun z => ?_⟩ h1⟩, fun q => absurd (nI_le (Nat.le_refl n) (by omega)) q⟩
      rcases h2 with e | e
      · exact e
      · exact absurd (h3.mp e) z)
    (fun f i p hi hp0 ih => by
      obtain ⟨x, τ⟩ := p
      obtain ⟨h1, h2, h3⟩ := hp0
      have h1 : FrD σ τ := h1
      have h2 : bz x := h2
      have h3 : x = 1 ↔ ∀ l, l < i → s.testBit l = true → KnP n k o M ws os S l := h3
      show lp_X7_advises_5 post (f + 1) (nI S) (nI s) x (nI i) τ
      unfold lp_X7_advises_5
      rw [(h1.1 0 (by decide) : gI τ 0 = _), F.1, bit_at (m31 hs n10) (by omega)]
      refine ⟨fun q => absurd q (nI_ge hi (by omega)), fun _ => ⟨fun q => ⟨h2, hp x τ ⟨fun z => ?_, fun _ => q⟩ h1⟩, fun q => ?_⟩⟩
      · exact h3.mpr (fun l hl hb => z l (by omega) hb)
      · have x1 := h3.mp (h2.elim (fun z => absurd z q) id)
        refine ⟨fun z v hv => ?_, fun z => isKnown_wp (netM_fr F h1.m) G hS hi (fun r τ2 hr hF => ⟨fun y v hv => ?_, fun y v hv => ?_⟩)⟩
        · rw [hv, nI_1]
          refine ih (1, τ) ⟨h1, bz_1, ⟨fun _ l hl hb => ?_, fun _ => rfl⟩⟩
          by_cases e : l = i
          · rw [e, (bit_0 _).mp z] at hb; cases hb
          · exact x1 l (by omega) hb
        · rw [hv, nI_1]
          refine ih (0, τ2) ⟨h1.tr hF, bz_0, ⟨fun w => absurd (show (0 : Int32) = 1 from w) (by decide), fun w => ?_⟩⟩
          have := hr.1 (w i (by omega) ((bit_ne0 _).mp z))
          rw [y] at this; exact absurd this (by decide)
        · rw [hv, nI_1]
          refine ih (1, τ2) ⟨h1.tr hF, bz_1, ⟨fun _ l hl hb => ?_, fun _ => rfl⟩⟩
          by_cases e : l = i
          · rw [e]; exact Classical.not_not.mp (fun w => y (hr.2 w))
          · exact x1 l (by omega) hb)
    (Nat.zero_le n) (s := ((1 : Int32), σ)) ⟨FrD.rf σ, bz_1, ⟨fun _ l hl => absurd hl (Nat.not_lt_zero l), fun _ => rfl⟩⟩
  have hf2 : lp_X7_advises_5 post f (nI S) (nI s) 1 (nI 0) σ := hf
  rw [nI_0] at hf2
  exact ⟨f, hf2⟩
theorem pc_lt {S b : Nat} (h : S < 2 ^ b) : pc S ≤ b := by
  unfold pc
  by_cases q : b ≤ 10
  · rw [show 10 = b + (10 - b) by omega, fb_ct_split]
    have : fb_ct (fun i => S.testBit (b + i)) (10 - b) = 0 := fb_ct_zero.mpr (fun i _ => bits_of_lt h (by omega))
    rw [this, Nat.add_zero]
    exact fb_ct_le _ b
  · have := fb_ct_le (fun i => S.testBit i) 10; omega
theorem adviceM_wp {σ : St} (F : NetM σ n k o M Bm ws ss os) (G : NetG n k o M Bm ws ss os) {x : Int32} {post : Int32 → St → Prop} (hp : ∀ r τ, AdA n k o M ws os x r → FrD σ τ → post r τ) : wp_X7_advice x σ post := by
  have n10 := G.1.2.1
  have o10 := G.2.1
  have o31 : 2 ^ o < 2 ^ 31 := Nat.pow_lt_pow_right (by decide) (by omega)
  unfold wp_X7_advice
  refine noSet_wp F.1 n10 nI_0.symm (by decide) (fun q => ⟨fun z => absurd z (by decide), fun _ => hp _ _ ⟨fun _ => rfl, fun s hs e => absurd ⟨s, Nat.zero_le s, hs, e⟩ q⟩ (FrD.rf σ)⟩) (fun s _ hs hx => ⟨fun _ => ?_, fun z => absurd rfl z⟩)
  have mk : ∀ r τ, (((¬ ∃ S, S < 2 ^ o ∧ AdvP n k o M ws os s S) → r = -1) ∧ ∀ O, LeastA n k o M ws os s O → r = nI O) → FrD σ τ → post r τ := fun r τ h a => hp r τ ⟨fun q => absurd ⟨s, hs, hx⟩ q, fun s2 hs2 e2 => by
    have : s2 = s := (nI_eq (m31 hs2 n10) (m31 hs n10)).mp (e2.symm.trans hx)
    rw [this]; exact h⟩ a
  rw [hx]
  obtain ⟨f, hf⟩ := lupE (fun f c (τ : St) => lp_X7_advice_14 post f (nI s) (nI c) τ) (fun c τ => FrD σ τ ∧ ∀ S, S < 2 ^ o → AdvP n k o M ws os s S → c ≤ pc S) (o + 1)
    (fun f τ hτ => by
      unfold lp_X7_advice_14
      rw [hτ.1.1 2 (by decide), F.2.2.1]
      refine ⟨fun _ => ?_, fun q => absurd (nI_lt (Nat.lt_succ_self o) (by omega)) q⟩
      have none : ¬ ∃ S, S < 2 ^ o ∧ AdvP n k o M ws os s S := fun ⟨S, h1, h2⟩ => by
        have := hτ.2 S h1 h2
        have := pc_lt h1
        omega
      exact mk _ _ ⟨fun _ => rfl, fun O hO => absurd ⟨O, hO.1, hO.2.1⟩ none⟩ hτ.1)
    (fun f c τ hc hτ ih => by
      obtain ⟨t1, t2⟩ := hτ
      unfold lp_X7_advice_14
      rw [t1.1 2 (by decide), F.2.2.1]
      refine ⟨fun q => absurd q (nI_nlt (show c ≤ o by omega) (by omega)), fun _ => ?_⟩
      obtain ⟨g, hg⟩ := lupE (fun g t (ρ : St) => lp_X7_advice_24 post (lp_X7_advice_14 post f) g (nI s) (nI c) (nI t) ρ) (fun t ρ => FrD σ ρ ∧ ∀ S, S < t → AdvP n k o M ws os s S → pc S ≠ c) (2 ^ o)
        (fun g ρ hρ => by
          unfold lp_X7_advice_24
          rw [hρ.1.1 2 (by decide), F.2.2.1, one_shl (by omega)]
          refine ⟨fun _ v hv => ?_, fun q => absurd (nI_le (Nat.le_refl _) o31) q⟩
          rw [hv, nI_1]
          refine ih ρ ⟨hρ.1, fun S h1 h2 => ?_⟩
          have a := t2 S h1 h2
          have b := hρ.2 S h1 h2
          omega)
        (fun g t ρ ht hρ ih2 => by
          have l10 : t < 1024 := Nat.lt_of_lt_of_le ht (Nat.pow_le_pow_right (by decide) o10)
          have pt := pc10 t
          have nxt : ∀ ρ2, FrD σ ρ2 → (AdvP n k o M ws os s t → pc t ≠ c) → ∀ v, v = nI t + 1 → lp_X7_advice_24 post (lp_X7_advice_14 post f) g (nI s) (nI c) v ρ2 := fun ρ2 h1 h2 v hv => by
            rw [hv, nI_1]
            refine ih2 ρ2 ⟨h1, fun S hS hA => ?_⟩
            by_cases e : S = t
            · rw [e] at hA ⊢; exact h2 hA
            · exact hρ.2 S (by omega) hA
          unfold lp_X7_advice_24
          rw [hρ.1.1 2 (by decide), F.2.2.1, one_shl (by omega)]
          refine ⟨fun q => absurd q (nI_ge ht o31), fun _ => bits_wp l10 ⟨fun q => ?_, fun q => ?_⟩⟩
          · exact nxt ρ hρ.1 (fun _ e => q (by rw [e]))
          · have e := (nI_eq (show pc t < 2 ^ 31 by omega) (show c < 2 ^ 31 by omega)).mp q
            refine advises_wp (netM_fr F hρ.1.m) G hs ht (fun r ρ2 hr hF => ⟨fun z => nxt ρ2 (hρ.1.tr hF) (fun y => absurd (hr.1 y) (by rw [z]; decide)), fun z => ?_⟩)
            have adv : AdvP n k o M ws os s t := Classical.not_not.mp (fun y => z (hr.2 y))
            refine mk _ _ ⟨fun y => absurd ⟨t, ht, adv⟩ y, fun O hO => ?_⟩ (hρ.1.tr hF)
            have a := hO.2.2 t ht adv
            have b := t2 O hO.1 hO.2.1
            have lO : O < 1024 := Nat.lt_of_lt_of_le hO.1 (Nat.pow_le_pow_right (by decide) o10)
            have : pc O = c := by omega
            rcases Nat.lt_or_ge O t with y | y
            · exact absurd this (hρ.2 O y hO.2.1)
            · have : O = t := by omega
              rw [this])
        (Nat.zero_le _) (s := τ) ⟨t1, fun S hS => absurd hS (Nat.not_lt_zero S)⟩
      rw [nI_0] at hg
      exact ⟨g, hg⟩)
    (Nat.zero_le _) (s := σ) ⟨FrD.rf σ, fun S _ _ => Nat.zero_le _⟩
  rw [nI_0] at hf
  exact ⟨f, hf⟩
/-- the lines that are alike -/
def Alk (n k M : Nat) (ws : Nat → Nat) (l S : Nat) : Prop := S < 2 ^ n ∧ ∀ j, j < n → (S.testBit j = true ↔ ∀ w, w < k → M.testBit w = true → (ws w).testBit j = (ws w).testBit l)
theorem alk_one {l S S' : Nat} (h : Alk n k M ws l S) (h' : Alk n k M ws l S') : S = S' := Nat.eq_of_testBit_eq (fun j => by
  by_cases q : j < n
  · have := (h.2 j q).trans (h'.2 j q).symm
    cases e : S.testBit j <;> cases e' : S'.testBit j <;> rw [e, e'] at this
    · exact absurd (this.mpr rfl) (by decide)
    · exact absurd (this.mp rfl) (by decide)
  · rw [bits_of_lt h.1 (by omega), bits_of_lt h'.1 (by omega)])
theorem full_bit (n j : Nat) : (2 ^ n - 1).testBit j = decide (j < n) := Nat.testBit_two_pow_sub_one n j
theorem alikeC_wp {σ : St} (F : NetF σ n k o M Bm ws ss os) (G : NetG n k o M Bm ws ss os) {l : Nat} (hl : l < n) {post : Int32 → St → Prop} (hp : ∀ S, Alk n k M ws l S → post (nI S) σ) : wp_X2_linesAlike (nI l) σ post := by
  obtain ⟨⟨c1, c2, c3, c4⟩, h2, h3, h4, h5⟩ := F
  obtain ⟨⟨g1, n10, k10, g4, g5⟩, g6, g7, g8, g9⟩ := G
  have n0 := Nat.two_pow_pos n
  unfold wp_X2_linesAlike
  intro v1 hv1
  rw [c1, one_shl (by omega), show (1 : Int32) = nI 1 from rfl, pk_sub n0] at hv1
  rw [hv1]
  obtain ⟨f, hf⟩ := lupE (fun f w (x : Int32) => lp_X2_linesAlike_11 post f (nI l) x (nI w) σ) (fun w x => ∃ S, x = nI S ∧ S < 2 ^ n ∧ ∀ j, j < n → (S.testBit j = true ↔ ∀ u, u < w → M.testBit u = true → (ws u).testBit j = (ws u).testBit l)) k
    (fun f x hx => by
      obtain ⟨S, e, s1, s2⟩ := hx
      unfold lp_X2_linesAlike_11
      rw [c2, e]
      exact ⟨fun _ => hp S ⟨s1, s2⟩, fun q => absurd (nI_le (Nat.le_refl k) (by omega)) q⟩)
    (fun f w x hw hx ih => by
      obtain ⟨S, e, s1, s2⟩ := hx
      unfold lp_X2_linesAlike_11
      rw [c2, e, nI_clamp (show w < 2 ^ 31 by omega)]
      refine ⟨fun q => absurd q (nI_ge hw (by omega)), fun _ => isOn_wp h3 (m31 g7 k10) (by omega) ⟨fun q v hv => ?_, fun q => ⟨idx10 (by omega), (c3 w hw).symm ▸ bitOf_wp (m31 (g4 w hw).2 n10) (by omega) ⟨fun z => ⟨idx10 (by omega), fun v hv u hu => ?_⟩, fun z => ⟨idx10 (by omega), fun v hv u hu => ?_⟩⟩⟩⟩⟩
      · rw [hv, nI_1]
        refine ih (nI S) ⟨S, rfl, s1, fun j hj => ?_⟩
        rw [s2 j hj]
        refine ⟨fun h u hu hb => ?_, fun h u hu hb => h u (by omega) hb⟩
        by_cases e : u = w
        · rw [e, (bit_0 _).mp q] at hb; cases hb
        · exact h u (by omega) hb
      · have on := (bit_ne0 _).mp q
        have zl := (bit_ne1 _).mp z
        have ev : v = nI (wo S (ws w)) := by rw [hv, c3 w hw]; exact and_not S (ws w)
        rw [hu, nI_1]
        refine ih v ⟨wo S (ws w), ev, wo_lt s1, fun j hj => ?_⟩
        rw [wo_bit, Bool.and_eq_true, s2 j hj, Bool.not_eq_true']
        refine ⟨fun ⟨a, b⟩ u hu hb => ?_, fun h => ⟨fun u hu hb => h u (by omega) hb, by rw [h w (by omega) on]; exact zl⟩⟩
        by_cases e : u = w
        · rw [e, zl]; exact b
        · exact a u (by omega) hb
      · have on := (bit_ne0 _).mp q
        have zl := (bit_1 _).mp z
        have ev : v = nI (S &&& ws w) := by rw [hv, c3 w hw]; exact (and_or_bit _ _).1
        rw [hu, nI_1]
        refine ih v ⟨S &&& ws w, ev, lt_of_bits (fun i hi => by rw [Nat.testBit_and, bits_of_lt s1 hi]; rfl), fun j hj => ?_⟩
        rw [Nat.testBit_and, Bool.and_eq_true, s2 j hj]
        refine ⟨fun ⟨a, b⟩ u hu hb => ?_, fun h => ⟨fun u hu hb => h u (by omega) hb, by rw [h w (by omega) on]; exact zl⟩⟩
        by_cases e : u = w
        · rw [e, zl]; exact b
        · exact a u (by omega) hb)
    (Nat.zero_le k) (s := nI (2 ^ n - 1)) ⟨2 ^ n - 1, rfl, by omega, fun j hj => ⟨fun _ u hu => absurd hu (Nat.not_lt_zero u), fun _ => by rw [full_bit, decide_eq_true hj]⟩⟩
  rw [nI_0] at hf
  exact ⟨f, hf⟩
theorem overLine_wp {σ : St} (F : NetM σ n k o M Bm ws ss os) (G : NetG n k o M Bm ws ss os) {l : Nat} (hl : l < n) {post : Int32 → St → Prop} (hp : post (nI (msk (fun w => M.testBit w && (ws w).testBit l) k)) σ) : wp_X7_overLine (nI l) σ post := by
  obtain ⟨a1, a2, a3, a4, a5, a6, a7, a8⟩ := F
  have n10 := G.1.2.1
  have k10 := G.1.2.2.1
  unfold wp_X7_overLine
  obtain ⟨f, hf⟩ := lupE (fun f w (x : Int32) => lp_X7_overLine_4 post f (nI l) x (nI w) σ) (fun w x => x = nI (msk (fun w => M.testBit w && (ws w).testBit l) w)) k
    (fun f x hx => by
      unfold lp_X7_overLine_4
      rw [a2, hx]
      exact ⟨fun _ => hp, fun q => absurd (nI_le (Nat.le_refl k) (by omega)) q⟩)
    (fun f w x hw hx ih => by
      have no : (M.testBit w && (ws w).testBit l) = false → msk (fun w => M.testBit w && (ws w).testBit l) (w + 1) = msk (fun w => M.testBit w && (ws w).testBit l) w := fun h => by
        show msk _ w + (if (M.testBit w && (ws w).testBit l) = true then 2 ^ w else 0) = _
        rw [h]; rfl
      unfold lp_X7_overLine_4
      rw [a2, nI_clamp (show w < 2 ^ 31 by omega), a6 w hw, a4 w hw, bit_at (m31 (G.1.2.2.2.1 w hw).2 n10) (by omega), one_shl (by omega)]
      refine ⟨fun q => absurd q (nI_ge hw (by omega)), fun _ => ⟨idx10 (by omega), fun q v hv u hu => ?_, fun q => ⟨idx10 (by omega), fun z v hv u hu => ?_, fun z v hv u hu => ?_⟩⟩⟩
      · rw [hu, nI_1]
        refine ih v ?_
        rw [hv, orz, hx, no (by rw [(bit_0 _).mp q]; rfl)]
      · rw [hu, nI_1]
        refine ih v ?_
        rw [hv, orz, hx, no (by rw [(bit_ne1 _).mp z, Bool.and_false])]
      · rw [hu, nI_1]
        refine ih v ?_
        rw [hv, hx, (and_or_bit _ _).2, msk_or]
        show _ = nI (msk _ w + (if (M.testBit w && (ws w).testBit l) = true then 2 ^ w else 0))
        rw [(bit_ne0 _).mp q, (bit_1 _).mp z]; rfl)
    (Nat.zero_le k) (s := nI 0) rfl
  rw [nI_0] at hf
  exact ⟨f, hf⟩
theorem groupOf_wp {σ : St} (F : NetM σ n k o M Bm ws ss os) (G : NetG n k o M Bm ws ss os) {l : Nat} (hl : l < n) {post : Int32 → St → Prop} (hp : ∀ S, Alk n k M ws l S → post (nI S) σ) : wp_X7_groupOf (nI l) σ post := by
  have n10 := G.1.2.1
  have k10 := G.1.2.2.1
  have same : ∀ j, (nI (msk (fun w => M.testBit w && (ws w).testBit j) k) = nI (msk (fun w => M.testBit w && (ws w).testBit l) k)) ↔ ∀ w, w < k → M.testBit w = true → (ws w).testBit j = (ws w).testBit l := fun j => by
    rw [nI_eq (m31 (msk_lt _ k) k10) (m31 (msk_lt _ k) k10)]
    constructor
    · intro h w hw hb
      have := msk_inj h w hw
      rw [hb, Bool.true_and, Bool.true_and] at this
      exact this
    · intro h
      refine Nat.eq_of_testBit_eq (fun w => ?_)
      rw [msk_bit, msk_bit]
      by_cases q : w < k
      · rw [decide_eq_true q, Bool.true_and, Bool.true_and]
        cases e : M.testBit w
        · rfl
        · rw [h w q e]
      · rw [decide_eq_false q]; rfl
  unfold wp_X7_groupOf
  obtain ⟨f, hf⟩ := lupE (fun f j (x : Int32) => lp_X7_groupOf_4 post f (nI l) x (nI j) σ) (fun j x => ∃ S, x = nI S ∧ S < 2 ^ j ∧ ∀ i, i < j → (S.testBit i = true ↔ ∀ w, w < k → M.testBit w = true → (ws w).testBit i = (ws w).testBit l)) n
    (fun f x hx => by
      obtain ⟨S, e, s1, s2⟩ := hx
      unfold lp_X7_groupOf_4
      rw [F.1, e]
      exact ⟨fun _ => hp S ⟨s1, s2⟩, fun q => absurd (nI_le (Nat.le_refl n) (by omega)) q⟩)
    (fun f j x hj hx ih => by
      obtain ⟨S, e, s1, s2⟩ := hx
      unfold lp_X7_groupOf_4
      rw [F.1, e]
      refine ⟨fun q => absurd q (nI_ge hj (by omega)), fun _ => overLine_wp F G hj (overLine_wp F G hl ?_)⟩
      rw [same j, one_shl (by omega)]
      refine ⟨fun q v hv u hu => ?_, fun q v hv u hu => ?_⟩
      · rw [hu, nI_1]
        rw [orz] at hv
        refine ih v ⟨S, hv, Nat.lt_of_lt_of_le s1 (Nat.pow_le_pow_right (by decide) (by omega)), fun i hi => ?_⟩
        by_cases z : i = j
        · rw [z, bits_of_lt s1 (Nat.le_refl j)]
          exact ⟨fun y => absurd y (by decide), fun y => absurd y q⟩
        · exact s2 i (by omega)
      · rw [hu, nI_1]
        rw [(and_or_bit _ _).2] at hv
        refine ih v ⟨S ||| 2 ^ j, hv, lt_of_bits (fun i hi => by rw [Nat.testBit_or, bits_of_lt s1 (by omega), Nat.testBit_two_pow, decide_eq_false (by omega)]; rfl), fun i hi => ?_⟩
        rw [Nat.testBit_or, Nat.testBit_two_pow, Bool.or_eq_true, decide_eq_true_iff]
        by_cases z : i = j
        · rw [z]; exact ⟨fun _ => q, fun _ => Or.inr rfl⟩
        · rw [s2 i (by omega)]
          exact ⟨fun y => y.resolve_right (fun w => z w.symm), Or.inl⟩)
    (Nat.zero_le n) (s := nI 0) ⟨0, rfl, Nat.one_pos, fun i hi => absurd hi (Nat.not_lt_zero i)⟩
  rw [nI_0] at hf
  exact ⟨f, hf⟩
def GrA (n k M : Nat) (ws : Nat → Nat) (x r : Int32) : Prop := ((¬ ∃ j, j < n ∧ x = nI j) → r = -101) ∧ ∀ j, j < n → x = nI j → ∃ S, Alk n k M ws j S ∧ r = nI S
theorem grA_one {x r r' : Int32} (h : GrA n k M ws x r) (h' : GrA n k M ws x r') : r = r' := by
  by_cases q : ∃ j, j < n ∧ x = nI j
  · obtain ⟨j, hj, e⟩ := q
    obtain ⟨S, s1, s2⟩ := h.2 j hj e
    obtain ⟨S', s1', s2'⟩ := h'.2 j hj e
    rw [s2, s2', alk_one s1 s1']
  · rw [h.1 q, h'.1 q]
theorem groupC_wp {σ : St} (F : NetF σ n k o M Bm ws ss os) (G : NetG n k o M Bm ws ss os) {x : Int32} {post : Int32 → St → Prop} (hp : ∀ r, GrA n k M ws x r → post r σ) : wp_X6_group x σ post := by
  have n10 := G.1.2.1
  unfold wp_X6_group
  refine hasLine_wp F.1.1 n10 (fun q => ⟨fun z => absurd rfl z, fun _ => hp _ ⟨fun _ => rfl, fun j hj e => absurd ⟨j, hj, e⟩ q⟩⟩) (fun j hj hl => ⟨fun _ => ?_, fun z => absurd z (by decide)⟩)
  rw [hl]
  refine alikeC_wp F G hj (fun S hS => hp _ ⟨fun q => absurd ⟨j, hj, hl⟩ q, fun j2 hj2 e2 => ?_⟩)
  have : j2 = j := (nI_eq (by omega) (by omega)).mp (e2.symm.trans hl)
  rw [this]; exact ⟨S, hS, rfl⟩
theorem groupM_wp {σ : St} (F : NetM σ n k o M Bm ws ss os) (G : NetG n k o M Bm ws ss os) {x : Int32} {post : Int32 → St → Prop} (hp : ∀ r, GrA n k M ws x r → post r σ) : wp_X7_group x σ post := by
  have n10 := G.1.2.1
  unfold wp_X7_group
  refine noLine_wp F.1 n10 (fun q => ⟨fun z => absurd z (by decide), fun _ => hp _ ⟨fun _ => rfl, fun j hj e => absurd ⟨j, hj, e⟩ q⟩⟩) (fun j hj hl => ⟨fun _ => ?_, fun z => absurd rfl z⟩)
  rw [hl]
  refine groupOf_wp F G hj (fun S hS => hp _ ⟨fun q => absurd ⟨j, hj, hl⟩ q, fun j2 hj2 e2 => ?_⟩)
  have : j2 = j := (nI_eq (by omega) (by omega)).mp (e2.symm.trans hl)
  rw [this]; exact ⟨S, hS, rfl⟩
end KNW
