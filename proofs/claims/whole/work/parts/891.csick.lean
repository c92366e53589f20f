/-! ===== the class's sick ===== -/
def FrK (σ τ : St) : Prop := (∀ i, i ≠ 16 → gI τ i = gI σ i) ∧ (∀ i, i ≠ 8 → gA τ i = gA σ i) ∧ (∀ i, gL τ i = gL σ i) ∧ ∀ i, gB τ i = gB σ i
theorem FrK.rf (σ : St) : FrK σ σ := ⟨fun _ _ => rfl, fun _ _ => rfl, fun _ => rfl, fun _ => rfl⟩
theorem FrK.tr {σ τ ρ : St} (h : FrK σ τ) (g : FrK τ ρ) : FrK σ ρ := ⟨fun i hi => (g.1 i hi).trans (h.1 i hi), fun i hi => (g.2.1 i hi).trans (h.2.1 i hi), fun i => (g.2.2.1 i).trans (h.2.2.1 i), fun i => (g.2.2.2 i).trans (h.2.2.2 i)⟩
theorem FrK.net {σ τ : St} {n k o M Bm : Nat} {ws ss os : Nat → Nat} (h : FrK σ τ) (F : NetF σ n k o M Bm ws ss os) : NetF τ n k o M Bm ws ss os := netF_fr F (fun i hi => h.1 i (by omega)) (fun i hi => h.2.1 i (by omega))
theorem add20_wp {σ : St} {L : List Nat} (hL : L.length < 252) (h : Hld (gA σ 8) (gI σ 16) L) {t : Nat} {post : St → Prop} (hp : ∀ τ, Hld (gA τ 8) (gI τ 16) (L ++ [t]) → FrK σ τ → post τ) : wp_X3_add_20 (nI t) σ post := by
  have i252 : (252 : Int32) = nI 252 := rfl
  unfold wp_X3_add_20
  rw [h.1, i252, nI_clamp (by omega)]
  refine ⟨fun q => absurd q (nI_ge hL (by decide)), fun _ => ⟨pk_in L.length 252 hL, fun σ2 e2 σ4 e4 => ?_⟩⟩
  have ga : ∀ i x, gA σ4 i x = if i = 8 ∧ x = L.length then nI t else gA σ i x := fun i x => by rw [e4, gA_sI, e2, gA_sA]
  refine hp σ4 (hld_snoc h (by rw [e4, gI_sI, if_pos rfl, e2, gI_sA]) (fun i => ?_)) ⟨fun i hi => by rw [e4, gI_sI, if_neg hi, e2, gI_sA], fun i hi => funext (fun x => by rw [ga, if_neg (fun z => hi z.1)]), fun i => by rw [e4, gL_sI, e2, gL_sA], fun i => by rw [e4, gB_sI, e2, gB_sA]⟩
  rw [ga]
  by_cases q : i = L.length
  · rw [if_pos ⟨rfl, q⟩, if_pos q]
  · rw [if_neg (fun z => q z.2), if_neg q]
theorem and_ne {a b : Nat} : a &&& b ≠ 0 ↔ ∃ j, a.testBit j = true ∧ b.testBit j = true := by
  constructor
  · intro h
    rcases Classical.em (∃ j, a.testBit j = true ∧ b.testBit j = true) with q | q
    · exact q
    · refine absurd (Nat.eq_of_testBit_eq (fun j => ?_)) h
      rw [Nat.testBit_and, Nat.zero_testBit]
      cases e : a.testBit j
      · rfl
      · cases e2 : b.testBit j
        · rfl
        · exact absurd ⟨j, e, e2⟩ q
  · rintro ⟨j, h1, h2⟩ h
    have : (a &&& b).testBit j = true := by rw [Nat.testBit_and, h1, h2]; rfl
    rw [h, Nat.zero_testBit] at this
    cases this
section CSK
variable {n k o M Bm : Nat} {ws ss os : Nat → Nat}
def SuP (n k M Bm : Nat) (ws : Nat → Nat) (S : Nat) : Prop := S < 2 ^ n ∧ ∀ j, j < n → (S.testBit j = true ↔ ∀ w, w < k → M.testBit w = true → Bm.testBit w = false → (ws w).testBit j = false)
theorem noGood_wp {σ : St} (F : NetF σ n k o M Bm ws ss os) (G : NetG n k o M Bm ws ss os) {post : Int32 → St → Prop} (hp : ∀ S, SuP n k M Bm ws S → post (nI S) σ) : wp_X4_linesOfNoGoodWay σ post := by
  obtain ⟨⟨c1, c2, c3, c4⟩, h2, h3, h4, h5⟩ := F
  obtain ⟨⟨g1, n10, k10, g4, g5⟩, g6, g7, g8, g9⟩ := G
  have n0 := Nat.two_pow_pos n
  unfold wp_X4_linesOfNoGoodWay
  intro v1 hv1
  rw [c1, one_shl (by omega), show (1 : Int32) = nI 1 from rfl, pk_sub n0] at hv1
  rw [hv1]
  obtain ⟨f, hf⟩ := lupE (fun f w (x : Int32) => lp_X4_linesOfNoGoodWay_11 post f x (nI w) σ) (fun w x => ∃ S, x = nI S ∧ S < 2 ^ n ∧ ∀ j, j < n → (S.testBit j = true ↔ ∀ u, u < w → M.testBit u = true → Bm.testBit u = false → (ws u).testBit j = false)) k
    (fun f x hx => by
      obtain ⟨S, e, s1, s2⟩ := hx
      unfold lp_X4_linesOfNoGoodWay_11
      rw [c2, e]
      exact ⟨fun _ => hp S ⟨s1, s2⟩, fun q => absurd (nI_le (Nat.le_refl k) (by omega)) q⟩)
    (fun f w x hw hx ih => by
      obtain ⟨S, e, s1, s2⟩ := hx
      have skip : (M.testBit w = true → Bm.testBit w = false → False) → ∀ v, v = nI w + 1 → lp_X4_linesOfNoGoodWay_11 post f (nI S) v σ := fun hn v hv => by
        rw [hv, nI_1]
        refine ih (nI S) ⟨S, rfl, s1, fun j hj => ?_⟩
        rw [s2 j hj]
        refine ⟨fun h u hu hb hc => ?_, fun h u hu hb hc => h u (by omega) hb hc⟩
        by_cases e : u = w
        · rw [e] at hb hc; exact (hn hb hc).elim
        · exact h u (by omega) hb hc
      unfold lp_X4_linesOfNoGoodWay_11
      rw [c2, e, nI_clamp (show w < 2 ^ 31 by omega)]
      refine ⟨fun q => absurd q (nI_ge hw (by omega)), fun _ => isOn_wp h3 (m31 g7 k10) (by omega) ⟨fun q => skip (fun y => by rw [(bit_0 _).mp q] at y; cases y), fun q => ?_⟩⟩
      rw [h4]
      refine bitOf_wp (m31 g8 k10) (by omega) ⟨fun z => skip (fun _ y => by rw [(bit_ne0 _).mp z] at y; cases y), fun z => ⟨idx10 (by omega), fun v hv u hu => ?_⟩⟩
      have on := (bit_ne0 _).mp q
      have gd := (bit_0 _).mp z
      have ev : v = nI (wo S (ws w)) := by rw [hv, c3 w hw]; exact and_not S (ws w)
      rw [hu, nI_1]
      refine ih v ⟨wo S (ws w), ev, wo_lt s1, fun j hj => ?_⟩
      rw [wo_bit, Bool.and_eq_true, s2 j hj, Bool.not_eq_true']
      refine ⟨fun ⟨a, b⟩ u hu hb hc => ?_, fun h => ⟨fun u hu hb hc => h u (by omega) hb hc, h w (by omega) on gd⟩⟩
      by_cases e : u = w
      · rw [e]; exact b
      · exact a u (by omega) hb hc)
    (Nat.zero_le k) (s := nI (2 ^ n - 1)) ⟨2 ^ n - 1, rfl, by omega, fun j hj => ⟨fun _ u hu => absurd hu (Nat.not_lt_zero u), fun _ => by rw [full_bit, decide_eq_true hj]⟩⟩
  rw [nI_0] at hf
  exact ⟨f, hf⟩
theorem meets_wp {σ : St} (F : NetF σ n k o M Bm ws ss os) (G : NetG n k o M Bm ws ss os) {S : Nat} (hS : S < 2 ^ n) {post : Int32 → St → Prop} (h1 : (∀ w, w < k → M.testBit w = true → Bm.testBit w = true → ws w &&& S ≠ 0) → post 1 σ) (h0 : (¬ ∀ w, w < k → M.testBit w = true → Bm.testBit w = true → ws w &&& S ≠ 0) → post 0 σ) : wp_X4_meetsAllBadWays (nI S) σ post := by
  obtain ⟨⟨c1, c2, c3, c4⟩, h2, h3, h4, h5⟩ := F
  obtain ⟨⟨g1, n10, k10, g4, g5⟩, g6, g7, g8, g9⟩ := G
  unfold wp_X4_meetsAllBadWays
  obtain ⟨f, hf⟩ := lupE (fun f w (_ : Unit) => lp_X4_meetsAllBadWays_2 post f (nI S) (nI w) σ) (fun w _ => ∀ u, u < w → M.testBit u = true → Bm.testBit u = true → ws u &&& S ≠ 0) k
    (fun f _ h => by
      unfold lp_X4_meetsAllBadWays_2
      rw [c2]
      exact ⟨fun _ => h1 h, fun q => absurd (nI_le (Nat.le_refl k) (by omega)) q⟩)
    (fun f w _ hw h ih => by
      have nxt : (M.testBit w = true → Bm.testBit w = true → ws w &&& S ≠ 0) → ∀ v, v = nI w + 1 → lp_X4_meetsAllBadWays_2 post f (nI S) v σ := fun hn v hv => by
        rw [hv, nI_1]
        refine ih () (fun u hu hb hc => ?_)
        by_cases e : u = w
        · rw [e] at hb hc ⊢; exact hn hb hc
        · exact h u (by omega) hb hc
      have lw : ws w &&& S < 2 ^ 31 := m31 (lt_of_bits (fun i hi => by rw [Nat.testBit_and, bits_of_lt hS hi, Bool.and_false])) n10
      have ez : nI (ws w &&& S) = 0 ↔ ws w &&& S = 0 := by rw [← nI_0]; exact nI_eq lw (by decide)
      have no : (M.testBit w = true → Bm.testBit w = true → False) → jn_X4_meetsAllBadWays_34 post (lp_X4_meetsAllBadWays_2 post f) (nI S) (nI w) σ := fun hn => by
        unfold jn_X4_meetsAllBadWays_34 jn_X4_meetsAllBadWays_35
        exact ⟨fun _ => nxt (fun a b => (hn a b).elim), fun z => absurd rfl z⟩
      unfold lp_X4_meetsAllBadWays_2
      rw [c2]
      refine ⟨fun q => absurd q (nI_ge hw (by omega)), fun _ => isOn_wp h3 (m31 g7 k10) (by omega) ⟨fun q => no (fun y => by rw [(bit_0 _).mp q] at y; cases y), fun q => ?_⟩⟩
      rw [h4]
      refine bitOf_wp (m31 g8 k10) (by omega) ⟨fun z => no (fun _ y => by rw [(bit_ne1 _).mp z] at y; cases y), fun z => ?_⟩
      unfold jn_X4_meetsAllBadWays_35
      rw [nI_clamp (show w < 2 ^ 31 by omega), c3 w hw, (and_or_bit _ _).1, ez]
      exact ⟨fun y => absurd y (by decide), fun _ => ⟨idx10 (by omega), fun y => nxt (fun _ _ => y), fun y => h0 (fun a => a w hw ((bit_ne0 _).mp q) ((bit_1 _).mp z) y)⟩⟩)
    (Nat.zero_le k) (s := ()) (fun u hu => absurd hu (Nat.not_lt_zero u))
  rw [nI_0] at hf
  exact ⟨f, hf⟩
theorem ex_iff {Su : Nat} (hS : SuP n k M Bm ws Su) {S : Nat} (h : S < 2 ^ n) : ExP k M Bm ws S ↔ (∀ j, S.testBit j = true → Su.testBit j = true) ∧ ∀ w, w < k → M.testBit w = true → Bm.testBit w = true → ws w &&& S ≠ 0 := by
  constructor
  · intro he
    refine ⟨fun j hj => (hS.2 j (bit_lt h hj)).mpr (fun w hw hb hc => ?_), fun w hw hb hc => (he w hw hb).mp hc⟩
    rw [Bool.eq_false_iff]
    intro z
    have := (he w hw hb).mpr (and_ne.mpr ⟨j, z, hj⟩)
    rw [hc] at this; cases this
  · rintro ⟨h1, h2⟩ w hw hb
    refine ⟨fun hc => h2 w hw hb hc, fun hc => ?_⟩
    obtain ⟨j, a, b⟩ := and_ne.mp hc
    cases e : Bm.testBit w with
    | true => rfl
    | false =>
      have := (hS.2 j (bit_lt h b)).mp (h1 j b) w hw hb e
      rw [a] at this; cases this
theorem sickC_wp {σ : St} (F : NetF σ n k o M Bm ws ss os) (G : NetG n k o M Bm ws ss os) {x : Int32} {post : Int32 → St → Prop} (hp : ∀ r τ, AnsL (fl (Lst (ExP k M Bm ws) (2 ^ n)) (2 ^ n)) x r → FrK σ τ → post r τ) : wp_X6_sick x σ post := by
  have n10 := G.1.2.1
  have nk : 2 ^ n ≤ 1024 := Nat.pow_le_pow_right (by decide) n10
  have i10 : (10 : Int32) = nI 10 := rfl
  unfold wp_X6_sick wp_X4_leastSets wp_X3_empty_20
  intro σ1 e1
  have F1 : FrK σ σ1 := by rw [e1]; exact ⟨fun i hi => by rw [gI_sI, if_neg hi], fun _ _ => rfl, fun _ => rfl, fun _ => rfl⟩
  have H1 : Hld (gA σ1 8) (gI σ1 16) [] := ⟨by rw [e1, gI_sI, if_pos rfl]; exact nI_0.symm, fun i hi => absurd hi (Nat.not_lt_zero i)⟩
  refine noGood_wp (F1.net F) G (fun Su hSu => ?_)
  have su31 := m31 hSu.1 n10
  have suN := hSu.1
  rw [i10]
  obtain ⟨f, hf⟩ := lupE (fun f t (p : Nat × St) => lp_X4_leastSets_18 (fun σ2 => wp_X3_answer_20 x σ2 (fun r3 σ4 => post r3 σ4)) f (nI Su) (nI p.1) (nI t) p.2) (fun t p => p.1 ≤ 10 ∧ FrK σ p.2 ∧ Hld (gA p.2 8) (gI p.2 16) (fl (fun S => ExP k M Bm ws S ∧ pc S = p.1) t) ∧ (∀ S, S < t → ExP k M Bm ws S → p.1 ≤ pc S) ∧ (p.1 = 10 ∨ ∃ S, S < t ∧ ExP k M Bm ws S ∧ pc S = p.1)) (Su + 1)
    (fun f p hp0 => by
      obtain ⟨c, τ⟩ := p
      obtain ⟨q1, q2, q3, q4, q5⟩ := hp0
      have q1 : c ≤ 10 := q1
      have q2 : FrK σ τ := q2
      have q3 : Hld (gA τ 8) (gI τ 16) (fl (fun S => ExP k M Bm ws S ∧ pc S = c) (Su + 1)) := q3
      have q4 : ∀ S, S < Su + 1 → ExP k M Bm ws S → c ≤ pc S := q4
      have q5 : c = 10 ∨ ∃ S, S < Su + 1 ∧ ExP k M Bm ws S ∧ pc S = c := q5
      show lp_X4_leastSets_18 _ (f + 1) (nI Su) (nI c) (nI (Su + 1)) τ
      unfold lp_X4_leastSets_18
      refine ⟨fun _ => ?_, fun z => absurd (nI_lt (Nat.lt_succ_self Su) (by omega)) z⟩
      have below : ∀ S, S < 2 ^ n → ExP k M Bm ws S → S < Su + 1 := fun S hS hE => by
        have := ((ex_iff hSu hS).mp hE).1
        have : S ≤ Su := Nat.le_of_testBit this
        omega
      have e1 : fl (fun S => ExP k M Bm ws S ∧ pc S = c) (2 ^ n) = fl (fun S => ExP k M Bm ws S ∧ pc S = c) (Su + 1) := by
        have := fl_cut (Q := fun S => ExP k M Bm ws S ∧ pc S = c) (a := Su + 1) (2 ^ n - (Su + 1)) (fun S h1 h2 hq => by
          have := below S (by omega) hq.1
          omega)
        rwa [show Su + 1 + (2 ^ n - (Su + 1)) = 2 ^ n by omega] at this
      have e2 : fl (fun S => ExP k M Bm ws S ∧ pc S = c) (2 ^ n) = fl (Lst (ExP k M Bm ws) (2 ^ n)) (2 ^ n) := by
        rcases Classical.em (∃ S, S < 2 ^ n ∧ ExP k M Bm ws S ∧ pc S = c) with z | z
        · exact lst_eq (fun S hS hE => q4 S (below S hS hE) hE) z
        · have none : ∀ S, S < 2 ^ n → ¬ ExP k M Bm ws S := fun S hS hE => by
            rcases q5 with w | ⟨S', s1, s2, s3⟩
            · have a := q4 S (below S hS hE) hE
              have b := pc10 S
              exact z ⟨S, hS, hE, by omega⟩
            · exact z ⟨S', by omega, s2, s3⟩
          rw [fl_nil (fun S hS hq => none S hS hq.1), fl_nil (fun S hS hq => none S hS hq.1)]
      rw [← e1, e2] at q3
      exact ans20_wp (lst_252 nk) q3 (fun r hr => hp r τ hr q2))
    (fun f t p ht hp0 ih => by
      obtain ⟨c, τ⟩ := p
      obtain ⟨q1, q2, q3, q4, q5⟩ := hp0
      have q1 : c ≤ 10 := q1
      have q2 : FrK σ τ := q2
      have q3 : Hld (gA τ 8) (gI τ 16) (fl (fun S => ExP k M Bm ws S ∧ pc S = c) t) := q3
      have q4 : ∀ S, S < t → ExP k M Bm ws S → c ≤ pc S := q4
      have q5 : c = 10 ∨ ∃ S, S < t ∧ ExP k M Bm ws S ∧ pc S = c := q5
      have tn : t < 2 ^ n := by omega
      have l10 : t < 1024 := by omega
      have pt := pc10 t
      have Fτ := q2.net F
      show lp_X4_leastSets_18 _ (f + 1) (nI Su) (nI c) (nI t) τ
      have skip : ¬ (ExP k M Bm ws t ∧ pc t ≤ c) → ∀ v, v = nI t + 1 → lp_X4_leastSets_18 (fun σ2 => wp_X3_answer_20 x σ2 (fun r3 σ4 => post r3 σ4)) f (nI Su) (nI c) v τ := fun hn v hv => by
        rw [hv, nI_1]
        refine ih (c, τ) ⟨q1, q2, ?_, fun S hS hE => ?_, q5.imp id (fun ⟨S, s1, s2⟩ => ⟨S, by omega, s2⟩)⟩
        · show Hld (gA τ 8) (gI τ 16) (fl (fun S => ExP k M Bm ws S ∧ pc S = c) (t + 1))
          rw [fl_no (fun z => hn ⟨z.1, by omega⟩)]; exact q3
        · show c ≤ pc S
          by_cases e : S = t
          · rw [e] at hE ⊢
            rcases Nat.lt_or_ge (pc t) c with z | z
            · exact absurd ⟨hE, by omega⟩ hn
            · exact z
          · exact q4 S (by omega) hE
      have e1 : nI t &&& (nI Su ^^^ (-1)) = nI (wo t Su) := and_not t Su
      have ez : nI (wo t Su) = 0 ↔ wo t Su = 0 := by rw [← nI_0]; exact nI_eq (m31 (wo_lt tn) n10) (by decide)
      unfold lp_X4_leastSets_18
      rw [e1, ez, wo_zero]
      refine ⟨fun z => absurd z (nI_nlt (show t ≤ Su by omega) (by omega)), fun _ => bc_wp l10 ⟨fun z => skip (fun y => z ((ex_iff hSu tn).mp y.1).1), fun z => ?_⟩⟩
      rw [nI_ltI (show c < 2 ^ 31 by omega) (show pc t < 2 ^ 31 by omega), nI_leI (show c < 2 ^ 31 by omega) (show pc t < 2 ^ 31 by omega)]
      refine ⟨fun y => skip (fun w => by omega), fun y => meets_wp Fτ G tn (fun hm => ⟨fun w => absurd w (by decide), fun _ => ?_⟩) (fun hm => ⟨fun _ => skip (fun w => hm ((ex_iff hSu tn).mp w.1).2), fun w => absurd rfl w⟩)⟩
      have ex : ExP k M Bm ws t := (ex_iff hSu tn).mpr ⟨z, hm⟩
      refine ⟨fun w => ?_, fun w => ?_⟩
      · have e : pc t = c := by omega
        have len : (fl (fun S => ExP k M Bm ws S ∧ pc S = c) (t + 1)).length ≤ 252 := fl_252 (c := c) (by omega) (fun x _ hq => hq.2)
        rw [fl_yes ⟨ex, e⟩, List.length_append] at len
        have len2 : (fl (fun S => ExP k M Bm ws S ∧ pc S = c) t).length + 1 ≤ 252 := len
        refine add20_wp (by omega) q3 (fun τ2 H2 F2 v hv => ?_)
        rw [hv, nI_1]
        refine ih (c, τ2) ⟨q1, q2.tr F2, ?_, fun S hS hE => ?_, Or.inr ⟨t, by omega, ex, e⟩⟩
        · show Hld (gA τ2 8) (gI τ2 16) (fl (fun S => ExP k M Bm ws S ∧ pc S = c) (t + 1))
          rw [fl_yes ⟨ex, e⟩]; exact H2
        · show c ≤ pc S
          by_cases e2 : S = t
          · rw [e2]; omega
          · exact q4 S (by omega) hE
      · unfold wp_X3_empty_20
        intro σ21 e21
        have H21 : Hld (gA σ21 8) (gI σ21 16) [] := ⟨by rw [e21, gI_sI, if_pos rfl]; exact nI_0.symm, fun i hi => absurd hi (Nat.not_lt_zero i)⟩
        have F21 : FrK τ σ21 := by rw [e21]; exact ⟨fun i hi => by rw [gI_sI, if_neg hi], fun _ _ => rfl, fun _ => rfl, fun _ => rfl⟩
        refine add20_wp (by decide) H21 (fun τ2 H2 F2 v hv => ?_)
        rw [hv, nI_1]
        refine ih (pc t, τ2) ⟨pt, (q2.tr F21).tr F2, ?_, fun S hS hE => ?_, Or.inr ⟨t, by omega, ex, rfl⟩⟩
        · show Hld (gA τ2 8) (gI τ2 16) (fl (fun S => ExP k M Bm ws S ∧ pc S = pc t) (t + 1))
          rw [fl_yes ⟨ex, rfl⟩, fl_nil (fun S hS hq => by have := q4 S hS hq.1; omega)]; exact H2
        · show pc t ≤ pc S
          by_cases e2 : S = t
          · rw [e2]; exact Nat.le_refl _
          · have := q4 S (by omega) hE; omega)
    (Nat.zero_le _) (s := (10, σ1)) ⟨Nat.le_refl 10, F1, H1, fun S hS => absurd hS (Nat.not_lt_zero S), Or.inl rfl⟩
  have hf2 : lp_X4_leastSets_18 (fun σ2 => wp_X3_answer_20 x σ2 (fun r3 σ4 => post r3 σ4)) f (nI Su) (nI 10) (nI 0) σ1 := hf
  rw [nI_0] at hf2
  exact ⟨f, hf2⟩
end CSK
