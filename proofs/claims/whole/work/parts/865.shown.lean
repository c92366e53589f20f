/-! ===== the class's fits, bound, shown ===== -/
section SHW
variable {n k o M Bm : Nat} {ws ss os : Nat → Nat}
theorem isSet_wp {σ : St} (h0 : gI σ 0 = nI n) (hn : n ≤ 10) {x : Int32} {post : Int32 → St → Prop} (hno : (¬ ∃ s, s < 2 ^ n ∧ x = nI s) → post 0 σ) (hyes : ∀ s, s < 2 ^ n → x = nI s → post 1 σ) : wp_X2_isLineSet x σ post := by
  have l1 : 2 ^ n < 2 ^ 31 := Nat.pow_lt_pow_right (by decide) (by omega)
  unfold wp_X2_isLineSet
  rw [h0, one_shl (by omega)]
  rcases pk_ix x l1 with q | q | ⟨j, hj, q⟩
  · refine ⟨fun _ => hno (fun ⟨s, hs, e⟩ => ?_), fun z => absurd q z⟩
    rw [e] at q; exact nI_pos (by omega) q
  · refine ⟨fun _ => hno ?_, fun _ => ⟨fun _ => hno ?_, fun z => absurd q z⟩⟩
    · exact fun ⟨s, hs, e⟩ => by rw [e] at q; exact nI_ge hs l1 q
    · exact fun ⟨s, hs, e⟩ => by rw [e] at q; exact nI_ge hs l1 q
  · refine ⟨fun z => absurd z (by rw [q]; exact nI_pos (by omega)), fun _ => ⟨fun z => absurd z (by rw [q]; exact nI_ge hj l1), fun _ => hyes j hj q⟩⟩
theorem z1_wp {σ : St} {x : Int32} {post : Int32 → St → Prop} (hno : ¬ bz x → post 0 σ) (hyes : bz x → post 1 σ) : wp_X6_isZeroOrOne x σ post :=
  ⟨fun q => hyes (Or.inl q), fun q => ⟨fun z => hno (fun w => w.elim q z), fun z => hyes (Or.inr z)⟩⟩
theorem hasLine_wp {σ : St} (h0 : gI σ 0 = nI n) (hn : n ≤ 10) {x : Int32} {post : Int32 → St → Prop} (hno : (¬ ∃ s, s < n ∧ x = nI s) → post 0 σ) (hyes : ∀ s, s < n → x = nI s → post 1 σ) : wp_X2_hasLine x σ post := by
  unfold wp_X2_hasLine
  rw [h0]
  rcases pk_ix x (show n < 2 ^ 31 by omega) with q | q | ⟨j, hj, q⟩
  · refine ⟨fun _ => hno (fun ⟨s, hs, e⟩ => ?_), fun z => absurd q z⟩
    rw [e] at q; exact nI_pos (by omega) q
  · refine ⟨fun _ => hno ?_, fun _ => ⟨fun _ => hno ?_, fun z => absurd q z⟩⟩
    · exact fun ⟨s, hs, e⟩ => by rw [e] at q; exact nI_ge hs (by omega) q
    · exact fun ⟨s, hs, e⟩ => by rw [e] at q; exact nI_ge hs (by omega) q
  · refine ⟨fun z => absurd z (by rw [q]; exact nI_pos (by omega)), fun _ => ⟨fun z => absurd z (by rw [q]; exact nI_ge hj (by omega)), fun _ => hyes j hj q⟩⟩
/-- what bound() answers, its arguments tested -/
def BndA (n k M : Nat) (ws ss : Nat → Nat) (x e w : Int32) (r : Int64) : Prop :=
  (¬ ((∃ s, s < 2 ^ n ∧ x = nI s) ∧ bz e ∧ bz w) → r = -102) ∧ ∀ s, s < 2 ^ n → x = nI s → bz e → bz w → BndS n k M ws ss s e w r
theorem bound_wp {σ : St} (F : NetF σ n k o M Bm ws ss os) (G : NetG n k o M Bm ws ss os) (hC : CacheD σ n k ws ss) {x e w : Int32} {post : Int64 → St → Prop}
    (hp : ∀ r τ, BndA n k M ws ss x e w r → FrO σ τ → CacheD τ n k ws ss → post r τ) : wp_X6_bound x e w σ post := by
  have f0 : FrO σ σ := ⟨fun _ _ => rfl, fun _ _ _ _ => rfl⟩
  have out : ¬ ((∃ s, s < 2 ^ n ∧ x = nI s) ∧ bz e ∧ bz w) → post (-102) σ := fun q => hp _ _ ⟨fun _ => rfl, fun s hs a b c => absurd ⟨⟨s, hs, a⟩, b, c⟩ q⟩ f0 hC
  unfold wp_X6_bound
  refine isSet_wp F.1.1 G.1.2.1 (fun q => ⟨fun _ => out (fun z => q z.1), fun z => absurd rfl z⟩) (fun s hs hx => ⟨fun z => absurd z (by decide), fun _ => z1_wp (fun q => ⟨fun _ => out (fun z => q z.2.1), fun z => absurd rfl z⟩) (fun he => ⟨fun z => absurd z (by decide), fun _ => z1_wp (fun q => ⟨fun z => absurd rfl z, fun _ => out (fun z => q z.2.2)⟩) (fun hw => ⟨fun _ => ?_, fun z => absurd z (by decide)⟩)⟩)⟩)
  rw [hx]
  exact end_part F G hC hs he (fun r τ hB hF hC2 => hp r τ ⟨fun q => absurd ⟨⟨s, hs, hx⟩, he, hw⟩ q, fun s2 hs2 hx2 _ _ => by
    have : s2 = s := (nI_eq (m31 hs2 G.1.2.1) (m31 hs G.1.2.1)).mp (hx2.symm.trans hx)
    rw [this]; exact hB⟩ hF hC2)
theorem fits_wp {σ : St} (F : NetF σ n k o M Bm ws ss os) (G : NetG n k o M Bm ws ss os) (hC : CacheD σ n k ws ss) {post : Int32 → St → Prop}
    (hp : ∀ r τ, ((FitW n ws ss M → r = 1) ∧ (¬ FitW n ws ss M → r = 0)) → FrO σ τ → CacheD τ n k ws ss → post r τ) : wp_X6_fits σ post := by
  have g3 := G.1.2.2.1
  have hM := G.2.2.1
  unfold wp_X6_fits
  rw [F.2.2.1]
  refine solve_wp G.1 F.1 hM (fun q => hC M hM q.symm) (fun σ11 ok h10 fr => ?_)
  obtain ⟨hfit, hbz⟩ := delOK_fit g3 hM ok
  have c11 := cache_one g3 hM h10 ok
  refine ⟨fun q => hp _ _ ⟨fun z => absurd (hfit.mpr z) (by rw [q]; decide), fun _ => rfl⟩ fr c11, fun q => hp _ _ ⟨fun _ => rfl, fun z => absurd (hfit.mp (hbz.elim (fun y => absurd y q) id)) z⟩ fr c11⟩
/-- what shown() answers, arguments in their bounds -/
def ShwS (n k M : Nat) (ws ss : Nat → Nat) (s : Nat) (e : Int32) (l : Nat) (w : Int32) (r : Int64) : Prop :=
  (¬ FitW n ws ss M → r = -103) ∧ (FitW n ws ss M → ((e = 1 ∧ ¬ allSeen ws M k s) → r = -105) ∧ (¬ (e = 1 ∧ ¬ allSeen ws M k s) → ∃ X d, EndF n ws ss M s (if e = 0 then 1 else -1) (l + 1) X d ∧ r = frac (X l) d w))
theorem shwS_one {s : Nat} {e w : Int32} {l : Nat} (hl : l < n) {r r' : Int64} (h : ShwS n k M ws ss s e l w r) (h' : ShwS n k M ws ss s e l w r') : r = r' := by
  by_cases q : FitW n ws ss M
  · by_cases z : e = 1 ∧ ¬ allSeen ws M k s
    · rw [(h.2 q).1 z, (h'.2 q).1 z]
    · obtain ⟨X, d, a1, a2⟩ := (h.2 q).2 z
      obtain ⟨Y, c, b1, b2⟩ := (h'.2 q).2 z
      have s1 := endF_sol a1
      have s2 := endF_sol b1
      have e1 := a1.2 Y c b1.1
      have e2 := b1.2 X d a1.1
      rw [a2, b2]
      exact frac_eq (s1.2.1 l hl) s1.1 (s2.2.1 l hl) s2.1 (by omega)
  · rw [h.1 q, h'.1 q]
theorem osum_one {l : Nat} (hl : l < n) (X : Nat → Int) : osum n (2 ^ l) X = X l := by
  unfold osum
  rw [sg_one hl (fun j _ hne => by rw [Nat.testBit_two_pow, decide_eq_false (fun e => hne e.symm)]; rfl)]
  rw [Nat.testBit_two_pow, decide_eq_true rfl]; rfl
def ShwA (n k M : Nat) (ws ss : Nat → Nat) (x e l w : Int32) (r : Int64) : Prop :=
  ((¬ ∃ j, j < n ∧ l = nI j) → r = -101) ∧ ∀ j, j < n → l = nI j → (¬ ((∃ s, s < 2 ^ n ∧ x = nI s) ∧ bz e ∧ bz w) → r = -102) ∧ ∀ s, s < 2 ^ n → x = nI s → bz e → bz w → ShwS n k M ws ss s e j w r
theorem shown_wp {σ : St} (F : NetF σ n k o M Bm ws ss os) (G : NetG n k o M Bm ws ss os) (hC : CacheD σ n k ws ss) {x e l w : Int32} {post : Int64 → St → Prop}
    (hp : ∀ r τ, ShwA n k M ws ss x e l w r → FrO σ τ → CacheD τ n k ws ss → post r τ) : wp_X6_shown x e l w σ post := by
  have f0 : FrO σ σ := ⟨fun _ _ => rfl, fun _ _ _ _ => rfl⟩
  have g2 := G.1.2.1
  have g3 := G.1.2.2.1
  have hM := G.2.2.1
  unfold wp_X6_shown
  refine hasLine_wp F.1.1 g2 (fun q => ⟨fun z => absurd rfl z, fun _ => hp _ _ ⟨fun _ => rfl, fun j hj e => absurd ⟨j, hj, e⟩ q⟩ f0 hC⟩) (fun j hj hl => ⟨fun _ => ?_, fun z => absurd z (by decide)⟩)
  have mk : ∀ r τ, ((¬ ((∃ s, s < 2 ^ n ∧ x = nI s) ∧ bz e ∧ bz w) → r = -102) ∧ ∀ s, s < 2 ^ n → x = nI s → bz e → bz w → ShwS n k M ws ss s e j w r) → FrO σ τ → CacheD τ n k ws ss → post r τ := fun r τ h a b => hp r τ ⟨fun q => absurd ⟨j, hj, hl⟩ q, fun j2 hj2 hl2 => by
    have : j2 = j := (nI_eq (by omega) (by omega)).mp (hl2.symm.trans hl)
    rw [this]; exact h⟩ a b
  have out : ¬ ((∃ s, s < 2 ^ n ∧ x = nI s) ∧ bz e ∧ bz w) → post (-102) σ := fun q => mk _ _ ⟨fun _ => rfl, fun s hs a b c => absurd ⟨⟨s, hs, a⟩, b, c⟩ q⟩ f0 hC
  refine isSet_wp F.1.1 g2 (fun q => ⟨fun _ => out (fun z => q z.1), fun z => absurd rfl z⟩) (fun s hs hx => ⟨fun z => absurd z (by decide), fun _ => z1_wp (fun q => ⟨fun _ => out (fun z => q z.2.1), fun z => absurd rfl z⟩) (fun he => ⟨fun z => absurd z (by decide), fun _ => z1_wp (fun q => ⟨fun z => absurd rfl z, fun _ => out (fun z => q z.2.2)⟩) (fun hw => ⟨fun _ => ?_, fun z => absurd z (by decide)⟩)⟩)⟩)
  rw [hx, hl, F.2.2.1]
  have mk2 : ∀ r τ, ShwS n k M ws ss s e j w r → FrO σ τ → CacheD τ n k ws ss → post r τ := fun r τ h a b => mk r τ ⟨fun q => absurd ⟨⟨s, hs, hx⟩, he, hw⟩ q, fun s2 hs2 hx2 _ _ => by
    have : s2 = s := (nI_eq (m31 hs2 g2) (m31 hs g2)).mp (hx2.symm.trans hx)
    rw [this]; exact h⟩ a b
  refine solve_wp G.1 F.1 hM (fun q => hC M hM q.symm) (fun σ11 ok h10 fr => ?_)
  have F11 : NetF σ11 n k o M Bm ws ss os := netF_fr F (fun i hi => fr.1 i (by omega)) (fun i hi => fr.2 i (by omega) (by omega) (by omega))
  have c11 := cache_one g3 hM h10 ok
  obtain ⟨hfit, hbz⟩ := delOK_fit g3 hM ok
  refine ⟨fun q => ?_, fun q => mk2 _ _ ⟨fun _ => rfl, fun z => absurd (hfit.mpr z) (by rw [q]; decide)⟩ fr c11⟩
  have h11 : gI σ11 11 = 1 := hbz.elim (fun z => absurd z q) id
  have fit := hfit.mp h11
  refine endless_wp F11 G hs (fun h0 => ⟨fun _ => ?_, fun z => absurd rfl z⟩) (fun h1 h2 => ⟨fun z => absurd z (by decide), fun _ => mk2 _ _ ⟨fun z => absurd fit z, fun _ => ⟨fun _ => rfl, fun z => absurd ⟨h1, h2⟩ z⟩⟩ fr c11⟩)
  rcases id ok with ⟨_, S, lc, sc, br, Y, hS, hI, H⟩ | ⟨z, _⟩
  · refine toEnd_wp G.1 hM hS hI H hs he (fun h1 => seen_row G (h0 h1)) (fun σ17 st F17 => least_wp G.1 hM hj st (fun σ22 st2 F22 => ?_))
    have ok22 := stg_ok h11 (F17.tr F22) st2
    obtain ⟨S2, lc2, br2, Y2, hS2, H2, hE⟩ := stg_corner g3 hM st2
    rw [one_shl (by omega)]
    refine upper_wp H2 (std_B Y2 hS2) (Nat.pow_lt_pow_right (by decide) (by omega)) (fun r hr => ?_)
    rw [upr_osum hS2, osum_one hj] at hr
    have sol := endF_sol hE
    have e1 := lN_of hr (sol.2.1 j hj)
    have e2 := lN_of H2.2.2.2.2.2.1 (Int.le_of_lt sol.1)
    have db := (std_B Y2 hS2).2.2.2.2.2.2.2.1.2
    have rb := (fb_rngL r).2
    rw [e1, e2]
    refine part_wp (by omega) (by omega) (by have := sol.1; omega) (mk2 _ _ ⟨fun z => absurd fit z, fun _ => ⟨fun z => absurd (h0 z.1) z.2, fun _ => ⟨_, _, hE, rfl⟩⟩⟩ (FrO.w fr (F17.tr F22)) (cache_one g3 hM (by rw [(F17.tr F22).1 10 (by decide) (by decide)]; exact h10) ok22))
  · rw [h11] at z; exact absurd z (by decide)
end SHW
