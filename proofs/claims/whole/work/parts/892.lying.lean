/-! ===== lying on both sides ===== -/
section LYG
variable {n k o M Bm : Nat} {ws ss os : Nat → Nat}
/-- without the ways S there is a solution -/
def LyP (n M : Nat) (ws ss : Nat → Nat) (S : Nat) : Prop := (∀ j, S.testBit j = true → M.testBit j = true) ∧ FitW n ws ss (wo M S)
theorem fit_sub {W W' : Nat} (h : ∀ j, W'.testBit j = true → W.testBit j = true) (hf : FitW n ws ss W) : FitW n ws ss W' := by
  obtain ⟨X, τ, h1, h2, h3⟩ := hf
  exact ⟨X, τ, h1, h2, fun w hw => h3 w (h w hw)⟩
noncomputable def Llie (n k M : Nat) (ws ss : Nat → Nat) : List Nat := fl (Lst (LyP n M ws ss) (2 ^ k)) (2 ^ k)
theorem lyingM_wp {σ : St} (F : NetM σ n k o M Bm ws ss os) (G : NetG n k o M Bm ws ss os) {x : Int32} {post : Int32 → St → Prop} (hp : ∀ r τ, AnsL (Llie n k M ws ss) x r → FrM σ τ → post r τ) : wp_X7_lying x σ post := by
  have k10 := G.1.2.2.1
  have hM := G.2.2.1
  have k31 : 2 ^ k < 2 ^ 31 := Nat.pow_lt_pow_right (by decide) (by omega)
  have kk : 2 ^ k ≤ 1024 := Nat.pow_le_pow_right (by decide) k10
  have i10 : (10 : Int32) = nI 10 := rfl
  unfold wp_X7_lying
  refine onSet_wp F G (fun σ1 e1 => ?_)
  have F1 : FrM σ σ1 := by rw [e1]; exact ⟨fun i hi => by rw [gI_sI, if_neg (by omega)], fun _ _ => rfl⟩
  have fin : ∀ τ, FrM σ τ → Hld (gA τ 6) (gI τ 4) (Llie n k M ws ss) → wp_X7_foundAt x τ (fun r σ3 => post r σ3) := fun τ hF hH => ansM_wp (Nat.le_trans (fl_le _ _) kk) hH (fun r hr => hp r τ hr hF)
  obtain ⟨f, hf⟩ := lupE (fun f c (τ : St) => lp_X7_lying_12 post f x (nI M) (nI c) τ) (fun c τ => FrM σ τ ∧ ((Hld (gA τ 6) (gI τ 4) [] ∧ ∀ S, S < 2 ^ k → LyP n M ws ss S → c ≤ pc S) ∨ (¬ gI τ 4 = 0 ∧ Hld (gA τ 6) (gI τ 4) (Llie n k M ws ss)))) 11
    (fun f τ hτ => by
      obtain ⟨t1, t2⟩ := hτ
      unfold lp_X7_lying_12
      rw [i10]
      refine ⟨fun _ => fin τ t1 ?_, fun q => absurd (nI_lt (show 10 < 11 by decide) (by decide)) q⟩
      rcases t2 with ⟨a, b⟩ | ⟨_, a⟩
      · unfold Llie
        rw [fl_nil (fun S hS hq => by have := b S hS hq.1; have := pc10 S; omega)]; exact a
      · exact a)
    (fun f c τ hc hτ ih => by
      obtain ⟨t1, t2⟩ := hτ
      unfold lp_X7_lying_12
      rw [i10]
      refine ⟨fun q => absurd q (nI_nlt (show c ≤ 10 by omega) (by decide)), fun _ => ⟨fun q => fin τ t1 ?_, fun q => ?_⟩⟩
      · rcases t2 with ⟨a, _⟩ | ⟨_, a⟩
        · exact absurd (by rw [a.1]; exact nI_0) q
        · exact a
      · rcases t2 with ⟨a, b⟩ | ⟨a, _⟩
        · obtain ⟨g, hg⟩ := lupE (fun g t (ρ : St) => lp_X7_lying_28 post (lp_X7_lying_12 post f) g x (nI M) (nI c) (nI t) ρ) (fun t ρ => FrM σ ρ ∧ Hld (gA ρ 6) (gI ρ 4) (fl (fun S => LyP n M ws ss S ∧ pc S = c) t)) (2 ^ k)
            (fun g ρ hρ => by
              unfold lp_X7_lying_28
              rw [(hρ.1.1 1 (by decide)).trans F.2.1, one_shl (by omega)]
              refine ⟨fun _ v hv => ?_, fun z => absurd (nI_le (Nat.le_refl _) k31) z⟩
              rw [hv, nI_1]
              refine ih ρ ⟨hρ.1, ?_⟩
              rcases Classical.em (∃ S, S < 2 ^ k ∧ LyP n M ws ss S ∧ pc S = c) with z | z
              · have e := lst_eq b z
                refine Or.inr ⟨fun y => ?_, by unfold Llie; rw [← e]; exact hρ.2⟩
                rw [hρ.2.1] at y
                have ll := fl_le (fun S => LyP n M ws ss S ∧ pc S = c) (2 ^ k)
                have := (nI_eq (show (fl (fun S => LyP n M ws ss S ∧ pc S = c) (2 ^ k)).length < 2 ^ 31 by omega) (show 0 < 2 ^ 31 by decide)).mp (y.trans nI_0.symm)
                obtain ⟨S, s1, s2⟩ := z
                exact fl_empty.mp this S s1 s2
              · refine Or.inl ⟨?_, fun S hS hE => ?_⟩
                · have := hρ.2
                  rw [fl_nil (fun S hS hq => z ⟨S, hS, hq⟩)] at this; exact this
                · have := b S hS hE
                  rcases Nat.lt_or_ge c (pc S) with y | y
                  · omega
                  · exact absurd ⟨S, hS, hE, by omega⟩ z)
            (fun g t ρ ht hρ ih2 => by
              have l10 : t < 1024 := by omega
              have pt := pc10 t
              have skip : ∀ ρ2, FrM σ ρ2 → gA ρ2 6 = gA ρ 6 → gI ρ2 4 = gI ρ 4 → ¬ (LyP n M ws ss t ∧ pc t = c) → ∀ v, v = nI t + 1 → lp_X7_lying_28 post (lp_X7_lying_12 post f) g x (nI M) (nI c) v ρ2 := fun ρ2 hF h6 h4 hn v hv => by
                rw [hv, nI_1]
                exact ih2 ρ2 ⟨hF, by rw [fl_no hn, h6, h4]; exact hρ.2⟩
              have e1 : nI t &&& (nI M ^^^ (-1)) = nI (wo t M) := and_not t M
              have e2 : nI M &&& (nI t ^^^ (-1)) = nI (wo M t) := and_not M t
              have ez : nI (wo t M) = 0 ↔ wo t M = 0 := by rw [← nI_0]; exact nI_eq (m31 (wo_lt ht) k10) (by decide)
              unfold lp_X7_lying_28
              rw [(hρ.1.1 1 (by decide)).trans F.2.1, one_shl (by omega), e1, e2, ez, wo_zero]
              refine ⟨fun z => absurd z (nI_ge ht k31), fun _ => ⟨fun z => skip ρ hρ.1 rfl rfl (fun y => z y.1.1), fun z => bits_wp l10 ⟨fun y => skip ρ hρ.1 rfl rfl (fun w => y (by rw [w.2])), fun y => doFit_wp (netM_fr F hρ.1) G (wo_lt hM) (fun r ρ2 hr hF => ⟨fun w => skip ρ2 (hρ.1.tr hF.m) (hF.2 6 (by decide)) (hF.1 4 (by decide)) (fun u => absurd (hr.1 u.1.2) (by rw [w]; decide)), fun w => ?_⟩)⟩⟩⟩
              have e := (nI_eq (show pc t < 2 ^ 31 by omega) (show c < 2 ^ 31 by omega)).mp y
              have ex : LyP n M ws ss t := ⟨z, Classical.not_not.mp (fun u => w (hr.2 u))⟩
              have ll := fl_le (fun S => LyP n M ws ss S ∧ pc S = c) t
              have H2 : Hld (gA ρ2 6) (gI ρ2 4) (fl (fun S => LyP n M ws ss S ∧ pc S = c) t) := by rw [hF.2 6 (by decide), hF.1 4 (by decide)]; exact hρ.2
              refine ⟨by rw [H2.1]; exact pk_in _ 1024 (show (fl (fun S => LyP n M ws ss S ∧ pc S = c) t).length < 1024 by omega), fun σ14 e14 σ16 e16 v hv => ?_⟩
              obtain ⟨p1, p2, p3⟩ := put6 H2 (by omega) e14 e16
              rw [hv, nI_1]
              refine ih2 σ16 ⟨(hρ.1.tr hF.m).tr ⟨fun i hi => p2 i (by omega), fun i hi => p3 i (by omega)⟩, ?_⟩
              rw [fl_yes ⟨ex, e⟩]; exact p1)
            (Nat.zero_le _) (s := τ) ⟨t1, a⟩
          rw [nI_0] at hg
          exact ⟨g, hg⟩
        · exact absurd q a)
    (Nat.zero_le _) (s := σ1) ⟨F1, Or.inl ⟨by rw [e1]; exact ⟨by rw [gI_sI, if_pos rfl]; exact nI_0.symm, fun i hi => absurd hi (Nat.not_lt_zero i)⟩, fun S _ _ => Nat.zero_le _⟩⟩
  rw [nI_0] at hf
  exact ⟨f, hf⟩
/-! the class's -/
def FrY (σ τ : St) : Prop := (∀ i, i < 5 ∨ 15 < i → gI τ i = gI σ i) ∧ ∀ i, i < 3 ∨ 7 < i → gA τ i = gA σ i
theorem FrY.rf (σ : St) : FrY σ σ := ⟨fun _ _ => rfl, fun _ _ => rfl⟩
theorem FrY.tr {σ τ ρ : St} (h : FrY σ τ) (g : FrY τ ρ) : FrY σ ρ := ⟨fun i hi => (g.1 i hi).trans (h.1 i hi), fun i hi => (g.2 i hi).trans (h.2 i hi)⟩
theorem FrY.s {σ τ : St} (h : FrS σ τ) : FrY σ τ := ⟨fun i hi => h.1 i (by omega), fun i hi => h.2 i (by omega) (by omega) (by omega)⟩
theorem FrY.net {σ τ : St} (h : FrY σ τ) (F : NetF σ n k o M Bm ws ss os) : NetF τ n k o M Bm ws ss os := netF_fr F (fun i hi => h.1 i (by omega)) (fun i hi => h.2 i (by omega))
theorem slv_wp {σ : St} (F : NetF σ n k o M Bm ws ss os) (G : NetG n k o M Bm ws ss os) (hC : CacheD σ n k ws ss) {W : Nat} (hW : W < 2 ^ k) {post : Int32 → St → Prop} (h1 : ∀ τ, FitW n ws ss W → FrS σ τ → CacheD τ n k ws ss → post 1 τ) (h0 : ∀ τ cl, ¬ FitW n ws ss W → gI τ 12 = nI cl → (∀ i, cl.testBit i = true → W.testBit i = true) → ¬ FitW n ws ss cl → FrS σ τ → CacheD τ n k ws ss → post 0 τ) : wp_X0_solve (nI W) σ post := by
  have k10 := G.1.2.2.1
  refine solve_wp G.1 F.1 hW (fun q => hC W hW q.symm) (fun τ ok h10 fr => ?_)
  have c := cache_one k10 hW h10 ok
  obtain ⟨hfit, hbz⟩ := delOK_fit k10 hW ok
  rcases hbz with e | e
  · rcases id ok with ⟨z, _⟩ | ⟨_, z, cl, c1, c2, c3⟩
    · rw [e] at z; exact absurd z (by decide)
    · rw [e]; exact h0 τ cl z c1 c2 c3 fr c
  · rw [e]; exact h1 τ (hfit.mp e) fr c
theorem withBit0_wp {σ : St} {s w : Nat} (hw : w < 31) {post : Int32 → St → Prop} (h : post (nI (wo s (2 ^ w))) σ) : wp_X6_withBit (nI s) (nI w) 0 σ post := by
  unfold wp_X6_withBit
  rw [one_shl hw]
  have e : nI s &&& (nI (2 ^ w) ^^^ (-1)) = nI (wo s (2 ^ w)) := and_not s (2 ^ w)
  first
    | (rw [e]; exact ⟨fun _ => h, fun z => absurd rfl z⟩)
    | (rw [e]; exact ⟨fun z => absurd rfl z, fun _ => h⟩)
theorem leastClash_wp {σ : St} (F : NetF σ n k o M Bm ws ss os) (G : NetG n k o M Bm ws ss os) (hC : CacheD σ n k ws ss) {W : Nat} (hW : W < 2 ^ k) (hno : ¬ FitW n ws ss W) {post : Int32 → St → Prop} (hp : ∀ cl τ, (∀ i, cl.testBit i = true → W.testBit i = true) → ¬ FitW n ws ss cl → FrS σ τ → CacheD τ n k ws ss → post (nI cl) τ) : wp_X1_leastClash (nI W) σ post := by
  have k10 := G.1.2.2.1
  unfold wp_X1_leastClash
  obtain ⟨f, hf⟩ := lupE (fun f w (p : Nat × St) => lp_X1_leastClash_5 post f (nI p.1) (nI w) p.2) (fun w p => (∀ i, p.1.testBit i = true → W.testBit i = true) ∧ ¬ FitW n ws ss p.1 ∧ FrS σ p.2 ∧ CacheD p.2 n k ws ss) k
    (fun f p hp0 => by
      obtain ⟨cl, τ⟩ := p
      obtain ⟨q1, q2, q3, q4⟩ := hp0
      show lp_X1_leastClash_5 post (f + 1) (nI cl) (nI k) τ
      unfold lp_X1_leastClash_5
      rw [(FrY.s q3).net F |>.1.2.1]
      exact ⟨fun _ => hp cl τ q1 q2 q3 q4, fun z => absurd (nI_le (Nat.le_refl k) (by omega)) z⟩)
    (fun f w p hw hp0 ih => by
      obtain ⟨cl, τ⟩ := p
      obtain ⟨q1, q2, q3, q4⟩ := hp0
      have q1 : ∀ i, cl.testBit i = true → W.testBit i = true := q1
      have q2 : ¬ FitW n ws ss cl := q2
      have q3 : FrS σ τ := q3
      have q4 : CacheD τ n k ws ss := q4
      have Fτ := (FrY.s q3).net F
      have clW : cl < 2 ^ k := Nat.lt_of_le_of_lt (Nat.le_of_testBit q1) hW
      show lp_X1_leastClash_5 post (f + 1) (nI cl) (nI w) τ
      unfold lp_X1_leastClash_5
      rw [Fτ.1.2.1]
      refine ⟨fun z => absurd z (nI_ge hw (by omega)), fun _ => withBit0_wp (by omega) ⟨fun z v hv => ?_, fun z => slv_wp Fτ G q4 (wo_lt clW) (fun τ2 _ fr c => ⟨fun _ v hv => ?_, fun y => absurd y (by decide)⟩) (fun τ2 cl2 _ c1 c2 c3 fr c => ⟨fun y => absurd rfl y, fun _ v hv u hu => ?_⟩)⟩⟩
      · rw [hv, nI_1]; exact ih (cl, τ) ⟨q1, q2, q3, q4⟩
      · rw [hv, nI_1]
        exact ih (cl, τ2) ⟨q1, q2, ⟨fun i hi => (fr.1 i hi).trans (q3.1 i hi), fun i a b d => (fr.2 i a b d).trans (q3.2 i a b d)⟩, c⟩
      · rw [hu, nI_1, hv, c1]
        refine ih (cl2, τ2) ⟨fun i hi => q1 i ?_, c3, ⟨fun i hi => (fr.1 i hi).trans (q3.1 i hi), fun i a b d => (fr.2 i a b d).trans (q3.2 i a b d)⟩, c⟩
        have := c2 i hi
        rw [wo_bit, Bool.and_eq_true] at this
        exact this.1)
    (Nat.zero_le k) (s := (W, σ)) ⟨fun _ h => h, hno, ⟨fun _ _ => rfl, fun _ _ _ _ => rfl⟩, hC⟩
  have hf2 : lp_X1_leastClash_5 post f (nI W) (nI 0) σ := hf
  rw [nI_0] at hf2
  exact ⟨f, hf2⟩
/-- the clashes found so far -/
def ClI (σ : St) (n k M : Nat) (ws ss : Nat → Nat) : Prop := ∃ (c : Nat) (cs : Nat → Nat), gI σ 15 = nI c ∧ c ≤ 252 ∧ ∀ i, i < c → gA σ 7 i = nI (cs i) ∧ cs i < 2 ^ k ∧ (∀ j, (cs i).testBit j = true → M.testBit j = true) ∧ ¬ FitW n ws ss (cs i)
theorem breaks_wp {σ : St} (k10 : k ≤ 10) (h : ClI σ n k M ws ss) {t : Nat} {post : Int32 → St → Prop} (h1 : post 1 σ) (h0 : ¬ FitW n ws ss (wo M t) → post 0 σ) : wp_X1_breaksAllClashes (nI t) σ post := by
  obtain ⟨c, cs, c1, c2, c3⟩ := h
  unfold wp_X1_breaksAllClashes
  obtain ⟨f, hf⟩ := lupE (fun f i (_ : Unit) => lp_X1_breaksAllClashes_2 post f (nI t) (nI i) σ) (fun _ _ => True) c
    (fun f _ _ => by
      unfold lp_X1_breaksAllClashes_2
      rw [c1]
      exact ⟨fun _ => h1, fun z => absurd (nI_le (Nat.le_refl c) (by omega)) z⟩)
    (fun f i _ hi _ ih => by
      obtain ⟨d1, d2, d3, d4⟩ := c3 i hi
      have lw : cs i &&& t < 2 ^ 31 := m31 (lt_of_bits (fun l hl => by rw [Nat.testBit_and, bits_of_lt d2 hl]; rfl)) k10
      have ez : nI (cs i &&& t) = 0 ↔ cs i &&& t = 0 := by rw [← nI_0]; exact nI_eq lw (by decide)
      unfold lp_X1_breaksAllClashes_2
      rw [c1, nI_clamp (by omega), d1, (and_or_bit _ _).1, ez]
      refine ⟨fun z => absurd z (nI_ge hi (by omega)), fun _ => ⟨pk_in i 252 (by omega), fun z v hv => ?_, fun z => h0 (fun y => d4 (fit_sub (fun j hj => ?_) y))⟩⟩
      · rw [hv, nI_1]; exact ih () trivial
      · rw [wo_bit, d3 j hj, Bool.true_and, Bool.not_eq_true']
        rw [Bool.eq_false_iff]
        intro w
        exact (and_ne.mpr ⟨j, hj, w⟩) z)
    (Nat.zero_le c) (s := ()) trivial
  rw [nI_0] at hf
  exact ⟨f, hf⟩
theorem add13_wp {σ : St} (h : ClI σ n k M ws ss) {cl : Nat} (hk : cl < 2 ^ k) (hs : ∀ j, cl.testBit j = true → M.testBit j = true) (hn : ¬ FitW n ws ss cl) {post : St → Prop} (hp : ∀ τ, ClI τ n k M ws ss → (∀ i, i ≠ 15 → gI τ i = gI σ i) → (∀ i, i ≠ 7 → gA τ i = gA σ i) → (∀ i, gL τ i = gL σ i) → (∀ i, gB τ i = gB σ i) → post τ) : wp_X3_add_13 (nI cl) σ post := by
  have i252 : (252 : Int32) = nI 252 := rfl
  have h' := h
  obtain ⟨c, cs, c1, c2, c3⟩ := h
  unfold wp_X3_add_13
  rw [c1, i252, nI_leI (by decide) (by omega), nI_clamp (by omega)]
  refine ⟨fun _ => hp σ h' (fun _ _ => rfl) (fun _ _ => rfl) (fun _ => rfl) (fun _ => rfl), fun q => ⟨pk_in c 252 (by omega), fun σ2 e2 σ4 e4 => ?_⟩⟩
  have ga : ∀ i x, gA σ4 i x = if i = 7 ∧ x = c then nI cl else gA σ i x := fun i x => by rw [e4, gA_sI, e2, gA_sA]
  refine hp σ4 ⟨c + 1, fun i => if i = c then cl else cs i, by rw [e4, gI_sI, if_pos rfl, e2, gI_sA, c1, nI_1], by omega, fun i hi => ?_⟩ (fun i hi => by rw [e4, gI_sI, if_neg hi, e2, gI_sA]) (fun i hi => funext (fun x => by rw [ga, if_neg (fun z => hi z.1)])) (fun i => by rw [e4, gL_sI, e2, gL_sA]) (fun i => by rw [e4, gB_sI, e2, gB_sA])
  show gA σ4 7 i = nI (if i = c then cl else cs i) ∧ (if i = c then cl else cs i) < 2 ^ k ∧ (∀ j, (if i = c then cl else cs i).testBit j = true → M.testBit j = true) ∧ ¬ FitW n ws ss (if i = c then cl else cs i)
  rw [ga]
  by_cases e : i = c
  · rw [if_pos ⟨rfl, e⟩, if_pos e]; exact ⟨rfl, hk, hs, hn⟩
  · rw [if_neg (fun z => e z.2), if_neg e]; exact c3 i (by omega)
theorem add11_wp {σ : St} {L : List Nat} (hL : L.length < 252) (h : Hld (gA σ 6) (gI σ 14) L) {t : Nat} {post : St → Prop} (hp : ∀ τ, Hld (gA τ 6) (gI τ 14) (L ++ [t]) → (∀ i, i ≠ 14 → gI τ i = gI σ i) → (∀ i, i ≠ 6 → gA τ i = gA σ i) → (∀ i, gL τ i = gL σ i) → (∀ i, gB τ i = gB σ i) → post τ) : wp_X3_add_11 (nI t) σ post := by
  have i252 : (252 : Int32) = nI 252 := rfl
  unfold wp_X3_add_11
  rw [h.1, i252, nI_clamp (by omega)]
  refine ⟨fun q => absurd q (nI_ge hL (by decide)), fun _ => ⟨pk_in L.length 252 hL, fun σ2 e2 σ4 e4 => ?_⟩⟩
  have ga : ∀ i x, gA σ4 i x = if i = 6 ∧ x = L.length then nI t else gA σ i x := fun i x => by rw [e4, gA_sI, e2, gA_sA]
  refine hp σ4 (hld_snoc h (by rw [e4, gI_sI, if_pos rfl, e2, gI_sA]) (fun i => ?_)) (fun i hi => by rw [e4, gI_sI, if_neg hi, e2, gI_sA]) (fun i hi => funext (fun x => by rw [ga, if_neg (fun z => hi z.1)])) (fun i => by rw [e4, gL_sI, e2, gL_sA]) (fun i => by rw [e4, gB_sI, e2, gB_sA])
  rw [ga]
  by_cases q : i = L.length
  · rw [if_pos ⟨rfl, q⟩, if_pos q]
  · rw [if_neg (fun z => q z.2), if_neg q]
/-- the cells of Delays stay, so its cache does -/
theorem cacheD_fr {σ τ : St} (h : CacheD σ n k ws ss) (gi : ∀ i, i < 13 → gI τ i = gI σ i) (ga : ∀ i, 3 ≤ i → i < 6 → gA τ i = gA σ i) (gl : ∀ i, gL τ i = gL σ i) (gb : ∀ i, gB τ i = gB σ i) : CacheD τ n k ws ss := fun W hW h10 => by
  rw [gi 10 (by decide)] at h10
  rcases h W hW h10 with ⟨h1, S, lc, sc, br, Y, hS, hI, H⟩ | ⟨h1, h2, cl, c1, c2, c3⟩
  · refine Or.inl ⟨(gi 11 (by decide)).trans h1, S, lc, sc, br, Y, hS, hI, ?_⟩
    obtain ⟨a6, a7, a8, a9, a5, ad, aho, alc, aT⟩ := H
    refine ⟨(gi 6 (by decide)).trans a6, (gi 7 (by decide)).trans a7, (gi 8 (by decide)).trans a8, (gi 9 (by decide)).trans a9, ?_, ?_, fun s hs => ?_, fun j hj => ?_, fun s j hs hj => ?_⟩
    · rw [gi 5 (by decide)]; exact a5
    · rw [gl 0]; exact ad
    · rw [ga 3 (by decide) (by decide)]; exact aho s hs
    · rw [ga 5 (by decide) (by decide)]; exact alc j hj
    · rw [gb 0]; exact aT s j hs hj
  · exact Or.inr ⟨(gi 11 (by decide)).trans h1, h2, cl, (gi 12 (by decide)).trans c1, c2, c3⟩
theorem clI_fr {σ τ : St} (h : ClI σ n k M ws ss) (g15 : gI τ 15 = gI σ 15) (g7 : gA τ 7 = gA σ 7) : ClI τ n k M ws ss := by
  obtain ⟨c, cs, c1, c2, c3⟩ := h
  exact ⟨c, cs, g15.trans c1, c2, fun i hi => by rw [g7]; exact c3 i hi⟩
theorem ofSize_wp {σ : St} (F : NetF σ n k o M Bm ws ss os) (G : NetG n k o M Bm ws ss os) (hC : CacheD σ n k ws ss) (hK : ClI σ n k M ws ss) (hH : Hld (gA σ 6) (gI σ 14) []) {c : Nat} (hc : c ≤ 10) {post : St → Prop} (hp : ∀ τ, Hld (gA τ 6) (gI τ 14) (fl (fun S => LyP n M ws ss S ∧ pc S = c) (2 ^ k)) → FrY σ τ → CacheD τ n k ws ss → ClI τ n k M ws ss → post τ) : wp_X1_findOfSize (nI c) σ post := by
  have k10 := G.1.2.2.1
  have hM := G.2.2.1
  have kk : 2 ^ k ≤ 1024 := Nat.pow_le_pow_right (by decide) k10
  unfold wp_X1_findOfSize
  obtain ⟨f, hf⟩ := lupE (fun f t (τ : St) => lp_X1_findOfSize_3 post f (nI c) (nI t) τ) (fun t τ => Hld (gA τ 6) (gI τ 14) (fl (fun S => LyP n M ws ss S ∧ pc S = c) t) ∧ FrY σ τ ∧ CacheD τ n k ws ss ∧ ClI τ n k M ws ss) (M + 1)
    (fun f τ hτ => by
      obtain ⟨q1, q2, q3, q4⟩ := hτ
      unfold lp_X1_findOfSize_3
      rw [(q2.net F).2.2.1]
      refine ⟨fun _ => hp τ ?_ q2 q3 q4, fun z => absurd (nI_lt (Nat.lt_succ_self M) (by omega)) z⟩
      have := fl_cut (Q := fun S => LyP n M ws ss S ∧ pc S = c) (a := M + 1) (2 ^ k - (M + 1)) (fun S h1 _ hq => by
        have : S ≤ M := Nat.le_of_testBit hq.1.1
        omega)
      rw [show M + 1 + (2 ^ k - (M + 1)) = 2 ^ k by omega] at this
      rw [this]; exact q1)
    (fun f t τ ht hτ ih => by
      obtain ⟨q1, q2, q3, q4⟩ := hτ
      have Fτ := q2.net F
      have tk : t < 2 ^ k := by omega
      have l10 : t < 1024 := by omega
      have pt := pc10 t
      have skip : ∀ ρ, Hld (gA ρ 6) (gI ρ 14) (fl (fun S => LyP n M ws ss S ∧ pc S = c) t) → FrY σ ρ → CacheD ρ n k ws ss → ClI ρ n k M ws ss → ¬ (LyP n M ws ss t ∧ pc t = c) → ∀ v, v = nI t + 1 → lp_X1_findOfSize_3 post f (nI c) v ρ := fun ρ a b d e hn v hv => by
        rw [hv, nI_1]
        exact ih ρ ⟨by rw [fl_no hn]; exact a, b, d, e⟩
      have e1 : nI t &&& (nI M ^^^ (-1)) = nI (wo t M) := and_not t M
      have ez : nI (wo t M) = 0 ↔ wo t M = 0 := by rw [← nI_0]; exact nI_eq (m31 (wo_lt tk) k10) (by decide)
      unfold lp_X1_findOfSize_3
      rw [Fτ.2.2.1, e1, ez, wo_zero]
      have no : ¬ (LyP n M ws ss t ∧ pc t = c) → jn_X1_findOfSize_37 post (lp_X1_findOfSize_3 post f) (nI c) (nI t) τ := fun hn => by
        unfold jn_X1_findOfSize_37 jn_X1_findOfSize_38
        exact ⟨fun _ => skip τ q1 q2 q3 q4 hn, fun z => absurd rfl z⟩
      refine ⟨fun z => absurd z (nI_nlt (show t ≤ M by omega) (by omega)), fun _ => ⟨fun z => no (fun y => z y.1.1), fun z => bc_wp l10 ⟨fun y => no (fun w => y (by rw [w.2])), fun y => ?_⟩⟩⟩
      have ec := (nI_eq (show pc t < 2 ^ 31 by omega) (show c < 2 ^ 31 by omega)).mp y
      unfold jn_X1_findOfSize_38
      refine ⟨fun w => absurd w (by decide), fun _ => breaks_wp k10 q4 ⟨fun _ => ?_, fun w => absurd w (by decide)⟩ (fun hn => ⟨fun w => absurd rfl w, fun _ => skip τ q1 q2 q3 q4 (fun u => hn u.1.2)⟩)⟩
      have e2 : nI M &&& (nI t ^^^ (-1)) = nI (wo M t) := and_not M t
      rw [Fτ.2.2.1, e2]
      refine slv_wp Fτ G q3 (wo_lt hM) (fun τ2 hfit fr ca => ⟨fun w => absurd w (by decide), fun _ => ?_⟩) (fun τ2 cl hnf c1 c2 c3 fr ca => ⟨fun _ => ?_, fun w => absurd rfl w⟩)
      · have ex : LyP n M ws ss t := ⟨z, hfit⟩
        have H2 : Hld (gA τ2 6) (gI τ2 14) (fl (fun S => LyP n M ws ss S ∧ pc S = c) t) := by rw [fr.2 6 (by decide) (by decide) (by decide), fr.1 14 (by decide)]; exact q1
        have len : (fl (fun S => LyP n M ws ss S ∧ pc S = c) (t + 1)).length ≤ 252 := fl_252 (c := c) (by omega) (fun x _ hq => hq.2)
        rw [fl_yes ⟨ex, ec⟩, List.length_append] at len
        have len2 : (fl (fun S => LyP n M ws ss S ∧ pc S = c) t).length + 1 ≤ 252 := len
        refine add11_wp (by omega) H2 (fun τ3 H3 gi ga gl gb v hv => ?_)
        rw [hv, nI_1]
        refine ih τ3 ⟨by rw [fl_yes ⟨ex, ec⟩]; exact H3, (q2.tr (FrY.s fr)).tr ⟨fun i hi => gi i (by omega), fun i hi => ga i (by omega)⟩, cacheD_fr ca (fun i hi => gi i (by omega)) (fun i h1 h2 => ga i (by omega)) gl gb, clI_fr (clI_fr q4 (fr.1 15 (by decide)) (fr.2 7 (by decide) (by decide) (by decide))) (gi 15 (by decide)) (ga 7 (by decide))⟩
      · rw [c1]
        have clW : cl < 2 ^ k := Nat.lt_of_le_of_lt (Nat.le_of_testBit c2) (wo_lt hM)
        refine leastClash_wp ((FrY.s fr).net Fτ) G ca clW c3 (fun cl2 τ3 d1 d2 fr3 ca3 => ?_)
        have K3 := clI_fr (clI_fr q4 (fr.1 15 (by decide)) (fr.2 7 (by decide) (by decide) (by decide))) (fr3.1 15 (by decide)) (fr3.2 7 (by decide) (by decide) (by decide))
        refine add13_wp K3 (Nat.lt_of_le_of_lt (Nat.le_of_testBit d1) clW) (fun j hj => ?_) d2 (fun τ4 K4 gi ga gl gb v hv => ?_)
        · have := c2 j (d1 j hj)
          rw [wo_bit, Bool.and_eq_true] at this
          exact this.1
        · have H4 : Hld (gA τ4 6) (gI τ4 14) (fl (fun S => LyP n M ws ss S ∧ pc S = c) t) := by
            rw [ga 6 (by decide), gi 14 (by decide), fr3.2 6 (by decide) (by decide) (by decide), fr3.1 14 (by decide), fr.2 6 (by decide) (by decide) (by decide), fr.1 14 (by decide)]; exact q1
          exact skip τ4 H4 (((q2.tr (FrY.s fr)).tr (FrY.s fr3)).tr ⟨fun i hi => gi i (by omega), fun i hi => ga i (by omega)⟩) (cacheD_fr ca3 (fun i hi => gi i (by omega)) (fun i h1 h2 => ga i (by omega)) gl gb) K4 (fun u => hnf u.1.2) v hv)
    (Nat.zero_le _) (s := σ) ⟨hH, FrY.rf σ, hC, hK⟩
  rw [nI_0] at hf
  exact ⟨f, hf⟩
/-- the found sets, if they are up to date -/
def LiC (σ : St) (n k M : Nat) (ws ss : Nat → Nat) : Prop := ¬ gI σ 13 = 0 → Hld (gA σ 6) (gI σ 14) (Llie n k M ws ss)
theorem lyingC_wp {σ : St} (F : NetF σ n k o M Bm ws ss os) (G : NetG n k o M Bm ws ss os) (hC : CacheD σ n k ws ss) (hL : LiC σ n k M ws ss) {x : Int32} {post : Int32 → St → Prop} (hp : ∀ r τ, AnsL (Llie n k M ws ss) x r → FrY σ τ → CacheD τ n k ws ss → LiC τ n k M ws ss → post r τ) : wp_X6_lying x σ post := by
  have k10 := G.1.2.2.1
  have hM := G.2.2.1
  have kk : 2 ^ k ≤ 1024 := Nat.pow_le_pow_right (by decide) k10
  have ans : ∀ τ, Hld (gA τ 6) (gI τ 14) (Llie n k M ws ss) → FrY σ τ → CacheD τ n k ws ss → wp_X3_answer_11 x τ (fun r3 σ4 => post r3 σ4) := fun τ h1 h2 h3 => ans11_wp (lst_252 kk) h1 (fun r hr => hp r τ hr h2 h3 (fun _ => h1))
  have pM := pc10 M
  unfold wp_X6_lying wp_X1_leastSets
  refine ⟨fun q => ?_, fun q => ans σ (hL q) (FrY.rf σ) hC⟩
  unfold wp_X3_empty_11
  intro σ3 e3
  unfold wp_X3_empty_13
  intro σ5 e5
  have gi : ∀ i, i ≠ 14 → i ≠ 15 → gI σ5 i = gI σ i := fun i a b => by rw [e5, gI_sI, if_neg b, e3, gI_sI, if_neg a]
  have ga : ∀ i, gA σ5 i = gA σ i := fun i => by rw [e5, gA_sI, e3, gA_sI]
  have F5 : FrY σ σ5 := ⟨fun i hi => gi i (by omega) (by omega), fun i _ => ga i⟩
  have C5 : CacheD σ5 n k ws ss := cacheD_fr hC (fun i hi => gi i (by omega) (by omega)) (fun i _ _ => ga i) (fun i => by rw [e5, gL_sI, e3, gL_sI]) (fun i => by rw [e5, gB_sI, e3, gB_sI])
  have H5 : Hld (gA σ5 6) (gI σ5 14) [] := ⟨by rw [e5, gI_sI, if_neg (by decide), e3, gI_sI, if_pos rfl]; exact nI_0.symm, fun i hi => absurd hi (Nat.not_lt_zero i)⟩
  have K5 : ClI σ5 n k M ws ss := ⟨0, fun _ => 0, by rw [e5, gI_sI, if_pos rfl]; exact nI_0.symm, by decide, fun i hi => absurd hi (Nat.not_lt_zero i)⟩
  rw [(F5.net F).2.2.1]
  refine bc_wp (by omega) ?_
  have fin : ∀ τ, Hld (gA τ 6) (gI τ 14) (Llie n k M ws ss) → FrY σ τ → CacheD τ n k ws ss → ∀ σ2, σ2 = sI τ 13 1 → wp_X3_answer_11 x σ2 (fun r3 σ4 => post r3 σ4) := fun τ h1 h2 h3 σ2 e2 => by
    refine ans σ2 (by rw [e2]; exact h1) (h2.tr ?_) (cacheD_fr h3 (fun i hi => by rw [e2, gI_sI, if_neg (by omega)]) (fun i _ _ => by rw [e2, gA_sI]) (fun i => by rw [e2, gL_sI]) (fun i => by rw [e2, gB_sI]))
    rw [e2]; exact ⟨fun i hi => by rw [gI_sI, if_neg (by omega)], fun _ _ => rfl⟩
  obtain ⟨f, hf⟩ := lupE (fun f c (τ : St) => lp_X1_leastSets_37 (fun σ2 => wp_X3_answer_11 x σ2 (fun r3 σ4 => post r3 σ4)) f (nI (pc M)) (nI c) τ) (fun c τ => FrY σ τ ∧ CacheD τ n k ws ss ∧ ClI τ n k M ws ss ∧ ((Hld (gA τ 6) (gI τ 14) [] ∧ ∀ S, S < 2 ^ k → LyP n M ws ss S → c ≤ pc S) ∨ (¬ gI τ 14 = 0 ∧ Hld (gA τ 6) (gI τ 14) (Llie n k M ws ss)))) (pc M + 1)
    (fun f τ hτ => by
      obtain ⟨q1, q2, q3, q4⟩ := hτ
      unfold lp_X1_leastSets_37
      refine ⟨fun _ => fin τ ?_ q1 q2, fun z => absurd (nI_lt (Nat.lt_succ_self (pc M)) (by omega)) z⟩
      rcases q4 with ⟨a, b⟩ | ⟨_, a⟩
      · unfold Llie
        rw [fl_nil (fun S hS hq => by
          have h1 := b S hS hq.1
          have h2 : pc S ≤ pc M := fb_ct_sub (fun i _ hi => hq.1.1 i hi)
          omega)]
        exact a
      · exact a)
    (fun f c τ hc hτ ih => by
      obtain ⟨q1, q2, q3, q4⟩ := hτ
      unfold lp_X1_leastSets_37
      refine ⟨fun z => absurd z (nI_nlt (show c ≤ pc M by omega) (by omega)), fun _ => ⟨fun z => fin τ ?_ q1 q2, fun z => ?_⟩⟩
      · rcases q4 with ⟨a, _⟩ | ⟨_, a⟩
        · exact absurd (by rw [a.1]; exact nI_0) z
        · exact a
      · rcases q4 with ⟨a, b⟩ | ⟨a, _⟩
        · refine ofSize_wp (q1.net F) G q2 q3 a (show c ≤ 10 by omega) (fun τ2 H2 F2 C2 K2 v hv => ?_)
          rw [hv, nI_1]
          refine ih τ2 ⟨q1.tr F2, C2, K2, ?_⟩
          rcases Classical.em (∃ S, S < 2 ^ k ∧ LyP n M ws ss S ∧ pc S = c) with w | w
          · have e := lst_eq b w
            refine Or.inr ⟨fun y => ?_, by unfold Llie; rw [← e]; exact H2⟩
            rw [H2.1] at y
            have ll := fl_le (fun S => LyP n M ws ss S ∧ pc S = c) (2 ^ k)
            have := (nI_eq (show (fl (fun S => LyP n M ws ss S ∧ pc S = c) (2 ^ k)).length < 2 ^ 31 by omega) (show 0 < 2 ^ 31 by decide)).mp (y.trans nI_0.symm)
            obtain ⟨S, s1, s2⟩ := w
            exact fl_empty.mp this S s1 s2
          · refine Or.inl ⟨?_, fun S hS hE => ?_⟩
            · rw [fl_nil (fun S hS hq => w ⟨S, hS, hq⟩)] at H2; exact H2
            · have := b S hS hE
              rcases Nat.lt_or_ge c (pc S) with y | y
              · omega
              · exact absurd ⟨S, hS, hE, by omega⟩ w
        · exact absurd z a)
    (Nat.zero_le _) (s := σ5) ⟨F5, C5, K5, Or.inl ⟨H5, fun S _ _ => Nat.zero_le _⟩⟩
  rw [nI_0] at hf
  exact ⟨f, hf⟩
end LYG
