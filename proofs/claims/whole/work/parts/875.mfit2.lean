/-! ===== the reference's doFit: enter, leave, the walk ===== -/
theorem ixL (i n m : Nat) : (32 * nI i) + nI (n + m + 1) - 1 = nI (i * 32 + (n + m)) := by
  rw [ix32, show i * 32 + (n + m + 1) = (i * 32 + (n + m)) + 1 by omega, nI_pred]
/-- what stays over a fit -/
def FrD (σ τ : St) : Prop := (∀ i, i ≠ 3 → gI τ i = gI σ i) ∧ ∀ i, i ≠ 5 → gA τ i = gA σ i
theorem FrD.rf (σ : St) : FrD σ σ := ⟨fun _ _ => rfl, fun _ _ => rfl⟩
theorem FrD.tr {σ τ ρ : St} (h : FrD σ τ) (g : FrD τ ρ) : FrD σ ρ := ⟨fun i hi => (g.1 i hi).trans (h.1 i hi), fun i hi => (g.2 i hi).trans (h.2 i hi)⟩
theorem FrD.m {σ τ : St} (h : FrD σ τ) : FrM σ τ := ⟨fun i hi => h.1 i (by omega), fun i hi => h.2 i (by omega)⟩
theorem FrD.pv {σ τ : St} (h : PvF σ τ) : FrD σ τ := ⟨fun i _ => h.1 i, fun i _ => h.2.2.1 i⟩
def MdC (σ : St) (n m : Nat) (S : Sx) : Prop := gI σ 0 = nI n ∧ gI σ 3 = nI (m + 1) ∧ (gL σ 0).toInt = S.2.1 ∧ (∀ s, s < m → gA σ 5 s = nI (S.1 s)) ∧ Rw σ (m + 1) (n + m + 1) (TT n m S)
section MF2
variable {n m : Nat} {A : Nat → Nat → Int} {b : Nat → Int}
theorem enter_wp {σ : St} {S : Sx} (H : MdC σ n m S) (hn : n ≤ 10) (hm : m ≤ 10) {post : Int32 → St → Prop} (h1 : ∀ e, e < n → 0 < Ob n m S e → (∀ j, j < e → ¬ 0 < Ob n m S j) → post (nI e) σ) (h2 : (∀ j, j < n → ¬ 0 < Ob n m S j) → post (-1) σ) : wp_X7_enter (nI m) σ post := by
  obtain ⟨f, hf⟩ := lupE (fun f i (_ : Unit) => lp_X7_enter_2 post f (nI m) (nI i) σ) (fun i _ => ∀ j, j < i → ¬ 0 < Ob n m S j) n
    (fun f _ h => by
      unfold lp_X7_enter_2
      rw [H.1]
      exact ⟨fun _ => h2 h, fun q => absurd (nI_le (Nat.le_refl n) (by omega)) q⟩)
    (fun f i _ hi h ih => by
      unfold lp_X7_enter_2
      rw [H.1, ix32, nI_clamp (by omega)]
      have ev : (gB σ 0 (m * 32 + i)).toInt = Ob n m S i := by
        rw [H.2.2.2.2 m i (by omega) (by omega)]; exact if_pos rfl
      refine ⟨fun q => absurd q (nI_ge hi (by omega)), fun _ => ⟨in800 (by omega), fun q v hv => ?_, fun q => ?_⟩⟩
      · rw [Int64.le_iff_toInt_le, ev, show (0 : Int64).toInt = 0 from rfl] at q
        rw [hv, nI_1]
        refine ih () (fun j hj => ?_)
        by_cases z : j = i
        · rw [z]; omega
        · exact h j (by omega)
      · rw [Int64.le_iff_toInt_le, ev, show (0 : Int64).toInt = 0 from rfl] at q
        exact h1 i hi (by omega) h)
    (Nat.zero_le n) (s := ()) (fun j hj => absurd hj (Nat.not_lt_zero j))
  rw [nI_0] at hf
  exact ⟨f, hf⟩
theorem leave_wp {σ : St} {S : Sx} {lc : Nat → Int} {sc : Int} {br : Nat} (H : MdC σ n m S) (B : DelB n m S lc sc br) {e : Nat} (he : e < n) (hx : ∃ s, s < m ∧ 0 < S.2.2 s e) {post : Int32 → St → Prop} (hp : ∀ r, bestM n m S e r m → post (nI r) σ) : wp_X7_leave (nI e) (nI m) (nI (n + m + 1)) σ post := by
  obtain ⟨b1, b2, b3, b4, b5, b6, b7, b8, b9, b10⟩ := B
  have ev : ∀ s j, s < m → j < n + m + 1 → (gB σ 0 (s * 32 + j)).toInt = S.2.2 s j := fun s j hs hj => by
    rw [H.2.2.2.2 s j (by omega) hj]; exact if_neg (by omega)
  have z0 : (0 : Int64).toInt = 0 := rfl
  obtain ⟨f, hf⟩ := lupE (fun f i (x : Int32) => lp_X7_leave_6 post f (nI e) (nI m) (nI (n + m + 1)) x (nI i) σ) (fun i x => (x = -1 ∧ ∀ s, s < i → ¬ 0 < S.2.2 s e) ∨ ∃ r, x = nI r ∧ bestM n m S e r i) m
    (fun f x h => by
      unfold lp_X7_leave_6
      refine ⟨fun _ => ?_, fun q => absurd (nI_le (Nat.le_refl m) (by omega)) q⟩
      rcases h with ⟨_, h⟩ | ⟨r, rfl, h⟩
      · obtain ⟨s, hs, hq⟩ := hx
        exact absurd hq (h s hs)
      · exact hp r h)
    (fun f i x hi h ih => by
      unfold lp_X7_leave_6
      have e1 := ev i e hi (by omega)
      have c1 : ((32 * nI i) + nI e) = nI (i * 32 + e) := ix32 i e
      refine ⟨fun q => absurd q (nI_ge hi (by omega)), fun _ => ⟨by rw [c1]; exact in800 (by omega), fun q v hv => ?_, fun q => ?_⟩⟩
      · rw [c1, nI_clamp (by omega), Int64.le_iff_toInt_le, e1, z0] at q
        rw [hv, nI_1]
        refine ih x ?_
        rcases h with ⟨h0, h⟩ | ⟨r, hr, h1, h2, h3⟩
        · exact Or.inl ⟨h0, fun s hs => by
            by_cases w : s = i
            · rw [w]; omega
            · exact h s (by omega)⟩
        · exact Or.inr ⟨r, hr, by omega, h2, fun s hs hp2 => by
            by_cases w : s = i
            · rw [w] at hp2; omega
            · exact h3 s (by omega) hp2⟩
      · rw [c1, nI_clamp (by omega), Int64.le_iff_toInt_le, e1, z0] at q
        rcases h with ⟨h0, h⟩ | ⟨r, hr, h1, h2, h3⟩
        · have go : ∀ v, v = nI i + 1 → lp_X7_leave_6 post f (nI e) (nI m) (nI (n + m + 1)) (nI i) v σ := fun v hv => by
            rw [hv, nI_1]
            exact ih (nI i) (Or.inr ⟨i, rfl, by omega, by omega, fun s hs hp2 => by
              by_cases w : s = i
              · rw [w]; exact gm_refl n m S e i
              · exact absurd hp2 (h s (by omega))⟩)
          have nn : ¬ (0 : Int32) ≤ x := by rw [h0]; decide
          have nl : x < 0 := by rw [h0]; decide
          refine ⟨fun z => absurd z nn, fun _ => ?_⟩
          unfold jn_X7_leave_65
          refine ⟨fun z => absurd z nn, fun _ => ?_⟩
          unfold jn_X7_leave_103
          exact ⟨fun _ => go, fun z => absurd nl z⟩
        · subst hr
          have hr : r < m := by omega
          have c2 : ((32 * nI i) + nI (n + m + 1)) - 1 = nI (i * 32 + (n + m)) := ixL i n m
          have c3 : ((32 * nI r) + nI e) = nI (r * 32 + e) := ix32 r e
          have c4 : ((32 * nI r) + nI (n + m + 1)) - 1 = nI (r * 32 + (n + m)) := ixL r n m
          refine ⟨fun _ => ?_, fun z => absurd (nI_pos' (by omega)) z⟩
          rw [c2, c3, nI_clamp (show i * 32 + (n + m) < 2 ^ 31 by omega), nI_clamp (show r * 32 + e < 2 ^ 31 by omega)]
          refine ⟨in800 (by omega), in800 (by omega), ?_⟩
          unfold jn_X7_leave_65
          refine ⟨fun _ => ?_, fun z => absurd (nI_pos' (by omega)) z⟩
          rw [c4, c1, nI_clamp (show r * 32 + (n + m) < 2 ^ 31 by omega), nI_clamp (show i * 32 + e < 2 ^ 31 by omega)]
          refine ⟨in800 (by omega), in800 (by omega), ?_⟩
          have m1 := abs_mul_le (A := 362880000000) (B := 38981) (b10 i hi) (b9 r e hr (by omega))
          have m2 := abs_mul_le (A := 362880000000) (B := 38981) (b10 r hr) (b9 i e hi (by omega))
          have v1 := ev i (n + m) hi (by omega)
          have v2 := ev r e hr (by omega)
          have v3 := ev r (n + m) hr (by omega)
          have t1 : (gB σ 0 (i * 32 + (n + m)) * gB σ 0 (r * 32 + e)).toInt = S.2.2 i (n + m) * S.2.2 r e := by
            rw [fb_mulL (by rw [v1, v2]; omega) (by rw [v1, v2]; omega), v1, v2]
          have t2 : (gB σ 0 (r * 32 + (n + m)) * gB σ 0 (i * 32 + e)).toInt = S.2.2 r (n + m) * S.2.2 i e := by
            rw [fb_mulL (by rw [v3, e1]; omega) (by rw [v3, e1]; omega), v3, e1]
          have l1 : gB σ 0 (i * 32 + (n + m)) * gB σ 0 (r * 32 + e) < gB σ 0 (r * 32 + (n + m)) * gB σ 0 (i * 32 + e) ↔ S.2.2 i (n + m) * S.2.2 r e < S.2.2 r (n + m) * S.2.2 i e := by rw [Int64.lt_iff_toInt_lt, t1, t2]
          have l2 : gB σ 0 (i * 32 + (n + m)) * gB σ 0 (r * 32 + e) = gB σ 0 (r * 32 + (n + m)) * gB σ 0 (i * 32 + e) ↔ S.2.2 i (n + m) * S.2.2 r e = S.2.2 r (n + m) * S.2.2 i e := by rw [← Int64.toInt_inj, t1, t2]
          have bl : ∀ s, s < m → S.1 s < 2 ^ 31 := fun s hs => by rcases b7 s hs with y | y <;> omega
          have l3 : gA σ 5 r ≤ gA σ 5 i ↔ S.1 r ≤ S.1 i := by rw [H.2.2.2.1 r hr, H.2.2.2.1 i hi, nI_leI (bl r hr) (bl i hi)]
          have new : gm n m S e i r → ∀ v, v = nI i + 1 → lp_X7_leave_6 post f (nI e) (nI m) (nI (n + m + 1)) (nI i) v σ := fun g v hv => by
            rw [hv, nI_1]
            refine ih (nI i) (Or.inr ⟨i, rfl, by omega, by omega, fun s hs hp2 => ?_⟩)
            by_cases w : s = i
            · rw [w]; exact gm_refl n m S e i
            · exact gm_trans (by omega) h2 hp2 g (h3 s (by omega) hp2)
          have old : gm n m S e r i → ∀ v, v = nI i + 1 → lp_X7_leave_6 post f (nI e) (nI m) (nI (n + m + 1)) (nI r) v σ := fun g v hv => by
            rw [hv, nI_1]
            refine ih (nI r) (Or.inr ⟨r, rfl, by omega, h2, fun s hs hp2 => ?_⟩)
            by_cases w : s = i
            · rw [w]; exact g
            · exact h3 s (by omega) hp2
          unfold jn_X7_leave_103
          rw [nI_clamp (show r < 2 ^ 31 by omega), nI_clamp (show i < 2 ^ 31 by omega), l1, l2, l3]
          refine ⟨fun z => absurd z (nI_pos (by omega)), fun _ => ⟨fun z => new ⟨by omega, fun w => by omega⟩, fun z => ⟨fun w => old ⟨by omega, fun y => by omega⟩, fun w => ⟨idx10 (by omega), idx10 (by omega), fun y => old ⟨by omega, fun _ => y⟩, fun y => new ⟨by omega, fun _ => by omega⟩⟩⟩⟩⟩)
    (Nat.zero_le m) (s := -1) (Or.inl ⟨rfl, fun s hs => absurd hs (Nat.not_lt_zero s)⟩)
  rw [nI_0] at hf
  exact ⟨f, hf⟩
theorem tt_bound {S : Sx} {lc : Nat → Int} {sc : Int} {br : Nat} (B : DelB n m S lc sc br) : (∀ i j, i < m + 1 → j < n + m → -1000000 ≤ TT n m S i j ∧ TT n m S i j ≤ 1000000) ∧ ∀ i, i < m + 1 → -4000000000000 ≤ TT n m S i (n + m) ∧ TT n m S i (n + m) ≤ 4000000000000 := by
  have o := ob_bound B
  obtain ⟨b1, b2, b3, b4, b5, b6, b7, b8, b9, b10⟩ := B
  refine ⟨fun i j hi hj => ?_, fun i hi => ?_⟩
  · unfold TT
    by_cases q : i = m
    · rw [if_pos q]; exact o.1 j hj
    · rw [if_neg q]; have := b9 i j (by omega) hj; omega
  · unfold TT
    by_cases q : i = m
    · rw [if_pos q]; exact o.2
    · rw [if_neg q]; have := b10 i (by omega); omega
theorem fitw_lp {lc : Nat → Int} {sc : Int} {br : Nat} (Y : SysB n m A b lc sc br) {σ0 : St} {post : Int32 → St → Prop}
    (hp : ∀ τ S, Std n m (vrow n m A b) S → MdC τ n m S → FrD σ0 τ → (∀ j, j < n → ¬ 0 < Ob n m S j) → jn_X7_doFit_316 post (nI m) (nI (n + m + 1)) τ) :
    ∀ (k N : Nat) (S : Nat → Sx) (e r : Nat → Nat) (τ : St) (x : Int32), N + k = 258048 → Wlk n m (vrow n m A b) (cSlack n m) (fun _ => False) S e r N → Std n m (vrow n m A b) (S N) → MdC τ n m (S N) → FrD σ0 τ → ((x = -1 ∧ ∀ j, j < n → ¬ 0 < Ob n m (S N) j) ∨ ∃ a, x = nI a ∧ a < n ∧ 0 < Ob n m (S N) a ∧ ∀ j, j < a → ¬ 0 < Ob n m (S N) j) → lp_X7_doFit_273 post (k + 1) (nI m) (nI (n + m + 1)) x τ := by
  have n10 := Y.2.1
  have m10 := Y.2.2.1
  intro k
  induction k with
  | zero =>
    intro N S e r τ x hk hW _ _ _ _
    have := wlk_short n10 m10 (cSl_last n m) hW
    omega
  | succ k ih =>
    intro N S e r τ x hk hW hS H hF hx
    have B := std_B Y hS
    unfold lp_X7_doFit_273
    rcases hx with ⟨hx, hno⟩ | ⟨a, hx, ha, hpos, hfst⟩
    · refine ⟨fun _ => hp τ (S N) hS H hF hno, fun q => absurd (by rw [hx]; decide) q⟩
    · subst hx
      refine ⟨fun q => absurd q (nI_pos (by omega)), fun _ => leave_wp H B ha (ob_pos ha hpos) (fun r1 hr1 => ⟨idx10 (by have := hr1.1; omega), fun σ4 e4 => ?_⟩)⟩
      have hr := hr1.1
      obtain ⟨T', t1, t2, t3⟩ := stepM_std hS ha hr1
      have hbp := stepM_bstp (c := cSlack n m) hS ha ((ob_hlp ha).mp hpos) (fun j hj => fun z => hfst j hj ((ob_hlp (by omega)).mpr z)) hr1 t1 t2 t3
      have B2 := std_B Y t1
      have tb := tt_bound B
      have tb2 := tt_bound B2
      rw [nI_clamp (by omega)] at e4
      have F4 : FrD τ σ4 := by
        rw [e4]
        refine ⟨fun _ _ => rfl, fun i hi => ?_⟩
        funext x
        rw [gA_sA, if_neg (fun z => hi z.1)]
      have ttr : ∀ (S' : Sx) j, TT n m S' r1 j = S'.2.2 r1 j := fun S' j => if_neg (by omega)
      have ttm : ∀ (S' : Sx) j, TT n m S' m j = Ob n m S' j := fun S' j => if_pos rfl
      have hbig : ∀ i j, i < m + 1 → j < n + m + 1 → -4000000000000 ≤ TT n m (S N) i j ∧ TT n m (S N) i j ≤ 4000000000000 := fun i j hi hj => by
        by_cases z : j = n + m
        · rw [z]; exact tb.2 i hi
        · have := tb.1 i j hi (by omega); omega
      refine pivM_wp (R := m + 1) (w := n + m + 1) (r := r1) (c := a) (d := (S N).2.1) (T := TT n m (S N)) (T' := TT n m (cu (S N).1 r1 a, (S N).2.2 r1 a, T')) (by omega) (by omega) (by omega) (by omega) (by rw [e4, gI_sA]; exact H.2.1) (by rw [e4, gL_sA]; exact H.2.2.1) (by have := hS.2.1; omega) (fun s j hs hj => by rw [e4, gB_sA]; exact H.2.2.2.2 s j hs hj) (fun j _ => by rw [ttr, ttr]; exact t2 j) (fun i hi hne j _ => ?_) (fun i j hi hne hj => ?_) (fun i j hi hne hj => ?_) (fun i j hi hne hj => ?_) (fun σ7 F7 R7 L7 => ?_)
      · rw [ttr, ttr]
        by_cases q : i = m
        · rw [q, ttm, ttm, ttm]
          exact kc_piv (cSlack n m) hr t2 t3 j
        · have u : ∀ (S' : Sx) j, TT n m S' i j = S'.2.2 i j := fun S' j => if_neg q
          rw [u, u, u]; exact t3 i (by omega) hne j
      · have p1 := hbig i j hi hj
        have p2 := B.2.2.2.2.2.2.2.2.1 r1 a hr (by omega)
        rw [ttr]
        have := abs_mul_le p1 p2
        omega
      · have p1 := tb.1 i a hi (by omega)
        have p2 := hbig r1 j (by omega) hj
        have := abs_mul_le p1 p2
        omega
      · by_cases z : j = n + m
        · rw [z]; have := tb2.2 i hi; omega
        · have := tb2.1 i j hi (by omega); omega
      · have hx : ext S N (cu (S N).1 r1 a, (S N).2.2 r1 a, T') (N + 1) = (cu (S N).1 r1 a, (S N).2.2 r1 a, T') := if_neg (by omega)
        have H7 : MdC σ7 n m (cu (S N).1 r1 a, (S N).2.2 r1 a, T') := by
          refine ⟨?_, ?_, ?_, fun s hs => ?_, R7⟩
          · rw [F7.1, e4, gI_sA]; exact H.1
          · rw [F7.1, e4, gI_sA]; exact H.2.1
          · rw [L7, ttr]
          · rw [F7.2.2.1, e4, gA_sA]
            show (if 5 = 5 ∧ s = r1 then nI a else gA τ 5 s) = nI (cu (S N).1 r1 a s)
            by_cases q : s = r1
            · rw [if_pos ⟨rfl, q⟩, q, cu_same]
            · rw [if_neg (fun z => q z.2), cu_ne _ q]; exact H.2.2.2.1 s hs
        have F07 : FrD σ0 σ7 := (hF.tr F4).tr (FrD.pv F7)
        refine enter_wp H7 n10 m10 (fun e2 g1 g2 g3 => ?_) (fun g => ?_)
        · exact ih (N + 1) (ext S N (cu (S N).1 r1 a, (S N).2.2 r1 a, T')) (extn e N a) (extn r N r1) σ7 (nI e2) (by omega) (wlk_ext hW hbp) (by rw [hx]; exact t1) (by rw [hx]; exact H7) F07 (Or.inr ⟨e2, rfl, g1, by rw [hx]; exact g2, by rw [hx]; exact g3⟩)
        · exact ih (N + 1) (ext S N (cu (S N).1 r1 a, (S N).2.2 r1 a, T')) (extn e N a) (extn r N r1) σ7 (-1) (by omega) (wlk_ext hW hbp) (by rw [hx]; exact t1) (by rw [hx]; exact H7) F07 (Or.inl ⟨rfl, by rw [hx]; exact g⟩)
end MF2
