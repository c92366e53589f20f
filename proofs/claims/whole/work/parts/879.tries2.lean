/-! ===== the reference's tries ===== -/
/-- what stays over tries -/
def FrT (σ τ : St) : Prop := (∀ i, i ≠ 3 → gI τ i = gI σ i) ∧ (∀ i, gA τ i = gA σ i) ∧ gL τ 2 = gL σ 2 ∧ gB τ 2 = gB σ 2
theorem FrT.rf (σ : St) : FrT σ σ := ⟨fun _ _ => rfl, fun _ => rfl, rfl, rfl⟩
theorem FrT.tr {σ τ ρ : St} (h : FrT σ τ) (g : FrT τ ρ) : FrT σ ρ := ⟨fun i hi => (g.1 i hi).trans (h.1 i hi), fun i => (g.2.1 i).trans (h.2.1 i), g.2.2.1.trans h.2.2.1, g.2.2.2.trans h.2.2.2⟩
theorem FrT.d {σ τ : St} (h : FrT σ τ) : FrD σ τ := ⟨h.1, fun i _ => h.2.1 i⟩
theorem FrT.pv {σ τ : St} (h : PvF σ τ) : FrT σ τ := ⟨fun i _ => h.1 i, h.2.2.1, h.2.1 2 (by decide), h.2.2.2 2 (by decide)⟩
theorem sg_cut {f : Nat → Int} {a b : Nat} (h : a ≤ b) (h0 : ∀ j, a ≤ j → j < b → f j = 0) : sg f b = sg f a := by
  have := sg_split f a (b - a)
  rw [show a + (b - a) = b by omega] at this
  rw [this, sg_zero (fun j hj => h0 (a + j) (by omega) (by omega)), Int.add_zero]
theorem all_wy {k M : Nat} (hk : k ≤ 10) (hM : M < 2 ^ k) {Q : Nat → Prop} (h : ∀ t, t < pc M → Q (wy M t)) : ∀ w, M.testBit w = true → Q w := fun w hw => by
  have hwk : w < k := by
    rcases Nat.lt_or_ge w k with q | q
    · exact q
    · rw [bits_of_lt hM q] at hw; cases hw
  have := h _ (wyl_lt hk hwk hw)
  rw [wy_of hk hM hwk hw] at this
  exact this
section TRM
variable {n k o M Bm : Nat} {ws ss os : Nat → Nat} {s : Nat}
theorem trow_wp {σ : St} {t w a : Nat} (hn : n ≤ 10) (hs : s < 2 ^ n) (h0 : gI σ 0 = nI n) (h3 : gI σ 3 = nI t) (ht : t < 10) (hw : w < 10) (hwa : gA σ 0 w = nI a) (ha : a < 2 ^ 31) {z : Vc} (hz : ∀ j, j < pc s → z j = if a.testBit (wy s j) then 1 else 0) {post : Int32 → St → Prop} {K : Int32 → Int32 → St → Prop} (hp : ∀ τ, SameB σ τ → RowB σ τ 32 t (pc s) z → jn_X7_tries_85 post K (nI s) (nI (pc s)) (nI w) τ) : ∃ fu : Nat, lp_X7_tries_31 post K fu (nI s) 0 (nI w) 0 σ := by
  have pc10 : pc s ≤ 10 := fb_ct_le _ 10
  obtain ⟨f, hf⟩ := lupE (fun f i (p : Int32 × St) => lp_X7_tries_31 post K f (nI s) p.1 (nI w) (nI i) p.2) (fun i p => p.1 = nI (wyL s i).length ∧ SameB σ p.2 ∧ RowB σ p.2 32 t (wyL s i).length z) n
    (fun f p hp0 => by
      obtain ⟨h1, h2, h4⟩ := hp0
      rw [wyl_end hn hs] at h1 h4
      show lp_X7_tries_31 post K (f + 1) (nI s) p.1 (nI w) (nI n) p.2
      unfold lp_X7_tries_31
      rw [h2.1 0, h0, h1]
      exact ⟨fun _ => hp p.2 h2 h4, fun q => absurd (nI_le (Nat.le_refl n) (by omega)) q⟩)
    (fun f i p hi hp0 ih => by
      obtain ⟨h1, h2, h4⟩ := hp0
      show lp_X7_tries_31 post K (f + 1) (nI s) p.1 (nI w) (nI i) p.2
      unfold lp_X7_tries_31
      rw [h2.1 0, h0, h1, bit_at (m31 hs hn) (by omega)]
      refine ⟨fun q => absurd q (nI_ge hi (by omega)), fun _ => ⟨fun q v hv => ?_, fun q => ?_⟩⟩
      · rw [hv, nI_1]
        have e : wyL s (i + 1) = wyL s i := by rw [wyL_succ, if_neg (by rw [(bit_ne1 _).mp q]; decide), List.append_nil]
        exact ih (nI (wyL s i).length, p.2) ⟨by rw [e], h2, by rw [e]; exact h4⟩
      · have hb := (bit_1 _).mp q
        have hl := wyl_lt hn hi hb
        have e : (wyL s (i + 1)).length = (wyL s i).length + 1 := by rw [wyL_succ, if_pos hb, List.length_append]; rfl
        rw [h2.1 3, h3, ix32, nI_clamp (show t * 32 + (wyL s i).length < 2 ^ 31 by omega), nI_clamp (show w < 2 ^ 31 by omega), h2.2.2.1 0, hwa, bit_at ha (by omega)]
        refine ⟨idx10 hw, in800 (by omega), fun τ5 e5 v hv v9 hv9 => ?_⟩
        rw [hv, hv9, nI_1, nI_1]
        refine ih (nI ((wyL s i).length + 1), τ5) ⟨by rw [e], by rw [e5]; exact h2.tr (SameB.put _ _ _), ?_⟩
        show RowB σ τ5 32 t (wyL s (i + 1)).length z
        rw [e, e5]
        refine h4.step ?_
        rw [bit_i64, hz _ hl, wy_of hn hs hi hb])
    (Nat.zero_le n) (s := ((nI 0 : Int32), σ)) ⟨rfl, SameB.rf σ, fun j hj => absurd hj (Nat.not_lt_zero j), fun x _ => rfl⟩
  rw [nI_0] at hf
  exact ⟨f, hf⟩
/-- the numbers told, the lines of s alone -/
def Uq (s : Nat) (T : Nat → Nat → Int) (ε : Int) (j : Nat) : Int := if s.testBit j then T (wyL s j).length (pc s) * ε else 0
theorem tfin_wp {σ : St} (hn : n ≤ 10) (hs : s < 2 ^ n) (h0 : gI σ 0 = nI n) {T : Nat → Nat → Int} {R : Nat} (hR : R ≤ 10) (hq : pc s ≤ R) (hT : Rw σ R (pc s + 1) T) (hb : ∀ i, i < R → -362880000000 ≤ T i (pc s) ∧ T i (pc s) ≤ 362880000000) {x0 : Int32} (hx0 : bz x0) {e64 : Int64} {ε : Int} (he : e64.toInt = ε) (hε : ε = 1 ∨ ε = -1) {post : Int32 → St → Prop}
    (hp : ∀ x τ, bz x → ((∀ i, gI τ i = gI σ i) ∧ (∀ i, gL τ i = gL σ i) ∧ (∀ i, gA τ i = gA σ i) ∧ ∀ i, i ≠ 1 → gB τ i = gB σ i) → (x = 1 ↔ x0 = 1 ∧ ∀ j, j < n → 0 ≤ Uq s T ε j) → (x = 1 → ∀ j, j < n → (gB τ 1 j).toInt = Uq s T ε j) → post x τ) : ∃ fu : Nat, lp_X7_tries_265 post fu (nI s) (nI (pc s)) x0 e64 0 0 σ := by
  have pc10 : pc s ≤ 10 := fb_ct_le _ 10
  have z0 : (0 : Int64).toInt = 0 := rfl
  obtain ⟨f, hf⟩ := lupE (fun f i (p : Int32 × Int32 × St) => lp_X7_tries_265 post f (nI s) (nI (pc s)) p.1 e64 p.2.1 (nI i) p.2.2) (fun i p => p.2.1 = nI (wyL s i).length ∧ bz p.1 ∧ ((∀ i, gI p.2.2 i = gI σ i) ∧ (∀ i, gL p.2.2 i = gL σ i) ∧ (∀ i, gA p.2.2 i = gA σ i) ∧ ∀ i, i ≠ 1 → gB p.2.2 i = gB σ i) ∧ (p.1 = 1 ↔ x0 = 1 ∧ ∀ j, j < i → 0 ≤ Uq s T ε j) ∧ (p.1 = 1 → ∀ j, j < i → (gB p.2.2 1 j).toInt = Uq s T ε j)) n
    (fun f p hp0 => by
      obtain ⟨h1, h2, h4, h5, h6⟩ := hp0
      show lp_X7_tries_265 post (f + 1) (nI s) (nI (pc s)) p.1 e64 p.2.1 (nI n) p.2.2
      unfold lp_X7_tries_265
      rw [h4.1 0, h0]
      exact ⟨fun _ => ⟨h2, hp _ _ h2 h4 h5 h6⟩, fun q => absurd (nI_le (Nat.le_refl n) (by omega)) q⟩)
    (fun f i p hi hp0 ih => by
      obtain ⟨x3, x6, τ⟩ := p
      obtain ⟨h1, h2, h4, h5, h6⟩ := hp0
      have h1 : x6 = nI (wyL s i).length := h1
      have h2 : bz x3 := h2
      have h4 : (∀ i, gI τ i = gI σ i) ∧ (∀ i, gL τ i = gL σ i) ∧ (∀ i, gA τ i = gA σ i) ∧ ∀ i, i ≠ 1 → gB τ i = gB σ i := h4
      have h5 : x3 = 1 ↔ x0 = 1 ∧ ∀ j, j < i → 0 ≤ Uq s T ε j := h5
      have h6 : x3 = 1 → ∀ j, j < i → (gB τ 1 j).toInt = Uq s T ε j := h6
      have put : ∀ (hv : Int32) (v : Int64), hv = (if s.testBit i then 1 else 0) → (x3 = 1 → v.toInt = Uq s T ε i) → jn_X7_tries_325 post (lp_X7_tries_265 post f) (nI s) (nI (pc s)) x3 e64 x6 (nI i) hv (nI i) v τ := by
        intro hv v ehv hU
        unfold jn_X7_tries_325
        rw [nI_clamp (show i < 2 ^ 31 by omega)]
        refine ⟨idx10 (by omega), fun σ1 e1 => ?_⟩
        have F1 : (∀ i, gI σ1 i = gI σ i) ∧ (∀ i, gL σ1 i = gL σ i) ∧ (∀ i, gA σ1 i = gA σ i) ∧ ∀ i, i ≠ 1 → gB σ1 i = gB σ i := by
          rw [e1]
          refine ⟨h4.1, h4.2.1, h4.2.2.1, fun l hl => ?_⟩
          funext x
          rw [gB_sB, if_neg (fun z => hl z.1), h4.2.2.2 l hl]
        have gb : ∀ j, gB σ1 1 j = if j = i then v else gB τ 1 j := fun j => by
          rw [e1, gB_sB]
          by_cases z : j = i
          · rw [if_pos ⟨rfl, z⟩, if_pos z]
          · rw [if_neg (fun w => z w.2), if_neg z]
        have nxt : ∀ y : Int32, bz y → (y = 1 ↔ x0 = 1 ∧ ∀ j, j < i + 1 → 0 ≤ Uq s T ε j) → (y = 1 → x3 = 1) → jn_X7_tries_347 post (lp_X7_tries_265 post f) (nI s) (nI (pc s)) e64 x6 (nI i) hv y σ1 := by
          intro y hy hy1 hy2
          have fin : ∀ u : Int32, u = nI (wyL s (i + 1)).length → lp_X7_tries_265 post f (nI s) (nI (pc s)) y e64 u (nI (i + 1)) σ1 := fun u hu => by
            refine ih (y, u, σ1) ⟨hu, hy, F1, hy1, fun q j hj => ?_⟩
            show (gB σ1 1 j).toInt = _
            rw [gb]
            by_cases z : j = i
            · rw [if_pos z, z]; exact hU (hy2 q)
            · rw [if_neg z]; exact h6 (hy2 q) j (by omega)
          unfold jn_X7_tries_347
          refine ⟨fun q u hu u2 hu2 => ?_, fun q u hu u2 hu2 => ?_⟩
          · rw [hu2, nI_1]
            refine fin u ?_
            rw [ehv] at q
            rw [hu, h1, ← nI_0, nI_add, wyL_succ, if_neg (by rw [(bit_0 _).mp q]; decide), List.append_nil]; rfl
          · rw [hu2, nI_1]
            refine fin u ?_
            rw [ehv] at q
            rw [hu, h1, nI_1, wyL_succ, if_pos ((bit_ne0 _).mp q), List.length_append]; rfl
        refine ⟨fun q => ?_, fun q => ?_⟩
        · unfold jn_X7_tries_346
          refine nxt 0 bz_0 ⟨fun z => absurd z (by decide), fun z => ?_⟩ (fun z => absurd z (by decide))
          have : x3 = 1 := h5.mpr ⟨z.1, fun j hj => z.2 j (by omega)⟩
          rw [q] at this; exact absurd this (by decide)
        · have q1 : x3 = 1 := h2.elim (fun z => absurd z q) id
          have ev : (gB σ1 1 i).toInt = Uq s T ε i := by rw [gb, if_pos rfl]; exact hU q1
          refine ⟨idx10 (by omega), fun z => ?_, fun z => ?_⟩
          · rw [Int64.lt_iff_toInt_lt, ev, z0] at z
            unfold jn_X7_tries_346
            refine nxt 0 bz_0 ⟨fun y => absurd y (by decide), fun y => ?_⟩ (fun y => absurd y (by decide))
            have := y.2 i (by omega)
            omega
          · rw [Int64.lt_iff_toInt_lt, ev, z0] at z
            refine nxt 1 bz_1 ⟨fun _ => ⟨(h5.mp q1).1, fun j hj => ?_⟩, fun _ => rfl⟩ (fun _ => q1)
            by_cases y : j = i
            · rw [y]; omega
            · exact (h5.mp q1).2 j (by omega)
      show lp_X7_tries_265 post (f + 1) (nI s) (nI (pc s)) x3 e64 x6 (nI i) τ
      unfold lp_X7_tries_265
      rw [h4.1 0, h0, bit_at (m31 hs hn) (by omega)]
      refine ⟨fun q => absurd q (nI_ge hi (by omega)), fun _ => ⟨fun q => ?_, fun q => ?_⟩⟩
      · have q2 := (bit_ne1 _).mp q
        have hU : Uq s T ε i = 0 := if_neg (by rw [q2]; decide)
        unfold jn_X7_tries_289
        refine ⟨fun _ => ?_, fun z => absurd rfl z⟩
        unfold jn_X7_tries_324
        exact put 0 0 (by rw [q2]; rfl) (fun _ => hU.symm)
      · have q2 := (bit_1 _).mp q
        have hl := wyl_lt hn hi q2
        have hU : Uq s T ε i = T (wyL s i).length (pc s) * ε := if_pos q2
        unfold jn_X7_tries_289
        refine ⟨fun z => absurd z (by decide), fun _ => ⟨fun z => ?_, fun z => ?_⟩⟩
        · unfold jn_X7_tries_324
          exact put 1 0 (by rw [q2]; rfl) (fun y => absurd (y.symm.trans z) (by decide))
        · rw [h1, ix32, nI_clamp (by omega)]
          refine ⟨in800 (by omega), ?_⟩
          have ev : (gB τ 0 ((wyL s i).length * 32 + pc s)).toInt = T (wyL s i).length (pc s) := by rw [h4.2.2.2 0 (by decide)]; exact hT _ _ (by omega) (by omega)
          have bd := hb (wyL s i).length (by omega)
          have := put 1 (gB τ 0 ((wyL s i).length * 32 + pc s) * e64) (by rw [q2]; rfl) (fun _ => by
            rw [hU, fb_mulL (by rw [ev, he]; rcases hε with e | e <;> subst e <;> omega) (by rw [ev, he]; rcases hε with e | e <;> subst e <;> omega), ev, he])
          rw [h1] at this
          exact this)
    (Nat.zero_le n) (s := (x0, nI 0, σ)) ⟨rfl, hx0, ⟨fun _ => rfl, fun _ => rfl, fun _ => rfl, fun _ _ => rfl⟩, ⟨fun q => ⟨q, fun j hj => absurd hj (Nat.not_lt_zero j)⟩, And.left⟩, fun _ j hj => absurd hj (Nat.not_lt_zero j)⟩
  have hf2 : lp_X7_tries_265 post f (nI s) (nI (pc s)) x0 e64 (nI 0) (nI 0) σ := hf
  rw [nI_0] at hf2
  exact ⟨f, hf2⟩
/-- the lines' numbers out of the columns' -/
def lnX (s : Nat) (y : Nat → Int) (j : Nat) : Int := if s.testBit j then y (wyL s j).length else 0
theorem lnX_wy {y : Nat → Int} (hn : n ≤ 10) (hs : s < 2 ^ n) {t : Nat} (ht : t < pc s) : lnX s y (wy s t) = y t := by
  unfold lnX
  rw [if_pos (wy_in hn hs ht).2, wy_pos hn hs ht]
theorem lnX_supp (y : Nat → Int) : Supp n s (lnX s y) := fun j _ hb => by
  unfold lnX; rw [hb]; rfl
theorem supp_wy {X : Nat → Int} (hn : n ≤ 10) (hs : s < 2 ^ n) (hX : Supp n s X) (h : ∀ t, t < pc s → X (wy s t) = 0) : ∀ j, j < n → X j = 0 := fun j hj => by
  by_cases q : s.testBit j = true
  · have := h _ (wyl_lt hn hj q)
    rw [wy_of hn hs hj q] at this
    exact this
  · exact hX j hj (Bool.eq_false_iff.mpr q)
/-- the lines are told, where all columns have their pivots; and the solutions on them -/
theorem try_sem (hn : n ≤ 10) (hk : k ≤ 10) (hM : M < 2 ^ k) (hs : s < 2 ^ n) {P : List Vc} {z : Nat → Vc} {d : Int} {T : Nat → Nat → Int} (J : GJ (pc M) (pc s) (fun i => i) P z d T) (V : Cov (pc M) (pc s) P z (zT ws ss M s)) (hq : pc s ≤ pc M) {ε : Int} (hε : ε = 1 ∨ ε = -1) (hp : 0 < d * ε) :
    Indp n ws M s ∧ ((∀ i, pc s ≤ i → i < pc M → T i (pc s) = 0) → (∀ j, j < n → 0 ≤ Uq s T ε j) → SolW n ws ss M (Uq s T ε) (d * ε)) ∧ Supp n s (Uq s T ε) ∧ ∀ X τ, SolW n ws ss M X τ → Supp n s X → (∀ i, pc s ≤ i → i < pc M → T i (pc s) = 0) ∧ ∀ j, j < n → 0 ≤ Uq s T ε j := by
  obtain ⟨g1, g2, g3⟩ := gj_fin J V hq
  have eU : Uq s T ε = lnX s (fun t => T t (pc s) * ε) := rfl
  have hε2 : ε * ε = 1 := by rcases hε with e | e <;> subst e <;> rfl
  refine ⟨fun y hy h => supp_wy hn hs hy (fun t ht => ?_), fun h0 hU => ⟨hp, hU, all_wy hk hM (fun t ht => ?_)⟩, (by rw [eU]; exact lnX_supp _), fun X τ hX hS => ?_⟩
  · refine g1 (fun t => y (wy s t)) (fun t ht => ?_) t ht
    rw [← row_sum hn hs hy t]
    exact h _ (wy_in hk hM ht).2
  · rw [row_sum (ss := ss) hn hs (by rw [eU]; exact lnX_supp _) t, eU]
    have := g3 h0 t ht
    rw [sg_congr (g := fun j => ε * (zT ws ss M s t j * T j (pc s))) (fun j hj => by rw [lnX_wy hn hs hj, Int.mul_comm ε, Int.mul_assoc]), sg_mul, this, zT_last]
    show ε * (d * (ss (wy M t) : Int)) = d * ε * (ss (wy M t) : Int)
    rw [← Int.mul_assoc, Int.mul_comm ε]
  · have h2 := g2 (fun t => X (wy s t)) τ (fun t ht => by
      rw [← row_sum hn hs hS t, zT_last]
      exact hX.2.2 _ (wy_in hk hM ht).2)
    refine ⟨fun i i1 i2 => (Int.mul_eq_zero.mp (h2.2 i i1 i2)).resolve_left (by have := hX.1; omega), fun j hj => ?_⟩
    unfold Uq
    by_cases q : s.testBit j = true
    · rw [if_pos q]
      have hl := wyl_lt hn hj q
      have e1 := h2.1 _ hl
      have e1' : d * X (wy s (wyL s j).length) = τ * T (wyL s j).length (pc s) := e1
      rw [wy_of hn hs hj q] at e1'
      have x0 := hX.2.1 j hj
      have t0 := hX.1
      have e2 : τ * (T (wyL s j).length (pc s) * ε) = d * ε * X j := by
        rw [← Int.mul_assoc, ← e1', Int.mul_assoc, Int.mul_comm (X j), ← Int.mul_assoc]
      have e3 := Int.mul_nonneg (Int.le_of_lt hp) x0
      rw [← e2] at e3
      by_cases w : 0 ≤ T (wyL s j).length (pc s) * ε
      · exact w
      · have := Int.mul_neg_of_pos_of_neg t0 (show T (wyL s j).length (pc s) * ε < 0 by omega)
        omega
    · rw [if_neg q]; omega
end TRM
