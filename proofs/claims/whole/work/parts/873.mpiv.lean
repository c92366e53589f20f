/-! ===== the reference: rows, pivot, swap, findRow ===== -/
theorem ix32 (i j : Nat) : (32 * nI i) + nI j = nI (i * 32 + j) := by
  rw [show (32 : Int32) = nI 32 from rfl, pk_mul, nI_add, Nat.mul_comm]
theorem in800 {a : Nat} (h : a < 800) : vp_in (nI a) 800 := pk_in a 800 h
/-- R rows of w numbers -/
def Rw (τ : St) (R w : Nat) (T : Nat → Nat → Int) : Prop := ∀ s j, s < R → j < w → (gB τ 0 (s * 32 + j)).toInt = T s j
/-- what stays over a pivot -/
def PvF (σ τ : St) : Prop := (∀ k, gI τ k = gI σ k) ∧ (∀ k, k ≠ 0 → gL τ k = gL σ k) ∧ (∀ k, gA τ k = gA σ k) ∧ ∀ k, k ≠ 0 → gB τ k = gB σ k
theorem PvF.rf (σ : St) : PvF σ σ := ⟨fun _ => rfl, fun _ _ => rfl, fun _ => rfl, fun _ _ => rfl⟩
theorem PvF.tr {σ τ ρ : St} (h : PvF σ τ) (g : PvF τ ρ) : PvF σ ρ := ⟨fun k => (g.1 k).trans (h.1 k), fun k q => (g.2.1 k q).trans (h.2.1 k q), fun k => (g.2.2.1 k).trans (h.2.2.1 k), fun k q => (g.2.2.2 k q).trans (h.2.2.2 k q)⟩
theorem PvF.sm {σ τ : St} (h : SameB σ τ) : PvF σ τ := ⟨h.1, fun k _ => h.2.1 k, h.2.2.1, h.2.2.2⟩
section PIV
variable {R w r c : Nat}
theorem piv_in {σ0 : St} (hw : w ≤ 32) {i : Nat} (hi : i < 25) (hr : r < 25) (hne : i ≠ r) {d : Int} (hd : (gL σ0 0).toInt = d) (hd0 : d ≠ 0) {f p : Int64} {TI TR N : Nat → Int}
    (hI : ∀ j, j < w → (gB σ0 0 (i * 32 + j)).toInt = TI j) (hRr : ∀ j, j < w → (gB σ0 0 (r * 32 + j)).toInt = TR j)
    (hN : ∀ j, j < w → d * N j = TI j * p.toInt - f.toInt * TR j)
    (hb1 : ∀ j, j < w → -4000000000000000000 ≤ TI j * p.toInt ∧ TI j * p.toInt ≤ 4000000000000000000) (hb2 : ∀ j, j < w → -4000000000000000000 ≤ f.toInt * TR j ∧ f.toInt * TR j ≤ 4000000000000000000) (hb3 : ∀ j, j < w → -9000000000000000000 ≤ N j ∧ N j ≤ 9000000000000000000)
    {x2 : Int32} {post : St → Prop} {K : Int32 → Int32 → Int32 → Int64 → Int32 → St → Prop} (hp : ∀ τ, SameB σ0 τ → RowB σ0 τ 32 i w N → K (nI r) x2 (nI w) p (nI (i + 1)) τ) :
    ∃ fu : Nat, lp_X7_pivot_42 post K fu (nI r) x2 (nI w) p (nI i) f 0 σ0 := by
  obtain ⟨fu, hfu⟩ := lupE (fun f' j (τ : St) => lp_X7_pivot_42 post K f' (nI r) x2 (nI w) p (nI i) f (nI j) τ) (fun j τ => SameB σ0 τ ∧ RowB σ0 τ 32 i j N) w
    (fun f' τ hτ => by
      unfold lp_X7_pivot_42
      refine ⟨fun _ v hv => ?_, fun q => absurd (nI_le (Nat.le_refl w) (by omega)) q⟩
      rw [hv, nI_1]
      exact hp τ hτ.1 hτ.2)
    (fun f' j τ hj hτ ih => by
      obtain ⟨hS, hB⟩ := hτ
      unfold lp_X7_pivot_42
      rw [ix32, ix32, hS.2.1 0, nI_clamp (by omega), nI_clamp (by omega)]
      refine ⟨fun q => absurd q (nI_ge hj (by omega)), fun _ => ⟨fun q => absurd ((nI_eq (by omega) (by omega)).mp q) hne, fun _ => ⟨in800 (by omega), in800 (by omega), fun z => hd0 (by rw [← hd, z]; rfl), in800 (by omega), fun τ2 hτ2 u hu => ?_⟩⟩⟩
      have e1 : (gB τ 0 (i * 32 + j)).toInt = TI j := by
        rw [hB.2 _ (fun q hq e => by omega)]; exact hI j hj
      have e2 : (gB τ 0 (r * 32 + j)).toInt = TR j := by
        rw [hB.2 _ (fun q hq => row_ne (by omega) (by omega) hne)]; exact hRr j hj
      have m1 := hb1 j hj
      have m2 := hb2 j hj
      have m3 := hb3 j hj
      have ev : (gB τ 0 (i * 32 + j) * p - f * gB τ 0 (r * 32 + j)).toInt = (gL σ0 0).toInt * N j := by
        have a1 : (gB τ 0 (i * 32 + j) * p).toInt = TI j * p.toInt := by rw [fb_mulL (by rw [e1]; omega) (by rw [e1]; omega), e1]
        have a2 : (f * gB τ 0 (r * 32 + j)).toInt = f.toInt * TR j := by rw [fb_mulL (by rw [e2]; omega) (by rw [e2]; omega), e2]
        rw [fb_subL (by rw [a1, a2]; omega) (by rw [a1, a2]; omega), a1, a2, hd, hN j hj]
      rw [hu, nI_1]
      have eq := divL (by rw [hd]; exact hd0) ev (by omega) (by omega)
      exact ih τ2 ⟨by rw [hτ2]; exact hS.tr (SameB.put τ _ _), by rw [hτ2]; exact hB.step eq⟩)
    (Nat.zero_le w) (s := σ0) ⟨SameB.rf σ0, fun j hj => absurd hj (Nat.not_lt_zero j), fun x _ => rfl⟩
  rw [nI_0] at hfu
  exact ⟨fu, hfu⟩
theorem pivM_wp {σ : St} (hR : R ≤ 25) (hw : w ≤ 32) (hr : r < R) (hc : c < w) (h3 : gI σ 3 = nI R) {d : Int} (hd : (gL σ 0).toInt = d) (hd0 : d ≠ 0) {T T' : Nat → Nat → Int} (hT : Rw σ R w T)
    (h1 : ∀ j, j < w → T' r j = T r j) (h2 : ∀ i, i < R → i ≠ r → ∀ j, j < w → d * T' i j = T i j * T r c - T i c * T r j)
    (hb1 : ∀ i j, i < R → i ≠ r → j < w → -4000000000000000000 ≤ T i j * T r c ∧ T i j * T r c ≤ 4000000000000000000) (hb2 : ∀ i j, i < R → i ≠ r → j < w → -4000000000000000000 ≤ T i c * T r j ∧ T i c * T r j ≤ 4000000000000000000) (hb3 : ∀ i j, i < R → i ≠ r → j < w → -9000000000000000000 ≤ T' i j ∧ T' i j ≤ 9000000000000000000)
    {post : St → Prop} (hp : ∀ τ, PvF σ τ → Rw τ R w T' → (gL τ 0).toInt = T r c → post τ) : wp_X7_pivot (nI r) (nI c) (nI w) σ post := by
  unfold wp_X7_pivot
  rw [ix32, nI_clamp (by omega)]
  refine ⟨in800 (by omega), fun p hp0 => ?_⟩
  have ep : p.toInt = T r c := by rw [hp0]; exact hT r c hr hc
  obtain ⟨fu, hfu⟩ := lupE (fun f i (τ : St) => lp_X7_pivot_16 post f (nI r) (nI c) (nI w) p (nI i) τ) (fun i τ => SameB σ τ ∧ ∀ s j, s < R → j < w → (gB τ 0 (s * 32 + j)).toInt = if s < i ∧ s ≠ r then T' s j else T s j) R
    (fun f τ hτ => by
      unfold lp_X7_pivot_16
      rw [hτ.1.1 3, h3]
      refine ⟨fun _ τ2 e2 => ?_, fun q => absurd (nI_le (Nat.le_refl R) (by omega)) q⟩
      rw [e2]
      refine hp _ ⟨hτ.1.1, fun k q => ?_, hτ.1.2.2.1, hτ.1.2.2.2⟩ (fun s j hs hj => ?_) ?_
      · rw [gL_sL, if_neg q]; exact hτ.1.2.1 k
      · rw [gB_sL, hτ.2 s j hs hj]
        by_cases q : s = r
        · rw [if_neg (fun z => z.2 q), q]; exact (h1 j hj).symm
        · rw [if_pos ⟨hs, q⟩]
      · rw [gL_sL, if_pos rfl]; exact ep)
    (fun f i τ hi hτ ih => by
      obtain ⟨hS, hB⟩ := hτ
      unfold lp_X7_pivot_16
      rw [hS.1 3, h3, ix32, nI_clamp (by omega)]
      refine ⟨fun q => absurd q (nI_ge hi (by omega)), fun _ => ⟨in800 (by omega), fun v hv => ?_⟩⟩
      by_cases q : i = r
      · refine ⟨1, ?_⟩
        unfold lp_X7_pivot_42
        refine ⟨fun z => ?_, fun _ => ⟨fun _ u hu => ?_, fun z => absurd (by rw [q]) z⟩⟩
        · exact absurd z (nI_nle (by omega) (by omega))
        · rw [hu, nI_1]
          refine ih τ ⟨hS, fun s j hs hj => ?_⟩
          rw [hB s j hs hj]
          by_cases z : s < i ∧ s ≠ r
          · rw [if_pos z, if_pos ⟨by omega, z.2⟩]
          · rw [if_neg z, if_neg (fun y => z ⟨by omega, y.2⟩)]
      · have ef : v.toInt = T i c := by rw [hv, hB i c hi hc, if_neg (fun z => absurd z.1 (Nat.lt_irrefl i))]
        refine piv_in hw (by omega) (by omega) q (hS.2.1 0 ▸ hd) hd0 (TI := T i) (TR := T r) (N := T' i) (fun j hj => by rw [hB i j hi hj, if_neg (fun z => absurd z.1 (Nat.lt_irrefl i))]) (fun j hj => by rw [hB r j hr hj, if_neg (fun z => z.2 rfl)]) (fun j hj => by rw [ep, ef]; exact h2 i hi q j hj) (fun j hj => by rw [ep]; exact hb1 i j hi q hj) (fun j hj => by rw [ef]; exact hb2 i j hi q hj) (fun j hj => hb3 i j hi q hj) (fun ρ hρ hN => ih ρ ⟨hS.tr hρ, fun s j hs hj => ?_⟩)
        by_cases z : s = i
        · rw [z, hN.1 j hj, if_pos ⟨by omega, q⟩]
        · rw [hN.2 _ (fun l hl => row_ne (by omega) (by omega) (fun e => z e.symm)), hB s j hs hj]
          by_cases y : s < i ∧ s ≠ r
          · rw [if_pos y, if_pos ⟨by omega, y.2⟩]
          · rw [if_neg y, if_neg (fun y2 => y ⟨by omega, y2.2⟩)])
    (Nat.zero_le R) (s := σ) ⟨SameB.rf σ, fun s j hs hj => by rw [if_neg (fun z => absurd z.1 (Nat.not_lt_zero s))]; exact hT s j hs hj⟩
  rw [nI_0] at hfu
  exact ⟨fu, hfu⟩
def swT (T : Nat → Nat → Int) (a b : Nat) : Nat → Nat → Int := fun i => if i = a then T b else if i = b then T a else T i
theorem swapM_wp {σ : St} (hR : R ≤ 25) (hw : w ≤ 32) {a b : Nat} (ha : a < R) (hb : b < R) {T : Nat → Nat → Int} (hT : Rw σ R w T) {post : St → Prop} (hp : ∀ τ, SameB σ τ → Rw τ R w (swT T a b) → post τ) : wp_X7_swap (nI a) (nI b) (nI w) σ post := by
  obtain ⟨fu, hfu⟩ := lupE (fun f k (τ : St) => lp_X7_swap_3 post f (nI a) (nI b) (nI w) (nI k) τ) (fun k τ => SameB σ τ ∧ ∀ s j, s < R → j < w → (gB τ 0 (s * 32 + j)).toInt = if j < k then swT T a b s j else T s j) w
    (fun f τ hτ => by
      unfold lp_X7_swap_3
      exact ⟨fun _ => hp τ hτ.1 (fun s j hs hj => by rw [hτ.2 s j hs hj, if_pos hj]), fun q => absurd (nI_le (Nat.le_refl w) (by omega)) q⟩)
    (fun f k τ hk hτ ih => by
      obtain ⟨hS, hB⟩ := hτ
      unfold lp_X7_swap_3
      rw [ix32, ix32, nI_clamp (by omega), nI_clamp (by omega)]
      refine ⟨fun q => absurd q (nI_ge hk (by omega)), fun _ => ⟨in800 (by omega), fun v hv => ⟨in800 (by omega), in800 (by omega), fun τ2 e2 => ⟨in800 (by omega), fun τ3 e3 u hu => ?_⟩⟩⟩⟩
      rw [hu, nI_1]
      refine ih τ3 ⟨by rw [e3, e2]; exact (hS.tr (SameB.put τ _ _)).tr (SameB.put _ _ _), fun s j hs hj => ?_⟩
      rw [e3, e2, gB_sB, gB_sB, hv]
      by_cases qj : j = k
      · subst qj
        rw [if_pos (Nat.lt_succ_self j)]
        have nb : ∀ x, s ≠ x → ¬ s * 32 + j = x * 32 + j := fun x hx e => hx (by omega)
        unfold swT
        by_cases qb : s = b
        · subst qb
          rw [if_pos ⟨rfl, rfl⟩, hB a j ha hk, if_neg (Nat.lt_irrefl j)]
          by_cases qa : s = a
          · rw [if_pos qa, qa]
          · rw [if_neg qa, if_pos rfl]
        · rw [if_neg (fun z => nb b qb z.2)]
          by_cases qa : s = a
          · subst qa
            rw [if_pos ⟨rfl, rfl⟩, if_pos rfl, hB b j hb hk, if_neg (Nat.lt_irrefl j)]
          · rw [if_neg (fun z => nb a qa z.2), if_neg qa, if_neg qb, hB s j hs hk, if_neg (Nat.lt_irrefl j)]
      · rw [if_neg (fun z => by omega), if_neg (fun z => by omega), hB s j hs hj]
        by_cases z : j < k
        · rw [if_pos z, if_pos (by omega)]
        · rw [if_neg z, if_neg (by omega)])
    (Nat.zero_le w) (s := σ) ⟨SameB.rf σ, fun s j hs hj => by rw [if_neg (Nat.not_lt_zero j)]; exact hT s j hs hj⟩
  rw [nI_0] at hfu
  exact ⟨fu, hfu⟩
theorem findM_wp {σ : St} (hR : R ≤ 25) (hw : w ≤ 32) (hc : c < w) (h3 : gI σ 3 = nI R) {T : Nat → Nat → Int} (hT : Rw σ R w T) {a : Nat} (ha : a ≤ R) {post : Int32 → St → Prop} (hp : ∀ r, a ≤ r → r ≤ R → (∀ s, a ≤ s → s < r → T s c = 0) → (r < R → T r c ≠ 0) → post (nI r) σ) : wp_X7_findRow (nI a) (nI c) σ post := by
  exact lupE (fun f r (_ : Unit) => lp_X7_findRow_2 post f (nI c) (nI r) σ) (fun r _ => a ≤ r ∧ ∀ s, a ≤ s → s < r → T s c = 0) R
    (fun f _ h => by
      unfold lp_X7_findRow_2
      rw [h3]
      exact ⟨fun _ => hp R h.1 (Nat.le_refl R) h.2 (fun z => absurd z (Nat.lt_irrefl R)), fun q => absurd (nI_le (Nat.le_refl R) (by omega)) q⟩)
    (fun f r _ hr h ih => by
      unfold lp_X7_findRow_2
      rw [h3, ix32, nI_clamp (by omega)]
      refine ⟨fun q => absurd q (nI_ge hr (by omega)), fun _ => ⟨in800 (by omega), fun q => ?_, fun q v hv => ?_⟩⟩
      · refine hp r h.1 (by omega) h.2 (fun _ e => q (Int64.toInt_inj.mp ?_))
        rw [hT r c hr hc, e]; rfl
      · rw [hv, nI_1]
        refine ih () ⟨by omega, fun s s1 s2 => ?_⟩
        by_cases z : s = r
        · rw [z, ← hT r c hr hc, q]; rfl
        · exact h.2 s s1 (by omega))
    ha (s := ()) ⟨Nat.le_refl a, fun s s1 s2 => absurd s1 (by omega)⟩
end PIV
