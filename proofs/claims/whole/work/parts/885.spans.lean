/-! ===== the class's Spans: rows, clearColumn ===== -/
theorem crossI {a h f b : Int32} {v : Int} (e : a.toInt * h.toInt - f.toInt * b.toInt = v) (h1 : -2147483648 ≤ v) (h2 : v < 2147483648) : (a * h - f * b).toInt = v := by
  have : a * h - f * b = Int32.ofInt v := by
    rw [← e, Int32.ofInt_sub, Int32.ofInt_mul, Int32.ofInt_mul, Int32.ofInt_toInt, Int32.ofInt_toInt, Int32.ofInt_toInt, Int32.ofInt_toInt]
  rw [this]; exact fb_ofI h1 h2
theorem divI {x y : Int32} {q : Int} (hy : y.toInt ≠ 0) (hx : x.toInt = y.toInt * q) (h1 : -2147483648 ≤ q) (h2 : q < 2147483648) : (x / y).toInt = q := by
  rw [Int32.toInt_div, hx, Int.mul_tdiv_cancel_left _ hy]
  exact fb_bmod h1 h2
theorem st_ix (δ r : Nat) : ((nI δ * 30) + nI r) * 10 = nI ((δ * 30 + r) * 10) := by
  rw [show (30 : Int32) = nI 30 from rfl, show (10 : Int32) = nI 10 from rfl, pk_mul, nI_add, pk_mul]
theorem st_ix0 (r : Nat) : (((0 : Int32) * 30) + nI r) * 10 = nI (r * 10) := by
  have := st_ix 0 r
  rw [nI_0, show 0 * 30 + r = r by omega] at this
  exact this
theorem in33 {a : Nat} (h : a < 3300) : vp_in (nI a) 3300 := pk_in a 3300 h
theorem cl0 : Int32.toNatClampNeg (0 : Int32) = 0 := by decide
/-- all but the cells stays -/
def SmS (σ τ : St) : Prop := (∀ k, gI τ k = gI σ k) ∧ (∀ k, gL τ k = gL σ k) ∧ (∀ k, gB τ k = gB σ k) ∧ ∀ k, k ≠ 9 → gA τ k = gA σ k
theorem SmS.rf (σ : St) : SmS σ σ := ⟨fun _ => rfl, fun _ => rfl, fun _ => rfl, fun _ _ => rfl⟩
theorem SmS.tr {σ τ ρ : St} (h : SmS σ τ) (g : SmS τ ρ) : SmS σ ρ := ⟨fun k => (g.1 k).trans (h.1 k), fun k => (g.2.1 k).trans (h.2.1 k), fun k => (g.2.2.1 k).trans (h.2.2.1 k), fun k hk => (g.2.2.2 k hk).trans (h.2.2.2 k hk)⟩
theorem SmS.put (σ : St) (i : Nat) (v : Int32) : SmS σ (sA σ 9 i v) := ⟨fun _ => rfl, fun _ => rfl, fun _ => rfl, fun k hk => by
  funext x; rw [gA_sA, if_neg (fun z => hk z.1)]⟩
/-- the row at address b is now R up to m, all other cells stay -/
def RowS (σ τ : St) (b m : Nat) (R : Nat → Int) : Prop := (∀ j, j < m → (gA τ 9 (b * 10 + j)).toInt = R j) ∧ ∀ x, (∀ j, j < m → x ≠ b * 10 + j) → gA τ 9 x = gA σ 9 x
theorem RowS.step {σ τ : St} {b m : Nat} {R : Nat → Int} (h : RowS σ τ b m R) {v : Int32} (hv : v.toInt = R m) : RowS σ (sA τ 9 (b * 10 + m) v) b (m + 1) R := by
  refine ⟨fun j hj => ?_, fun x hx => ?_⟩
  · rw [gA_sA]
    by_cases q : j = m
    · subst q; rw [if_pos ⟨rfl, rfl⟩]; exact hv
    · rw [if_neg (fun z => q (by omega))]; exact h.1 j (by omega)
  · rw [gA_sA, if_neg (fun z => hx m (by omega) z.2)]
    exact h.2 x (fun j hj => hx j (by omega))
/-- the row at address a -/
def Rst (σ : St) (n a : Nat) (f : Nat → Int) : Prop := ∀ j, j < n → (gA σ 9 (a * 10 + j)).toInt = f j
theorem Rst.ne {σ τ : St} {n a b : Nat} {f R : Nat → Int} (hn : n ≤ 10) (h : Rst σ n a f) (hR : RowS σ τ b n R) (hne : a ≠ b) : Rst τ n a f := fun j hj => by
  rw [hR.2 _ (fun i hi => by omega)]; exact h j hj
section SPN
variable {n : Nat}
theorem ffc_wp {σ : St} (hn : n ≤ 10) (h17 : gI σ 17 = nI n) {δ r : Nat} (hr : δ * 30 + r < 330) {f : Nat → Int} (hf : Rst σ n (δ * 30 + r) f) {post : Int32 → St → Prop} (hno : (∀ j, j < n → f j = 0) → post (-1) σ) (hyes : ∀ c, c < n → f c ≠ 0 → (∀ j, j < c → f j = 0) → post (nI c) σ) : wp_X5_firstFilledColumn (nI δ) (nI r) σ post := by
  unfold wp_X5_firstFilledColumn wp_X5_startOf
  rw [st_ix]
  obtain ⟨fu, hfu⟩ := lupE (fun fu i (_ : Unit) => lp_X5_firstFilledColumn_9 post fu (nI ((δ * 30 + r) * 10)) (nI i) σ) (fun i _ => ∀ j, j < i → f j = 0) n
    (fun fu _ h => by
      unfold lp_X5_firstFilledColumn_9
      rw [h17]
      exact ⟨fun _ => hno h, fun q => absurd (nI_le (Nat.le_refl n) (by omega)) q⟩)
    (fun fu i _ hi h ih => by
      unfold lp_X5_firstFilledColumn_9
      rw [h17, nI_add, nI_clamp (by omega)]
      have ev := hf i hi
      refine ⟨fun q => absurd q (nI_ge hi (by omega)), fun _ => ⟨in33 (by omega), fun q v hv => ?_, fun q => hyes i hi (fun z => q ?_) h⟩⟩
      · rw [hv, nI_1]
        refine ih () (fun j hj => ?_)
        by_cases z : j = i
        · rw [z, ← ev, q]; rfl
        · exact h j (by omega)
      · exact Int32.toInt_inj.mp (by rw [ev, z]; rfl))
    (Nat.zero_le n) (s := ()) (fun j hj => absurd hj (Nat.not_lt_zero j))
  rw [nI_0] at hfu
  exact ⟨fu, hfu⟩
theorem clrS_wp {σ : St} (hn : n ≤ 10) (h17 : gI σ 17 = nI n) {a b h c : Nat} (ha : a < 330) (hb : b < 330) (hh : h < 330) (hc : c < n) (hne : h ≠ b) {x5 : Int32} {d : Int} (hd : x5.toInt = d) (hd0 : d ≠ 0) {TI TH N : Nat → Int} (hI : Rst σ n a TI) (hH : Rst σ n h TH) (hN : ∀ j, j < n → d * N j = TI j * TH c - TI c * TH j)
    (hb1 : ∀ j, j < n → -2147483648 ≤ d * N j ∧ d * N j < 2147483648) (hb2 : ∀ j, j < n → -2147483648 ≤ N j ∧ N j < 2147483648) {post : St → Prop} (hp : ∀ τ, SmS σ τ → RowS σ τ b n N → post τ) : wp_X5_clearColumn (nI (a * 10)) (nI (b * 10)) (nI (h * 10)) (nI c) x5 σ post := by
  unfold wp_X5_clearColumn
  rw [nI_add, nI_add, nI_clamp (by omega), nI_clamp (by omega)]
  refine ⟨fun _ => ⟨in33 (by omega), fun v2 hv2 => ⟨in33 (by omega), fun v4 hv4 => ?_⟩⟩, fun z => absurd (by rw [← hd, z]; rfl) hd0⟩
  have e2 : v2.toInt = TH c := by rw [hv2]; exact hH c hc
  have e4 : v4.toInt = TI c := by rw [hv4]; exact hI c hc
  obtain ⟨fu, hfu⟩ := lupE (fun fu j (τ : St) => lp_X5_clearColumn_31 post fu (nI (a * 10)) (nI (b * 10)) (nI (h * 10)) x5 v2 v4 (nI j) τ) (fun j τ => SmS σ τ ∧ RowS σ τ b j N) n
    (fun fu τ hτ => by
      unfold lp_X5_clearColumn_31
      rw [hτ.1.1 17, h17]
      exact ⟨fun _ => hp τ hτ.1 hτ.2, fun q => absurd (nI_le (Nat.le_refl n) (by omega)) q⟩)
    (fun fu j τ hj hτ ih => by
      obtain ⟨hS, hB⟩ := hτ
      unfold lp_X5_clearColumn_31
      rw [hS.1 17, h17, nI_add, nI_add, nI_add, nI_clamp (by omega), nI_clamp (by omega), nI_clamp (by omega)]
      refine ⟨fun q => absurd q (nI_ge hj (by omega)), fun _ => ⟨in33 (by omega), in33 (by omega), fun v hv => ⟨fun z => hd0 (by rw [← hd, z]; rfl), in33 (by omega), fun τ2 e5 u hu => ?_⟩⟩⟩
      have eI : (gA τ 9 (a * 10 + j)).toInt = TI j := by
        rw [hB.2 _ (fun i hi => by omega)]; exact hI j hj
      have eH : (gA τ 9 (h * 10 + j)).toInt = TH j := by
        rw [hB.2 _ (fun i hi => by omega)]; exact hH j hj
      have ev : v.toInt = d * N j := by
        rw [hv]
        exact crossI (by rw [eI, e2, e4, eH, hN j hj]) (hb1 j hj).1 (hb1 j hj).2
      rw [hu, nI_1]
      have eq : (v / x5).toInt = N j := divI (by rw [hd]; exact hd0) (by rw [ev, hd]) (hb2 j hj).1 (hb2 j hj).2
      exact ih τ2 ⟨by rw [e5]; exact hS.tr (SmS.put τ _ _), by rw [e5]; exact hB.step eq⟩)
    (Nat.zero_le n) (s := σ) ⟨SmS.rf σ, fun j hj => absurd hj (Nat.not_lt_zero j), fun x _ => rfl⟩
  rw [nI_0] at hfu
  exact ⟨fu, hfu⟩
theorem lrS_wp {σ : St} (hn : n ≤ 10) (h17 : gI σ 17 = nI n) {r s : Nat} (hr : r < 30) (hs : s < 2 ^ 31) {post : St → Prop} (hp : ∀ τ, SmS σ τ → RowS σ τ r n (vec n s) → post τ) : wp_X5_loadRow (nI r) (nI s) σ post := by
  unfold wp_X5_loadRow wp_X5_startOf
  rw [st_ix0]
  obtain ⟨fu, hfu⟩ := lupE (fun fu j (τ : St) => lp_X5_loadRow_9 post fu (nI s) (nI (r * 10)) (nI j) τ) (fun j τ => SmS σ τ ∧ RowS σ τ r j (vec n s)) n
    (fun fu τ hτ => by
      unfold lp_X5_loadRow_9
      rw [hτ.1.1 17, h17]
      exact ⟨fun _ => hp τ hτ.1 hτ.2, fun q => absurd (nI_le (Nat.le_refl n) (by omega)) q⟩)
    (fun fu j τ hj hτ ih => by
      obtain ⟨hS, hB⟩ := hτ
      unfold lp_X5_loadRow_9
      rw [hS.1 17, h17]
      refine ⟨fun q => absurd q (nI_ge hj (by omega)), fun _ => bitOf_wp hs (by omega) ?_⟩
      rw [nI_add, nI_clamp (by omega)]
      refine ⟨in33 (by omega), fun τ2 e2 u hu => ?_⟩
      rw [hu, nI_1]
      refine ih τ2 ⟨by rw [e2]; exact hS.tr (SmS.put τ _ _), by
        rw [e2]
        refine hB.step ?_
        unfold vec
        rw [if_pos hj]
        cases s.testBit j <;> rfl⟩)
    (Nat.zero_le n) (s := σ) ⟨SmS.rf σ, fun j hj => absurd hj (Nat.not_lt_zero j), fun x _ => rfl⟩
  rw [nI_0] at hfu
  exact ⟨fu, hfu⟩
end SPN
/-- the set of each row -/
def Osr (ws os : Nat → Nat) (k o M : Nat) (r : Nat) : Nat := if r < 10 then (if r < k ∧ M.testBit r = true then ws r else 0) else if r < 20 then (if r - 10 < o then os (r - 10) else 0) else 2 ^ (r - 20)
/-- what stays of the rest of the object over Spans -/
def FrP (σ τ : St) : Prop := (∀ i, i < 17 → gI τ i = gI σ i) ∧ (∀ i, i < 9 → gA τ i = gA σ i) ∧ (∀ i, gL τ i = gL σ i) ∧ ∀ i, gB τ i = gB σ i
theorem FrP.rf (σ : St) : FrP σ σ := ⟨fun _ _ => rfl, fun _ _ => rfl, fun _ => rfl, fun _ => rfl⟩
theorem FrP.tr {σ τ ρ : St} (h : FrP σ τ) (g : FrP τ ρ) : FrP σ ρ := ⟨fun k hk => (g.1 k hk).trans (h.1 k hk), fun k hk => (g.2.1 k hk).trans (h.2.1 k hk), fun k => (g.2.2.1 k).trans (h.2.2.1 k), fun k => (g.2.2.2 k).trans (h.2.2.2 k)⟩
theorem FrP.sm {σ τ : St} (h : SmS σ τ) : FrP σ τ := ⟨fun i _ => h.1 i, fun i hi => h.2.2.2 i (by omega), h.2.1, h.2.2.1⟩
theorem FrP.net {σ τ : St} {n k o M Bm : Nat} {ws ss os : Nat → Nat} (h : FrP σ τ) (F : NetF σ n k o M Bm ws ss os) : NetF τ n k o M Bm ws ss os := netF_fr F (fun i hi => h.1 i (by omega)) (fun i hi => h.2.1 i (by omega))
section SP2
variable {n k o M Bm : Nat} {ws ss os : Nat → Nat}
theorem osr_lt (G : NetG n k o M Bm ws ss os) {r : Nat} (hr : r < 30) : Osr ws os k o M r < 2 ^ 31 := by
  have n10 := G.1.2.1
  have z : (0 : Nat) < 2 ^ 31 := by decide
  unfold Osr
  by_cases q : r < 10
  · rw [if_pos q]
    by_cases w : r < k ∧ M.testBit r = true
    · rw [if_pos w]; exact m31 (G.1.2.2.2.1 r w.1).2 n10
    · rw [if_neg w]; exact z
  · rw [if_neg q]
    by_cases w : r < 20
    · rw [if_pos w]
      by_cases y : r - 10 < o
      · rw [if_pos y]; exact m31 (G.2.2.2.2 _ y).2 n10
      · rw [if_neg y]; exact z
    · rw [if_neg w]; exact Nat.pow_lt_pow_right (by decide) (by omega)
theorem ldS_step {σ0 : St} (hn : n ≤ 10) {R r : Nat} {τ τ2 : St} {g : Nat → Nat} (h : ∀ i, i < r → Rst τ n i (vec n (g i))) (hR : RowS τ τ2 r n (vec n (g r))) : ∀ i, i < r + 1 → Rst τ2 n i (vec n (g i)) := fun i hi => by
  by_cases q : i = r
  · rw [q]; exact hR.1
  · exact Rst.ne hn (h i (by omega)) hR q
theorem loadS_wp {σ : St} (F : NetF σ n k o M Bm ws ss os) (G : NetG n k o M Bm ws ss os) {post : St → Prop} (hp : ∀ τ, FrP σ τ → gI τ 17 = nI n → (∀ r, r < 30 → Rst τ n r (vec n (Osr ws os k o M r))) → post τ) : wp_X5_load σ post := by
  have n10 := G.1.2.1
  have k10 := G.1.2.2.1
  have o10 := G.2.1
  have i10 : (10 : Int32) = nI 10 := rfl
  have i20 : (20 : Int32) = nI 20 := rfl
  unfold wp_X5_load
  intro σ1 e1
  have F1 : FrP σ σ1 := by rw [e1]; exact ⟨fun i hi => by rw [gI_sI, if_neg (by omega)], fun _ _ => rfl, fun _ => rfl, fun _ => rfl⟩
  have h17 : gI σ1 17 = nI n := by rw [e1, gI_sI, if_pos rfl]; exact F.1.1
  have lines : ∀ τ, SmS σ1 τ → (∀ r, r < 20 → Rst τ n r (vec n (Osr ws os k o M r))) → ∃ fu : Nat, lp_X5_load_105 post fu 0 τ := by
    intro τ hS h
    obtain ⟨fu, hfu⟩ := lupE (fun fu i (ρ : St) => lp_X5_load_105 post fu (nI i) ρ) (fun i ρ => SmS σ1 ρ ∧ ∀ r, r < 20 + i → Rst ρ n r (vec n (Osr ws os k o M r))) 10
      (fun fu ρ hρ => by
        unfold lp_X5_load_105
        rw [i10]
        exact ⟨fun _ => hp ρ (F1.tr (FrP.sm hρ.1)) ((hρ.1.1 17).trans h17) hρ.2, fun q => absurd (nI_le (Nat.le_refl 10) (by omega)) q⟩)
      (fun fu i ρ hi hρ ih => by
        unfold lp_X5_load_105
        rw [i10, i20, nI_add, one_shl (by omega)]
        refine ⟨fun q => absurd q (nI_ge hi (by omega)), fun _ => lrS_wp n10 ((hρ.1.1 17).trans h17) (by omega) (Nat.pow_lt_pow_right (by decide) (by omega)) (fun τ2 S2 R2 v hv => ?_)⟩
        rw [hv, nI_1]
        refine ih τ2 ⟨hρ.1.tr S2, fun r hr => ldS_step (σ0 := σ) (R := 0) n10 hρ.2 (r := 20 + i) (by
          have : Osr ws os k o M (20 + i) = 2 ^ i := by
            unfold Osr
            rw [if_neg (by omega), if_neg (by omega), show 20 + i - 20 = i by omega]
          rw [this]; exact R2) r (by omega)⟩)
      (Nat.zero_le 10) (s := τ) ⟨hS, fun r hr => h r (by omega)⟩
    rw [nI_0] at hfu
    exact ⟨fu, hfu⟩
  have offers : ∀ τ, SmS σ1 τ → (∀ r, r < 10 → Rst τ n r (vec n (Osr ws os k o M r))) → ∃ fu : Nat, lp_X5_load_65 post fu 0 τ := by
    intro τ hS h
    obtain ⟨fu, hfu⟩ := lupE (fun fu i (ρ : St) => lp_X5_load_65 post fu (nI i) ρ) (fun i ρ => SmS σ1 ρ ∧ ∀ r, r < 10 + i → Rst ρ n r (vec n (Osr ws os k o M r))) 10
      (fun fu ρ hρ => by
        unfold lp_X5_load_65
        rw [i10]
        exact ⟨fun _ => lines ρ hρ.1 hρ.2, fun q => absurd (nI_le (Nat.le_refl 10) (by omega)) q⟩)
      (fun fu i ρ hi hρ ih => by
        have F2 := FrP.net (F1.tr (FrP.sm hρ.1)) F
        have oe : Osr ws os k o M (10 + i) = if i < o then os i else 0 := by
          unfold Osr
          rw [if_neg (by omega), if_pos (by omega), show 10 + i - 10 = i by omega]
        have stp : ∀ τ2, SmS ρ τ2 → RowS ρ τ2 (10 + i) n (vec n (if i < o then os i else 0)) → ∀ v, v = nI i + 1 → lp_X5_load_65 post fu v τ2 := fun τ2 S2 R2 v hv => by
          rw [hv, nI_1]
          refine ih τ2 ⟨hρ.1.tr S2, fun r hr => ldS_step (σ0 := σ) (R := 0) n10 hρ.2 (r := 10 + i) (by rw [oe]; exact R2) r (by omega)⟩
        unfold lp_X5_load_65
        rw [i10, F2.2.1, nI_add, nI_leI (show o < 2 ^ 31 by omega) (show i < 2 ^ 31 by omega), nI_clamp (show i < 2 ^ 31 by omega)]
        refine ⟨fun q => absurd q (nI_ge hi (by omega)), fun _ => ⟨fun q => ?_, fun q => ⟨idx10 hi, ?_⟩⟩⟩
        · rw [← nI_0]
          refine lrS_wp n10 ((hρ.1.1 17).trans h17) (by omega) (by decide) (fun τ2 S2 R2 => stp τ2 S2 ?_)
          rw [if_neg (by omega)]; exact R2
        · rw [F2.2.2.2.2 i (by omega)]
          refine lrS_wp n10 ((hρ.1.1 17).trans h17) (by omega) (m31 (G.2.2.2.2 i (by omega)).2 n10) (fun τ2 S2 R2 => stp τ2 S2 ?_)
          rw [if_pos (by omega)]; exact R2)
      (Nat.zero_le 10) (s := τ) ⟨hS, fun r hr => h r (by omega)⟩
    rw [nI_0] at hfu
    exact ⟨fu, hfu⟩
  obtain ⟨fu, hfu⟩ := lupE (fun fu i (ρ : St) => lp_X5_load_10 post fu (nI i) ρ) (fun i ρ => SmS σ1 ρ ∧ ∀ r, r < i → Rst ρ n r (vec n (Osr ws os k o M r))) 10
    (fun fu ρ hρ => by
      unfold lp_X5_load_10
      rw [i10]
      exact ⟨fun _ => offers ρ hρ.1 hρ.2, fun q => absurd (nI_le (Nat.le_refl 10) (by omega)) q⟩)
    (fun fu i ρ hi hρ ih => by
      have F2 := FrP.net (F1.tr (FrP.sm hρ.1)) F
      have oe : Osr ws os k o M i = if i < k ∧ M.testBit i = true then ws i else 0 := if_pos hi
      have stp : ∀ τ2, SmS ρ τ2 → RowS ρ τ2 i n (vec n (if i < k ∧ M.testBit i = true then ws i else 0)) → ∀ v, v = nI i + 1 → lp_X5_load_10 post fu v τ2 := fun τ2 S2 R2 v hv => by
        rw [hv, nI_1]
        refine ih τ2 ⟨hρ.1.tr S2, fun r hr => ldS_step (σ0 := σ) (R := 0) n10 hρ.2 (r := i) (by rw [oe]; exact R2) r (by omega)⟩
      have off : ¬ (i < k ∧ M.testBit i = true) → jn_X5_load_36 post (lp_X5_load_10 post fu) (nI i) ρ := fun q => by
        unfold jn_X5_load_36 jn_X5_load_37
        refine ⟨fun _ => ?_, fun z => absurd rfl z⟩
        rw [← nI_0]
        refine lrS_wp n10 ((hρ.1.1 17).trans h17) (by omega) (by decide) (fun τ2 S2 R2 => stp τ2 S2 ?_)
        rw [if_neg q]; exact R2
      unfold lp_X5_load_10
      rw [i10, F2.1.2.1, nI_leI (show k < 2 ^ 31 by omega) (show i < 2 ^ 31 by omega)]
      refine ⟨fun q => absurd q (nI_ge hi (by omega)), fun _ => ⟨fun q => off (fun z => by omega), fun q => isOn_wp F2.2.2.1 (m31 G.2.2.1 k10) (by omega) ⟨fun z => off (fun y => ?_), fun z => ?_⟩⟩⟩
      · rw [(bit_0 _).mp z] at y; exact absurd y.2 (by decide)
      · have hb := (bit_ne0 _).mp z
        unfold jn_X5_load_37
        refine ⟨fun y => absurd y (by decide), fun _ => ⟨idx10 hi, ?_⟩⟩
        rw [nI_clamp (show i < 2 ^ 31 by omega), F2.1.2.2.1 i (by omega)]
        refine lrS_wp n10 ((hρ.1.1 17).trans h17) (by omega) (m31 (G.1.2.2.2.1 i (by omega)).2 n10) (fun τ2 S2 R2 => stp τ2 S2 ?_)
        rw [if_pos ⟨by omega, hb⟩]; exact R2)
    (Nat.zero_le 10) (s := σ1) ⟨SmS.rf σ1, fun r hr => absurd hr (Nat.not_lt_zero r)⟩
  rw [nI_0] at hfu
  exact ⟨fu, hfu⟩
end SP2
