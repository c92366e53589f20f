/-! ===== the reference: its net, small things ===== -/
/-- a loop that counts up to e -/
theorem lup {α : Type} (W : Nat → Nat → α → Prop) (I : Nat → α → Prop) (e : Nat) (hx : ∀ f s, I e s → W (f + 1) e s) (hs : ∀ f i s, i < e → I i s → (∀ s', I (i + 1) s' → W f (i + 1) s') → W (f + 1) i s) : ∀ (d i : Nat) (s : α), i + d = e → I i s → W (d + 1) i s
  | 0, i, s, h, h0 => by
    have : i = e := by omega
    subst this; exact hx 0 s h0
  | d + 1, i, s, h, h0 => hs (d + 1) i s (by omega) h0 (fun s' h' => lup W I e hx hs d (i + 1) s' (by omega) h')
theorem lupE {α : Type} (W : Nat → Nat → α → Prop) (I : Nat → α → Prop) (e : Nat) (hx : ∀ f s, I e s → W (f + 1) e s) (hs : ∀ f i s, i < e → I i s → (∀ s', I (i + 1) s' → W f (i + 1) s') → W (f + 1) i s) {i : Nat} {s : α} (hi : i ≤ e) (h0 : I i s) : ∃ f, W f i s := ⟨_, lup W I e hx hs (e - i) i s (by omega) h0⟩
def NetM (σ : St) (n k o M Bm : Nat) (ws ss os : Nat → Nat) : Prop :=
  gI σ 0 = nI n ∧ gI σ 1 = nI k ∧ gI σ 2 = nI o ∧ (∀ w, w < k → gA σ 0 w = nI (ws w)) ∧ (∀ w, w < k → gA σ 1 w = nI (ss w)) ∧ (∀ w, w < k → gA σ 2 w = if M.testBit w then 1 else 0) ∧ (∀ w, w < k → gA σ 3 w = if Bm.testBit w then 1 else 0) ∧ ∀ i, i < o → gA σ 4 i = nI (os i)
/-- what stays of the reference's net -/
def FrM (σ τ : St) : Prop := (∀ i, i < 3 → gI τ i = gI σ i) ∧ ∀ i, i < 5 → gA τ i = gA σ i
theorem FrM.rf (σ : St) : FrM σ σ := ⟨fun _ _ => rfl, fun _ _ => rfl⟩
theorem FrM.tr {σ τ ρ : St} (h : FrM σ τ) (g : FrM τ ρ) : FrM σ ρ := ⟨fun i hi => (g.1 i hi).trans (h.1 i hi), fun i hi => (g.2 i hi).trans (h.2 i hi)⟩
theorem netM_fr {σ τ : St} {n k o M Bm : Nat} {ws ss os : Nat → Nat} (h : NetM σ n k o M Bm ws ss os) (f : FrM σ τ) : NetM τ n k o M Bm ws ss os := by
  obtain ⟨a1, a2, a3, a4, a5, a6, a7, a8⟩ := h
  refine ⟨(f.1 0 (by decide)).trans a1, (f.1 1 (by decide)).trans a2, (f.1 2 (by decide)).trans a3, ?_, ?_, ?_, ?_, ?_⟩
  · intro w hw; rw [f.2 0 (by decide)]; exact a4 w hw
  · intro w hw; rw [f.2 1 (by decide)]; exact a5 w hw
  · intro w hw; rw [f.2 2 (by decide)]; exact a6 w hw
  · intro w hw; rw [f.2 3 (by decide)]; exact a7 w hw
  · intro w hw; rw [f.2 4 (by decide)]; exact a8 w hw
theorem orz (x : Int32) : x ||| 0 = x := by
  refine i32_ext (fun i _ => ?_)
  rw [Int32.toBitVec_or, BitVec.getLsbD_or]
  have : (0 : Int32).toBitVec = 0#32 := rfl
  rw [this, BitVec.getLsbD_zero, Bool.or_false]
theorem msk_or (f : Nat → Bool) (w : Nat) : msk f w ||| 2 ^ w = msk f w + 2 ^ w := by
  rw [Nat.or_comm]
  have := Nat.two_pow_add_eq_or_of_lt (msk_lt f w) 1
  rw [Nat.mul_one] at this
  rw [← this, Nat.add_comm]
theorem msk_all {M k : Nat} (h : M < 2 ^ k) : msk (fun i => M.testBit i) k = M := by
  refine Nat.eq_of_testBit_eq (fun i => ?_)
  rw [msk_bit]
  by_cases q : i < k
  · simp [q]
  · rw [bits_of_lt h (by omega)]; simp
section MNET
variable {σ : St} {n k o M Bm : Nat} {ws ss os : Nat → Nat}
theorem onSet_wp (F : NetM σ n k o M Bm ws ss os) (G : NetG n k o M Bm ws ss os) {post : Int32 → St → Prop} (h : post (nI M) σ) : wp_X7_onSet σ post := by
  obtain ⟨a1, a2, a3, a4, a5, a6, a7, a8⟩ := F
  have hk := G.1.2.2.1
  obtain ⟨f, hf⟩ := lupE (fun f i (x : Int32) => lp_X7_onSet_4 post f x (nI i) σ) (fun i x => x = nI (msk (fun w => M.testBit w) i)) k
    (fun f x hx => by
      rw [msk_all G.2.2.1] at hx
      unfold lp_X7_onSet_4
      rw [a2, hx]
      exact ⟨fun _ => h, fun q => absurd (nI_le (Nat.le_refl k) (by omega)) q⟩)
    (fun f i x hi hx ih => by
      unfold lp_X7_onSet_4
      rw [a2, nI_clamp (by omega), a6 i hi, one_shl (by omega)]
      refine ⟨fun q => absurd q (nI_ge hi (by omega)), fun _ => ⟨idx10 (by omega), fun q v hv v5 hv5 => ?_, fun q v hv v5 hv5 => ?_⟩⟩
      · rw [hv5, nI_1]
        refine ih v (hv.trans ?_)
        rw [orz, hx]
        show _ = nI (msk _ i + if M.testBit i then 2 ^ i else 0)
        rw [if_neg (by rw [(bit_0 _).mp q]; decide)]; rfl
      · rw [hv5, nI_1]
        refine ih v (hv.trans ?_)
        rw [hx, (and_or_bit _ _).2, msk_or]
        show _ = nI (msk _ i + if M.testBit i then 2 ^ i else 0)
        rw [if_pos ((bit_ne0 _).mp q)])
    (Nat.zero_le k) (s := nI 0) rfl
  rw [nI_0] at hf
  exact ⟨f, hf⟩
theorem seenSet_wp (F : NetM σ n k o M Bm ws ss os) (G : NetG n k o M Bm ws ss os) {post : Int32 → St → Prop} (h : post (nI (seenM ws M k)) σ) : wp_X7_seenSet σ post := by
  obtain ⟨a1, a2, a3, a4, a5, a6, a7, a8⟩ := F
  have hk := G.1.2.2.1
  obtain ⟨f, hf⟩ := lupE (fun f i (x : Int32) => lp_X7_seenSet_4 post f x (nI i) σ) (fun i x => x = nI (seenM ws M i)) k
    (fun f x hx => by
      unfold lp_X7_seenSet_4
      rw [a2, hx]
      exact ⟨fun _ => h, fun q => absurd (nI_le (Nat.le_refl k) (by omega)) q⟩)
    (fun f i x hi hx ih => by
      unfold lp_X7_seenSet_4
      rw [a2, nI_clamp (by omega), a6 i hi, a4 i hi]
      refine ⟨fun q => absurd q (nI_ge hi (by omega)), fun _ => ⟨idx10 (by omega), fun q v hv v5 hv5 => ?_, fun q => ⟨idx10 (by omega), fun v hv v5 hv5 => ?_⟩⟩⟩
      · rw [hv5, nI_1]
        refine ih v (hv.trans ?_)
        rw [orz, hx, show seenM ws M (i + 1) = seenM ws M i from if_neg (by rw [(bit_0 _).mp q]; decide)]
      · rw [hv5, nI_1]
        refine ih v (hv.trans ?_)
        rw [hx, (and_or_bit _ _).2, show seenM ws M (i + 1) = seenM ws M i ||| ws i from if_pos ((bit_ne0 _).mp q)])
    (Nat.zero_le k) (s := nI 0) rfl
  rw [nI_0] at hf
  exact ⟨f, hf⟩
theorem bits_wp {s : Nat} (hs : s < 1024) {post : Int32 → St → Prop} (h : post (nI (pc s)) σ) : wp_X7_bits (nI s) σ post := by
  have i10 : (10 : Int32) = nI 10 := rfl
  obtain ⟨f, hf⟩ := lupE (fun f i (x : Int32) => lp_X7_bits_4 post f (nI s) x (nI i) σ) (fun i x => x = nI (fb_ct (fun i => s.testBit i) i)) 10
    (fun f x hx => by
      unfold lp_X7_bits_4
      rw [i10, hx]
      exact ⟨fun _ => h, fun q => absurd (nI_le (Nat.le_refl 10) (by omega)) q⟩)
    (fun f i x hi hx ih => by
      unfold lp_X7_bits_4
      rw [i10]
      refine ⟨fun q => absurd q (nI_ge hi (by omega)), fun _ v hv v5 hv5 => ?_⟩
      rw [hv5, nI_1]
      refine ih v (hv.trans ?_)
      rw [hx, bit_at (by omega) (by omega), fb_ct_succ]
      cases s.testBit i
      · show nI _ + 0 = _
        rw [← nI_0, nI_add]; rfl
      · exact nI_1 _)
    (Nat.zero_le 10) (s := nI 0) rfl
  rw [nI_0] at hf
  exact ⟨f, hf⟩
theorem noSet_wp (h0 : gI σ 0 = nI n) (hn : n ≤ 10) {x l : Int32} {L : Nat} (hl : l = nI L) (hL : L ≤ 1) {post : Int32 → St → Prop} (hno : (¬ ∃ s, L ≤ s ∧ s < 2 ^ n ∧ x = nI s) → post 1 σ) (hyes : ∀ s, L ≤ s → s < 2 ^ n → x = nI s → post 0 σ) : wp_X7_noSet x l σ post := by
  have l1 : 2 ^ n < 2 ^ 31 := Nat.pow_lt_pow_right (by decide) (by omega)
  have l0 : 0 < 2 ^ n := Nat.two_pow_pos n
  unfold wp_X7_noSet
  rw [h0, one_shl (by omega), hl, show nI (2 ^ n) - 1 = nI (2 ^ n - 1) by rw [show (1 : Int32) = nI 1 from rfl, pk_sub (by omega)]]
  refine in_wp (fun h1 h2 => ⟨fun _ => ?_, fun z => absurd z (by decide)⟩) (fun h1 => ⟨fun z => absurd rfl z, fun _ => hno (fun ⟨s, s1, s2, s3⟩ => h1 ?_)⟩)
  · rw [Int32.toInt_toInt64, Int32.toInt_toInt64, nI_toInt (by omega)] at h1
    rw [Int32.toInt_toInt64, Int32.toInt_toInt64, nI_toInt (by omega)] at h2
    rcases pk_ix x l1 with q | q | ⟨j, hj, q⟩
    · rw [Int32.lt_iff_toInt_lt, show (0 : Int32).toInt = 0 from rfl] at q; omega
    · rw [Int32.le_iff_toInt_le, nI_toInt l1] at q
      omega
    · rw [q, nI_toInt (by omega)] at h1
      exact hyes j (by omega) hj q
  · rw [Int32.toInt_toInt64, Int32.toInt_toInt64, Int32.toInt_toInt64, nI_toInt (by omega), nI_toInt (by omega), s3, nI_toInt (by omega)]
    omega
/-- an argument between 0 and a - 1 -/
theorem inA_wp {a : Nat} {y : Int32} (hy : y = nI a) (ha : a < 2 ^ 30) {x : Int32} {post : Int32 → St → Prop} (hno : (¬ ∃ s, s < a ∧ x = nI s) → post 0 σ) (hyes : ∀ s, s < a → x = nI s → post 1 σ) : wp_X7_in (Int32.toInt64 x) 0 (Int32.toInt64 (y - 1)) σ post := by
  have e : (y - 1).toInt = (a : Int) - 1 := by
    rw [hy, show (1 : Int32) = nI 1 from rfl, pk_sub_toInt ha (by decide)]; rfl
  refine in_wp (fun h1 h2 => ?_) (fun h1 => hno (fun ⟨s, s1, s2⟩ => h1 ?_))
  · rw [Int32.toInt_toInt64] at h1
    rw [Int32.toInt_toInt64, Int32.toInt_toInt64, e] at h2
    rw [show (0 : Int64).toInt = 0 from rfl] at h1
    rcases pk_ix x (show a < 2 ^ 31 by omega) with q | q | ⟨j, hj, q⟩
    · rw [Int32.lt_iff_toInt_lt, show (0 : Int32).toInt = 0 from rfl] at q; omega
    · rw [Int32.le_iff_toInt_le, nI_toInt (by omega)] at q; omega
    · exact hyes j hj q
  · rw [Int32.toInt_toInt64, Int32.toInt_toInt64, e, s2, nI_toInt (by omega), show (0 : Int64).toInt = 0 from rfl]; omega
theorem noWay_wp (h1 : gI σ 1 = nI k) (hk : k ≤ 10) {x : Int32} {post : Int32 → St → Prop} (hno : (¬ ∃ s, s < k ∧ x = nI s) → post 1 σ) (hyes : ∀ s, s < k → x = nI s → post 0 σ) : wp_X7_noWay x σ post :=
  inA_wp h1 (by omega) (fun q => ⟨fun z => absurd rfl z, fun _ => hno q⟩) (fun s hs hx => ⟨fun _ => hyes s hs hx, fun z => absurd z (by decide)⟩)
theorem noLine_wp (h1 : gI σ 0 = nI n) (hn : n ≤ 10) {x : Int32} {post : Int32 → St → Prop} (hno : (¬ ∃ s, s < n ∧ x = nI s) → post 1 σ) (hyes : ∀ s, s < n → x = nI s → post 0 σ) : wp_X7_noLine x σ post :=
  inA_wp h1 (by omega) (fun q => ⟨fun z => absurd rfl z, fun _ => hno q⟩) (fun s hs hx => ⟨fun _ => hyes s hs hx, fun z => absurd z (by decide)⟩)
theorem endlessM_wp (F : NetM σ n k o M Bm ws ss os) (G : NetG n k o M Bm ws ss os) {s : Nat} (hs : s < 2 ^ n) {e : Int32} {post : Int32 → St → Prop} (h0 : (e = 1 → allSeen ws M k s) → post 0 σ) (h1 : e = 1 → ¬ allSeen ws M k s → post 1 σ) : wp_X7_isEndless (nI s) e σ post := by
  unfold wp_X7_isEndless
  refine ⟨fun q => h0 (fun z => absurd z q), fun q => seenSet_wp F G ?_⟩
  have e1 : nI s &&& (nI (seenM ws M k) ^^^ (-1)) = nI (wo s (seenM ws M k)) := and_not s _
  rw [e1]
  have l1 : wo s (seenM ws M k) < 2 ^ 31 := m31 (wo_lt hs) G.1.2.1
  refine ⟨fun z => h0 (fun _ => wo_zero.mp ?_), fun z => h1 q (fun y => z ?_)⟩
  · exact (nI_eq l1 (by decide)).mp (z.trans nI_0.symm)
  · rw [wo_zero.mpr y, nI_0]
end MNET
