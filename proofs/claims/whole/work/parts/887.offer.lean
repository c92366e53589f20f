/-! ===== Spans: offers ===== -/
section OF1
variable {n k o M Bm : Nat} {ws ss os : Nat → Nat}
theorem rk_mem (hM : M < 2 ^ k) {S : Nat} {v : Vc} : v ∈ rowsV n (rkL ws os M S k o) ↔ (∃ w, w < k ∧ M.testBit w = true ∧ v = vec n (ws w)) ∨ ∃ i, i < o ∧ S.testBit i = true ∧ v = vec n (os i) := by
  unfold rowsV rkL
  rw [List.map_append, List.mem_append, List.map_map, List.map_map, List.mem_map, List.mem_map]
  constructor
  · rintro (⟨w, h1, h2⟩ | ⟨i, h1, h2⟩)
    · exact Or.inl ⟨w, (wyL_mem.mp h1).1, (wyL_mem.mp h1).2, h2.symm⟩
    · exact Or.inr ⟨i, (wyL_mem.mp h1).1, (wyL_mem.mp h1).2, h2.symm⟩
  · rintro (⟨w, h1, h2, h3⟩ | ⟨i, h1, h2, h3⟩)
    · exact Or.inl ⟨w, wyL_mem.mpr ⟨h1, h2⟩, h3.symm⟩
    · exact Or.inr ⟨i, wyL_mem.mpr ⟨h1, h2⟩, h3.symm⟩
theorem rk_sub (hM : M < 2 ^ k) {S S' : Nat} (h : ∀ i, S.testBit i = true → S'.testBit i = true) : ∀ v ∈ rowsV n (rkL ws os M S k o), v ∈ rowsV n (rkL ws os M S' k o) := fun v hv => (rk_mem hM).mpr (((rk_mem hM).mp hv).imp id (fun ⟨i, h1, h2, h3⟩ => ⟨i, h1, h i h2, h3⟩))
/-- which rows of the table of S still count -/
def Vld (n asked S r : Nat) : Prop := (10 ≤ r ∧ r < 20 ∧ ∀ i, S.testBit i = true → r - 10 < i) ∨ (20 ≤ r ∧ r < 20 + n ∧ asked.testBit (r - 20) = true)
/-- the table of a depth is for the offers S -/
def DpT (τ : St) (n k o M : Nat) (ws os : Nat → Nat) (asked δ S : Nat) : Prop :=
  ∃ q C P, SpB n C q P ∧ (gA τ 11 δ).toInt = DC C q P ∧ (∀ u ∈ P, u ∈ rowsV n (rkL ws os M S k o)) ∧ (∀ v ∈ rowsV n (rkL ws os M S k o), QSp P v) ∧ ∀ r, Vld n asked S r → Rst τ n (δ * 30 + r) (Rd q C P (vec n (Osr ws os k o M r)))
/-- what a table's making leaves -/
def FrA (σ τ : St) (δ1 : Nat) : Prop := FrP σ τ ∧ (∀ i, gI τ i = gI σ i) ∧ (∀ x, x < δ1 * 300 ∨ (δ1 + 1) * 300 ≤ x → gA τ 9 x = gA σ 9 x) ∧ (∀ x, x ≠ δ1 → gA τ 10 x = gA σ 10 x) ∧ ∀ x, x ≠ δ1 → gA τ 11 x = gA σ 11 x
theorem dpt_fr (hn : n ≤ 10) {σ τ : St} {δ1 asked δ S : Nat} (F : FrA σ τ δ1) (hne : δ ≠ δ1) (h : DpT σ n k o M ws os asked δ S) : DpT τ n k o M ws os asked δ S := by
  obtain ⟨q, C, P, b1, b2, b3, b4, b5⟩ := h
  refine ⟨q, C, P, b1, by rw [F.2.2.2.2 δ hne]; exact b2, b3, b4, fun r hr j hj => ?_⟩
  have r30 : r < 30 := by rcases hr with z | z <;> omega
  rw [F.2.2.1 _ (by omega)]
  exact b5 r hr j hj
theorem osr_offer {m : Nat} (hm : m < o) (ho : o ≤ 10) : Osr ws os k o M (10 + m) = os m := by
  unfold Osr
  rw [if_neg (by omega), if_pos (by omega), show 10 + m - 10 = m by omega, if_pos hm]
theorem takeOffer_wp {σ : St} (G : NetG n k o M Bm ws ss os) {asked : Nat} (h17 : gI σ 17 = nI n) (h19 : gI σ 19 = nI asked) (ha : asked < 2 ^ n) {δ S m : Nat} (hδ : δ < 10) (hm : m < o) (hS : ∀ i, S.testBit i = true → m < i) (h10 : gA σ 10 δ = nI S) (D : DpT σ n k o M ws os asked δ S) {post : Int32 → St → Prop}
    (hno : QSp (rowsV n (rkL ws os M S k o)) (vec n (os m)) → post 0 σ) (hyes : ¬ QSp (rowsV n (rkL ws os M S k o)) (vec n (os m)) → ∀ τ, FrA σ τ (δ + 1) → gA τ 10 (δ + 1) = nI (S ||| 2 ^ m) → DpT τ n k o M ws os asked (δ + 1) (S ||| 2 ^ m) → post 1 τ) : wp_X5_takeOffer (nI δ) (nI m) σ post := by
  have n10 := G.1.2.1
  have o10 := G.2.1
  have hM := G.2.2.1
  have i10 : (10 : Int32) = nI 10 := rfl
  have i20 : (20 : Int32) = nI 20 := rfl
  obtain ⟨q, C, P, b1, b2, b3, b4, b5⟩ := D
  have om := osr_offer (ws := ws) (os := os) (k := k) (M := M) hm o10
  have qiff : QSp P (vec n (os m)) ↔ QSp (rowsV n (rkL ws os M S k o)) (vec n (os m)) := ⟨fun h => q_mono h b3, fun h => q_tr b4 h⟩
  have row : Rst σ n (δ * 30 + (10 + m)) (Rd q C P (vec n (os m))) := by
    have := b5 (10 + m) (Or.inl ⟨by omega, by omega, fun i hi => by have := hS i hi; omega⟩)
    rw [om] at this; exact this
  unfold wp_X5_takeOffer
  rw [i10, nI_add]
  refine ⟨fun z => absurd z (nI_ge hδ (by omega)), fun _ => ffc_wp n10 h17 (by omega) row (fun h0 => ?_) (fun c hc hne _ => ?_)⟩
  · unfold jn_X5_takeOffer_19
    exact ⟨fun z => absurd rfl z, fun _ => hno (qiff.mp ((spb_q n10 b1).mp h0))⟩
  · have nq : ¬ QSp (rowsV n (rkL ws os M S k o)) (vec n (os m)) := fun z => hne (rd_q b1.1 (qiff.mpr z) c)
    have hd0 : DC C q P ≠ 0 := b1.1.2.1
    unfold jn_X5_takeOffer_19 wp_X5_startOf
    refine ⟨fun _ => ?_, fun z => ?_⟩
    · rw [i10, nI_add, ← i10, st_ix, i10]
      refine lupE (fun fu i (τ : St) => lp_X5_takeOffer_41 post fu (nI δ) (nI m) (nI c) (nI ((δ * 30 + (10 + m)) * 10)) (nI i) τ) (fun i τ => 10 ≤ i ∧ SmS σ τ ∧ (∀ x, x < (δ + 1) * 300 ∨ (δ + 1 + 1) * 300 ≤ x → gA τ 9 x = gA σ 9 x) ∧ ∀ r, 10 ≤ r → r < i → ((r < 20 ∧ r < 10 + m) ∨ (20 ≤ r ∧ asked.testBit (r - 20) = true)) → Rst τ n ((δ + 1) * 30 + r) (Rd (q + 1) (cu C q c) (vec n (os m) :: P) (vec n (Osr ws os k o M r)))) (20 + n)
        (fun fu τ hτ => ?_) (fun fu i τ hi hτ ih => ?_) (show 10 ≤ 20 + n by omega) (s := σ) ⟨Nat.le_refl _, SmS.rf σ, fun _ _ => rfl, fun r h1 h2 => absurd h2 (by omega)⟩
      · obtain ⟨_, hS2, t1, t2⟩ := hτ
        unfold lp_X5_takeOffer_41
        rw [hS2.1 17, h17, i20, nI_add]
        refine ⟨fun _ => ?_, fun z => absurd (nI_le (Nat.le_refl _) (by omega)) z⟩
        unfold jn_X5_takeOffer_138
        rw [nI_add, nI_1, nI_clamp (show (δ * 30 + (10 + m)) * 10 + c < 2 ^ 31 by omega), nI_clamp (show δ + 1 < 2 ^ 31 by omega), nI_clamp (show δ < 2 ^ 31 by omega), one_shl (by omega)]
        refine ⟨in33 (by omega), pk_in (δ + 1) 11 (by omega), fun σ1 e1 => ⟨pk_in δ 11 (by omega), pk_in (δ + 1) 11 (by omega), fun σ3 e3 => ?_⟩⟩
        have ga : ∀ i x, gA σ3 i x = if i = 10 ∧ x = δ + 1 then nI (S ||| 2 ^ m) else if i = 11 ∧ x = δ + 1 then gA τ 9 ((δ * 30 + (10 + m)) * 10 + c) else gA τ i x := fun i x => by
          have e10 : gA σ1 10 δ = nI S := by rw [e1, gA_sA, if_neg (fun z => absurd z.1 (by decide)), hS2.2.2.2 10 (by decide)]; exact h10
          rw [e3, gA_sA, e10, (and_or_bit _ _).2, e1, gA_sA]
        have gi : ∀ i, gI σ3 i = gI σ i := fun i => by rw [e3, gI_sA, e1, gI_sA]; exact hS2.1 i
        refine hyes nq σ3 ⟨⟨fun i _ => gi i, fun i hi => ?_, fun i => ?_, fun i => ?_⟩, gi, fun x hx => ?_, fun x hx => ?_, fun x hx => ?_⟩ ?_ ⟨q + 1, cu C q c, _, spb_more b1 hc hne, ?_, fun u hu => ?_, fun v hv => ?_, fun r hr => ?_⟩
        · funext x
          rw [ga, if_neg (fun z => by omega), if_neg (fun z => by omega), hS2.2.2.2 i (by omega)]
        · rw [e3, gL_sA, e1, gL_sA]; exact hS2.2.1 i
        · rw [e3, gB_sA, e1, gB_sA]; exact hS2.2.2.1 i
        · rw [ga, if_neg (fun z => absurd z.1 (by decide)), if_neg (fun z => absurd z.1 (by decide))]; exact t1 x hx
        · rw [ga, if_neg (fun z => hx z.2), if_neg (fun z => absurd z.1 (by decide)), hS2.2.2.2 10 (by decide)]
        · rw [ga, if_neg (fun z => absurd z.1 (by decide)), if_neg (fun z => hx z.2), hS2.2.2.2 11 (by decide)]
        · rw [ga, if_pos ⟨rfl, rfl⟩]
        · rw [ga, if_neg (fun z => absurd z.1 (by decide)), if_pos ⟨rfl, rfl⟩, t1 _ (by omega)]
          exact row c hc
        · rcases List.mem_cons.mp hu with e | e
          · exact (rk_mem hM).mpr (Or.inr ⟨m, hm, by rw [Nat.testBit_or, Nat.testBit_two_pow, decide_eq_true rfl, Bool.or_true], e⟩)
          · exact rk_sub hM (fun i hi => by rw [Nat.testBit_or, hi, Bool.true_or]) u (b3 u e)
        · rcases (rk_mem hM).mp hv with h | ⟨i, h1, h2, h3⟩
          · exact q_mono (b4 v ((rk_mem hM).mpr (Or.inl h))) (fun x hx => List.mem_cons_of_mem _ hx)
          · rw [Nat.testBit_or, Bool.or_eq_true, Nat.testBit_two_pow, decide_eq_true_iff] at h2
            rcases h2 with h2 | h2
            · exact q_mono (b4 v ((rk_mem hM).mpr (Or.inr ⟨i, h1, h2, h3⟩))) (fun x hx => List.mem_cons_of_mem _ hx)
            · rw [h3, ← h2]; exact q_mem List.mem_cons_self
        · have rr : Rst τ n ((δ + 1) * 30 + r) (Rd (q + 1) (cu C q c) (vec n (os m) :: P) (vec n (Osr ws os k o M r))) := by
            rcases hr with ⟨h1, h2, h3⟩ | ⟨h1, h2, h3⟩
            · have := h3 m (by rw [Nat.testBit_or, Nat.testBit_two_pow, decide_eq_true rfl, Bool.or_true])
              exact t2 r h1 (by omega) (Or.inl ⟨h2, by omega⟩)
            · exact t2 r (by omega) h2 (Or.inr ⟨h1, h3⟩)
          intro j hj
          rw [ga, if_neg (fun z => absurd z.1 (by decide)), if_neg (fun z => absurd z.1 (by decide))]
          exact rr j hj
      · obtain ⟨i1, hS2, t1, t2⟩ := hτ
        have g17 := (hS2.1 17).trans h17
        have no : ¬ ((i < 20 ∧ i < 10 + m) ∨ (20 ≤ i ∧ asked.testBit (i - 20) = true)) → jn_X5_takeOffer_98 post (lp_X5_takeOffer_41 post fu) (nI δ) (nI m) (nI c) (nI ((δ * 30 + (10 + m)) * 10)) (nI i) 0 τ := fun z => by
          unfold jn_X5_takeOffer_98
          refine ⟨fun _ v hv => ?_, fun y => absurd rfl y⟩
          rw [hv, nI_1]
          refine ih τ ⟨by omega, hS2, t1, fun r h1 h2 h3 => ?_⟩
          by_cases y : r = i
          · rw [y] at h3; exact absurd h3 z
          · exact t2 r h1 (by omega) h3
        have yes : ((i < 20 ∧ i < 10 + m) ∨ (20 ≤ i ∧ asked.testBit (i - 20) = true)) → jn_X5_takeOffer_98 post (lp_X5_takeOffer_41 post fu) (nI δ) (nI m) (nI c) (nI ((δ * 30 + (10 + m)) * 10)) (nI i) 1 τ := fun z => by
          unfold jn_X5_takeOffer_98 wp_X5_startOf
          refine ⟨fun y => absurd y (by decide), fun _ => ?_⟩
          have e5 : nI δ + 1 = nI (δ + 1) := nI_1 δ
          rw [e5, st_ix, st_ix, nI_clamp (show δ < 2 ^ 31 by omega)]
          refine ⟨pk_in δ 11 (by omega), ?_⟩
          have val : Vld n asked S i := by
            rcases z with z | z
            · exact Or.inl ⟨i1, z.1, fun l hl => by have := hS l hl; omega⟩
            · exact Or.inr ⟨z.1, hi, z.2⟩
          have keep : ∀ r f, r < 30 → Rst σ n (δ * 30 + r) f → Rst τ n (δ * 30 + r) f := fun r f hr hf j hj => by
            rw [t1 _ (by omega)]; exact hf j hj
          have ok := clr_ok n10 b1 (a := os m) (b := Osr ws os k o M i) hc hne
          refine clrS_wp (a := δ * 30 + i) (b := (δ + 1) * 30 + i) (h := δ * 30 + (10 + m)) (TI := Rd q C P (vec n (Osr ws os k o M i))) (TH := Rd q C P (vec n (os m))) (N := Rd (q + 1) (cu C q c) (vec n (os m) :: P) (vec n (Osr ws os k o M i))) n10 g17 (by omega) (by omega) (by omega) hc (by omega) (by rw [hS2.2.2.2 11 (by decide)]; exact b2) hd0 (keep i _ (by omega) (b5 i val)) (keep (10 + m) _ (by omega) row) ok.1 ok.2.1 ok.2.2 (fun τ2 S2 R2 v hv => ?_)
          rw [hv, nI_1]
          refine ih τ2 ⟨by omega, hS2.tr S2, fun x hx => ?_, fun r h1 h2 h3 => ?_⟩
          · rw [R2.2 x (fun j hj => by omega)]; exact t1 x hx
          · by_cases y : r = i
            · rw [y]; exact R2.1
            · exact Rst.ne n10 (t2 r h1 (by omega) h3) R2 (by omega)
        unfold lp_X5_takeOffer_41
        rw [g17, i20, i10, nI_add, nI_add, hS2.1 19, h19, nI_leI (show 20 < 2 ^ 31 by decide) (show i < 2 ^ 31 by omega), nI_leI (show 10 + m < 2 ^ 31 by omega) (show i < 2 ^ 31 by omega)]
        refine ⟨fun z => absurd z (nI_ge hi (by omega)), fun _ => ⟨fun z => ?_, fun z => ⟨fun y => no (fun w => by omega), fun y => yes (Or.inl ⟨by omega, by omega⟩)⟩⟩⟩
        rw [pk_sub z]
        refine bitOf_wp (m31 ha n10) (by omega) ⟨fun y => no (fun w => ?_), fun y => yes (Or.inr ⟨z, (bit_1 _).mp y⟩)⟩
        rcases w with w | w
        · omega
        · rw [(bit_ne1 _).mp y] at w; exact absurd w.2 (by decide)
    · have := nI_pos (n := c) (by omega)
      rw [z] at this; exact absurd (by decide) this
/-- all that is asked is known by the ways that are on and the offers S -/
def AdvP (n k o M : Nat) (ws os : Nat → Nat) (asked S : Nat) : Prop := ∀ l, l < n → asked.testBit l = true → KnP n k o M ws os S l
theorem asked_wp {σ : St} (G : NetG n k o M Bm ws ss os) {asked : Nat} (h17 : gI σ 17 = nI n) (h19 : gI σ 19 = nI asked) (ha : asked < 2 ^ n) {δ S : Nat} (hδ : δ < 11) (D : DpT σ n k o M ws os asked δ S) {post : Int32 → St → Prop} (h1 : AdvP n k o M ws os asked S → post 1 σ) (h0 : ¬ AdvP n k o M ws os asked S → post 0 σ) : wp_X5_allAskedAreEmpty (nI δ) σ post := by
  have n10 := G.1.2.1
  have i20 : (20 : Int32) = nI 20 := rfl
  obtain ⟨q, C, P, b1, b2, b3, b4, b5⟩ := D
  have kn : ∀ l, ((∀ j, j < n → Rd q C P (vec n (2 ^ l)) j = 0) ↔ KnP n k o M ws os S l) := fun l => by
    rw [spb_q n10 b1]
    exact ⟨fun h => q_mono h b3, fun h => q_tr b4 h⟩
  obtain ⟨fu, hfu⟩ := lupE (fun fu i (_ : Unit) => lp_X5_allAskedAreEmpty_2 post fu (nI δ) (nI i) σ) (fun i _ => ∀ l, l < i → asked.testBit l = true → KnP n k o M ws os S l) n
    (fun fu _ h => by
      unfold lp_X5_allAskedAreEmpty_2
      rw [h17]
      exact ⟨fun _ => h1 h, fun z => absurd (nI_le (Nat.le_refl n) (by omega)) z⟩)
    (fun fu i _ hi h ih => by
      unfold lp_X5_allAskedAreEmpty_2
      rw [h17, h19, i20, nI_add]
      refine ⟨fun z => absurd z (nI_ge hi (by omega)), fun _ => bitOf_wp (m31 ha n10) (by omega) ⟨fun z v hv => ?_, fun z => ?_⟩⟩
      · rw [hv, nI_1]
        refine ih () (fun l hl hb => ?_)
        by_cases y : l = i
        · rw [y, (bit_ne1 _).mp z] at hb; cases hb
        · exact h l (by omega) hb
      · have hb := (bit_1 _).mp z
        have row := b5 (20 + i) (Or.inr ⟨by omega, by omega, by rw [show 20 + i - 20 = i by omega]; exact hb⟩)
        rw [osr_line] at row
        refine ffc_wp n10 h17 (by omega) row (fun hz => ⟨fun _ v hv => ?_, fun y => absurd rfl y⟩) (fun c hc hne _ => ⟨fun y => ?_, fun _ => h0 (fun y => hne ((kn i).mpr (y i hi hb) c hc))⟩)
        · rw [hv, nI_1]
          refine ih () (fun l hl hb2 => ?_)
          by_cases y : l = i
          · rw [y]; exact (kn i).mp hz
          · exact h l (by omega) hb2
        · have := nI_pos (n := c) (by omega)
          rw [y] at this; exact absurd (by decide) this)
    (Nat.zero_le n) (s := ()) (fun l hl => absurd hl (Nat.not_lt_zero l))
  rw [nI_0] at hfu
  exact ⟨fu, hfu⟩
end OF1
