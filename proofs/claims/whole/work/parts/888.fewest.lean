/-! ===== Spans: the fewest offers ===== -/
def rs (T : Nat) : Nat := T &&& (T - 1)
def lo (T : Nat) : Nat := pc (wo (T - 1) T)
theorem low_all : ∀ T, T < 1024 → 0 < T → rs T ||| 2 ^ lo T = T ∧ (∀ i, i < 10 → (rs T).testBit i = true → lo T < i) ∧ pc T = pc (rs T) + 1 ∧ lo T < 10 ∧ rs T < T ∧ rs T + 2 ^ lo T = T ∧ wo (T - 1) T < 1024 := by decide +kernel
theorem low_gap : ∀ T, T < 1024 → 0 < T → ∀ y, y < T - rs T → 0 < y → pc (rs T) < pc (rs T + y) := by decide +kernel
theorem pc10 (S : Nat) : pc S ≤ 10 := fb_ct_le _ 10
theorem pc_or {S m : Nat} (hm : m < 10) (h : S.testBit m = false) : pc (S ||| 2 ^ m) = pc S + 1 := by
  have a := fb_ct_upd (fun i => S.testBit i) true hm
  have e : fb_ct (fun i => (S ||| 2 ^ m).testBit i) 10 = fb_ct (fun k => if k = m then true else S.testBit k) 10 := fb_ct_cong (fun i _ => by
    show (S ||| 2 ^ m).testBit i = if i = m then true else S.testBit i
    rw [Nat.testBit_or, Nat.testBit_two_pow]
    by_cases q : i = m
    · rw [if_pos q, decide_eq_true q.symm, Bool.or_true]
    · rw [if_neg q, decide_eq_false (fun z => q z.symm), Bool.or_false])
  unfold pc
  rw [e]
  rw [h] at a
  simp only [if_true, Bool.false_eq_true, if_false] at a
  omega
theorem pc_wo {S m : Nat} (hm : m < 10) (h : S.testBit m = true) : pc (wo S (2 ^ m)) + 1 = pc S := by
  have a := fb_ct_upd (fun i => S.testBit i) false hm
  have e : fb_ct (fun i => (wo S (2 ^ m)).testBit i) 10 = fb_ct (fun k => if k = m then false else S.testBit k) 10 := fb_ct_cong (fun i _ => by
    show (wo S (2 ^ m)).testBit i = if i = m then false else S.testBit i
    rw [wo_bit, Nat.testBit_two_pow]
    by_cases q : i = m
    · rw [if_pos q, decide_eq_true q.symm]; simp
    · rw [if_neg q, decide_eq_false (fun z => q z.symm)]; simp)
  unfold pc
  rw [e]
  rw [h] at a
  simp only [if_true, Bool.false_eq_true, if_false] at a
  omega
theorem pc_no {S m : Nat} (hm : m < 10) (h : S.testBit m = false) : pc S < 10 := by
  have := pc_or hm h
  have := pc10 (S ||| 2 ^ m)
  omega
/-- the bits above i -/
def upb (T i : Nat) : Nat := wo T (2 ^ (i + 1) - 1)
theorem upb_bit (T i j : Nat) : (upb T i).testBit j = (T.testBit j && decide (i < j)) := by
  unfold upb
  rw [wo_bit, Nat.testBit_two_pow_sub_one]
  by_cases q : i < j
  · rw [decide_eq_true q, decide_eq_false (by omega)]; rfl
  · rw [decide_eq_false q, decide_eq_true (by omega)]; rfl
theorem bit_lt {T o i : Nat} (h : T < 2 ^ o) (hi : T.testBit i = true) : i < o := by
  rcases Nat.lt_or_ge i o with q | q
  · exact q
  · rw [bits_of_lt h q] at hi; cases hi
theorem rs_bit {T : Nat} (h : T < 1024) (h0 : 0 < T) (j : Nat) : (rs T).testBit j = (T.testBit j && decide (lo T < j)) := by
  obtain ⟨a1, a2, a3, a4, a5, a6, a7⟩ := low_all T h h0
  have hb : T.testBit j = ((rs T).testBit j || decide (lo T = j)) := by
    have : (rs T ||| 2 ^ lo T).testBit j = T.testBit j := by rw [a1]
    rw [← this, Nat.testBit_or, Nat.testBit_two_pow]
  rw [hb]
  cases e : (rs T).testBit j with
  | true =>
    have hj : j < 10 := bit_lt (o := 10) (by omega) e
    rw [decide_eq_true (a2 j hj e)]; rfl
  | false =>
    by_cases q : lo T = j
    · have h2 : decide (lo T < j) = false := decide_eq_false (by omega)
      rw [h2]; simp
    · rw [decide_eq_false q]; rfl
section FEW
variable {n k o M Bm : Nat} {ws ss os : Nat → Nat} {asked : Nat}
/-- no offer of T is put together of the ways and those above it -/
def Indc (n k o M : Nat) (ws os : Nat → Nat) (T : Nat) : Prop := ∀ i, T.testBit i = true → ¬ QSp (rowsV n (rkL ws os M (upb T i) k o)) (vec n (os i))
theorem indc_rs {T : Nat} (h : T < 1024) (h0 : 0 < T) (hI : Indc n k o M ws os T) : Indc n k o M ws os (rs T) ∧ ¬ QSp (rowsV n (rkL ws os M (rs T) k o)) (vec n (os (lo T))) := by
  obtain ⟨a1, a2, a3, a4, a5, a6, a7⟩ := low_all T h h0
  have lb : T.testBit (lo T) = true := by
    have : (rs T ||| 2 ^ lo T).testBit (lo T) = T.testBit (lo T) := by rw [a1]
    rw [← this, Nat.testBit_or, Nat.testBit_two_pow, decide_eq_true rfl, Bool.or_true]
  refine ⟨fun i hi => ?_, ?_⟩
  · rw [rs_bit h h0, Bool.and_eq_true, decide_eq_true_iff] at hi
    have e : upb (rs T) i = upb T i := Nat.eq_of_testBit_eq (fun j => by
      rw [upb_bit, upb_bit, rs_bit h h0]
      by_cases q : i < j
      · rw [decide_eq_true q, decide_eq_true (show lo T < j by omega)]; simp
      · rw [decide_eq_false q]; simp)
    rw [e]; exact hI i hi.1
  · have e : upb T (lo T) = rs T := Nat.eq_of_testBit_eq (fun j => by rw [upb_bit, rs_bit h h0])
    have := hI (lo T) lb
    rw [e] at this; exact this
def LeastA (n k o M : Nat) (ws os : Nat → Nat) (asked O : Nat) : Prop := O < 2 ^ o ∧ AdvP n k o M ws os asked O ∧ ∀ S, S < 2 ^ o → AdvP n k o M ws os asked S → pc O * 1024 + O ≤ pc S * 1024 + S
theorem adv_q (hM : M < 2 ^ k) {S S' : Nat} (h : ∀ v ∈ rowsV n (rkL ws os M S k o), QSp (rowsV n (rkL ws os M S' k o)) v) (ha : AdvP n k o M ws os asked S) : AdvP n k o M ws os asked S' := fun l hl hb => q_tr h (ha l hl hb)
theorem least_indc (hM : M < 2 ^ k) (ho : o ≤ 10) {O : Nat} (h : LeastA n k o M ws os asked O) : Indc n k o M ws os O := by
  obtain ⟨h1, h2, h3⟩ := h
  intro i hi hq
  have io := bit_lt h1 hi
  have l10 : O < 1024 := Nat.lt_of_lt_of_le h1 (Nat.pow_le_pow_right (by decide) ho)
  have sub : ∀ j, (upb O i).testBit j = true → (wo O (2 ^ i)).testBit j = true := fun j hj => by
    rw [upb_bit, Bool.and_eq_true, decide_eq_true_iff] at hj
    rw [wo_bit, Nat.testBit_two_pow, hj.1, decide_eq_false (by omega)]; rfl
  have adv : AdvP n k o M ws os asked (wo O (2 ^ i)) := adv_q hM (fun v hv => by
    rcases (rk_mem hM).mp hv with z | ⟨j, j1, j2, j3⟩
    · exact q_mem ((rk_mem hM).mpr (Or.inl z))
    · by_cases e : j = i
      · rw [j3, e]; exact q_mono hq (rk_sub hM sub)
      · exact q_mem ((rk_mem hM).mpr (Or.inr ⟨j, j1, by rw [wo_bit, Nat.testBit_two_pow, j2, decide_eq_false (fun z => e z.symm)]; rfl, j3⟩))) h2
  have := h3 _ (wo_lt h1) adv
  have e := pc_wo (show i < 10 by omega) hi
  have l2 : wo O (2 ^ i) < 1024 := Nat.lt_of_lt_of_le (wo_lt h1) (Nat.pow_le_pow_right (by decide) ho)
  omega
/-- the tables of all depths are right -/
def AllD (τ : St) (n k o M : Nat) (ws os : Nat → Nat) (asked : Nat) : Prop := ∀ δ, δ < 11 → gA τ 10 δ = -1 ∨ ∃ S, gA τ 10 δ = nI S ∧ S < 2 ^ o ∧ pc S = δ ∧ DpT τ n k o M ws os asked δ S
theorem alld_new (hn : n ≤ 10) {σ τ : St} {δ1 S : Nat} (F : FrA σ τ δ1) (h : AllD σ n k o M ws os asked) (hS : S < 2 ^ o) (hp : pc S = δ1) (h10 : gA τ 10 δ1 = nI S) (D : DpT τ n k o M ws os asked δ1 S) : AllD τ n k o M ws os asked := fun δ hδ => by
  by_cases q : δ = δ1
  · rw [q]; exact Or.inr ⟨S, h10, hS, hp, D⟩
  · rw [F.2.2.2.1 δ q]
    rcases h δ hδ with z | ⟨S', z1, z2, z3, z4⟩
    · exact Or.inl z
    · exact Or.inr ⟨S', z1, z2, z3, dpt_fr hn F q z4⟩
theorem alld_at {σ : St} (ho : o ≤ 10) (h : AllD σ n k o M ws os asked) {δ S : Nat} (hδ : δ < 11) (h10 : gA σ 10 δ = nI S) (hS : S < 2 ^ 31) : S < 2 ^ o ∧ pc S = δ ∧ DpT σ n k o M ws os asked δ S := by
  rcases h δ hδ with z | ⟨S', z1, z2, z3, z4⟩
  · rw [h10] at z
    have := nI_pos hS
    rw [z] at this; exact absurd (by decide) this
  · have : S = S' := (nI_eq hS (m31 z2 ho)).mp (h10.symm.trans z1)
    rw [this]; exact ⟨z2, z3, z4⟩
theorem sub1 (x : Int32) : x - 1 = x + (-1) := Int32.sub_eq_add_neg x 1
def FrQ (σ τ : St) : Prop := FrP σ τ ∧ ∀ i, gI τ i = gI σ i
theorem FrQ.rf (σ : St) : FrQ σ σ := ⟨FrP.rf σ, fun _ => rfl⟩
theorem FrQ.tr {σ τ ρ : St} (h : FrQ σ τ) (g : FrQ τ ρ) : FrQ σ ρ := ⟨h.1.tr g.1, fun i => (g.2 i).trans (h.2 i)⟩
theorem FrQ.a {σ τ : St} {δ : Nat} (h : FrA σ τ δ) : FrQ σ τ := ⟨h.1, h.2.1⟩
theorem fillT_wp {σ : St} {post : St → Prop} (hp : ∀ τ, FrQ σ τ → gA τ 9 = gA σ 9 → gA τ 11 = gA σ 11 → (∀ x, x < 11 → gA τ 10 x = -1) → post τ) : wp_J7_fill_53178_17 (-1) σ post := by
  have i11 : (11 : Int32) = nI 11 := rfl
  unfold wp_J7_fill_53178_17
  rw [i11]
  obtain ⟨f, hf⟩ := lupE (fun f j (τ : St) => lp_J7_fill_53178_17_5 post f (-1) (nI j) (nI 11) τ) (fun j τ => FrQ σ τ ∧ gA τ 9 = gA σ 9 ∧ gA τ 11 = gA σ 11 ∧ ∀ x, x < j → gA τ 10 x = -1) 11
    (fun f τ hτ => by
      unfold lp_J7_fill_53178_17_5
      exact ⟨fun _ => hp τ hτ.1 hτ.2.1 hτ.2.2.1 hτ.2.2.2, fun q => absurd (nI_le (Nat.le_refl 11) (by decide)) q⟩)
    (fun f j τ hj hτ ih => by
      obtain ⟨t1, t2, t3, t4⟩ := hτ
      unfold lp_J7_fill_53178_17_5
      rw [nI_clamp (by omega)]
      refine ⟨fun q => absurd q (nI_ge hj (by decide)), fun _ => ⟨pk_in j 11 hj, fun τ2 e2 v hv => ?_⟩⟩
      rw [hv, nI_1]
      have ga : ∀ i x, gA τ2 i x = if i = 10 ∧ x = j then -1 else gA τ i x := fun i x => by rw [e2, gA_sA]
      refine ih τ2 ⟨t1.tr ⟨⟨fun i _ => by rw [e2, gI_sA], fun i hi => funext (fun x => by rw [ga, if_neg (fun z => by omega)]), fun i => by rw [e2, gL_sA], fun i => by rw [e2, gB_sA]⟩, fun i => by rw [e2, gI_sA]⟩, (funext fun x => by rw [ga, if_neg (fun z => absurd z.1 (by decide)), t2]), (funext fun x => by rw [ga, if_neg (fun z => absurd z.1 (by decide)), t3]), fun x hx => ?_⟩
      rw [ga]
      by_cases q : x = j
      · rw [if_pos ⟨rfl, q⟩]
      · rw [if_neg (fun z => q z.2)]; exact t4 x (by omega))
    (Nat.zero_le 11) (s := σ) ⟨FrQ.rf σ, rfl, rfl, fun x hx => absurd hx (Nat.not_lt_zero x)⟩
  rw [nI_0] at hf
  exact ⟨f, hf⟩
theorem allDo_wp {σ : St} (G : NetG n k o M Bm ws ss os) (h17 : gI σ 17 = nI n) (h19 : gI σ 19 = nI asked) (ha : asked < 2 ^ n) (D0 : DpT σ n k o M ws os asked 0 0) {post : Int32 → St → Prop}
    (hp : ∀ r τ, bz r → (r = 1 ↔ AdvP n k o M ws os asked (2 ^ o - 1)) → FrQ σ τ → AllD τ n k o M ws os asked → gA τ 10 0 = nI 0 → post r τ) : wp_X5_allOffersDo (nI o) σ post := by
  have n10 := G.1.2.1
  have o10 := G.2.1
  have hM := G.2.2.1
  unfold wp_X5_allOffersDo
  refine fillT_wp (fun σ2 F2 g9 g11 g10 => ?_)
  rw [cl0]
  refine ⟨pk_in 0 11 (by decide), fun σ3 e3 v5 hv5 => ⟨o + 1, ?_⟩⟩
  rw [hv5, sub1]
  have ga : ∀ i x, gA σ3 i x = if i = 10 ∧ x = 0 then 0 else gA σ2 i x := fun i x => by rw [e3, gA_sA]
  have F3 : FrQ σ σ3 := F2.tr ⟨⟨fun i _ => by rw [e3, gI_sA], fun i hi => funext (fun x => by rw [ga, if_neg (fun z => by omega)]), fun i => by rw [e3, gL_sA], fun i => by rw [e3, gB_sA]⟩, fun i => by rw [e3, gI_sA]⟩
  have D3 : DpT σ3 n k o M ws os asked 0 0 := by
    obtain ⟨q, C, P, b1, b2, b3, b4, b5⟩ := D0
    refine ⟨q, C, P, b1, by rw [ga, if_neg (fun z => absurd z.1 (by decide)), g11]; exact b2, b3, b4, fun r hr j hj => ?_⟩
    rw [ga, if_neg (fun z => absurd z.1 (by decide)), g9]; exact b5 r hr j hj
  have A3 : AllD σ3 n k o M ws os asked := fun δ hδ => by
    by_cases q : δ = 0
    · rw [q]
      exact Or.inr ⟨0, by rw [ga, if_pos ⟨rfl, rfl⟩, nI_0], Nat.two_pow_pos o, by decide, D3⟩
    · rw [ga, if_neg (fun z => q z.2)]; exact Or.inl (g10 δ hδ)
  have key : ∀ (m δ S : Nat) (τ : St), m ≤ o → FrQ σ τ → AllD τ n k o M ws os asked → gA τ 10 0 = nI 0 → gA τ 10 δ = nI S → δ < 11 → (∀ i, S.testBit i = true → m ≤ i ∧ i < o) → (∀ i, m ≤ i → i < o → QSp (rowsV n (rkL ws os M S k o)) (vec n (os i))) → lp_X5_allOffersDo_21 post (m + 1) (nI δ) (nI m + (-1)) τ := by
    intro m
    induction m with
    | zero =>
      intro δ S τ hm Fτ hA h0 hδ hδ2 hb hq
      unfold lp_X5_allOffersDo_21
      have e : nI 0 + (-1 : Int32) = -1 := by decide
      rw [e]
      have S31 : S < 2 ^ o := lt_of_bits (fun i hi => by
        rw [Bool.eq_false_iff]; intro z; have := (hb i z).2; omega)
      have dp := alld_at o10 hA hδ2 hδ (m31 S31 o10)
      have iff : AdvP n k o M ws os asked S ↔ AdvP n k o M ws os asked (2 ^ o - 1) := by
        constructor
        · exact adv_q hM (fun v hv => q_mem (rk_sub hM (fun i hi => by rw [Nat.testBit_two_pow_sub_one, decide_eq_true (hb i hi).2]) v hv))
        · refine adv_q hM (fun v hv => ?_)
          rcases (rk_mem hM).mp hv with z | ⟨i, i1, _, i3⟩
          · exact q_mem ((rk_mem hM).mpr (Or.inl z))
          · rw [i3]; exact hq i (Nat.zero_le i) i1
      refine ⟨fun _ => asked_wp G ((Fτ.2 17).trans h17) ((Fτ.2 19).trans h19) ha hδ2 dp.2.2 (fun z => ⟨bz_1, hp 1 τ bz_1 ⟨fun _ => iff.mp z, fun _ => rfl⟩ Fτ hA h0⟩) (fun z => ⟨bz_0, hp 0 τ bz_0 ⟨fun y => absurd y (by decide), fun y => absurd (iff.mpr y) z⟩ Fτ hA h0⟩), fun z => absurd (by decide) z⟩
    | succ m ih =>
      intro δ S τ hm Fτ hA h0 hδ hδ2 hb hq
      unfold lp_X5_allOffersDo_21
      rw [pk_m1]
      have S31 : S < 2 ^ o := lt_of_bits (fun i hi => by
        rw [Bool.eq_false_iff]; intro z; have := (hb i z).2; omega)
      have dp := alld_at o10 hA hδ2 hδ (m31 S31 o10)
      have nb : S.testBit m = false := by
        rw [Bool.eq_false_iff]; intro z; have := (hb m z).1; omega
      have dlt : δ < 10 := by rw [← dp.2.1]; exact pc_no (show m < 10 by omega) nb
      refine ⟨fun z => absurd z (nI_pos (by omega)), fun _ => takeOffer_wp G ((Fτ.2 17).trans h17) ((Fτ.2 19).trans h19) ha dlt (by omega) (fun i hi => by have := (hb i hi).1; omega) hδ dp.2.2 (fun hq2 => ⟨fun _ v hv => ?_, fun z => absurd rfl z⟩) (fun nq τ2 F2 t10 D2 => ⟨fun z => absurd z (by decide), fun _ v hv u hu => ?_⟩)⟩
      · rw [hv]
        refine ih δ S τ (by omega) Fτ hA h0 hδ hδ2 (fun i hi => by have := hb i hi; omega) (fun i h1 h2 => ?_)
        by_cases e : i = m
        · rw [e]; exact hq2
        · exact hq i (by omega) h2
      · rw [hv, hu, nI_1]
        have hb2 : ∀ i, (S ||| 2 ^ m).testBit i = true → m ≤ i ∧ i < o := fun i hi => by
          rw [Nat.testBit_or, Bool.or_eq_true, Nat.testBit_two_pow, decide_eq_true_iff] at hi
          rcases hi with z | z
          · have := hb i z; omega
          · omega
        have S2 : S ||| 2 ^ m < 2 ^ o := lt_of_bits (fun i hi => by
          rw [Bool.eq_false_iff]; intro z; have := (hb2 i z).2; omega)
        have pcS := pc_or (show m < 10 by omega) nb
        refine ih (δ + 1) (S ||| 2 ^ m) τ2 (by omega) (Fτ.tr (FrQ.a F2)) (alld_new n10 F2 hA S2 (by rw [pcS, dp.2.1]) t10 D2) (by rw [F2.2.2.2.1 0 (by omega)]; exact h0) t10 (by omega) hb2 (fun i h1 h2 => ?_)
        by_cases e : i = m
        · rw [e]
          exact q_mem ((rk_mem hM).mpr (Or.inr ⟨m, by omega, by rw [Nat.testBit_or, Nat.testBit_two_pow, decide_eq_true rfl, Bool.or_true], rfl⟩))
        · exact q_mono (hq i (by omega) h2) (rk_sub hM (fun i hi => by rw [Nat.testBit_or, hi, Bool.true_or]))
  have := key o 0 0 σ3 (Nat.le_refl o) F3 A3 (by rw [ga, if_pos ⟨rfl, rfl⟩, nI_0]) (by rw [ga, if_pos ⟨rfl, rfl⟩, nI_0]) (by decide) (fun i hi => absurd hi (by rw [Nat.zero_testBit]; decide)) (fun i h1 h2 => absurd h2 (by omega))
  rw [nI_0] at this
  exact this
theorem takeSet_wp {σ : St} (G : NetG n k o M Bm ws ss os) (h17 : gI σ 17 = nI n) (h19 : gI σ 19 = nI asked) (ha : asked < 2 ^ n) (hA : AllD σ n k o M ws os asked) {T : Nat} (hT : T < 2 ^ o) {post : Int32 → St → Prop} (h1 : T = 0 → post 1 σ)
    (hno : 0 < T → ¬ (gA σ 10 (pc (rs T)) = nI (rs T) ∧ ¬ QSp (rowsV n (rkL ws os M (rs T) k o)) (vec n (os (lo T)))) → post 0 σ) (hyes : 0 < T → ∀ τ, FrA σ τ (pc T) → gA τ 10 (pc T) = nI T → DpT τ n k o M ws os asked (pc T) T → post 1 τ) : wp_X5_takeSet (nI T) σ post := by
  have o10 := G.2.1
  have T10 : T < 1024 := Nat.lt_of_lt_of_le hT (Nat.pow_le_pow_right (by decide) o10)
  unfold wp_X5_takeSet
  have e0 : nI T = 0 ↔ T = 0 := by rw [← nI_0]; exact nI_eq (by omega) (by decide)
  rw [e0]
  refine ⟨fun q => ?_, h1⟩
  have T0 : 0 < T := by omega
  obtain ⟨a1, a2, a3, a4, a5, a6, a7⟩ := low_all T T10 T0
  have eT : nI T - 1 = nI (T - 1) := by rw [show (1 : Int32) = nI 1 from rfl, pk_sub T0]
  refine bc_wp T10 (fun v4 hv4 => ?_)
  have ev4 : v4 = nI (pc (rs T)) := by rw [hv4, a3, nI_pred]
  have p10 := pc10 (rs T)
  rw [ev4, eT, (and_or_bit _ _).1, nI_clamp (by omega)]
  refine ⟨pk_in (pc (rs T)) 11 (by omega), fun z => ?_, fun z => hno T0 (fun y => z y.1)⟩
  have e2 : nI (T - 1) &&& (nI T ^^^ (-1)) = nI (wo (T - 1) T) := and_not (T - 1) T
  rw [e2]
  refine bc_wp a7 ?_
  have z2 : gA σ 10 (pc (rs T)) = nI (rs T) := z
  have dp := alld_at o10 hA (by omega) z2 (by omega)
  have lob : T.testBit (lo T) = true := by
    have : (rs T ||| 2 ^ lo T).testBit (lo T) = T.testBit (lo T) := by rw [a1]
    rw [← this, Nat.testBit_or, Nat.testBit_two_pow, decide_eq_true rfl, Bool.or_true]
  have lt := bit_lt hT lob
  have pT := pc10 T
  refine takeOffer_wp (m := lo T) G h17 h19 ha (by omega) lt (fun i hi => a2 i (bit_lt (o := 10) (by omega) hi) hi) z2 dp.2.2 (fun hq => ⟨bz_0, hno T0 (fun y => y.2 hq)⟩) (fun nq τ F t10 D => ⟨bz_1, ?_⟩)
  rw [a1] at t10 D
  rw [← a3] at F t10 D
  exact hyes T0 τ F t10 D
theorem few_wp {σ : St} (F : NetF σ n k o M Bm ws ss os) (G : NetG n k o M Bm ws ss os) (ha : asked < 2 ^ n) {post : Int32 → St → Prop} (hp : ∀ r τ, ((¬ ∃ S, S < 2 ^ o ∧ AdvP n k o M ws os asked S) → r = -1) → (∀ O, LeastA n k o M ws os asked O → r = nI O) → FrP σ τ → post r τ) : wp_X5_fewestOffers (nI asked) σ post := by
  have n10 := G.1.2.1
  have o10 := G.2.1
  have hM := G.2.2.1
  have i11 : (11 : Int32) = nI 11 := rfl
  have lall : 2 ^ o - 1 < 2 ^ o := by have := Nat.two_pow_pos o; omega
  have o31 : 2 ^ o < 2 ^ 31 := Nat.pow_lt_pow_right (by decide) (by omega)
  unfold wp_X5_fewestOffers
  refine takeWays_wp F G (fun σ2 q C P F2 W σ3 e3 => ?_)
  obtain ⟨w1, w2, w3, w4, w5, w6, w7⟩ := W
  have F3 : FrP σ σ3 := F2.tr (by rw [e3]; exact ⟨fun i hi => by rw [gI_sI, if_neg (by omega)], fun _ _ => rfl, fun _ => rfl, fun _ => rfl⟩)
  have g17 : gI σ3 17 = nI n := by rw [e3, gI_sI, if_neg (by decide)]; exact w2
  have g19 : gI σ3 19 = nI asked := by rw [e3, gI_sI, if_pos rfl]
  have g2 : gI σ3 2 = nI o := (F3.1 2 (by decide)).trans F.2.1
  have D0 : DpT σ3 n k o M ws os asked 0 0 := by
    refine ⟨q, C, P, w1, by rw [e3, gA_sI]; exact w4, by rw [rkL_zero]; exact w5, by rw [rkL_zero]; exact w6, fun r hr => ?_⟩
    rw [show 0 * 30 + r = r by omega, e3]
    exact w7 r (by rcases hr with z | z <;> omega) (by rcases hr with z | z <;> omega)
  rw [g2]
  refine allDo_wp G g17 g19 ha D0 (fun r5 σ6 hz hr F6 A6 h60 => ⟨fun z => ⟨1, ?_⟩, fun z v8 hv8 => ?_⟩)
  · unfold lp_X5_fewestOffers_42
    have nall : ¬ AdvP n k o M ws os asked (2 ^ o - 1) := fun y => absurd (hr.mpr y) (by rw [z]; decide)
    have nno : ¬ ∃ S, S < 2 ^ o ∧ AdvP n k o M ws os asked S := fun ⟨S, s1, s2⟩ => nall (adv_q hM (fun v hv => q_mem (rk_sub hM (fun i hi => by rw [Nat.testBit_two_pow_sub_one, decide_eq_true (bit_lt s1 hi)]) v hv)) s2)
    exact ⟨fun _ => hp _ _ (fun _ => rfl) (fun O hO => absurd ⟨O, hO.1, hO.2.1⟩ nno) (F3.tr F6.1), fun y => absurd (by decide) y⟩
  · have all : AdvP n k o M ws os asked (2 ^ o - 1) := hr.mp (hz.elim (fun y => absurd y z) id)
    obtain ⟨O, hO⟩ : ∃ O, LeastA n k o M ws os asked O := by
      obtain ⟨κ, ⟨S, s1, s2, s3⟩, s4⟩ := pk_least (fun κ => ∃ S, S < 2 ^ o ∧ AdvP n k o M ws os asked S ∧ κ = pc S * 1024 + S) ⟨_, 2 ^ o - 1, lall, all, rfl⟩
      refine ⟨S, s1, s2, fun S' h1 h2 => ?_⟩
      rcases Nat.lt_or_ge (pc S' * 1024 + S') (pc S * 1024 + S) with y | y
      · exact absurd ⟨S', h1, h2, rfl⟩ (s4 _ (by omega))
      · exact y
    have uniq : ∀ O', LeastA n k o M ws os asked O' → O' = O := fun O' h' => by
      have a := hO.2.2 O' h'.1 h'.2.1
      have b := h'.2.2 O hO.1 hO.2.1
      have l1 : O < 1024 := Nat.lt_of_lt_of_le hO.1 (Nat.pow_le_pow_right (by decide) o10)
      have l2 : O' < 1024 := Nat.lt_of_lt_of_le h'.1 (Nat.pow_le_pow_right (by decide) o10)
      omega
    have hI := least_indc hM o10 hO
    have l10 : ∀ S, S < 2 ^ o → S < 1024 := fun S hS => Nat.lt_of_lt_of_le hS (Nat.pow_le_pow_right (by decide) o10)
    have O10 := l10 O hO.1
    have e8 : v8 = nI (2 ^ o) := by rw [hv8, (F6.2 2).trans g2, one_shl (by omega)]
    rw [e8, i11]
    obtain ⟨fu, hfu⟩ := lupE (fun fu t (p : Int32 × Int32 × St) => lp_X5_fewestOffers_42 post fu p.1 p.2.1 (nI (2 ^ o)) (nI t) p.2.2) (fun t p => FrQ σ3 p.2.2 ∧ AllD p.2.2 n k o M ws os asked ∧ gA p.2.2 10 0 = nI 0 ∧ (∀ A, A < t → (∀ x, A < x → x < t → pc A < pc x) → Indc n k o M ws os A → pc A < pc O → gA p.2.2 10 (pc A) = nI A) ∧ ((p.1 = -1 ∧ p.2.1 = nI 11 ∧ t ≤ O) ∨ ∃ b, p.1 = nI b ∧ p.2.1 = nI (pc b) ∧ b < t ∧ AdvP n k o M ws os asked b ∧ (O < t → b = O))) (2 ^ o)
      (fun fu p hp0 => by
        obtain ⟨x3, x4, τ⟩ := p
        obtain ⟨t1, t2, t3, t4, t5⟩ := hp0
        have t1 : FrQ σ3 τ := t1
        have t5 : (x3 = -1 ∧ x4 = nI 11 ∧ 2 ^ o ≤ O) ∨ ∃ b, x3 = nI b ∧ x4 = nI (pc b) ∧ b < 2 ^ o ∧ AdvP n k o M ws os asked b ∧ (O < 2 ^ o → b = O) := t5
        show lp_X5_fewestOffers_42 post (fu + 1) x3 x4 (nI (2 ^ o)) (nI (2 ^ o)) τ
        unfold lp_X5_fewestOffers_42
        refine ⟨fun _ => ?_, fun y => absurd (nI_le (Nat.le_refl _) o31) y⟩
        rcases t5 with ⟨_, _, h⟩ | ⟨b, h1, _, _, _, h5⟩
        · exact absurd hO.1 (by omega)
        · rw [h1, h5 hO.1]
          exact hp _ _ (fun y => absurd ⟨O, hO.1, hO.2.1⟩ y) (fun O' h' => by rw [uniq O' h']) (F3.tr t1.1))
      (fun fu t p ht hp0 ih => by
        obtain ⟨x3, x4, τ⟩ := p
        obtain ⟨t1, t2, t3, t4, t5⟩ := hp0
        have t1 : FrQ σ3 τ := t1
        have t2 : AllD τ n k o M ws os asked := t2
        have t3 : gA τ 10 0 = nI 0 := t3
        have t4 : ∀ A, A < t → (∀ x, A < x → x < t → pc A < pc x) → Indc n k o M ws os A → pc A < pc O → gA τ 10 (pc A) = nI A := t4
        have t5 : (x3 = -1 ∧ x4 = nI 11 ∧ t ≤ O) ∨ ∃ b, x3 = nI b ∧ x4 = nI (pc b) ∧ b < t ∧ AdvP n k o M ws os asked b ∧ (O < t → b = O) := t5
        have tl := l10 t ht
        have pt := pc10 t
        show lp_X5_fewestOffers_42 post (fu + 1) x3 x4 (nI (2 ^ o)) (nI t) τ
        unfold lp_X5_fewestOffers_42
        -- a set that is independent and small was made
        have chain : 0 < t → Indc n k o M ws os t → pc t ≤ pc O → gA τ 10 (pc (rs t)) = nI (rs t) ∧ ¬ QSp (rowsV n (rkL ws os M (rs t) k o)) (vec n (os (lo t))) := fun h0 hi hpc => by
          obtain ⟨a1, a2, a3, a4, a5, a6, a7⟩ := low_all t tl h0
          have ir := indc_rs tl h0 hi
          refine ⟨t4 (rs t) a5 (fun x x1 x2 => ?_) ir.1 (by omega), ir.2⟩
          have := low_gap t tl h0 (x - rs t) (by omega) (by omega)
          rw [show rs t + (x - rs t) = x by omega] at this
          exact this
        have best : ∀ b, b < t → AdvP n k o M ws os asked b → t = O → pc t < pc b := fun b hb hab e => by
          have := hO.2.2 b (by omega) hab
          rw [e]
          omega
        -- nothing is taken at t
        have skip : ∀ v, v = nI t + 1 → (Indc n k o M ws os t → pc t < pc O → gA τ 10 (pc t) = nI t) → t ≠ O → lp_X5_fewestOffers_42 post fu x3 x4 (nI (2 ^ o)) v τ := fun v hv hi hne => by
          rw [hv, nI_1]
          refine ih (x3, x4, τ) ⟨t1, t2, t3, fun A h1 h2 h3 h4 => ?_, ?_⟩
          · by_cases e : A = t
            · rw [e] at h3 h4 ⊢; exact hi h3 h4
            · exact t4 A (by omega) (fun x x1 x2 => h2 x x1 (by omega)) h3 h4
          · rcases t5 with ⟨h1, h2, h3⟩ | ⟨b, h1, h2, h3, h4, h5⟩
            · exact Or.inl ⟨h1, h2, by omega⟩
            · exact Or.inr ⟨b, h1, h2, by omega, h4, fun y => h5 (by omega)⟩
        refine ⟨fun y => absurd y (nI_ge ht o31), fun _ => bc_wp tl ⟨fun y => ?_, fun y => ?_⟩⟩
        · intro v hv
          have big : pc O ≤ pc t ∧ t ≠ O := by
            rcases t5 with ⟨h1, h2, h3⟩ | ⟨b, h1, h2, h3, h4, h5⟩
            · rw [h2, nI_leI (by decide) (by omega)] at y; omega
            · rw [h2, nI_leI (by have := pc10 b; omega) (by omega)] at y
              have := hO.2.2 b (by omega) h4
              have lb := l10 b (by omega)
              refine ⟨by omega, fun e => ?_⟩
              have := best b h3 h4 e
              omega
          exact skip v hv (fun _ h => by omega) big.2
        · -- the table of t stands at ρ
          have go : ∀ ρ, FrQ τ ρ → AllD ρ n k o M ws os asked → gA ρ 10 0 = nI 0 → (∀ δ, δ ≠ pc t → gA ρ 10 δ = gA τ 10 δ) → gA ρ 10 (pc t) = nI t → DpT ρ n k o M ws os asked (pc t) t → wp_X5_allAskedAreEmpty (nI (pc t)) ρ (fun r12 σ13 => (r12 = 0 → ∀ v15 : Int32, v15 = nI t + 1 → lp_X5_fewestOffers_42 post fu x3 x4 (nI (2 ^ o)) v15 σ13) ∧ (¬ r12 = 0 → ∀ v17 : Int32, v17 = nI t + 1 → lp_X5_fewestOffers_42 post fu (nI t) (nI (pc t)) (nI (2 ^ o)) v17 σ13)) := fun ρ r1 r2 r3 r4 r5 r6 => by
            have keep : ∀ A, A < t + 1 → (∀ x, A < x → x < t + 1 → pc A < pc x) → Indc n k o M ws os A → pc A < pc O → gA ρ 10 (pc A) = nI A := fun A h1 h2 h3 h4 => by
              by_cases e : A = t
              · rw [e]; exact r5
              · have := h2 t (by omega) (by omega)
                rw [r4 (pc A) (by omega)]
                exact t4 A (by omega) (fun x x1 x2 => h2 x x1 (by omega)) h3 h4
            refine asked_wp G ((r1.2 17).trans ((t1.2 17).trans g17)) ((r1.2 19).trans ((t1.2 19).trans g19)) ha (by omega) r6 (fun hadv => ⟨fun w => absurd w (by decide), fun _ v hv => ?_⟩) (fun nadv => ⟨fun _ v hv => ?_, fun w => absurd rfl w⟩)
            · rw [hv, nI_1]
              refine ih (nI t, nI (pc t), ρ) ⟨t1.tr r1, r2, r3, keep, Or.inr ⟨t, rfl, rfl, by omega, hadv, fun w => ?_⟩⟩
              by_cases e : t = O
              · exact e
              · exfalso
                rcases t5 with ⟨h1, h2, h3⟩ | ⟨b, h1, h2, h3, h4, h5⟩
                · omega
                · have eb := h5 (by omega)
                  rw [h2, eb, nI_leI (by have := pc10 O; omega) (by omega)] at y
                  have := hO.2.2 t ht hadv
                  omega
            · rw [hv, nI_1]
              refine ih (x3, x4, ρ) ⟨t1.tr r1, r2, r3, keep, ?_⟩
              have hne : t ≠ O := fun e => nadv (by rw [e]; exact hO.2.1)
              rcases t5 with ⟨h1, h2, h3⟩ | ⟨b, h1, h2, h3, h4, h5⟩
              · exact Or.inl ⟨h1, h2, by omega⟩
              · exact Or.inr ⟨b, h1, h2, by omega, h4, fun w => h5 (by omega)⟩
          refine takeSet_wp G ((t1.2 17).trans g17) ((t1.2 19).trans g19) ha t2 ht (fun e => ⟨fun w => absurd w (by decide), fun _ => ?_⟩) (fun h0 hn => ⟨fun _ v hv => ?_, fun w => absurd rfl w⟩) (fun h0 ρ Fρ h10 Dρ => ⟨fun w => absurd w (by decide), fun _ => ?_⟩)
          · have ep : pc t = 0 := by rw [e]; decide
            refine go τ (FrQ.rf τ) t2 t3 (fun _ _ => rfl) (by rw [ep, e]; exact t3) ?_
            rw [ep, e]
            exact (alld_at o10 t2 (by decide) t3 (by decide)).2.2
          · refine skip v hv (fun hi hlt => absurd (chain h0 hi (by omega)) hn) (fun e => hn (chain h0 (by rw [e]; exact hI) (by rw [e]; exact Nat.le_refl _)))
          · have ppos : pc t ≠ 0 := by
              have := (low_all t tl h0).2.2.1; omega
            exact go ρ (FrQ.a Fρ) (alld_new n10 Fρ t2 ht rfl h10 Dρ) (by rw [Fρ.2.2.2.1 0 (by omega)]; exact t3) (fun δ hδ => Fρ.2.2.2.1 δ hδ) h10 Dρ)
      (Nat.zero_le _) (s := ((-1 : Int32), nI 11, σ6)) ⟨F6, A6, h60, fun A hA => absurd hA (Nat.not_lt_zero A), Or.inl ⟨rfl, rfl, Nat.zero_le O⟩⟩
    have hf2 : lp_X5_fewestOffers_42 post fu (-1) (nI 11) (nI (2 ^ o)) (nI 0) σ6 := hfu
    rw [nI_0] at hf2
    exact ⟨fu, hf2⟩
end FEW
