/-! ===== lists of sets; sick on both sides ===== -/
noncomputable def dcb (p : Prop) : Bool := @decide p (Classical.propDecidable p)
theorem dcb_iff (p : Prop) : dcb p = true ↔ p := @decide_eq_true_iff p (Classical.propDecidable p)
theorem dcb_no {p : Prop} (h : ¬ p) : dcb p = false := by rw [Bool.eq_false_iff]; exact fun z => h ((dcb_iff p).mp z)
/-- the numbers below N with Q, rising -/
noncomputable def fl (Q : Nat → Prop) (N : Nat) : List Nat := (List.range N).filter (fun x => dcb (Q x))
theorem fl_succ (Q : Nat → Prop) (N : Nat) : fl Q (N + 1) = fl Q N ++ (if dcb (Q N) then [N] else []) := by
  unfold fl
  rw [List.range_succ, List.filter_append]
  cases h : dcb (Q N)
  · simp [h]
  · simp [h]
theorem fl_yes {Q : Nat → Prop} {N : Nat} (h : Q N) : fl Q (N + 1) = fl Q N ++ [N] := by rw [fl_succ, (dcb_iff _).mpr h]; rfl
theorem fl_no {Q : Nat → Prop} {N : Nat} (h : ¬ Q N) : fl Q (N + 1) = fl Q N := by
  rw [fl_succ, dcb_no h]; simp
theorem fl_congr {Q Q' : Nat → Prop} : ∀ {N : Nat}, (∀ x, x < N → (Q x ↔ Q' x)) → fl Q N = fl Q' N
  | 0, _ => rfl
  | N + 1, h => by
    rw [fl_succ, fl_succ, fl_congr (N := N) (fun x hx => h x (by omega))]
    have : dcb (Q N) = dcb (Q' N) := by
      rcases Classical.em (Q N) with z | z
      · rw [(dcb_iff _).mpr z, (dcb_iff _).mpr ((h N (by omega)).mp z)]
      · rw [dcb_no z, dcb_no (fun y => z ((h N (by omega)).mpr y))]
    rw [this]
theorem fl_nil {Q : Nat → Prop} : ∀ {N : Nat}, (∀ x, x < N → ¬ Q x) → fl Q N = []
  | 0, _ => rfl
  | N + 1, h => by rw [fl_no (h N (by omega)), fl_nil (N := N) (fun x hx => h x (by omega))]
theorem fl_cut {Q : Nat → Prop} {a : Nat} : ∀ (d : Nat), (∀ x, a ≤ x → x < a + d → ¬ Q x) → fl Q (a + d) = fl Q a
  | 0, _ => rfl
  | d + 1, h => by
    rw [show a + (d + 1) = (a + d) + 1 by omega, fl_no (h (a + d) (by omega) (by omega)), fl_cut d (fun x h1 h2 => h x h1 (by omega))]
theorem fl_len (Q : Nat → Prop) : ∀ N, (fl Q N).length = fb_ct (fun x => dcb (Q x)) N
  | 0 => rfl
  | N + 1 => by
    rw [fl_succ, List.length_append, fl_len Q N, fb_ct_succ]
    cases dcb (Q N) <;> rfl
theorem fl_le (Q : Nat → Prop) (N : Nat) : (fl Q N).length ≤ N := by rw [fl_len]; exact fb_ct_le _ N
theorem fl_mem {Q : Nat → Prop} {N x : Nat} : x ∈ fl Q N ↔ x < N ∧ Q x := by
  unfold fl
  rw [List.mem_filter, List.mem_range, dcb_iff]
theorem fl_empty {Q : Nat → Prop} {N : Nat} : (fl Q N).length = 0 ↔ ∀ x, x < N → ¬ Q x := by
  constructor
  · intro h x hx hq
    have := fl_mem.mpr ⟨hx, hq⟩
    rw [List.eq_nil_of_length_eq_zero h] at this
    exact absurd this List.not_mem_nil
  · intro h
    rw [fl_nil h]; rfl
/-- sets of ten of one size: 252 at most -/
theorem fl_252 {Q : Nat → Prop} {c N : Nat} (hN : N ≤ 1024) (h : ∀ x, x < N → Q x → pc x = c) : (fl Q N).length ≤ 252 := by
  rw [fl_len]
  by_cases q : c < 11
  · have a := fb_ct_sub (p := fun x => dcb (Q x)) (q := fun y => pc y == c) (n := N) (fun x hx hq => by
      have := h x hx ((dcb_iff _).mp hq)
      simp [this])
    have b := fb_ct_mono (fun y => pc y == c) hN
    have d := pc_le c q
    omega
  · have : fb_ct (fun x => dcb (Q x)) N = 0 := fb_ct_zero.mpr (fun x hx => dcb_no (fun z => by
      have := h x hx z
      have := pc10 x
      omega))
    omega
def Hld (arr : Nat → Int32) (sz : Int32) (L : List Nat) : Prop := sz = nI L.length ∧ ∀ i, i < L.length → arr i = nI (L.getD i 0)
theorem hld_snoc {arr arr' : Nat → Int32} {sz sz' : Int32} {L : List Nat} {a : Nat} (h : Hld arr sz L) (hz : sz' = sz + 1) (ha : ∀ i, arr' i = if i = L.length then nI a else arr i) : Hld arr' sz' (L ++ [a]) := by
  refine ⟨by rw [hz, h.1, nI_1, List.length_append]; rfl, fun i hi => ?_⟩
  rw [List.length_append] at hi
  have hi2 : i < L.length + 1 := hi
  rw [ha]
  by_cases q : i = L.length
  · rw [if_pos q, q, getD_last]
  · rw [if_neg q, getD_snoc (by omega)]; exact h.2 i (by omega)
theorem hld_nil (arr : Nat → Int32) : Hld arr 0 [] := ⟨nI_0.symm, fun i hi => absurd hi (Nat.not_lt_zero i)⟩
/-- what an answer of a list says -/
def AnsL (L : List Nat) (x r : Int32) : Prop := (x = -1 → r = nI L.length) ∧ (¬ x = -1 → (∀ i, i < L.length → x = nI i → r = nI (L.getD i 0)) ∧ ((¬ ∃ i, i < L.length ∧ x = nI i) → r = -102))
theorem ansL_one {L : List Nat} {x r r' : Int32} (h : AnsL L x r) (h' : AnsL L x r') : r = r' := by
  by_cases q : x = -1
  · rw [h.1 q, h'.1 q]
  · by_cases z : ∃ i, i < L.length ∧ x = nI i
    · obtain ⟨i, hi, e⟩ := z
      rw [(h.2 q).1 i hi e, (h'.2 q).1 i hi e]
    · rw [(h.2 q).2 z, (h'.2 q).2 z]
theorem ans20_wp {σ : St} {L : List Nat} (hL : L.length ≤ 252) (h : Hld (gA σ 8) (gI σ 16) L) {x : Int32} {post : Int32 → St → Prop} (hp : ∀ r, AnsL L x r → post r σ) : wp_X3_answer_20 x σ post := by
  unfold wp_X3_answer_20
  rw [h.1]
  refine ⟨fun q => ?_, fun q => hp _ ⟨fun _ => rfl, fun z => absurd q z⟩⟩
  have out : (¬ ∃ i, i < L.length ∧ x = nI i) → post (-102) σ := fun z => hp _ ⟨fun y => absurd y q, fun _ => ⟨fun i hi e => absurd ⟨i, hi, e⟩ z, fun _ => rfl⟩⟩
  rcases pk_ix x (show L.length < 2 ^ 31 by omega) with z | z | ⟨i, hi, e⟩
  · exact ⟨fun _ => out (fun ⟨i, hi, e⟩ => by rw [e] at z; exact nI_pos (by omega) z), fun y => absurd z y⟩
  · have o : post (-102) σ := out (fun ⟨i, hi, e⟩ => by rw [e] at z; exact nI_ge hi (by omega) z)
    exact ⟨fun _ => o, fun _ => ⟨fun _ => o, fun y => absurd z y⟩⟩
  · refine ⟨fun y => absurd y (by rw [e]; exact nI_pos (by omega)), fun _ => ⟨fun y => absurd y (by rw [e]; exact nI_ge hi (by omega)), fun _ => ?_⟩⟩
    rw [e, nI_clamp (by omega), h.2 i hi]
    refine ⟨pk_in i 252 (by omega), hp _ ⟨fun y => absurd y q, fun _ => ⟨fun i2 hi2 e2 => ?_, fun y => absurd ⟨i, hi, e⟩ y⟩⟩⟩
    rw [(nI_eq (by omega) (by omega)).mp (e2.symm.trans e)]
theorem ans11_wp {σ : St} {L : List Nat} (hL : L.length ≤ 252) (h : Hld (gA σ 6) (gI σ 14) L) {x : Int32} {post : Int32 → St → Prop} (hp : ∀ r, AnsL L x r → post r σ) : wp_X3_answer_11 x σ post := by
  unfold wp_X3_answer_11
  rw [h.1]
  refine ⟨fun q => ?_, fun q => hp _ ⟨fun _ => rfl, fun z => absurd q z⟩⟩
  have out : (¬ ∃ i, i < L.length ∧ x = nI i) → post (-102) σ := fun z => hp _ ⟨fun y => absurd y q, fun _ => ⟨fun i hi e => absurd ⟨i, hi, e⟩ z, fun _ => rfl⟩⟩
  rcases pk_ix x (show L.length < 2 ^ 31 by omega) with z | z | ⟨i, hi, e⟩
  · exact ⟨fun _ => out (fun ⟨i, hi, e⟩ => by rw [e] at z; exact nI_pos (by omega) z), fun y => absurd z y⟩
  · have o : post (-102) σ := out (fun ⟨i, hi, e⟩ => by rw [e] at z; exact nI_ge hi (by omega) z)
    exact ⟨fun _ => o, fun _ => ⟨fun _ => o, fun y => absurd z y⟩⟩
  · refine ⟨fun y => absurd y (by rw [e]; exact nI_pos (by omega)), fun _ => ⟨fun y => absurd y (by rw [e]; exact nI_ge hi (by omega)), fun _ => ?_⟩⟩
    rw [e, nI_clamp (by omega), h.2 i hi]
    refine ⟨pk_in i 252 (by omega), hp _ ⟨fun y => absurd y q, fun _ => ⟨fun i2 hi2 e2 => ?_, fun y => absurd ⟨i, hi, e⟩ y⟩⟩⟩
    rw [(nI_eq (by omega) (by omega)).mp (e2.symm.trans e)]
theorem ansM_wp {σ : St} {L : List Nat} (hL : L.length ≤ 1024) (h : Hld (gA σ 6) (gI σ 4) L) {x : Int32} {post : Int32 → St → Prop} (hp : ∀ r, AnsL L x r → post r σ) : wp_X7_foundAt x σ post := by
  unfold wp_X7_foundAt
  refine ⟨fun q => ?_, fun q => by rw [h.1]; exact hp _ ⟨fun _ => rfl, fun z => absurd q z⟩⟩
  refine inA_wp h.1 (by omega) (fun z => ⟨fun _ => hp _ ⟨fun y => absurd y q, fun _ => ⟨fun i hi e => absurd ⟨i, hi, e⟩ z, fun _ => rfl⟩⟩, fun y => absurd rfl y⟩) (fun i hi e => ⟨fun y => absurd y (by decide), fun _ => ?_⟩)
  rw [e, nI_clamp (by omega), h.2 i hi]
  refine ⟨pk_in i 1024 (by omega), hp _ ⟨fun y => absurd y q, fun _ => ⟨fun i2 hi2 e2 => ?_, fun y => absurd ⟨i, hi, e⟩ y⟩⟩⟩
  rw [(nI_eq (by omega) (by omega)).mp (e2.symm.trans e)]
section SCK
variable {n k o M Bm : Nat} {ws ss os : Nat → Nat}
/-- the lines S explain what is bad -/
def ExP (k M Bm : Nat) (ws : Nat → Nat) (S : Nat) : Prop := ∀ w, w < k → M.testBit w = true → (Bm.testBit w = true ↔ ws w &&& S ≠ 0)
/-- least among those below N with P -/
def Lst (P : Nat → Prop) (N S : Nat) : Prop := P S ∧ ∀ S', S' < N → P S' → pc S ≤ pc S'
theorem lst_252 {P : Nat → Prop} {N : Nat} (hN : N ≤ 1024) : (fl (Lst P N) N).length ≤ 252 := by
  rcases Classical.em (∃ S, S < N ∧ Lst P N S) with ⟨S, s1, s2⟩ | q
  · exact fl_252 (c := pc S) hN (fun x hx hq => by
      have a := s2.2 x hx hq.1
      have b := hq.2 S s1 s2.1
      omega)
  · rw [fl_nil (fun x hx hq => q ⟨x, hx, hq⟩)]; decide
theorem explains_wp {σ : St} (F : NetM σ n k o M Bm ws ss os) (G : NetG n k o M Bm ws ss os) {S : Nat} (hS : S < 2 ^ n) {post : Int32 → St → Prop} (hp : ∀ r, ((ExP k M Bm ws S → r = 1) ∧ (¬ ExP k M Bm ws S → r = 0)) → post r σ) : wp_X7_explains (nI S) σ post := by
  obtain ⟨a1, a2, a3, a4, a5, a6, a7, a8⟩ := F
  have n10 := G.1.2.1
  have k10 := G.1.2.2.1
  unfold wp_X7_explains
  obtain ⟨f, hf⟩ := lupE (fun f w (x : Int32) => lp_X7_explains_4 post f (nI S) x (nI w) σ) (fun w x => bz x ∧ (x = 1 ↔ ∀ u, u < w → M.testBit u = true → (Bm.testBit u = true ↔ ws u &&& S ≠ 0))) k
    (fun f x hx => by
      unfold lp_X7_explains_4
      rw [a2]
      refine ⟨fun _ => ⟨hx.1, hp x ⟨fun z => hx.2.mpr z, fun z => ?_⟩⟩, fun q => absurd (nI_le (Nat.le_refl k) (by omega)) q⟩
      rcases hx.1 with e | e
      · exact e
      · exact absurd (hx.2.mp e) z)
    (fun f w x hw hx ih => by
      obtain ⟨x1, x2⟩ := hx
      have zero : ∀ v, v = nI w + 1 → (¬ ∀ u, u < w + 1 → M.testBit u = true → (Bm.testBit u = true ↔ ws u &&& S ≠ 0)) → lp_X7_explains_4 post f (nI S) 0 v σ := fun v hv hn => by
        rw [hv, nI_1]
        exact ih 0 ⟨bz_0, fun z => absurd z (by decide), fun z => absurd z hn⟩
      have one : ∀ v, v = nI w + 1 → (∀ u, u < w + 1 → M.testBit u = true → (Bm.testBit u = true ↔ ws u &&& S ≠ 0)) → lp_X7_explains_4 post f (nI S) 1 v σ := fun v hv hn => by
        rw [hv, nI_1]
        exact ih 1 ⟨bz_1, fun _ => hn, fun _ => rfl⟩
      have lw : ws w &&& S < 2 ^ 31 := m31 (lt_of_bits (fun i hi => by rw [Nat.testBit_and, bits_of_lt hS hi, Bool.and_false])) n10
      have ez : nI (ws w &&& S) = 0 ↔ ws w &&& S = 0 := by rw [← nI_0]; exact nI_eq lw (by decide)
      unfold lp_X7_explains_4
      rw [a2, nI_clamp (show w < 2 ^ 31 by omega), a6 w hw, a4 w hw, a7 w hw, (and_or_bit _ _).1, ez]
      refine ⟨fun q => absurd q (nI_ge hw (by omega)), fun _ => ⟨fun q v hv => zero v hv (fun z => ?_), fun q => ⟨idx10 (by omega), fun z v hv => one v hv (fun u hu hb => ?_), fun z => ⟨idx10 (by omega), idx10 (by omega), fun y => ?_, fun y => ?_⟩⟩⟩⟩
      · have := x2.mpr (fun u hu hb => z u (by omega) hb)
        rw [q] at this; exact absurd this (by decide)
      · by_cases e : u = w
        · rw [e, (bit_0 _).mp z] at hb; cases hb
        · exact x2.mp (x1.elim (fun y => absurd y q) id) u (by omega) hb
      · have prev := x2.mp (x1.elim (fun y => absurd y q) id)
        unfold jn_X7_explains_47
        rw [bit_0]
        refine ⟨fun w2 v hv => zero v hv (fun h => ?_), fun w2 v hv => one v hv (fun u hu hb => ?_)⟩
        · have hB : Bm.testBit w = true := by cases e : Bm.testBit w with
            | true => rfl
            | false => exact absurd e w2
          exact (h w (by omega) ((bit_ne0 _).mp z)).mp hB y
        · by_cases e : u = w
          · rw [e, w2]; exact ⟨fun h => absurd h (by decide), fun h => absurd y h⟩
          · exact prev u (by omega) hb
      · have prev := x2.mp (x1.elim (fun y => absurd y q) id)
        unfold jn_X7_explains_47
        rw [bit_1]
        refine ⟨fun w2 v hv => zero v hv (fun h => w2 ((h w (by omega) ((bit_ne0 _).mp z)).mpr y)), fun w2 v hv => one v hv (fun u hu hb => ?_)⟩
        by_cases e : u = w
        · rw [e]; exact ⟨fun _ => y, fun _ => w2⟩
        · exact prev u (by omega) hb)
    (Nat.zero_le k) (s := 1) ⟨bz_1, fun _ u hu => absurd hu (Nat.not_lt_zero u), fun _ => rfl⟩
  rw [nI_0] at hf
  exact ⟨f, hf⟩
/-- what stays over the reference's sick, lying -/
def FrN (σ τ : St) : Prop := (∀ i, i < 3 → gI τ i = gI σ i) ∧ ∀ i, i < 5 → gA τ i = gA σ i
theorem netM_frN {σ τ : St} (h : NetM σ n k o M Bm ws ss os) (f : FrN σ τ) : NetM τ n k o M Bm ws ss os := netM_fr h f
theorem put6 {σ σ14 σ16 : St} {L : List Nat} {t : Nat} (h : Hld (gA σ 6) (gI σ 4) L) (hL : L.length < 1024) (e14 : σ14 = sA σ 6 (Int32.toNatClampNeg (gI σ 4)) (nI t)) (e16 : σ16 = sI σ14 4 (gI σ14 4 + 1)) : Hld (gA σ16 6) (gI σ16 4) (L ++ [t]) ∧ (∀ i, i ≠ 4 → gI σ16 i = gI σ i) ∧ ∀ i, i ≠ 6 → gA σ16 i = gA σ i := by
  rw [h.1, nI_clamp (by omega)] at e14
  refine ⟨hld_snoc h (by rw [e16, gI_sI, if_pos rfl, e14, gI_sA]) (fun i => ?_), fun i hi => ?_, fun i hi => ?_⟩
  · rw [e16, gA_sI, e14, gA_sA]
    by_cases q : i = L.length
    · rw [if_pos ⟨rfl, q⟩, if_pos q]
    · rw [if_neg (fun z => q z.2), if_neg q]
  · rw [e16, gI_sI, if_neg hi, e14, gI_sA]
  · funext x
    rw [e16, gA_sI, e14, gA_sA, if_neg (fun z => hi z.1)]
theorem lst_eq {P : Nat → Prop} {N c : Nat} (h0 : ∀ S, S < N → P S → c ≤ pc S) (h1 : ∃ S, S < N ∧ P S ∧ pc S = c) : fl (fun S => P S ∧ pc S = c) N = fl (Lst P N) N := by
  obtain ⟨S0, s1, s2, s3⟩ := h1
  refine fl_congr (fun S hS => ⟨fun ⟨a, b⟩ => ⟨a, fun S' h1 h2 => by rw [b]; exact h0 S' h1 h2⟩, fun ⟨a, b⟩ => ⟨a, ?_⟩⟩)
  have := b S0 s1 s2
  have := h0 S hS a
  omega
theorem sickM_wp {σ : St} (F : NetM σ n k o M Bm ws ss os) (G : NetG n k o M Bm ws ss os) {x : Int32} {post : Int32 → St → Prop} (hp : ∀ r τ, AnsL (fl (Lst (ExP k M Bm ws) (2 ^ n)) (2 ^ n)) x r → FrM σ τ → post r τ) : wp_X7_sick x σ post := by
  have n10 := G.1.2.1
  have n31 : 2 ^ n < 2 ^ 31 := Nat.pow_lt_pow_right (by decide) (by omega)
  have nk : 2 ^ n ≤ 1024 := Nat.pow_le_pow_right (by decide) n10
  unfold wp_X7_sick
  intro σ1 e1
  have F1 : FrM σ σ1 := by rw [e1]; exact ⟨fun i hi => by rw [gI_sI, if_neg (by omega)], fun _ _ => rfl⟩
  have fin : ∀ τ, FrM σ τ → Hld (gA τ 6) (gI τ 4) (fl (Lst (ExP k M Bm ws) (2 ^ n)) (2 ^ n)) → wp_X7_foundAt x τ (fun r σ3 => post r σ3) := fun τ hF hH => ansM_wp (Nat.le_trans (fl_le _ _) nk) hH (fun r hr => hp r τ hr hF)
  obtain ⟨f, hf⟩ := lupE (fun f c (τ : St) => lp_X7_sick_7 post f x (nI c) τ) (fun c τ => FrM σ τ ∧ ((Hld (gA τ 6) (gI τ 4) [] ∧ ∀ S, S < 2 ^ n → ExP k M Bm ws S → c ≤ pc S) ∨ (¬ gI τ 4 = 0 ∧ Hld (gA τ 6) (gI τ 4) (fl (Lst (ExP k M Bm ws) (2 ^ n)) (2 ^ n))))) (n + 1)
    (fun f τ hτ => by
      obtain ⟨t1, t2⟩ := hτ
      unfold lp_X7_sick_7
      rw [(t1.1 0 (by decide)).trans F.1]
      refine ⟨fun _ => fin τ t1 ?_, fun q => absurd (nI_lt (Nat.lt_succ_self n) (by omega)) q⟩
      rcases t2 with ⟨a, b⟩ | ⟨_, a⟩
      · rw [fl_nil (fun S hS hq => by have := b S hS hq.1; have := pc_lt hS; omega)]; exact a
      · exact a)
    (fun f c τ hc hτ ih => by
      obtain ⟨t1, t2⟩ := hτ
      unfold lp_X7_sick_7
      rw [(t1.1 0 (by decide)).trans F.1]
      refine ⟨fun q => absurd q (nI_nlt (show c ≤ n by omega) (by omega)), fun _ => ⟨fun q => fin τ t1 ?_, fun q => ?_⟩⟩
      · rcases t2 with ⟨a, _⟩ | ⟨_, a⟩
        · exact absurd (by rw [a.1]; exact nI_0) q
        · exact a
      · rcases t2 with ⟨a, b⟩ | ⟨a, _⟩
        · obtain ⟨g, hg⟩ := lupE (fun g t (ρ : St) => lp_X7_sick_24 post (lp_X7_sick_7 post f) g x (nI c) (nI t) ρ) (fun t ρ => FrM σ ρ ∧ Hld (gA ρ 6) (gI ρ 4) (fl (fun S => ExP k M Bm ws S ∧ pc S = c) t)) (2 ^ n)
            (fun g ρ hρ => by
              unfold lp_X7_sick_24
              rw [(hρ.1.1 0 (by decide)).trans F.1, one_shl (by omega)]
              refine ⟨fun _ v hv => ?_, fun z => absurd (nI_le (Nat.le_refl _) n31) z⟩
              rw [hv, nI_1]
              refine ih ρ ⟨hρ.1, ?_⟩
              rcases Classical.em (∃ S, S < 2 ^ n ∧ ExP k M Bm ws S ∧ pc S = c) with z | z
              · have e := lst_eq b z
                refine Or.inr ⟨fun y => ?_, by rw [← e]; exact hρ.2⟩
                rw [hρ.2.1] at y
                have ll := fl_le (fun S => ExP k M Bm ws S ∧ pc S = c) (2 ^ n)
                have := (nI_eq (show (fl (fun S => ExP k M Bm ws S ∧ pc S = c) (2 ^ n)).length < 2 ^ 31 by omega) (show 0 < 2 ^ 31 by decide)).mp (y.trans nI_0.symm)
                obtain ⟨S, s1, s2⟩ := z
                exact fl_empty.mp this S s1 s2
              · refine Or.inl ⟨?_, fun S hS hE => ?_⟩
                · have := hρ.2
                  rw [fl_nil (fun S hS hq => z ⟨S, hS, hq⟩)] at this; exact this
                · have := b S hS hE
                  rcases Nat.lt_or_ge c (pc S) with y | y
                  · omega
                  · exact absurd ⟨S, hS, hE, by omega⟩ z)
            (fun g t ρ ht hρ ih2 => by
              have l10 : t < 1024 := by omega
              have pt := pc10 t
              have skip : ¬ (ExP k M Bm ws t ∧ pc t = c) → ∀ v, v = nI t + 1 → lp_X7_sick_24 post (lp_X7_sick_7 post f) g x (nI c) v ρ := fun hn v hv => by
                rw [hv, nI_1]
                exact ih2 ρ ⟨hρ.1, by rw [fl_no hn]; exact hρ.2⟩
              unfold lp_X7_sick_24
              rw [(hρ.1.1 0 (by decide)).trans F.1, one_shl (by omega)]
              refine ⟨fun z => absurd z (nI_ge ht n31), fun _ => bits_wp l10 ⟨fun z => skip (fun y => z (by rw [y.2])), fun z => explains_wp (netM_fr F hρ.1) G ht (fun r hr => ⟨fun y => skip (fun w => absurd (hr.1 w.1) (by rw [y]; decide)), fun y => ?_⟩)⟩⟩
              have e := (nI_eq (show pc t < 2 ^ 31 by omega) (show c < 2 ^ 31 by omega)).mp z
              have ex : ExP k M Bm ws t := Classical.not_not.mp (fun w => y (hr.2 w))
              have ll := fl_le (fun S => ExP k M Bm ws S ∧ pc S = c) t
              refine ⟨by rw [hρ.2.1]; exact pk_in _ 1024 (show (fl (fun S => ExP k M Bm ws S ∧ pc S = c) t).length < 1024 by omega), fun σ14 e14 σ16 e16 v hv => ?_⟩
              obtain ⟨p1, p2, p3⟩ := put6 hρ.2 (by omega) e14 e16
              rw [hv, nI_1]
              refine ih2 σ16 ⟨hρ.1.tr ⟨fun i hi => p2 i (by omega), fun i hi => p3 i (by omega)⟩, ?_⟩
              rw [fl_yes ⟨ex, e⟩]; exact p1)
            (Nat.zero_le _) (s := τ) ⟨t1, a⟩
          rw [nI_0] at hg
          exact ⟨g, hg⟩
        · exact absurd q a)
    (Nat.zero_le _) (s := σ1) ⟨F1, Or.inl ⟨by rw [e1]; exact ⟨by rw [gI_sI, if_pos rfl]; exact nI_0.symm, fun i hi => absurd hi (Nat.not_lt_zero i)⟩, fun S _ _ => Nat.zero_le _⟩⟩
  rw [nI_0] at hf
  exact ⟨f, hf⟩
end SCK
