/-! ===== Spans: takeWay, takeWays, rankOfWays, linesFromWays ===== -/
theorem sp_van {vs : List Vc} {y : Vc} {j : Nat} (hy : InSp vs y) (h : ∀ v ∈ vs, v j = 0) : y j = 0 := by
  obtain ⟨cs, h1, h2⟩ := hy
  rw [h2 j]
  clear h2
  induction cs with
  | nil => rfl
  | cons c cs ih =>
    rw [List.map_cons, List.sum_cons, ih (fun d hd => h1 d (List.mem_cons_of_mem _ hd)), h c.2 (h1 c List.mem_cons_self)]
    omega
theorem vec_out {n a j : Nat} (h : n ≤ j) : vec n a j = 0 := if_neg (by omega)
theorem vec_zero (n j : Nat) : vec n 0 j = 0 := by
  unfold vec
  rw [Nat.zero_testBit]
  by_cases q : j < n
  · rw [if_pos q]; rfl
  · rw [if_neg q]
/-- a base of rows of zeros and ones, coordinates below n -/
def SpB (n : Nat) (C : Nat → Nat) (k : Nat) (P : List Vc) : Prop := Bs k C P ∧ (∀ s, s < k → C s < n) ∧ ∀ u ∈ P, ∃ a, u = vec n a
section SP3
variable {n : Nat}
theorem spb_le {C : Nat → Nat} {k : Nat} {P : List Vc} (h : SpB n C k P) : k ≤ n := fb_holes n k C h.2.1 (fun i j hij hj => bs_inj h.1 hij hj)
theorem spb_bnd (hn : n ≤ 10) {C : Nat → Nat} {k : Nat} {P : List Vc} (h : SpB n C k P) : (-38981 ≤ DC C k P ∧ DC C k P ≤ 38981) ∧ ∀ a, (∀ j, j < n → -38981 ≤ Rd k C P (vec n a) j ∧ Rd k C P (vec n a) j ≤ 38981) ∧ ∀ j, n ≤ j → Rd k C P (vec n a) j = 0 := by
  have kn := spb_le h
  obtain ⟨B, hC, hP⟩ := h
  have p01 : ∀ u ∈ P, ∀ j, 0 ≤ u j ∧ u j ≤ 1 := fun u hu j => by obtain ⟨a, e⟩ := hP u hu; rw [e]; exact vec_01 n a j
  refine ⟨dc_small (by omega) C P B.1 (fun u hu t _ => p01 u hu _), fun a => ⟨fun j hj => ?_, fun j hj => ?_⟩⟩
  · by_cases q : k < 10
    · refine dc_small (show k + 1 ≤ 10 by omega) _ (vec n a :: P) (by simp [B.1]) (fun u hu t _ => ?_)
      rcases List.mem_cons.mp hu with e | e
      · rw [e]; exact vec_01 n a _
      · exact p01 u e _
    · obtain ⟨s, hs, e⟩ := fb_onto (n := k) (f := C) (fun i hi => by have := hC i hi; omega) (fun i j hij hj => bs_inj B hij hj) (y := j) (by omega)
      rw [← e, rd_at B.1 hs]; omega
  · refine sp_van (vs := vec n a :: P) (sp_congr (sp_add (sp_mono (rd_sp k C P (vec n a)) (fun y hy => List.mem_cons_of_mem _ hy)) (sp_mul (DC C k P) (sp_mem List.mem_cons_self))) (fun j => by omega)) (fun v hv => ?_)
    rcases List.mem_cons.mp hv with e | e
    · rw [e]; exact vec_out hj
    · obtain ⟨b, e2⟩ := hP v e
      rw [e2]; exact vec_out hj
/-- all columns empty: put together of the base -/
theorem spb_q (hn : n ≤ 10) {C : Nat → Nat} {k : Nat} {P : List Vc} (h : SpB n C k P) {a : Nat} : (∀ j, j < n → Rd k C P (vec n a) j = 0) ↔ QSp P (vec n a) :=
  ⟨fun h0 => q_rd h.1 (fun j => by
    by_cases q : j < n
    · exact h0 j q
    · exact ((spb_bnd hn h).2 a).2 j (by omega)), fun hq j _ => rd_q h.1 hq j⟩
theorem spb_more {C : Nat → Nat} {k : Nat} {P : List Vc} (h : SpB n C k P) {a c : Nat} (hc : c < n) (hne : Rd k C P (vec n a) c ≠ 0) : SpB n (cu C k c) (k + 1) (vec n a :: P) := by
  refine ⟨bs_more h.1 _ c hne, fun s hs => ?_, fun u hu => ?_⟩
  · by_cases q : s = k
    · rw [q, cu_same]; exact hc
    · rw [cu_ne _ q]; exact h.2.1 s (by omega)
  · rcases List.mem_cons.mp hu with e | e
    · exact ⟨a, e⟩
    · exact h.2.2 u e
/-- the step that clearColumn does -/
theorem clr_ok (hn : n ≤ 10) {C : Nat → Nat} {k : Nat} {P : List Vc} (h : SpB n C k P) {a b c : Nat} (hc : c < n) (hne : Rd k C P (vec n a) c ≠ 0) : (∀ j, j < n → DC C k P * Rd (k + 1) (cu C k c) (vec n a :: P) (vec n b) j = Rd k C P (vec n b) j * Rd k C P (vec n a) c - Rd k C P (vec n b) c * Rd k C P (vec n a) j) ∧ (∀ j, j < n → -2147483648 ≤ DC C k P * Rd (k + 1) (cu C k c) (vec n a :: P) (vec n b) j ∧ DC C k P * Rd (k + 1) (cu C k c) (vec n a :: P) (vec n b) j < 2147483648) ∧ ∀ j, j < n → -2147483648 ≤ Rd (k + 1) (cu C k c) (vec n a :: P) (vec n b) j ∧ Rd (k + 1) (cu C k c) (vec n a :: P) (vec n b) j < 2147483648 := by
  have b1 := spb_bnd hn h
  have b2 := spb_bnd hn (spb_more h hc hne)
  refine ⟨fun j _ => ?_, fun j hj => ?_, fun j hj => ?_⟩
  · rw [bs_step_rest h.1 (vec n a) c hne (vec n b) j, Int.mul_comm (Rd k C P (vec n a) c)]
  · have := abs_mul_le b1.1 ((b2.2 b).1 j hj)
    omega
  · have := (b2.2 b).1 j hj; omega
end SP3
section SP4
variable {n k o M Bm : Nat} {ws ss os : Nat → Nat}
theorem takeWay_wp {σ : St} (hn : n ≤ 10) (h17 : gI σ 17 = nI n) {w c q : Nat} (hw : w < 10) (hc : c < n) {C : Nat → Nat} {P : List Vc} (hB : SpB n C q P) (h18 : gI σ 18 = nI q) (hh : (gA σ 11 0).toInt = DC C q P) {g : Nat → Nat} (hR : ∀ r, w ≤ r → r < 20 + n → Rst σ n r (Rd q C P (vec n (g r)))) (hne : Rd q C P (vec n (g w)) c ≠ 0) {post : St → Prop}
    (hp : ∀ τ, FrP σ τ → gI τ 17 = nI n → gI τ 18 = nI (q + 1) → (gA τ 11 0).toInt = DC (cu C q c) (q + 1) (vec n (g w) :: P) → (∀ r, w + 1 ≤ r → r < 20 + n → Rst τ n r (Rd (q + 1) (cu C q c) (vec n (g w) :: P) (vec n (g r)))) → post τ) : wp_X5_takeWay (nI w) (nI c) σ post := by
  have i20 : (20 : Int32) = nI 20 := rfl
  unfold wp_X5_takeWay wp_X5_startOf
  rw [st_ix0]
  intro v3 hv3
  rw [hv3, nI_1]
  have hd0 : DC C q P ≠ 0 := hB.1.2.1
  exact lupE (fun fu i (τ : St) => lp_X5_takeWay_11 post fu (nI c) (nI (w * 10)) (nI i) τ) (fun i τ => w + 1 ≤ i ∧ SmS σ τ ∧ Rst τ n w (Rd q C P (vec n (g w))) ∧ (∀ r, i ≤ r → r < 20 + n → Rst τ n r (Rd q C P (vec n (g r)))) ∧ ∀ r, w + 1 ≤ r → r < i → Rst τ n r (Rd (q + 1) (cu C q c) (vec n (g w) :: P) (vec n (g r)))) (20 + n)
    (fun fu τ hτ => by
      obtain ⟨_, hS, t1, t2, t3⟩ := hτ
      unfold lp_X5_takeWay_11
      rw [hS.1 17, h17, i20, nI_add]
      refine ⟨fun _ => ?_, fun z => absurd (nI_le (Nat.le_refl _) (by omega)) z⟩
      unfold jn_X5_takeWay_53
      rw [nI_add, nI_clamp (by omega), cl0]
      refine ⟨in33 (by omega), pk_in 0 11 (by decide), fun σ1 e1 σ3 e3 => ?_⟩
      have ga : ∀ i x, gA σ3 i x = if i = 11 ∧ x = 0 then gA τ 9 (w * 10 + c) else gA τ i x := fun i x => by rw [e3, gA_sI, e1, gA_sA]
      refine hp σ3 ⟨fun i hi => ?_, fun i hi => ?_, fun i => ?_, fun i => ?_⟩ ?_ ?_ ?_ (fun r h1 h2 j hj => ?_)
      · rw [e3, gI_sI, if_neg (by omega), e1, gI_sA]; exact hS.1 i
      · funext x
        rw [ga, if_neg (fun z => by omega), hS.2.2.2 i (by omega)]
      · rw [e3, gL_sI, e1, gL_sA]; exact hS.2.1 i
      · rw [e3, gB_sI, e1, gB_sA]; exact hS.2.2.1 i
      · rw [e3, gI_sI, if_neg (by decide), e1, gI_sA, hS.1 17]; exact h17
      · rw [e3, gI_sI, if_pos rfl, e1, gI_sA, hS.1 18, h18, nI_1]
      · rw [ga, if_pos ⟨rfl, rfl⟩]; exact t1 c hc
      · rw [ga, if_neg (fun z => absurd z.1 (by decide))]; exact t3 r h1 h2 j hj)
    (fun fu i τ hi hτ ih => by
      obtain ⟨i1, hS, t1, t2, t3⟩ := hτ
      unfold lp_X5_takeWay_11 wp_X5_startOf
      rw [hS.1 17, h17, i20, nI_add, st_ix0, cl0]
      refine ⟨fun z => absurd z (nI_ge hi (by omega)), fun _ => ⟨pk_in 0 11 (by decide), ?_⟩⟩
      have ok := clr_ok hn hB (a := g w) (b := g i) hc hne
      refine clrS_wp (TI := Rd q C P (vec n (g i))) (TH := Rd q C P (vec n (g w))) (N := Rd (q + 1) (cu C q c) (vec n (g w) :: P) (vec n (g i))) hn ((hS.1 17).trans h17) (by omega) (by omega) (by omega) hc (by omega) (by rw [hS.2.2.2 11 (by decide)]; exact hh) hd0 (t2 i (Nat.le_refl i) hi) t1 ok.1 ok.2.1 ok.2.2 (fun τ2 S2 R2 v hv => ?_)
      rw [hv, nI_1]
      refine ih τ2 ⟨by omega, hS.tr S2, Rst.ne hn t1 R2 (by omega), fun r h1 h2 => Rst.ne hn (t2 r (by omega) h2) R2 (by omega), fun r h1 h2 => ?_⟩
      by_cases z : r = i
      · rw [z]; exact R2.1
      · exact Rst.ne hn (t3 r h1 (by omega)) R2 z)
    (show w + 1 ≤ 20 + n by omega) (s := σ) ⟨Nat.le_refl _, SmS.rf σ, hR w (Nat.le_refl w) (by omega), fun r h1 h2 => hR r (by omega) h2, fun r h1 h2 => absurd h2 (by omega)⟩
/-- behind takeWays: a base of the ways that are on; the rows of offers and lines -/
def SpW (τ : St) (n k o M : Nat) (ws os : Nat → Nat) (q : Nat) (C : Nat → Nat) (P : List Vc) : Prop :=
  SpB n C q P ∧ gI τ 17 = nI n ∧ gI τ 18 = nI q ∧ (gA τ 11 0).toInt = DC C q P ∧ (∀ u ∈ P, u ∈ rowsV n ((wyL M k).map ws)) ∧ (∀ v ∈ rowsV n ((wyL M k).map ws), QSp P v) ∧ ∀ r, 10 ≤ r → r < 20 + n → Rst τ n r (Rd q C P (vec n (Osr ws os k o M r)))
theorem takeWays_wp {σ : St} (F : NetF σ n k o M Bm ws ss os) (G : NetG n k o M Bm ws ss os) {post : St → Prop} (hp : ∀ τ q C P, FrP σ τ → SpW τ n k o M ws os q C P → post τ) : wp_X5_takeWays σ post := by
  have n10 := G.1.2.1
  have k10 := G.1.2.2.1
  unfold wp_X5_takeWays
  refine loadS_wp F G (fun σ2 F2 h17 hR σ3 e3 => ?_)
  rw [cl0]
  refine ⟨pk_in 0 11 (by decide), fun σ5 e5 => ?_⟩
  have F5 : FrP σ σ5 := by
    refine F2.tr ⟨fun i hi => ?_, fun i hi => ?_, fun i => ?_, fun i => ?_⟩
    · rw [e5, gI_sA, e3, gI_sI, if_neg (by omega)]
    · funext x; rw [e5, gA_sA, if_neg (fun z => by omega), e3, gA_sI]
    · rw [e5, gL_sA, e3, gL_sI]
    · rw [e5, gB_sA, e3, gB_sI]
  have r0 : ∀ a j, Rd 0 (fun _ => 0) [] (vec n a) j = vec n a j := fun a j => by
    show vec n a (cu (fun _ => 0) 0 j 0) * 1 - 0 = _
    rw [cu_same]; omega
  obtain ⟨fu, hfu⟩ := lupE (fun fu w (τ : St) => lp_X5_takeWays_19 post fu (nI w) τ) (fun w τ => FrP σ τ ∧ gI τ 17 = nI n ∧ ∃ q C P, SpB n C q P ∧ gI τ 18 = nI q ∧ (gA τ 11 0).toInt = DC C q P ∧ (∀ u ∈ P, u ∈ rowsV n ((wyL M w).map ws)) ∧ (∀ v ∈ rowsV n ((wyL M w).map ws), QSp P v) ∧ ∀ r, w ≤ r → r < 20 + n → Rst τ n r (Rd q C P (vec n (Osr ws os k o M r)))) k
    (fun fu τ hτ => by
      obtain ⟨Fτ, g17, q, C, P, b1, b2, b3, b4, b5, b6⟩ := hτ
      unfold lp_X5_takeWays_19
      rw [Fτ.1 1 (by decide), F.1.2.1]
      exact ⟨fun _ => hp τ q C P Fτ ⟨b1, g17, b2, b3, b4, b5, fun r h1 h2 => b6 r (by omega) h2⟩, fun z => absurd (nI_le (Nat.le_refl k) (by omega)) z⟩)
    (fun fu w τ hw hτ ih => by
      obtain ⟨Fτ, g17, q, C, P, b1, b2, b3, b4, b5, b6⟩ := hτ
      have ow : Osr ws os k o M w = if w < k ∧ M.testBit w = true then ws w else 0 := if_pos (by omega)
      unfold lp_X5_takeWays_19
      rw [Fτ.1 1 (by decide), F.1.2.1]
      have row := b6 w (Nat.le_refl w) (by omega)
      refine ⟨fun z => absurd z (nI_ge hw (by omega)), fun _ => ?_⟩
      rw [← nI_0]
      refine ffc_wp n10 g17 (δ := 0) (r := w) (by omega) (by rw [show 0 * 30 + w = w by omega]; exact row) (fun h0 => ⟨fun _ v hv => ?_, fun z => absurd rfl z⟩) (fun c hc hne _ => ⟨fun z => ?_, fun _ => takeWay_wp n10 g17 (by omega) hc b1 b2 b3 b6 hne (fun τ2 F2 t17 t18 t11 tR v hv => ?_)⟩)
      · rw [hv, nI_1]
        refine ih τ ⟨Fτ, g17, q, C, P, b1, b2, b3, fun u hu => ?_, fun v hv => ?_, fun r h1 h2 => b6 r (by omega) h2⟩
        · rw [wyL_succ, List.map_append]
          unfold rowsV
          rw [List.map_append]
          exact List.mem_append_left _ (b4 u hu)
        · rw [wyL_succ, List.map_append] at hv
          unfold rowsV at hv
          rw [List.map_append] at hv
          rcases List.mem_append.mp hv with e | e
          · exact b5 v e
          · by_cases z : M.testBit w = true
            · rw [if_pos z] at e
              have e2 : v = vec n (ws w) := by simpa using e
              rw [if_pos ⟨hw, z⟩] at ow
              rw [e2]
              rw [ow] at h0
              exact (spb_q n10 b1).mp h0
            · rw [if_neg z] at e
              exact absurd e (by simp)
      · have := nI_pos (n := c) (by omega)
        rw [z] at this; exact absurd (by decide) this
      · rw [hv, nI_1]
        have hb : M.testBit w = true := by
          rcases Bool.eq_false_or_eq_true (M.testBit w) with z | z
          · exact z
          · exfalso
            have : Osr ws os k o M w = 0 := by rw [ow, if_neg (by rw [z]; exact fun y => absurd y.2 (by decide))]
            rw [this] at hne
            refine hne (rd_in b1.1 (sp_congr (sp_zero P) (fun j => (vec_zero n j).symm)) c)
        have ow2 : Osr ws os k o M w = ws w := by rw [ow, if_pos ⟨hw, hb⟩]
        have mem : ∀ v, v ∈ rowsV n ((wyL M (w + 1)).map ws) ↔ v ∈ rowsV n ((wyL M w).map ws) ∨ v = vec n (ws w) := fun v => by
          rw [wyL_succ, if_pos hb, List.map_append]
          unfold rowsV
          rw [List.map_append, List.mem_append]
          simp
        have B2 := spb_more b1 hc hne
        refine ih τ2 ⟨Fτ.tr F2, t17, q + 1, cu C q c, _, B2, t18, t11, fun u hu => (mem u).mpr ?_, fun v hv => ?_, tR⟩
        · rcases List.mem_cons.mp hu with e | e
          · rw [ow2] at e; exact Or.inr e
          · exact Or.inl (b4 u e)
        · rcases (mem v).mp hv with e | e
          · exact q_mono (b5 v e) (fun x hx => List.mem_cons_of_mem _ hx)
          · rw [e, ow2]; exact q_mem List.mem_cons_self)
    (Nat.zero_le k) (s := σ5) ⟨F5, by rw [e5, gI_sA, e3, gI_sI, if_neg (by decide)]; exact h17, 0, fun _ => 0, [], ⟨bs_nil _, fun s hs => absurd hs (Nat.not_lt_zero s), fun u hu => absurd hu List.not_mem_nil⟩, by rw [e5, gI_sA, e3, gI_sI, if_pos rfl]; exact nI_0.symm, by rw [e5, gA_sA, if_pos ⟨rfl, rfl⟩]; rfl, fun u hu => absurd hu List.not_mem_nil, fun v hv => absurd hv List.not_mem_nil, fun r _ hr j hj => by
      rw [e5, gA_sA, if_neg (fun z => absurd z.1 (by decide)), e3, gA_sI, r0]
      exact hR r (by omega) j hj⟩
  rw [nI_0] at hfu
  exact ⟨fu, hfu⟩
theorem wyL_zero (a : Nat) : wyL 0 a = [] := by
  unfold wyL
  rw [List.filter_eq_nil_iff]
  intro x _
  rw [Nat.zero_testBit]; decide
theorem rkL_zero : rkL ws os M 0 k o = (wyL M k).map ws := by
  unfold rkL; rw [wyL_zero]; simp
theorem spw_rk {τ : St} {q : Nat} {C : Nat → Nat} {P : List Vc} (h : SpW τ n k o M ws os q C P) : RkB (rowsV n (rkL ws os M 0 k o)) q := by
  rw [rkL_zero]
  exact ⟨C, P, h.1.1, h.2.2.2.2.1, h.2.2.2.2.2.1⟩
theorem rankC_wp {σ : St} (F : NetF σ n k o M Bm ws ss os) (G : NetG n k o M Bm ws ss os) {post : Int32 → St → Prop} (hp : ∀ r τ, RkB (rowsV n (rkL ws os M 0 k o)) r → FrP σ τ → post (nI r) τ) : wp_X5_rankOfWays σ post :=
  takeWays_wp F G (fun τ q C P Fr W => by rw [W.2.2.1]; exact hp q τ (spw_rk W) Fr)
theorem osr_line {l : Nat} : Osr ws os k o M (20 + l) = 2 ^ l := by
  unfold Osr
  rw [if_neg (by omega), if_neg (by omega), show 20 + l - 20 = l by omega]
theorem linesC_wp {σ : St} (F : NetF σ n k o M Bm ws ss os) (G : NetG n k o M Bm ws ss os) {post : Int32 → St → Prop} (hp : ∀ S τ, S < 2 ^ n → (∀ l, l < n → (S.testBit l = true ↔ KnP n k o M ws os 0 l)) → FrP σ τ → post (nI S) τ) : wp_X5_linesFromWays σ post := by
  have n10 := G.1.2.1
  have i20 : (20 : Int32) = nI 20 := rfl
  unfold wp_X5_linesFromWays
  refine takeWays_wp F G (fun τ q C P Fr W => ?_)
  obtain ⟨w1, w2, w3, w4, w5, w6, w7⟩ := W
  have kn : ∀ l, l < n → ((∀ j, j < n → Rd q C P (vec n (2 ^ l)) j = 0) ↔ KnP n k o M ws os 0 l) := fun l hl => by
    rw [spb_q n10 w1]
    unfold KnP
    rw [rkL_zero]
    exact ⟨fun h => q_mono h w5, fun h => q_tr w6 h⟩
  obtain ⟨fu, hfu⟩ := lupE (fun fu i (x : Int32) => lp_X5_linesFromWays_9 post fu x (nI i) τ) (fun i x => ∃ S, x = nI S ∧ S < 2 ^ i ∧ ∀ l, l < i → (S.testBit l = true ↔ KnP n k o M ws os 0 l)) n
    (fun fu x hx => by
      obtain ⟨S, e, h1, h2⟩ := hx
      unfold lp_X5_linesFromWays_9
      rw [w2, e]
      exact ⟨fun _ => hp S τ h1 h2 Fr, fun z => absurd (nI_le (Nat.le_refl n) (by omega)) z⟩)
    (fun fu i x hi hx ih => by
      obtain ⟨S, e, h1, h2⟩ := hx
      unfold lp_X5_linesFromWays_9
      rw [w2, e, i20, nI_add]
      have row := w7 (20 + i) (by omega) (by omega)
      rw [osr_line] at row
      refine ⟨fun z => absurd z (nI_ge hi (by omega)), fun _ => ?_⟩
      rw [← nI_0]
      refine ffc_wp n10 w2 (δ := 0) (r := 20 + i) (by omega) (by rw [show 0 * 30 + (20 + i) = 20 + i by omega]; exact row) (fun h0 => ⟨fun z => absurd rfl z, fun _ v7 hv7 v9 hv9 => ?_⟩) (fun c hc hne _ => ⟨fun _ v hv => ?_, fun z => ?_⟩)
      · rw [hv9, nI_1]
        rw [one_shl (by omega), (and_or_bit _ _).2] at hv7
        refine ih v7 ⟨S ||| 2 ^ i, hv7, lt_of_bits (fun l hl => ?_), fun l hl => ?_⟩
        · rw [Nat.testBit_or, bits_of_lt h1 (by omega), Nat.testBit_two_pow, decide_eq_false (by omega)]; rfl
        · rw [Nat.testBit_or, Nat.testBit_two_pow, Bool.or_eq_true, decide_eq_true_iff]
          by_cases z : l = i
          · rw [z]
            exact ⟨fun _ => (kn i hi).mp h0, fun _ => Or.inr rfl⟩
          · rw [← h2 l (by omega)]
            exact ⟨fun y => y.resolve_right (fun e => z e.symm), Or.inl⟩
      · rw [hv, nI_1]
        refine ih (nI S) ⟨S, rfl, Nat.lt_of_lt_of_le h1 (Nat.pow_le_pow_right (by decide) (by omega)), fun l hl => ?_⟩
        by_cases z : l = i
        · rw [z, bits_of_lt h1 (Nat.le_refl i)]
          exact ⟨fun y => absurd y (by decide), fun y => absurd ((kn i hi).mpr y c hc) hne⟩
        · exact h2 l (by omega)
      · have := nI_pos (n := c) (by omega)
        rw [z] at this; exact absurd (by decide) this)
    (Nat.zero_le n) (s := nI 0) ⟨0, rfl, Nat.one_pos, fun l hl => absurd hl (Nat.not_lt_zero l)⟩
  rw [nI_0] at hfu
  exact ⟨fu, hfu⟩
end SP4
