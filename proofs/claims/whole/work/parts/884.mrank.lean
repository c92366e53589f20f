/-! ===== rank, and what is known ===== -/
theorem rd_add {k : Nat} {C : Nat → Nat} {P : List Vc} (B : Bs k C P) (f g : Vc) (j : Nat) : Rd k C P (fun i => f i + g i) j = Rd k C P f j + Rd k C P g j := by
  have e1 := rd_id B f j
  have e2 := rd_id B g j
  have e3 : DC C k P * (f j + g j) = sg (fun s => (f (C s) + g (C s)) * DC (cu C s j) k P) k + Rd k C P (fun i => f i + g i) j := rd_id B (fun i => f i + g i) j
  rw [sg_congr (g := fun s => f (C s) * DC (cu C s j) k P + g (C s) * DC (cu C s j) k P) (fun s _ => Int.add_mul _ _ _), sg_add, Int.mul_add] at e3
  omega
theorem rd_sp0 {k : Nat} {C : Nat → Nat} {P vs : List Vc} (B : Bs k C P) {j : Nat} (h : ∀ v ∈ vs, Rd k C P v j = 0) {y : Vc} (hy : InSp vs y) : Rd k C P y j = 0 := by
  obtain ⟨cs, h1, h2⟩ := hy
  have : y = fun j => (cs.map (fun c => c.1 * c.2 j)).sum := funext h2
  rw [this]
  clear h2 this
  induction cs with
  | nil =>
    have e : (fun j => (([] : List (Int × Vc)).map (fun c => c.1 * c.2 j)).sum) = (fun _ : Nat => (0 : Int)) := funext (fun j => by simp)
    rw [e]
    exact rd_in B (sp_zero P) j
  | cons c cs ih =>
    have e : (fun j => ((c :: cs).map (fun c => c.1 * c.2 j)).sum) = fun j => c.1 * c.2 j + (cs.map (fun c => c.1 * c.2 j)).sum := funext (fun j => by rw [List.map_cons, List.sum_cons])
    rw [e, rd_add B (fun j => c.1 * c.2 j) (fun j => (cs.map (fun c => c.1 * c.2 j)).sum), rd_mul B, h c.2 (h1 c List.mem_cons_self), ih (fun d hd => h1 d (List.mem_cons_of_mem _ hd))]
    omega
/-- a base of what is put together of vs: r vectors -/
def RkB (vs : List Vc) (r : Nat) : Prop := ∃ C P, Bs r C P ∧ (∀ u ∈ P, u ∈ vs) ∧ ∀ v ∈ vs, QSp P v
theorem rk_one {vs : List Vc} {r r' : Nat} (h : RkB vs r) (h' : RkB vs r') : r = r' := by
  obtain ⟨C, P, B, h1, h2⟩ := h
  obtain ⟨C', P', B', h1', h2'⟩ := h'
  have a := dim_q B B' (fun v hv => h2' v (h1 v hv))
  have b := dim_q B' B (fun v hv => h2 v (h1' v hv))
  omega
theorem rk_same {vs ws : List Vc} {r : Nat} (h : RkB vs r) (h1 : ∀ v ∈ vs, v ∈ ws) (h2 : ∀ v ∈ ws, QSp vs v) : RkB ws r := by
  obtain ⟨C, P, B, p1, p2⟩ := h
  exact ⟨C, P, B, fun u hu => h1 u (p1 u hu), fun v hv => q_tr p2 (h2 v hv)⟩
theorem rk_known {vs ws : List Vc} {e : Vc} (hm : ∀ v, v ∈ ws ↔ v ∈ vs ∨ v = e) {r r' : Nat} (h : RkB vs r) (h' : RkB ws r') : r' = r ↔ QSp vs e := by
  obtain ⟨C, P, B, h1, h2⟩ := h
  obtain ⟨C', P', B', h1', h2'⟩ := h'
  have a := dim_q B B' (fun v hv => h2' v ((hm v).mpr (Or.inl (h1 v hv))))
  constructor
  · intro er
    rcases Classical.em (QSp vs e) with q | q
    · exact q
    · exfalso
      have nq : ¬ QSp P e := fun z => q (q_mono z h1)
      have : ∃ j, Rd r C P e j ≠ 0 := by
        rcases Classical.em (∃ j, Rd r C P e j ≠ 0) with z | z
        · exact z
        · exact absurd (q_rd B (fun j => by
            rcases Classical.em (Rd r C P e j = 0) with y | y
            · exact y
            · exact absurd ⟨j, y⟩ z)) nq
      obtain ⟨j, hj⟩ := this
      have b := dim_q (bs_more B e j hj) B' (fun v hv => by
        rcases List.mem_cons.mp hv with z | z
        · exact h2' v ((hm v).mpr (Or.inr z))
        · exact h2' v ((hm v).mpr (Or.inl (h1 v z))))
      omega
  · intro hq
    have b := dim_q B' B (fun v hv => by
      rcases (hm v).mp (h1' v hv) with z | z
      · exact h2 v z
      · rw [z]; exact q_tr h2 hq)
    omega
/-- a set of lines as a row -/
def vec (n s : Nat) : Vc := fun j => if j < n then (if s.testBit j then 1 else 0) else 0
theorem vec_01 (n s j : Nat) : 0 ≤ vec n s j ∧ vec n s j ≤ 1 := by
  unfold vec
  by_cases q : j < n
  · rw [if_pos q]
    by_cases z : s.testBit j = true
    · rw [if_pos z]; omega
    · rw [if_neg z]; omega
  · rw [if_neg q]; omega
/-- the reference's rows stand for the sets of a list -/
def Rws (σ : St) (n : Nat) (L : List Nat) : Prop := gI σ 3 = nI L.length ∧ Rw σ L.length n (fun t => vec n (L.getD t 0))
theorem getD_snoc {L : List Nat} {a t : Nat} (ht : t < L.length) : (L ++ [a]).getD t 0 = L.getD t 0 := by
  rw [List.getD_eq_getElem?_getD, List.getD_eq_getElem?_getD, List.getElem?_append_left ht]
theorem getD_last {L : List Nat} {a : Nat} : (L ++ [a]).getD L.length 0 = a := by
  rw [List.getD_eq_getElem?_getD, List.getElem?_append_right (Nat.le_refl _), Nat.sub_self]; rfl
section RNK
variable {n k o M Bm : Nat} {ws ss os : Nat → Nat}
theorem addRow_wp {σ : St} (hn : n ≤ 10) (h0 : gI σ 0 = nI n) {L : List Nat} (hL : L.length < 25) (H : Rws σ n L) {a : Nat} (ha : a < 2 ^ 31) {post : St → Prop} (hp : ∀ τ, Rws τ n (L ++ [a]) → FrD σ τ → post τ) : wp_X7_addRow (nI a) σ post := by
  obtain ⟨h3, hT⟩ := H
  obtain ⟨f, hf⟩ := lupE (fun f j (τ : St) => lp_X7_addRow_2 post f (nI a) (nI j) τ) (fun j τ => SameB σ τ ∧ RowB σ τ 32 L.length j (vec n a)) n
    (fun f τ hτ => by
      obtain ⟨hS, hB⟩ := hτ
      unfold lp_X7_addRow_2
      rw [hS.1 0, h0]
      refine ⟨fun _ τ2 e2 => hp τ2 ⟨?_, fun t j ht hj => ?_⟩ ⟨fun i hi => ?_, fun i _ => ?_⟩, fun q => absurd (nI_le (Nat.le_refl n) (by omega)) q⟩
      · rw [e2, gI_sI, if_pos rfl, hS.1 3, h3, nI_1, List.length_append]; rfl
      · rw [List.length_append] at ht
        have ht2 : t < L.length + 1 := ht
        rw [e2, gB_sI]
        show (gB τ 0 (t * 32 + j)).toInt = vec n ((L ++ [a]).getD t 0) j
        by_cases q : t = L.length
        · rw [q, getD_last]; exact hB.1 j hj
        · rw [getD_snoc (by omega), hB.2 _ (fun l hl => row_ne (by omega) (by omega) (fun y => q y.symm))]
          exact hT t j (by omega) hj
      · rw [e2, gI_sI, if_neg hi]; exact hS.1 i
      · rw [e2, gA_sI]; exact hS.2.2.1 i)
    (fun f j τ hj hτ ih => by
      obtain ⟨hS, hB⟩ := hτ
      unfold lp_X7_addRow_2
      rw [hS.1 0, h0, hS.1 3, h3, ix32, nI_clamp (by omega), bit_at ha (by omega)]
      refine ⟨fun q => absurd q (nI_ge hj (by omega)), fun _ => ⟨in800 (by omega), fun τ2 e2 v hv => ?_⟩⟩
      rw [hv, nI_1]
      refine ih τ2 ⟨by rw [e2]; exact hS.tr (SameB.put _ _ _), by
        rw [e2]
        refine hB.step ?_
        rw [bit_i64]
        unfold vec
        rw [if_pos hj]⟩)
    (Nat.zero_le n) (s := σ) ⟨SameB.rf σ, fun j hj => absurd hj (Nat.not_lt_zero j), fun x _ => rfl⟩
  rw [nI_0] at hf
  exact ⟨f, hf⟩
/-- numbers of the table stay small -/
theorem rk_bnd (hn : n ≤ 10) {R r : Nat} {C : Nat → Nat} {P : List Vc} {z O : Nat → Vc} {d : Int} {T : Nat → Nat → Int} (J : GJ R r C P z d T) (V : Cov R r P z O) (hO : ∀ t j, t < R → 0 ≤ O t j ∧ O t j ≤ 1) (hC : ∀ s, s < r → C s < n) : ∀ i j, i < R → j < n → -38981 ≤ T i j ∧ T i j ≤ 38981 := by
  have h01 : ∀ j, Z01 R P z j := fun j => cov_01 V (fun t ht => hO t j ht)
  have rn : r ≤ n := fb_holes n r C hC (fun i j hij hj => bs_inj J.1 hij hj)
  intro i j hi hj
  by_cases q : r < 10
  · exact (gj_small J (by omega) (fun _ => q) (fun s _ => h01 _)).2 j (h01 j) i hi
  · obtain ⟨B, hd, hb, hr⟩ := J
    by_cases w : i < r
    · rw [hb i w]
      refine dc_small (by omega) _ P B.1 (fun u hu t ht => ?_)
      by_cases e : t = i
      · rw [e, cu_same]; exact (h01 j).1 u hu
      · rw [cu_ne _ e]; exact (h01 _).1 u hu
    · rw [hr i (by omega) hi]
      have en : r = n := by omega
      obtain ⟨s, hs, e⟩ := fb_onto (n := r) (f := C) (fun i hi => by rw [en]; exact hC i hi) (fun i j hij hj => bs_inj B hij hj) (y := j) (by omega)
      rw [← e, rd_at B.1 hs]; omega
def rowsV (n : Nat) (L : List Nat) : List Vc := L.map (vec n)
theorem rkpiv_wp {σ : St} (hn : n ≤ 10) (h0 : gI σ 0 = nI n) {L : List Nat} (hL : L.length ≤ 21) (H : Rws σ n L) (hl : gL σ 0 = 1) {post : Int32 → St → Prop} (hp : ∀ r τ, RkB (rowsV n L) r → r ≤ n → FrD σ τ → post (nI r) τ) : ∃ fu : Nat, lp_X7_rank_105 post fu 0 0 σ := by
  obtain ⟨h3, hT⟩ := H
  have hO : ∀ t j, t < L.length → 0 ≤ (fun t => vec n (L.getD t 0)) t j ∧ (fun t => vec n (L.getD t 0)) t j ≤ 1 := fun t j _ => vec_01 n _ j
  have mem : ∀ t, t < L.length → vec n (L.getD t 0) ∈ rowsV n L := fun t ht => by
    refine List.mem_map.mpr ⟨L.getD t 0, ?_, rfl⟩
    rw [List.getD_eq_getElem?_getD, List.getElem?_eq_getElem ht]
    exact List.getElem_mem ht
  have mem2 : ∀ v ∈ rowsV n L, ∃ t, t < L.length ∧ v = vec n (L.getD t 0) := fun v hv => by
    obtain ⟨a, ha, e⟩ := List.mem_map.mp hv
    obtain ⟨t, ht, e2⟩ := List.mem_iff_getElem.mp ha
    refine ⟨t, ht, ?_⟩
    rw [List.getD_eq_getElem?_getD, List.getElem?_eq_getElem ht, ← e, ← e2]; rfl
  obtain ⟨f, hf⟩ := lupE (fun f c (p : Int32 × St) => lp_X7_rank_105 post f p.1 (nI c) p.2) (fun c p => ∃ r C P z d T, p.1 = nI r ∧ GJ L.length r C P z d T ∧ Cov L.length r P z (fun t => vec n (L.getD t 0)) ∧ Rw p.2 L.length n T ∧ (gL p.2 0).toInt = d ∧ PvF σ p.2 ∧ r ≤ L.length ∧ r ≤ c ∧ (∀ s, s < r → C s < c) ∧ ∀ j, j < c → ∀ y, InSp (rowsV n L) y → (∀ s, s < r → y (C s) = 0) → y j = 0) n
    (fun f p hp0 => by
      obtain ⟨r, C, P, z, d, T, e, J, V, R1, L1, F1, r1, r2, r3, r4⟩ := hp0
      show lp_X7_rank_105 post (f + 1) p.1 (nI n) p.2
      unfold lp_X7_rank_105
      rw [F1.1 0, h0, e]
      refine ⟨fun _ => hp r p.2 ⟨C, P, J.1, fun u hu => ?_, fun v hv => ?_⟩ r2 (FrD.pv F1), fun q => absurd (nI_le (Nat.le_refl n) (by omega)) q⟩
      · obtain ⟨t, ht, e2⟩ := V.1 u hu
        rw [e2]; exact mem t ht
      · refine q_rd J.1 (fun j => ?_)
        have spP : ∀ u ∈ P, u ∈ rowsV n L := fun u hu => by
          obtain ⟨t, ht, e2⟩ := V.1 u hu
          rw [e2]; exact mem t ht
        have spx : InSp (rowsV n L) (Rd r C P v) := sp_congr (sp_add (sp_mono (rd_sp r C P v) spP) (sp_mul (DC C r P) (sp_mem hv))) (fun j => by omega)
        by_cases q : j < n
        · exact r4 j q _ spx (fun s hs => rd_at J.1.1 hs)
        · obtain ⟨cs, c1, c2⟩ := spx
          rw [c2 j]
          have : ∀ cs : List (Int × Vc), (∀ c ∈ cs, c.2 ∈ rowsV n L) → (cs.map (fun c => c.1 * c.2 j)).sum = 0 := by
            intro cs
            induction cs with
            | nil => exact fun _ => rfl
            | cons c cs ih =>
              intro hc
              rw [List.map_cons, List.sum_cons, ih (fun d hd => hc d (List.mem_cons_of_mem _ hd))]
              obtain ⟨a, _, e3⟩ := List.mem_map.mp (hc c List.mem_cons_self)
              rw [← e3]
              show c.1 * (if j < n then _ else 0) + 0 = 0
              rw [if_neg q]; omega
          exact this cs c1)
    (fun f c p hc hp0 ih => by
      obtain ⟨x, τ⟩ := p
      obtain ⟨r, C, P, z, d, T, e, J, V, R1, L1, F1, r1, r2, r3, r4⟩ := hp0
      have e : x = nI r := e
      have R1 : Rw τ L.length n T := R1
      have L1 : (gL τ 0).toInt = d := L1
      have F1 : PvF σ τ := F1
      show lp_X7_rank_105 post (f + 1) x (nI c) τ
      have h3' : gI τ 3 = nI L.length := (F1.1 3).trans h3
      have h0' : gI τ 0 = nI n := (F1.1 0).trans h0
      have bd := rk_bnd hn J V hO (fun s hs => by have := r3 s hs; omega)
      unfold lp_X7_rank_105
      rw [h0', e]
      refine ⟨fun q => absurd q (nI_ge hc (by omega)), fun _ => findM_wp (R := L.length) (w := n) (by omega) (by omega) hc h3' R1 r1 (fun a a1 a2 a3 a4 => ?_)⟩
      rw [h3', h0', nI_leI (by omega) (by omega)]
      refine ⟨fun q v hv => ?_, fun q => ?_⟩
      · rw [hv, nI_1]
        refine ih (nI r, τ) ⟨r, C, P, z, d, T, rfl, J, V, R1, L1, F1, r1, by omega, fun s hs => by have := r3 s hs; omega, fun j hj y hy h0 => ?_⟩
        by_cases w : j = c
        · subst w
          have rz : ∀ v ∈ rowsV n L, Rd r C P v j = 0 := fun v hv => by
            obtain ⟨t, ht, e2⟩ := mem2 v hv
            rw [e2]
            rcases V.2.2 t ht with e3 | ⟨i, i1, i2, e3⟩
            · exact rd_in J.1 (sp_mem e3) j
            · have e3' : vec n (L.getD t 0) = z i := e3
              rw [e3', ← J.2.2.2 i i1 i2]; exact a3 i i1 (by omega)
          have id1 := rd_id J.1 y j
          rw [rd_sp0 J.1 rz hy, sg_zero (fun s hs => by rw [h0 s hs, Int.zero_mul])] at id1
          exact (Int.mul_eq_zero.mp (show DC C r P * y j = 0 by omega)).resolve_left J.1.2.1
        · exact r4 j (by omega) y hy h0
      · have ha : a < L.length := by omega
        refine swpv_wp (O := fun t => vec n (L.getD t 0)) (by omega) (by omega) hc h3' J V R1 L1 (fun i j hi hj => by have := bd i j hi hj; omega) (fun i hi => bd i c hi hc) (fun P' z' d' T' J' V' i j hi hj => ?_) a1 ha (a4 ha) (x := fun σ8 => gI σ8 0) (fun τ2 hS => by show gI τ2 0 = nI n; rw [hS.1 0]; exact h0') (fun τ2 P' z' d' T' J' V' R' L' F' v hv u hu => ?_)
        · have := rk_bnd hn J' V' hO (fun s hs => by
            by_cases w : s = r
            · rw [w, cu_same]; exact hc
            · rw [cu_ne _ w]; have := r3 s (by omega); omega) i j hi hj
          omega
        · rw [hv, hu, nI_1, nI_1]
          refine ih (nI (r + 1), τ2) ⟨r + 1, cu C r c, P', z', d', T', rfl, J', V', R', L', F1.tr F', by omega, by omega, fun s hs => ?_, fun j hj y hy h0 => ?_⟩
          · by_cases w : s = r
            · rw [w, cu_same]; omega
            · rw [cu_ne _ w]; have := r3 s (by omega); omega
          · by_cases w : j = c
            · have := h0 r (Nat.lt_succ_self r)
              rw [cu_same] at this
              rw [w]; exact this
            · refine r4 j (by omega) y hy (fun s hs => ?_)
              have := h0 s (by omega)
              rw [cu_ne _ (by omega)] at this
              exact this)
    (Nat.zero_le n) (s := (nI 0, σ)) ⟨0, fun _ => 0, [], fun t => vec n (L.getD t 0), 1, fun t => vec n (L.getD t 0), rfl, gj_start _ _ _, cov_start _ _, hT, by show (gL σ 0).toInt = 1; rw [hl]; rfl, PvF.rf σ, Nat.zero_le _, Nat.le_refl _, fun s hs => absurd hs (Nat.not_lt_zero s), fun j hj => absurd hj (Nat.not_lt_zero j)⟩
  have hf2 : lp_X7_rank_105 post f (nI 0) (nI 0) σ := hf
  rw [nI_0] at hf2
  exact ⟨f, hf2⟩
/-- the rows of ways W, offers D -/
def rkL (ws os : Nat → Nat) (W D k o : Nat) : List Nat := (wyL W k).map ws ++ (wyL D o).map os
theorem rank_wp {σ : St} (F : NetM σ n k o M Bm ws ss os) (G : NetG n k o M Bm ws ss os) {W D : Nat} (hW : W < 2 ^ k) (hD : D < 2 ^ o) {x : Int32} (hx : x = -1 ∨ ∃ l, l < n ∧ x = nI l) {post : Int32 → St → Prop}
    (hp : ∀ r τ, (x = -1 → RkB (rowsV n (rkL ws os W D k o)) r) → (∀ l, l < n → x = nI l → RkB (rowsV n (rkL ws os W D k o ++ [2 ^ l])) r) → r ≤ n → FrD σ τ → post (nI r) τ) : wp_X7_rank (nI W) (nI D) x σ post := by
  have n10 := G.1.2.1
  have k10 := G.1.2.2.1
  have o10 := G.2.1
  obtain ⟨a1, a2, a3, a4, a5, a6, a7, a8⟩ := F
  have lw : ∀ (A a : Nat), (wyL A a).length ≤ a := fun A a => by rw [wyL_len]; exact fb_ct_le _ a
  unfold wp_X7_rank
  intro σ1 e1
  have f1 : FrD σ σ1 := by rw [e1]; exact ⟨fun i hi => by rw [gI_sI, if_neg hi], fun _ _ => rfl⟩
  -- behind the rows
  have fin : ∀ τ L, FrD σ τ → L.length ≤ 21 → Rws τ n L → (∀ r ρ, RkB (rowsV n L) r → r ≤ n → FrD σ ρ → post (nI r) ρ) → ∀ σ2, σ2 = sL τ 0 1 → ∃ fu : Nat, lp_X7_rank_105 post fu 0 0 σ2 := by
    intro τ L hF hL hR hpp σ2 e2
    have F2 : FrD τ σ2 := by rw [e2]; exact ⟨fun i _ => rfl, fun _ _ => rfl⟩
    exact rkpiv_wp n10 (by rw [e2, gI_sL, hF.1 0 (by decide)]; exact a1) hL (by rw [e2]; exact hR) (by rw [e2, gL_sL, if_pos rfl]) (fun r ρ h1 h2 h3 => hpp r ρ h1 h2 ((hF.tr F2).tr h3))
  have offers : ∀ τ, FrD σ τ → Rws τ n ((wyL W k).map ws) → ∃ fu : Nat, lp_X7_rank_47 post fu (nI D) x 0 τ := by
    intro τ hF hR
    obtain ⟨f, hf⟩ := lupE (fun f w (ρ : St) => lp_X7_rank_47 post f (nI D) x (nI w) ρ) (fun w ρ => FrD σ ρ ∧ Rws ρ n ((wyL W k).map ws ++ (wyL D w).map os)) o
      (fun f ρ hρ => by
        obtain ⟨F2, R2⟩ := hρ
        have len : ((wyL W k).map ws ++ (wyL D o).map os).length ≤ 20 := by
          rw [List.length_append, List.length_map, List.length_map]
          have := lw W k; have := lw D o; omega
        unfold lp_X7_rank_47
        rw [F2.1 2 (by decide), a3]
        refine ⟨fun _ => ?_, fun q => absurd (nI_le (Nat.le_refl o) (by omega)) q⟩
        unfold jn_X7_rank_83
        rcases hx with q | ⟨l, hl, q⟩
        · refine ⟨fun _ => fin ρ _ F2 (by omega) R2 (fun r τ2 h1 h2 h3 => hp r τ2 (fun _ => h1) (fun l hl z => ?_) h2 h3), fun z => absurd (by rw [q]; decide) z⟩
          rw [q] at z
          have := nI_pos (n := l) (by omega)
          rw [← z] at this; exact absurd (by decide) this
        · refine ⟨fun z => absurd z (by rw [q]; exact nI_pos (by omega)), fun _ => ?_⟩
          rw [q, one_shl (by omega)]
          refine addRow_wp n10 (by rw [F2.1 0 (by decide)]; exact a1) (by omega) R2 (Nat.pow_lt_pow_right (by decide) (by omega)) (fun τ5 R5 F5 => ?_)
          refine fin τ5 _ (F2.tr F5) (by rw [List.length_append]; show _ + 1 ≤ 21; omega) R5 (fun r τ2 h1 h2 h3 => hp r τ2 (fun z => ?_) (fun l2 hl2 z => ?_) h2 h3)
          · rw [q] at z
            have := nI_pos (n := l) (by omega)
            rw [z] at this; exact absurd (by decide) this
          · have : l2 = l := (nI_eq (by omega) (by omega)).mp (z.symm.trans q)
            rw [this]; exact h1)
      (fun f w ρ hw hρ ih => by
        obtain ⟨F2, R2⟩ := hρ
        unfold lp_X7_rank_47
        rw [F2.1 2 (by decide), a3, bit_at (m31 hD o10) (by omega), nI_clamp (show w < 2 ^ 31 by omega), F2.2 4 (by decide), a8 w hw]
        refine ⟨fun q => absurd q (nI_ge hw (by omega)), fun _ => ⟨fun q v hv => ?_, fun q => ⟨idx10 (by omega), addRow_wp n10 (by rw [F2.1 0 (by decide)]; exact a1) (by
          rw [List.length_append, List.length_map, List.length_map]
          have := lw W k; have := lw D w; omega) R2 (m31 (G.2.2.2.2 w hw).2 n10) (fun τ5 R5 F5 v hv => ?_)⟩⟩⟩
        · rw [hv, nI_1]
          refine ih ρ ⟨F2, ?_⟩
          rw [wyL_succ, if_neg (by rw [(bit_ne1 _).mp q]; decide), List.append_nil]; exact R2
        · rw [hv, nI_1]
          refine ih τ5 ⟨F2.tr F5, ?_⟩
          rw [wyL_succ, if_pos ((bit_1 _).mp q), List.map_append, ← List.append_assoc]; exact R5)
      (Nat.zero_le o) (s := τ) ⟨hF, by
        show Rws τ n ((wyL W k).map ws ++ [])
        rw [List.append_nil]; exact hR⟩
    rw [nI_0] at hf
    exact ⟨f, hf⟩
  obtain ⟨f, hf⟩ := lupE (fun f w (ρ : St) => lp_X7_rank_8 post f (nI W) (nI D) x (nI w) ρ) (fun w ρ => FrD σ ρ ∧ Rws ρ n ((wyL W w).map ws)) k
    (fun f ρ hρ => by
      obtain ⟨F2, R2⟩ := hρ
      unfold lp_X7_rank_8
      rw [F2.1 1 (by decide), a2]
      exact ⟨fun _ => offers ρ F2 R2, fun q => absurd (nI_le (Nat.le_refl k) (by omega)) q⟩)
    (fun f w ρ hw hρ ih => by
      obtain ⟨F2, R2⟩ := hρ
      unfold lp_X7_rank_8
      rw [F2.1 1 (by decide), a2, bit_at (m31 hW k10) (by omega), nI_clamp (show w < 2 ^ 31 by omega), F2.2 0 (by decide), a4 w hw]
      refine ⟨fun q => absurd q (nI_ge hw (by omega)), fun _ => ⟨fun q v hv => ?_, fun q => ⟨idx10 (by omega), addRow_wp n10 (by rw [F2.1 0 (by decide)]; exact a1) (by
        rw [List.length_map]
        have := lw W w; omega) R2 (m31 (G.1.2.2.2.1 w hw).2 n10) (fun τ5 R5 F5 v hv => ?_)⟩⟩⟩
      · rw [hv, nI_1]
        refine ih ρ ⟨F2, ?_⟩
        rw [wyL_succ, if_neg (by rw [(bit_ne1 _).mp q]; decide), List.append_nil]; exact R2
      · rw [hv, nI_1]
        refine ih τ5 ⟨F2.tr F5, ?_⟩
        rw [wyL_succ, if_pos ((bit_1 _).mp q), List.map_append]; exact R5)
    (Nat.zero_le k) (s := σ1) ⟨f1, by
      refine ⟨by rw [e1, gI_sI, if_pos rfl]; exact nI_0.symm, fun t j ht => absurd ht (Nat.not_lt_zero t)⟩⟩
  rw [nI_0] at hf
  exact ⟨f, hf⟩
/-- line l is known by the ways that are on and the offers D -/
def KnP (n k o M : Nat) (ws os : Nat → Nat) (D l : Nat) : Prop := QSp (rowsV n (rkL ws os M D k o)) (vec n (2 ^ l))
theorem isKnown_wp {σ : St} (F : NetM σ n k o M Bm ws ss os) (G : NetG n k o M Bm ws ss os) {D l : Nat} (hD : D < 2 ^ o) (hl : l < n) {post : Int32 → St → Prop} (hp : ∀ r τ, ((KnP n k o M ws os D l → r = 1) ∧ (¬ KnP n k o M ws os D l → r = 0)) → FrD σ τ → post r τ) : wp_X7_isKnown (nI l) (nI D) σ post := by
  have n10 := G.1.2.1
  unfold wp_X7_isKnown
  refine onSet_wp F G (rank_wp F G G.2.2.1 hD (Or.inr ⟨l, hl, rfl⟩) (fun r τ _ h1 rn hF => ?_))
  have F2 := netM_fr F hF.m
  refine onSet_wp F2 G (rank_wp F2 G G.2.2.1 hD (Or.inl rfl) (fun r2 τ2 h2 _ rn2 hF2 => ?_))
  have iff := rk_known (e := vec n (2 ^ l)) (fun v => by
    unfold rowsV
    rw [List.map_append, List.mem_append, List.map_singleton, List.mem_singleton]) (h2 rfl) (h1 l hl rfl)
  have eqn := nI_eq (show r < 2 ^ 31 by omega) (show r2 < 2 ^ 31 by omega)
  rw [eqn]
  exact ⟨fun q => hp _ _ ⟨fun z => absurd (iff.mpr z) q, fun _ => rfl⟩ (hF.tr hF2), fun q => hp _ _ ⟨fun _ => rfl, fun z => absurd (iff.mp q) z⟩ (hF.tr hF2)⟩
end RNK
