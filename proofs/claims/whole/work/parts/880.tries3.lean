/-! ===== the reference's tries, whole ===== -/
section TR3
variable {n k o M Bm : Nat} {ws ss os : Nat → Nat} {s : Nat}
theorem zT_b (G : NetG n k o M Bm ws ss os) : (∀ t j, t < pc M → j < pc s → 0 ≤ zT ws ss M s t j ∧ zT ws ss M s t j ≤ 1) ∧ ∀ t j, t < pc M → -100000 ≤ zT ws ss M s t j ∧ zT ws ss M s t j ≤ 100000 := by
  have a01 : ∀ t j, 0 ≤ Aw ws M t j ∧ Aw ws M t j ≤ 1 := fun t j => by
    unfold Aw
    by_cases q : (ws (wy M t)).testBit j = true
    · rw [if_pos q]; omega
    · rw [if_neg q]; omega
  refine ⟨fun t j _ hj => ?_, fun t j ht => ?_⟩
  · unfold zT; rw [if_pos hj]; exact a01 t _
  · unfold zT
    by_cases q : j < pc s
    · rw [if_pos q]; have := a01 t (wy s j); omega
    · rw [if_neg q]
      by_cases q2 : j = pc s
      · rw [if_pos q2]
        unfold bw
        have := G.1.2.2.2.2 _ (wy_in G.1.2.2.1 G.2.2.1 ht).1
        omega
      · rw [if_neg q2]; omega
theorem tr_bnd (G : NetG n k o M Bm ws ss os) {c : Nat} (hc : c ≤ pc s) (hcR : c ≤ pc M) {P : List Vc} {z : Nat → Vc} {d : Int} {T : Nat → Nat → Int} (J : GJ (pc M) c (fun i => i) P z d T) (V : Cov (pc M) c P z (zT ws ss M s)) : (-38981 ≤ d ∧ d ≤ 38981) ∧ (∀ i j, i < pc M → j < pc s → -38981 ≤ T i j ∧ T i j ≤ 38981) ∧ ∀ i, i < pc M → -362880000000 ≤ T i (pc s) ∧ T i (pc s) ≤ 362880000000 := by
  have pc10 : pc s ≤ 10 := fb_ct_le _ 10
  have pm10 : pc M ≤ 10 := fb_ct_le _ 10
  have z := zT_b (s := s) G
  have h01 : ∀ j, j < pc s → Z01 (pc M) P _ j := fun j hj => cov_01 V (fun t ht => z.1 t j ht hj)
  have sm := gj_small J (by omega) (by omega) (fun i hi => h01 i (by omega))
  have lB := cov_B V (j := pc s) (fun t ht => z.2 t (pc s) ht)
  exact ⟨sm.1, fun i j hi hj => sm.2 j (h01 j hj) i hi, gj_large J (by omega) (by omega) (fun i hi => h01 i (by omega)) lB.1 lB.2⟩
theorem tpiv_wp {σ : St} (G : NetG n k o M Bm ws ss os) (hs : s < 2 ^ n) (h3 : gI σ 3 = nI (pc M)) (hT : Rw σ (pc M) (pc s + 1) (zT ws ss M s)) (hl : gL σ 0 = 1) {post : Int32 → St → Prop} (hno : ∀ τ, ¬ Indp n ws M s → FrT σ τ → post 0 τ)
    (hyes : ∀ τ P z d T, GJ (pc M) (pc s) (fun i => i) P z d T → Cov (pc M) (pc s) P z (zT ws ss M s) → Rw τ (pc M) (pc s + 1) T → (gL τ 0).toInt = d → pc s ≤ pc M → PvF σ τ → ∃ fu : Nat, lp_X7_tries_188 post fu (nI s) (nI (pc s)) 1 (nI (pc s)) τ) : ∃ fu : Nat, lp_X7_tries_134 post fu (nI s) (nI (pc s)) 0 σ := by
  have pc10 : pc s ≤ 10 := fb_ct_le _ 10
  have pm10 : pc M ≤ 10 := fb_ct_le _ 10
  have hn := G.1.2.1
  have hk := G.1.2.2.1
  have hM := G.2.2.1
  obtain ⟨f, hf⟩ := lupE (fun f c (τ : St) => lp_X7_tries_134 post f (nI s) (nI (pc s)) (nI c) τ) (fun c τ => ∃ P z d T, GJ (pc M) c (fun i => i) P z d T ∧ Cov (pc M) c P z (zT ws ss M s) ∧ Rw τ (pc M) (pc s + 1) T ∧ (gL τ 0).toInt = d ∧ PvF σ τ ∧ c ≤ pc M) (pc s)
    (fun f τ hτ => by
      obtain ⟨P, z, d, T, J, V, R1, L1, F1, c1⟩ := hτ
      unfold lp_X7_tries_134
      exact ⟨fun _ => hyes τ P z d T J V R1 L1 c1 F1, fun q => absurd (nI_le (Nat.le_refl _) (by omega)) q⟩)
    (fun f c τ hc hτ ih => by
      obtain ⟨P, z, d, T, J, V, R1, L1, F1, c1⟩ := hτ
      have h3' : gI τ 3 = nI (pc M) := (F1.1 3).trans h3
      have eC : cu (fun i : Nat => i) c c = fun i => i := cu_self (fun i : Nat => i) c
      have bd := tr_bnd G (Nat.le_of_lt hc) c1 J V
      unfold lp_X7_tries_134
      rw [nI_1]
      refine ⟨fun q => absurd q (nI_ge hc (by omega)), fun _ => findM_wp (R := pc M) (w := pc s + 1) (by omega) (by omega) (by omega) h3' R1 c1 (fun r r1 r2 r3 r4 => ?_)⟩
      rw [h3', nI_ltI (by omega) (by omega)]
      refine ⟨fun q => ?_, fun q => hno τ (fun hI => ?_) (FrT.pv F1)⟩
      · refine swpv_wp (O := zT ws ss M s) (by omega) (by omega) (by omega) h3' J V R1 L1 (fun i j hi hj => ?_) (fun i hi => bd.2.1 i c hi hc) (fun P' z' d' T' J' V' i j hi hj => ?_) r1 q (r4 q) (x := fun _ => nI (pc s + 1)) (fun _ _ => rfl) (fun τ2 P' z' d' T' J' V' R' L' F' v hv => ?_)
        · by_cases w : j = pc s
          · rw [w]; exact bd.2.2 i hi
          · have := bd.2.1 i j hi (by omega); omega
        · rw [eC] at J'
          have b2 := tr_bnd G (show c + 1 ≤ pc s by omega) (show c + 1 ≤ pc M by omega) J' V'
          by_cases w : j = pc s
          · rw [w]; have := b2.2.2 i hi; omega
          · have := b2.2.1 i j hi (by omega); omega
        · rw [hv, nI_1]
          rw [eC] at J'
          exact ih τ2 ⟨P', z', d', T', J', V', R', L', F1.tr F', by omega⟩
      · have hz : ∀ i, c ≤ i → i < pc M → T i c = 0 := fun i h1 h2 => r3 i h1 (by omega)
        have dep := gj_dep J V hz
        have := hI (lnX s (fun j => if j < c then T j c else if j = c then -d else 0)) (lnX_supp _) (all_wy hk hM (fun t ht => ?_)) (wy s c) (wy_in hn hs hc).1
        · rw [lnX_wy hn hs hc, if_neg (Nat.lt_irrefl c), if_pos rfl] at this
          have d0 : d ≠ 0 := by rw [J.2.1]; exact J.1.2.1
          omega
        · rw [row_sum (ss := ss) hn hs (lnX_supp _) t, sg_congr (g := fun j => zT ws ss M s t j * (if j < c then T j c else if j = c then -d else 0)) (fun j hj => by rw [lnX_wy hn hs hj]), sg_cut (show c + 1 ≤ pc s by omega) (fun j h1 h2 => by rw [if_neg (by omega), if_neg (by omega), Int.mul_zero])]
          exact dep t ht)
    (Nat.zero_le _) (s := σ) ⟨[], zT ws ss M s, 1, zT ws ss M s, gj_start _ _ _, cov_start _ _, hT, by rw [hl]; rfl, PvF.rf σ, Nat.zero_le _⟩
  rw [nI_0] at hf
  exact ⟨f, hf⟩
theorem trest_wp {σ : St} {R q : Nat} (hR : R ≤ 10) (hq : q ≤ R) (h3 : gI σ 3 = nI R) {T : Nat → Nat → Int} (hT : Rw σ R (q + 1) T) {x1 : Int32} {post : Int32 → St → Prop} (hp : ∀ x, bz x → (x = 1 ↔ ∀ r, q ≤ r → r < R → T r q = 0) → jn_X7_tries_230 post x1 (nI q) x σ) : ∃ fu : Nat, lp_X7_tries_188 post fu x1 (nI q) 1 (nI q) σ := by
  exact lupE (fun f i (x : Int32) => lp_X7_tries_188 post f x1 (nI q) x (nI i) σ) (fun i x => bz x ∧ (x = 1 ↔ ∀ r, q ≤ r → r < i → T r q = 0) ∧ q ≤ i) R
    (fun f x hx => by
      unfold lp_X7_tries_188
      rw [h3]
      exact ⟨fun _ => hp x hx.1 hx.2.1, fun z => absurd (nI_le (Nat.le_refl R) (by omega)) z⟩)
    (fun f i x hi hx ih => by
      obtain ⟨x1, x2, x3⟩ := hx
      unfold lp_X7_tries_188
      rw [h3, ix32, nI_clamp (by omega)]
      have ev := hT i q hi (by omega)
      refine ⟨fun z => absurd z (nI_ge hi (by omega)), fun _ => ⟨fun z v hv => ?_, fun z => ⟨in800 (by omega), fun y v hv => ?_, fun y v hv => ?_⟩⟩⟩
      · rw [hv, nI_1]
        refine ih 0 ⟨bz_0, ⟨fun w => absurd w (by decide), fun w => ?_⟩, by omega⟩
        have := x2.mpr (fun r r1 r2 => w r r1 (by omega))
        rw [z] at this; exact absurd this (by decide)
      · rw [hv, nI_1]
        refine ih 0 ⟨bz_0, ⟨fun w => absurd w (by decide), fun w => absurd (Int64.toInt_inj.mp ?_) y⟩, by omega⟩
        rw [ev, w i x3 (by omega)]; rfl
      · rw [hv, nI_1]
        refine ih 1 ⟨bz_1, ⟨fun _ r r1 r2 => ?_, fun _ => rfl⟩, by omega⟩
        by_cases w : r = i
        · rw [w, ← ev, y]; rfl
        · exact (x2.mp (x1.elim (fun u => absurd u z) id)) r r1 (by omega))
    hq (s := 1) ⟨bz_1, ⟨fun _ r r1 r2 => absurd r2 (by omega), fun _ => rfl⟩, Nat.le_refl q⟩
theorem tries_wp {σ : St} (F : NetM σ n k o M Bm ws ss os) (G : NetG n k o M Bm ws ss os) (hs : s < 2 ^ n) {post : Int32 → St → Prop}
    (h1 : ∀ τ X d, SolW n ws ss M X d → Supp n s X → Indp n ws M s → d ≤ 38981 → (∀ j, j < n → X j ≤ 362880000000) → (gL τ 1).toInt = d → (∀ j, j < n → (gB τ 1 j).toInt = X j) → FrT σ τ → post 1 τ)
    (h0 : ∀ τ, (∀ X d, SolW n ws ss M X d → Supp n s X → ¬ Indp n ws M s) → FrT σ τ → post 0 τ) : wp_X7_tries (nI s) σ post := by
  have pc10 : pc s ≤ 10 := fb_ct_le _ 10
  have pm10 : pc M ≤ 10 := fb_ct_le _ 10
  have hn := G.1.2.1
  have hk := G.1.2.2.1
  have hM := G.2.2.1
  have hs10 : s < 1024 := Nat.lt_of_lt_of_le hs (Nat.pow_le_pow_right (by decide) hn)
  obtain ⟨a1, a2, a3, a4, a5, a6, a7, a8⟩ := F
  unfold wp_X7_tries
  intro σ1 e1
  have f1 : FrT σ σ1 := by rw [e1]; exact ⟨fun i hi => by rw [gI_sI, if_neg hi], fun _ => rfl, rfl, rfl⟩
  obtain ⟨f, hf⟩ := lupE (fun f w (τ : St) => lp_X7_tries_9 post f (nI s) (nI w) τ) (fun w τ => FrT σ τ ∧ gI τ 3 = nI (wyL M w).length ∧ Rw τ (wyL M w).length (pc s + 1) (zT ws ss M s)) k
    (fun f τ hτ => by
      obtain ⟨F1, g3, R1⟩ := hτ
      rw [wyl_end hk hM] at g3 R1
      unfold lp_X7_tries_9
      rw [F1.1 1 (by decide), a2]
      refine ⟨fun _ => bits_wp hs10 (fun σ4 e4 => ?_), fun q => absurd (nI_le (Nat.le_refl k) (by omega)) q⟩
      have F4 : FrT σ σ4 := F1.tr (by rw [e4]; exact ⟨fun i _ => rfl, fun _ => rfl, by rw [gL_sL, if_neg (by decide)], rfl⟩)
      refine tpiv_wp G hs (by rw [e4, gI_sL]; exact g3) (by rw [e4]; exact R1) (by rw [e4, gL_sL, if_pos rfl]) (fun ρ hI hF => h0 ρ (fun _ _ _ _ => hI) (F4.tr hF)) (fun ρ P z d T J V R2 L2 hq F2 => ?_)
      have h3 : gI ρ 3 = nI (pc M) := by rw [F2.1 3, e4, gI_sL]; exact g3
      have F5 : FrT σ ρ := F4.tr (FrT.pv F2)
      have bd := tr_bnd G (Nat.le_refl _) hq J V
      refine trest_wp pm10 hq h3 R2 (fun x hx hx2 => ?_)
      have d0 : d ≠ 0 := by rw [J.2.1]; exact J.1.2.1
      have go : ∀ (e64 : Int64) (ε : Int), e64.toInt = ε → (ε = 1 ∨ ε = -1) → 0 < d * ε → jn_X7_tries_246 post (nI s) (nI (pc s)) x e64 ρ := by
        intro e64 ε he hε hp
        unfold jn_X7_tries_246
        intro σ5 e5
        have el : (gL σ5 1).toInt = d * ε := by
          rw [e5, gL_sL, if_pos rfl, fb_mulL (by rw [L2, he]; rcases hε with e | e <;> subst e <;> omega) (by rw [L2, he]; rcases hε with e | e <;> subst e <;> omega), L2, he]
        have F6 : FrT σ σ5 := F5.tr (by rw [e5]; exact ⟨fun i _ => rfl, fun _ => rfl, by rw [gL_sL, if_neg (by decide)], rfl⟩)
        obtain ⟨s1, s2, s3, s4⟩ := try_sem (ws := ws) (ss := ss) hn hk hM hs J V hq hε hp
        refine tfin_wp (T := T) hn hs (by rw [F6.1 0 (by decide)]; exact a1) pm10 hq (by rw [e5]; exact R2) bd.2.2 hx he hε (fun y τ hy hF hy1 hy2 => ?_)
        have F7 : FrT σ τ := F6.tr ⟨fun i _ => hF.1 i, hF.2.2.1, hF.2.1 2, hF.2.2.2 2 (by decide)⟩
        rcases hy with e | e
        · rw [e]
          refine h0 τ (fun X υ hX hS _ => ?_) F7
          have := s4 X υ hX hS
          have y1 := hy1.mpr ⟨hx2.mpr this.1, this.2⟩
          rw [e] at y1; exact absurd y1 (by decide)
        · rw [e]
          have y1 := hy1.mp e
          refine h1 τ (Uq s T ε) (d * ε) (s2 (hx2.mp y1.1) y1.2) s3 s1 (by rcases hε with e | e <;> subst e <;> omega) (fun j hj => ?_) (by rw [hF.2.1 1]; exact el) (hy2 e) F7
          unfold Uq
          by_cases w : s.testBit j = true
          · rw [if_pos w]
            have := bd.2.2 _ (show (wyL s j).length < pc M by have := wyl_lt hn hj w; omega)
            rcases hε with e | e <;> subst e <;> omega
          · rw [if_neg w]; omega
      unfold jn_X7_tries_230
      have z0 : (0 : Int64).toInt = 0 := rfl
      rw [Int64.le_iff_toInt_le, L2, z0]
      exact ⟨fun q => go 1 1 rfl (Or.inl rfl) (by omega), fun q => go (-1) (-1) rfl (Or.inr rfl) (by omega)⟩)
    (fun f w τ hw hτ ih => by
      obtain ⟨F1, g3, R1⟩ := hτ
      unfold lp_X7_tries_9
      rw [F1.1 1 (by decide), a2, nI_clamp (show w < 2 ^ 31 by omega), F1.2.1 2, a6 w hw]
      refine ⟨fun q => absurd q (nI_ge hw (by omega)), fun _ => ⟨idx10 (by omega), fun q v hv => ?_, fun q => ?_⟩⟩
      · rw [hv, nI_1]
        have e : wyL M (w + 1) = wyL M w := by rw [wyL_succ, if_neg (by rw [(bit_0 _).mp q]; decide), List.append_nil]
        exact ih τ ⟨F1, by rw [e]; exact g3, by rw [e]; exact R1⟩
      · have hb := (bit_ne0 _).mp q
        have hl := wyl_lt hk hw hb
        have e : (wyL M (w + 1)).length = (wyL M w).length + 1 := by rw [wyL_succ, if_pos hb, List.length_append]; rfl
        have ewy := wy_of hk hM hw hb
        have w31 := m31 (G.1.2.2.2.1 w hw).2 hn
        refine trow_wp hn hs (by rw [F1.1 0 (by decide)]; exact a1) g3 (by omega) (by omega) (by rw [F1.2.1 0]; exact a4 w hw) w31 (z := zT ws ss M s (wyL M w).length) (fun j hj => by unfold zT Aw; rw [if_pos hj, ewy]) (fun ρ hS hB => ?_)
        unfold jn_X7_tries_85
        rw [hS.1 3, g3, ix32, nI_clamp (by omega), nI_clamp (by omega), hS.2.2.1 1, F1.2.1 1, a5 w hw]
        refine ⟨idx10 (by omega), in800 (by omega), fun ρ1 e1 ρ3 e3 v hv => ?_⟩
        rw [hv, nI_1]
        have B2 := hB.step (k := pc s) (v := Int32.toInt64 (nI (ss w))) (by
          rw [zT_last, Int32.toInt_toInt64, nI_toInt (by have := G.1.2.2.2.2 w hw; omega)]
          unfold bw; rw [ewy])
        refine ih ρ3 ⟨F1.tr ⟨fun i hi => ?_, fun i => ?_, ?_, ?_⟩, ?_, fun t j ht hj => ?_⟩
        · rw [e3, gI_sI, if_neg hi, e1, gI_sB]; exact hS.1 i
        · rw [e3, gA_sI, e1, gA_sB]; exact hS.2.2.1 i
        · rw [e3, gL_sI, e1, gL_sB]; exact hS.2.1 2
        · rw [e3, gB_sI, e1]
          funext x
          rw [gB_sB, if_neg (fun z => absurd z.1 (by decide)), hS.2.2.2 2 (by decide)]
        · rw [e3, gI_sI, if_pos rfl, e1, gI_sB, hS.1 3, g3, nI_1, e]
        · rw [e3, gB_sI, e1]
          rw [e] at ht
          by_cases z : t = (wyL M w).length
          · rw [z]; exact B2.1 j hj
          · rw [B2.2 _ (fun l hl => row_ne (by omega) (by omega) (fun y => z y.symm))]; exact R1 t j (by omega) hj)
    (Nat.zero_le k) (s := σ1) ⟨f1, by rw [e1, gI_sI, if_pos rfl]; exact nI_0.symm, fun t j ht => absurd ht (Nat.not_lt_zero t)⟩
  rw [nI_0] at hf
  exact ⟨f, hf⟩
end TR3
