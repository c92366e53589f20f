/-! ===== the reference's doFit: the rows, doFit itself ===== -/
section MF3
variable {n k o M Bm m : Nat} {ws ss os : Nat → Nat}
theorem frow_wp {σ : St} (hn : n ≤ 10) (hm : m ≤ 10) {t : Nat} (ht : t < m) (h0 : gI σ 0 = nI n) (h3 : gI σ 3 = nI t) {w s q : Nat} (hw : w < 10) (hs : gA σ 0 w = nI s) (hs31 : s < 2 ^ 31) (hq : gA σ 1 w = nI q) (hq31 : q < 2 ^ 31) {A : Nat → Nat → Int} {b : Nat → Int} (hA : ∀ j, A t j = if s.testBit j then 1 else 0) (hb : b t = q) {x1 : Int32} {post : Int32 → St → Prop} {K : Int32 → Int32 → Int32 → Int32 → St → Prop} (hp : ∀ τ, SameB σ τ → RowB σ τ 32 t (n + m + 1) (vrow n m A b t) → jn_X7_doFit_134 post K x1 (nI m) (nI (n + m + 1)) (nI w) τ) : ∃ fu : Nat, lp_X7_doFit_44 post K fu x1 (nI m) (nI (n + m + 1)) (nI w) 0 σ := by
  obtain ⟨f, hf⟩ := lupE (fun f j (τ : St) => lp_X7_doFit_44 post K f x1 (nI m) (nI (n + m + 1)) (nI w) (nI j) τ) (fun j τ => SameB σ τ ∧ RowB σ τ 32 t j (vrow n m A b t)) (n + m + 1)
    (fun f τ hτ => by
      unfold lp_X7_doFit_44
      exact ⟨fun _ => hp τ hτ.1 hτ.2, fun q => absurd (nI_le (Nat.le_refl _) (by omega)) q⟩)
    (fun f j τ hj hτ ih => by
      obtain ⟨hS, hB⟩ := hτ
      have stp : ∀ v : Int64, v.toInt = vrow n m A b t j → ∀ τ', τ' = sB τ 0 (t * 32 + j) v → ∀ u, u = nI j + 1 → lp_X7_doFit_44 post K f x1 (nI m) (nI (n + m + 1)) (nI w) u τ' := fun v hv τ' e u hu => by
        rw [hu, nI_1]
        exact ih τ' ⟨by rw [e]; exact hS.tr (SameB.put τ _ _), by rw [e]; exact hB.step hv⟩
      unfold lp_X7_doFit_44
      rw [hS.1 0, h0, hS.1 3, h3, ix32, nI_clamp (show t * 32 + j < 2 ^ 31 by omega), nI_clamp (show w < 2 ^ 31 by omega), hS.2.2.1 0, hS.2.2.1 1, hs, hq, nI_add, nI_pred]
      have i1 := nI_leI (show n < 2 ^ 31 by omega) (show j < 2 ^ 31 by omega)
      have i2 := nI_eq (show j < 2 ^ 31 by omega) (show n + t < 2 ^ 31 by omega)
      have i3 := nI_eq (show j < 2 ^ 31 by omega) (show n + m < 2 ^ 31 by omega)
      rw [i1, i2, i3]
      refine ⟨fun q => absurd q (nI_ge hj (by omega)), fun _ => ⟨fun q1 => ⟨fun q2 => ⟨fun q3 => ⟨in800 (by omega), stp 0 ?_⟩, fun q3 => ⟨idx10 hw, in800 (by omega), stp _ ?_⟩⟩, fun q2 => ⟨in800 (by omega), stp 1 ?_⟩⟩, fun q1 => ⟨idx10 hw, in800 (by omega), stp _ ?_⟩⟩⟩
      · unfold vrow
        rw [if_neg (by omega), if_pos (by omega), if_neg q2]; rfl
      · rw [q3, vrow_last, hb, Int32.toInt_toInt64, nI_toInt hq31]
      · rw [q2, vrow_slack ht, if_pos rfl]; rfl
      · rw [bit_at hs31 (by omega), bit_i64, vrow_line (by omega), hA])
    (Nat.zero_le _) (s := σ) ⟨SameB.rf σ, fun j hj => absurd hj (Nat.not_lt_zero j), fun x _ => rfl⟩
  rw [nI_0] at hf
  exact ⟨f, hf⟩
theorem fcol_wp {σ : St} (hn : n ≤ 10) (hm : m ≤ 10) {j : Nat} (hj : j < n + m + 1) (h0 : gI σ 0 = nI n) {V : Nat → Nat → Int} (hV : Rw σ m (n + m + 1) V) (hb : ∀ t j, t < m → j < n + m + 1 → -100000 ≤ V t j ∧ V t j ≤ 100000) {post : Int32 → St → Prop} {K : Int32 → Int32 → Int32 → St → Prop} (hp : ∀ v : Int64, v.toInt = sg (fun t => if j < n ∨ j = n + m then V t j else 0) m → K (nI m) (nI (n + m + 1)) (nI (j + 1)) (sB σ 0 (m * 32 + j) v)) : ∃ fu : Nat, lp_X7_doFit_183 post K fu (nI m) (nI (n + m + 1)) (nI j) 0 0 σ := by
  have tb : ∀ t, t < m → -100000 ≤ (if j < n ∨ j = n + m then V t j else 0) ∧ (if j < n ∨ j = n + m then V t j else 0) ≤ 100000 := fun t ht => by
    by_cases q : j < n ∨ j = n + m
    · rw [if_pos q]; exact hb t j ht hj
    · rw [if_neg q]; omega
  have i1 := nI_ltI (show j < 2 ^ 31 by omega) (show n < 2 ^ 31 by omega)
  have i3 := nI_eq (show j < 2 ^ 31 by omega) (show n + m < 2 ^ 31 by omega)
  obtain ⟨f, hf⟩ := lupE (fun f i (x : Int64) => lp_X7_doFit_183 post K f (nI m) (nI (n + m + 1)) (nI j) x (nI i) σ) (fun i x => x.toInt = sg (fun t => if j < n ∨ j = n + m then V t j else 0) i) m
    (fun f x hx => by
      unfold lp_X7_doFit_183
      refine ⟨fun _ => ?_, fun q => absurd (nI_le (Nat.le_refl m) (by omega)) q⟩
      unfold jn_X7_doFit_234
      rw [ix32, nI_clamp (by omega)]
      refine ⟨in800 (by omega), fun τ e v hv => ?_⟩
      rw [hv, nI_1, e]
      exact hp x hx)
    (fun f i x hi hx ih => by
      have bd := sg_bound (f := fun t => if j < n ∨ j = n + m then V t j else 0) (c := 100000) (n := i) (fun t ht => tb t (by omega))
      have hi10 : ((i : Nat) : Int) ≤ 10 := by omega
      have go : (j < n ∨ j = n + m) → jn_X7_doFit_208 post K (lp_X7_doFit_183 post K f) (nI m) (nI (n + m + 1)) (nI j) (nI i) x σ := fun q => by
        unfold jn_X7_doFit_208
        rw [ix32, nI_clamp (by omega)]
        refine ⟨in800 (by omega), fun v hv u hu => ?_⟩
        rw [hu, nI_1]
        refine ih v ?_
        have e1 := hV i j hi hj
        have b1 := hb i j hi hj
        show _ = sg _ i + (if j < n ∨ j = n + m then V i j else 0)
        rw [if_pos q, hv, fb_addL (by rw [hx, e1]; omega) (by rw [hx, e1]; omega), hx, e1]
      unfold lp_X7_doFit_183
      rw [h0, nI_pred, i1, i3]
      refine ⟨fun q => absurd q (nI_ge hi (by omega)), fun _ => ⟨fun q => go (Or.inl q), fun q => ⟨fun q2 v hv u hu => ?_, fun q2 => go (Or.inr q2)⟩⟩⟩
      rw [hu, nI_1]
      refine ih v ?_
      show _ = sg _ i + (if j < n ∨ j = n + m then V i j else 0)
      have z0 : (0 : Int64).toInt = 0 := rfl
      rw [if_neg (fun z => z.elim q q2), hv, fb_addL (by rw [hx, z0]; omega) (by rw [hx, z0]; omega), hx, z0])
    (Nat.zero_le m) (s := 0) rfl
  rw [nI_0] at hf
  exact ⟨f, hf⟩
theorem wyl_lt {W w : Nat} (hk : k ≤ 10) (hw : w < k) (hb : W.testBit w = true) : (wyL W w).length < pc W := by
  have := (List.getElem?_eq_some_iff.mp (wyL_at (k := 10) (show w < 10 by omega) hb)).1
  rw [wyL_len W 10] at this
  exact this
theorem wyl_end {W : Nat} (hk : k ≤ 10) (hW : W < 2 ^ k) : (wyL W k).length = pc W := by
  rw [← wyL_ten hk hW, wyL_len]; rfl
theorem vrow_b {W : Nat} (N : NetB n k ws ss) (hW : W < 2 ^ k) {t j : Nat} (ht : t < pc W) : -100000 ≤ vrow n (pc W) (Aw ws W) (bw ss W) t j ∧ vrow n (pc W) (Aw ws W) (bw ss W) t j ≤ 100000 := by
  have Y := sys_of N hW (lc := fun _ => 0) (sc := 0) (br := 0) (Nat.two_pow_pos n) (by decide) (fun _ _ => by decide)
  unfold vrow
  by_cases q : j < n
  · rw [if_pos q]; have := Y.2.2.2.2.2.2.1 t j ht q; omega
  · rw [if_neg q]
    by_cases q2 : j < n + pc W
    · rw [if_pos q2]
      by_cases q3 : j = n + t
      · rw [if_pos q3]; omega
      · rw [if_neg q3]; omega
    · rw [if_neg q2]
      by_cases q3 : j = n + pc W
      · rw [if_pos q3]; have := Y.2.2.2.2.2.2.2 t ht; omega
      · rw [if_neg q3]; omega
/-- the ends of the walk -/
theorem fit_end {W : Nat} (N : NetB n k ws ss) (hW : W < 2 ^ k) {τ : St} {S : Sx} (hS : Std n (pc W) (vrow n (pc W) (Aw ws W) (bw ss W)) S) (H : MdC τ n (pc W) S) (hno : ∀ j, j < n → ¬ 0 < Ob n (pc W) S j) {post : Int32 → St → Prop} (hp : ∀ r, ((FitW n ws ss W → r = 1) ∧ (¬ FitW n ws ss W → r = 0)) → post r τ) : jn_X7_doFit_316 post (nI (pc W)) (nI (n + pc W + 1)) τ := by
  have n10 := N.2.1
  have m10 : pc W ≤ 10 := fb_ct_le _ 10
  unfold jn_X7_doFit_316
  rw [ixL, nI_clamp (by omega)]
  have ev : (gB τ 0 (pc W * 32 + (n + pc W))).toInt = Zc n (pc W) (cSlack n (pc W)) S := by
    rw [H.2.2.2.2 (pc W) (n + pc W) (by omega) (by omega)]
    show (if pc W = pc W then Ob n (pc W) S (n + pc W) else _) = _
    rw [if_pos rfl]
    unfold Ob
    rw [cSl_last, Int.mul_zero, Int.sub_zero]; rfl
  refine ⟨in800 (by omega), fun q => ?_, fun q => ?_⟩
  · rw [lc_eq] at q
    have hz : Zc n (pc W) (cSlack n (pc W)) S ≠ 0 := fun z => q (Int64.toInt_inj.mp (by rw [ev, z]; rfl))
    have hh : ∀ j, j < n → Kc (pc W) S.1 S.2.2 (cSlack n (pc W)) j ≤ 0 := fun j hj => by
      have := hno j hj
      unfold Ob at this
      rw [cSl_line hj] at this
      omega
    refine hp 0 ⟨fun ⟨X, υ, h⟩ => ?_, fun _ => rfl⟩
    have hs := (solW_iff N.2.2.1 hW X υ).mp h
    exact absurd (fun t ht _ => hs.2.2 t ht) (no_sol hS hh hz hs.1 hs.2.1)
  · rw [lc_eq] at q
    have hz : Zc n (pc W) (cSlack n (pc W)) S = 0 := by rw [← ev, q]; rfl
    exact hp 1 ⟨fun _ => rfl, fun z => absurd ⟨_, _, (solW_iff N.2.2.1 hW _ _).mpr (xl_sol hS ((z_slack hS).2.mp hz))⟩ z⟩
theorem doFit_wp {σ : St} (F : NetM σ n k o M Bm ws ss os) (G : NetG n k o M Bm ws ss os) {W : Nat} (hW : W < 2 ^ k) {post : Int32 → St → Prop} (hp : ∀ r τ, ((FitW n ws ss W → r = 1) ∧ (¬ FitW n ws ss W → r = 0)) → FrD σ τ → post r τ) : wp_X7_doFit (nI W) σ post := by
  have N := G.1
  have n10 := N.2.1
  have k10 := N.2.2.1
  have hW10 : W < 1024 := Nat.lt_of_lt_of_le hW (Nat.pow_le_pow_right (by decide) k10)
  have m10 : pc W ≤ 10 := fb_ct_le _ 10
  obtain ⟨a1, a2, a3, a4, a5, a6, a7, a8⟩ := F
  have Y : SysB n (pc W) (Aw ws W) (bw ss W) (fun _ => 0) 0 0 := sys_of N hW (Nat.two_pow_pos n) (by decide) (fun _ _ => by decide)
  have hb0 : ∀ t, t < pc W → 0 ≤ bw ss W t := fun t ht => (Y.2.2.2.2.2.2.2 t ht).1
  unfold wp_X7_doFit
  refine bits_wp hW10 (fun σ3 e3 v5 hv5 => ?_)
  have ew : v5 = nI (n + pc W + 1) := by rw [hv5, e3, gI_sI, if_neg (by decide), a1, nI_add, nI_1]
  rw [ew]
  -- behind the rows: the costs' row
  have tail : ∀ τ, FrD σ τ → gI τ 3 = nI (pc W) → (∀ t, t < pc W → gA τ 5 t = nI (n + t)) → Rw τ (pc W) (n + pc W + 1) (vrow n (pc W) (Aw ws W) (bw ss W)) → ∃ fu : Nat, lp_X7_doFit_171 post fu (nI (pc W)) (nI (n + pc W + 1)) 0 τ := by
    intro τ hF h3 hA hR
    obtain ⟨f, hf⟩ := lupE (fun f j (ρ : St) => lp_X7_doFit_171 post f (nI (pc W)) (nI (n + pc W + 1)) (nI j) ρ) (fun j ρ => SameB τ ρ ∧ RowB τ ρ 32 (pc W) j (Ob n (pc W) (c0 n, 1, vrow n (pc W) (Aw ws W) (bw ss W)))) (n + pc W + 1)
      (fun f ρ hρ => by
        obtain ⟨hS, hB⟩ := hρ
        unfold lp_X7_doFit_171
        refine ⟨fun _ => ?_, fun q => absurd (nI_le (Nat.le_refl _) (by omega)) q⟩
        unfold jn_X7_doFit_254
        intro ρ1 e1 ρ3 e3
        have FD : FrD σ ρ3 := by
          refine hF.tr ⟨fun i hi => ?_, fun i _ => ?_⟩
          · rw [e3, gI_sL, e1, gI_sI, if_neg hi]; exact hS.1 i
          · rw [e3, gA_sL, e1, gA_sI]; exact hS.2.2.1 i
        have H : MdC ρ3 n (pc W) (c0 n, 1, vrow n (pc W) (Aw ws W) (bw ss W)) := by
          refine ⟨?_, ?_, ?_, fun s hs => ?_, fun s j hs hj => ?_⟩
          · rw [FD.1 0 (by decide)]; exact a1
          · rw [e3, gI_sL, e1, gI_sI, if_pos rfl, nI_1]
          · rw [e3, gL_sL, if_pos rfl]; rfl
          · rw [e3, gA_sL, e1, gA_sI, hS.2.2.1 5]; exact hA s hs
          · rw [e3, gB_sL, e1, gB_sI]
            unfold TT
            by_cases q : s = pc W
            · rw [if_pos q, q]; exact hB.1 j hj
            · rw [if_neg q, hB.2 _ (fun i hi => row_ne (by omega) (by omega) (fun z => q z.symm))]
              exact hR s j (by omega) hj
        refine enter_wp H n10 m10 (fun e g1 g2 g3 => ⟨258048 + 1, ?_⟩) (fun g => ⟨258048 + 1, ?_⟩)
        · exact fitw_lp Y (σ0 := σ) (fun τ2 S2 h1 h2 h3 h4 => fit_end N hW h1 h2 h4 (fun r hr => hp r τ2 hr h3)) 258048 0 (fun _ => (c0 n, 1, vrow n (pc W) (Aw ws W) (bw ss W))) (fun _ => 0) (fun _ => 0) ρ3 (nI e) (by omega) (fun i hi => absurd hi (Nat.not_lt_zero i)) (std_start hb0) H FD (Or.inr ⟨e, rfl, g1, g2, g3⟩)
        · exact fitw_lp Y (σ0 := σ) (fun τ2 S2 h1 h2 h3 h4 => fit_end N hW h1 h2 h4 (fun r hr => hp r τ2 hr h3)) 258048 0 (fun _ => (c0 n, 1, vrow n (pc W) (Aw ws W) (bw ss W))) (fun _ => 0) (fun _ => 0) ρ3 (-1) (by omega) (fun i hi => absurd hi (Nat.not_lt_zero i)) (std_start hb0) H FD (Or.inl ⟨rfl, g⟩))
      (fun f j ρ hj hρ ih => by
        obtain ⟨hS, hB⟩ := hρ
        unfold lp_X7_doFit_171
        refine ⟨fun q => absurd q (nI_ge hj (by omega)), fun _ => fcol_wp n10 m10 hj (by rw [hS.1 0, hF.1 0 (by decide)]; exact a1) (V := vrow n (pc W) (Aw ws W) (bw ss W)) (fun s i hs hi => ?_) (fun t i ht _ => vrow_b N hW ht) (fun v hv => ih _ ⟨hS.tr (SameB.put ρ _ _), hB.step ?_⟩)⟩
        · rw [hB.2 _ (fun l hl => row_ne (by omega) (by omega) (by omega))]; exact hR s i hs hi
        · rw [hv, ob_start hj])
      (Nat.zero_le _) (s := τ) ⟨SameB.rf τ, fun j hj => absurd hj (Nat.not_lt_zero j), fun x _ => rfl⟩
    rw [nI_0] at hf
    exact ⟨f, hf⟩
  obtain ⟨f, hf⟩ := lupE (fun f w (τ : St) => lp_X7_doFit_22 post f (nI W) (nI (pc W)) (nI (n + pc W + 1)) (nI w) τ) (fun w τ => FrD σ τ ∧ gI τ 3 = nI (wyL W w).length ∧ (∀ t, t < (wyL W w).length → gA τ 5 t = nI (n + t)) ∧ Rw τ (wyL W w).length (n + pc W + 1) (vrow n (pc W) (Aw ws W) (bw ss W))) k
    (fun f τ hτ => by
      obtain ⟨h1, h2, h3, h4⟩ := hτ
      rw [wyl_end k10 hW] at h2 h3 h4
      unfold lp_X7_doFit_22
      rw [h1.1 1 (by decide), a2]
      exact ⟨fun _ => tail τ h1 h2 h3 h4, fun q => absurd (nI_le (Nat.le_refl k) (by omega)) q⟩)
    (fun f w τ hw hτ ih => by
      obtain ⟨h1, h2, h3, h4⟩ := hτ
      unfold lp_X7_doFit_22
      rw [h1.1 1 (by decide), a2, bit_at (by omega) (by omega)]
      refine ⟨fun q => absurd q (nI_ge hw (by omega)), fun _ => ⟨fun q v hv => ?_, fun q => ?_⟩⟩
      · rw [hv, nI_1]
        have e : wyL W (w + 1) = wyL W w := by rw [wyL_succ, if_neg (by rw [(bit_ne1 _).mp q]; decide), List.append_nil]
        exact ih τ ⟨h1, by rw [e]; exact h2, by rw [e]; exact h3, by rw [e]; exact h4⟩
      · have hb := (bit_1 _).mp q
        have hl := wyl_lt k10 hw hb
        have e : (wyL W (w + 1)).length = (wyL W w).length + 1 := by rw [wyL_succ, if_pos hb, List.length_append]; rfl
        have ewy := wy_of k10 hW hw hb
        have ws31 := (N.2.2.2.1 w hw).2
        refine frow_wp n10 m10 hl (by rw [h1.1 0 (by decide)]; exact a1) h2 (show w < 10 by omega) (by rw [h1.2 0 (by decide)]; exact a4 w hw) (m31 ws31 n10) (by rw [h1.2 1 (by decide)]; exact a5 w hw) (by have := N.2.2.2.2 w hw; omega) (A := Aw ws W) (b := bw ss W) (fun j => by unfold Aw; rw [ewy]) (by unfold bw; rw [ewy]) (fun ρ hS hB => ?_)
        unfold jn_X7_doFit_134
        rw [hS.1 3, h2, hS.1 0, h1.1 0 (by decide), a1, nI_add, nI_clamp (by omega)]
        refine ⟨idx10 (by omega), fun ρ1 e1 ρ3 e3 v hv => ?_⟩
        rw [hv, nI_1]
        refine ih ρ3 ⟨h1.tr ⟨fun i hi => ?_, fun i hi => ?_⟩, ?_, fun t ht => ?_, fun s j hs hj => ?_⟩
        · rw [e3, gI_sI, if_neg hi, e1, gI_sA]; exact hS.1 i
        · funext x
          rw [e3, gA_sI, e1, gA_sA, if_neg (fun z => hi z.1), hS.2.2.1 i]
        · rw [e3, gI_sI, if_pos rfl, e1, gI_sA, hS.1 3, h2, nI_1, e]
        · rw [e3, gA_sI, e1, gA_sA]
          rw [e] at ht
          by_cases z : t = (wyL W w).length
          · rw [if_pos ⟨rfl, z⟩, z]
          · rw [if_neg (fun y => z y.2), hS.2.2.1 5]; exact h3 t (by omega)
        · rw [e3, gB_sI, e1, gB_sA]
          rw [e] at hs
          by_cases z : s = (wyL W w).length
          · rw [z]; exact hB.1 j hj
          · rw [hB.2 _ (fun l hl => row_ne (by omega) (by omega) (fun y => z y.symm))]; exact h4 s j (by omega) hj)
    (Nat.zero_le k) (s := σ3) ⟨by
      rw [e3]; exact ⟨fun i hi => by rw [gI_sI, if_neg hi], fun i _ => rfl⟩, by rw [e3, gI_sI, if_pos rfl]; exact nI_0.symm, fun t ht => absurd ht (Nat.not_lt_zero t), fun s j hs => absurd hs (Nat.not_lt_zero s)⟩
  rw [nI_0] at hf
  exact ⟨f, hf⟩
theorem fitsM_wp {σ : St} (F : NetM σ n k o M Bm ws ss os) (G : NetG n k o M Bm ws ss os) {post : Int32 → St → Prop} (hp : ∀ r τ, ((FitW n ws ss M → r = 1) ∧ (¬ FitW n ws ss M → r = 0)) → FrD σ τ → post r τ) : wp_X7_fits σ post := by
  unfold wp_X7_fits
  refine onSet_wp F G (doFit_wp F G G.2.2.1 (fun r τ hr hF => ⟨fun q => ?_, fun q => ?_⟩))
  · exact hp _ _ ⟨fun z => absurd (hr.1 z) (by rw [q]; decide), fun _ => rfl⟩ hF
  · exact hp _ _ ⟨fun _ => rfl, fun z => absurd (hr.2 z) q⟩ hF
end MF3
