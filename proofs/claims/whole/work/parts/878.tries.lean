/-! ===== the reference's elimination ===== -/
/-- the rows of the base and of the rest are the given ones, and these are all there -/
def Cov (R k : Nat) (P : List Vc) (z O : Nat → Vc) : Prop := (∀ u ∈ P, ∃ t, t < R ∧ u = O t) ∧ (∀ i, i < R → ∃ t, t < R ∧ z i = O t) ∧ ∀ t, t < R → O t ∈ P ∨ ∃ i, k ≤ i ∧ i < R ∧ O t = z i
theorem cov_start (R : Nat) (O : Nat → Vc) : Cov R 0 [] O O := ⟨fun u h => absurd h List.not_mem_nil, fun i hi => ⟨i, hi, rfl⟩, fun t ht => Or.inr ⟨t, Nat.zero_le t, ht, rfl⟩⟩
theorem cov_swap {R k : Nat} {P : List Vc} {z O : Nat → Vc} (h : Cov R k P z O) {a : Nat} (h1 : k ≤ a) (h2 : a < R) : Cov R k P (swV z a k) O := by
  obtain ⟨c1, c2, c3⟩ := h
  refine ⟨c1, fun i hi => ?_, fun t ht => ?_⟩
  · unfold swV
    by_cases q : i = a
    · rw [if_pos q]; exact c2 k (by omega)
    · rw [if_neg q]
      by_cases q2 : i = k
      · rw [if_pos q2]; exact c2 a h2
      · rw [if_neg q2]; exact c2 i hi
  · rcases c3 t ht with e | ⟨i, i1, i2, e⟩
    · exact Or.inl e
    · refine Or.inr ?_
      by_cases q : i = a
      · refine ⟨k, Nat.le_refl k, by omega, ?_⟩
        unfold swV
        by_cases q2 : k = a
        · rw [if_pos q2, e, q, q2]
        · rw [if_neg q2, if_pos rfl, e, q]
      · by_cases q2 : i = k
        · refine ⟨a, h1, h2, ?_⟩
          unfold swV
          rw [if_pos rfl, e, q2]
        · refine ⟨i, i1, i2, ?_⟩
          unfold swV
          rw [if_neg q, if_neg q2, e]
theorem cov_step {R k : Nat} {P : List Vc} {z O : Nat → Vc} (h : Cov R k P z O) (hk : k < R) : Cov R (k + 1) (z k :: P) z O := by
  obtain ⟨c1, c2, c3⟩ := h
  refine ⟨fun u hu => ?_, c2, fun t ht => ?_⟩
  · rcases List.mem_cons.mp hu with e | e
    · rw [e]; exact c2 k hk
    · exact c1 u e
  · rcases c3 t ht with e | ⟨i, i1, i2, e⟩
    · exact Or.inl (List.mem_cons_of_mem _ e)
    · by_cases q : i = k
      · rw [e, q]; exact Or.inl List.mem_cons_self
      · exact Or.inr ⟨i, by omega, i2, e⟩
theorem cov_01 {R k : Nat} {P : List Vc} {z O : Nat → Vc} (h : Cov R k P z O) {j : Nat} (h0 : ∀ t, t < R → 0 ≤ O t j ∧ O t j ≤ 1) : Z01 R P z j :=
  ⟨fun u hu => by obtain ⟨t, ht, e⟩ := h.1 u hu; rw [e]; exact h0 t ht, fun i hi => by obtain ⟨t, ht, e⟩ := h.2.1 i hi; rw [e]; exact h0 t ht⟩
theorem cov_B {R k : Nat} {P : List Vc} {z O : Nat → Vc} (h : Cov R k P z O) {j : Nat} (h0 : ∀ t, t < R → -100000 ≤ O t j ∧ O t j ≤ 100000) : (∀ u ∈ P, -100000 ≤ u j ∧ u j ≤ 100000) ∧ ∀ i, i < R → -100000 ≤ z i j ∧ z i j ≤ 100000 :=
  ⟨fun u hu => by obtain ⟨t, ht, e⟩ := h.1 u hu; rw [e]; exact h0 t ht, fun i hi => by obtain ⟨t, ht, e⟩ := h.2.1 i hi; rw [e]; exact h0 t ht⟩
theorem swpv_wp {σ : St} {R w k c : Nat} (hR : R ≤ 25) (hw : w ≤ 32) (hc : c < w) (h3 : gI σ 3 = nI R) {C : Nat → Nat} {P : List Vc} {z O : Nat → Vc} {d : Int} {T : Nat → Nat → Int} (J : GJ R k C P z d T) (V : Cov R k P z O) (hT : Rw σ R w T) (hd : (gL σ 0).toInt = d)
    (hb1 : ∀ i j, i < R → j < w → -362880000000 ≤ T i j ∧ T i j ≤ 362880000000) (hb2 : ∀ i, i < R → -38981 ≤ T i c ∧ T i c ≤ 38981)
    (hb3 : ∀ P' z' d' T', GJ R (k + 1) (cu C k c) P' z' d' T' → Cov R (k + 1) P' z' O → ∀ i j, i < R → j < w → -9000000000000000000 ≤ T' i j ∧ T' i j ≤ 9000000000000000000)
    {a : Nat} (ha1 : k ≤ a) (ha2 : a < R) (hne : T a c ≠ 0) {x : St → Int32} (hx : ∀ τ, SameB σ τ → x τ = nI w) {Y : St → Prop}
    (hy : ∀ τ P' z' d' T', GJ R (k + 1) (cu C k c) P' z' d' T' → Cov R (k + 1) P' z' O → Rw τ R w T' → (gL τ 0).toInt = d' → PvF σ τ → Y τ) : wp_X7_swap (nI a) (nI k) (nI w) σ (fun σ6 => wp_X7_pivot (nI k) (nI c) (x σ6) σ6 Y) := by
  have hk : k < R := by omega
  refine swapM_wp hR hw ha2 hk hT (fun σ6 hS hT6 => ?_)
  rw [hx σ6 hS]
  have J6 := gj_swap J ha1 ha2
  have V6 := cov_swap V ha1 ha2
  have e0 : swT T a k k = T a := by
    unfold swT
    by_cases q : k = a
    · rw [if_pos q, q]
    · rw [if_neg q, if_pos rfl]
  have sb : ∀ i, i < R → ∃ l, l < R ∧ swT T a k i = T l := fun i hi => by
    unfold swT
    by_cases q : i = a
    · exact ⟨k, hk, if_pos q⟩
    · by_cases q2 : i = k
      · exact ⟨a, ha2, by rw [if_neg q, if_pos q2]⟩
      · exact ⟨i, hi, by rw [if_neg q, if_neg q2]⟩
  have ne : swT T a k k c ≠ 0 := by rw [e0]; exact hne
  obtain ⟨T', J', t1, t2⟩ := gj_step J6 hk ne
  have V' := cov_step V6 hk
  have hd0 : d ≠ 0 := by rw [J.2.1]; exact J.1.2.1
  refine pivM_wp (T := swT T a k) (T' := T') hR hw hk hc (by rw [hS.1 3]; exact h3) (by rw [hS.2.1 0]; exact hd) hd0 hT6 (fun j _ => t1 j) (fun i hi hi2 j _ => t2 i hi hi2 j) (fun i j hi _ hj => ?_) (fun i j hi _ hj => ?_) (fun i j hi _ hj => hb3 _ _ _ _ J' V' i j hi hj) (fun τ F R7 L7 => hy τ _ _ _ T' J' V' R7 L7 ((PvF.sm hS).tr F))
  · obtain ⟨l, hl, el⟩ := sb i hi
    rw [el, e0]
    have := abs_mul_le (hb1 l j hl hj) (hb2 a ha2)
    omega
  · obtain ⟨l, hl, el⟩ := sb i hi
    rw [el, e0]
    have := abs_mul_le (hb2 l hl) (hb1 a j ha2 hj)
    omega
/-! ===== the lines of a set, by number ===== -/
theorem sg_wy {s n : Nat} {f : Nat → Int} (hn : n ≤ 10) (hs : s < 2 ^ n) (h : ∀ j, j < n → s.testBit j = false → f j = 0) : sg f n = sg (fun t => f (wy s t)) (pc s) := by
  have key : ∀ m, m ≤ n → sg f m = sg (fun t => f (wy s t)) (wyL s m).length := by
    intro m
    induction m with
    | zero => exact fun _ => rfl
    | succ m ih =>
      intro hm
      show sg f m + f m = _
      rw [ih (by omega), wyL_succ]
      by_cases q : s.testBit m = true
      · rw [if_pos q, List.length_append]
        show _ = sg (fun t => f (wy s t)) (wyL s m).length + f (wy s (wyL s m).length)
        rw [wy_of hn hs (show m < n by omega) q]
      · rw [if_neg q, List.append_nil, h m (by omega) (Bool.eq_false_iff.mpr q), Int.add_zero]
  rw [key n (Nat.le_refl n), wyl_end hn hs]
theorem wy_pos {s n t : Nat} (hn : n ≤ 10) (hs : s < 2 ^ n) (ht : t < pc s) : (wyL s (wy s t)).length = t := by
  obtain ⟨i, h1, h2, h3⟩ := fb_ct_kth (p := fun i => s.testBit i) (n := 10) ht
  rw [← wyL_len] at h3
  have hi : i < n := by
    rcases Nat.lt_or_ge i n with q | q
    · exact q
    · rw [bits_of_lt hs q] at h2; cases h2
  have := wy_of hn hs hi h2
  rw [h3] at this
  rw [this, h3]
/-- the rows that tries() lays out: the lines of s, then the sum -/
def zT (ws ss : Nat → Nat) (M s : Nat) : Nat → Vc := fun t j => if j < pc s then Aw ws M t (wy s j) else if j = pc s then bw ss M t else 0
/-- only lines of s -/
def Supp (n s : Nat) (X : Nat → Int) : Prop := ∀ j, j < n → s.testBit j = false → X j = 0
/-- the lines of s are told by the ways -/
def Indp (n : Nat) (ws : Nat → Nat) (M s : Nat) : Prop := ∀ y : Nat → Int, Supp n s y → (∀ w, M.testBit w = true → sg (fun j => (if (ws w).testBit j then 1 else 0) * y j) n = 0) → ∀ j, j < n → y j = 0
section TRS
variable {n k : Nat} {ws ss : Nat → Nat} {M s : Nat}
/-- a way's sum, by the columns -/
theorem row_sum (hn : n ≤ 10) (hs : s < 2 ^ n) {X : Nat → Int} (hX : Supp n s X) (t : Nat) : sg (fun j => (if (ws (wy M t)).testBit j then 1 else 0) * X j) n = sg (fun j => zT ws ss M s t j * X (wy s j)) (pc s) := by
  rw [sg_wy hn hs (f := fun j => (if (ws (wy M t)).testBit j then 1 else 0) * X j) (fun j hj hb => by
    show (if (ws (wy M t)).testBit j = true then (1 : Int) else 0) * X j = 0
    rw [hX j hj hb, Int.mul_zero])]
  refine sg_congr (fun j hj => ?_)
  show (if (ws (wy M t)).testBit (wy s j) = true then (1 : Int) else 0) * X (wy s j) = zT ws ss M s t j * X (wy s j)
  unfold zT Aw
  rw [if_pos hj]
theorem zT_last (t : Nat) : zT ws ss M s t (pc s) = bw ss M t := by
  unfold zT; rw [if_neg (Nat.lt_irrefl _), if_pos rfl]
/-- all pivots found: solutions on s are those of the table -/
theorem gj_fin {R q : Nat} {P : List Vc} {z O : Nat → Vc} {d : Int} {T : Nat → Nat → Int} (J : GJ R q (fun i => i) P z d T) (V : Cov R q P z O) (hq : q ≤ R) :
    (∀ y : Nat → Int, (∀ t, t < R → sg (fun j => O t j * y j) q = 0) → ∀ i, i < q → y i = 0) ∧
    (∀ (y : Nat → Int) (τ : Int), (∀ t, t < R → sg (fun j => O t j * y j) q = τ * O t q) → (∀ i, i < q → d * y i = τ * T i q) ∧ ∀ i, q ≤ i → i < R → τ * T i q = 0) ∧
    ((∀ i, q ≤ i → i < R → T i q = 0) → ∀ t, t < R → sg (fun j => O t j * T j q) q = d * O t q) := by
  obtain ⟨B, hd, hb, hr⟩ := J
  have dd : ∀ i, i < q → ∀ j, j < q → T i j = if j = i then d else 0 := fun i hi j hj => by
    rw [hb i hi]
    by_cases e : j = i
    · rw [if_pos e, e, hd]
      have := cu_self (fun i : Nat => i) i
      exact congrArg (fun c => DC c q P) this
    · rw [if_neg e]; exact dc_at q (fun i => i) P B.1 hi hj e
  have hsp : ∀ i, i < q → InSp P (T i) := fun i hi => sp_congr (dc_sp (fun i => i) q i P hi) (fun j => (hb i hi j).symm)
  have second : ∀ (y : Nat → Int) (τ : Int), (∀ t, t < R → sg (fun j => O t j * y j) q = τ * O t q) → (∀ i, i < q → d * y i = τ * T i q) ∧ ∀ i, q ≤ i → i < R → τ * T i q = 0 := by
    intro y τ h
    have hw : ∀ a : Nat → Int, dt (q + 1) a (fun j => if j < q then y j else -τ) = sg (fun j => a j * y j) q - τ * a q := fun a => by
      show sg (fun j => a j * (if j < q then y j else -τ)) q + a q * (if q < q then y q else -τ) = _
      rw [if_neg (Nat.lt_irrefl q), sg_congr (g := fun j => a j * y j) (fun j hj => by rw [if_pos hj]), Int.mul_neg, Int.mul_comm τ]; omega
    have h0 : ∀ t, t < R → dt (q + 1) (O t) (fun j => if j < q then y j else -τ) = 0 := fun t ht => by rw [hw, h t ht]; omega
    have hP : ∀ u ∈ P, dt (q + 1) u (fun j => if j < q then y j else -τ) = 0 := fun u hu => by
      obtain ⟨t, ht, e⟩ := V.1 u hu
      rw [e]; exact h0 t ht
    refine ⟨fun i hi => ?_, fun i h1 h2 => ?_⟩
    · have := dt_sp (hsp i hi) hP
      rw [hw, sg_one hi (fun j hj hne => by rw [dd i hi j hj, if_neg hne, Int.zero_mul]), dd i hi i hi, if_pos rfl] at this
      omega
    · have hz : ∀ u ∈ z i :: P, dt (q + 1) u (fun j => if j < q then y j else -τ) = 0 := fun u hu => by
        rcases List.mem_cons.mp hu with e | e
        · obtain ⟨t, ht, e2⟩ := V.2.1 i h2
          rw [e, e2]; exact h0 t ht
        · exact hP u e
      have spx : InSp (z i :: P) (Rd q (fun i => i) P (z i)) := sp_congr (sp_add (sp_mono (rd_sp q (fun i => i) P (z i)) (fun y hy => List.mem_cons_of_mem _ hy)) (sp_mul (DC (fun i => i) q P) (sp_mem List.mem_cons_self))) (fun j => by omega)
      have := dt_sp (sp_congr spx (fun j => (hr i h1 h2 j).symm)) hz
      rw [hw, sg_zero (fun j hj => by
        have : T i j = 0 := by rw [hr i h1 h2]; exact rd_at (C := fun i => i) B.1 hj
        rw [this, Int.zero_mul])] at this
      omega
  refine ⟨fun y h i hi => ?_, second, fun h0 t ht => ?_⟩
  · have := (second y 0 (fun t ht => by rw [h t ht]; omega)).1 i hi
    rw [Int.zero_mul] at this
    exact (Int.mul_eq_zero.mp this).resolve_left (by rw [hd]; exact B.2.1)
  · have id1 := rd_id B (O t) q
    have rz : Rd q (fun i => i) P (O t) q = 0 := by
      rcases V.2.2 t ht with e | ⟨i, i1, i2, e⟩
      · exact rd_in B (sp_mem e) q
      · rw [e, ← hr i i1 i2]; exact h0 i i1 i2
    rw [rz, Int.add_zero] at id1
    rw [hd, id1]
    exact sg_congr (fun j hj => by rw [hb j hj])
/-- a column without a pivot: the lines up to it aren't told -/
theorem gj_dep {R c : Nat} {P : List Vc} {z O : Nat → Vc} {d : Int} {T : Nat → Nat → Int} (J : GJ R c (fun i => i) P z d T) (V : Cov R c P z O) (h0 : ∀ i, c ≤ i → i < R → T i c = 0) : ∀ t, t < R → sg (fun j => O t j * (if j < c then T j c else if j = c then -d else 0)) (c + 1) = 0 := by
  obtain ⟨B, hd, hb, hr⟩ := J
  intro t ht
  have id1 := rd_id B (O t) c
  have rz : Rd c (fun i => i) P (O t) c = 0 := by
    rcases V.2.2 t ht with e | ⟨i, i1, i2, e⟩
    · exact rd_in B (sp_mem e) c
    · rw [e, ← hr i i1 i2]; exact h0 i i1 i2
  rw [rz, Int.add_zero] at id1
  show sg (fun j => O t j * (if j < c then T j c else if j = c then -d else 0)) c + O t c * (if c < c then T c c else if c = c then -d else 0) = 0
  rw [if_neg (Nat.lt_irrefl c), if_pos rfl, sg_congr (g := fun s => O t s * DC (cu (fun i => i) s c) c P) (fun j hj => by rw [if_pos hj, hb j hj]), ← id1, Int.mul_neg, hd, Int.mul_comm]
  omega
end TRS
