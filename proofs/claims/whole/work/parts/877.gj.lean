/-! ===== elimination: rows of a base and the rest; what is put together with fractions ===== -/
theorem rd_id {k : Nat} {C : Nat → Nat} {P : List Vc} (B : Bs k C P) (z : Vc) (j : Nat) : DC C k P * z j = sg (fun s => z (C s) * DC (cu C s j) k P) k + Rd k C P z j := by
  have := B.2.2 (fun j => Rd k C P z j - DC C k P * z j + sg (fun s => z (C s) * DC (cu C s j) k P) k)
    (sp_add (rd_sp k C P z) (sp_sg (fun s => z (C s)) (fun s j => DC (cu C s j) k P) (fun s hs => dc_sp C k s P hs)))
    (fun s hs => by
      show Rd k C P z (C s) - DC C k P * z (C s) + sg (fun q => z (C q) * DC (cu C q (C s)) k P) k = 0
      rw [rd_at B.1 hs, sg_one hs (fun q hq hne => by rw [dc_at k C P B.1 hq hs (fun e => hne e.symm), Int.mul_zero]), cu_self, Int.mul_comm]; omega) j
  omega
/-- put together with fractions -/
def QSp (vs : List Vc) (f : Vc) : Prop := ∃ a : Int, a ≠ 0 ∧ InSp vs (fun j => a * f j)
theorem q_of {vs : List Vc} {f : Vc} (h : InSp vs f) : QSp vs f := ⟨1, by decide, sp_congr h (fun j => (Int.one_mul _).symm)⟩
theorem q_mem {vs : List Vc} {f : Vc} (h : f ∈ vs) : QSp vs f := q_of (sp_mem h)
theorem q_mono {vs ws : List Vc} {f : Vc} (h : QSp vs f) (hs : ∀ x ∈ vs, x ∈ ws) : QSp ws f := by
  obtain ⟨a, ha, hf⟩ := h
  exact ⟨a, ha, sp_mono hf hs⟩
theorem q_add {vs : List Vc} {f g : Vc} (hf : QSp vs f) (hg : QSp vs g) : QSp vs (fun j => f j + g j) := by
  obtain ⟨a, ha, hf⟩ := hf
  obtain ⟨b, hb, hg⟩ := hg
  refine ⟨a * b, Int.mul_ne_zero ha hb, sp_congr (sp_add (sp_mul b hf) (sp_mul a hg)) (fun j => ?_)⟩
  show b * (a * f j) + a * (b * g j) = a * b * (f j + g j)
  grind
theorem q_mul {vs : List Vc} {f : Vc} (c : Int) (hf : QSp vs f) : QSp vs (fun j => c * f j) := by
  obtain ⟨a, ha, hf⟩ := hf
  refine ⟨a, ha, sp_congr (sp_mul c hf) (fun j => ?_)⟩
  show c * (a * f j) = a * (c * f j)
  grind
theorem q_congr {vs : List Vc} {f g : Vc} (h : QSp vs f) (e : ∀ j, f j = g j) : QSp vs g := (funext e : f = g) ▸ h
theorem q_in {P Q : List Vc} (h : ∀ v ∈ P, QSp Q v) {f : Vc} (hf : InSp P f) : QSp Q f := by
  obtain ⟨cs, h1, h2⟩ := hf
  refine q_congr (f := fun j => (cs.map (fun c => c.1 * c.2 j)).sum) ?_ (fun j => (h2 j).symm)
  clear h2
  induction cs with
  | nil => exact q_of (sp_congr (sp_zero Q) (fun j => by simp))
  | cons c cs ih =>
    refine q_congr (q_add (q_mul c.1 (h c.2 (h1 c List.mem_cons_self))) (ih (fun d hd => h1 d (List.mem_cons_of_mem _ hd)))) (fun j => ?_)
    rw [List.map_cons, List.sum_cons]
theorem q_tr {P Q : List Vc} (h : ∀ v ∈ P, QSp Q v) {f : Vc} (hf : QSp P f) : QSp Q f := by
  obtain ⟨a, ha, hf⟩ := hf
  obtain ⟨b, hb, hg⟩ := q_in h hf
  exact ⟨b * a, Int.mul_ne_zero hb ha, sp_congr hg (fun j => (Int.mul_assoc _ _ _).symm)⟩
theorem rd_in {k : Nat} {C : Nat → Nat} {P : List Vc} (B : Bs k C P) {z : Vc} (h : InSp P z) (j : Nat) : Rd k C P z j = 0 :=
  B.2.2 (Rd k C P z) (sp_congr (sp_add (rd_sp k C P z) (sp_mul (DC C k P) h)) (fun j => by omega)) (fun s hs => rd_at B.1 hs) j
theorem rd_mul {k : Nat} {C : Nat → Nat} {P : List Vc} (B : Bs k C P) (a : Int) (z : Vc) (j : Nat) : Rd k C P (fun i => a * z i) j = a * Rd k C P z j := by
  have e1 := rd_id B z j
  have e2 := rd_id B (fun i => a * z i) j
  have e3 : sg (fun s => a * z (C s) * DC (cu C s j) k P) k = a * sg (fun s => z (C s) * DC (cu C s j) k P) k := by
    rw [← sg_mul]; exact sg_congr (fun s _ => Int.mul_assoc _ _ _)
  have e4 : DC C k P * (a * z j) = a * (DC C k P * z j) := Int.mul_left_comm _ _ _
  have e2' : DC C k P * (a * z j) = sg (fun s => a * z (C s) * DC (cu C s j) k P) k + Rd k C P (fun i => a * z i) j := e2
  rw [e3, e4, e1, Int.mul_add] at e2'
  omega
theorem rd_q {k : Nat} {C : Nat → Nat} {P : List Vc} (B : Bs k C P) {z : Vc} (h : QSp P z) (j : Nat) : Rd k C P z j = 0 := by
  obtain ⟨a, ha, hz⟩ := h
  have := rd_in B hz j
  rw [rd_mul B] at this
  exact (Int.mul_eq_zero.mp this).resolve_left ha
theorem q_rd {k : Nat} {C : Nat → Nat} {P : List Vc} (B : Bs k C P) {z : Vc} (h : ∀ j, Rd k C P z j = 0) : QSp P z :=
  ⟨DC C k P, B.2.1, sp_congr (sp_mul (-1) (rd_sp k C P z)) (fun j => by rw [h j]; omega)⟩
/-- coordinates of a base are different -/
theorem bs_inj {k : Nat} {C : Nat → Nat} {P : List Vc} (B : Bs k C P) {s t : Nat} (hs : s < t) (ht : t < k) : C s ≠ C t := fun e => B.2.1 (dc_twice C k s t P hs ht e B.1)
/-- no more vectors in a base than coordinates that tell -/
theorem dim_le {k : Nat} {C : Nat → Nat} {P : List Vc} (B : Bs k C P) {k' : Nat} {C' : Nat → Nat} (h : ∀ y, InSp P y → (∀ s, s < k' → y (C' s) = 0) → ∀ j, y j = 0) : k ≤ k' := by
  have key : ∀ t, t ≤ k → ∃ D : Nat → Nat, Bs k D P ∧ ∀ s, s < t → ∃ u, u < k' ∧ D s = C' u := by
    intro t
    induction t with
    | zero => exact fun _ => ⟨C, B, fun s hs => absurd hs (Nat.not_lt_zero s)⟩
    | succ t ih =>
      intro ht
      obtain ⟨D, hD, hd⟩ := ih (by omega)
      have hne : ∃ u, u < k' ∧ DC (cu D t (C' u)) k P ≠ 0 := by
        rcases Classical.em (∃ u, u < k' ∧ DC (cu D t (C' u)) k P ≠ 0) with q | q
        · exact q
        · exfalso
          have h0 := h (fun j => DC (cu D t j) k P) (dc_sp D k t P (by omega)) (fun s hs => by
            rcases Classical.em (DC (cu D t (C' s)) k P = 0) with z | z
            · exact z
            · exact absurd ⟨s, hs, z⟩ q) (D t)
          have h1 : DC (cu D t (D t)) k P = 0 := h0
          rw [cu_self] at h1
          exact hD.2.1 h1
      obtain ⟨u, hu, hne⟩ := hne
      refine ⟨cu D t (C' u), bs_swap hD (by omega) (C' u) hne, fun s hs => ?_⟩
      by_cases q : s = t
      · rw [q, cu_same]; exact ⟨u, hu, rfl⟩
      · rw [cu_ne _ q]; exact hd s (by omega)
  obtain ⟨D, hD, hd⟩ := key k (Nat.le_refl k)
  have hch : ∃ f : Nat → Nat, ∀ s, s < k → f s < k' ∧ D s = C' (f s) := by
    refine ⟨fun s => if hs : s < k then (hd s hs).choose else 0, fun s hs => ?_⟩
    show (if hs : s < k then (hd s hs).choose else 0) < k' ∧ D s = C' (if hs : s < k then (hd s hs).choose else 0)
    rw [dif_pos hs]
    exact (hd s hs).choose_spec
  obtain ⟨f, hf⟩ := hch
  refine fb_holes k' k f (fun i hi => (hf i hi).1) (fun i j hij hj e => bs_inj hD hij hj ?_)
  rw [(hf i (by omega)).2, (hf j hj).2, e]
theorem dim_q {k k' : Nat} {C C' : Nat → Nat} {P P' : List Vc} (B : Bs k C P) (B' : Bs k' C' P') (h : ∀ v ∈ P, QSp P' v) : k ≤ k' :=
  dim_le B (fun y hy h0 j => by
    obtain ⟨a, ha, hz⟩ := q_in h hy
    have := B'.2.2 (fun j => a * y j) hz (fun s hs => by show a * y (C' s) = 0; rw [h0 s hs, Int.mul_zero]) j
    exact (Int.mul_eq_zero.mp this).resolve_left ha)
/-- the table: k rows of the base (coordinates C), behind them the rest of the rows z -/
def GJ (R k : Nat) (C : Nat → Nat) (P : List Vc) (z : Nat → Vc) (d : Int) (T : Nat → Nat → Int) : Prop :=
  Bs k C P ∧ d = DC C k P ∧ (∀ i, i < k → ∀ j, T i j = DC (cu C i j) k P) ∧ ∀ i, k ≤ i → i < R → ∀ j, T i j = Rd k C P (z i) j
theorem gj_start (R : Nat) (C : Nat → Nat) (z : Nat → Vc) : GJ R 0 C [] z 1 z := by
  refine ⟨bs_nil C, rfl, fun i hi => absurd hi (Nat.not_lt_zero i), fun i _ _ j => ?_⟩
  show z i j = z i (cu C 0 j 0) * 1 - 0
  rw [cu_same]; omega
theorem gj_step {R k : Nat} {C : Nat → Nat} {P : List Vc} {z : Nat → Vc} {d : Int} {T : Nat → Nat → Int} (h : GJ R k C P z d T) (hk : k < R) {c : Nat} (hc : T k c ≠ 0) : ∃ T', GJ R (k + 1) (cu C k c) (z k :: P) z (T k c) T' ∧ (∀ j, T' k j = T k j) ∧ ∀ i, i < R → i ≠ k → ∀ j, d * T' i j = T i j * T k c - T i c * T k j := by
  obtain ⟨B, hd, hb, hr⟩ := h
  have e0 := hr k (Nat.le_refl k) hk
  have hh : Rd k C P (z k) c ≠ 0 := by rw [← e0]; exact hc
  refine ⟨fun i j => if i < k + 1 then DC (cu (cu C k c) i j) (k + 1) (z k :: P) else Rd (k + 1) (cu C k c) (z k :: P) (z i) j, ⟨bs_more B (z k) c hh, by rw [e0]; rfl, fun i hi j => if_pos hi, fun i h1 _ j => if_neg (by omega)⟩, fun j => ?_, fun i hi hne j => ?_⟩
  · show (if k < k + 1 then DC (cu (cu C k c) k j) (k + 1) (z k :: P) else _) = _
    rw [if_pos (Nat.lt_succ_self k), cu_cu, e0]; rfl
  · show d * (if i < k + 1 then DC (cu (cu C k c) i j) (k + 1) (z k :: P) else Rd (k + 1) (cu C k c) (z k :: P) (z i) j) = _
    rw [hd, e0, e0]
    by_cases q : i < k
    · rw [if_pos (by omega), bs_step_base B (z k) c hh q j, hb i q, hb i q, Int.mul_comm (Rd k C P (z k) c)]
    · rw [if_neg (by omega), bs_step_rest B (z k) c hh (z i) j, hr i (by omega) hi, hr i (by omega) hi, Int.mul_comm (Rd k C P (z k) c)]
/-- two rows of the rest change places -/
def swV (z : Nat → Vc) (a b : Nat) : Nat → Vc := fun i => if i = a then z b else if i = b then z a else z i
theorem gj_swap {R k : Nat} {C : Nat → Nat} {P : List Vc} {z : Nat → Vc} {d : Int} {T : Nat → Nat → Int} (h : GJ R k C P z d T) {a : Nat} (h1 : k ≤ a) (h2 : a < R) : GJ R k C P (swV z a k) d (swT T a k) := by
  obtain ⟨B, hd, hb, hr⟩ := h
  refine ⟨B, hd, fun i hi j => ?_, fun i hi hR j => ?_⟩
  · unfold swT
    rw [if_neg (by omega), if_neg (by omega)]; exact hb i hi j
  · unfold swT swV
    by_cases q : i = a
    · rw [if_pos q, if_pos q]; exact hr k (Nat.le_refl k) (by omega) j
    · rw [if_neg q, if_neg q]
      by_cases q2 : i = k
      · rw [if_pos q2, if_pos q2]; exact hr a h1 h2 j
      · rw [if_neg q2, if_neg q2]; exact hr i hi hR j
/-- zeros and ones: small determinants -/
theorem dc_small {m : Nat} (hm : m ≤ 10) (C : Nat → Nat) (vs : List Vc) (hl : vs.length = m) (h : ∀ u ∈ vs, ∀ t, t < m → 0 ≤ u (C t) ∧ u (C t) ≤ 1) : -38981 ≤ DC C m vs ∧ DC C m vs ≤ 38981 := by
  have hfm : ∀ k : Nat, k ≤ 10 → (fct (k + 1) : Int) ≤ 38981 * 2 ^ k + 2 ^ k - 1 := by decide
  have h1 := dc_sign C m vs hl h
  have h2 := hfm m hm
  have hp : (0 : Int) < 2 ^ m := Int.pow_pos (by decide)
  generalize hD : DC C m vs = D at h1 ⊢
  refine ⟨?_, ?_⟩
  · by_cases q : -38981 ≤ D
    · exact q
    · have : 2 ^ m * D ≤ 2 ^ m * (-38982) := Int.mul_le_mul_of_nonneg_left (by omega) (Int.le_of_lt hp)
      omega
  · by_cases q : D ≤ 38981
    · exact q
    · have : 2 ^ m * 38982 ≤ 2 ^ m * D := Int.mul_le_mul_of_nonneg_left (by omega) (Int.le_of_lt hp)
      omega
theorem dc_large {m : Nat} (hm : m ≤ 10) (C : Nat → Nat) (i : Nat) (vs : List Vc) (hl : vs.length = m) (h : ∀ u ∈ vs, ∀ t, t < m → t ≠ i → 0 ≤ u (C t) ∧ u (C t) ≤ 1) (hb : ∀ u ∈ vs, -100000 ≤ u (C i) ∧ u (C i) ≤ 100000) : -362880000000 ≤ DC C m vs ∧ DC C m vs ≤ 362880000000 := by
  have hfm2 : ∀ k : Nat, k ≤ 10 → (fct k : Int) ≤ 3628800 := by decide
  have h1 := dc_fct_big C i 100000 (by decide) m vs hl (fun u hu t ht hne => by have := h u hu t ht hne; omega) hb
  have h2 := hfm2 m hm
  omega
/-- columns of zeros and ones (Z) -/
def Z01 (R : Nat) (P : List Vc) (z : Nat → Vc) (j : Nat) : Prop := (∀ u ∈ P, 0 ≤ u j ∧ u j ≤ 1) ∧ ∀ i, i < R → 0 ≤ z i j ∧ z i j ≤ 1
theorem gj_small {R k : Nat} {C : Nat → Nat} {P : List Vc} {z : Nat → Vc} {d : Int} {T : Nat → Nat → Int} (h : GJ R k C P z d T) (hk : k ≤ 10) (hk2 : k < R → k < 10) (hC : ∀ s, s < k → Z01 R P z (C s)) : (-38981 ≤ d ∧ d ≤ 38981) ∧ ∀ j, Z01 R P z j → ∀ i, i < R → -38981 ≤ T i j ∧ T i j ≤ 38981 := by
  obtain ⟨B, hd, hb, hr⟩ := h
  refine ⟨by rw [hd]; exact dc_small hk C P B.1 (fun u hu t ht => (hC t ht).1 u hu), fun j hj i hi => ?_⟩
  by_cases q : i < k
  · rw [hb i q]
    refine dc_small hk _ P B.1 (fun u hu t ht => ?_)
    by_cases w : t = i
    · rw [w, cu_same]; exact hj.1 u hu
    · rw [cu_ne _ w]; exact (hC t ht).1 u hu
  · rw [hr i (by omega) hi]
    refine dc_small (show k + 1 ≤ 10 by have := hk2 (by omega); omega) _ (z i :: P) (by simp [B.1]) (fun u hu t ht => ?_)
    have hu2 : ∀ c, Z01 R P z c → 0 ≤ u c ∧ u c ≤ 1 := fun c hc => by
      rcases List.mem_cons.mp hu with e | e
      · rw [e]; exact hc.2 i hi
      · exact hc.1 u e
    by_cases w : t = k
    · rw [w, cu_same]; exact hu2 j hj
    · rw [cu_ne _ w]; exact hu2 _ (hC t (by omega))
theorem gj_large {R k : Nat} {C : Nat → Nat} {P : List Vc} {z : Nat → Vc} {d : Int} {T : Nat → Nat → Int} (h : GJ R k C P z d T) (hk : k ≤ 10) (hk2 : k < R → k < 10) (hC : ∀ s, s < k → Z01 R P z (C s)) {j : Nat} (hj1 : ∀ u ∈ P, -100000 ≤ u j ∧ u j ≤ 100000) (hj2 : ∀ i, i < R → -100000 ≤ z i j ∧ z i j ≤ 100000) : ∀ i, i < R → -362880000000 ≤ T i j ∧ T i j ≤ 362880000000 := by
  obtain ⟨B, hd, hb, hr⟩ := h
  intro i hi
  by_cases q : i < k
  · rw [hb i q]
    refine dc_large hk _ i P B.1 (fun u hu t ht hne => ?_) (fun u hu => ?_)
    · rw [cu_ne _ hne]; exact (hC t ht).1 u hu
    · rw [cu_same]; exact hj1 u hu
  · rw [hr i (by omega) hi]
    refine dc_large (show k + 1 ≤ 10 by have := hk2 (by omega); omega) _ k (z i :: P) (by simp [B.1]) (fun u hu t ht hne => ?_) (fun u hu => ?_)
    · rw [cu_ne _ hne]
      rcases List.mem_cons.mp hu with e | e
      · rw [e]; exact (hC t (by omega)).2 i hi
      · exact (hC t (by omega)).1 u e
    · rw [cu_same]
      rcases List.mem_cons.mp hu with e | e
      · rw [e]; exact hj2 i hi
      · exact hj1 u e
