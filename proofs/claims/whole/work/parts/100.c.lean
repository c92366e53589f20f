/-! X2_startAnew -/
abbrev rm_X2_startAnew : Room := { frames := 0, cells := 0, slots := 0, locals := 0 }
def wp_X2_startAnew (x1 : Int32) (σ : St) (post : St → Prop) : Prop :=
  ∀ σ1 : St, σ1 = sI σ 0 x1 → ∀ σ3 : St, σ3 = sI σ1 1 0 → ∀ σ5 : St, σ5 = sI σ3 2 0 → ∀ σ7 : St, σ7 = sI σ5 3 0 → ∀ σ9 : St, σ9 = sI σ7 4 0 → post σ9
set_option maxRecDepth 100000 in
set_option maxHeartbeats 4000000 in
theorem c_X2_startAnew (l : Launch) (G : va_G) (tI tJ tZ : ClassId) (ad : Nat → Nat) (hD : ∀ σ, va_D (Ad 22 ad) (wdC tI tJ tZ ad σ)) (x1 : Int32) (σ : St) (post : St → Prop) (h : wp_X2_startAnew x1 σ post) : Ct l yX2_startAnew wsX2_startAnew rm_X2_startAnew G (tyL tI tJ tZ) (wdC tI tJ tZ ad) (Ad 22 ad) [.ref (ad 1), .int x1] σ (Qv G (wdC tI tJ tZ ad) (Ad 22 ad) post) := by
  refine wm_entry (cc := cX2_startAnew) (maxL := 2) (ret := none) (own := RX2) (lv := [(0, .ref (ad 1)), (1, .int x1)]) (by decide +kernel) rfl rfl (Nat.le_of_ble_eq_true rfl) rfl hD ?_
  intro p e s m below meth c X hr
  unfold wp_X2_startAnew at h
  refine wm_aload_n X 0 rfl dX2_startAnew_0 ?_
  refine wm_iload_n X 1 rfl dX2_startAnew_1 ?_
  refine wm_put (σ' := sI σ 0 x1) X (by decide +kernel) tyX2 tyX2_ok nmX2 1 rfl rfl 3 (by decide) (by decide +kernel) rfl (tyX2_ok 3 (by decide)) rfl rfl (Nat.le_of_ble_eq_true rfl) rfl dX2_startAnew_2 ?_
  refine wm_nmS (fun σ1 e2 => ?_)
  replace h := h σ1 e2
  clear e2
  refine wm_aload_n X 0 rfl dX2_startAnew_5 ?_
  refine wm_iconst (v := 0) X (by decide) dX2_startAnew_6 ?_
  refine wm_put (σ' := sI σ1 1 0) X (by decide +kernel) tyX2 tyX2_ok nmX2 1 rfl rfl 4 (by decide) (by decide +kernel) rfl (tyX2_ok 4 (by decide)) rfl rfl (Nat.le_of_ble_eq_true rfl) rfl dX2_startAnew_7 ?_
  refine wm_nmS (fun σ3 e4 => ?_)
  replace h := h σ3 e4
  clear e4
  refine wm_aload_n X 0 rfl dX2_startAnew_10 ?_
  refine wm_iconst (v := 0) X (by decide) dX2_startAnew_11 ?_
  refine wm_put (σ' := sI σ3 2 0) X (by decide +kernel) tyX2 tyX2_ok nmX2 1 rfl rfl 5 (by decide) (by decide +kernel) rfl (tyX2_ok 5 (by decide)) rfl rfl (Nat.le_of_ble_eq_true rfl) rfl dX2_startAnew_12 ?_
  refine wm_nmS (fun σ5 e6 => ?_)
  replace h := h σ5 e6
  clear e6
  refine wm_aload_n X 0 rfl dX2_startAnew_15 ?_
  refine wm_iconst (v := 0) X (by decide) dX2_startAnew_16 ?_
  refine wm_put (σ' := sI σ5 3 0) X (by decide +kernel) tyX2 tyX2_ok nmX2 1 rfl rfl 6 (by decide) (by decide +kernel) rfl (tyX2_ok 6 (by decide)) rfl rfl (Nat.le_of_ble_eq_true rfl) rfl dX2_startAnew_17 ?_
  refine wm_nmS (fun σ7 e8 => ?_)
  replace h := h σ7 e8
  clear e8
  refine wm_aload_n X 0 rfl dX2_startAnew_20 ?_
  refine wm_iconst (v := 0) X (by decide) dX2_startAnew_21 ?_
  refine wm_put (σ' := sI σ7 4 0) X (by decide +kernel) tyX2 tyX2_ok nmX2 1 rfl rfl 7 (by decide) (by decide +kernel) rfl (tyX2_ok 7 (by decide)) rfl rfl (Nat.le_of_ble_eq_true rfl) rfl dX2_startAnew_22 ?_
  refine wm_nmS (fun σ9 e10 => ?_)
  replace h := h σ9 e10
  clear e10
  exact wm_vret X hr h dX2_startAnew_25
/-! X0_forget -/
abbrev rm_X0_forget : Room := { frames := 0, cells := 0, slots := 0, locals := 0 }
def wp_X0_forget (σ : St) (post : St → Prop) : Prop :=
  ∀ σ1 : St, σ1 = sI σ 10 (-1) → post σ1
set_option maxRecDepth 100000 in
set_option maxHeartbeats 4000000 in
theorem c_X0_forget (l : Launch) (G : va_G) (tI tJ tZ : ClassId) (ad : Nat → Nat) (hD : ∀ σ, va_D (Ad 22 ad) (wdC tI tJ tZ ad σ))  (σ : St) (post : St → Prop) (h : wp_X0_forget  σ post) : Ct l yX0_forget wsX0_forget rm_X0_forget G (tyL tI tJ tZ) (wdC tI tJ tZ ad) (Ad 22 ad) [.ref (ad 5)] σ (Qv G (wdC tI tJ tZ ad) (Ad 22 ad) post) := by
  refine wm_entry (cc := cX0_forget) (maxL := 1) (ret := none) (own := RX0) (lv := [(0, .ref (ad 5))]) (by decide +kernel) rfl rfl (Nat.le_of_ble_eq_true rfl) rfl hD ?_
  intro p e s m below meth c X hr
  unfold wp_X0_forget at h
  refine wm_aload_n X 0 rfl dX0_forget_0 ?_
  refine wm_iconst (v := (-1)) X (by decide) dX0_forget_1 ?_
  refine wm_put (σ' := sI σ 10 (-1)) X (by decide +kernel) tyX0 tyX0_ok nmX0 5 rfl rfl 10 (by decide) (by decide +kernel) rfl (tyX0_ok 10 (by decide)) rfl rfl (Nat.le_of_ble_eq_true rfl) rfl dX0_forget_2 ?_
  refine wm_nmS (fun σ1 e2 => ?_)
  replace h := h σ1 e2
  clear e2
  exact wm_vret X hr h dX0_forget_5
/-! X1_forget -/
abbrev rm_X1_forget : Room := { frames := 0, cells := 0, slots := 0, locals := 0 }
def wp_X1_forget (σ : St) (post : St → Prop) : Prop :=
  ∀ σ1 : St, σ1 = sI σ 13 0 → post σ1
set_option maxRecDepth 100000 in
set_option maxHeartbeats 4000000 in
theorem c_X1_forget (l : Launch) (G : va_G) (tI tJ tZ : ClassId) (ad : Nat → Nat) (hD : ∀ σ, va_D (Ad 22 ad) (wdC tI tJ tZ ad σ))  (σ : St) (post : St → Prop) (h : wp_X1_forget  σ post) : Ct l yX1_forget wsX1_forget rm_X1_forget G (tyL tI tJ tZ) (wdC tI tJ tZ ad) (Ad 22 ad) [.ref (ad 10)] σ (Qv G (wdC tI tJ tZ ad) (Ad 22 ad) post) := by
  refine wm_entry (cc := cX1_forget) (maxL := 1) (ret := none) (own := RX1) (lv := [(0, .ref (ad 10))]) (by decide +kernel) rfl rfl (Nat.le_of_ble_eq_true rfl) rfl hD ?_
  intro p e s m below meth c X hr
  unfold wp_X1_forget at h
  refine wm_aload_n X 0 rfl dX1_forget_0 ?_
  refine wm_iconst (v := 0) X (by decide) dX1_forget_1 ?_
  refine wm_put (σ' := sI σ 13 0) X (by decide +kernel) tyX1 tyX1_ok nmX1 10 rfl rfl 2 (by decide) (by decide +kernel) rfl (tyX1_ok 2 (by decide)) (bz_narrow bz_0) (bz_fits bz_0) (Nat.le_of_ble_eq_true rfl) rfl dX1_forget_2 ?_
  refine wm_nmS (fun σ1 e2 => ?_)
  replace h := h σ1 e2
  clear e2
  exact wm_vret X hr h dX1_forget_5
/-! X6_forgetAnswers -/
abbrev rm_X6_forgetAnswers : Room := { frames := 1, cells := 0, slots := 0, locals := 20 }
def wp_X6_forgetAnswers (σ : St) (post : St → Prop) : Prop :=
  wp_X0_forget σ (fun σ2 => wp_X1_forget σ2 (fun σ4 => post σ4))
set_option maxRecDepth 100000 in
set_option maxHeartbeats 4000000 in
theorem c_X6_forgetAnswers (l : Launch) (G : va_G) (tI tJ tZ : ClassId) (ad : Nat → Nat) (hD : ∀ σ, va_D (Ad 22 ad) (wdC tI tJ tZ ad σ))  (σ : St) (post : St → Prop) (h : wp_X6_forgetAnswers  σ post) : Ct l yX6_forgetAnswers wsX6_forgetAnswers rm_X6_forgetAnswers G (tyL tI tJ tZ) (wdC tI tJ tZ ad) (Ad 22 ad) [.ref (ad 0)] σ (Qv G (wdC tI tJ tZ ad) (Ad 22 ad) post) := by
  refine wm_entry (cc := cX6_forgetAnswers) (maxL := 1) (ret := none) (own := RX6) (lv := [(0, .ref (ad 0))]) (by decide +kernel) rfl rfl (Nat.le_of_ble_eq_true rfl) rfl hD ?_
  intro p e s m below meth c X hr
  unfold wp_X6_forgetAnswers at h
  refine wm_aload_n X 0 rfl dX6_forgetAnswers_0 ?_
  refine wm_get X (by decide +kernel) 0 rfl rfl 1 (by decide) (by decide +kernel) rfl dX6_forgetAnswers_1 ?_
  refine wm_callVv (n := 0) (As := []) (rest := []) X (c_X0_forget l G tI tJ tZ ad hD σ _ h) gX6_forgetAnswers_X0_forget rfl ⟨rfl, rfl⟩ (by decide +kernel) ⟨Nat.le_of_ble_eq_true rfl, Nat.le_of_ble_eq_true rfl⟩ 5 rfl rfl rfl rfl rfl (Nat.le_of_ble_eq_true rfl) dX6_forgetAnswers_4 (fun σ2 h => ?_)
  refine wm_aload_n X 0 rfl dX6_forgetAnswers_7 ?_
  refine wm_get X (by decide +kernel) 0 rfl rfl 2 (by decide) (by decide +kernel) rfl dX6_forgetAnswers_8 ?_
  refine wm_callVv (n := 0) (As := []) (rest := []) X (c_X1_forget l G tI tJ tZ ad hD σ2 _ h) gX6_forgetAnswers_X1_forget rfl ⟨rfl, rfl⟩ (by decide +kernel) ⟨Nat.le_of_ble_eq_true rfl, Nat.le_of_ble_eq_true rfl⟩ 10 rfl rfl rfl rfl rfl (Nat.le_of_ble_eq_true rfl) dX6_forgetAnswers_11 (fun σ4 h => ?_)
  exact wm_vret X hr h dX6_forgetAnswers_14
/-! X6_lines -/
abbrev rm_X6_lines : Room := { frames := 2, cells := 0, slots := 0, locals := 40 }
def wp_X6_lines (x1 : Int32) (σ : St) (post : Int32 → St → Prop) : Prop :=
  (x1 < 1 → post (-102) σ) ∧ (¬ x1 < 1 → (x1 ≤ 10 → ∀ v3 : Int32, v3 = gI σ 0 → wp_X2_startAnew x1 σ (fun σ6 => wp_X6_forgetAnswers σ6 (fun σ8 => post v3 σ8))) ∧ (¬ x1 ≤ 10 → post (-102) σ))
set_option maxRecDepth 100000 in
set_option maxHeartbeats 4000000 in
theorem c_X6_lines (l : Launch) (G : va_G) (tI tJ tZ : ClassId) (ad : Nat → Nat) (hD : ∀ σ, va_D (Ad 22 ad) (wdC tI tJ tZ ad σ)) (x1 : Int32) (σ : St) (post : Int32 → St → Prop) (h : wp_X6_lines x1 σ post) : Ct l yX6_lines wsX6_lines rm_X6_lines G (tyL tI tJ tZ) (wdC tI tJ tZ ad) (Ad 22 ad) [.ref (ad 0), .int x1] σ (Qi G (wdC tI tJ tZ ad) (Ad 22 ad) post) := by
  refine wm_entry (cc := cX6_lines) (maxL := 3) (ret := (some .int)) (own := RX6) (lv := [(0, .ref (ad 0)), (1, .int x1)]) (by decide +kernel) rfl rfl (Nat.le_of_ble_eq_true rfl) rfl hD ?_
  intro p e s m below meth c X hr
  unfold wp_X6_lines at h
  refine wm_iload_n X 1 rfl dX6_lines_0 ?_
  refine wm_iconst (v := 1) X (by decide) dX6_lines_1 ?_
  refine wm_icmp_lt (tgt := 11) X (by decide) dX6_lines_2 (fun c1 => ?_) (fun c1 => ?_)
  · replace h := h.1 c1
    refine wm_bipush (v := (-102)) X (by decide) dX6_lines_11 ?_
    exact wm_iret X hr h dX6_lines_13
  · replace h := h.2 c1
    refine wm_iload_n X 1 rfl dX6_lines_5 ?_
    refine wm_bipush (v := 10) X (by decide) dX6_lines_6 ?_
    refine wm_icmp_le (tgt := 14) X (by decide) dX6_lines_8 (fun c2 => ?_) (fun c2 => ?_)
    · replace h := h.1 c2
      refine wm_aload_n X 0 rfl dX6_lines_14 ?_
      refine wm_get X (by decide +kernel) 0 rfl rfl 0 (by decide) (by decide +kernel) rfl dX6_lines_15 ?_
      refine wm_get X (by decide +kernel) 1 rfl rfl 3 (by decide) (by decide +kernel) rfl dX6_lines_18 ?_
      refine wm_nmI (fun v3 e4 => ?_)
      replace h := h v3 e4
      clear e4
      refine wm_istore_n (lv' := [(2, .int v3), (0, .ref (ad 0)), (1, .int x1)]) X rfl (by decide) rfl dX6_lines_21 ?_
      refine wm_aload_n X 1 rfl dX6_lines_22 ?_
      refine wm_get X (by decide +kernel) 0 rfl rfl 0 (by decide) (by decide +kernel) rfl dX6_lines_23 ?_
      refine wm_iload_n X 2 rfl dX6_lines_26 ?_
      refine wm_callVv (n := 1) (As := [.int x1]) (rest := []) X (c_X2_startAnew l G tI tJ tZ ad hD x1 σ _ h) gX6_lines_X2_startAnew rfl ⟨rfl, rfl⟩ (by decide +kernel) ⟨Nat.le_of_ble_eq_true rfl, Nat.le_of_ble_eq_true rfl⟩ 1 rfl rfl rfl rfl rfl (Nat.le_of_ble_eq_true rfl) dX6_lines_27 (fun σ6 h => ?_)
      refine wm_aload_n X 1 rfl dX6_lines_30 ?_
      refine wm_callVv (n := 0) (As := []) (rest := []) X (c_X6_forgetAnswers l G tI tJ tZ ad hD σ6 _ h) gX6_lines_X6_forgetAnswers rfl ⟨rfl, rfl⟩ (by decide +kernel) ⟨Nat.le_of_ble_eq_true rfl, Nat.le_of_ble_eq_true rfl⟩ 0 rfl rfl rfl rfl rfl (Nat.le_of_ble_eq_true rfl) dX6_lines_31 (fun σ8 h => ?_)
      refine wm_iload_n X 0 rfl dX6_lines_34 ?_
      exact wm_iret X hr h dX6_lines_35
    · replace h := h.2 c2
      refine wm_bipush (v := (-102)) X (by decide) dX6_lines_11 ?_
      exact wm_iret X hr h dX6_lines_13
/-! X2_isLineSet -/
abbrev rm_X2_isLineSet : Room := { frames := 0, cells := 0, slots := 0, locals := 0 }
def wp_X2_isLineSet (x1 : Int32) (σ : St) (post : Int32 → St → Prop) : Prop :=
  (x1 < 0 → post 0 σ) ∧ (¬ x1 < 0 → ((1 <<< ((gI σ 0) &&& 31)) ≤ x1 → post 0 σ) ∧ (¬ (1 <<< ((gI σ 0) &&& 31)) ≤ x1 → post 1 σ))
set_option maxRecDepth 100000 in
set_option maxHeartbeats 4000000 in
theorem c_X2_isLineSet (l : Launch) (G : va_G) (tI tJ tZ : ClassId) (ad : Nat → Nat) (hD : ∀ σ, va_D (Ad 22 ad) (wdC tI tJ tZ ad σ)) (x1 : Int32) (σ : St) (post : Int32 → St → Prop) (h : wp_X2_isLineSet x1 σ post) : Ct l yX2_isLineSet wsX2_isLineSet rm_X2_isLineSet G (tyL tI tJ tZ) (wdC tI tJ tZ ad) (Ad 22 ad) [.ref (ad 1), .int x1] σ (Qi G (wdC tI tJ tZ ad) (Ad 22 ad) post) := by
  refine wm_entry (cc := cX2_isLineSet) (maxL := 2) (ret := (some .boolean)) (own := RX2) (lv := [(0, .ref (ad 1)), (1, .int x1)]) (by decide +kernel) rfl rfl (Nat.le_of_ble_eq_true rfl) rfl hD ?_
  intro p e s m below meth c X hr
  unfold wp_X2_isLineSet at h
  refine wm_iload_n X 1 rfl dX2_isLineSet_0 ?_
  refine wm_if_lt (tgt := 18) X (by decide) dX2_isLineSet_1 (fun c1 => ?_) (fun c1 => ?_)
  · replace h := h.1 c1
    refine wm_iconst (v := 0) X (by decide) dX2_isLineSet_18 ?_
    exact wm_zret X hr bz_0 h dX2_isLineSet_19
  · replace h := h.2 c1
    refine wm_iload_n X 1 rfl dX2_isLineSet_4 ?_
    refine wm_iconst (v := 1) X (by decide) dX2_isLineSet_5 ?_
    refine wm_aload_n X 0 rfl dX2_isLineSet_6 ?_
    refine wm_get X (by decide +kernel) 1 rfl rfl 3 (by decide) (by decide +kernel) rfl dX2_isLineSet_7 ?_
    refine wm_ishl X dX2_isLineSet_10 ?_
    refine wm_icmp_ge (tgt := 18) X (by decide) dX2_isLineSet_11 (fun c2 => ?_) (fun c2 => ?_)
    · replace h := h.1 c2
      refine wm_iconst (v := 0) X (by decide) dX2_isLineSet_18 ?_
      exact wm_zret X hr bz_0 h dX2_isLineSet_19
    · replace h := h.2 c2
      refine wm_iconst (v := 1) X (by decide) dX2_isLineSet_14 ?_
      refine wm_goto (tgt := 19) X (by decide) dX2_isLineSet_15 ?_
      exact wm_zret X hr bz_1 h dX2_isLineSet_19
/-! X2_isFilledLineSet -/
abbrev rm_X2_isFilledLineSet : Room := { frames := 1, cells := 0, slots := 0, locals := 21 }
def wp_X2_isFilledLineSet (x1 : Int32) (σ : St) (post : Int32 → St → Prop) : Prop :=
  (x1 = 0 → post 0 σ) ∧ (¬ x1 = 0 → wp_X2_isLineSet x1 σ (fun r2 σ3 => (r2 = 0 → post 0 σ3) ∧ (¬ r2 = 0 → post 1 σ3)))
set_option maxRecDepth 100000 in
set_option maxHeartbeats 4000000 in
theorem c_X2_isFilledLineSet (l : Launch) (G : va_G) (tI tJ tZ : ClassId) (ad : Nat → Nat) (hD : ∀ σ, va_D (Ad 22 ad) (wdC tI tJ tZ ad σ)) (x1 : Int32) (σ : St) (post : Int32 → St → Prop) (h : wp_X2_isFilledLineSet x1 σ post) : Ct l yX2_isFilledLineSet wsX2_isFilledLineSet rm_X2_isFilledLineSet G (tyL tI tJ tZ) (wdC tI tJ tZ ad) (Ad 22 ad) [.ref (ad 1), .int x1] σ (Qi G (wdC tI tJ tZ ad) (Ad 22 ad) post) := by
  refine wm_entry (cc := cX2_isFilledLineSet) (maxL := 2) (ret := (some .boolean)) (own := RX2) (lv := [(0, .ref (ad 1)), (1, .int x1)]) (by decide +kernel) rfl rfl (Nat.le_of_ble_eq_true rfl) rfl hD ?_
  intro p e s m below meth c X hr
  unfold wp_X2_isFilledLineSet at h
  refine wm_iload_n X 1 rfl dX2_isFilledLineSet_0 ?_
  refine wm_if_eq (tgt := 16) X (by decide) dX2_isFilledLineSet_1 (fun c1 => ?_) (fun c1 => ?_)
  · replace h := h.1 c1
    refine wm_iconst (v := 0) X (by decide) dX2_isFilledLineSet_16 ?_
    exact wm_zret X hr bz_0 h dX2_isFilledLineSet_17
  · replace h := h.2 c1
    refine wm_aload_n X 0 rfl dX2_isFilledLineSet_4 ?_
    refine wm_iload_n X 1 rfl dX2_isFilledLineSet_5 ?_
    refine wm_callVi (n := 1) (As := [.int x1]) (rest := []) X (c_X2_isLineSet l G tI tJ tZ ad hD x1 σ _ h) gX2_isFilledLineSet_X2_isLineSet rfl ⟨rfl, rfl⟩ (by decide +kernel) ⟨Nat.le_of_ble_eq_true rfl, Nat.le_of_ble_eq_true rfl⟩ 1 rfl rfl rfl rfl rfl (Nat.le_of_ble_eq_true rfl) dX2_isFilledLineSet_6 (fun r2 σ3 h => ?_)
    refine wm_if_eq (tgt := 16) X (by decide) dX2_isFilledLineSet_9 (fun c4 => ?_) (fun c4 => ?_)
    · replace h := h.1 c4
      refine wm_iconst (v := 0) X (by decide) dX2_isFilledLineSet_16 ?_
      exact wm_zret X hr bz_0 h dX2_isFilledLineSet_17
    · replace h := h.2 c4
      refine wm_iconst (v := 1) X (by decide) dX2_isFilledLineSet_12 ?_
      refine wm_goto (tgt := 17) X (by decide) dX2_isFilledLineSet_13 ?_
      exact wm_zret X hr bz_1 h dX2_isFilledLineSet_17
/-! X6_isSum -/
abbrev rm_X6_isSum : Room := { frames := 0, cells := 0, slots := 0, locals := 0 }
def wp_X6_isSum (x0 : Int32) (σ : St) (post : Int32 → St → Prop) : Prop :=
  (x0 < 0 → post 0 σ) ∧ (¬ x0 < 0 → (100000 < x0 → post 0 σ) ∧ (¬ 100000 < x0 → post 1 σ))
set_option maxRecDepth 100000 in
set_option maxHeartbeats 4000000 in
theorem c_X6_isSum (l : Launch) (G : va_G) (tI tJ tZ : ClassId) (ad : Nat → Nat) (hD : ∀ σ, va_D (Ad 22 ad) (wdC tI tJ tZ ad σ)) (x0 : Int32) (σ : St) (post : Int32 → St → Prop) (h : wp_X6_isSum x0 σ post) : Ct l yX6_isSum wsX6_isSum rm_X6_isSum G (tyL tI tJ tZ) (wdC tI tJ tZ ad) (Ad 22 ad) [.int x0] σ (Qi G (wdC tI tJ tZ ad) (Ad 22 ad) post) := by
  refine wm_entry (cc := cX6_isSum) (maxL := 1) (ret := (some .boolean)) (own := RX6) (lv := [(0, .int x0)]) (by decide +kernel) rfl rfl (Nat.le_of_ble_eq_true rfl) rfl hD ?_
  intro p e s m below meth c X hr
  unfold wp_X6_isSum at h
  refine wm_iload_n X 0 rfl dX6_isSum_0 ?_
  refine wm_if_lt (tgt := 14) X (by decide) dX6_isSum_1 (fun c1 => ?_) (fun c1 => ?_)
  · replace h := h.1 c1
    refine wm_iconst (v := 0) X (by decide) dX6_isSum_14 ?_
    exact wm_zret X hr bz_0 h dX6_isSum_15
  · replace h := h.2 c1
    refine wm_iload_n X 0 rfl dX6_isSum_4 ?_
    refine wm_ldc (v := 100000) X (by decide +kernel) dX6_isSum_5 ?_
    refine wm_icmp_gt (tgt := 14) X (by decide) dX6_isSum_7 (fun c2 => ?_) (fun c2 => ?_)
    · replace h := h.1 c2
      refine wm_iconst (v := 0) X (by decide) dX6_isSum_14 ?_
      exact wm_zret X hr bz_0 h dX6_isSum_15
    · replace h := h.2 c2
      refine wm_iconst (v := 1) X (by decide) dX6_isSum_10 ?_
      refine wm_goto (tgt := 15) X (by decide) dX6_isSum_11 ?_
      exact wm_zret X hr bz_1 h dX6_isSum_15
/-! X6_withBit -/
abbrev rm_X6_withBit : Room := { frames := 0, cells := 0, slots := 0, locals := 0 }
def wp_X6_withBit (x0 : Int32) (x1 : Int32) (x2 : Int32) (σ : St) (post : Int32 → St → Prop) : Prop :=
  (x2 = 0 → post (x0 &&& ((1 <<< (x1 &&& 31)) ^^^ (-1))) σ) ∧ (¬ x2 = 0 → post (x0 ||| (1 <<< (x1 &&& 31))) σ)
set_option maxRecDepth 100000 in
set_option maxHeartbeats 4000000 in
theorem c_X6_withBit (l : Launch) (G : va_G) (tI tJ tZ : ClassId) (ad : Nat → Nat) (hD : ∀ σ, va_D (Ad 22 ad) (wdC tI tJ tZ ad σ)) (x0 : Int32) (x1 : Int32) (x2 : Int32) (σ : St) (post : Int32 → St → Prop) (h : wp_X6_withBit x0 x1 x2 σ post) : Ct l yX6_withBit wsX6_withBit rm_X6_withBit G (tyL tI tJ tZ) (wdC tI tJ tZ ad) (Ad 22 ad) [.int x0, .int x1, .int x2] σ (Qi G (wdC tI tJ tZ ad) (Ad 22 ad) post) := by
  refine wm_entry (cc := cX6_withBit) (maxL := 3) (ret := (some .int)) (own := RX6) (lv := [(0, .int x0), (1, .int x1), (2, .int x2)]) (by decide +kernel) rfl rfl (Nat.le_of_ble_eq_true rfl) rfl hD ?_
  intro p e s m below meth c X hr
  unfold wp_X6_withBit at h
  refine wm_iload_n X 2 rfl dX6_withBit_0 ?_
  refine wm_if_eq (tgt := 12) X (by decide) dX6_withBit_1 (fun c1 => ?_) (fun c1 => ?_)
  · replace h := h.1 c1
    refine wm_iload_n X 0 rfl dX6_withBit_12 ?_
    refine wm_iconst (v := 1) X (by decide) dX6_withBit_13 ?_
    refine wm_iload_n X 1 rfl dX6_withBit_14 ?_
    refine wm_ishl X dX6_withBit_15 ?_
    refine wm_iconst (v := (-1)) X (by decide) dX6_withBit_16 ?_
    refine wm_ixor X dX6_withBit_17 ?_
    refine wm_iand X dX6_withBit_18 ?_
    exact wm_iret X hr h dX6_withBit_19
  · replace h := h.2 c1
    refine wm_iload_n X 0 rfl dX6_withBit_4 ?_
    refine wm_iconst (v := 1) X (by decide) dX6_withBit_5 ?_
    refine wm_iload_n X 1 rfl dX6_withBit_6 ?_
    refine wm_ishl X dX6_withBit_7 ?_
    refine wm_ior X dX6_withBit_8 ?_
    refine wm_goto (tgt := 19) X (by decide) dX6_withBit_9 ?_
    exact wm_iret X hr h dX6_withBit_19
/-! X2_addWay -/
abbrev rm_X2_addWay : Room := { frames := 1, cells := 0, slots := 0, locals := 22 }
def wp_X2_addWay (x1 : Int32) (x2 : Int32) (σ : St) (post : Int32 → St → Prop) : Prop :=
  ∀ v1 : Int32, v1 = gI σ 1 → vp_in v1 10 ∧ (∀ σ3 : St, σ3 = sA σ 0 (Int32.toNatClampNeg v1) x1 → vp_in v1 10 ∧ (∀ σ5 : St, σ5 = sA σ3 1 (Int32.toNatClampNeg v1) x2 → wp_X6_withBit (gI σ5 3) v1 1 σ5 (fun r7 σ8 => ∀ σ9 : St, σ9 = sI σ8 3 r7 → wp_X6_withBit (gI σ9 4) v1 0 σ9 (fun r11 σ12 => ∀ σ13 : St, σ13 = sI σ12 4 r11 → ∀ σ15 : St, σ15 = sI σ13 1 ((gI σ13 1) + 1) → post v1 σ15))))
set_option maxRecDepth 100000 in
set_option maxHeartbeats 4000000 in
theorem c_X2_addWay (l : Launch) (G : va_G) (tI tJ tZ : ClassId) (ad : Nat → Nat) (hD : ∀ σ, va_D (Ad 22 ad) (wdC tI tJ tZ ad σ)) (x1 : Int32) (x2 : Int32) (σ : St) (post : Int32 → St → Prop) (h : wp_X2_addWay x1 x2 σ post) : Ct l yX2_addWay wsX2_addWay rm_X2_addWay G (tyL tI tJ tZ) (wdC tI tJ tZ ad) (Ad 22 ad) [.ref (ad 1), .int x1, .int x2] σ (Qi G (wdC tI tJ tZ ad) (Ad 22 ad) post) := by
  refine wm_entry (cc := cX2_addWay) (maxL := 4) (ret := (some .int)) (own := RX2) (lv := [(0, .ref (ad 1)), (1, .int x1), (2, .int x2)]) (by decide +kernel) rfl rfl (Nat.le_of_ble_eq_true rfl) rfl hD ?_
  intro p e s m below meth c X hr
  unfold wp_X2_addWay at h
  refine wm_aload_n X 0 rfl dX2_addWay_0 ?_
  refine wm_get X (by decide +kernel) 1 rfl rfl 4 (by decide) (by decide +kernel) rfl dX2_addWay_1 ?_
  refine wm_nmI (fun v1 e2 => ?_)
  replace h := h v1 e2
  clear e2
  refine wm_istore_n (lv' := [(3, .int v1), (0, .ref (ad 1)), (1, .int x1), (2, .int x2)]) X rfl (by decide) rfl dX2_addWay_4 ?_
  refine wm_aload_n X 1 rfl dX2_addWay_5 ?_
  refine wm_get X (by decide +kernel) 1 rfl rfl 0 (by decide) (by decide +kernel) rfl dX2_addWay_6 ?_
  refine wm_iload_n X 0 rfl dX2_addWay_9 ?_
  refine wm_iload_n X 2 rfl dX2_addWay_10 ?_
  refine wm_iast (σ' := sA σ 0 (Int32.toNatClampNeg v1) x1) X 2 0 rfl rfl h.1 rfl dX2_addWay_11 ?_
  replace h := h.2
  refine wm_nmS (fun σ3 e4 => ?_)
  replace h := h σ3 e4
  clear e4
  refine wm_aload_n X 1 rfl dX2_addWay_12 ?_
  refine wm_get X (by decide +kernel) 1 rfl rfl 1 (by decide) (by decide +kernel) rfl dX2_addWay_13 ?_
  refine wm_iload_n X 0 rfl dX2_addWay_16 ?_
  refine wm_iload_n X 3 rfl dX2_addWay_17 ?_
  refine wm_iast (σ' := sA σ3 1 (Int32.toNatClampNeg v1) x2) X 3 0 rfl rfl h.1 rfl dX2_addWay_18 ?_
  replace h := h.2
  refine wm_nmS (fun σ5 e6 => ?_)
  replace h := h σ5 e6
  clear e6
  refine wm_aload_n X 1 rfl dX2_addWay_19 ?_
  refine wm_aload_n X 1 rfl dX2_addWay_20 ?_
  refine wm_get X (by decide +kernel) 1 rfl rfl 6 (by decide) (by decide +kernel) rfl dX2_addWay_21 ?_
  refine wm_iload_n X 0 rfl dX2_addWay_24 ?_
  refine wm_iconst (v := 1) X (by decide) dX2_addWay_25 ?_
  refine wm_callNi (n := 3) (As := [.int (gI σ5 3), .int v1, .int 1]) (rest := [.ref (ad 1)]) X (c_X6_withBit l G tI tJ tZ ad hD (gI σ5 3) v1 1 σ5 _ h) gX2_addWay_X6_withBit_n41 rfl ⟨rfl, rfl⟩ (List.mem_of_getElem? (i := 7) rfl) (by decide +kernel) (by decide +kernel) (by decide +kernel) ⟨Nat.le_of_ble_eq_true rfl, Nat.le_of_ble_eq_true rfl⟩ rfl rfl (Nat.le_of_ble_eq_true rfl) dX2_addWay_26 (fun r7 σ8 h => ?_)
  refine wm_put (σ' := sI σ8 3 r7) X (by decide +kernel) tyX2 tyX2_ok nmX2 1 rfl rfl 6 (by decide) (by decide +kernel) rfl (tyX2_ok 6 (by decide)) rfl rfl (Nat.le_of_ble_eq_true rfl) rfl dX2_addWay_29 ?_
  refine wm_nmS (fun σ9 e10 => ?_)
  replace h := h σ9 e10
  clear e10
  refine wm_aload_n X 1 rfl dX2_addWay_32 ?_
  refine wm_aload_n X 1 rfl dX2_addWay_33 ?_
  refine wm_get X (by decide +kernel) 1 rfl rfl 7 (by decide) (by decide +kernel) rfl dX2_addWay_34 ?_
  refine wm_iload_n X 0 rfl dX2_addWay_37 ?_
  refine wm_iconst (v := 0) X (by decide) dX2_addWay_38 ?_
  refine wm_callNi (n := 3) (As := [.int (gI σ9 4), .int v1, .int 0]) (rest := [.ref (ad 1)]) X (c_X6_withBit l G tI tJ tZ ad hD (gI σ9 4) v1 0 σ9 _ h) gX2_addWay_X6_withBit_n41 rfl ⟨rfl, rfl⟩ (List.mem_of_getElem? (i := 7) rfl) (by decide +kernel) (by decide +kernel) (by decide +kernel) ⟨Nat.le_of_ble_eq_true rfl, Nat.le_of_ble_eq_true rfl⟩ rfl rfl (Nat.le_of_ble_eq_true rfl) dX2_addWay_39 (fun r11 σ12 h => ?_)
  refine wm_put (σ' := sI σ12 4 r11) X (by decide +kernel) tyX2 tyX2_ok nmX2 1 rfl rfl 7 (by decide) (by decide +kernel) rfl (tyX2_ok 7 (by decide)) rfl rfl (Nat.le_of_ble_eq_true rfl) rfl dX2_addWay_42 ?_
  refine wm_nmS (fun σ13 e14 => ?_)
  replace h := h σ13 e14
  clear e14
  refine wm_aload_n X 1 rfl dX2_addWay_45 ?_
  refine wm_dup X rfl dX2_addWay_46 ?_
  refine wm_get X (by decide +kernel) 1 rfl rfl 4 (by decide) (by decide +kernel) rfl dX2_addWay_47 ?_
  refine wm_iconst (v := 1) X (by decide) dX2_addWay_50 ?_
  refine wm_iadd X dX2_addWay_51 ?_
  refine wm_put (σ' := sI σ13 1 ((gI σ13 1) + 1)) X (by decide +kernel) tyX2 tyX2_ok nmX2 1 rfl rfl 4 (by decide) (by decide +kernel) rfl (tyX2_ok 4 (by decide)) rfl rfl (Nat.le_of_ble_eq_true rfl) rfl dX2_addWay_52 ?_
  refine wm_nmS (fun σ15 e16 => ?_)
  replace h := h σ15 e16
  clear e16
  refine wm_iload_n X 0 rfl dX2_addWay_55 ?_
  exact wm_iret X hr h dX2_addWay_56
/-! X6_way -/
abbrev rm_X6_way : Room := { frames := 2, cells := 0, slots := 0, locals := 45 }
def wp_X6_way (x1 : Int32) (x2 : Int32) (σ : St) (post : Int32 → St → Prop) : Prop :=
  wp_X2_isFilledLineSet x1 σ (fun r1 σ2 => (r1 = 0 → post (-102) σ2) ∧ (¬ r1 = 0 → wp_X6_isSum x2 σ2 (fun r4 σ5 => (¬ r4 = 0 → ((gI σ5 1) < 10 → wp_X6_forgetAnswers σ5 (fun σ9 => wp_X2_addWay x1 x2 σ9 (fun r10 σ11 => post r10 σ11))) ∧ (¬ (gI σ5 1) < 10 → post (-104) σ5)) ∧ (r4 = 0 → post (-102) σ5))))
set_option maxRecDepth 100000 in
set_option maxHeartbeats 4000000 in
theorem c_X6_way (l : Launch) (G : va_G) (tI tJ tZ : ClassId) (ad : Nat → Nat) (hD : ∀ σ, va_D (Ad 22 ad) (wdC tI tJ tZ ad σ)) (x1 : Int32) (x2 : Int32) (σ : St) (post : Int32 → St → Prop) (h : wp_X6_way x1 x2 σ post) : Ct l yX6_way wsX6_way rm_X6_way G (tyL tI tJ tZ) (wdC tI tJ tZ ad) (Ad 22 ad) [.ref (ad 0), .int x1, .int x2] σ (Qi G (wdC tI tJ tZ ad) (Ad 22 ad) post) := by
  refine wm_entry (cc := cX6_way) (maxL := 3) (ret := (some .int)) (own := RX6) (lv := [(0, .ref (ad 0)), (1, .int x1), (2, .int x2)]) (by decide +kernel) rfl rfl (Nat.le_of_ble_eq_true rfl) rfl hD ?_
  intro p e s m below meth c X hr
  unfold wp_X6_way at h
  refine wm_aload_n X 0 rfl dX6_way_0 ?_
  refine wm_get X (by decide +kernel) 0 rfl rfl 0 (by decide) (by decide +kernel) rfl dX6_way_1 ?_
  refine wm_iload_n X 1 rfl dX6_way_4 ?_
  refine wm_callVi (n := 1) (As := [.int x1]) (rest := []) X (c_X2_isFilledLineSet l G tI tJ tZ ad hD x1 σ _ h) gX6_way_X2_isFilledLineSet rfl ⟨rfl, rfl⟩ (by decide +kernel) ⟨Nat.le_of_ble_eq_true rfl, Nat.le_of_ble_eq_true rfl⟩ 1 rfl rfl rfl rfl rfl (Nat.le_of_ble_eq_true rfl) dX6_way_5 (fun r1 σ2 h => ?_)
  refine wm_if_eq (tgt := 18) X (by decide) dX6_way_8 (fun c3 => ?_) (fun c3 => ?_)
  · replace h := h.1 c3
    refine wm_bipush (v := (-102)) X (by decide) dX6_way_18 ?_
    exact wm_iret X hr h dX6_way_20
  · replace h := h.2 c3
    refine wm_iload_n X 2 rfl dX6_way_11 ?_
    refine wm_callSi (n := 1) (As := [.int x2]) (rest := []) X (c_X6_isSum l G tI tJ tZ ad hD x2 σ2 _ h) gX6_way_X6_isSum rfl ⟨rfl, rfl⟩ (by decide +kernel) ⟨Nat.le_of_ble_eq_true rfl, Nat.le_of_ble_eq_true rfl⟩ rfl rfl (Nat.le_of_ble_eq_true rfl) dX6_way_12 (fun r4 σ5 h => ?_)
    refine wm_if_ne (tgt := 21) X (by decide) dX6_way_15 (fun c6 => ?_) (fun c6 => ?_)
    · replace h := h.1 c6
      refine wm_aload_n X 0 rfl dX6_way_21 ?_
      refine wm_get X (by decide +kernel) 0 rfl rfl 0 (by decide) (by decide +kernel) rfl dX6_way_22 ?_
      refine wm_get X (by decide +kernel) 1 rfl rfl 4 (by decide) (by decide +kernel) rfl dX6_way_25 ?_
      refine wm_bipush (v := 10) X (by decide) dX6_way_28 ?_
      refine wm_icmp_lt (tgt := 36) X (by decide) dX6_way_30 (fun c7 => ?_) (fun c7 => ?_)
      · replace h := h.1 c7
        refine wm_aload_n X 0 rfl dX6_way_36 ?_
        refine wm_callVv (n := 0) (As := []) (rest := []) X (c_X6_forgetAnswers l G tI tJ tZ ad hD σ5 _ h) gX6_way_X6_forgetAnswers rfl ⟨rfl, rfl⟩ (by decide +kernel) ⟨Nat.le_of_ble_eq_true rfl, Nat.le_of_ble_eq_true rfl⟩ 0 rfl rfl rfl rfl rfl (Nat.le_of_ble_eq_true rfl) dX6_way_37 (fun σ9 h => ?_)
        refine wm_aload_n X 0 rfl dX6_way_40 ?_
        refine wm_get X (by decide +kernel) 0 rfl rfl 0 (by decide) (by decide +kernel) rfl dX6_way_41 ?_
        refine wm_iload_n X 1 rfl dX6_way_44 ?_
        refine wm_iload_n X 2 rfl dX6_way_45 ?_
        refine wm_callVi (n := 2) (As := [.int x1, .int x2]) (rest := []) X (c_X2_addWay l G tI tJ tZ ad hD x1 x2 σ9 _ h) gX6_way_X2_addWay rfl ⟨rfl, rfl⟩ (by decide +kernel) ⟨Nat.le_of_ble_eq_true rfl, Nat.le_of_ble_eq_true rfl⟩ 1 rfl rfl rfl rfl rfl (Nat.le_of_ble_eq_true rfl) dX6_way_46 (fun r10 σ11 h => ?_)
        exact wm_iret X hr h dX6_way_49
      · replace h := h.2 c7
        refine wm_bipush (v := (-104)) X (by decide) dX6_way_33 ?_
        exact wm_iret X hr h dX6_way_35
    · replace h := h.2 c6
      refine wm_bipush (v := (-102)) X (by decide) dX6_way_18 ?_
      exact wm_iret X hr h dX6_way_20
/-! X2_hasWay -/
abbrev rm_X2_hasWay : Room := { frames := 0, cells := 0, slots := 0, locals := 0 }
def wp_X2_hasWay (x1 : Int32) (σ : St) (post : Int32 → St → Prop) : Prop :=
  (x1 < 0 → post 0 σ) ∧ (¬ x1 < 0 → ((gI σ 1) ≤ x1 → post 0 σ) ∧ (¬ (gI σ 1) ≤ x1 → post 1 σ))
set_option maxRecDepth 100000 in
set_option maxHeartbeats 4000000 in
theorem c_X2_hasWay (l : Launch) (G : va_G) (tI tJ tZ : ClassId) (ad : Nat → Nat) (hD : ∀ σ, va_D (Ad 22 ad) (wdC tI tJ tZ ad σ)) (x1 : Int32) (σ : St) (post : Int32 → St → Prop) (h : wp_X2_hasWay x1 σ post) : Ct l yX2_hasWay wsX2_hasWay rm_X2_hasWay G (tyL tI tJ tZ) (wdC tI tJ tZ ad) (Ad 22 ad) [.ref (ad 1), .int x1] σ (Qi G (wdC tI tJ tZ ad) (Ad 22 ad) post) := by
  refine wm_entry (cc := cX2_hasWay) (maxL := 2) (ret := (some .boolean)) (own := RX2) (lv := [(0, .ref (ad 1)), (1, .int x1)]) (by decide +kernel) rfl rfl (Nat.le_of_ble_eq_true rfl) rfl hD ?_
  intro p e s m below meth c X hr
  unfold wp_X2_hasWay at h
  refine wm_iload_n X 1 rfl dX2_hasWay_0 ?_
  refine wm_if_lt (tgt := 16) X (by decide) dX2_hasWay_1 (fun c1 => ?_) (fun c1 => ?_)
  · replace h := h.1 c1
    refine wm_iconst (v := 0) X (by decide) dX2_hasWay_16 ?_
    exact wm_zret X hr bz_0 h dX2_hasWay_17
  · replace h := h.2 c1
    refine wm_iload_n X 1 rfl dX2_hasWay_4 ?_
    refine wm_aload_n X 0 rfl dX2_hasWay_5 ?_
    refine wm_get X (by decide +kernel) 1 rfl rfl 4 (by decide) (by decide +kernel) rfl dX2_hasWay_6 ?_
    refine wm_icmp_ge (tgt := 16) X (by decide) dX2_hasWay_9 (fun c2 => ?_) (fun c2 => ?_)
    · replace h := h.1 c2
      refine wm_iconst (v := 0) X (by decide) dX2_hasWay_16 ?_
      exact wm_zret X hr bz_0 h dX2_hasWay_17
    · replace h := h.2 c2
      refine wm_iconst (v := 1) X (by decide) dX2_hasWay_12 ?_
      refine wm_goto (tgt := 17) X (by decide) dX2_hasWay_13 ?_
      exact wm_zret X hr bz_1 h dX2_hasWay_17
/-! X6_sum -/
abbrev rm_X6_sum : Room := { frames := 2, cells := 0, slots := 0, locals := 40 }
def wp_X6_sum (x1 : Int32) (x2 : Int32) (σ : St) (post : Int32 → St → Prop) : Prop :=
  wp_X2_hasWay x1 σ (fun r1 σ2 => (¬ r1 = 0 → wp_X6_isSum x2 σ2 (fun r4 σ5 => (¬ r4 = 0 → vp_in x1 10 ∧ (∀ v7 : Int32, v7 = gA σ5 1 (Int32.toNatClampNeg x1) → vp_in x1 10 ∧ (∀ σ9 : St, σ9 = sA σ5 1 (Int32.toNatClampNeg x1) x2 → wp_X6_forgetAnswers σ9 (fun σ12 => post v7 σ12)))) ∧ (r4 = 0 → post (-102) σ5))) ∧ (r1 = 0 → post (-101) σ2))
set_option maxRecDepth 100000 in
set_option maxHeartbeats 4000000 in
theorem c_X6_sum (l : Launch) (G : va_G) (tI tJ tZ : ClassId) (ad : Nat → Nat) (hD : ∀ σ, va_D (Ad 22 ad) (wdC tI tJ tZ ad σ)) (x1 : Int32) (x2 : Int32) (σ : St) (post : Int32 → St → Prop) (h : wp_X6_sum x1 x2 σ post) : Ct l yX6_sum wsX6_sum rm_X6_sum G (tyL tI tJ tZ) (wdC tI tJ tZ ad) (Ad 22 ad) [.ref (ad 0), .int x1, .int x2] σ (Qi G (wdC tI tJ tZ ad) (Ad 22 ad) post) := by
  refine wm_entry (cc := cX6_sum) (maxL := 4) (ret := (some .int)) (own := RX6) (lv := [(0, .ref (ad 0)), (1, .int x1), (2, .int x2)]) (by decide +kernel) rfl rfl (Nat.le_of_ble_eq_true rfl) rfl hD ?_
  intro p e s m below meth c X hr
  unfold wp_X6_sum at h
  refine wm_aload_n X 0 rfl dX6_sum_0 ?_
  refine wm_get X (by decide +kernel) 0 rfl rfl 0 (by decide) (by decide +kernel) rfl dX6_sum_1 ?_
  refine wm_iload_n X 1 rfl dX6_sum_4 ?_
  refine wm_callVi (n := 1) (As := [.int x1]) (rest := []) X (c_X2_hasWay l G tI tJ tZ ad hD x1 σ _ h) gX6_sum_X2_hasWay rfl ⟨rfl, rfl⟩ (by decide +kernel) ⟨Nat.le_of_ble_eq_true rfl, Nat.le_of_ble_eq_true rfl⟩ 1 rfl rfl rfl rfl rfl (Nat.le_of_ble_eq_true rfl) dX6_sum_5 (fun r1 σ2 h => ?_)
  refine wm_if_ne (tgt := 14) X (by decide) dX6_sum_8 (fun c3 => ?_) (fun c3 => ?_)
  · replace h := h.1 c3
    refine wm_iload_n X 2 rfl dX6_sum_14 ?_
    refine wm_callSi (n := 1) (As := [.int x2]) (rest := []) X (c_X6_isSum l G tI tJ tZ ad hD x2 σ2 _ h) gX6_sum_X6_isSum rfl ⟨rfl, rfl⟩ (by decide +kernel) ⟨Nat.le_of_ble_eq_true rfl, Nat.le_of_ble_eq_true rfl⟩ rfl rfl (Nat.le_of_ble_eq_true rfl) dX6_sum_15 (fun r4 σ5 h => ?_)
    refine wm_if_ne (tgt := 24) X (by decide) dX6_sum_18 (fun c6 => ?_) (fun c6 => ?_)
    · replace h := h.1 c6
      refine wm_aload_n X 0 rfl dX6_sum_24 ?_
      refine wm_get X (by decide +kernel) 0 rfl rfl 0 (by decide) (by decide +kernel) rfl dX6_sum_25 ?_
      refine wm_get X (by decide +kernel) 1 rfl rfl 1 (by decide) (by decide +kernel) rfl dX6_sum_28 ?_
      refine wm_iload_n X 1 rfl dX6_sum_31 ?_
      refine wm_iald X 3 0 rfl rfl h.1 dX6_sum_32 ?_
      replace h := h.2
      refine wm_nmI (fun v7 e8 => ?_)
      replace h := h v7 e8
      clear e8
      refine wm_istore_n (lv' := [(3, .int v7), (0, .ref (ad 0)), (1, .int x1), (2, .int x2)]) X rfl (by decide) rfl dX6_sum_33 ?_
      refine wm_aload_n X 1 rfl dX6_sum_34 ?_
      refine wm_get X (by decide +kernel) 0 rfl rfl 0 (by decide) (by decide +kernel) rfl dX6_sum_35 ?_
      refine wm_get X (by decide +kernel) 1 rfl rfl 1 (by decide) (by decide +kernel) rfl dX6_sum_38 ?_
      refine wm_iload_n X 2 rfl dX6_sum_41 ?_
      refine wm_iload_n X 3 rfl dX6_sum_42 ?_
      refine wm_iast (σ' := sA σ5 1 (Int32.toNatClampNeg x1) x2) X 3 0 rfl rfl h.1 rfl dX6_sum_43 ?_
      replace h := h.2
      refine wm_nmS (fun σ9 e10 => ?_)
      replace h := h σ9 e10
      clear e10
      refine wm_aload_n X 1 rfl dX6_sum_44 ?_
      refine wm_callVv (n := 0) (As := []) (rest := []) X (c_X6_forgetAnswers l G tI tJ tZ ad hD σ9 _ h) gX6_sum_X6_forgetAnswers rfl ⟨rfl, rfl⟩ (by decide +kernel) ⟨Nat.le_of_ble_eq_true rfl, Nat.le_of_ble_eq_true rfl⟩ 0 rfl rfl rfl rfl rfl (Nat.le_of_ble_eq_true rfl) dX6_sum_45 (fun σ12 h => ?_)
      refine wm_iload_n X 0 rfl dX6_sum_48 ?_
      exact wm_iret X hr h dX6_sum_49
    · replace h := h.2 c6
      refine wm_bipush (v := (-102)) X (by decide) dX6_sum_21 ?_
      exact wm_iret X hr h dX6_sum_23
  · replace h := h.2 c3
    refine wm_bipush (v := (-101)) X (by decide) dX6_sum_11 ?_
    exact wm_iret X hr h dX6_sum_13
/-! X6_over -/
abbrev rm_X6_over : Room := { frames := 2, cells := 0, slots := 0, locals := 42 }
def wp_X6_over (x1 : Int32) (x2 : Int32) (σ : St) (post : Int32 → St → Prop) : Prop :=
  wp_X2_hasWay x1 σ (fun r1 σ2 => (¬ r1 = 0 → wp_X2_isFilledLineSet x2 σ2 (fun r4 σ5 => (¬ r4 = 0 → vp_in x1 10 ∧ (∀ v7 : Int32, v7 = gA σ5 0 (Int32.toNatClampNeg x1) → vp_in x1 10 ∧ (∀ σ9 : St, σ9 = sA σ5 0 (Int32.toNatClampNeg x1) x2 → wp_X6_forgetAnswers σ9 (fun σ12 => post v7 σ12)))) ∧ (r4 = 0 → post (-102) σ5))) ∧ (r1 = 0 → post (-101) σ2))
set_option maxRecDepth 100000 in
set_option maxHeartbeats 4000000 in
theorem c_X6_over (l : Launch) (G : va_G) (tI tJ tZ : ClassId) (ad : Nat → Nat) (hD : ∀ σ, va_D (Ad 22 ad) (wdC tI tJ tZ ad σ)) (x1 : Int32) (x2 : Int32) (σ : St) (post : Int32 → St → Prop) (h : wp_X6_over x1 x2 σ post) : Ct l yX6_over wsX6_over rm_X6_over G (tyL tI tJ tZ) (wdC tI tJ tZ ad) (Ad 22 ad) [.ref (ad 0), .int x1, .int x2] σ (Qi G (wdC tI tJ tZ ad) (Ad 22 ad) post) := by
  refine wm_entry (cc := cX6_over) (maxL := 4) (ret := (some .int)) (own := RX6) (lv := [(0, .ref (ad 0)), (1, .int x1), (2, .int x2)]) (by decide +kernel) rfl rfl (Nat.le_of_ble_eq_true rfl) rfl hD ?_
  intro p e s m below meth c X hr
  unfold wp_X6_over at h
  refine wm_aload_n X 0 rfl dX6_over_0 ?_
  refine wm_get X (by decide +kernel) 0 rfl rfl 0 (by decide) (by decide +kernel) rfl dX6_over_1 ?_
  refine wm_iload_n X 1 rfl dX6_over_4 ?_
  refine wm_callVi (n := 1) (As := [.int x1]) (rest := []) X (c_X2_hasWay l G tI tJ tZ ad hD x1 σ _ h) gX6_over_X2_hasWay rfl ⟨rfl, rfl⟩ (by decide +kernel) ⟨Nat.le_of_ble_eq_true rfl, Nat.le_of_ble_eq_true rfl⟩ 1 rfl rfl rfl rfl rfl (Nat.le_of_ble_eq_true rfl) dX6_over_5 (fun r1 σ2 h => ?_)
  refine wm_if_ne (tgt := 14) X (by decide) dX6_over_8 (fun c3 => ?_) (fun c3 => ?_)
  · replace h := h.1 c3
    refine wm_aload_n X 0 rfl dX6_over_14 ?_
    refine wm_get X (by decide +kernel) 0 rfl rfl 0 (by decide) (by decide +kernel) rfl dX6_over_15 ?_
    refine wm_iload_n X 2 rfl dX6_over_18 ?_
    refine wm_callVi (n := 1) (As := [.int x2]) (rest := []) X (c_X2_isFilledLineSet l G tI tJ tZ ad hD x2 σ2 _ h) gX6_over_X2_isFilledLineSet rfl ⟨rfl, rfl⟩ (by decide +kernel) ⟨Nat.le_of_ble_eq_true rfl, Nat.le_of_ble_eq_true rfl⟩ 1 rfl rfl rfl rfl rfl (Nat.le_of_ble_eq_true rfl) dX6_over_19 (fun r4 σ5 h => ?_)
    refine wm_if_ne (tgt := 28) X (by decide) dX6_over_22 (fun c6 => ?_) (fun c6 => ?_)
    · replace h := h.1 c6
      refine wm_aload_n X 0 rfl dX6_over_28 ?_
      refine wm_get X (by decide +kernel) 0 rfl rfl 0 (by decide) (by decide +kernel) rfl dX6_over_29 ?_
      refine wm_get X (by decide +kernel) 1 rfl rfl 0 (by decide) (by decide +kernel) rfl dX6_over_32 ?_
      refine wm_iload_n X 1 rfl dX6_over_35 ?_
      refine wm_iald X 2 0 rfl rfl h.1 dX6_over_36 ?_
      replace h := h.2
      refine wm_nmI (fun v7 e8 => ?_)
      replace h := h v7 e8
      clear e8
      refine wm_istore_n (lv' := [(3, .int v7), (0, .ref (ad 0)), (1, .int x1), (2, .int x2)]) X rfl (by decide) rfl dX6_over_37 ?_
      refine wm_aload_n X 1 rfl dX6_over_38 ?_
      refine wm_get X (by decide +kernel) 0 rfl rfl 0 (by decide) (by decide +kernel) rfl dX6_over_39 ?_
      refine wm_get X (by decide +kernel) 1 rfl rfl 0 (by decide) (by decide +kernel) rfl dX6_over_42 ?_
      refine wm_iload_n X 2 rfl dX6_over_45 ?_
      refine wm_iload_n X 3 rfl dX6_over_46 ?_
      refine wm_iast (σ' := sA σ5 0 (Int32.toNatClampNeg x1) x2) X 2 0 rfl rfl h.1 rfl dX6_over_47 ?_
      replace h := h.2
      refine wm_nmS (fun σ9 e10 => ?_)
      replace h := h σ9 e10
      clear e10
      refine wm_aload_n X 1 rfl dX6_over_48 ?_
      refine wm_callVv (n := 0) (As := []) (rest := []) X (c_X6_forgetAnswers l G tI tJ tZ ad hD σ9 _ h) gX6_over_X6_forgetAnswers rfl ⟨rfl, rfl⟩ (by decide +kernel) ⟨Nat.le_of_ble_eq_true rfl, Nat.le_of_ble_eq_true rfl⟩ 0 rfl rfl rfl rfl rfl (Nat.le_of_ble_eq_true rfl) dX6_over_49 (fun σ12 h => ?_)
      refine wm_iload_n X 0 rfl dX6_over_52 ?_
      exact wm_iret X hr h dX6_over_53
    · replace h := h.2 c6
      refine wm_bipush (v := (-102)) X (by decide) dX6_over_25 ?_
      exact wm_iret X hr h dX6_over_27
  · replace h := h.2 c3
    refine wm_bipush (v := (-101)) X (by decide) dX6_over_11 ?_
    exact wm_iret X hr h dX6_over_13
/-! X6_bitOf -/
abbrev rm_X6_bitOf : Room := { frames := 0, cells := 0, slots := 0, locals := 0 }
def wp_X6_bitOf (x0 : Int32) (x1 : Int32) (σ : St) (post : Int32 → St → Prop) : Prop :=
  post ((x0 >>> (x1 &&& 31)) &&& 1) σ
set_option maxRecDepth 100000 in
set_option maxHeartbeats 4000000 in
theorem c_X6_bitOf (l : Launch) (G : va_G) (tI tJ tZ : ClassId) (ad : Nat → Nat) (hD : ∀ σ, va_D (Ad 22 ad) (wdC tI tJ tZ ad σ)) (x0 : Int32) (x1 : Int32) (σ : St) (post : Int32 → St → Prop) (h : wp_X6_bitOf x0 x1 σ post) : Ct l yX6_bitOf wsX6_bitOf rm_X6_bitOf G (tyL tI tJ tZ) (wdC tI tJ tZ ad) (Ad 22 ad) [.int x0, .int x1] σ (Qi G (wdC tI tJ tZ ad) (Ad 22 ad) post) := by
  refine wm_entry (cc := cX6_bitOf) (maxL := 2) (ret := (some .int)) (own := RX6) (lv := [(0, .int x0), (1, .int x1)]) (by decide +kernel) rfl rfl (Nat.le_of_ble_eq_true rfl) rfl hD ?_
  intro p e s m below meth c X hr
  unfold wp_X6_bitOf at h
  refine wm_iload_n X 0 rfl dX6_bitOf_0 ?_
  refine wm_iload_n X 1 rfl dX6_bitOf_1 ?_
  refine wm_ishr X dX6_bitOf_2 ?_
  refine wm_iconst (v := 1) X (by decide) dX6_bitOf_3 ?_
  refine wm_iand X dX6_bitOf_4 ?_
  exact wm_iret X hr h dX6_bitOf_5
/-! X6_on -/
abbrev rm_X6_on : Room := { frames := 2, cells := 0, slots := 0, locals := 40 }
def wp_X6_on (x1 : Int32) (x2 : Int32) (σ : St) (post : Int32 → St → Prop) : Prop :=
  wp_X2_hasWay x1 σ (fun r1 σ2 => (¬ r1 = 0 → wp_X6_bitOf (gI σ2 3) x1 σ2 (fun r4 σ5 => wp_X6_withBit (gI σ5 3) x1 x2 σ5 (fun r6 σ7 => ∀ σ8 : St, σ8 = sI σ7 3 r6 → wp_X6_forgetAnswers σ8 (fun σ11 => post r4 σ11)))) ∧ (r1 = 0 → post (-101) σ2))
set_option maxRecDepth 100000 in
set_option maxHeartbeats 4000000 in
theorem c_X6_on (l : Launch) (G : va_G) (tI tJ tZ : ClassId) (ad : Nat → Nat) (hD : ∀ σ, va_D (Ad 22 ad) (wdC tI tJ tZ ad σ)) (x1 : Int32) (x2 : Int32) (σ : St) (post : Int32 → St → Prop) (h : wp_X6_on x1 x2 σ post) : Ct l yX6_on wsX6_on rm_X6_on G (tyL tI tJ tZ) (wdC tI tJ tZ ad) (Ad 22 ad) [.ref (ad 0), .int x1, .int x2] σ (Qi G (wdC tI tJ tZ ad) (Ad 22 ad) post) := by
  refine wm_entry (cc := cX6_on) (maxL := 4) (ret := (some .int)) (own := RX6) (lv := [(0, .ref (ad 0)), (1, .int x1), (2, .int x2)]) (by decide +kernel) rfl rfl (Nat.le_of_ble_eq_true rfl) rfl hD ?_
  intro p e s m below meth c X hr
  unfold wp_X6_on at h
  refine wm_aload_n X 0 rfl dX6_on_0 ?_
  refine wm_get X (by decide +kernel) 0 rfl rfl 0 (by decide) (by decide +kernel) rfl dX6_on_1 ?_
  refine wm_iload_n X 1 rfl dX6_on_4 ?_
  refine wm_callVi (n := 1) (As := [.int x1]) (rest := []) X (c_X2_hasWay l G tI tJ tZ ad hD x1 σ _ h) gX6_on_X2_hasWay rfl ⟨rfl, rfl⟩ (by decide +kernel) ⟨Nat.le_of_ble_eq_true rfl, Nat.le_of_ble_eq_true rfl⟩ 1 rfl rfl rfl rfl rfl (Nat.le_of_ble_eq_true rfl) dX6_on_5 (fun r1 σ2 h => ?_)
  refine wm_if_ne (tgt := 14) X (by decide) dX6_on_8 (fun c3 => ?_) (fun c3 => ?_)
  · replace h := h.1 c3
    refine wm_aload_n X 0 rfl dX6_on_14 ?_
    refine wm_get X (by decide +kernel) 0 rfl rfl 0 (by decide) (by decide +kernel) rfl dX6_on_15 ?_
    refine wm_get X (by decide +kernel) 1 rfl rfl 6 (by decide) (by decide +kernel) rfl dX6_on_18 ?_
    refine wm_iload_n X 1 rfl dX6_on_21 ?_
    refine wm_callSi (n := 2) (As := [.int (gI σ2 3), .int x1]) (rest := []) X (c_X6_bitOf l G tI tJ tZ ad hD (gI σ2 3) x1 σ2 _ h) gX6_on_X6_bitOf rfl ⟨rfl, rfl⟩ (by decide +kernel) ⟨Nat.le_of_ble_eq_true rfl, Nat.le_of_ble_eq_true rfl⟩ rfl rfl (Nat.le_of_ble_eq_true rfl) dX6_on_22 (fun r4 σ5 h => ?_)
    refine wm_istore_n (lv' := [(3, .int r4), (0, .ref (ad 0)), (1, .int x1), (2, .int x2)]) X rfl (by decide) rfl dX6_on_25 ?_
    refine wm_aload_n X 1 rfl dX6_on_26 ?_
    refine wm_get X (by decide +kernel) 0 rfl rfl 0 (by decide) (by decide +kernel) rfl dX6_on_27 ?_
    refine wm_aload_n X 1 rfl dX6_on_30 ?_
    refine wm_get X (by decide +kernel) 0 rfl rfl 0 (by decide) (by decide +kernel) rfl dX6_on_31 ?_
    refine wm_get X (by decide +kernel) 1 rfl rfl 6 (by decide) (by decide +kernel) rfl dX6_on_34 ?_
    refine wm_iload_n X 2 rfl dX6_on_37 ?_
    refine wm_iload_n X 3 rfl dX6_on_38 ?_
    refine wm_callSi (n := 3) (As := [.int (gI σ5 3), .int x1, .int x2]) (rest := [.ref (ad 1)]) X (c_X6_withBit l G tI tJ tZ ad hD (gI σ5 3) x1 x2 σ5 _ h) gX6_on_X6_withBit rfl ⟨rfl, rfl⟩ (by decide +kernel) ⟨Nat.le_of_ble_eq_true rfl, Nat.le_of_ble_eq_true rfl⟩ rfl rfl (Nat.le_of_ble_eq_true rfl) dX6_on_39 (fun r6 σ7 h => ?_)
    refine wm_put (σ' := sI σ7 3 r6) X (by decide +kernel) tyX2 tyX2_ok nmX2 1 rfl rfl 6 (by decide) (by decide +kernel) rfl (tyX2_ok 6 (by decide)) rfl rfl (Nat.le_of_ble_eq_true rfl) rfl dX6_on_42 ?_
    refine wm_nmS (fun σ8 e9 => ?_)
    replace h := h σ8 e9
    clear e9
    refine wm_aload_n X 1 rfl dX6_on_45 ?_
    refine wm_callVv (n := 0) (As := []) (rest := []) X (c_X6_forgetAnswers l G tI tJ tZ ad hD σ8 _ h) gX6_on_X6_forgetAnswers rfl ⟨rfl, rfl⟩ (by decide +kernel) ⟨Nat.le_of_ble_eq_true rfl, Nat.le_of_ble_eq_true rfl⟩ 0 rfl rfl rfl rfl rfl (Nat.le_of_ble_eq_true rfl) dX6_on_46 (fun σ11 h => ?_)
    refine wm_iload_n X 0 rfl dX6_on_49 ?_
    exact wm_iret X hr h dX6_on_50
  · replace h := h.2 c3
    refine wm_bipush (v := (-101)) X (by decide) dX6_on_11 ?_
    exact wm_iret X hr h dX6_on_13
/-! X6_bad -/
abbrev rm_X6_bad : Room := { frames := 1, cells := 0, slots := 0, locals := 22 }
def wp_X6_bad (x1 : Int32) (x2 : Int32) (σ : St) (post : Int32 → St → Prop) : Prop :=
  wp_X2_hasWay x1 σ (fun r1 σ2 => (¬ r1 = 0 → wp_X6_bitOf (gI σ2 4) x1 σ2 (fun r4 σ5 => wp_X6_withBit (gI σ5 4) x1 x2 σ5 (fun r6 σ7 => ∀ σ8 : St, σ8 = sI σ7 4 r6 → post r4 σ8))) ∧ (r1 = 0 → post (-101) σ2))
set_option maxRecDepth 100000 in
set_option maxHeartbeats 4000000 in
theorem c_X6_bad (l : Launch) (G : va_G) (tI tJ tZ : ClassId) (ad : Nat → Nat) (hD : ∀ σ, va_D (Ad 22 ad) (wdC tI tJ tZ ad σ)) (x1 : Int32) (x2 : Int32) (σ : St) (post : Int32 → St → Prop) (h : wp_X6_bad x1 x2 σ post) : Ct l yX6_bad wsX6_bad rm_X6_bad G (tyL tI tJ tZ) (wdC tI tJ tZ ad) (Ad 22 ad) [.ref (ad 0), .int x1, .int x2] σ (Qi G (wdC tI tJ tZ ad) (Ad 22 ad) post) := by
  refine wm_entry (cc := cX6_bad) (maxL := 4) (ret := (some .int)) (own := RX6) (lv := [(0, .ref (ad 0)), (1, .int x1), (2, .int x2)]) (by decide +kernel) rfl rfl (Nat.le_of_ble_eq_true rfl) rfl hD ?_
  intro p e s m below meth c X hr
  unfold wp_X6_bad at h
  refine wm_aload_n X 0 rfl dX6_bad_0 ?_
  refine wm_get X (by decide +kernel) 0 rfl rfl 0 (by decide) (by decide +kernel) rfl dX6_bad_1 ?_
  refine wm_iload_n X 1 rfl dX6_bad_4 ?_
  refine wm_callVi (n := 1) (As := [.int x1]) (rest := []) X (c_X2_hasWay l G tI tJ tZ ad hD x1 σ _ h) gX6_bad_X2_hasWay rfl ⟨rfl, rfl⟩ (by decide +kernel) ⟨Nat.le_of_ble_eq_true rfl, Nat.le_of_ble_eq_true rfl⟩ 1 rfl rfl rfl rfl rfl (Nat.le_of_ble_eq_true rfl) dX6_bad_5 (fun r1 σ2 h => ?_)
  refine wm_if_ne (tgt := 14) X (by decide) dX6_bad_8 (fun c3 => ?_) (fun c3 => ?_)
  · replace h := h.1 c3
    refine wm_aload_n X 0 rfl dX6_bad_14 ?_
    refine wm_get X (by decide +kernel) 0 rfl rfl 0 (by decide) (by decide +kernel) rfl dX6_bad_15 ?_
    refine wm_get X (by decide +kernel) 1 rfl rfl 7 (by decide) (by decide +kernel) rfl dX6_bad_18 ?_
    refine wm_iload_n X 1 rfl dX6_bad_21 ?_
    refine wm_callSi (n := 2) (As := [.int (gI σ2 4), .int x1]) (rest := []) X (c_X6_bitOf l G tI tJ tZ ad hD (gI σ2 4) x1 σ2 _ h) gX6_bad_X6_bitOf rfl ⟨rfl, rfl⟩ (by decide +kernel) ⟨Nat.le_of_ble_eq_true rfl, Nat.le_of_ble_eq_true rfl⟩ rfl rfl (Nat.le_of_ble_eq_true rfl) dX6_bad_22 (fun r4 σ5 h => ?_)
    refine wm_istore_n (lv' := [(3, .int r4), (0, .ref (ad 0)), (1, .int x1), (2, .int x2)]) X rfl (by decide) rfl dX6_bad_25 ?_
    refine wm_aload_n X 1 rfl dX6_bad_26 ?_
    refine wm_get X (by decide +kernel) 0 rfl rfl 0 (by decide) (by decide +kernel) rfl dX6_bad_27 ?_
    refine wm_aload_n X 1 rfl dX6_bad_30 ?_
    refine wm_get X (by decide +kernel) 0 rfl rfl 0 (by decide) (by decide +kernel) rfl dX6_bad_31 ?_
    refine wm_get X (by decide +kernel) 1 rfl rfl 7 (by decide) (by decide +kernel) rfl dX6_bad_34 ?_
    refine wm_iload_n X 2 rfl dX6_bad_37 ?_
    refine wm_iload_n X 3 rfl dX6_bad_38 ?_
    refine wm_callSi (n := 3) (As := [.int (gI σ5 4), .int x1, .int x2]) (rest := [.ref (ad 1)]) X (c_X6_withBit l G tI tJ tZ ad hD (gI σ5 4) x1 x2 σ5 _ h) gX6_bad_X6_withBit rfl ⟨rfl, rfl⟩ (by decide +kernel) ⟨Nat.le_of_ble_eq_true rfl, Nat.le_of_ble_eq_true rfl⟩ rfl rfl (Nat.le_of_ble_eq_true rfl) dX6_bad_39 (fun r6 σ7 h => ?_)
    refine wm_put (σ' := sI σ7 4 r6) X (by decide +kernel) tyX2 tyX2_ok nmX2 1 rfl rfl 7 (by decide) (by decide +kernel) rfl (tyX2_ok 7 (by decide)) rfl rfl (Nat.le_of_ble_eq_true rfl) rfl dX6_bad_42 ?_
    refine wm_nmS (fun σ8 e9 => ?_)
    replace h := h σ8 e9
    clear e9
    refine wm_iload_n X 0 rfl dX6_bad_45 ?_
    exact wm_iret X hr h dX6_bad_46
  · replace h := h.2 c3
    refine wm_bipush (v := (-101)) X (by decide) dX6_bad_11 ?_
    exact wm_iret X hr h dX6_bad_13
/-! X2_dropLastWay -/
abbrev rm_X2_dropLastWay : Room := { frames := 1, cells := 0, slots := 0, locals := 22 }
def wp_X2_dropLastWay (σ : St) (post : St → Prop) : Prop :=
  ∀ σ1 : St, σ1 = sI σ 1 ((gI σ 1) - 1) → wp_X6_withBit (gI σ1 3) (gI σ1 1) 0 σ1 (fun r3 σ4 => ∀ σ5 : St, σ5 = sI σ4 3 r3 → wp_X6_withBit (gI σ5 4) (gI σ5 1) 0 σ5 (fun r7 σ8 => ∀ σ9 : St, σ9 = sI σ8 4 r7 → post σ9))
set_option maxRecDepth 100000 in
set_option maxHeartbeats 4000000 in
theorem c_X2_dropLastWay (l : Launch) (G : va_G) (tI tJ tZ : ClassId) (ad : Nat → Nat) (hD : ∀ σ, va_D (Ad 22 ad) (wdC tI tJ tZ ad σ))  (σ : St) (post : St → Prop) (h : wp_X2_dropLastWay  σ post) : Ct l yX2_dropLastWay wsX2_dropLastWay rm_X2_dropLastWay G (tyL tI tJ tZ) (wdC tI tJ tZ ad) (Ad 22 ad) [.ref (ad 1)] σ (Qv G (wdC tI tJ tZ ad) (Ad 22 ad) post) := by
  refine wm_entry (cc := cX2_dropLastWay) (maxL := 1) (ret := none) (own := RX2) (lv := [(0, .ref (ad 1))]) (by decide +kernel) rfl rfl (Nat.le_of_ble_eq_true rfl) rfl hD ?_
  intro p e s m below meth c X hr
  unfold wp_X2_dropLastWay at h
  refine wm_aload_n X 0 rfl dX2_dropLastWay_0 ?_
  refine wm_dup X rfl dX2_dropLastWay_1 ?_
  refine wm_get X (by decide +kernel) 1 rfl rfl 4 (by decide) (by decide +kernel) rfl dX2_dropLastWay_2 ?_
  refine wm_iconst (v := 1) X (by decide) dX2_dropLastWay_5 ?_
  refine wm_isub X dX2_dropLastWay_6 ?_
  refine wm_put (σ' := sI σ 1 ((gI σ 1) - 1)) X (by decide +kernel) tyX2 tyX2_ok nmX2 1 rfl rfl 4 (by decide) (by decide +kernel) rfl (tyX2_ok 4 (by decide)) rfl rfl (Nat.le_of_ble_eq_true rfl) rfl dX2_dropLastWay_7 ?_
  refine wm_nmS (fun σ1 e2 => ?_)
  replace h := h σ1 e2
  clear e2
  refine wm_aload_n X 0 rfl dX2_dropLastWay_10 ?_
  refine wm_aload_n X 0 rfl dX2_dropLastWay_11 ?_
  refine wm_get X (by decide +kernel) 1 rfl rfl 6 (by decide) (by decide +kernel) rfl dX2_dropLastWay_12 ?_
  refine wm_aload_n X 0 rfl dX2_dropLastWay_15 ?_
  refine wm_get X (by decide +kernel) 1 rfl rfl 4 (by decide) (by decide +kernel) rfl dX2_dropLastWay_16 ?_
  refine wm_iconst (v := 0) X (by decide) dX2_dropLastWay_19 ?_
  refine wm_callNi (n := 3) (As := [.int (gI σ1 3), .int (gI σ1 1), .int 0]) (rest := [.ref (ad 1)]) X (c_X6_withBit l G tI tJ tZ ad hD (gI σ1 3) (gI σ1 1) 0 σ1 _ h) gX2_dropLastWay_X6_withBit_n41 rfl ⟨rfl, rfl⟩ (List.mem_of_getElem? (i := 7) rfl) (by decide +kernel) (by decide +kernel) (by decide +kernel) ⟨Nat.le_of_ble_eq_true rfl, Nat.le_of_ble_eq_true rfl⟩ rfl rfl (Nat.le_of_ble_eq_true rfl) dX2_dropLastWay_20 (fun r3 σ4 h => ?_)
  refine wm_put (σ' := sI σ4 3 r3) X (by decide +kernel) tyX2 tyX2_ok nmX2 1 rfl rfl 6 (by decide) (by decide +kernel) rfl (tyX2_ok 6 (by decide)) rfl rfl (Nat.le_of_ble_eq_true rfl) rfl dX2_dropLastWay_23 ?_
  refine wm_nmS (fun σ5 e6 => ?_)
  replace h := h σ5 e6
  clear e6
  refine wm_aload_n X 0 rfl dX2_dropLastWay_26 ?_
  refine wm_aload_n X 0 rfl dX2_dropLastWay_27 ?_
  refine wm_get X (by decide +kernel) 1 rfl rfl 7 (by decide) (by decide +kernel) rfl dX2_dropLastWay_28 ?_
  refine wm_aload_n X 0 rfl dX2_dropLastWay_31 ?_
  refine wm_get X (by decide +kernel) 1 rfl rfl 4 (by decide) (by decide +kernel) rfl dX2_dropLastWay_32 ?_
  refine wm_iconst (v := 0) X (by decide) dX2_dropLastWay_35 ?_
  refine wm_callNi (n := 3) (As := [.int (gI σ5 4), .int (gI σ5 1), .int 0]) (rest := [.ref (ad 1)]) X (c_X6_withBit l G tI tJ tZ ad hD (gI σ5 4) (gI σ5 1) 0 σ5 _ h) gX2_dropLastWay_X6_withBit_n41 rfl ⟨rfl, rfl⟩ (List.mem_of_getElem? (i := 7) rfl) (by decide +kernel) (by decide +kernel) (by decide +kernel) ⟨Nat.le_of_ble_eq_true rfl, Nat.le_of_ble_eq_true rfl⟩ rfl rfl (Nat.le_of_ble_eq_true rfl) dX2_dropLastWay_36 (fun r7 σ8 h => ?_)
  refine wm_put (σ' := sI σ8 4 r7) X (by decide +kernel) tyX2 tyX2_ok nmX2 1 rfl rfl 7 (by decide) (by decide +kernel) rfl (tyX2_ok 7 (by decide)) rfl rfl (Nat.le_of_ble_eq_true rfl) rfl dX2_dropLastWay_39 ?_
  refine wm_nmS (fun σ9 e10 => ?_)
  replace h := h σ9 e10
  clear e10
  exact wm_vret X hr h dX2_dropLastWay_42
/-! X6_back -/
abbrev rm_X6_back : Room := { frames := 2, cells := 0, slots := 0, locals := 42 }
def wp_X6_back (σ : St) (post : Int32 → St → Prop) : Prop :=
  (¬ (gI σ 1) = 0 → wp_X2_dropLastWay σ (fun σ3 => wp_X6_forgetAnswers σ3 (fun σ5 => post (gI σ5 1) σ5))) ∧ ((gI σ 1) = 0 → post (-103) σ)
set_option maxRecDepth 100000 in
set_option maxHeartbeats 4000000 in
theorem c_X6_back (l : Launch) (G : va_G) (tI tJ tZ : ClassId) (ad : Nat → Nat) (hD : ∀ σ, va_D (Ad 22 ad) (wdC tI tJ tZ ad σ))  (σ : St) (post : Int32 → St → Prop) (h : wp_X6_back  σ post) : Ct l yX6_back wsX6_back rm_X6_back G (tyL tI tJ tZ) (wdC tI tJ tZ ad) (Ad 22 ad) [.ref (ad 0)] σ (Qi G (wdC tI tJ tZ ad) (Ad 22 ad) post) := by
  refine wm_entry (cc := cX6_back) (maxL := 1) (ret := (some .int)) (own := RX6) (lv := [(0, .ref (ad 0))]) (by decide +kernel) rfl rfl (Nat.le_of_ble_eq_true rfl) rfl hD ?_
  intro p e s m below meth c X hr
  unfold wp_X6_back at h
  refine wm_aload_n X 0 rfl dX6_back_0 ?_
  refine wm_get X (by decide +kernel) 0 rfl rfl 0 (by decide) (by decide +kernel) rfl dX6_back_1 ?_
  refine wm_get X (by decide +kernel) 1 rfl rfl 4 (by decide) (by decide +kernel) rfl dX6_back_4 ?_
  refine wm_if_ne (tgt := 13) X (by decide) dX6_back_7 (fun c1 => ?_) (fun c1 => ?_)
  · replace h := h.1 c1
    refine wm_aload_n X 0 rfl dX6_back_13 ?_
    refine wm_get X (by decide +kernel) 0 rfl rfl 0 (by decide) (by decide +kernel) rfl dX6_back_14 ?_
    refine wm_callVv (n := 0) (As := []) (rest := []) X (c_X2_dropLastWay l G tI tJ tZ ad hD σ _ h) gX6_back_X2_dropLastWay rfl ⟨rfl, rfl⟩ (by decide +kernel) ⟨Nat.le_of_ble_eq_true rfl, Nat.le_of_ble_eq_true rfl⟩ 1 rfl rfl rfl rfl rfl (Nat.le_of_ble_eq_true rfl) dX6_back_17 (fun σ3 h => ?_)
    refine wm_aload_n X 0 rfl dX6_back_20 ?_
    refine wm_callVv (n := 0) (As := []) (rest := []) X (c_X6_forgetAnswers l G tI tJ tZ ad hD σ3 _ h) gX6_back_X6_forgetAnswers rfl ⟨rfl, rfl⟩ (by decide +kernel) ⟨Nat.le_of_ble_eq_true rfl, Nat.le_of_ble_eq_true rfl⟩ 0 rfl rfl rfl rfl rfl (Nat.le_of_ble_eq_true rfl) dX6_back_21 (fun σ5 h => ?_)
    refine wm_aload_n X 0 rfl dX6_back_24 ?_
    refine wm_get X (by decide +kernel) 0 rfl rfl 0 (by decide) (by decide +kernel) rfl dX6_back_25 ?_
    refine wm_get X (by decide +kernel) 1 rfl rfl 4 (by decide) (by decide +kernel) rfl dX6_back_28 ?_
    exact wm_iret X hr h dX6_back_31
  · replace h := h.2 c1
    refine wm_bipush (v := (-103)) X (by decide) dX6_back_10 ?_
    exact wm_iret X hr h dX6_back_12
/-! X6_told -/
abbrev rm_X6_told : Room := { frames := 1, cells := 0, slots := 0, locals := 21 }
def wp_X6_told (x1 : Int32) (x2 : Int32) (σ : St) (post : Int32 → St → Prop) : Prop :=
  wp_X2_hasWay x1 σ (fun r1 σ2 => (¬ r1 = 0 → (x2 = 0 → vp_in x1 10 ∧ post (gA σ2 0 (Int32.toNatClampNeg x1)) σ2) ∧ (x2 = 1 → vp_in x1 10 ∧ post (gA σ2 1 (Int32.toNatClampNeg x1)) σ2) ∧ (x2 = 2 → wp_X6_bitOf (gI σ2 3) x1 σ2 (fun r7 σ8 => post r7 σ8)) ∧ (x2 = 3 → wp_X6_bitOf (gI σ2 4) x1 σ2 (fun r10 σ11 => post r10 σ11)) ∧ (¬ x2 = 0 → ¬ x2 = 1 → ¬ x2 = 2 → ¬ x2 = 3 → post (-102) σ2)) ∧ (r1 = 0 → post (-101) σ2))
set_option maxRecDepth 100000 in
set_option maxHeartbeats 4000000 in
theorem c_X6_told (l : Launch) (G : va_G) (tI tJ tZ : ClassId) (ad : Nat → Nat) (hD : ∀ σ, va_D (Ad 22 ad) (wdC tI tJ tZ ad σ)) (x1 : Int32) (x2 : Int32) (σ : St) (post : Int32 → St → Prop) (h : wp_X6_told x1 x2 σ post) : Ct l yX6_told wsX6_told rm_X6_told G (tyL tI tJ tZ) (wdC tI tJ tZ ad) (Ad 22 ad) [.ref (ad 0), .int x1, .int x2] σ (Qi G (wdC tI tJ tZ ad) (Ad 22 ad) post) := by
  refine wm_entry (cc := cX6_told) (maxL := 3) (ret := (some .int)) (own := RX6) (lv := [(0, .ref (ad 0)), (1, .int x1), (2, .int x2)]) (by decide +kernel) rfl rfl (Nat.le_of_ble_eq_true rfl) rfl hD ?_
  intro p e s m below meth c X hr
  unfold wp_X6_told at h
  refine wm_aload_n X 0 rfl dX6_told_0 ?_
  refine wm_get X (by decide +kernel) 0 rfl rfl 0 (by decide) (by decide +kernel) rfl dX6_told_1 ?_
  refine wm_iload_n X 1 rfl dX6_told_4 ?_
  refine wm_callVi (n := 1) (As := [.int x1]) (rest := []) X (c_X2_hasWay l G tI tJ tZ ad hD x1 σ _ h) gX6_told_X2_hasWay rfl ⟨rfl, rfl⟩ (by decide +kernel) ⟨Nat.le_of_ble_eq_true rfl, Nat.le_of_ble_eq_true rfl⟩ 1 rfl rfl rfl rfl rfl (Nat.le_of_ble_eq_true rfl) dX6_told_5 (fun r1 σ2 h => ?_)
  refine wm_if_ne (tgt := 14) X (by decide) dX6_told_8 (fun c3 => ?_) (fun c3 => ?_)
  · replace h := h.1 c3
    refine wm_iload_n X 2 rfl dX6_told_14 ?_
    by_cases c4 : x2 = 0
    · replace h := h.1 c4
      refine wm_tabIn (off := 29) (tgt := 44) X (by rw [c4]; decide) (by rw [c4]; decide) (by rw [c4]; rfl) (by decide) dX6_told_15 ?_
      refine wm_aload_n X 0 rfl dX6_told_44 ?_
      refine wm_get X (by decide +kernel) 0 rfl rfl 0 (by decide) (by decide +kernel) rfl dX6_told_45 ?_
      refine wm_get X (by decide +kernel) 1 rfl rfl 0 (by decide) (by decide +kernel) rfl dX6_told_48 ?_
      refine wm_iload_n X 1 rfl dX6_told_51 ?_
      refine wm_iald X 2 0 rfl rfl h.1 dX6_told_52 ?_
      replace h := h.2
      exact wm_iret X hr h dX6_told_53
    replace h := h.2
    by_cases c5 : x2 = 1
    · replace h := h.1 c5
      refine wm_tabIn (off := 39) (tgt := 54) X (by rw [c5]; decide) (by rw [c5]; decide) (by rw [c5]; rfl) (by decide) dX6_told_15 ?_
      refine wm_aload_n X 0 rfl dX6_told_54 ?_
      refine wm_get X (by decide +kernel) 0 rfl rfl 0 (by decide) (by decide +kernel) rfl dX6_told_55 ?_
      refine wm_get X (by decide +kernel) 1 rfl rfl 1 (by decide) (by decide +kernel) rfl dX6_told_58 ?_
      refine wm_iload_n X 1 rfl dX6_told_61 ?_
      refine wm_iald X 3 0 rfl rfl h.1 dX6_told_62 ?_
      replace h := h.2
      exact wm_iret X hr h dX6_told_63
    replace h := h.2
    by_cases c6 : x2 = 2
    · replace h := h.1 c6
      refine wm_tabIn (off := 49) (tgt := 64) X (by rw [c6]; decide) (by rw [c6]; decide) (by rw [c6]; rfl) (by decide) dX6_told_15 ?_
      refine wm_aload_n X 0 rfl dX6_told_64 ?_
      refine wm_get X (by decide +kernel) 0 rfl rfl 0 (by decide) (by decide +kernel) rfl dX6_told_65 ?_
      refine wm_get X (by decide +kernel) 1 rfl rfl 6 (by decide) (by decide +kernel) rfl dX6_told_68 ?_
      refine wm_iload_n X 1 rfl dX6_told_71 ?_
      refine wm_callSi (n := 2) (As := [.int (gI σ2 3), .int x1]) (rest := []) X (c_X6_bitOf l G tI tJ tZ ad hD (gI σ2 3) x1 σ2 _ h) gX6_told_X6_bitOf rfl ⟨rfl, rfl⟩ (by decide +kernel) ⟨Nat.le_of_ble_eq_true rfl, Nat.le_of_ble_eq_true rfl⟩ rfl rfl (Nat.le_of_ble_eq_true rfl) dX6_told_72 (fun r7 σ8 h => ?_)
      exact wm_iret X hr h dX6_told_75
    replace h := h.2
    by_cases c9 : x2 = 3
    · replace h := h.1 c9
      refine wm_tabIn (off := 61) (tgt := 76) X (by rw [c9]; decide) (by rw [c9]; decide) (by rw [c9]; rfl) (by decide) dX6_told_15 ?_
      refine wm_aload_n X 0 rfl dX6_told_76 ?_
      refine wm_get X (by decide +kernel) 0 rfl rfl 0 (by decide) (by decide +kernel) rfl dX6_told_77 ?_
      refine wm_get X (by decide +kernel) 1 rfl rfl 7 (by decide) (by decide +kernel) rfl dX6_told_80 ?_
      refine wm_iload_n X 1 rfl dX6_told_83 ?_
      refine wm_callSi (n := 2) (As := [.int (gI σ2 4), .int x1]) (rest := []) X (c_X6_bitOf l G tI tJ tZ ad hD (gI σ2 4) x1 σ2 _ h) gX6_told_X6_bitOf rfl ⟨rfl, rfl⟩ (by decide +kernel) ⟨Nat.le_of_ble_eq_true rfl, Nat.le_of_ble_eq_true rfl⟩ rfl rfl (Nat.le_of_ble_eq_true rfl) dX6_told_84 (fun r10 σ11 h => ?_)
      exact wm_iret X hr h dX6_told_87
    replace h := h.2
    replace h := h c4 c5 c6 c9
    refine wm_tabOut (tgt := 88) X (sw_out3 c4 c5 c6 c9) (by decide) dX6_told_15 ?_
    refine wm_bipush (v := (-102)) X (by decide) dX6_told_88 ?_
    exact wm_iret X hr h dX6_told_90
  · replace h := h.2 c3
    refine wm_bipush (v := (-101)) X (by decide) dX6_told_11 ?_
    exact wm_iret X hr h dX6_told_13
/-! X2_isOn -/
abbrev rm_X2_isOn : Room := { frames := 1, cells := 0, slots := 0, locals := 21 }
def wp_X2_isOn (x1 : Int32) (σ : St) (post : Int32 → St → Prop) : Prop :=
  wp_X6_bitOf (gI σ 3) x1 σ (fun r1 σ2 => (¬ r1 = 1 → post 0 σ2) ∧ (r1 = 1 → post 1 σ2))
set_option maxRecDepth 100000 in
set_option maxHeartbeats 4000000 in
theorem c_X2_isOn (l : Launch) (G : va_G) (tI tJ tZ : ClassId) (ad : Nat → Nat) (hD : ∀ σ, va_D (Ad 22 ad) (wdC tI tJ tZ ad σ)) (x1 : Int32) (σ : St) (post : Int32 → St → Prop) (h : wp_X2_isOn x1 σ post) : Ct l yX2_isOn wsX2_isOn rm_X2_isOn G (tyL tI tJ tZ) (wdC tI tJ tZ ad) (Ad 22 ad) [.ref (ad 1), .int x1] σ (Qi G (wdC tI tJ tZ ad) (Ad 22 ad) post) := by
  refine wm_entry (cc := cX2_isOn) (maxL := 2) (ret := (some .boolean)) (own := RX2) (lv := [(0, .ref (ad 1)), (1, .int x1)]) (by decide +kernel) rfl rfl (Nat.le_of_ble_eq_true rfl) rfl hD ?_
  intro p e s m below meth c X hr
  unfold wp_X2_isOn at h
  refine wm_aload_n X 0 rfl dX2_isOn_0 ?_
  refine wm_get X (by decide +kernel) 1 rfl rfl 6 (by decide) (by decide +kernel) rfl dX2_isOn_1 ?_
  refine wm_iload_n X 1 rfl dX2_isOn_4 ?_
  refine wm_callNi (n := 2) (As := [.int (gI σ 3), .int x1]) (rest := []) X (c_X6_bitOf l G tI tJ tZ ad hD (gI σ 3) x1 σ _ h) gX2_isOn_X6_bitOf_n45 rfl ⟨rfl, rfl⟩ (List.mem_of_getElem? (i := 8) rfl) (by decide +kernel) (by decide +kernel) (by decide +kernel) ⟨Nat.le_of_ble_eq_true rfl, Nat.le_of_ble_eq_true rfl⟩ rfl rfl (Nat.le_of_ble_eq_true rfl) dX2_isOn_5 (fun r1 σ2 h => ?_)
  refine wm_iconst (v := 1) X (by decide) dX2_isOn_8 ?_
  refine wm_icmp_ne (tgt := 16) X (by decide) dX2_isOn_9 (fun c3 => ?_) (fun c3 => ?_)
  · replace h := h.1 c3
    refine wm_iconst (v := 0) X (by decide) dX2_isOn_16 ?_
    exact wm_zret X hr bz_0 h dX2_isOn_17
  · replace h := h.2 c3
    refine wm_iconst (v := 1) X (by decide) dX2_isOn_12 ?_
    refine wm_goto (tgt := 17) X (by decide) dX2_isOn_13 ?_
    exact wm_zret X hr bz_1 h dX2_isOn_17
/-! X2_linesAlike -/
abbrev rm_X2_linesAlike : Room := { frames := 2, cells := 0, slots := 0, locals := 42 }
def lp_X2_linesAlike_11 (post : Int32 → St → Prop)  : Nat → Int32 → Int32 → Int32 → St → Prop
  | 0, _, _, _, _ => False
  | n + 1, x1, x2, x3, σ =>
  ((gI σ 1) ≤ x3 → post x2 σ) ∧ (¬ (gI σ 1) ≤ x3 → wp_X2_isOn x3 σ (fun r2 σ3 => (r2 = 0 → ∀ v5 : Int32, v5 = x3 + 1 → lp_X2_linesAlike_11 post n x1 x2 v5 σ3) ∧ (¬ r2 = 0 → vp_in x3 10 ∧ (wp_X6_bitOf (gA σ3 0 (Int32.toNatClampNeg x3)) x1 σ3 (fun r7 σ8 => (¬ r7 = 1 → vp_in x3 10 ∧ (∀ v10 : Int32, v10 = x2 &&& ((gA σ8 0 (Int32.toNatClampNeg x3)) ^^^ (-1)) → ∀ v12 : Int32, v12 = x3 + 1 → lp_X2_linesAlike_11 post n x1 v10 v12 σ8)) ∧ (r7 = 1 → vp_in x3 10 ∧ (∀ v14 : Int32, v14 = x2 &&& (gA σ8 0 (Int32.toNatClampNeg x3)) → ∀ v16 : Int32, v16 = x3 + 1 → lp_X2_linesAlike_11 post n x1 v14 v16 σ8)))))))
def wp_X2_linesAlike (x1 : Int32) (σ : St) (post : Int32 → St → Prop) : Prop :=
  ∀ v1 : Int32, v1 = (1 <<< ((gI σ 0) &&& 31)) - 1 → ∃ fu : Nat, lp_X2_linesAlike_11 post fu x1 v1 0 σ
set_option maxRecDepth 100000 in
set_option maxHeartbeats 4000000 in
theorem w_X2_linesAlike_11 {p : Program} {l : Launch} {e : Env} {s : State} {m : MethodId} {args : Array Value} {below : List Frame} {meth : Method} {c : Code} {G : va_G} {tI tJ tZ : ClassId} {ad : Nat → Nat} (hD : ∀ σ, va_D (Ad 22 ad) (wdC tI tJ tZ ad σ)) (X : Cx p s m args meth c cX2_linesAlike 4 RX2 wsX2_linesAlike G (tyL tI tJ tZ) (wdC tI tJ tZ ad) (Ad 22 ad)) (hr : meth.sig.returnType = (some .int)) {post : Int32 → St → Prop}  : ∀ (n : Nat) (x1 : Int32) (x2 : Int32) (x3 : Int32) (σ : St), lp_X2_linesAlike_11 post n x1 x2 x3 σ → wm p l e rm_X2_linesAlike s m args below meth c G (wdC tI tJ tZ ad) (Ad 22 ad) 4 (MQ below (Qi G (wdC tI tJ tZ ad) (Ad 22 ad) post) args s 0 0 (Ad 22 ad)) σ [(0, .ref (ad 1)), (1, .int x1), (2, .int x2), (3, .int x3)] 11 [] := by
  intro n
  induction n with
  | zero => intro x1 x2 x3 σ h; exact h.elim
  | succ n ih =>
    intro x1 x2 x3 σ h
    unfold lp_X2_linesAlike_11 at h
    refine wm_iload_n X 3 rfl dX2_linesAlike_11 ?_
    refine wm_aload_n X 0 rfl dX2_linesAlike_12 ?_
    refine wm_get X (by decide +kernel) 1 rfl rfl 4 (by decide) (by decide +kernel) rfl dX2_linesAlike_13 ?_
    refine wm_icmp_ge (tgt := 67) X (by decide) dX2_linesAlike_16 (fun c1 => ?_) (fun c1 => ?_)
    · replace h := h.1 c1
      refine wm_iload_n X 2 rfl dX2_linesAlike_67 ?_
      exact wm_iret X hr h dX2_linesAlike_68
    · replace h := h.2 c1
      refine wm_aload_n X 0 rfl dX2_linesAlike_19 ?_
      refine wm_iload_n X 3 rfl dX2_linesAlike_20 ?_
      refine wm_callVi (n := 1) (As := [.int x3]) (rest := []) X (c_X2_isOn l G tI tJ tZ ad hD x3 σ _ h) gX2_linesAlike_X2_isOn rfl ⟨rfl, rfl⟩ (by decide +kernel) ⟨Nat.le_of_ble_eq_true rfl, Nat.le_of_ble_eq_true rfl⟩ 1 rfl rfl rfl rfl rfl (Nat.le_of_ble_eq_true rfl) dX2_linesAlike_21 (fun r2 σ3 h => ?_)
      refine wm_if_eq (tgt := 61) X (by decide) dX2_linesAlike_24 (fun c4 => ?_) (fun c4 => ?_)
      · replace h := h.1 c4
        obtain ⟨v5, e6⟩ : ∃ y : Int32, y = x3 + 1 := ⟨_, rfl⟩
        replace h := h v5 e6
        refine wm_iinc (v := v5) (lv' := [(3, .int v5), (0, .ref (ad 1)), (1, .int x1), (2, .int x2)]) X 3 rfl (by rw [e6]; rfl) (by decide) rfl dX2_linesAlike_61 ?_
        clear e6
        refine wm_goto (tgt := 11) X (by decide) dX2_linesAlike_64 ?_
        refine wm_sub [1, 2, 3, 0] (lv' := [(0, .ref (ad 1)), (1, .int x1), (2, .int x2), (3, .int v5)]) rfl ?_
        exact ih x1 x2 v5 σ3 h
      · replace h := h.2 c4
        refine wm_iload_n X 2 rfl dX2_linesAlike_27 ?_
        refine wm_aload_n X 0 rfl dX2_linesAlike_28 ?_
        refine wm_get X (by decide +kernel) 1 rfl rfl 0 (by decide) (by decide +kernel) rfl dX2_linesAlike_29 ?_
        refine wm_iload_n X 3 rfl dX2_linesAlike_32 ?_
        refine wm_iald X 2 0 rfl rfl h.1 dX2_linesAlike_33 ?_
        replace h := h.2
        refine wm_iload_n X 1 rfl dX2_linesAlike_34 ?_
        refine wm_callNi (n := 2) (As := [.int (gA σ3 0 (Int32.toNatClampNeg x3)), .int x1]) (rest := [.int x2]) X (c_X6_bitOf l G tI tJ tZ ad hD (gA σ3 0 (Int32.toNatClampNeg x3)) x1 σ3 _ h) gX2_linesAlike_X6_bitOf_n45 rfl ⟨rfl, rfl⟩ (List.mem_of_getElem? (i := 8) rfl) (by decide +kernel) (by decide +kernel) (by decide +kernel) ⟨Nat.le_of_ble_eq_true rfl, Nat.le_of_ble_eq_true rfl⟩ rfl rfl (Nat.le_of_ble_eq_true rfl) dX2_linesAlike_35 (fun r7 σ8 h => ?_)
        refine wm_iconst (v := 1) X (by decide) dX2_linesAlike_38 ?_
        refine wm_icmp_ne (tgt := 51) X (by decide) dX2_linesAlike_39 (fun c9 => ?_) (fun c9 => ?_)
        · replace h := h.1 c9
          refine wm_aload_n X 0 rfl dX2_linesAlike_51 ?_
          refine wm_get X (by decide +kernel) 1 rfl rfl 0 (by decide) (by decide +kernel) rfl dX2_linesAlike_52 ?_
          refine wm_iload_n X 3 rfl dX2_linesAlike_55 ?_
          refine wm_iald X 2 0 rfl rfl h.1 dX2_linesAlike_56 ?_
          replace h := h.2
          refine wm_iconst (v := (-1)) X (by decide) dX2_linesAlike_57 ?_
          refine wm_ixor X dX2_linesAlike_58 ?_
          refine wm_iand X dX2_linesAlike_59 ?_
          refine wm_nmI (fun v10 e11 => ?_)
          replace h := h v10 e11
          clear e11
          refine wm_istore_n (lv' := [(2, .int v10), (0, .ref (ad 1)), (1, .int x1), (3, .int x3)]) X rfl (by decide) rfl dX2_linesAlike_60 ?_
          obtain ⟨v12, e13⟩ : ∃ y : Int32, y = x3 + 1 := ⟨_, rfl⟩
          replace h := h v12 e13
          refine wm_iinc (v := v12) (lv' := [(3, .int v12), (2, .int v10), (0, .ref (ad 1)), (1, .int x1)]) X 3 rfl (by rw [e13]; rfl) (by decide) rfl dX2_linesAlike_61 ?_
          clear e13
          refine wm_goto (tgt := 11) X (by decide) dX2_linesAlike_64 ?_
          refine wm_sub [2, 3, 1, 0] (lv' := [(0, .ref (ad 1)), (1, .int x1), (2, .int v10), (3, .int v12)]) rfl ?_
          exact ih x1 v10 v12 σ8 h
        · replace h := h.2 c9
          refine wm_aload_n X 0 rfl dX2_linesAlike_42 ?_
          refine wm_get X (by decide +kernel) 1 rfl rfl 0 (by decide) (by decide +kernel) rfl dX2_linesAlike_43 ?_
          refine wm_iload_n X 3 rfl dX2_linesAlike_46 ?_
          refine wm_iald X 2 0 rfl rfl h.1 dX2_linesAlike_47 ?_
          replace h := h.2
          refine wm_goto (tgt := 59) X (by decide) dX2_linesAlike_48 ?_
          refine wm_iand X dX2_linesAlike_59 ?_
          refine wm_nmI (fun v14 e15 => ?_)
          replace h := h v14 e15
          clear e15
          refine wm_istore_n (lv' := [(2, .int v14), (0, .ref (ad 1)), (1, .int x1), (3, .int x3)]) X rfl (by decide) rfl dX2_linesAlike_60 ?_
          obtain ⟨v16, e17⟩ : ∃ y : Int32, y = x3 + 1 := ⟨_, rfl⟩
          replace h := h v16 e17
          refine wm_iinc (v := v16) (lv' := [(3, .int v16), (2, .int v14), (0, .ref (ad 1)), (1, .int x1)]) X 3 rfl (by rw [e17]; rfl) (by decide) rfl dX2_linesAlike_61 ?_
          clear e17
          refine wm_goto (tgt := 11) X (by decide) dX2_linesAlike_64 ?_
          refine wm_sub [2, 3, 1, 0] (lv' := [(0, .ref (ad 1)), (1, .int x1), (2, .int v14), (3, .int v16)]) rfl ?_
          exact ih x1 v14 v16 σ8 h
set_option maxRecDepth 100000 in
set_option maxHeartbeats 4000000 in
theorem c_X2_linesAlike (l : Launch) (G : va_G) (tI tJ tZ : ClassId) (ad : Nat → Nat) (hD : ∀ σ, va_D (Ad 22 ad) (wdC tI tJ tZ ad σ)) (x1 : Int32) (σ : St) (post : Int32 → St → Prop) (h : wp_X2_linesAlike x1 σ post) : Ct l yX2_linesAlike wsX2_linesAlike rm_X2_linesAlike G (tyL tI tJ tZ) (wdC tI tJ tZ ad) (Ad 22 ad) [.ref (ad 1), .int x1] σ (Qi G (wdC tI tJ tZ ad) (Ad 22 ad) post) := by
  refine wm_entry (cc := cX2_linesAlike) (maxL := 4) (ret := (some .int)) (own := RX2) (lv := [(0, .ref (ad 1)), (1, .int x1)]) (by decide +kernel) rfl rfl (Nat.le_of_ble_eq_true rfl) rfl hD ?_
  intro p e s m below meth c X hr
  unfold wp_X2_linesAlike at h
  refine wm_iconst (v := 1) X (by decide) dX2_linesAlike_0 ?_
  refine wm_aload_n X 0 rfl dX2_linesAlike_1 ?_
  refine wm_get X (by decide +kernel) 1 rfl rfl 3 (by decide) (by decide +kernel) rfl dX2_linesAlike_2 ?_
  refine wm_ishl X dX2_linesAlike_5 ?_
  refine wm_iconst (v := 1) X (by decide) dX2_linesAlike_6 ?_
  refine wm_isub X dX2_linesAlike_7 ?_
  refine wm_nmI (fun v1 e2 => ?_)
  replace h := h v1 e2
  clear e2
  refine wm_istore_n (lv' := [(2, .int v1), (0, .ref (ad 1)), (1, .int x1)]) X rfl (by decide) rfl dX2_linesAlike_8 ?_
  refine wm_iconst (v := 0) X (by decide) dX2_linesAlike_9 ?_
  refine wm_istore_n (lv' := [(3, .int 0), (2, .int v1), (0, .ref (ad 1)), (1, .int x1)]) X rfl (by decide) rfl dX2_linesAlike_10 ?_
  refine wm_sub [2, 3, 1, 0] (lv' := [(0, .ref (ad 1)), (1, .int x1), (2, .int v1), (3, .int 0)]) rfl ?_
  obtain ⟨n0, h⟩ := h
  exact w_X2_linesAlike_11 hD X hr n0 x1 v1 0 σ h
/-! X2_groupCount -/
abbrev rm_X2_groupCount : Room := { frames := 3, cells := 0, slots := 0, locals := 65 }
def lp_X2_groupCount_4 (post : Int32 → St → Prop)  : Nat → Int32 → Int32 → St → Prop
  | 0, _, _, _ => False
  | n + 1, x1, x2, σ =>
  ((gI σ 0) ≤ x2 → post x1 σ) ∧ (¬ (gI σ 0) ≤ x2 → ∀ v2 : Int32, v2 = (1 <<< (x2 &&& 31)) - 1 → wp_X2_linesAlike x2 σ (fun r4 σ5 => (¬ (r4 &&& v2) = 0 → ∀ v7 : Int32, v7 = x2 + 1 → lp_X2_groupCount_4 post n x1 v7 σ5) ∧ ((r4 &&& v2) = 0 → ∀ v9 : Int32, v9 = x1 + 1 → ∀ v11 : Int32, v11 = x2 + 1 → lp_X2_groupCount_4 post n v9 v11 σ5)))
def wp_X2_groupCount (σ : St) (post : Int32 → St → Prop) : Prop :=
  ∃ fu : Nat, lp_X2_groupCount_4 post fu 0 0 σ
set_option maxRecDepth 100000 in
set_option maxHeartbeats 4000000 in
theorem w_X2_groupCount_4 {p : Program} {l : Launch} {e : Env} {s : State} {m : MethodId} {args : Array Value} {below : List Frame} {meth : Method} {c : Code} {G : va_G} {tI tJ tZ : ClassId} {ad : Nat → Nat} (hD : ∀ σ, va_D (Ad 22 ad) (wdC tI tJ tZ ad σ)) (X : Cx p s m args meth c cX2_groupCount 4 RX2 wsX2_groupCount G (tyL tI tJ tZ) (wdC tI tJ tZ ad) (Ad 22 ad)) (hr : meth.sig.returnType = (some .int)) {post : Int32 → St → Prop}  : ∀ (n : Nat) (x1 : Int32) (x2 : Int32) (σ : St), lp_X2_groupCount_4 post n x1 x2 σ → wm p l e rm_X2_groupCount s m args below meth c G (wdC tI tJ tZ ad) (Ad 22 ad) 4 (MQ below (Qi G (wdC tI tJ tZ ad) (Ad 22 ad) post) args s 0 0 (Ad 22 ad)) σ [(0, .ref (ad 1)), (1, .int x1), (2, .int x2)] 4 [] := by
  intro n
  induction n with
  | zero => intro x1 x2 σ h; exact h.elim
  | succ n ih =>
    intro x1 x2 σ h
    unfold lp_X2_groupCount_4 at h
    refine wm_iload_n X 2 rfl dX2_groupCount_4 ?_
    refine wm_aload_n X 0 rfl dX2_groupCount_5 ?_
    refine wm_get X (by decide +kernel) 1 rfl rfl 3 (by decide) (by decide +kernel) rfl dX2_groupCount_6 ?_
    refine wm_icmp_ge (tgt := 37) X (by decide) dX2_groupCount_9 (fun c1 => ?_) (fun c1 => ?_)
    · replace h := h.1 c1
      refine wm_iload_n X 1 rfl dX2_groupCount_37 ?_
      exact wm_iret X hr h dX2_groupCount_38
    · replace h := h.2 c1
      refine wm_iconst (v := 1) X (by decide) dX2_groupCount_12 ?_
      refine wm_iload_n X 2 rfl dX2_groupCount_13 ?_
      refine wm_ishl X dX2_groupCount_14 ?_
      refine wm_iconst (v := 1) X (by decide) dX2_groupCount_15 ?_
      refine wm_isub X dX2_groupCount_16 ?_
      refine wm_nmI (fun v2 e3 => ?_)
      replace h := h v2 e3
      clear e3
      refine wm_istore_n (lv' := [(3, .int v2), (0, .ref (ad 1)), (1, .int x1), (2, .int x2)]) X rfl (by decide) rfl dX2_groupCount_17 ?_
      refine wm_aload_n X 1 rfl dX2_groupCount_18 ?_
      refine wm_iload_n X 3 rfl dX2_groupCount_19 ?_
      refine wm_callVi (n := 1) (As := [.int x2]) (rest := []) X (c_X2_linesAlike l G tI tJ tZ ad hD x2 σ _ h) gX2_groupCount_X2_linesAlike rfl ⟨rfl, rfl⟩ (by decide +kernel) ⟨Nat.le_of_ble_eq_true rfl, Nat.le_of_ble_eq_true rfl⟩ 1 rfl rfl rfl rfl rfl (Nat.le_of_ble_eq_true rfl) dX2_groupCount_20 (fun r4 σ5 h => ?_)
      refine wm_iload_n X 0 rfl dX2_groupCount_23 ?_
      refine wm_iand X dX2_groupCount_24 ?_
      refine wm_if_ne (tgt := 31) X (by decide) dX2_groupCount_25 (fun c6 => ?_) (fun c6 => ?_)
      · replace h := h.1 c6
        obtain ⟨v7, e8⟩ : ∃ y : Int32, y = x2 + 1 := ⟨_, rfl⟩
        replace h := h v7 e8
        refine wm_iinc (v := v7) (lv' := [(2, .int v7), (3, .int v2), (0, .ref (ad 1)), (1, .int x1)]) X 3 rfl (by rw [e8]; rfl) (by decide) rfl dX2_groupCount_31 ?_
        clear e8
        refine wm_goto (tgt := 4) X (by decide) dX2_groupCount_34 ?_
        refine wm_sub [2, 3, 0] (lv' := [(0, .ref (ad 1)), (1, .int x1), (2, .int v7)]) rfl ?_
        exact ih x1 v7 σ5 h
      · replace h := h.2 c6
        obtain ⟨v9, e10⟩ : ∃ y : Int32, y = x1 + 1 := ⟨_, rfl⟩
        replace h := h v9 e10
        refine wm_iinc (v := v9) (lv' := [(1, .int v9), (3, .int v2), (0, .ref (ad 1)), (2, .int x2)]) X 2 rfl (by rw [e10]; rfl) (by decide) rfl dX2_groupCount_28 ?_
        clear e10
        obtain ⟨v11, e12⟩ : ∃ y : Int32, y = x2 + 1 := ⟨_, rfl⟩
        replace h := h v11 e12
        refine wm_iinc (v := v11) (lv' := [(2, .int v11), (1, .int v9), (3, .int v2), (0, .ref (ad 1))]) X 3 rfl (by rw [e12]; rfl) (by decide) rfl dX2_groupCount_31 ?_
        clear e12
        refine wm_goto (tgt := 4) X (by decide) dX2_groupCount_34 ?_
        refine wm_sub [3, 1, 0] (lv' := [(0, .ref (ad 1)), (1, .int v9), (2, .int v11)]) rfl ?_
        exact ih v9 v11 σ5 h
set_option maxRecDepth 100000 in
set_option maxHeartbeats 4000000 in
theorem c_X2_groupCount (l : Launch) (G : va_G) (tI tJ tZ : ClassId) (ad : Nat → Nat) (hD : ∀ σ, va_D (Ad 22 ad) (wdC tI tJ tZ ad σ))  (σ : St) (post : Int32 → St → Prop) (h : wp_X2_groupCount  σ post) : Ct l yX2_groupCount wsX2_groupCount rm_X2_groupCount G (tyL tI tJ tZ) (wdC tI tJ tZ ad) (Ad 22 ad) [.ref (ad 1)] σ (Qi G (wdC tI tJ tZ ad) (Ad 22 ad) post) := by
  refine wm_entry (cc := cX2_groupCount) (maxL := 4) (ret := (some .int)) (own := RX2) (lv := [(0, .ref (ad 1))]) (by decide +kernel) rfl rfl (Nat.le_of_ble_eq_true rfl) rfl hD ?_
  intro p e s m below meth c X hr
  unfold wp_X2_groupCount at h
  refine wm_iconst (v := 0) X (by decide) dX2_groupCount_0 ?_
  refine wm_istore_n (lv' := [(1, .int 0), (0, .ref (ad 1))]) X rfl (by decide) rfl dX2_groupCount_1 ?_
  refine wm_iconst (v := 0) X (by decide) dX2_groupCount_2 ?_
  refine wm_istore_n (lv' := [(2, .int 0), (1, .int 0), (0, .ref (ad 1))]) X rfl (by decide) rfl dX2_groupCount_3 ?_
  refine wm_sub [2, 1, 0] (lv' := [(0, .ref (ad 1)), (1, .int 0), (2, .int 0)]) rfl ?_
  obtain ⟨n0, h⟩ := h
  exact w_X2_groupCount_4 hD X hr n0 0 0 σ h
/-! X5_startOf -/
abbrev rm_X5_startOf : Room := { frames := 0, cells := 0, slots := 0, locals := 0 }
def wp_X5_startOf (x0 : Int32) (x1 : Int32) (σ : St) (post : Int32 → St → Prop) : Prop :=
  post (((x0 * 30) + x1) * 10) σ
set_option maxRecDepth 100000 in
set_option maxHeartbeats 4000000 in
theorem c_X5_startOf (l : Launch) (G : va_G) (tI tJ tZ : ClassId) (ad : Nat → Nat) (hD : ∀ σ, va_D (Ad 22 ad) (wdC tI tJ tZ ad σ)) (x0 : Int32) (x1 : Int32) (σ : St) (post : Int32 → St → Prop) (h : wp_X5_startOf x0 x1 σ post) : Ct l yX5_startOf wsX5_startOf rm_X5_startOf G (tyL tI tJ tZ) (wdC tI tJ tZ ad) (Ad 22 ad) [.int x0, .int x1] σ (Qi G (wdC tI tJ tZ ad) (Ad 22 ad) post) := by
  refine wm_entry (cc := cX5_startOf) (maxL := 2) (ret := (some .int)) (own := RX5) (lv := [(0, .int x0), (1, .int x1)]) (by decide +kernel) rfl rfl (Nat.le_of_ble_eq_true rfl) rfl hD ?_
  intro p e s m below meth c X hr
  unfold wp_X5_startOf at h
  refine wm_iload_n X 0 rfl dX5_startOf_0 ?_
  refine wm_bipush (v := 30) X (by decide) dX5_startOf_1 ?_
  refine wm_imul X dX5_startOf_3 ?_
  refine wm_iload_n X 1 rfl dX5_startOf_4 ?_
  refine wm_iadd X dX5_startOf_5 ?_
  refine wm_bipush (v := 10) X (by decide) dX5_startOf_6 ?_
  refine wm_imul X dX5_startOf_8 ?_
  exact wm_iret X hr h dX5_startOf_9
