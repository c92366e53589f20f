/-! X7_in -/
abbrev rm_X7_in : Room := { frames := 0, cells := 0, slots := 0, locals := 0 }
def wp_X7_in (x0 : Int64) (x2 : Int64) (x4 : Int64) (σ : St) (post : Int32 → St → Prop) : Prop :=
  (x0 < x2 → post 0 σ) ∧ (¬ x0 < x2 → (x4 < x0 → post 0 σ) ∧ (¬ x4 < x0 → post 1 σ))
set_option maxRecDepth 100000 in
set_option maxHeartbeats 4000000 in
theorem c_X7_in (l : Launch) (G : va_G) (tI tJ tZ : ClassId) (ad : Nat → Nat) (hD : ∀ σ, va_D (Ad 11 ad) (wdM tI tJ tZ ad σ)) (x0 : Int64) (x2 : Int64) (x4 : Int64) (σ : St) (post : Int32 → St → Prop) (h : wp_X7_in x0 x2 x4 σ post) : Ct l yX7_in wsX7_in rm_X7_in G (tyL tI tJ tZ) (wdM tI tJ tZ ad) (Ad 11 ad) [.long x0, .long x2, .long x4] σ (Qi G (wdM tI tJ tZ ad) (Ad 11 ad) post) := by
  refine wm_entry (cc := cX7_in) (maxL := 6) (ret := (some .boolean)) (own := RX7) (lv := [(0, .long x0), (2, .long x2), (4, .long x4)]) (by decide +kernel) rfl rfl (Nat.le_of_ble_eq_true rfl) rfl hD ?_
  intro p e s m below meth c X hr
  unfold wp_X7_in at h
  refine wm_lload_n X 0 rfl dX7_in_0 ?_
  refine wm_lload_n X 1 rfl dX7_in_1 ?_
  refine wm_lcmp X dX7_in_2 ?_
  refine wm_if_lt (tgt := 17) X (by decide) dX7_in_3 (fun c1 => ?_) (fun c1 => ?_)
  · replace h := h.1 ((lc_lt _ _).mp c1)
    refine wm_iconst (v := 0) X (by decide) dX7_in_17 ?_
    exact wm_zret X hr bz_0 h dX7_in_18
  · replace h := h.2 ((lc_nlt _ _).mp c1)
    refine wm_lload_n X 0 rfl dX7_in_6 ?_
    refine wm_lload X 2 rfl dX7_in_7 ?_
    refine wm_lcmp X dX7_in_9 ?_
    refine wm_if_gt (tgt := 17) X (by decide) dX7_in_10 (fun c2 => ?_) (fun c2 => ?_)
    · replace h := h.1 ((lc_gt _ _).mp c2)
      refine wm_iconst (v := 0) X (by decide) dX7_in_17 ?_
      exact wm_zret X hr bz_0 h dX7_in_18
    · replace h := h.2 ((lc_ngt _ _).mp c2)
      refine wm_iconst (v := 1) X (by decide) dX7_in_13 ?_
      refine wm_goto (tgt := 18) X (by decide) dX7_in_14 ?_
      exact wm_zret X hr bz_1 h dX7_in_18
/-! X7_lines -/
abbrev rm_X7_lines : Room := { frames := 1, cells := 0, slots := 0, locals := 25 }
def wp_X7_lines (x1 : Int32) (σ : St) (post : Int32 → St → Prop) : Prop :=
  wp_X7_in (Int32.toInt64 x1) 1 10 σ (fun r1 σ2 => (¬ r1 = 0 → ∀ v4 : Int32, v4 = gI σ2 0 → ∀ σ6 : St, σ6 = sI σ2 0 x1 → ∀ σ8 : St, σ8 = sI σ6 1 0 → ∀ σ10 : St, σ10 = sI σ8 2 0 → post v4 σ10) ∧ (r1 = 0 → post (-102) σ2))
set_option maxRecDepth 100000 in
set_option maxHeartbeats 4000000 in
theorem c_X7_lines (l : Launch) (G : va_G) (tI tJ tZ : ClassId) (ad : Nat → Nat) (hD : ∀ σ, va_D (Ad 11 ad) (wdM tI tJ tZ ad σ)) (x1 : Int32) (σ : St) (post : Int32 → St → Prop) (h : wp_X7_lines x1 σ post) : Ct l yX7_lines wsX7_lines rm_X7_lines G (tyL tI tJ tZ) (wdM tI tJ tZ ad) (Ad 11 ad) [.ref (ad 0), .int x1] σ (Qi G (wdM tI tJ tZ ad) (Ad 11 ad) post) := by
  refine wm_entry (cc := cX7_lines) (maxL := 3) (ret := (some .int)) (own := RX7) (lv := [(0, .ref (ad 0)), (1, .int x1)]) (by decide +kernel) rfl rfl (Nat.le_of_ble_eq_true rfl) rfl hD ?_
  intro p e s m below meth c X hr
  unfold wp_X7_lines at h
  refine wm_iload_n X 1 rfl dX7_lines_0 ?_
  refine wm_i2l X dX7_lines_1 ?_
  refine wm_lconst (v := 1) X (by decide) dX7_lines_2 ?_
  refine wm_ldc2 (v := 10) X (by decide +kernel) dX7_lines_3 ?_
  refine wm_callSi (n := 3) (As := [.long (Int32.toInt64 x1), .long 1, .long 10]) (rest := []) X (c_X7_in l G tI tJ tZ ad hD (Int32.toInt64 x1) 1 10 σ _ h) gX7_lines_X7_in rfl ⟨rfl, rfl⟩ (by decide +kernel) ⟨Nat.le_of_ble_eq_true rfl, Nat.le_of_ble_eq_true rfl⟩ rfl rfl (Nat.le_of_ble_eq_true rfl) dX7_lines_6 (fun r1 σ2 h => ?_)
  refine wm_if_ne (tgt := 15) X (by decide) dX7_lines_9 (fun c3 => ?_) (fun c3 => ?_)
  · replace h := h.1 c3
    refine wm_aload_n X 0 rfl dX7_lines_15 ?_
    refine wm_get X (by decide +kernel) 0 rfl rfl 0 (by decide) (by decide +kernel) rfl dX7_lines_16 ?_
    refine wm_nmI (fun v4 e5 => ?_)
    replace h := h v4 e5
    clear e5
    refine wm_istore_n (lv' := [(2, .int v4), (0, .ref (ad 0)), (1, .int x1)]) X rfl (by decide) rfl dX7_lines_19 ?_
    refine wm_aload_n X 1 rfl dX7_lines_20 ?_
    refine wm_iload_n X 2 rfl dX7_lines_21 ?_
    refine wm_put (σ' := sI σ2 0 x1) X (by decide +kernel) tyX7 tyX7_ok nmX7 0 rfl rfl 0 (by decide) (by decide +kernel) rfl (tyX7_ok 0 (by decide)) rfl rfl (Nat.le_of_ble_eq_true rfl) rfl dX7_lines_22 ?_
    refine wm_nmS (fun σ6 e7 => ?_)
    replace h := h σ6 e7
    clear e7
    refine wm_aload_n X 1 rfl dX7_lines_25 ?_
    refine wm_iconst (v := 0) X (by decide) dX7_lines_26 ?_
    refine wm_put (σ' := sI σ6 1 0) X (by decide +kernel) tyX7 tyX7_ok nmX7 0 rfl rfl 5 (by decide) (by decide +kernel) rfl (tyX7_ok 5 (by decide)) rfl rfl (Nat.le_of_ble_eq_true rfl) rfl dX7_lines_27 ?_
    refine wm_nmS (fun σ8 e9 => ?_)
    replace h := h σ8 e9
    clear e9
    refine wm_aload_n X 1 rfl dX7_lines_30 ?_
    refine wm_iconst (v := 0) X (by decide) dX7_lines_31 ?_
    refine wm_put (σ' := sI σ8 2 0) X (by decide +kernel) tyX7 tyX7_ok nmX7 0 rfl rfl 7 (by decide) (by decide +kernel) rfl (tyX7_ok 7 (by decide)) rfl rfl (Nat.le_of_ble_eq_true rfl) rfl dX7_lines_32 ?_
    refine wm_nmS (fun σ10 e11 => ?_)
    replace h := h σ10 e11
    clear e11
    refine wm_iload_n X 0 rfl dX7_lines_35 ?_
    exact wm_iret X hr h dX7_lines_36
  · replace h := h.2 c3
    refine wm_bipush (v := (-102)) X (by decide) dX7_lines_12 ?_
    exact wm_iret X hr h dX7_lines_14
/-! X7_noSet -/
abbrev rm_X7_noSet : Room := { frames := 1, cells := 0, slots := 0, locals := 25 }
def wp_X7_noSet (x1 : Int32) (x2 : Int32) (σ : St) (post : Int32 → St → Prop) : Prop :=
  wp_X7_in (Int32.toInt64 x1) (Int32.toInt64 x2) (Int32.toInt64 ((1 <<< ((gI σ 0) &&& 31)) - 1)) σ (fun r1 σ2 => (¬ r1 = 0 → post 0 σ2) ∧ (r1 = 0 → post 1 σ2))
set_option maxRecDepth 100000 in
set_option maxHeartbeats 4000000 in
theorem c_X7_noSet (l : Launch) (G : va_G) (tI tJ tZ : ClassId) (ad : Nat → Nat) (hD : ∀ σ, va_D (Ad 11 ad) (wdM tI tJ tZ ad σ)) (x1 : Int32) (x2 : Int32) (σ : St) (post : Int32 → St → Prop) (h : wp_X7_noSet x1 x2 σ post) : Ct l yX7_noSet wsX7_noSet rm_X7_noSet G (tyL tI tJ tZ) (wdM tI tJ tZ ad) (Ad 11 ad) [.ref (ad 0), .int x1, .int x2] σ (Qi G (wdM tI tJ tZ ad) (Ad 11 ad) post) := by
  refine wm_entry (cc := cX7_noSet) (maxL := 3) (ret := (some .boolean)) (own := RX7) (lv := [(0, .ref (ad 0)), (1, .int x1), (2, .int x2)]) (by decide +kernel) rfl rfl (Nat.le_of_ble_eq_true rfl) rfl hD ?_
  intro p e s m below meth c X hr
  unfold wp_X7_noSet at h
  refine wm_iload_n X 1 rfl dX7_noSet_0 ?_
  refine wm_i2l X dX7_noSet_1 ?_
  refine wm_iload_n X 2 rfl dX7_noSet_2 ?_
  refine wm_i2l X dX7_noSet_3 ?_
  refine wm_iconst (v := 1) X (by decide) dX7_noSet_4 ?_
  refine wm_aload_n X 0 rfl dX7_noSet_5 ?_
  refine wm_get X (by decide +kernel) 0 rfl rfl 0 (by decide) (by decide +kernel) rfl dX7_noSet_6 ?_
  refine wm_ishl X dX7_noSet_9 ?_
  refine wm_iconst (v := 1) X (by decide) dX7_noSet_10 ?_
  refine wm_isub X dX7_noSet_11 ?_
  refine wm_i2l X dX7_noSet_12 ?_
  refine wm_callSi (n := 3) (As := [.long (Int32.toInt64 x1), .long (Int32.toInt64 x2), .long (Int32.toInt64 ((1 <<< ((gI σ 0) &&& 31)) - 1))]) (rest := []) X (c_X7_in l G tI tJ tZ ad hD (Int32.toInt64 x1) (Int32.toInt64 x2) (Int32.toInt64 ((1 <<< ((gI σ 0) &&& 31)) - 1)) σ _ h) gX7_noSet_X7_in rfl ⟨rfl, rfl⟩ (by decide +kernel) ⟨Nat.le_of_ble_eq_true rfl, Nat.le_of_ble_eq_true rfl⟩ rfl rfl (Nat.le_of_ble_eq_true rfl) dX7_noSet_13 (fun r1 σ2 h => ?_)
  refine wm_if_ne (tgt := 23) X (by decide) dX7_noSet_16 (fun c3 => ?_) (fun c3 => ?_)
  · replace h := h.1 c3
    refine wm_iconst (v := 0) X (by decide) dX7_noSet_23 ?_
    exact wm_zret X hr bz_0 h dX7_noSet_24
  · replace h := h.2 c3
    refine wm_iconst (v := 1) X (by decide) dX7_noSet_19 ?_
    refine wm_goto (tgt := 24) X (by decide) dX7_noSet_20 ?_
    exact wm_zret X hr bz_1 h dX7_noSet_24
/-! X7_way -/
abbrev rm_X7_way : Room := { frames := 2, cells := 0, slots := 0, locals := 47 }
def wp_X7_way (x1 : Int32) (x2 : Int32) (σ : St) (post : Int32 → St → Prop) : Prop :=
  wp_X7_noSet x1 1 σ (fun r1 σ2 => (¬ r1 = 0 → post (-102) σ2) ∧ (r1 = 0 → wp_X7_in (Int32.toInt64 x2) 0 100000 σ2 (fun r4 σ5 => (¬ r4 = 0 → (¬ (gI σ5 1) = 10 → vp_in (gI σ5 1) 10 ∧ (∀ σ8 : St, σ8 = sA σ5 0 (Int32.toNatClampNeg (gI σ5 1)) x1 → vp_in (gI σ8 1) 10 ∧ (∀ σ10 : St, σ10 = sA σ8 1 (Int32.toNatClampNeg (gI σ8 1)) x2 → vp_in (gI σ10 1) 10 ∧ (∀ σ12 : St, σ12 = sA σ10 2 (Int32.toNatClampNeg (gI σ10 1)) 1 → vp_in (gI σ12 1) 10 ∧ (∀ σ14 : St, σ14 = sA σ12 3 (Int32.toNatClampNeg (gI σ12 1)) 0 → ∀ σ16 : St, σ16 = sI σ14 1 ((gI σ14 1) + 1) → post ((gI σ16 1) - 1) σ16))))) ∧ ((gI σ5 1) = 10 → post (-104) σ5)) ∧ (r4 = 0 → post (-102) σ5))))
set_option maxRecDepth 100000 in
set_option maxHeartbeats 4000000 in
theorem c_X7_way (l : Launch) (G : va_G) (tI tJ tZ : ClassId) (ad : Nat → Nat) (hD : ∀ σ, va_D (Ad 11 ad) (wdM tI tJ tZ ad σ)) (x1 : Int32) (x2 : Int32) (σ : St) (post : Int32 → St → Prop) (h : wp_X7_way x1 x2 σ post) : Ct l yX7_way wsX7_way rm_X7_way G (tyL tI tJ tZ) (wdM tI tJ tZ ad) (Ad 11 ad) [.ref (ad 0), .int x1, .int x2] σ (Qi G (wdM tI tJ tZ ad) (Ad 11 ad) post) := by
  refine wm_entry (cc := cX7_way) (maxL := 3) (ret := (some .int)) (own := RX7) (lv := [(0, .ref (ad 0)), (1, .int x1), (2, .int x2)]) (by decide +kernel) rfl rfl (Nat.le_of_ble_eq_true rfl) rfl hD ?_
  intro p e s m below meth c X hr
  unfold wp_X7_way at h
  refine wm_aload_n X 0 rfl dX7_way_0 ?_
  refine wm_iload_n X 1 rfl dX7_way_1 ?_
  refine wm_iconst (v := 1) X (by decide) dX7_way_2 ?_
  refine wm_callVi (n := 2) (As := [.int x1, .int 1]) (rest := []) X (c_X7_noSet l G tI tJ tZ ad hD x1 1 σ _ h) gX7_way_X7_noSet rfl ⟨rfl, rfl⟩ (by decide +kernel) ⟨Nat.le_of_ble_eq_true rfl, Nat.le_of_ble_eq_true rfl⟩ 0 rfl rfl rfl rfl rfl (Nat.le_of_ble_eq_true rfl) dX7_way_3 (fun r1 σ2 h => ?_)
  refine wm_if_ne (tgt := 21) X (by decide) dX7_way_6 (fun c3 => ?_) (fun c3 => ?_)
  · replace h := h.1 c3
    refine wm_bipush (v := (-102)) X (by decide) dX7_way_21 ?_
    exact wm_iret X hr h dX7_way_23
  · replace h := h.2 c3
    refine wm_iload_n X 2 rfl dX7_way_9 ?_
    refine wm_i2l X dX7_way_10 ?_
    refine wm_lconst (v := 0) X (by decide) dX7_way_11 ?_
    refine wm_ldc2 (v := 100000) X (by decide +kernel) dX7_way_12 ?_
    refine wm_callSi (n := 3) (As := [.long (Int32.toInt64 x2), .long 0, .long 100000]) (rest := []) X (c_X7_in l G tI tJ tZ ad hD (Int32.toInt64 x2) 0 100000 σ2 _ h) gX7_way_X7_in rfl ⟨rfl, rfl⟩ (by decide +kernel) ⟨Nat.le_of_ble_eq_true rfl, Nat.le_of_ble_eq_true rfl⟩ rfl rfl (Nat.le_of_ble_eq_true rfl) dX7_way_15 (fun r4 σ5 h => ?_)
    refine wm_if_ne (tgt := 24) X (by decide) dX7_way_18 (fun c6 => ?_) (fun c6 => ?_)
    · replace h := h.1 c6
      refine wm_aload_n X 0 rfl dX7_way_24 ?_
      refine wm_get X (by decide +kernel) 0 rfl rfl 5 (by decide) (by decide +kernel) rfl dX7_way_25 ?_
      refine wm_bipush (v := 10) X (by decide) dX7_way_28 ?_
      refine wm_icmp_ne (tgt := 36) X (by decide) dX7_way_30 (fun c7 => ?_) (fun c7 => ?_)
      · replace h := h.1 c7
        refine wm_aload_n X 0 rfl dX7_way_36 ?_
        refine wm_get X (by decide +kernel) 0 rfl rfl 1 (by decide) (by decide +kernel) rfl dX7_way_37 ?_
        refine wm_aload_n X 0 rfl dX7_way_40 ?_
        refine wm_get X (by decide +kernel) 0 rfl rfl 5 (by decide) (by decide +kernel) rfl dX7_way_41 ?_
        refine wm_iload_n X 1 rfl dX7_way_44 ?_
        refine wm_iast (σ' := sA σ5 0 (Int32.toNatClampNeg (gI σ5 1)) x1) X 1 0 rfl rfl h.1 rfl dX7_way_45 ?_
        replace h := h.2
        refine wm_nmS (fun σ8 e9 => ?_)
        replace h := h σ8 e9
        clear e9
        refine wm_aload_n X 0 rfl dX7_way_46 ?_
        refine wm_get X (by decide +kernel) 0 rfl rfl 2 (by decide) (by decide +kernel) rfl dX7_way_47 ?_
        refine wm_aload_n X 0 rfl dX7_way_50 ?_
        refine wm_get X (by decide +kernel) 0 rfl rfl 5 (by decide) (by decide +kernel) rfl dX7_way_51 ?_
        refine wm_iload_n X 2 rfl dX7_way_54 ?_
        refine wm_iast (σ' := sA σ8 1 (Int32.toNatClampNeg (gI σ8 1)) x2) X 2 0 rfl rfl h.1 rfl dX7_way_55 ?_
        replace h := h.2
        refine wm_nmS (fun σ10 e11 => ?_)
        replace h := h σ10 e11
        clear e11
        refine wm_aload_n X 0 rfl dX7_way_56 ?_
        refine wm_get X (by decide +kernel) 0 rfl rfl 3 (by decide) (by decide +kernel) rfl dX7_way_57 ?_
        refine wm_aload_n X 0 rfl dX7_way_60 ?_
        refine wm_get X (by decide +kernel) 0 rfl rfl 5 (by decide) (by decide +kernel) rfl dX7_way_61 ?_
        refine wm_iconst (v := 1) X (by decide) dX7_way_64 ?_
        refine wm_zast (σ' := sA σ10 2 (Int32.toNatClampNeg (gI σ10 1)) 1) X 3 2 rfl rfl h.1 bz_1 rfl dX7_way_65 ?_
        replace h := h.2
        refine wm_nmS (fun σ12 e13 => ?_)
        replace h := h σ12 e13
        clear e13
        refine wm_aload_n X 0 rfl dX7_way_66 ?_
        refine wm_get X (by decide +kernel) 0 rfl rfl 4 (by decide) (by decide +kernel) rfl dX7_way_67 ?_
        refine wm_aload_n X 0 rfl dX7_way_70 ?_
        refine wm_get X (by decide +kernel) 0 rfl rfl 5 (by decide) (by decide +kernel) rfl dX7_way_71 ?_
        refine wm_iconst (v := 0) X (by decide) dX7_way_74 ?_
        refine wm_zast (σ' := sA σ12 3 (Int32.toNatClampNeg (gI σ12 1)) 0) X 4 2 rfl rfl h.1 bz_0 rfl dX7_way_75 ?_
        replace h := h.2
        refine wm_nmS (fun σ14 e15 => ?_)
        replace h := h σ14 e15
        clear e15
        refine wm_aload_n X 0 rfl dX7_way_76 ?_
        refine wm_dup X rfl dX7_way_77 ?_
        refine wm_get X (by decide +kernel) 0 rfl rfl 5 (by decide) (by decide +kernel) rfl dX7_way_78 ?_
        refine wm_iconst (v := 1) X (by decide) dX7_way_81 ?_
        refine wm_iadd X dX7_way_82 ?_
        refine wm_put (σ' := sI σ14 1 ((gI σ14 1) + 1)) X (by decide +kernel) tyX7 tyX7_ok nmX7 0 rfl rfl 5 (by decide) (by decide +kernel) rfl (tyX7_ok 5 (by decide)) rfl rfl (Nat.le_of_ble_eq_true rfl) rfl dX7_way_83 ?_
        refine wm_nmS (fun σ16 e17 => ?_)
        replace h := h σ16 e17
        clear e17
        refine wm_aload_n X 0 rfl dX7_way_86 ?_
        refine wm_get X (by decide +kernel) 0 rfl rfl 5 (by decide) (by decide +kernel) rfl dX7_way_87 ?_
        refine wm_iconst (v := 1) X (by decide) dX7_way_90 ?_
        refine wm_isub X dX7_way_91 ?_
        exact wm_iret X hr h dX7_way_92
      · replace h := h.2 c7
        refine wm_bipush (v := (-104)) X (by decide) dX7_way_33 ?_
        exact wm_iret X hr h dX7_way_35
    · replace h := h.2 c6
      refine wm_bipush (v := (-102)) X (by decide) dX7_way_21 ?_
      exact wm_iret X hr h dX7_way_23
/-! X7_noWay -/
abbrev rm_X7_noWay : Room := { frames := 1, cells := 0, slots := 0, locals := 25 }
def wp_X7_noWay (x1 : Int32) (σ : St) (post : Int32 → St → Prop) : Prop :=
  wp_X7_in (Int32.toInt64 x1) 0 (Int32.toInt64 ((gI σ 1) - 1)) σ (fun r1 σ2 => (¬ r1 = 0 → post 0 σ2) ∧ (r1 = 0 → post 1 σ2))
set_option maxRecDepth 100000 in
set_option maxHeartbeats 4000000 in
theorem c_X7_noWay (l : Launch) (G : va_G) (tI tJ tZ : ClassId) (ad : Nat → Nat) (hD : ∀ σ, va_D (Ad 11 ad) (wdM tI tJ tZ ad σ)) (x1 : Int32) (σ : St) (post : Int32 → St → Prop) (h : wp_X7_noWay x1 σ post) : Ct l yX7_noWay wsX7_noWay rm_X7_noWay G (tyL tI tJ tZ) (wdM tI tJ tZ ad) (Ad 11 ad) [.ref (ad 0), .int x1] σ (Qi G (wdM tI tJ tZ ad) (Ad 11 ad) post) := by
  refine wm_entry (cc := cX7_noWay) (maxL := 2) (ret := (some .boolean)) (own := RX7) (lv := [(0, .ref (ad 0)), (1, .int x1)]) (by decide +kernel) rfl rfl (Nat.le_of_ble_eq_true rfl) rfl hD ?_
  intro p e s m below meth c X hr
  unfold wp_X7_noWay at h
  refine wm_iload_n X 1 rfl dX7_noWay_0 ?_
  refine wm_i2l X dX7_noWay_1 ?_
  refine wm_lconst (v := 0) X (by decide) dX7_noWay_2 ?_
  refine wm_aload_n X 0 rfl dX7_noWay_3 ?_
  refine wm_get X (by decide +kernel) 0 rfl rfl 5 (by decide) (by decide +kernel) rfl dX7_noWay_4 ?_
  refine wm_iconst (v := 1) X (by decide) dX7_noWay_7 ?_
  refine wm_isub X dX7_noWay_8 ?_
  refine wm_i2l X dX7_noWay_9 ?_
  refine wm_callSi (n := 3) (As := [.long (Int32.toInt64 x1), .long 0, .long (Int32.toInt64 ((gI σ 1) - 1))]) (rest := []) X (c_X7_in l G tI tJ tZ ad hD (Int32.toInt64 x1) 0 (Int32.toInt64 ((gI σ 1) - 1)) σ _ h) gX7_noWay_X7_in rfl ⟨rfl, rfl⟩ (by decide +kernel) ⟨Nat.le_of_ble_eq_true rfl, Nat.le_of_ble_eq_true rfl⟩ rfl rfl (Nat.le_of_ble_eq_true rfl) dX7_noWay_10 (fun r1 σ2 h => ?_)
  refine wm_if_ne (tgt := 20) X (by decide) dX7_noWay_13 (fun c3 => ?_) (fun c3 => ?_)
  · replace h := h.1 c3
    refine wm_iconst (v := 0) X (by decide) dX7_noWay_20 ?_
    exact wm_zret X hr bz_0 h dX7_noWay_21
  · replace h := h.2 c3
    refine wm_iconst (v := 1) X (by decide) dX7_noWay_16 ?_
    refine wm_goto (tgt := 21) X (by decide) dX7_noWay_17 ?_
    exact wm_zret X hr bz_1 h dX7_noWay_21
/-! X7_sum -/
abbrev rm_X7_sum : Room := { frames := 2, cells := 0, slots := 0, locals := 46 }
def wp_X7_sum (x1 : Int32) (x2 : Int32) (σ : St) (post : Int32 → St → Prop) : Prop :=
  wp_X7_noWay x1 σ (fun r1 σ2 => (r1 = 0 → wp_X7_in (Int32.toInt64 x2) 0 100000 σ2 (fun r4 σ5 => (¬ r4 = 0 → vp_in x1 10 ∧ (∀ v7 : Int32, v7 = gA σ5 1 (Int32.toNatClampNeg x1) → vp_in x1 10 ∧ (∀ σ9 : St, σ9 = sA σ5 1 (Int32.toNatClampNeg x1) x2 → post v7 σ9))) ∧ (r4 = 0 → post (-102) σ5))) ∧ (¬ r1 = 0 → post (-101) σ2))
set_option maxRecDepth 100000 in
set_option maxHeartbeats 4000000 in
theorem c_X7_sum (l : Launch) (G : va_G) (tI tJ tZ : ClassId) (ad : Nat → Nat) (hD : ∀ σ, va_D (Ad 11 ad) (wdM tI tJ tZ ad σ)) (x1 : Int32) (x2 : Int32) (σ : St) (post : Int32 → St → Prop) (h : wp_X7_sum x1 x2 σ post) : Ct l yX7_sum wsX7_sum rm_X7_sum G (tyL tI tJ tZ) (wdM tI tJ tZ ad) (Ad 11 ad) [.ref (ad 0), .int x1, .int x2] σ (Qi G (wdM tI tJ tZ ad) (Ad 11 ad) post) := by
  refine wm_entry (cc := cX7_sum) (maxL := 4) (ret := (some .int)) (own := RX7) (lv := [(0, .ref (ad 0)), (1, .int x1), (2, .int x2)]) (by decide +kernel) rfl rfl (Nat.le_of_ble_eq_true rfl) rfl hD ?_
  intro p e s m below meth c X hr
  unfold wp_X7_sum at h
  refine wm_aload_n X 0 rfl dX7_sum_0 ?_
  refine wm_iload_n X 1 rfl dX7_sum_1 ?_
  refine wm_callVi (n := 1) (As := [.int x1]) (rest := []) X (c_X7_noWay l G tI tJ tZ ad hD x1 σ _ h) gX7_sum_X7_noWay rfl ⟨rfl, rfl⟩ (by decide +kernel) ⟨Nat.le_of_ble_eq_true rfl, Nat.le_of_ble_eq_true rfl⟩ 0 rfl rfl rfl rfl rfl (Nat.le_of_ble_eq_true rfl) dX7_sum_2 (fun r1 σ2 h => ?_)
  refine wm_if_eq (tgt := 11) X (by decide) dX7_sum_5 (fun c3 => ?_) (fun c3 => ?_)
  · replace h := h.1 c3
    refine wm_iload_n X 2 rfl dX7_sum_11 ?_
    refine wm_i2l X dX7_sum_12 ?_
    refine wm_lconst (v := 0) X (by decide) dX7_sum_13 ?_
    refine wm_ldc2 (v := 100000) X (by decide +kernel) dX7_sum_14 ?_
    refine wm_callSi (n := 3) (As := [.long (Int32.toInt64 x2), .long 0, .long 100000]) (rest := []) X (c_X7_in l G tI tJ tZ ad hD (Int32.toInt64 x2) 0 100000 σ2 _ h) gX7_sum_X7_in rfl ⟨rfl, rfl⟩ (by decide +kernel) ⟨Nat.le_of_ble_eq_true rfl, Nat.le_of_ble_eq_true rfl⟩ rfl rfl (Nat.le_of_ble_eq_true rfl) dX7_sum_17 (fun r4 σ5 h => ?_)
    refine wm_if_ne (tgt := 26) X (by decide) dX7_sum_20 (fun c6 => ?_) (fun c6 => ?_)
    · replace h := h.1 c6
      refine wm_aload_n X 0 rfl dX7_sum_26 ?_
      refine wm_get X (by decide +kernel) 0 rfl rfl 2 (by decide) (by decide +kernel) rfl dX7_sum_27 ?_
      refine wm_iload_n X 1 rfl dX7_sum_30 ?_
      refine wm_iald X 2 0 rfl rfl h.1 dX7_sum_31 ?_
      replace h := h.2
      refine wm_nmI (fun v7 e8 => ?_)
      replace h := h v7 e8
      clear e8
      refine wm_istore_n (lv' := [(3, .int v7), (0, .ref (ad 0)), (1, .int x1), (2, .int x2)]) X rfl (by decide) rfl dX7_sum_32 ?_
      refine wm_aload_n X 1 rfl dX7_sum_33 ?_
      refine wm_get X (by decide +kernel) 0 rfl rfl 2 (by decide) (by decide +kernel) rfl dX7_sum_34 ?_
      refine wm_iload_n X 2 rfl dX7_sum_37 ?_
      refine wm_iload_n X 3 rfl dX7_sum_38 ?_
      refine wm_iast (σ' := sA σ5 1 (Int32.toNatClampNeg x1) x2) X 2 0 rfl rfl h.1 rfl dX7_sum_39 ?_
      replace h := h.2
      refine wm_nmS (fun σ9 e10 => ?_)
      replace h := h σ9 e10
      clear e10
      refine wm_iload_n X 0 rfl dX7_sum_40 ?_
      exact wm_iret X hr h dX7_sum_41
    · replace h := h.2 c6
      refine wm_bipush (v := (-102)) X (by decide) dX7_sum_23 ?_
      exact wm_iret X hr h dX7_sum_25
  · replace h := h.2 c3
    refine wm_bipush (v := (-101)) X (by decide) dX7_sum_8 ?_
    exact wm_iret X hr h dX7_sum_10
/-! X7_over -/
abbrev rm_X7_over : Room := { frames := 2, cells := 0, slots := 0, locals := 47 }
def wp_X7_over (x1 : Int32) (x2 : Int32) (σ : St) (post : Int32 → St → Prop) : Prop :=
  wp_X7_noWay x1 σ (fun r1 σ2 => (r1 = 0 → wp_X7_noSet x2 1 σ2 (fun r4 σ5 => (r4 = 0 → vp_in x1 10 ∧ (∀ v7 : Int32, v7 = gA σ5 0 (Int32.toNatClampNeg x1) → vp_in x1 10 ∧ (∀ σ9 : St, σ9 = sA σ5 0 (Int32.toNatClampNeg x1) x2 → post v7 σ9))) ∧ (¬ r4 = 0 → post (-102) σ5))) ∧ (¬ r1 = 0 → post (-101) σ2))
set_option maxRecDepth 100000 in
set_option maxHeartbeats 4000000 in
theorem c_X7_over (l : Launch) (G : va_G) (tI tJ tZ : ClassId) (ad : Nat → Nat) (hD : ∀ σ, va_D (Ad 11 ad) (wdM tI tJ tZ ad σ)) (x1 : Int32) (x2 : Int32) (σ : St) (post : Int32 → St → Prop) (h : wp_X7_over x1 x2 σ post) : Ct l yX7_over wsX7_over rm_X7_over G (tyL tI tJ tZ) (wdM tI tJ tZ ad) (Ad 11 ad) [.ref (ad 0), .int x1, .int x2] σ (Qi G (wdM tI tJ tZ ad) (Ad 11 ad) post) := by
  refine wm_entry (cc := cX7_over) (maxL := 4) (ret := (some .int)) (own := RX7) (lv := [(0, .ref (ad 0)), (1, .int x1), (2, .int x2)]) (by decide +kernel) rfl rfl (Nat.le_of_ble_eq_true rfl) rfl hD ?_
  intro p e s m below meth c X hr
  unfold wp_X7_over at h
  refine wm_aload_n X 0 rfl dX7_over_0 ?_
  refine wm_iload_n X 1 rfl dX7_over_1 ?_
  refine wm_callVi (n := 1) (As := [.int x1]) (rest := []) X (c_X7_noWay l G tI tJ tZ ad hD x1 σ _ h) gX7_over_X7_noWay rfl ⟨rfl, rfl⟩ (by decide +kernel) ⟨Nat.le_of_ble_eq_true rfl, Nat.le_of_ble_eq_true rfl⟩ 0 rfl rfl rfl rfl rfl (Nat.le_of_ble_eq_true rfl) dX7_over_2 (fun r1 σ2 h => ?_)
  refine wm_if_eq (tgt := 11) X (by decide) dX7_over_5 (fun c3 => ?_) (fun c3 => ?_)
  · replace h := h.1 c3
    refine wm_aload_n X 0 rfl dX7_over_11 ?_
    refine wm_iload_n X 2 rfl dX7_over_12 ?_
    refine wm_iconst (v := 1) X (by decide) dX7_over_13 ?_
    refine wm_callVi (n := 2) (As := [.int x2, .int 1]) (rest := []) X (c_X7_noSet l G tI tJ tZ ad hD x2 1 σ2 _ h) gX7_over_X7_noSet rfl ⟨rfl, rfl⟩ (by decide +kernel) ⟨Nat.le_of_ble_eq_true rfl, Nat.le_of_ble_eq_true rfl⟩ 0 rfl rfl rfl rfl rfl (Nat.le_of_ble_eq_true rfl) dX7_over_14 (fun r4 σ5 h => ?_)
    refine wm_if_eq (tgt := 23) X (by decide) dX7_over_17 (fun c6 => ?_) (fun c6 => ?_)
    · replace h := h.1 c6
      refine wm_aload_n X 0 rfl dX7_over_23 ?_
      refine wm_get X (by decide +kernel) 0 rfl rfl 1 (by decide) (by decide +kernel) rfl dX7_over_24 ?_
      refine wm_iload_n X 1 rfl dX7_over_27 ?_
      refine wm_iald X 1 0 rfl rfl h.1 dX7_over_28 ?_
      replace h := h.2
      refine wm_nmI (fun v7 e8 => ?_)
      replace h := h v7 e8
      clear e8
      refine wm_istore_n (lv' := [(3, .int v7), (0, .ref (ad 0)), (1, .int x1), (2, .int x2)]) X rfl (by decide) rfl dX7_over_29 ?_
      refine wm_aload_n X 1 rfl dX7_over_30 ?_
      refine wm_get X (by decide +kernel) 0 rfl rfl 1 (by decide) (by decide +kernel) rfl dX7_over_31 ?_
      refine wm_iload_n X 2 rfl dX7_over_34 ?_
      refine wm_iload_n X 3 rfl dX7_over_35 ?_
      refine wm_iast (σ' := sA σ5 0 (Int32.toNatClampNeg x1) x2) X 1 0 rfl rfl h.1 rfl dX7_over_36 ?_
      replace h := h.2
      refine wm_nmS (fun σ9 e10 => ?_)
      replace h := h σ9 e10
      clear e10
      refine wm_iload_n X 0 rfl dX7_over_37 ?_
      exact wm_iret X hr h dX7_over_38
    · replace h := h.2 c6
      refine wm_bipush (v := (-102)) X (by decide) dX7_over_20 ?_
      exact wm_iret X hr h dX7_over_22
  · replace h := h.2 c3
    refine wm_bipush (v := (-101)) X (by decide) dX7_over_8 ?_
    exact wm_iret X hr h dX7_over_10
/-! X7_on -/
abbrev rm_X7_on : Room := { frames := 2, cells := 0, slots := 0, locals := 46 }
def wp_X7_on (x1 : Int32) (x2 : Int32) (σ : St) (post : Int32 → St → Prop) : Prop :=
  wp_X7_noWay x1 σ (fun r1 σ2 => (r1 = 0 → vp_in x1 10 ∧ (((gA σ2 2 (Int32.toNatClampNeg x1)) = 0 → vp_in x1 10 ∧ (bz x2 ∧ (∀ σ5 : St, σ5 = sA σ2 2 (Int32.toNatClampNeg x1) x2 → post 0 σ5))) ∧ (¬ (gA σ2 2 (Int32.toNatClampNeg x1)) = 0 → vp_in x1 10 ∧ (bz x2 ∧ (∀ σ7 : St, σ7 = sA σ2 2 (Int32.toNatClampNeg x1) x2 → post 1 σ7))))) ∧ (¬ r1 = 0 → post (-101) σ2))
set_option maxRecDepth 100000 in
set_option maxHeartbeats 4000000 in
theorem c_X7_on (l : Launch) (G : va_G) (tI tJ tZ : ClassId) (ad : Nat → Nat) (hD : ∀ σ, va_D (Ad 11 ad) (wdM tI tJ tZ ad σ)) (x1 : Int32) (x2 : Int32) (σ : St) (post : Int32 → St → Prop) (h : wp_X7_on x1 x2 σ post) : Ct l yX7_on wsX7_on rm_X7_on G (tyL tI tJ tZ) (wdM tI tJ tZ ad) (Ad 11 ad) [.ref (ad 0), .int x1, .int x2] σ (Qi G (wdM tI tJ tZ ad) (Ad 11 ad) post) := by
  refine wm_entry (cc := cX7_on) (maxL := 4) (ret := (some .int)) (own := RX7) (lv := [(0, .ref (ad 0)), (1, .int x1), (2, .int x2)]) (by decide +kernel) rfl rfl (Nat.le_of_ble_eq_true rfl) rfl hD ?_
  intro p e s m below meth c X hr
  unfold wp_X7_on at h
  refine wm_aload_n X 0 rfl dX7_on_0 ?_
  refine wm_iload_n X 1 rfl dX7_on_1 ?_
  refine wm_callVi (n := 1) (As := [.int x1]) (rest := []) X (c_X7_noWay l G tI tJ tZ ad hD x1 σ _ h) gX7_on_X7_noWay rfl ⟨rfl, rfl⟩ (by decide +kernel) ⟨Nat.le_of_ble_eq_true rfl, Nat.le_of_ble_eq_true rfl⟩ 0 rfl rfl rfl rfl rfl (Nat.le_of_ble_eq_true rfl) dX7_on_2 (fun r1 σ2 h => ?_)
  refine wm_if_eq (tgt := 11) X (by decide) dX7_on_5 (fun c3 => ?_) (fun c3 => ?_)
  · replace h := h.1 c3
    refine wm_aload_n X 0 rfl dX7_on_11 ?_
    refine wm_get X (by decide +kernel) 0 rfl rfl 3 (by decide) (by decide +kernel) rfl dX7_on_12 ?_
    refine wm_iload_n X 1 rfl dX7_on_15 ?_
    refine wm_zald X 3 2 rfl rfl h.1 dX7_on_16 ?_
    replace h := h.2
    refine wm_if_eq (tgt := 24) X (by decide) dX7_on_17 (fun c4 => ?_) (fun c4 => ?_)
    · replace h := h.1 c4
      refine wm_iconst (v := 0) X (by decide) dX7_on_24 ?_
      refine wm_istore_n (lv' := [(3, .int 0), (0, .ref (ad 0)), (1, .int x1), (2, .int x2)]) X rfl (by decide) rfl dX7_on_25 ?_
      refine wm_aload_n X 1 rfl dX7_on_26 ?_
      refine wm_get X (by decide +kernel) 0 rfl rfl 3 (by decide) (by decide +kernel) rfl dX7_on_27 ?_
      refine wm_iload_n X 2 rfl dX7_on_30 ?_
      refine wm_iload_n X 3 rfl dX7_on_31 ?_
      refine wm_zast (σ' := sA σ2 2 (Int32.toNatClampNeg x1) x2) X 3 2 rfl rfl h.1 h.2.1 rfl dX7_on_32 ?_
      replace h := h.2.2
      refine wm_nmS (fun σ5 e6 => ?_)
      replace h := h σ5 e6
      clear e6
      refine wm_iload_n X 0 rfl dX7_on_33 ?_
      exact wm_iret X hr h dX7_on_34
    · replace h := h.2 c4
      refine wm_iconst (v := 1) X (by decide) dX7_on_20 ?_
      refine wm_goto (tgt := 25) X (by decide) dX7_on_21 ?_
      refine wm_istore_n (lv' := [(3, .int 1), (0, .ref (ad 0)), (1, .int x1), (2, .int x2)]) X rfl (by decide) rfl dX7_on_25 ?_
      refine wm_aload_n X 1 rfl dX7_on_26 ?_
      refine wm_get X (by decide +kernel) 0 rfl rfl 3 (by decide) (by decide +kernel) rfl dX7_on_27 ?_
      refine wm_iload_n X 2 rfl dX7_on_30 ?_
      refine wm_iload_n X 3 rfl dX7_on_31 ?_
      refine wm_zast (σ' := sA σ2 2 (Int32.toNatClampNeg x1) x2) X 3 2 rfl rfl h.1 h.2.1 rfl dX7_on_32 ?_
      replace h := h.2.2
      refine wm_nmS (fun σ7 e8 => ?_)
      replace h := h σ7 e8
      clear e8
      refine wm_iload_n X 0 rfl dX7_on_33 ?_
      exact wm_iret X hr h dX7_on_34
  · replace h := h.2 c3
    refine wm_bipush (v := (-101)) X (by decide) dX7_on_8 ?_
    exact wm_iret X hr h dX7_on_10
/-! X7_bad -/
abbrev rm_X7_bad : Room := { frames := 2, cells := 0, slots := 0, locals := 46 }
def wp_X7_bad (x1 : Int32) (x2 : Int32) (σ : St) (post : Int32 → St → Prop) : Prop :=
  wp_X7_noWay x1 σ (fun r1 σ2 => (r1 = 0 → vp_in x1 10 ∧ (((gA σ2 3 (Int32.toNatClampNeg x1)) = 0 → vp_in x1 10 ∧ (bz x2 ∧ (∀ σ5 : St, σ5 = sA σ2 3 (Int32.toNatClampNeg x1) x2 → post 0 σ5))) ∧ (¬ (gA σ2 3 (Int32.toNatClampNeg x1)) = 0 → vp_in x1 10 ∧ (bz x2 ∧ (∀ σ7 : St, σ7 = sA σ2 3 (Int32.toNatClampNeg x1) x2 → post 1 σ7))))) ∧ (¬ r1 = 0 → post (-101) σ2))
set_option maxRecDepth 100000 in
set_option maxHeartbeats 4000000 in
theorem c_X7_bad (l : Launch) (G : va_G) (tI tJ tZ : ClassId) (ad : Nat → Nat) (hD : ∀ σ, va_D (Ad 11 ad) (wdM tI tJ tZ ad σ)) (x1 : Int32) (x2 : Int32) (σ : St) (post : Int32 → St → Prop) (h : wp_X7_bad x1 x2 σ post) : Ct l yX7_bad wsX7_bad rm_X7_bad G (tyL tI tJ tZ) (wdM tI tJ tZ ad) (Ad 11 ad) [.ref (ad 0), .int x1, .int x2] σ (Qi G (wdM tI tJ tZ ad) (Ad 11 ad) post) := by
  refine wm_entry (cc := cX7_bad) (maxL := 4) (ret := (some .int)) (own := RX7) (lv := [(0, .ref (ad 0)), (1, .int x1), (2, .int x2)]) (by decide +kernel) rfl rfl (Nat.le_of_ble_eq_true rfl) rfl hD ?_
  intro p e s m below meth c X hr
  unfold wp_X7_bad at h
  refine wm_aload_n X 0 rfl dX7_bad_0 ?_
  refine wm_iload_n X 1 rfl dX7_bad_1 ?_
  refine wm_callVi (n := 1) (As := [.int x1]) (rest := []) X (c_X7_noWay l G tI tJ tZ ad hD x1 σ _ h) gX7_bad_X7_noWay rfl ⟨rfl, rfl⟩ (by decide +kernel) ⟨Nat.le_of_ble_eq_true rfl, Nat.le_of_ble_eq_true rfl⟩ 0 rfl rfl rfl rfl rfl (Nat.le_of_ble_eq_true rfl) dX7_bad_2 (fun r1 σ2 h => ?_)
  refine wm_if_eq (tgt := 11) X (by decide) dX7_bad_5 (fun c3 => ?_) (fun c3 => ?_)
  · replace h := h.1 c3
    refine wm_aload_n X 0 rfl dX7_bad_11 ?_
    refine wm_get X (by decide +kernel) 0 rfl rfl 4 (by decide) (by decide +kernel) rfl dX7_bad_12 ?_
    refine wm_iload_n X 1 rfl dX7_bad_15 ?_
    refine wm_zald X 4 2 rfl rfl h.1 dX7_bad_16 ?_
    replace h := h.2
    refine wm_if_eq (tgt := 24) X (by decide) dX7_bad_17 (fun c4 => ?_) (fun c4 => ?_)
    · replace h := h.1 c4
      refine wm_iconst (v := 0) X (by decide) dX7_bad_24 ?_
      refine wm_istore_n (lv' := [(3, .int 0), (0, .ref (ad 0)), (1, .int x1), (2, .int x2)]) X rfl (by decide) rfl dX7_bad_25 ?_
      refine wm_aload_n X 1 rfl dX7_bad_26 ?_
      refine wm_get X (by decide +kernel) 0 rfl rfl 4 (by decide) (by decide +kernel) rfl dX7_bad_27 ?_
      refine wm_iload_n X 2 rfl dX7_bad_30 ?_
      refine wm_iload_n X 3 rfl dX7_bad_31 ?_
      refine wm_zast (σ' := sA σ2 3 (Int32.toNatClampNeg x1) x2) X 4 2 rfl rfl h.1 h.2.1 rfl dX7_bad_32 ?_
      replace h := h.2.2
      refine wm_nmS (fun σ5 e6 => ?_)
      replace h := h σ5 e6
      clear e6
      refine wm_iload_n X 0 rfl dX7_bad_33 ?_
      exact wm_iret X hr h dX7_bad_34
    · replace h := h.2 c4
      refine wm_iconst (v := 1) X (by decide) dX7_bad_20 ?_
      refine wm_goto (tgt := 25) X (by decide) dX7_bad_21 ?_
      refine wm_istore_n (lv' := [(3, .int 1), (0, .ref (ad 0)), (1, .int x1), (2, .int x2)]) X rfl (by decide) rfl dX7_bad_25 ?_
      refine wm_aload_n X 1 rfl dX7_bad_26 ?_
      refine wm_get X (by decide +kernel) 0 rfl rfl 4 (by decide) (by decide +kernel) rfl dX7_bad_27 ?_
      refine wm_iload_n X 2 rfl dX7_bad_30 ?_
      refine wm_iload_n X 3 rfl dX7_bad_31 ?_
      refine wm_zast (σ' := sA σ2 3 (Int32.toNatClampNeg x1) x2) X 4 2 rfl rfl h.1 h.2.1 rfl dX7_bad_32 ?_
      replace h := h.2.2
      refine wm_nmS (fun σ7 e8 => ?_)
      replace h := h σ7 e8
      clear e8
      refine wm_iload_n X 0 rfl dX7_bad_33 ?_
      exact wm_iret X hr h dX7_bad_34
  · replace h := h.2 c3
    refine wm_bipush (v := (-101)) X (by decide) dX7_bad_8 ?_
    exact wm_iret X hr h dX7_bad_10
/-! X7_back -/
abbrev rm_X7_back : Room := { frames := 0, cells := 0, slots := 0, locals := 0 }
def wp_X7_back (σ : St) (post : Int32 → St → Prop) : Prop :=
  (¬ (gI σ 1) = 0 → ∀ σ2 : St, σ2 = sI σ 1 ((gI σ 1) - 1) → post (gI σ2 1) σ2) ∧ ((gI σ 1) = 0 → post (-103) σ)
set_option maxRecDepth 100000 in
set_option maxHeartbeats 4000000 in
theorem c_X7_back (l : Launch) (G : va_G) (tI tJ tZ : ClassId) (ad : Nat → Nat) (hD : ∀ σ, va_D (Ad 11 ad) (wdM tI tJ tZ ad σ))  (σ : St) (post : Int32 → St → Prop) (h : wp_X7_back  σ post) : Ct l yX7_back wsX7_back rm_X7_back G (tyL tI tJ tZ) (wdM tI tJ tZ ad) (Ad 11 ad) [.ref (ad 0)] σ (Qi G (wdM tI tJ tZ ad) (Ad 11 ad) post) := by
  refine wm_entry (cc := cX7_back) (maxL := 1) (ret := (some .int)) (own := RX7) (lv := [(0, .ref (ad 0))]) (by decide +kernel) rfl rfl (Nat.le_of_ble_eq_true rfl) rfl hD ?_
  intro p e s m below meth c X hr
  unfold wp_X7_back at h
  refine wm_aload_n X 0 rfl dX7_back_0 ?_
  refine wm_get X (by decide +kernel) 0 rfl rfl 5 (by decide) (by decide +kernel) rfl dX7_back_1 ?_
  refine wm_if_ne (tgt := 10) X (by decide) dX7_back_4 (fun c1 => ?_) (fun c1 => ?_)
  · replace h := h.1 c1
    refine wm_aload_n X 0 rfl dX7_back_10 ?_
    refine wm_dup X rfl dX7_back_11 ?_
    refine wm_get X (by decide +kernel) 0 rfl rfl 5 (by decide) (by decide +kernel) rfl dX7_back_12 ?_
    refine wm_iconst (v := 1) X (by decide) dX7_back_15 ?_
    refine wm_isub X dX7_back_16 ?_
    refine wm_put (σ' := sI σ 1 ((gI σ 1) - 1)) X (by decide +kernel) tyX7 tyX7_ok nmX7 0 rfl rfl 5 (by decide) (by decide +kernel) rfl (tyX7_ok 5 (by decide)) rfl rfl (Nat.le_of_ble_eq_true rfl) rfl dX7_back_17 ?_
    refine wm_nmS (fun σ2 e3 => ?_)
    replace h := h σ2 e3
    clear e3
    refine wm_aload_n X 0 rfl dX7_back_20 ?_
    refine wm_get X (by decide +kernel) 0 rfl rfl 5 (by decide) (by decide +kernel) rfl dX7_back_21 ?_
    exact wm_iret X hr h dX7_back_24
  · replace h := h.2 c1
    refine wm_bipush (v := (-103)) X (by decide) dX7_back_7 ?_
    exact wm_iret X hr h dX7_back_9
/-! X7_told -/
abbrev rm_X7_told : Room := { frames := 2, cells := 0, slots := 0, locals := 46 }
def wp_X7_told (x1 : Int32) (x2 : Int32) (σ : St) (post : Int32 → St → Prop) : Prop :=
  wp_X7_noWay x1 σ (fun r1 σ2 => (r1 = 0 → (x2 = 0 → vp_in x1 10 ∧ post (gA σ2 0 (Int32.toNatClampNeg x1)) σ2) ∧ (x2 = 1 → vp_in x1 10 ∧ post (gA σ2 1 (Int32.toNatClampNeg x1)) σ2) ∧ (x2 = 2 → vp_in x1 10 ∧ (((gA σ2 2 (Int32.toNatClampNeg x1)) = 0 → post 0 σ2) ∧ (¬ (gA σ2 2 (Int32.toNatClampNeg x1)) = 0 → post 1 σ2))) ∧ (x2 = 3 → vp_in x1 10 ∧ (((gA σ2 3 (Int32.toNatClampNeg x1)) = 0 → post 0 σ2) ∧ (¬ (gA σ2 3 (Int32.toNatClampNeg x1)) = 0 → post 1 σ2))) ∧ (¬ x2 = 0 → ¬ x2 = 1 → ¬ x2 = 2 → ¬ x2 = 3 → post (-102) σ2)) ∧ (¬ r1 = 0 → post (-101) σ2))
set_option maxRecDepth 100000 in
set_option maxHeartbeats 4000000 in
theorem c_X7_told (l : Launch) (G : va_G) (tI tJ tZ : ClassId) (ad : Nat → Nat) (hD : ∀ σ, va_D (Ad 11 ad) (wdM tI tJ tZ ad σ)) (x1 : Int32) (x2 : Int32) (σ : St) (post : Int32 → St → Prop) (h : wp_X7_told x1 x2 σ post) : Ct l yX7_told wsX7_told rm_X7_told G (tyL tI tJ tZ) (wdM tI tJ tZ ad) (Ad 11 ad) [.ref (ad 0), .int x1, .int x2] σ (Qi G (wdM tI tJ tZ ad) (Ad 11 ad) post) := by
  refine wm_entry (cc := cX7_told) (maxL := 3) (ret := (some .int)) (own := RX7) (lv := [(0, .ref (ad 0)), (1, .int x1), (2, .int x2)]) (by decide +kernel) rfl rfl (Nat.le_of_ble_eq_true rfl) rfl hD ?_
  intro p e s m below meth c X hr
  unfold wp_X7_told at h
  refine wm_aload_n X 0 rfl dX7_told_0 ?_
  refine wm_iload_n X 1 rfl dX7_told_1 ?_
  refine wm_callVi (n := 1) (As := [.int x1]) (rest := []) X (c_X7_noWay l G tI tJ tZ ad hD x1 σ _ h) gX7_told_X7_noWay rfl ⟨rfl, rfl⟩ (by decide +kernel) ⟨Nat.le_of_ble_eq_true rfl, Nat.le_of_ble_eq_true rfl⟩ 0 rfl rfl rfl rfl rfl (Nat.le_of_ble_eq_true rfl) dX7_told_2 (fun r1 σ2 h => ?_)
  refine wm_if_eq (tgt := 11) X (by decide) dX7_told_5 (fun c3 => ?_) (fun c3 => ?_)
  · replace h := h.1 c3
    refine wm_iload_n X 2 rfl dX7_told_11 ?_
    by_cases c4 : x2 = 0
    · replace h := h.1 c4
      refine wm_tabIn (off := 32) (tgt := 44) X (by rw [c4]; decide) (by rw [c4]; decide) (by rw [c4]; rfl) (by decide) dX7_told_12 ?_
      refine wm_aload_n X 0 rfl dX7_told_44 ?_
      refine wm_get X (by decide +kernel) 0 rfl rfl 1 (by decide) (by decide +kernel) rfl dX7_told_45 ?_
      refine wm_iload_n X 1 rfl dX7_told_48 ?_
      refine wm_iald X 1 0 rfl rfl h.1 dX7_told_49 ?_
      replace h := h.2
      exact wm_iret X hr h dX7_told_50
    replace h := h.2
    by_cases c5 : x2 = 1
    · replace h := h.1 c5
      refine wm_tabIn (off := 39) (tgt := 51) X (by rw [c5]; decide) (by rw [c5]; decide) (by rw [c5]; rfl) (by decide) dX7_told_12 ?_
      refine wm_aload_n X 0 rfl dX7_told_51 ?_
      refine wm_get X (by decide +kernel) 0 rfl rfl 2 (by decide) (by decide +kernel) rfl dX7_told_52 ?_
      refine wm_iload_n X 1 rfl dX7_told_55 ?_
      refine wm_iald X 2 0 rfl rfl h.1 dX7_told_56 ?_
      replace h := h.2
      exact wm_iret X hr h dX7_told_57
    replace h := h.2
    by_cases c6 : x2 = 2
    · replace h := h.1 c6
      refine wm_tabIn (off := 46) (tgt := 58) X (by rw [c6]; decide) (by rw [c6]; decide) (by rw [c6]; rfl) (by decide) dX7_told_12 ?_
      refine wm_aload_n X 0 rfl dX7_told_58 ?_
      refine wm_get X (by decide +kernel) 0 rfl rfl 3 (by decide) (by decide +kernel) rfl dX7_told_59 ?_
      refine wm_iload_n X 1 rfl dX7_told_62 ?_
      refine wm_zald X 3 2 rfl rfl h.1 dX7_told_63 ?_
      replace h := h.2
      refine wm_if_eq (tgt := 71) X (by decide) dX7_told_64 (fun c7 => ?_) (fun c7 => ?_)
      · replace h := h.1 c7
        refine wm_iconst (v := 0) X (by decide) dX7_told_71 ?_
        exact wm_iret X hr h dX7_told_72
      · replace h := h.2 c7
        refine wm_iconst (v := 1) X (by decide) dX7_told_67 ?_
        refine wm_goto (tgt := 72) X (by decide) dX7_told_68 ?_
        exact wm_iret X hr h dX7_told_72
    replace h := h.2
    by_cases c8 : x2 = 3
    · replace h := h.1 c8
      refine wm_tabIn (off := 61) (tgt := 73) X (by rw [c8]; decide) (by rw [c8]; decide) (by rw [c8]; rfl) (by decide) dX7_told_12 ?_
      refine wm_aload_n X 0 rfl dX7_told_73 ?_
      refine wm_get X (by decide +kernel) 0 rfl rfl 4 (by decide) (by decide +kernel) rfl dX7_told_74 ?_
      refine wm_iload_n X 1 rfl dX7_told_77 ?_
      refine wm_zald X 4 2 rfl rfl h.1 dX7_told_78 ?_
      replace h := h.2
      refine wm_if_eq (tgt := 86) X (by decide) dX7_told_79 (fun c9 => ?_) (fun c9 => ?_)
      · replace h := h.1 c9
        refine wm_iconst (v := 0) X (by decide) dX7_told_86 ?_
        exact wm_iret X hr h dX7_told_87
      · replace h := h.2 c9
        refine wm_iconst (v := 1) X (by decide) dX7_told_82 ?_
        refine wm_goto (tgt := 87) X (by decide) dX7_told_83 ?_
        exact wm_iret X hr h dX7_told_87
    replace h := h.2
    replace h := h c4 c5 c6 c8
    refine wm_tabOut (tgt := 88) X (sw_out3 c4 c5 c6 c8) (by decide) dX7_told_12 ?_
    refine wm_bipush (v := (-102)) X (by decide) dX7_told_88 ?_
    exact wm_iret X hr h dX7_told_90
  · replace h := h.2 c3
    refine wm_bipush (v := (-101)) X (by decide) dX7_told_8 ?_
    exact wm_iret X hr h dX7_told_10
/-! X7_seenSet -/
abbrev rm_X7_seenSet : Room := { frames := 0, cells := 0, slots := 0, locals := 0 }
def lp_X7_seenSet_4 (post : Int32 → St → Prop)  : Nat → Int32 → Int32 → St → Prop
  | 0, _, _, _ => False
  | n + 1, x1, x2, σ =>
  ((gI σ 1) ≤ x2 → post x1 σ) ∧ (¬ (gI σ 1) ≤ x2 → vp_in x2 10 ∧ (((gA σ 2 (Int32.toNatClampNeg x2)) = 0 → ∀ v3 : Int32, v3 = x1 ||| 0 → ∀ v5 : Int32, v5 = x2 + 1 → lp_X7_seenSet_4 post n v3 v5 σ) ∧ (¬ (gA σ 2 (Int32.toNatClampNeg x2)) = 0 → vp_in x2 10 ∧ (∀ v7 : Int32, v7 = x1 ||| (gA σ 0 (Int32.toNatClampNeg x2)) → ∀ v9 : Int32, v9 = x2 + 1 → lp_X7_seenSet_4 post n v7 v9 σ))))
def wp_X7_seenSet (σ : St) (post : Int32 → St → Prop) : Prop :=
  ∃ fu : Nat, lp_X7_seenSet_4 post fu 0 0 σ
set_option maxRecDepth 100000 in
set_option maxHeartbeats 4000000 in
theorem w_X7_seenSet_4 {p : Program} {l : Launch} {e : Env} {s : State} {m : MethodId} {args : Array Value} {below : List Frame} {meth : Method} {c : Code} {G : va_G} {tI tJ tZ : ClassId} {ad : Nat → Nat} (hD : ∀ σ, va_D (Ad 11 ad) (wdM tI tJ tZ ad σ)) (X : Cx p s m args meth c cX7_seenSet 3 RX7 wsX7_seenSet G (tyL tI tJ tZ) (wdM tI tJ tZ ad) (Ad 11 ad)) (hr : meth.sig.returnType = (some .int)) {post : Int32 → St → Prop}  : ∀ (n : Nat) (x1 : Int32) (x2 : Int32) (σ : St), lp_X7_seenSet_4 post n x1 x2 σ → wm p l e rm_X7_seenSet s m args below meth c G (wdM tI tJ tZ ad) (Ad 11 ad) 3 (MQ below (Qi G (wdM tI tJ tZ ad) (Ad 11 ad) post) args s 0 0 (Ad 11 ad)) σ [(0, .ref (ad 0)), (1, .int x1), (2, .int x2)] 4 [] := by
  intro n
  induction n with
  | zero => intro x1 x2 σ h; exact h.elim
  | succ n ih =>
    intro x1 x2 σ h
    unfold lp_X7_seenSet_4 at h
    refine wm_iload_n X 2 rfl dX7_seenSet_4 ?_
    refine wm_aload_n X 0 rfl dX7_seenSet_5 ?_
    refine wm_get X (by decide +kernel) 0 rfl rfl 5 (by decide) (by decide +kernel) rfl dX7_seenSet_6 ?_
    refine wm_icmp_ge (tgt := 40) X (by decide) dX7_seenSet_9 (fun c1 => ?_) (fun c1 => ?_)
    · replace h := h.1 c1
      refine wm_iload_n X 1 rfl dX7_seenSet_40 ?_
      exact wm_iret X hr h dX7_seenSet_41
    · replace h := h.2 c1
      refine wm_iload_n X 1 rfl dX7_seenSet_12 ?_
      refine wm_aload_n X 0 rfl dX7_seenSet_13 ?_
      refine wm_get X (by decide +kernel) 0 rfl rfl 3 (by decide) (by decide +kernel) rfl dX7_seenSet_14 ?_
      refine wm_iload_n X 2 rfl dX7_seenSet_17 ?_
      refine wm_zald X 3 2 rfl rfl h.1 dX7_seenSet_18 ?_
      replace h := h.2
      refine wm_if_eq (tgt := 31) X (by decide) dX7_seenSet_19 (fun c2 => ?_) (fun c2 => ?_)
      · replace h := h.1 c2
        refine wm_iconst (v := 0) X (by decide) dX7_seenSet_31 ?_
        refine wm_ior X dX7_seenSet_32 ?_
        refine wm_nmI (fun v3 e4 => ?_)
        replace h := h v3 e4
        clear e4
        refine wm_istore_n (lv' := [(1, .int v3), (0, .ref (ad 0)), (2, .int x2)]) X rfl (by decide) rfl dX7_seenSet_33 ?_
        obtain ⟨v5, e6⟩ : ∃ y : Int32, y = x2 + 1 := ⟨_, rfl⟩
        replace h := h v5 e6
        refine wm_iinc (v := v5) (lv' := [(2, .int v5), (1, .int v3), (0, .ref (ad 0))]) X 2 rfl (by rw [e6]; rfl) (by decide) rfl dX7_seenSet_34 ?_
        clear e6
        refine wm_goto (tgt := 4) X (by decide) dX7_seenSet_37 ?_
        refine wm_sub [2, 1, 0] (lv' := [(0, .ref (ad 0)), (1, .int v3), (2, .int v5)]) rfl ?_
        exact ih v3 v5 σ h
      · replace h := h.2 c2
        refine wm_aload_n X 0 rfl dX7_seenSet_22 ?_
        refine wm_get X (by decide +kernel) 0 rfl rfl 1 (by decide) (by decide +kernel) rfl dX7_seenSet_23 ?_
        refine wm_iload_n X 2 rfl dX7_seenSet_26 ?_
        refine wm_iald X 1 0 rfl rfl h.1 dX7_seenSet_27 ?_
        replace h := h.2
        refine wm_goto (tgt := 32) X (by decide) dX7_seenSet_28 ?_
        refine wm_ior X dX7_seenSet_32 ?_
        refine wm_nmI (fun v7 e8 => ?_)
        replace h := h v7 e8
        clear e8
        refine wm_istore_n (lv' := [(1, .int v7), (0, .ref (ad 0)), (2, .int x2)]) X rfl (by decide) rfl dX7_seenSet_33 ?_
        obtain ⟨v9, e10⟩ : ∃ y : Int32, y = x2 + 1 := ⟨_, rfl⟩
        replace h := h v9 e10
        refine wm_iinc (v := v9) (lv' := [(2, .int v9), (1, .int v7), (0, .ref (ad 0))]) X 2 rfl (by rw [e10]; rfl) (by decide) rfl dX7_seenSet_34 ?_
        clear e10
        refine wm_goto (tgt := 4) X (by decide) dX7_seenSet_37 ?_
        refine wm_sub [2, 1, 0] (lv' := [(0, .ref (ad 0)), (1, .int v7), (2, .int v9)]) rfl ?_
        exact ih v7 v9 σ h
set_option maxRecDepth 100000 in
set_option maxHeartbeats 4000000 in
theorem c_X7_seenSet (l : Launch) (G : va_G) (tI tJ tZ : ClassId) (ad : Nat → Nat) (hD : ∀ σ, va_D (Ad 11 ad) (wdM tI tJ tZ ad σ))  (σ : St) (post : Int32 → St → Prop) (h : wp_X7_seenSet  σ post) : Ct l yX7_seenSet wsX7_seenSet rm_X7_seenSet G (tyL tI tJ tZ) (wdM tI tJ tZ ad) (Ad 11 ad) [.ref (ad 0)] σ (Qi G (wdM tI tJ tZ ad) (Ad 11 ad) post) := by
  refine wm_entry (cc := cX7_seenSet) (maxL := 3) (ret := (some .int)) (own := RX7) (lv := [(0, .ref (ad 0))]) (by decide +kernel) rfl rfl (Nat.le_of_ble_eq_true rfl) rfl hD ?_
  intro p e s m below meth c X hr
  unfold wp_X7_seenSet at h
  refine wm_iconst (v := 0) X (by decide) dX7_seenSet_0 ?_
  refine wm_istore_n (lv' := [(1, .int 0), (0, .ref (ad 0))]) X rfl (by decide) rfl dX7_seenSet_1 ?_
  refine wm_iconst (v := 0) X (by decide) dX7_seenSet_2 ?_
  refine wm_istore_n (lv' := [(2, .int 0), (1, .int 0), (0, .ref (ad 0))]) X rfl (by decide) rfl dX7_seenSet_3 ?_
  refine wm_sub [2, 1, 0] (lv' := [(0, .ref (ad 0)), (1, .int 0), (2, .int 0)]) rfl ?_
  obtain ⟨n0, h⟩ := h
  exact w_X7_seenSet_4 hD X hr n0 0 0 σ h
/-! X7_bits -/
abbrev rm_X7_bits : Room := { frames := 0, cells := 0, slots := 0, locals := 0 }
def lp_X7_bits_4 (post : Int32 → St → Prop)  : Nat → Int32 → Int32 → Int32 → St → Prop
  | 0, _, _, _, _ => False
  | n + 1, x0, x1, x2, σ =>
  (10 ≤ x2 → post x1 σ) ∧ (¬ 10 ≤ x2 → ∀ v2 : Int32, v2 = x1 + ((x0 >>> (x2 &&& 31)) &&& 1) → ∀ v4 : Int32, v4 = x2 + 1 → lp_X7_bits_4 post n x0 v2 v4 σ)
def wp_X7_bits (x0 : Int32) (σ : St) (post : Int32 → St → Prop) : Prop :=
  ∃ fu : Nat, lp_X7_bits_4 post fu x0 0 0 σ
set_option maxRecDepth 100000 in
set_option maxHeartbeats 4000000 in
theorem w_X7_bits_4 {p : Program} {l : Launch} {e : Env} {s : State} {m : MethodId} {args : Array Value} {below : List Frame} {meth : Method} {c : Code} {G : va_G} {tI tJ tZ : ClassId} {ad : Nat → Nat} (hD : ∀ σ, va_D (Ad 11 ad) (wdM tI tJ tZ ad σ)) (X : Cx p s m args meth c cX7_bits 3 RX7 wsX7_bits G (tyL tI tJ tZ) (wdM tI tJ tZ ad) (Ad 11 ad)) (hr : meth.sig.returnType = (some .int)) {post : Int32 → St → Prop}  : ∀ (n : Nat) (x0 : Int32) (x1 : Int32) (x2 : Int32) (σ : St), lp_X7_bits_4 post n x0 x1 x2 σ → wm p l e rm_X7_bits s m args below meth c G (wdM tI tJ tZ ad) (Ad 11 ad) 3 (MQ below (Qi G (wdM tI tJ tZ ad) (Ad 11 ad) post) args s 0 0 (Ad 11 ad)) σ [(0, .int x0), (1, .int x1), (2, .int x2)] 4 [] := by
  intro n
  induction n with
  | zero => intro x0 x1 x2 σ h; exact h.elim
  | succ n ih =>
    intro x0 x1 x2 σ h
    unfold lp_X7_bits_4 at h
    refine wm_iload_n X 2 rfl dX7_bits_4 ?_
    refine wm_bipush (v := 10) X (by decide) dX7_bits_5 ?_
    refine wm_icmp_ge (tgt := 24) X (by decide) dX7_bits_7 (fun c1 => ?_) (fun c1 => ?_)
    · replace h := h.1 c1
      refine wm_iload_n X 1 rfl dX7_bits_24 ?_
      exact wm_iret X hr h dX7_bits_25
    · replace h := h.2 c1
      refine wm_iload_n X 1 rfl dX7_bits_10 ?_
      refine wm_iload_n X 0 rfl dX7_bits_11 ?_
      refine wm_iload_n X 2 rfl dX7_bits_12 ?_
      refine wm_ishr X dX7_bits_13 ?_
      refine wm_iconst (v := 1) X (by decide) dX7_bits_14 ?_
      refine wm_iand X dX7_bits_15 ?_
      refine wm_iadd X dX7_bits_16 ?_
      refine wm_nmI (fun v2 e3 => ?_)
      replace h := h v2 e3
      clear e3
      refine wm_istore_n (lv' := [(1, .int v2), (0, .int x0), (2, .int x2)]) X rfl (by decide) rfl dX7_bits_17 ?_
      obtain ⟨v4, e5⟩ : ∃ y : Int32, y = x2 + 1 := ⟨_, rfl⟩
      replace h := h v4 e5
      refine wm_iinc (v := v4) (lv' := [(2, .int v4), (1, .int v2), (0, .int x0)]) X 2 rfl (by rw [e5]; rfl) (by decide) rfl dX7_bits_18 ?_
      clear e5
      refine wm_goto (tgt := 4) X (by decide) dX7_bits_21 ?_
      refine wm_sub [2, 1, 0] (lv' := [(0, .int x0), (1, .int v2), (2, .int v4)]) rfl ?_
      exact ih x0 v2 v4 σ h
set_option maxRecDepth 100000 in
set_option maxHeartbeats 4000000 in
theorem c_X7_bits (l : Launch) (G : va_G) (tI tJ tZ : ClassId) (ad : Nat → Nat) (hD : ∀ σ, va_D (Ad 11 ad) (wdM tI tJ tZ ad σ)) (x0 : Int32) (σ : St) (post : Int32 → St → Prop) (h : wp_X7_bits x0 σ post) : Ct l yX7_bits wsX7_bits rm_X7_bits G (tyL tI tJ tZ) (wdM tI tJ tZ ad) (Ad 11 ad) [.int x0] σ (Qi G (wdM tI tJ tZ ad) (Ad 11 ad) post) := by
  refine wm_entry (cc := cX7_bits) (maxL := 3) (ret := (some .int)) (own := RX7) (lv := [(0, .int x0)]) (by decide +kernel) rfl rfl (Nat.le_of_ble_eq_true rfl) rfl hD ?_
  intro p e s m below meth c X hr
  unfold wp_X7_bits at h
  refine wm_iconst (v := 0) X (by decide) dX7_bits_0 ?_
  refine wm_istore_n (lv' := [(1, .int 0), (0, .int x0)]) X rfl (by decide) rfl dX7_bits_1 ?_
  refine wm_iconst (v := 0) X (by decide) dX7_bits_2 ?_
  refine wm_istore_n (lv' := [(2, .int 0), (1, .int 0), (0, .int x0)]) X rfl (by decide) rfl dX7_bits_3 ?_
  refine wm_sub [2, 1, 0] (lv' := [(0, .int x0), (1, .int 0), (2, .int 0)]) rfl ?_
  obtain ⟨n0, h⟩ := h
  exact w_X7_bits_4 hD X hr n0 x0 0 0 σ h
/-! X7_onSet -/
abbrev rm_X7_onSet : Room := { frames := 0, cells := 0, slots := 0, locals := 0 }
def lp_X7_onSet_4 (post : Int32 → St → Prop)  : Nat → Int32 → Int32 → St → Prop
  | 0, _, _, _ => False
  | n + 1, x1, x2, σ =>
  ((gI σ 1) ≤ x2 → post x1 σ) ∧ (¬ (gI σ 1) ≤ x2 → vp_in x2 10 ∧ (((gA σ 2 (Int32.toNatClampNeg x2)) = 0 → ∀ v3 : Int32, v3 = x1 ||| 0 → ∀ v5 : Int32, v5 = x2 + 1 → lp_X7_onSet_4 post n v3 v5 σ) ∧ (¬ (gA σ 2 (Int32.toNatClampNeg x2)) = 0 → ∀ v7 : Int32, v7 = x1 ||| (1 <<< (x2 &&& 31)) → ∀ v9 : Int32, v9 = x2 + 1 → lp_X7_onSet_4 post n v7 v9 σ)))
def wp_X7_onSet (σ : St) (post : Int32 → St → Prop) : Prop :=
  ∃ fu : Nat, lp_X7_onSet_4 post fu 0 0 σ
set_option maxRecDepth 100000 in
set_option maxHeartbeats 4000000 in
theorem w_X7_onSet_4 {p : Program} {l : Launch} {e : Env} {s : State} {m : MethodId} {args : Array Value} {below : List Frame} {meth : Method} {c : Code} {G : va_G} {tI tJ tZ : ClassId} {ad : Nat → Nat} (hD : ∀ σ, va_D (Ad 11 ad) (wdM tI tJ tZ ad σ)) (X : Cx p s m args meth c cX7_onSet 3 RX7 wsX7_onSet G (tyL tI tJ tZ) (wdM tI tJ tZ ad) (Ad 11 ad)) (hr : meth.sig.returnType = (some .int)) {post : Int32 → St → Prop}  : ∀ (n : Nat) (x1 : Int32) (x2 : Int32) (σ : St), lp_X7_onSet_4 post n x1 x2 σ → wm p l e rm_X7_onSet s m args below meth c G (wdM tI tJ tZ ad) (Ad 11 ad) 3 (MQ below (Qi G (wdM tI tJ tZ ad) (Ad 11 ad) post) args s 0 0 (Ad 11 ad)) σ [(0, .ref (ad 0)), (1, .int x1), (2, .int x2)] 4 [] := by
  intro n
  induction n with
  | zero => intro x1 x2 σ h; exact h.elim
  | succ n ih =>
    intro x1 x2 σ h
    unfold lp_X7_onSet_4 at h
    refine wm_iload_n X 2 rfl dX7_onSet_4 ?_
    refine wm_aload_n X 0 rfl dX7_onSet_5 ?_
    refine wm_get X (by decide +kernel) 0 rfl rfl 5 (by decide) (by decide +kernel) rfl dX7_onSet_6 ?_
    refine wm_icmp_ge (tgt := 37) X (by decide) dX7_onSet_9 (fun c1 => ?_) (fun c1 => ?_)
    · replace h := h.1 c1
      refine wm_iload_n X 1 rfl dX7_onSet_37 ?_
      exact wm_iret X hr h dX7_onSet_38
    · replace h := h.2 c1
      refine wm_iload_n X 1 rfl dX7_onSet_12 ?_
      refine wm_aload_n X 0 rfl dX7_onSet_13 ?_
      refine wm_get X (by decide +kernel) 0 rfl rfl 3 (by decide) (by decide +kernel) rfl dX7_onSet_14 ?_
      refine wm_iload_n X 2 rfl dX7_onSet_17 ?_
      refine wm_zald X 3 2 rfl rfl h.1 dX7_onSet_18 ?_
      replace h := h.2
      refine wm_if_eq (tgt := 28) X (by decide) dX7_onSet_19 (fun c2 => ?_) (fun c2 => ?_)
      · replace h := h.1 c2
        refine wm_iconst (v := 0) X (by decide) dX7_onSet_28 ?_
        refine wm_ior X dX7_onSet_29 ?_
        refine wm_nmI (fun v3 e4 => ?_)
        replace h := h v3 e4
        clear e4
        refine wm_istore_n (lv' := [(1, .int v3), (0, .ref (ad 0)), (2, .int x2)]) X rfl (by decide) rfl dX7_onSet_30 ?_
        obtain ⟨v5, e6⟩ : ∃ y : Int32, y = x2 + 1 := ⟨_, rfl⟩
        replace h := h v5 e6
        refine wm_iinc (v := v5) (lv' := [(2, .int v5), (1, .int v3), (0, .ref (ad 0))]) X 2 rfl (by rw [e6]; rfl) (by decide) rfl dX7_onSet_31 ?_
        clear e6
        refine wm_goto (tgt := 4) X (by decide) dX7_onSet_34 ?_
        refine wm_sub [2, 1, 0] (lv' := [(0, .ref (ad 0)), (1, .int v3), (2, .int v5)]) rfl ?_
        exact ih v3 v5 σ h
      · replace h := h.2 c2
        refine wm_iconst (v := 1) X (by decide) dX7_onSet_22 ?_
        refine wm_iload_n X 2 rfl dX7_onSet_23 ?_
        refine wm_ishl X dX7_onSet_24 ?_
        refine wm_goto (tgt := 29) X (by decide) dX7_onSet_25 ?_
        refine wm_ior X dX7_onSet_29 ?_
        refine wm_nmI (fun v7 e8 => ?_)
        replace h := h v7 e8
        clear e8
        refine wm_istore_n (lv' := [(1, .int v7), (0, .ref (ad 0)), (2, .int x2)]) X rfl (by decide) rfl dX7_onSet_30 ?_
        obtain ⟨v9, e10⟩ : ∃ y : Int32, y = x2 + 1 := ⟨_, rfl⟩
        replace h := h v9 e10
        refine wm_iinc (v := v9) (lv' := [(2, .int v9), (1, .int v7), (0, .ref (ad 0))]) X 2 rfl (by rw [e10]; rfl) (by decide) rfl dX7_onSet_31 ?_
        clear e10
        refine wm_goto (tgt := 4) X (by decide) dX7_onSet_34 ?_
        refine wm_sub [2, 1, 0] (lv' := [(0, .ref (ad 0)), (1, .int v7), (2, .int v9)]) rfl ?_
        exact ih v7 v9 σ h
set_option maxRecDepth 100000 in
set_option maxHeartbeats 4000000 in
theorem c_X7_onSet (l : Launch) (G : va_G) (tI tJ tZ : ClassId) (ad : Nat → Nat) (hD : ∀ σ, va_D (Ad 11 ad) (wdM tI tJ tZ ad σ))  (σ : St) (post : Int32 → St → Prop) (h : wp_X7_onSet  σ post) : Ct l yX7_onSet wsX7_onSet rm_X7_onSet G (tyL tI tJ tZ) (wdM tI tJ tZ ad) (Ad 11 ad) [.ref (ad 0)] σ (Qi G (wdM tI tJ tZ ad) (Ad 11 ad) post) := by
  refine wm_entry (cc := cX7_onSet) (maxL := 3) (ret := (some .int)) (own := RX7) (lv := [(0, .ref (ad 0))]) (by decide +kernel) rfl rfl (Nat.le_of_ble_eq_true rfl) rfl hD ?_
  intro p e s m below meth c X hr
  unfold wp_X7_onSet at h
  refine wm_iconst (v := 0) X (by decide) dX7_onSet_0 ?_
  refine wm_istore_n (lv' := [(1, .int 0), (0, .ref (ad 0))]) X rfl (by decide) rfl dX7_onSet_1 ?_
  refine wm_iconst (v := 0) X (by decide) dX7_onSet_2 ?_
  refine wm_istore_n (lv' := [(2, .int 0), (1, .int 0), (0, .ref (ad 0))]) X rfl (by decide) rfl dX7_onSet_3 ?_
  refine wm_sub [2, 1, 0] (lv' := [(0, .ref (ad 0)), (1, .int 0), (2, .int 0)]) rfl ?_
  obtain ⟨n0, h⟩ := h
  exact w_X7_onSet_4 hD X hr n0 0 0 σ h
/-! X7_findRow -/
abbrev rm_X7_findRow : Room := { frames := 0, cells := 0, slots := 0, locals := 0 }
def lp_X7_findRow_2 (post : Int32 → St → Prop)  : Nat → Int32 → Int32 → St → Prop
  | 0, _, _, _ => False
  | n + 1, x2, x3, σ =>
  ((gI σ 3) ≤ x3 → post x3 σ) ∧ (¬ (gI σ 3) ≤ x3 → vp_in ((32 * x3) + x2) 800 ∧ ((¬ (gB σ 0 (Int32.toNatClampNeg ((32 * x3) + x2))) = 0 → post x3 σ) ∧ ((gB σ 0 (Int32.toNatClampNeg ((32 * x3) + x2))) = 0 → ∀ v3 : Int32, v3 = x3 + 1 → lp_X7_findRow_2 post n x2 v3 σ)))
def wp_X7_findRow (x1 : Int32) (x2 : Int32) (σ : St) (post : Int32 → St → Prop) : Prop :=
  ∃ fu : Nat, lp_X7_findRow_2 post fu x2 x1 σ
set_option maxRecDepth 100000 in
set_option maxHeartbeats 4000000 in
theorem w_X7_findRow_2 {p : Program} {l : Launch} {e : Env} {s : State} {m : MethodId} {args : Array Value} {below : List Frame} {meth : Method} {c : Code} {G : va_G} {tI tJ tZ : ClassId} {ad : Nat → Nat} (hD : ∀ σ, va_D (Ad 11 ad) (wdM tI tJ tZ ad σ)) (X : Cx p s m args meth c cX7_findRow 4 RX7 wsX7_findRow G (tyL tI tJ tZ) (wdM tI tJ tZ ad) (Ad 11 ad)) (hr : meth.sig.returnType = (some .int)) {post : Int32 → St → Prop}  : ∀ (n : Nat) (x2 : Int32) (x3 : Int32) (σ : St), lp_X7_findRow_2 post n x2 x3 σ → wm p l e rm_X7_findRow s m args below meth c G (wdM tI tJ tZ ad) (Ad 11 ad) 4 (MQ below (Qi G (wdM tI tJ tZ ad) (Ad 11 ad) post) args s 0 0 (Ad 11 ad)) σ [(0, .ref (ad 0)), (2, .int x2), (3, .int x3)] 2 [] := by
  intro n
  induction n with
  | zero => intro x2 x3 σ h; exact h.elim
  | succ n ih =>
    intro x2 x3 σ h
    unfold lp_X7_findRow_2 at h
    refine wm_iload_n X 2 rfl dX7_findRow_2 ?_
    refine wm_aload_n X 0 rfl dX7_findRow_3 ?_
    refine wm_get X (by decide +kernel) 0 rfl rfl 9 (by decide) (by decide +kernel) rfl dX7_findRow_4 ?_
    refine wm_icmp_ge (tgt := 32) X (by decide) dX7_findRow_7 (fun c1 => ?_) (fun c1 => ?_)
    · replace h := h.1 c1
      refine wm_iload_n X 2 rfl dX7_findRow_32 ?_
      exact wm_iret X hr h dX7_findRow_33
    · replace h := h.2 c1
      refine wm_aload_n X 0 rfl dX7_findRow_10 ?_
      refine wm_get X (by decide +kernel) 0 rfl rfl 8 (by decide) (by decide +kernel) rfl dX7_findRow_11 ?_
      refine wm_bipush (v := 32) X (by decide) dX7_findRow_14 ?_
      refine wm_iload_n X 2 rfl dX7_findRow_16 ?_
      refine wm_imul X dX7_findRow_17 ?_
      refine wm_iload_n X 1 rfl dX7_findRow_18 ?_
      refine wm_iadd X dX7_findRow_19 ?_
      refine wm_lald X 6 1 rfl rfl h.1 dX7_findRow_20 ?_
      replace h := h.2
      refine wm_lconst (v := 0) X (by decide) dX7_findRow_21 ?_
      refine wm_lcmp X dX7_findRow_22 ?_
      refine wm_if_ne (tgt := 32) X (by decide) dX7_findRow_23 (fun c2 => ?_) (fun c2 => ?_)
      · replace h := h.1 ((lc_ne _ _).mp c2)
        refine wm_iload_n X 2 rfl dX7_findRow_32 ?_
        exact wm_iret X hr h dX7_findRow_33
      · replace h := h.2 ((lc_nne _ _).mp c2)
        obtain ⟨v3, e4⟩ : ∃ y : Int32, y = x3 + 1 := ⟨_, rfl⟩
        replace h := h v3 e4
        refine wm_iinc (v := v3) (lv' := [(3, .int v3), (0, .ref (ad 0)), (2, .int x2)]) X 2 rfl (by rw [e4]; rfl) (by decide) rfl dX7_findRow_26 ?_
        clear e4
        refine wm_goto (tgt := 2) X (by decide) dX7_findRow_29 ?_
        refine wm_sub [1, 2, 0] (lv' := [(0, .ref (ad 0)), (2, .int x2), (3, .int v3)]) rfl ?_
        exact ih x2 v3 σ h
set_option maxRecDepth 100000 in
set_option maxHeartbeats 4000000 in
theorem c_X7_findRow (l : Launch) (G : va_G) (tI tJ tZ : ClassId) (ad : Nat → Nat) (hD : ∀ σ, va_D (Ad 11 ad) (wdM tI tJ tZ ad σ)) (x1 : Int32) (x2 : Int32) (σ : St) (post : Int32 → St → Prop) (h : wp_X7_findRow x1 x2 σ post) : Ct l yX7_findRow wsX7_findRow rm_X7_findRow G (tyL tI tJ tZ) (wdM tI tJ tZ ad) (Ad 11 ad) [.ref (ad 0), .int x1, .int x2] σ (Qi G (wdM tI tJ tZ ad) (Ad 11 ad) post) := by
  refine wm_entry (cc := cX7_findRow) (maxL := 4) (ret := (some .int)) (own := RX7) (lv := [(0, .ref (ad 0)), (1, .int x1), (2, .int x2)]) (by decide +kernel) rfl rfl (Nat.le_of_ble_eq_true rfl) rfl hD ?_
  intro p e s m below meth c X hr
  unfold wp_X7_findRow at h
  refine wm_iload_n X 1 rfl dX7_findRow_0 ?_
  refine wm_istore_n (lv' := [(3, .int x1), (0, .ref (ad 0)), (1, .int x1), (2, .int x2)]) X rfl (by decide) rfl dX7_findRow_1 ?_
  refine wm_sub [1, 3, 0] (lv' := [(0, .ref (ad 0)), (2, .int x2), (3, .int x1)]) rfl ?_
  obtain ⟨n0, h⟩ := h
  exact w_X7_findRow_2 hD X hr n0 x2 x1 σ h
/-! X7_swap -/
abbrev rm_X7_swap : Room := { frames := 0, cells := 0, slots := 0, locals := 0 }
def lp_X7_swap_3 (post : St → Prop)  : Nat → Int32 → Int32 → Int32 → Int32 → St → Prop
  | 0, _, _, _, _, _ => False
  | n + 1, x1, x2, x3, x4, σ =>
  (x3 ≤ x4 → post σ) ∧ (¬ x3 ≤ x4 → vp_in ((32 * x1) + x4) 800 ∧ (∀ v2 : Int64, v2 = gB σ 0 (Int32.toNatClampNeg ((32 * x1) + x4)) → vp_in ((32 * x2) + x4) 800 ∧ (vp_in ((32 * x1) + x4) 800 ∧ (∀ σ4 : St, σ4 = sB σ 0 (Int32.toNatClampNeg ((32 * x1) + x4)) (gB σ 0 (Int32.toNatClampNeg ((32 * x2) + x4))) → vp_in ((32 * x2) + x4) 800 ∧ (∀ σ6 : St, σ6 = sB σ4 0 (Int32.toNatClampNeg ((32 * x2) + x4)) v2 → ∀ v8 : Int32, v8 = x4 + 1 → lp_X7_swap_3 post n x1 x2 x3 v8 σ6)))))
def wp_X7_swap (x1 : Int32) (x2 : Int32) (x3 : Int32) (σ : St) (post : St → Prop) : Prop :=
  ∃ fu : Nat, lp_X7_swap_3 post fu x1 x2 x3 0 σ
set_option maxRecDepth 100000 in
set_option maxHeartbeats 4000000 in
theorem w_X7_swap_3 {p : Program} {l : Launch} {e : Env} {s : State} {m : MethodId} {args : Array Value} {below : List Frame} {meth : Method} {c : Code} {G : va_G} {tI tJ tZ : ClassId} {ad : Nat → Nat} (hD : ∀ σ, va_D (Ad 11 ad) (wdM tI tJ tZ ad σ)) (X : Cx p s m args meth c cX7_swap 7 RX7 wsX7_swap G (tyL tI tJ tZ) (wdM tI tJ tZ ad) (Ad 11 ad)) (hr : meth.sig.returnType = none) {post : St → Prop}  : ∀ (n : Nat) (x1 : Int32) (x2 : Int32) (x3 : Int32) (x4 : Int32) (σ : St), lp_X7_swap_3 post n x1 x2 x3 x4 σ → wm p l e rm_X7_swap s m args below meth c G (wdM tI tJ tZ ad) (Ad 11 ad) 7 (MQ below (Qv G (wdM tI tJ tZ ad) (Ad 11 ad) post) args s 0 0 (Ad 11 ad)) σ [(0, .ref (ad 0)), (1, .int x1), (2, .int x2), (3, .int x3), (4, .int x4)] 3 [] := by
  intro n
  induction n with
  | zero => intro x1 x2 x3 x4 σ h; exact h.elim
  | succ n ih =>
    intro x1 x2 x3 x4 σ h
    unfold lp_X7_swap_3 at h
    refine wm_iload X 4 rfl dX7_swap_3 ?_
    refine wm_iload_n X 3 rfl dX7_swap_5 ?_
    refine wm_icmp_ge (tgt := 67) X (by decide) dX7_swap_6 (fun c1 => ?_) (fun c1 => ?_)
    · replace h := h.1 c1
      exact wm_vret X hr h dX7_swap_67
    · replace h := h.2 c1
      refine wm_aload_n X 0 rfl dX7_swap_9 ?_
      refine wm_get X (by decide +kernel) 0 rfl rfl 8 (by decide) (by decide +kernel) rfl dX7_swap_10 ?_
      refine wm_bipush (v := 32) X (by decide) dX7_swap_13 ?_
      refine wm_iload_n X 1 rfl dX7_swap_15 ?_
      refine wm_imul X dX7_swap_16 ?_
      refine wm_iload X 4 rfl dX7_swap_17 ?_
      refine wm_iadd X dX7_swap_19 ?_
      refine wm_lald X 6 1 rfl rfl h.1 dX7_swap_20 ?_
      replace h := h.2
      refine wm_nmL (fun v2 e3 => ?_)
      replace h := h v2 e3
      clear e3
      refine wm_lstore (lv' := [(5, .long v2), (0, .ref (ad 0)), (1, .int x1), (2, .int x2), (3, .int x3), (4, .int x4)]) X (by decide) rfl dX7_swap_21 ?_
      refine wm_aload_n X 1 rfl dX7_swap_23 ?_
      refine wm_get X (by decide +kernel) 0 rfl rfl 8 (by decide) (by decide +kernel) rfl dX7_swap_24 ?_
      refine wm_bipush (v := 32) X (by decide) dX7_swap_27 ?_
      refine wm_iload_n X 2 rfl dX7_swap_29 ?_
      refine wm_imul X dX7_swap_30 ?_
      refine wm_iload X 5 rfl dX7_swap_31 ?_
      refine wm_iadd X dX7_swap_33 ?_
      refine wm_aload_n X 1 rfl dX7_swap_34 ?_
      refine wm_get X (by decide +kernel) 0 rfl rfl 8 (by decide) (by decide +kernel) rfl dX7_swap_35 ?_
      refine wm_bipush (v := 32) X (by decide) dX7_swap_38 ?_
      refine wm_iload_n X 3 rfl dX7_swap_40 ?_
      refine wm_imul X dX7_swap_41 ?_
      refine wm_iload X 5 rfl dX7_swap_42 ?_
      refine wm_iadd X dX7_swap_44 ?_
      refine wm_lald X 6 1 rfl rfl h.1 dX7_swap_45 ?_
      replace h := h.2
      refine wm_last (σ' := sB σ 0 (Int32.toNatClampNeg ((32 * x1) + x4)) (gB σ 0 (Int32.toNatClampNeg ((32 * x2) + x4)))) X 6 1 rfl rfl h.1 rfl dX7_swap_46 ?_
      replace h := h.2
      refine wm_nmS (fun σ4 e5 => ?_)
      replace h := h σ4 e5
      clear e5
      refine wm_aload_n X 1 rfl dX7_swap_47 ?_
      refine wm_get X (by decide +kernel) 0 rfl rfl 8 (by decide) (by decide +kernel) rfl dX7_swap_48 ?_
      refine wm_bipush (v := 32) X (by decide) dX7_swap_51 ?_
      refine wm_iload_n X 3 rfl dX7_swap_53 ?_
      refine wm_imul X dX7_swap_54 ?_
      refine wm_iload X 5 rfl dX7_swap_55 ?_
      refine wm_iadd X dX7_swap_57 ?_
      refine wm_lload X 0 rfl dX7_swap_58 ?_
      refine wm_last (σ' := sB σ4 0 (Int32.toNatClampNeg ((32 * x2) + x4)) v2) X 6 1 rfl rfl h.1 rfl dX7_swap_60 ?_
      replace h := h.2
      refine wm_nmS (fun σ6 e7 => ?_)
      replace h := h σ6 e7
      clear e7
      obtain ⟨v8, e9⟩ : ∃ y : Int32, y = x4 + 1 := ⟨_, rfl⟩
      replace h := h v8 e9
      refine wm_iinc (v := v8) (lv' := [(4, .int v8), (5, .long v2), (0, .ref (ad 0)), (1, .int x1), (2, .int x2), (3, .int x3)]) X 5 rfl (by rw [e9]; rfl) (by decide) rfl dX7_swap_61 ?_
      clear e9
      refine wm_goto (tgt := 3) X (by decide) dX7_swap_64 ?_
      refine wm_sub [2, 3, 4, 5, 0] (lv' := [(0, .ref (ad 0)), (1, .int x1), (2, .int x2), (3, .int x3), (4, .int v8)]) rfl ?_
      exact ih x1 x2 x3 v8 σ6 h
set_option maxRecDepth 100000 in
set_option maxHeartbeats 4000000 in
theorem c_X7_swap (l : Launch) (G : va_G) (tI tJ tZ : ClassId) (ad : Nat → Nat) (hD : ∀ σ, va_D (Ad 11 ad) (wdM tI tJ tZ ad σ)) (x1 : Int32) (x2 : Int32) (x3 : Int32) (σ : St) (post : St → Prop) (h : wp_X7_swap x1 x2 x3 σ post) : Ct l yX7_swap wsX7_swap rm_X7_swap G (tyL tI tJ tZ) (wdM tI tJ tZ ad) (Ad 11 ad) [.ref (ad 0), .int x1, .int x2, .int x3] σ (Qv G (wdM tI tJ tZ ad) (Ad 11 ad) post) := by
  refine wm_entry (cc := cX7_swap) (maxL := 7) (ret := none) (own := RX7) (lv := [(0, .ref (ad 0)), (1, .int x1), (2, .int x2), (3, .int x3)]) (by decide +kernel) rfl rfl (Nat.le_of_ble_eq_true rfl) rfl hD ?_
  intro p e s m below meth c X hr
  unfold wp_X7_swap at h
  refine wm_iconst (v := 0) X (by decide) dX7_swap_0 ?_
  refine wm_istore (lv' := [(4, .int 0), (0, .ref (ad 0)), (1, .int x1), (2, .int x2), (3, .int x3)]) X (by decide) rfl dX7_swap_1 ?_
  refine wm_sub [1, 2, 3, 4, 0] (lv' := [(0, .ref (ad 0)), (1, .int x1), (2, .int x2), (3, .int x3), (4, .int 0)]) rfl ?_
  obtain ⟨n0, h⟩ := h
  exact w_X7_swap_3 hD X hr n0 x1 x2 x3 0 σ h
