/-! X6_shown -/
abbrev rm_X6_shown : Room := { frames := 4, cells := 0, slots := 0, locals := 101 }
def wp_X6_shown (x1 : Int32) (x2 : Int32) (x3 : Int32) (x4 : Int32) (σ : St) (post : Int64 → St → Prop) : Prop :=
  wp_X2_hasLine x3 σ (fun r1 σ2 => (¬ r1 = 0 → wp_X2_isLineSet x1 σ2 (fun r4 σ5 => (r4 = 0 → post (-102) σ5) ∧ (¬ r4 = 0 → wp_X6_isZeroOrOne x2 σ5 (fun r7 σ8 => (r7 = 0 → post (-102) σ8) ∧ (¬ r7 = 0 → wp_X6_isZeroOrOne x4 σ8 (fun r10 σ11 => (¬ r10 = 0 → wp_X0_solve (gI σ11 3) σ11 (fun r13 σ14 => (¬ r13 = 0 → wp_X6_isEndless x1 x2 σ14 (fun r16 σ17 => (r16 = 0 → wp_X0_goToEnd x1 x2 σ17 (fun σ20 => wp_X0_leastInTurnUpTo x3 σ20 (fun σ22 => wp_X0_upperOf (1 <<< (x3 &&& 31)) σ22 (fun r23 σ24 => wp_X6_partOfFraction r23 (gL σ24 0) x4 σ24 (fun r25 σ26 => post r25 σ26))))) ∧ (¬ r16 = 0 → post (-105) σ17))) ∧ (r13 = 0 → post (-103) σ14))) ∧ (r10 = 0 → post (-102) σ11))))))) ∧ (r1 = 0 → post (-101) σ2))
set_option maxRecDepth 100000 in
set_option maxHeartbeats 4000000 in
theorem c_X6_shown (l : Launch) (G : va_G) (tI tJ tZ : ClassId) (ad : Nat → Nat) (hD : ∀ σ, va_D (Ad 22 ad) (wdC tI tJ tZ ad σ)) (x1 : Int32) (x2 : Int32) (x3 : Int32) (x4 : Int32) (σ : St) (post : Int64 → St → Prop) (h : wp_X6_shown x1 x2 x3 x4 σ post) : Ct l yX6_shown wsX6_shown rm_X6_shown G (tyL tI tJ tZ) (wdC tI tJ tZ ad) (Ad 22 ad) [.ref (ad 0), .int x1, .int x2, .int x3, .int x4] σ (Ql G (wdC tI tJ tZ ad) (Ad 22 ad) post) := by
  refine wm_entry (cc := cX6_shown) (maxL := 5) (ret := (some .long)) (own := RX6) (lv := [(0, .ref (ad 0)), (1, .int x1), (2, .int x2), (3, .int x3), (4, .int x4)]) (by decide +kernel) rfl rfl (Nat.le_of_ble_eq_true rfl) rfl hD ?_
  intro p e s m below meth c X hr
  unfold wp_X6_shown at h
  refine wm_aload_n X 0 rfl dX6_shown_0 ?_
  refine wm_get X (by decide +kernel) 0 rfl rfl 0 (by decide) (by decide +kernel) rfl dX6_shown_1 ?_
  refine wm_iload_n X 3 rfl dX6_shown_4 ?_
  refine wm_callVi (n := 1) (As := [.int x3]) (rest := []) X (c_X2_hasLine l G tI tJ tZ ad hD x3 σ _ h) gX6_shown_X2_hasLine rfl ⟨rfl, rfl⟩ (by decide +kernel) ⟨Nat.le_of_ble_eq_true rfl, Nat.le_of_ble_eq_true rfl⟩ 1 rfl rfl rfl rfl rfl (Nat.le_of_ble_eq_true rfl) dX6_shown_5 (fun r1 σ2 h => ?_)
  refine wm_if_ne (tgt := 15) X (by decide) dX6_shown_8 (fun c3 => ?_) (fun c3 => ?_)
  · replace h := h.1 c3
    refine wm_aload_n X 0 rfl dX6_shown_15 ?_
    refine wm_get X (by decide +kernel) 0 rfl rfl 0 (by decide) (by decide +kernel) rfl dX6_shown_16 ?_
    refine wm_iload_n X 1 rfl dX6_shown_19 ?_
    refine wm_callVi (n := 1) (As := [.int x1]) (rest := []) X (c_X2_isLineSet l G tI tJ tZ ad hD x1 σ2 _ h) gX6_shown_X2_isLineSet rfl ⟨rfl, rfl⟩ (by decide +kernel) ⟨Nat.le_of_ble_eq_true rfl, Nat.le_of_ble_eq_true rfl⟩ 1 rfl rfl rfl rfl rfl (Nat.le_of_ble_eq_true rfl) dX6_shown_20 (fun r4 σ5 h => ?_)
    refine wm_if_eq (tgt := 41) X (by decide) dX6_shown_23 (fun c6 => ?_) (fun c6 => ?_)
    · replace h := h.1 c6
      refine wm_ldc2 (v := (-102)) X (by decide +kernel) dX6_shown_41 ?_
      exact wm_lret X hr h dX6_shown_44
    · replace h := h.2 c6
      refine wm_iload_n X 2 rfl dX6_shown_26 ?_
      refine wm_callSi (n := 1) (As := [.int x2]) (rest := []) X (c_X6_isZeroOrOne l G tI tJ tZ ad hD x2 σ5 _ h) gX6_shown_X6_isZeroOrOne rfl ⟨rfl, rfl⟩ (by decide +kernel) ⟨Nat.le_of_ble_eq_true rfl, Nat.le_of_ble_eq_true rfl⟩ rfl rfl (Nat.le_of_ble_eq_true rfl) dX6_shown_27 (fun r7 σ8 h => ?_)
      refine wm_if_eq (tgt := 41) X (by decide) dX6_shown_30 (fun c9 => ?_) (fun c9 => ?_)
      · replace h := h.1 c9
        refine wm_ldc2 (v := (-102)) X (by decide +kernel) dX6_shown_41 ?_
        exact wm_lret X hr h dX6_shown_44
      · replace h := h.2 c9
        refine wm_iload X 4 rfl dX6_shown_33 ?_
        refine wm_callSi (n := 1) (As := [.int x4]) (rest := []) X (c_X6_isZeroOrOne l G tI tJ tZ ad hD x4 σ8 _ h) gX6_shown_X6_isZeroOrOne rfl ⟨rfl, rfl⟩ (by decide +kernel) ⟨Nat.le_of_ble_eq_true rfl, Nat.le_of_ble_eq_true rfl⟩ rfl rfl (Nat.le_of_ble_eq_true rfl) dX6_shown_35 (fun r10 σ11 h => ?_)
        refine wm_if_ne (tgt := 45) X (by decide) dX6_shown_38 (fun c12 => ?_) (fun c12 => ?_)
        · replace h := h.1 c12
          refine wm_aload_n X 0 rfl dX6_shown_45 ?_
          refine wm_get X (by decide +kernel) 0 rfl rfl 1 (by decide) (by decide +kernel) rfl dX6_shown_46 ?_
          refine wm_aload_n X 0 rfl dX6_shown_49 ?_
          refine wm_get X (by decide +kernel) 0 rfl rfl 0 (by decide) (by decide +kernel) rfl dX6_shown_50 ?_
          refine wm_aload_n X 0 rfl dX6_shown_53 ?_
          refine wm_get X (by decide +kernel) 0 rfl rfl 0 (by decide) (by decide +kernel) rfl dX6_shown_54 ?_
          refine wm_get X (by decide +kernel) 1 rfl rfl 6 (by decide) (by decide +kernel) rfl dX6_shown_57 ?_
          refine wm_callVi (n := 2) (As := [.ref (ad 1), .int (gI σ11 3)]) (rest := []) X (c_X0_solve l G tI tJ tZ ad hD (gI σ11 3) σ11 _ h) gX6_shown_X0_solve rfl ⟨rfl, rfl⟩ (by decide +kernel) ⟨Nat.le_of_ble_eq_true rfl, Nat.le_of_ble_eq_true rfl⟩ 5 rfl rfl rfl rfl rfl (Nat.le_of_ble_eq_true rfl) dX6_shown_60 (fun r13 σ14 h => ?_)
          refine wm_if_ne (tgt := 70) X (by decide) dX6_shown_63 (fun c15 => ?_) (fun c15 => ?_)
          · replace h := h.1 c15
            refine wm_aload_n X 0 rfl dX6_shown_70 ?_
            refine wm_iload_n X 1 rfl dX6_shown_71 ?_
            refine wm_iload_n X 2 rfl dX6_shown_72 ?_
            refine wm_callVi (n := 2) (As := [.int x1, .int x2]) (rest := []) X (c_X6_isEndless l G tI tJ tZ ad hD x1 x2 σ14 _ h) gX6_shown_X6_isEndless rfl ⟨rfl, rfl⟩ (by decide +kernel) ⟨Nat.le_of_ble_eq_true rfl, Nat.le_of_ble_eq_true rfl⟩ 0 rfl rfl rfl rfl rfl (Nat.le_of_ble_eq_true rfl) dX6_shown_73 (fun r16 σ17 h => ?_)
            refine wm_if_eq (tgt := 83) X (by decide) dX6_shown_76 (fun c18 => ?_) (fun c18 => ?_)
            · replace h := h.1 c18
              refine wm_aload_n X 0 rfl dX6_shown_83 ?_
              refine wm_get X (by decide +kernel) 0 rfl rfl 1 (by decide) (by decide +kernel) rfl dX6_shown_84 ?_
              refine wm_iload_n X 1 rfl dX6_shown_87 ?_
              refine wm_iload_n X 2 rfl dX6_shown_88 ?_
              refine wm_callVv (n := 2) (As := [.int x1, .int x2]) (rest := []) X (c_X0_goToEnd l G tI tJ tZ ad hD x1 x2 σ17 _ h) gX6_shown_X0_goToEnd rfl ⟨rfl, rfl⟩ (by decide +kernel) ⟨Nat.le_of_ble_eq_true rfl, Nat.le_of_ble_eq_true rfl⟩ 5 rfl rfl rfl rfl rfl (Nat.le_of_ble_eq_true rfl) dX6_shown_89 (fun σ20 h => ?_)
              refine wm_aload_n X 0 rfl dX6_shown_92 ?_
              refine wm_get X (by decide +kernel) 0 rfl rfl 1 (by decide) (by decide +kernel) rfl dX6_shown_93 ?_
              refine wm_iload_n X 3 rfl dX6_shown_96 ?_
              refine wm_callVv (n := 1) (As := [.int x3]) (rest := []) X (c_X0_leastInTurnUpTo l G tI tJ tZ ad hD x3 σ20 _ h) gX6_shown_X0_leastInTurnUpTo rfl ⟨rfl, rfl⟩ (by decide +kernel) ⟨Nat.le_of_ble_eq_true rfl, Nat.le_of_ble_eq_true rfl⟩ 5 rfl rfl rfl rfl rfl (Nat.le_of_ble_eq_true rfl) dX6_shown_97 (fun σ22 h => ?_)
              refine wm_aload_n X 0 rfl dX6_shown_100 ?_
              refine wm_get X (by decide +kernel) 0 rfl rfl 1 (by decide) (by decide +kernel) rfl dX6_shown_101 ?_
              refine wm_iconst (v := 1) X (by decide) dX6_shown_104 ?_
              refine wm_iload_n X 3 rfl dX6_shown_105 ?_
              refine wm_ishl X dX6_shown_106 ?_
              refine wm_callVl (n := 1) (As := [.int (1 <<< (x3 &&& 31))]) (rest := []) X (c_X0_upperOf l G tI tJ tZ ad hD (1 <<< (x3 &&& 31)) σ22 _ h) gX6_shown_X0_upperOf rfl ⟨rfl, rfl⟩ (by decide +kernel) ⟨Nat.le_of_ble_eq_true rfl, Nat.le_of_ble_eq_true rfl⟩ 5 rfl rfl rfl rfl rfl (Nat.le_of_ble_eq_true rfl) dX6_shown_107 (fun r23 σ24 h => ?_)
              refine wm_aload_n X 0 rfl dX6_shown_110 ?_
              refine wm_get X (by decide +kernel) 0 rfl rfl 1 (by decide) (by decide +kernel) rfl dX6_shown_111 ?_
              refine wm_get X (by decide +kernel) 5 rfl rfl 8 (by decide) (by decide +kernel) rfl dX6_shown_114 ?_
              refine wm_iload X 4 rfl dX6_shown_117 ?_
              refine wm_callSl (n := 3) (As := [.long r23, .long (gL σ24 0), .int x4]) (rest := []) X (c_X6_partOfFraction l G tI tJ tZ ad hD r23 (gL σ24 0) x4 σ24 _ h) gX6_shown_X6_partOfFraction rfl ⟨rfl, rfl⟩ (by decide +kernel) ⟨Nat.le_of_ble_eq_true rfl, Nat.le_of_ble_eq_true rfl⟩ rfl rfl (Nat.le_of_ble_eq_true rfl) dX6_shown_119 (fun r25 σ26 h => ?_)
              exact wm_lret X hr h dX6_shown_122
            · replace h := h.2 c18
              refine wm_ldc2 (v := (-105)) X (by decide +kernel) dX6_shown_79 ?_
              exact wm_lret X hr h dX6_shown_82
          · replace h := h.2 c15
            refine wm_ldc2 (v := (-103)) X (by decide +kernel) dX6_shown_66 ?_
            exact wm_lret X hr h dX6_shown_69
        · replace h := h.2 c12
          refine wm_ldc2 (v := (-102)) X (by decide +kernel) dX6_shown_41 ?_
          exact wm_lret X hr h dX6_shown_44
  · replace h := h.2 c3
    refine wm_ldc2 (v := (-101)) X (by decide +kernel) dX6_shown_11 ?_
    exact wm_lret X hr h dX6_shown_14
/-! X6_settled -/
abbrev rm_X6_settled : Room := { frames := 5, cells := 0, slots := 0, locals := 127 }
def wp_X6_settled (x1 : Int32) (σ : St) (post : Int32 → St → Prop) : Prop :=
  wp_X2_hasLine x1 σ (fun r1 σ2 => (¬ r1 = 0 → wp_X0_solve (gI σ2 3) σ2 (fun r4 σ5 => (¬ r4 = 0 → wp_X6_isSettledLine x1 σ5 (fun r7 σ8 => (r7 = 0 → post 0 σ8) ∧ (¬ r7 = 0 → post 1 σ8))) ∧ (r4 = 0 → post (-103) σ5))) ∧ (r1 = 0 → post (-101) σ2))
set_option maxRecDepth 100000 in
set_option maxHeartbeats 4000000 in
theorem c_X6_settled (l : Launch) (G : va_G) (tI tJ tZ : ClassId) (ad : Nat → Nat) (hD : ∀ σ, va_D (Ad 22 ad) (wdC tI tJ tZ ad σ)) (x1 : Int32) (σ : St) (post : Int32 → St → Prop) (h : wp_X6_settled x1 σ post) : Ct l yX6_settled wsX6_settled rm_X6_settled G (tyL tI tJ tZ) (wdC tI tJ tZ ad) (Ad 22 ad) [.ref (ad 0), .int x1] σ (Qi G (wdC tI tJ tZ ad) (Ad 22 ad) post) := by
  refine wm_entry (cc := cX6_settled) (maxL := 2) (ret := (some .int)) (own := RX6) (lv := [(0, .ref (ad 0)), (1, .int x1)]) (by decide +kernel) rfl rfl (Nat.le_of_ble_eq_true rfl) rfl hD ?_
  intro p e s m below meth c X hr
  unfold wp_X6_settled at h
  refine wm_aload_n X 0 rfl dX6_settled_0 ?_
  refine wm_get X (by decide +kernel) 0 rfl rfl 0 (by decide) (by decide +kernel) rfl dX6_settled_1 ?_
  refine wm_iload_n X 1 rfl dX6_settled_4 ?_
  refine wm_callVi (n := 1) (As := [.int x1]) (rest := []) X (c_X2_hasLine l G tI tJ tZ ad hD x1 σ _ h) gX6_settled_X2_hasLine rfl ⟨rfl, rfl⟩ (by decide +kernel) ⟨Nat.le_of_ble_eq_true rfl, Nat.le_of_ble_eq_true rfl⟩ 1 rfl rfl rfl rfl rfl (Nat.le_of_ble_eq_true rfl) dX6_settled_5 (fun r1 σ2 h => ?_)
  refine wm_if_ne (tgt := 14) X (by decide) dX6_settled_8 (fun c3 => ?_) (fun c3 => ?_)
  · replace h := h.1 c3
    refine wm_aload_n X 0 rfl dX6_settled_14 ?_
    refine wm_get X (by decide +kernel) 0 rfl rfl 1 (by decide) (by decide +kernel) rfl dX6_settled_15 ?_
    refine wm_aload_n X 0 rfl dX6_settled_18 ?_
    refine wm_get X (by decide +kernel) 0 rfl rfl 0 (by decide) (by decide +kernel) rfl dX6_settled_19 ?_
    refine wm_aload_n X 0 rfl dX6_settled_22 ?_
    refine wm_get X (by decide +kernel) 0 rfl rfl 0 (by decide) (by decide +kernel) rfl dX6_settled_23 ?_
    refine wm_get X (by decide +kernel) 1 rfl rfl 6 (by decide) (by decide +kernel) rfl dX6_settled_26 ?_
    refine wm_callVi (n := 2) (As := [.ref (ad 1), .int (gI σ2 3)]) (rest := []) X (c_X0_solve l G tI tJ tZ ad hD (gI σ2 3) σ2 _ h) gX6_settled_X0_solve rfl ⟨rfl, rfl⟩ (by decide +kernel) ⟨Nat.le_of_ble_eq_true rfl, Nat.le_of_ble_eq_true rfl⟩ 5 rfl rfl rfl rfl rfl (Nat.le_of_ble_eq_true rfl) dX6_settled_29 (fun r4 σ5 h => ?_)
    refine wm_if_ne (tgt := 38) X (by decide) dX6_settled_32 (fun c6 => ?_) (fun c6 => ?_)
    · replace h := h.1 c6
      refine wm_aload_n X 0 rfl dX6_settled_38 ?_
      refine wm_iload_n X 1 rfl dX6_settled_39 ?_
      refine wm_callVi (n := 1) (As := [.int x1]) (rest := []) X (c_X6_isSettledLine l G tI tJ tZ ad hD x1 σ5 _ h) gX6_settled_X6_isSettledLine rfl ⟨rfl, rfl⟩ (by decide +kernel) ⟨Nat.le_of_ble_eq_true rfl, Nat.le_of_ble_eq_true rfl⟩ 0 rfl rfl rfl rfl rfl (Nat.le_of_ble_eq_true rfl) dX6_settled_40 (fun r7 σ8 h => ?_)
      refine wm_if_eq (tgt := 50) X (by decide) dX6_settled_43 (fun c9 => ?_) (fun c9 => ?_)
      · replace h := h.1 c9
        refine wm_iconst (v := 0) X (by decide) dX6_settled_50 ?_
        exact wm_iret X hr h dX6_settled_51
      · replace h := h.2 c9
        refine wm_iconst (v := 1) X (by decide) dX6_settled_46 ?_
        refine wm_goto (tgt := 51) X (by decide) dX6_settled_47 ?_
        exact wm_iret X hr h dX6_settled_51
    · replace h := h.2 c6
      refine wm_bipush (v := (-103)) X (by decide) dX6_settled_35 ?_
      exact wm_iret X hr h dX6_settled_37
  · replace h := h.2 c3
    refine wm_bipush (v := (-101)) X (by decide) dX6_settled_11 ?_
    exact wm_iret X hr h dX6_settled_13
/-! X6_known -/
abbrev rm_X6_known : Room := { frames := 5, cells := 0, slots := 0, locals := 114 }
def wp_X6_known (x1 : Int32) (σ : St) (post : Int32 → St → Prop) : Prop :=
  wp_X2_hasLine x1 σ (fun r1 σ2 => (¬ r1 = 0 → wp_X5_linesFromWays σ2 (fun r4 σ5 => wp_X6_bitOf r4 x1 σ5 (fun r6 σ7 => post r6 σ7))) ∧ (r1 = 0 → post (-101) σ2))
set_option maxRecDepth 100000 in
set_option maxHeartbeats 4000000 in
theorem c_X6_known (l : Launch) (G : va_G) (tI tJ tZ : ClassId) (ad : Nat → Nat) (hD : ∀ σ, va_D (Ad 22 ad) (wdC tI tJ tZ ad σ)) (x1 : Int32) (σ : St) (post : Int32 → St → Prop) (h : wp_X6_known x1 σ post) : Ct l yX6_known wsX6_known rm_X6_known G (tyL tI tJ tZ) (wdC tI tJ tZ ad) (Ad 22 ad) [.ref (ad 0), .int x1] σ (Qi G (wdC tI tJ tZ ad) (Ad 22 ad) post) := by
  refine wm_entry (cc := cX6_known) (maxL := 2) (ret := (some .int)) (own := RX6) (lv := [(0, .ref (ad 0)), (1, .int x1)]) (by decide +kernel) rfl rfl (Nat.le_of_ble_eq_true rfl) rfl hD ?_
  intro p e s m below meth c X hr
  unfold wp_X6_known at h
  refine wm_aload_n X 0 rfl dX6_known_0 ?_
  refine wm_get X (by decide +kernel) 0 rfl rfl 0 (by decide) (by decide +kernel) rfl dX6_known_1 ?_
  refine wm_iload_n X 1 rfl dX6_known_4 ?_
  refine wm_callVi (n := 1) (As := [.int x1]) (rest := []) X (c_X2_hasLine l G tI tJ tZ ad hD x1 σ _ h) gX6_known_X2_hasLine rfl ⟨rfl, rfl⟩ (by decide +kernel) ⟨Nat.le_of_ble_eq_true rfl, Nat.le_of_ble_eq_true rfl⟩ 1 rfl rfl rfl rfl rfl (Nat.le_of_ble_eq_true rfl) dX6_known_5 (fun r1 σ2 h => ?_)
  refine wm_if_ne (tgt := 14) X (by decide) dX6_known_8 (fun c3 => ?_) (fun c3 => ?_)
  · replace h := h.1 c3
    refine wm_aload_n X 0 rfl dX6_known_14 ?_
    refine wm_get X (by decide +kernel) 0 rfl rfl 3 (by decide) (by decide +kernel) rfl dX6_known_15 ?_
    refine wm_aload_n X 0 rfl dX6_known_18 ?_
    refine wm_get X (by decide +kernel) 0 rfl rfl 0 (by decide) (by decide +kernel) rfl dX6_known_19 ?_
    refine wm_callVi (n := 1) (As := [.ref (ad 1)]) (rest := []) X (c_X5_linesFromWays l G tI tJ tZ ad hD σ2 _ h) gX6_known_X5_linesFromWays rfl ⟨rfl, rfl⟩ (by decide +kernel) ⟨Nat.le_of_ble_eq_true rfl, Nat.le_of_ble_eq_true rfl⟩ 15 rfl rfl rfl rfl rfl (Nat.le_of_ble_eq_true rfl) dX6_known_22 (fun r4 σ5 h => ?_)
    refine wm_iload_n X 1 rfl dX6_known_25 ?_
    refine wm_callSi (n := 2) (As := [.int r4, .int x1]) (rest := []) X (c_X6_bitOf l G tI tJ tZ ad hD r4 x1 σ5 _ h) gX6_known_X6_bitOf rfl ⟨rfl, rfl⟩ (by decide +kernel) ⟨Nat.le_of_ble_eq_true rfl, Nat.le_of_ble_eq_true rfl⟩ rfl rfl (Nat.le_of_ble_eq_true rfl) dX6_known_26 (fun r6 σ7 h => ?_)
    exact wm_iret X hr h dX6_known_29
  · replace h := h.2 c3
    refine wm_bipush (v := (-101)) X (by decide) dX6_known_11 ?_
    exact wm_iret X hr h dX6_known_13
/-! X6_group -/
abbrev rm_X6_group : Room := { frames := 3, cells := 0, slots := 0, locals := 65 }
def wp_X6_group (x1 : Int32) (σ : St) (post : Int32 → St → Prop) : Prop :=
  wp_X2_hasLine x1 σ (fun r1 σ2 => (¬ r1 = 0 → wp_X2_linesAlike x1 σ2 (fun r4 σ5 => post r4 σ5)) ∧ (r1 = 0 → post (-101) σ2))
set_option maxRecDepth 100000 in
set_option maxHeartbeats 4000000 in
theorem c_X6_group (l : Launch) (G : va_G) (tI tJ tZ : ClassId) (ad : Nat → Nat) (hD : ∀ σ, va_D (Ad 22 ad) (wdC tI tJ tZ ad σ)) (x1 : Int32) (σ : St) (post : Int32 → St → Prop) (h : wp_X6_group x1 σ post) : Ct l yX6_group wsX6_group rm_X6_group G (tyL tI tJ tZ) (wdC tI tJ tZ ad) (Ad 22 ad) [.ref (ad 0), .int x1] σ (Qi G (wdC tI tJ tZ ad) (Ad 22 ad) post) := by
  refine wm_entry (cc := cX6_group) (maxL := 2) (ret := (some .int)) (own := RX6) (lv := [(0, .ref (ad 0)), (1, .int x1)]) (by decide +kernel) rfl rfl (Nat.le_of_ble_eq_true rfl) rfl hD ?_
  intro p e s m below meth c X hr
  unfold wp_X6_group at h
  refine wm_aload_n X 0 rfl dX6_group_0 ?_
  refine wm_get X (by decide +kernel) 0 rfl rfl 0 (by decide) (by decide +kernel) rfl dX6_group_1 ?_
  refine wm_iload_n X 1 rfl dX6_group_4 ?_
  refine wm_callVi (n := 1) (As := [.int x1]) (rest := []) X (c_X2_hasLine l G tI tJ tZ ad hD x1 σ _ h) gX6_group_X2_hasLine rfl ⟨rfl, rfl⟩ (by decide +kernel) ⟨Nat.le_of_ble_eq_true rfl, Nat.le_of_ble_eq_true rfl⟩ 1 rfl rfl rfl rfl rfl (Nat.le_of_ble_eq_true rfl) dX6_group_5 (fun r1 σ2 h => ?_)
  refine wm_if_ne (tgt := 14) X (by decide) dX6_group_8 (fun c3 => ?_) (fun c3 => ?_)
  · replace h := h.1 c3
    refine wm_aload_n X 0 rfl dX6_group_14 ?_
    refine wm_get X (by decide +kernel) 0 rfl rfl 0 (by decide) (by decide +kernel) rfl dX6_group_15 ?_
    refine wm_iload_n X 1 rfl dX6_group_18 ?_
    refine wm_callVi (n := 1) (As := [.int x1]) (rest := []) X (c_X2_linesAlike l G tI tJ tZ ad hD x1 σ2 _ h) gX6_group_X2_linesAlike rfl ⟨rfl, rfl⟩ (by decide +kernel) ⟨Nat.le_of_ble_eq_true rfl, Nat.le_of_ble_eq_true rfl⟩ 1 rfl rfl rfl rfl rfl (Nat.le_of_ble_eq_true rfl) dX6_group_19 (fun r4 σ5 h => ?_)
    exact wm_iret X hr h dX6_group_22
  · replace h := h.2 c3
    refine wm_bipush (v := (-101)) X (by decide) dX6_group_11 ?_
    exact wm_iret X hr h dX6_group_13
/-! X3_empty_11 -/
abbrev rm_X3_empty_11 : Room := { frames := 0, cells := 0, slots := 0, locals := 0 }
def wp_X3_empty_11 (σ : St) (post : St → Prop) : Prop :=
  ∀ σ1 : St, σ1 = sI σ 14 0 → post σ1
set_option maxRecDepth 100000 in
set_option maxHeartbeats 4000000 in
theorem c_X3_empty_11 (l : Launch) (G : va_G) (tI tJ tZ : ClassId) (ad : Nat → Nat) (hD : ∀ σ, va_D (Ad 22 ad) (wdC tI tJ tZ ad σ))  (σ : St) (post : St → Prop) (h : wp_X3_empty_11  σ post) : Ct l yX3_empty wsX3_empty rm_X3_empty_11 G (tyL tI tJ tZ) (wdC tI tJ tZ ad) (Ad 22 ad) [.ref (ad 11)] σ (Qv G (wdC tI tJ tZ ad) (Ad 22 ad) post) := by
  refine wm_entry (cc := cX3_empty) (maxL := 1) (ret := none) (own := RX3) (lv := [(0, .ref (ad 11))]) (by decide +kernel) rfl rfl (Nat.le_of_ble_eq_true rfl) rfl hD ?_
  intro p e s m below meth c X hr
  unfold wp_X3_empty_11 at h
  refine wm_aload_n X 0 rfl dX3_empty_0 ?_
  refine wm_iconst (v := 0) X (by decide) dX3_empty_1 ?_
  refine wm_put (σ' := sI σ 14 0) X (by decide +kernel) tyX3 tyX3_ok nmX3 11 rfl rfl 1 (by decide) (by decide +kernel) rfl (tyX3_ok 1 (by decide)) rfl rfl (Nat.le_of_ble_eq_true rfl) rfl dX3_empty_2 ?_
  refine wm_nmS (fun σ1 e2 => ?_)
  replace h := h σ1 e2
  clear e2
  exact wm_vret X hr h dX3_empty_5
/-! X3_empty_13 -/
abbrev rm_X3_empty_13 : Room := { frames := 0, cells := 0, slots := 0, locals := 0 }
def wp_X3_empty_13 (σ : St) (post : St → Prop) : Prop :=
  ∀ σ1 : St, σ1 = sI σ 15 0 → post σ1
set_option maxRecDepth 100000 in
set_option maxHeartbeats 4000000 in
theorem c_X3_empty_13 (l : Launch) (G : va_G) (tI tJ tZ : ClassId) (ad : Nat → Nat) (hD : ∀ σ, va_D (Ad 22 ad) (wdC tI tJ tZ ad σ))  (σ : St) (post : St → Prop) (h : wp_X3_empty_13  σ post) : Ct l yX3_empty wsX3_empty rm_X3_empty_13 G (tyL tI tJ tZ) (wdC tI tJ tZ ad) (Ad 22 ad) [.ref (ad 13)] σ (Qv G (wdC tI tJ tZ ad) (Ad 22 ad) post) := by
  refine wm_entry (cc := cX3_empty) (maxL := 1) (ret := none) (own := RX3) (lv := [(0, .ref (ad 13))]) (by decide +kernel) rfl rfl (Nat.le_of_ble_eq_true rfl) rfl hD ?_
  intro p e s m below meth c X hr
  unfold wp_X3_empty_13 at h
  refine wm_aload_n X 0 rfl dX3_empty_0 ?_
  refine wm_iconst (v := 0) X (by decide) dX3_empty_1 ?_
  refine wm_put (σ' := sI σ 15 0) X (by decide +kernel) tyX3 tyX3_ok nmX3 13 rfl rfl 1 (by decide) (by decide +kernel) rfl (tyX3_ok 1 (by decide)) rfl rfl (Nat.le_of_ble_eq_true rfl) rfl dX3_empty_2 ?_
  refine wm_nmS (fun σ1 e2 => ?_)
  replace h := h σ1 e2
  clear e2
  exact wm_vret X hr h dX3_empty_5
/-! X1_breaksAllClashes -/
abbrev rm_X1_breaksAllClashes : Room := { frames := 0, cells := 0, slots := 0, locals := 0 }
def lp_X1_breaksAllClashes_2 (post : Int32 → St → Prop)  : Nat → Int32 → Int32 → St → Prop
  | 0, _, _, _ => False
  | n + 1, x1, x2, σ =>
  ((gI σ 15) ≤ x2 → post 1 σ) ∧ (¬ (gI σ 15) ≤ x2 → vp_in x2 252 ∧ ((¬ ((gA σ 7 (Int32.toNatClampNeg x2)) &&& x1) = 0 → ∀ v3 : Int32, v3 = x2 + 1 → lp_X1_breaksAllClashes_2 post n x1 v3 σ) ∧ (((gA σ 7 (Int32.toNatClampNeg x2)) &&& x1) = 0 → post 0 σ)))
def wp_X1_breaksAllClashes (x1 : Int32) (σ : St) (post : Int32 → St → Prop) : Prop :=
  ∃ fu : Nat, lp_X1_breaksAllClashes_2 post fu x1 0 σ
set_option maxRecDepth 100000 in
set_option maxHeartbeats 4000000 in
theorem w_X1_breaksAllClashes_2 {p : Program} {l : Launch} {e : Env} {s : State} {m : MethodId} {args : Array Value} {below : List Frame} {meth : Method} {c : Code} {G : va_G} {tI tJ tZ : ClassId} {ad : Nat → Nat} (hD : ∀ σ, va_D (Ad 22 ad) (wdC tI tJ tZ ad σ)) (X : Cx p s m args meth c cX1_breaksAllClashes 3 RX1 wsX1_breaksAllClashes G (tyL tI tJ tZ) (wdC tI tJ tZ ad) (Ad 22 ad)) (hr : meth.sig.returnType = (some .boolean)) {post : Int32 → St → Prop}  : ∀ (n : Nat) (x1 : Int32) (x2 : Int32) (σ : St), lp_X1_breaksAllClashes_2 post n x1 x2 σ → wm p l e rm_X1_breaksAllClashes s m args below meth c G (wdC tI tJ tZ ad) (Ad 22 ad) 3 (MQ below (Qi G (wdC tI tJ tZ ad) (Ad 22 ad) post) args s 0 0 (Ad 22 ad)) σ [(0, .ref (ad 10)), (1, .int x1), (2, .int x2)] 2 [] := by
  intro n
  induction n with
  | zero => intro x1 x2 σ h; exact h.elim
  | succ n ih =>
    intro x1 x2 σ h
    unfold lp_X1_breaksAllClashes_2 at h
    refine wm_iload_n X 2 rfl dX1_breaksAllClashes_2 ?_
    refine wm_aload_n X 0 rfl dX1_breaksAllClashes_3 ?_
    refine wm_get X (by decide +kernel) 10 rfl rfl 1 (by decide) (by decide +kernel) rfl dX1_breaksAllClashes_4 ?_
    refine wm_get X (by decide +kernel) 13 rfl rfl 1 (by decide) (by decide +kernel) rfl dX1_breaksAllClashes_7 ?_
    refine wm_icmp_ge (tgt := 35) X (by decide) dX1_breaksAllClashes_10 (fun c1 => ?_) (fun c1 => ?_)
    · replace h := h.1 c1
      refine wm_iconst (v := 1) X (by decide) dX1_breaksAllClashes_35 ?_
      exact wm_zret X hr bz_1 h dX1_breaksAllClashes_36
    · replace h := h.2 c1
      refine wm_aload_n X 0 rfl dX1_breaksAllClashes_13 ?_
      refine wm_get X (by decide +kernel) 10 rfl rfl 1 (by decide) (by decide +kernel) rfl dX1_breaksAllClashes_14 ?_
      refine wm_get X (by decide +kernel) 13 rfl rfl 0 (by decide) (by decide +kernel) rfl dX1_breaksAllClashes_17 ?_
      refine wm_iload_n X 2 rfl dX1_breaksAllClashes_20 ?_
      refine wm_iald X 14 0 rfl rfl h.1 dX1_breaksAllClashes_21 ?_
      replace h := h.2
      refine wm_iload_n X 1 rfl dX1_breaksAllClashes_22 ?_
      refine wm_iand X dX1_breaksAllClashes_23 ?_
      refine wm_if_ne (tgt := 29) X (by decide) dX1_breaksAllClashes_24 (fun c2 => ?_) (fun c2 => ?_)
      · replace h := h.1 c2
        obtain ⟨v3, e4⟩ : ∃ y : Int32, y = x2 + 1 := ⟨_, rfl⟩
        replace h := h v3 e4
        refine wm_iinc (v := v3) (lv' := [(2, .int v3), (0, .ref (ad 10)), (1, .int x1)]) X 2 rfl (by rw [e4]; rfl) (by decide) rfl dX1_breaksAllClashes_29 ?_
        clear e4
        refine wm_goto (tgt := 2) X (by decide) dX1_breaksAllClashes_32 ?_
        refine wm_sub [1, 2, 0] (lv' := [(0, .ref (ad 10)), (1, .int x1), (2, .int v3)]) rfl ?_
        exact ih x1 v3 σ h
      · replace h := h.2 c2
        refine wm_iconst (v := 0) X (by decide) dX1_breaksAllClashes_27 ?_
        exact wm_zret X hr bz_0 h dX1_breaksAllClashes_28
set_option maxRecDepth 100000 in
set_option maxHeartbeats 4000000 in
theorem c_X1_breaksAllClashes (l : Launch) (G : va_G) (tI tJ tZ : ClassId) (ad : Nat → Nat) (hD : ∀ σ, va_D (Ad 22 ad) (wdC tI tJ tZ ad σ)) (x1 : Int32) (σ : St) (post : Int32 → St → Prop) (h : wp_X1_breaksAllClashes x1 σ post) : Ct l yX1_breaksAllClashes wsX1_breaksAllClashes rm_X1_breaksAllClashes G (tyL tI tJ tZ) (wdC tI tJ tZ ad) (Ad 22 ad) [.ref (ad 10), .int x1] σ (Qi G (wdC tI tJ tZ ad) (Ad 22 ad) post) := by
  refine wm_entry (cc := cX1_breaksAllClashes) (maxL := 3) (ret := (some .boolean)) (own := RX1) (lv := [(0, .ref (ad 10)), (1, .int x1)]) (by decide +kernel) rfl rfl (Nat.le_of_ble_eq_true rfl) rfl hD ?_
  intro p e s m below meth c X hr
  unfold wp_X1_breaksAllClashes at h
  refine wm_iconst (v := 0) X (by decide) dX1_breaksAllClashes_0 ?_
  refine wm_istore_n (lv' := [(2, .int 0), (0, .ref (ad 10)), (1, .int x1)]) X rfl (by decide) rfl dX1_breaksAllClashes_1 ?_
  refine wm_sub [1, 2, 0] (lv' := [(0, .ref (ad 10)), (1, .int x1), (2, .int 0)]) rfl ?_
  obtain ⟨n0, h⟩ := h
  exact w_X1_breaksAllClashes_2 hD X hr n0 x1 0 σ h
/-! X1_leastClash -/
abbrev rm_X1_leastClash : Room := { frames := 4, cells := 0, slots := 0, locals := 101 }
def lp_X1_leastClash_5 (post : Int32 → St → Prop)  : Nat → Int32 → Int32 → St → Prop
  | 0, _, _, _ => False
  | n + 1, x3, x4, σ =>
  ((gI σ 1) ≤ x4 → post x3 σ) ∧ (¬ (gI σ 1) ≤ x4 → wp_X6_withBit x3 x4 0 σ (fun r2 σ3 => (r2 = x3 → ∀ v5 : Int32, v5 = x4 + 1 → lp_X1_leastClash_5 post n x3 v5 σ3) ∧ (¬ r2 = x3 → wp_X0_solve r2 σ3 (fun r7 σ8 => (¬ r7 = 0 → ∀ v10 : Int32, v10 = x4 + 1 → lp_X1_leastClash_5 post n x3 v10 σ8) ∧ (r7 = 0 → ∀ v12 : Int32, v12 = gI σ8 12 → ∀ v14 : Int32, v14 = x4 + 1 → lp_X1_leastClash_5 post n v12 v14 σ8)))))
def wp_X1_leastClash (x0 : Int32) (σ : St) (post : Int32 → St → Prop) : Prop :=
  ∃ fu : Nat, lp_X1_leastClash_5 post fu x0 0 σ
set_option maxRecDepth 100000 in
set_option maxHeartbeats 4000000 in
theorem w_X1_leastClash_5 {p : Program} {l : Launch} {e : Env} {s : State} {m : MethodId} {args : Array Value} {below : List Frame} {meth : Method} {c : Code} {G : va_G} {tI tJ tZ : ClassId} {ad : Nat → Nat} (hD : ∀ σ, va_D (Ad 22 ad) (wdC tI tJ tZ ad σ)) (X : Cx p s m args meth c cX1_leastClash 6 RX1 wsX1_leastClash G (tyL tI tJ tZ) (wdC tI tJ tZ ad) (Ad 22 ad)) (hr : meth.sig.returnType = (some .int)) {post : Int32 → St → Prop}  : ∀ (n : Nat) (x3 : Int32) (x4 : Int32) (σ : St), lp_X1_leastClash_5 post n x3 x4 σ → wm p l e rm_X1_leastClash s m args below meth c G (wdC tI tJ tZ ad) (Ad 22 ad) 6 (MQ below (Qi G (wdC tI tJ tZ ad) (Ad 22 ad) post) args s 0 0 (Ad 22 ad)) σ [(1, .ref (ad 1)), (2, .ref (ad 5)), (3, .int x3), (4, .int x4)] 5 [] := by
  intro n
  induction n with
  | zero => intro x3 x4 σ h; exact h.elim
  | succ n ih =>
    intro x3 x4 σ h
    unfold lp_X1_leastClash_5 at h
    refine wm_iload X 3 rfl dX1_leastClash_5 ?_
    refine wm_aload_n X 0 rfl dX1_leastClash_7 ?_
    refine wm_get X (by decide +kernel) 1 rfl rfl 4 (by decide) (by decide +kernel) rfl dX1_leastClash_8 ?_
    refine wm_icmp_ge (tgt := 50) X (by decide) dX1_leastClash_11 (fun c1 => ?_) (fun c1 => ?_)
    · replace h := h.1 c1
      refine wm_iload_n X 2 rfl dX1_leastClash_50 ?_
      exact wm_iret X hr h dX1_leastClash_51
    · replace h := h.2 c1
      refine wm_iload_n X 2 rfl dX1_leastClash_14 ?_
      refine wm_iload X 3 rfl dX1_leastClash_15 ?_
      refine wm_iconst (v := 0) X (by decide) dX1_leastClash_17 ?_
      refine wm_callNi (n := 3) (As := [.int x3, .int x4, .int 0]) (rest := []) X (c_X6_withBit l G tI tJ tZ ad hD x3 x4 0 σ _ h) gX1_leastClash_X6_withBit_n73 rfl ⟨rfl, rfl⟩ (List.mem_of_getElem? (i := 11) rfl) (by decide +kernel) (by decide +kernel) (by decide +kernel) ⟨Nat.le_of_ble_eq_true rfl, Nat.le_of_ble_eq_true rfl⟩ rfl rfl (Nat.le_of_ble_eq_true rfl) dX1_leastClash_18 (fun r2 σ3 h => ?_)
      refine wm_istore (lv' := [(5, .int r2), (1, .ref (ad 1)), (2, .ref (ad 5)), (3, .int x3), (4, .int x4)]) X (by decide) rfl dX1_leastClash_21 ?_
      refine wm_iload X 0 rfl dX1_leastClash_23 ?_
      refine wm_iload_n X 3 rfl dX1_leastClash_25 ?_
      refine wm_icmp_eq (tgt := 44) X (by decide) dX1_leastClash_26 (fun c4 => ?_) (fun c4 => ?_)
      · replace h := h.1 c4
        obtain ⟨v5, e6⟩ : ∃ y : Int32, y = x4 + 1 := ⟨_, rfl⟩
        replace h := h v5 e6
        refine wm_iinc (v := v5) (lv' := [(4, .int v5), (5, .int r2), (1, .ref (ad 1)), (2, .ref (ad 5)), (3, .int x3)]) X 4 rfl (by rw [e6]; rfl) (by decide) rfl dX1_leastClash_44 ?_
        clear e6
        refine wm_goto (tgt := 5) X (by decide) dX1_leastClash_47 ?_
        refine wm_sub [2, 3, 4, 0] (lv' := [(1, .ref (ad 1)), (2, .ref (ad 5)), (3, .int x3), (4, .int v5)]) rfl ?_
        exact ih x3 v5 σ3 h
      · replace h := h.2 c4
        refine wm_aload_n X 2 rfl dX1_leastClash_29 ?_
        refine wm_aload_n X 1 rfl dX1_leastClash_30 ?_
        refine wm_iload X 0 rfl dX1_leastClash_31 ?_
        refine wm_callVi (n := 2) (As := [.ref (ad 1), .int r2]) (rest := []) X (c_X0_solve l G tI tJ tZ ad hD r2 σ3 _ h) gX1_leastClash_X0_solve rfl ⟨rfl, rfl⟩ (by decide +kernel) ⟨Nat.le_of_ble_eq_true rfl, Nat.le_of_ble_eq_true rfl⟩ 5 rfl rfl rfl rfl rfl (Nat.le_of_ble_eq_true rfl) dX1_leastClash_33 (fun r7 σ8 h => ?_)
        refine wm_if_ne (tgt := 44) X (by decide) dX1_leastClash_36 (fun c9 => ?_) (fun c9 => ?_)
        · replace h := h.1 c9
          obtain ⟨v10, e11⟩ : ∃ y : Int32, y = x4 + 1 := ⟨_, rfl⟩
          replace h := h v10 e11
          refine wm_iinc (v := v10) (lv' := [(4, .int v10), (5, .int r2), (1, .ref (ad 1)), (2, .ref (ad 5)), (3, .int x3)]) X 4 rfl (by rw [e11]; rfl) (by decide) rfl dX1_leastClash_44 ?_
          clear e11
          refine wm_goto (tgt := 5) X (by decide) dX1_leastClash_47 ?_
          refine wm_sub [2, 3, 4, 0] (lv' := [(1, .ref (ad 1)), (2, .ref (ad 5)), (3, .int x3), (4, .int v10)]) rfl ?_
          exact ih x3 v10 σ8 h
        · replace h := h.2 c9
          refine wm_aload_n X 2 rfl dX1_leastClash_39 ?_
          refine wm_get X (by decide +kernel) 5 rfl rfl 12 (by decide) (by decide +kernel) rfl dX1_leastClash_40 ?_
          refine wm_nmI (fun v12 e13 => ?_)
          replace h := h v12 e13
          clear e13
          refine wm_istore_n (lv' := [(3, .int v12), (5, .int r2), (1, .ref (ad 1)), (2, .ref (ad 5)), (4, .int x4)]) X rfl (by decide) rfl dX1_leastClash_43 ?_
          obtain ⟨v14, e15⟩ : ∃ y : Int32, y = x4 + 1 := ⟨_, rfl⟩
          replace h := h v14 e15
          refine wm_iinc (v := v14) (lv' := [(4, .int v14), (3, .int v12), (5, .int r2), (1, .ref (ad 1)), (2, .ref (ad 5))]) X 4 rfl (by rw [e15]; rfl) (by decide) rfl dX1_leastClash_44 ?_
          clear e15
          refine wm_goto (tgt := 5) X (by decide) dX1_leastClash_47 ?_
          refine wm_sub [3, 4, 1, 0] (lv' := [(1, .ref (ad 1)), (2, .ref (ad 5)), (3, .int v12), (4, .int v14)]) rfl ?_
          exact ih v12 v14 σ8 h
set_option maxRecDepth 100000 in
set_option maxHeartbeats 4000000 in
theorem c_X1_leastClash (l : Launch) (G : va_G) (tI tJ tZ : ClassId) (ad : Nat → Nat) (hD : ∀ σ, va_D (Ad 22 ad) (wdC tI tJ tZ ad σ)) (x0 : Int32) (σ : St) (post : Int32 → St → Prop) (h : wp_X1_leastClash x0 σ post) : Ct l yX1_leastClash wsX1_leastClash rm_X1_leastClash G (tyL tI tJ tZ) (wdC tI tJ tZ ad) (Ad 22 ad) [.int x0, .ref (ad 1), .ref (ad 5)] σ (Qi G (wdC tI tJ tZ ad) (Ad 22 ad) post) := by
  refine wm_entry (cc := cX1_leastClash) (maxL := 6) (ret := (some .int)) (own := RX1) (lv := [(0, .int x0), (1, .ref (ad 1)), (2, .ref (ad 5))]) (by decide +kernel) rfl rfl (Nat.le_of_ble_eq_true rfl) rfl hD ?_
  intro p e s m below meth c X hr
  unfold wp_X1_leastClash at h
  refine wm_iload_n X 0 rfl dX1_leastClash_0 ?_
  refine wm_istore_n (lv' := [(3, .int x0), (0, .int x0), (1, .ref (ad 1)), (2, .ref (ad 5))]) X rfl (by decide) rfl dX1_leastClash_1 ?_
  refine wm_iconst (v := 0) X (by decide) dX1_leastClash_2 ?_
  refine wm_istore (lv' := [(4, .int 0), (3, .int x0), (0, .int x0), (1, .ref (ad 1)), (2, .ref (ad 5))]) X (by decide) rfl dX1_leastClash_3 ?_
  refine wm_sub [3, 4, 1, 0] (lv' := [(1, .ref (ad 1)), (2, .ref (ad 5)), (3, .int x0), (4, .int 0)]) rfl ?_
  obtain ⟨n0, h⟩ := h
  exact w_X1_leastClash_5 hD X hr n0 x0 0 σ h
/-! X3_add_13 -/
abbrev rm_X3_add_13 : Room := { frames := 0, cells := 0, slots := 0, locals := 0 }
def wp_X3_add_13 (x1 : Int32) (σ : St) (post : St → Prop) : Prop :=
  (252 ≤ (gI σ 15) → post σ) ∧ (¬ 252 ≤ (gI σ 15) → vp_in (gI σ 15) 252 ∧ (∀ σ2 : St, σ2 = sA σ 7 (Int32.toNatClampNeg (gI σ 15)) x1 → ∀ σ4 : St, σ4 = sI σ2 15 ((gI σ2 15) + 1) → post σ4))
set_option maxRecDepth 100000 in
set_option maxHeartbeats 4000000 in
theorem c_X3_add_13 (l : Launch) (G : va_G) (tI tJ tZ : ClassId) (ad : Nat → Nat) (hD : ∀ σ, va_D (Ad 22 ad) (wdC tI tJ tZ ad σ)) (x1 : Int32) (σ : St) (post : St → Prop) (h : wp_X3_add_13 x1 σ post) : Ct l yX3_add wsX3_add rm_X3_add_13 G (tyL tI tJ tZ) (wdC tI tJ tZ ad) (Ad 22 ad) [.ref (ad 13), .int x1] σ (Qv G (wdC tI tJ tZ ad) (Ad 22 ad) post) := by
  refine wm_entry (cc := cX3_add) (maxL := 2) (ret := none) (own := RX3) (lv := [(0, .ref (ad 13)), (1, .int x1)]) (by decide +kernel) rfl rfl (Nat.le_of_ble_eq_true rfl) rfl hD ?_
  intro p e s m below meth c X hr
  unfold wp_X3_add_13 at h
  refine wm_aload_n X 0 rfl dX3_add_0 ?_
  refine wm_get X (by decide +kernel) 13 rfl rfl 1 (by decide) (by decide +kernel) rfl dX3_add_1 ?_
  refine wm_sipush (v := 252) X (by decide) dX3_add_4 ?_
  refine wm_icmp_ge (tgt := 30) X (by decide) dX3_add_7 (fun c1 => ?_) (fun c1 => ?_)
  · replace h := h.1 c1
    exact wm_vret X hr h dX3_add_30
  · replace h := h.2 c1
    refine wm_aload_n X 0 rfl dX3_add_10 ?_
    refine wm_get X (by decide +kernel) 13 rfl rfl 0 (by decide) (by decide +kernel) rfl dX3_add_11 ?_
    refine wm_aload_n X 0 rfl dX3_add_14 ?_
    refine wm_get X (by decide +kernel) 13 rfl rfl 1 (by decide) (by decide +kernel) rfl dX3_add_15 ?_
    refine wm_iload_n X 1 rfl dX3_add_18 ?_
    refine wm_iast (σ' := sA σ 7 (Int32.toNatClampNeg (gI σ 15)) x1) X 14 0 rfl rfl h.1 rfl dX3_add_19 ?_
    replace h := h.2
    refine wm_nmS (fun σ2 e3 => ?_)
    replace h := h σ2 e3
    clear e3
    refine wm_aload_n X 0 rfl dX3_add_20 ?_
    refine wm_dup X rfl dX3_add_21 ?_
    refine wm_get X (by decide +kernel) 13 rfl rfl 1 (by decide) (by decide +kernel) rfl dX3_add_22 ?_
    refine wm_iconst (v := 1) X (by decide) dX3_add_25 ?_
    refine wm_iadd X dX3_add_26 ?_
    refine wm_put (σ' := sI σ2 15 ((gI σ2 15) + 1)) X (by decide +kernel) tyX3 tyX3_ok nmX3 13 rfl rfl 1 (by decide) (by decide +kernel) rfl (tyX3_ok 1 (by decide)) rfl rfl (Nat.le_of_ble_eq_true rfl) rfl dX3_add_27 ?_
    refine wm_nmS (fun σ4 e5 => ?_)
    replace h := h σ4 e5
    clear e5
    exact wm_vret X hr h dX3_add_30
/-! X3_add_11 -/
abbrev rm_X3_add_11 : Room := { frames := 0, cells := 0, slots := 0, locals := 0 }
def wp_X3_add_11 (x1 : Int32) (σ : St) (post : St → Prop) : Prop :=
  (252 ≤ (gI σ 14) → post σ) ∧ (¬ 252 ≤ (gI σ 14) → vp_in (gI σ 14) 252 ∧ (∀ σ2 : St, σ2 = sA σ 6 (Int32.toNatClampNeg (gI σ 14)) x1 → ∀ σ4 : St, σ4 = sI σ2 14 ((gI σ2 14) + 1) → post σ4))
set_option maxRecDepth 100000 in
set_option maxHeartbeats 4000000 in
theorem c_X3_add_11 (l : Launch) (G : va_G) (tI tJ tZ : ClassId) (ad : Nat → Nat) (hD : ∀ σ, va_D (Ad 22 ad) (wdC tI tJ tZ ad σ)) (x1 : Int32) (σ : St) (post : St → Prop) (h : wp_X3_add_11 x1 σ post) : Ct l yX3_add wsX3_add rm_X3_add_11 G (tyL tI tJ tZ) (wdC tI tJ tZ ad) (Ad 22 ad) [.ref (ad 11), .int x1] σ (Qv G (wdC tI tJ tZ ad) (Ad 22 ad) post) := by
  refine wm_entry (cc := cX3_add) (maxL := 2) (ret := none) (own := RX3) (lv := [(0, .ref (ad 11)), (1, .int x1)]) (by decide +kernel) rfl rfl (Nat.le_of_ble_eq_true rfl) rfl hD ?_
  intro p e s m below meth c X hr
  unfold wp_X3_add_11 at h
  refine wm_aload_n X 0 rfl dX3_add_0 ?_
  refine wm_get X (by decide +kernel) 11 rfl rfl 1 (by decide) (by decide +kernel) rfl dX3_add_1 ?_
  refine wm_sipush (v := 252) X (by decide) dX3_add_4 ?_
  refine wm_icmp_ge (tgt := 30) X (by decide) dX3_add_7 (fun c1 => ?_) (fun c1 => ?_)
  · replace h := h.1 c1
    exact wm_vret X hr h dX3_add_30
  · replace h := h.2 c1
    refine wm_aload_n X 0 rfl dX3_add_10 ?_
    refine wm_get X (by decide +kernel) 11 rfl rfl 0 (by decide) (by decide +kernel) rfl dX3_add_11 ?_
    refine wm_aload_n X 0 rfl dX3_add_14 ?_
    refine wm_get X (by decide +kernel) 11 rfl rfl 1 (by decide) (by decide +kernel) rfl dX3_add_15 ?_
    refine wm_iload_n X 1 rfl dX3_add_18 ?_
    refine wm_iast (σ' := sA σ 6 (Int32.toNatClampNeg (gI σ 14)) x1) X 12 0 rfl rfl h.1 rfl dX3_add_19 ?_
    replace h := h.2
    refine wm_nmS (fun σ2 e3 => ?_)
    replace h := h σ2 e3
    clear e3
    refine wm_aload_n X 0 rfl dX3_add_20 ?_
    refine wm_dup X rfl dX3_add_21 ?_
    refine wm_get X (by decide +kernel) 11 rfl rfl 1 (by decide) (by decide +kernel) rfl dX3_add_22 ?_
    refine wm_iconst (v := 1) X (by decide) dX3_add_25 ?_
    refine wm_iadd X dX3_add_26 ?_
    refine wm_put (σ' := sI σ2 14 ((gI σ2 14) + 1)) X (by decide +kernel) tyX3 tyX3_ok nmX3 11 rfl rfl 1 (by decide) (by decide +kernel) rfl (tyX3_ok 1 (by decide)) rfl rfl (Nat.le_of_ble_eq_true rfl) rfl dX3_add_27 ?_
    refine wm_nmS (fun σ4 e5 => ?_)
    replace h := h σ4 e5
    clear e5
    exact wm_vret X hr h dX3_add_30
/-! X1_findOfSize -/
abbrev rm_X1_findOfSize : Room := { frames := 5, cells := 0, slots := 0, locals := 126 }
def jn_X1_findOfSize_38 (post : St → Prop) (K3 : Int32 → Int32 → St → Prop) (x1 : Int32) (x4 : Int32) (s0 : Int32) (σ : St) : Prop :=
  (s0 = 0 → ∀ v2 : Int32, v2 = x4 + 1 → K3 x1 v2 σ) ∧ (¬ s0 = 0 → wp_X1_breaksAllClashes x4 σ (fun r4 σ5 => (¬ r4 = 0 → wp_X0_solve ((gI σ5 3) &&& (x4 ^^^ (-1))) σ5 (fun r7 σ8 => (r7 = 0 → wp_X1_leastClash (gI σ8 12) σ8 (fun r10 σ11 => wp_X3_add_13 r10 σ11 (fun σ13 => ∀ v14 : Int32, v14 = x4 + 1 → K3 x1 v14 σ13))) ∧ (¬ r7 = 0 → wp_X3_add_11 x4 σ8 (fun σ17 => ∀ v18 : Int32, v18 = x4 + 1 → K3 x1 v18 σ17)))) ∧ (r4 = 0 → ∀ v20 : Int32, v20 = x4 + 1 → K3 x1 v20 σ5)))
def jn_X1_findOfSize_37 (post : St → Prop) (K3 : Int32 → Int32 → St → Prop) (x1 : Int32) (x4 : Int32) (σ : St) : Prop :=
  jn_X1_findOfSize_38 post K3 x1 x4 0 σ
def lp_X1_findOfSize_3 (post : St → Prop)  : Nat → Int32 → Int32 → St → Prop
  | 0, _, _, _ => False
  | n + 1, x1, x4, σ =>
  ((gI σ 3) < x4 → post σ) ∧ (¬ (gI σ 3) < x4 → (¬ (x4 &&& ((gI σ 3) ^^^ (-1))) = 0 → jn_X1_findOfSize_37 post (lp_X1_findOfSize_3 post n) x1 x4 σ) ∧ ((x4 &&& ((gI σ 3) ^^^ (-1))) = 0 → wp_J6_bitCount_0f7a4 x4 σ (fun r3 σ4 => (¬ r3 = x1 → jn_X1_findOfSize_37 post (lp_X1_findOfSize_3 post n) x1 x4 σ4) ∧ (r3 = x1 → jn_X1_findOfSize_38 post (lp_X1_findOfSize_3 post n) x1 x4 1 σ4))))
def wp_X1_findOfSize (x1 : Int32) (σ : St) (post : St → Prop) : Prop :=
  ∃ fu : Nat, lp_X1_findOfSize_3 post fu x1 0 σ
set_option maxRecDepth 100000 in
set_option maxHeartbeats 4000000 in
theorem w_X1_findOfSize_38 {p : Program} {l : Launch} {e : Env} {s : State} {m : MethodId} {args : Array Value} {below : List Frame} {meth : Method} {c : Code} {G : va_G} {tI tJ tZ : ClassId} {ad : Nat → Nat} (hD : ∀ σ, va_D (Ad 22 ad) (wdC tI tJ tZ ad σ)) (X : Cx p s m args meth c cX1_findOfSize 6 RX1 wsX1_findOfSize G (tyL tI tJ tZ) (wdC tI tJ tZ ad) (Ad 22 ad)) (hr : meth.sig.returnType = none) {post : St → Prop} {K3 : Int32 → Int32 → St → Prop} (hK3 : ∀ (x1 : Int32) (x4 : Int32) (σ : St), K3 x1 x4 σ → wm p l e rm_X1_findOfSize s m args below meth c G (wdC tI tJ tZ ad) (Ad 22 ad) 6 (MQ below (Qv G (wdC tI tJ tZ ad) (Ad 22 ad) post) args s 0 0 (Ad 22 ad)) σ [(0, .ref (ad 10)), (1, .int x1), (2, .ref (ad 1)), (3, .ref (ad 5)), (4, .int x4)] 3 []) (x1 : Int32) (x4 : Int32) (s0 : Int32) (σ : St) (h : jn_X1_findOfSize_38 post K3 x1 x4 s0 σ) : wm p l e rm_X1_findOfSize s m args below meth c G (wdC tI tJ tZ ad) (Ad 22 ad) 6 (MQ below (Qv G (wdC tI tJ tZ ad) (Ad 22 ad) post) args s 0 0 (Ad 22 ad)) σ [(0, .ref (ad 10)), (1, .int x1), (2, .ref (ad 1)), (3, .ref (ad 5)), (4, .int x4)] 38 [.int s0] := by
  unfold jn_X1_findOfSize_38 at h
  refine wm_istore (lv' := [(5, .int s0), (0, .ref (ad 10)), (1, .int x1), (2, .ref (ad 1)), (3, .ref (ad 5)), (4, .int x4)]) X (by decide) rfl dX1_findOfSize_38 ?_
  refine wm_iload X 0 rfl dX1_findOfSize_40 ?_
  refine wm_if_eq (tgt := 102) X (by decide) dX1_findOfSize_42 (fun c1 => ?_) (fun c1 => ?_)
  · replace h := h.1 c1
    obtain ⟨v2, e3⟩ : ∃ y : Int32, y = x4 + 1 := ⟨_, rfl⟩
    replace h := h v2 e3
    refine wm_iinc (v := v2) (lv' := [(4, .int v2), (5, .int s0), (0, .ref (ad 10)), (1, .int x1), (2, .ref (ad 1)), (3, .ref (ad 5))]) X 5 rfl (by rw [e3]; rfl) (by decide) rfl dX1_findOfSize_102 ?_
    clear e3
    refine wm_goto (tgt := 3) X (by decide) dX1_findOfSize_105 ?_
    refine wm_sub [2, 3, 4, 5, 0] (lv' := [(0, .ref (ad 10)), (1, .int x1), (2, .ref (ad 1)), (3, .ref (ad 5)), (4, .int v2)]) rfl ?_
    exact hK3 x1 v2 σ h
  · replace h := h.2 c1
    refine wm_aload_n X 1 rfl dX1_findOfSize_45 ?_
    refine wm_iload X 5 rfl dX1_findOfSize_46 ?_
    refine wm_callVi (n := 1) (As := [.int x4]) (rest := []) X (c_X1_breaksAllClashes l G tI tJ tZ ad hD x4 σ _ h) gX1_findOfSize_X1_breaksAllClashes rfl ⟨rfl, rfl⟩ (by decide +kernel) ⟨Nat.le_of_ble_eq_true rfl, Nat.le_of_ble_eq_true rfl⟩ 10 rfl rfl rfl rfl rfl (Nat.le_of_ble_eq_true rfl) dX1_findOfSize_48 (fun r4 σ5 h => ?_)
    refine wm_if_ne (tgt := 57) X (by decide) dX1_findOfSize_51 (fun c6 => ?_) (fun c6 => ?_)
    · replace h := h.1 c6
      refine wm_aload_n X 4 rfl dX1_findOfSize_57 ?_
      refine wm_aload_n X 3 rfl dX1_findOfSize_58 ?_
      refine wm_aload_n X 3 rfl dX1_findOfSize_59 ?_
      refine wm_get X (by decide +kernel) 1 rfl rfl 6 (by decide) (by decide +kernel) rfl dX1_findOfSize_60 ?_
      refine wm_iload X 5 rfl dX1_findOfSize_63 ?_
      refine wm_iconst (v := (-1)) X (by decide) dX1_findOfSize_65 ?_
      refine wm_ixor X dX1_findOfSize_66 ?_
      refine wm_iand X dX1_findOfSize_67 ?_
      refine wm_callVi (n := 2) (As := [.ref (ad 1), .int ((gI σ5 3) &&& (x4 ^^^ (-1)))]) (rest := []) X (c_X0_solve l G tI tJ tZ ad hD ((gI σ5 3) &&& (x4 ^^^ (-1))) σ5 _ h) gX1_findOfSize_X0_solve rfl ⟨rfl, rfl⟩ (by decide +kernel) ⟨Nat.le_of_ble_eq_true rfl, Nat.le_of_ble_eq_true rfl⟩ 5 rfl rfl rfl rfl rfl (Nat.le_of_ble_eq_true rfl) dX1_findOfSize_68 (fun r7 σ8 h => ?_)
      refine wm_if_eq (tgt := 86) X (by decide) dX1_findOfSize_71 (fun c9 => ?_) (fun c9 => ?_)
      · replace h := h.1 c9
        refine wm_aload_n X 1 rfl dX1_findOfSize_86 ?_
        refine wm_get X (by decide +kernel) 10 rfl rfl 1 (by decide) (by decide +kernel) rfl dX1_findOfSize_87 ?_
        refine wm_aload_n X 4 rfl dX1_findOfSize_90 ?_
        refine wm_get X (by decide +kernel) 5 rfl rfl 12 (by decide) (by decide +kernel) rfl dX1_findOfSize_91 ?_
        refine wm_aload_n X 3 rfl dX1_findOfSize_94 ?_
        refine wm_aload_n X 4 rfl dX1_findOfSize_95 ?_
        refine wm_callSi (n := 3) (As := [.int (gI σ8 12), .ref (ad 1), .ref (ad 5)]) (rest := [.ref (ad 13)]) X (c_X1_leastClash l G tI tJ tZ ad hD (gI σ8 12) σ8 _ h) gX1_findOfSize_X1_leastClash rfl ⟨rfl, rfl⟩ (by decide +kernel) ⟨Nat.le_of_ble_eq_true rfl, Nat.le_of_ble_eq_true rfl⟩ rfl rfl (Nat.le_of_ble_eq_true rfl) dX1_findOfSize_96 (fun r10 σ11 h => ?_)
        refine wm_callVv (n := 1) (As := [.int r10]) (rest := []) X (c_X3_add_13 l G tI tJ tZ ad hD r10 σ11 _ h) gX1_findOfSize_X3_add rfl ⟨rfl, rfl⟩ (by decide +kernel) ⟨Nat.le_of_ble_eq_true rfl, Nat.le_of_ble_eq_true rfl⟩ 13 rfl rfl rfl rfl rfl (Nat.le_of_ble_eq_true rfl) dX1_findOfSize_99 (fun σ13 h => ?_)
        obtain ⟨v14, e15⟩ : ∃ y : Int32, y = x4 + 1 := ⟨_, rfl⟩
        replace h := h v14 e15
        refine wm_iinc (v := v14) (lv' := [(4, .int v14), (5, .int s0), (0, .ref (ad 10)), (1, .int x1), (2, .ref (ad 1)), (3, .ref (ad 5))]) X 5 rfl (by rw [e15]; rfl) (by decide) rfl dX1_findOfSize_102 ?_
        clear e15
        refine wm_goto (tgt := 3) X (by decide) dX1_findOfSize_105 ?_
        refine wm_sub [2, 3, 4, 5, 0] (lv' := [(0, .ref (ad 10)), (1, .int x1), (2, .ref (ad 1)), (3, .ref (ad 5)), (4, .int v14)]) rfl ?_
        exact hK3 x1 v14 σ13 h
      · replace h := h.2 c9
        refine wm_aload_n X 1 rfl dX1_findOfSize_74 ?_
        refine wm_get X (by decide +kernel) 10 rfl rfl 0 (by decide) (by decide +kernel) rfl dX1_findOfSize_75 ?_
        refine wm_iload X 5 rfl dX1_findOfSize_78 ?_
        refine wm_callVv (n := 1) (As := [.int x4]) (rest := []) X (c_X3_add_11 l G tI tJ tZ ad hD x4 σ8 _ h) gX1_findOfSize_X3_add rfl ⟨rfl, rfl⟩ (by decide +kernel) ⟨Nat.le_of_ble_eq_true rfl, Nat.le_of_ble_eq_true rfl⟩ 11 rfl rfl rfl rfl rfl (Nat.le_of_ble_eq_true rfl) dX1_findOfSize_80 (fun σ17 h => ?_)
        refine wm_goto (tgt := 102) X (by decide) dX1_findOfSize_83 ?_
        obtain ⟨v18, e19⟩ : ∃ y : Int32, y = x4 + 1 := ⟨_, rfl⟩
        replace h := h v18 e19
        refine wm_iinc (v := v18) (lv' := [(4, .int v18), (5, .int s0), (0, .ref (ad 10)), (1, .int x1), (2, .ref (ad 1)), (3, .ref (ad 5))]) X 5 rfl (by rw [e19]; rfl) (by decide) rfl dX1_findOfSize_102 ?_
        clear e19
        refine wm_goto (tgt := 3) X (by decide) dX1_findOfSize_105 ?_
        refine wm_sub [2, 3, 4, 5, 0] (lv' := [(0, .ref (ad 10)), (1, .int x1), (2, .ref (ad 1)), (3, .ref (ad 5)), (4, .int v18)]) rfl ?_
        exact hK3 x1 v18 σ17 h
    · replace h := h.2 c6
      refine wm_goto (tgt := 102) X (by decide) dX1_findOfSize_54 ?_
      obtain ⟨v20, e21⟩ : ∃ y : Int32, y = x4 + 1 := ⟨_, rfl⟩
      replace h := h v20 e21
      refine wm_iinc (v := v20) (lv' := [(4, .int v20), (5, .int s0), (0, .ref (ad 10)), (1, .int x1), (2, .ref (ad 1)), (3, .ref (ad 5))]) X 5 rfl (by rw [e21]; rfl) (by decide) rfl dX1_findOfSize_102 ?_
      clear e21
      refine wm_goto (tgt := 3) X (by decide) dX1_findOfSize_105 ?_
      refine wm_sub [2, 3, 4, 5, 0] (lv' := [(0, .ref (ad 10)), (1, .int x1), (2, .ref (ad 1)), (3, .ref (ad 5)), (4, .int v20)]) rfl ?_
      exact hK3 x1 v20 σ5 h
set_option maxRecDepth 100000 in
set_option maxHeartbeats 4000000 in
theorem w_X1_findOfSize_37 {p : Program} {l : Launch} {e : Env} {s : State} {m : MethodId} {args : Array Value} {below : List Frame} {meth : Method} {c : Code} {G : va_G} {tI tJ tZ : ClassId} {ad : Nat → Nat} (hD : ∀ σ, va_D (Ad 22 ad) (wdC tI tJ tZ ad σ)) (X : Cx p s m args meth c cX1_findOfSize 6 RX1 wsX1_findOfSize G (tyL tI tJ tZ) (wdC tI tJ tZ ad) (Ad 22 ad)) (hr : meth.sig.returnType = none) {post : St → Prop} {K3 : Int32 → Int32 → St → Prop} (hK3 : ∀ (x1 : Int32) (x4 : Int32) (σ : St), K3 x1 x4 σ → wm p l e rm_X1_findOfSize s m args below meth c G (wdC tI tJ tZ ad) (Ad 22 ad) 6 (MQ below (Qv G (wdC tI tJ tZ ad) (Ad 22 ad) post) args s 0 0 (Ad 22 ad)) σ [(0, .ref (ad 10)), (1, .int x1), (2, .ref (ad 1)), (3, .ref (ad 5)), (4, .int x4)] 3 []) (x1 : Int32) (x4 : Int32) (σ : St) (h : jn_X1_findOfSize_37 post K3 x1 x4 σ) : wm p l e rm_X1_findOfSize s m args below meth c G (wdC tI tJ tZ ad) (Ad 22 ad) 6 (MQ below (Qv G (wdC tI tJ tZ ad) (Ad 22 ad) post) args s 0 0 (Ad 22 ad)) σ [(0, .ref (ad 10)), (1, .int x1), (2, .ref (ad 1)), (3, .ref (ad 5)), (4, .int x4)] 37 [] := by
  unfold jn_X1_findOfSize_37 at h
  refine wm_iconst (v := 0) X (by decide) dX1_findOfSize_37 ?_
  exact w_X1_findOfSize_38 hD X hr hK3 x1 x4 0 σ h
set_option maxRecDepth 100000 in
set_option maxHeartbeats 4000000 in
theorem w_X1_findOfSize_3 {p : Program} {l : Launch} {e : Env} {s : State} {m : MethodId} {args : Array Value} {below : List Frame} {meth : Method} {c : Code} {G : va_G} {tI tJ tZ : ClassId} {ad : Nat → Nat} (hD : ∀ σ, va_D (Ad 22 ad) (wdC tI tJ tZ ad σ)) (X : Cx p s m args meth c cX1_findOfSize 6 RX1 wsX1_findOfSize G (tyL tI tJ tZ) (wdC tI tJ tZ ad) (Ad 22 ad)) (hr : meth.sig.returnType = none) {post : St → Prop}  : ∀ (n : Nat) (x1 : Int32) (x4 : Int32) (σ : St), lp_X1_findOfSize_3 post n x1 x4 σ → wm p l e rm_X1_findOfSize s m args below meth c G (wdC tI tJ tZ ad) (Ad 22 ad) 6 (MQ below (Qv G (wdC tI tJ tZ ad) (Ad 22 ad) post) args s 0 0 (Ad 22 ad)) σ [(0, .ref (ad 10)), (1, .int x1), (2, .ref (ad 1)), (3, .ref (ad 5)), (4, .int x4)] 3 [] := by
  intro n
  induction n with
  | zero => intro x1 x4 σ h; exact h.elim
  | succ n ih =>
    intro x1 x4 σ h
    unfold lp_X1_findOfSize_3 at h
    refine wm_iload X 4 rfl dX1_findOfSize_3 ?_
    refine wm_aload_n X 2 rfl dX1_findOfSize_5 ?_
    refine wm_get X (by decide +kernel) 1 rfl rfl 6 (by decide) (by decide +kernel) rfl dX1_findOfSize_6 ?_
    refine wm_icmp_gt (tgt := 108) X (by decide) dX1_findOfSize_9 (fun c1 => ?_) (fun c1 => ?_)
    · replace h := h.1 c1
      exact wm_vret X hr h dX1_findOfSize_108
    · replace h := h.2 c1
      refine wm_iload X 4 rfl dX1_findOfSize_12 ?_
      refine wm_aload_n X 2 rfl dX1_findOfSize_14 ?_
      refine wm_get X (by decide +kernel) 1 rfl rfl 6 (by decide) (by decide +kernel) rfl dX1_findOfSize_15 ?_
      refine wm_iconst (v := (-1)) X (by decide) dX1_findOfSize_18 ?_
      refine wm_ixor X dX1_findOfSize_19 ?_
      refine wm_iand X dX1_findOfSize_20 ?_
      refine wm_if_ne (tgt := 37) X (by decide) dX1_findOfSize_21 (fun c2 => ?_) (fun c2 => ?_)
      · replace h := h.1 c2
        exact w_X1_findOfSize_37 hD X hr ih x1 x4 σ h
      · replace h := h.2 c2
        refine wm_iload X 4 rfl dX1_findOfSize_24 ?_
        refine wm_callSi (n := 1) (As := [.int x4]) (rest := []) X (c_J6_bitCount_0f7a4 l G tI tJ tZ ad hD x4 σ _ h) gX1_findOfSize_J6_bitCount_0f7a4 rfl ⟨rfl, rfl⟩ (by decide +kernel) ⟨Nat.le_of_ble_eq_true rfl, Nat.le_of_ble_eq_true rfl⟩ rfl rfl (Nat.le_of_ble_eq_true rfl) dX1_findOfSize_26 (fun r3 σ4 h => ?_)
        refine wm_iload_n X 1 rfl dX1_findOfSize_29 ?_
        refine wm_icmp_ne (tgt := 37) X (by decide) dX1_findOfSize_30 (fun c5 => ?_) (fun c5 => ?_)
        · replace h := h.1 c5
          exact w_X1_findOfSize_37 hD X hr ih x1 x4 σ4 h
        · replace h := h.2 c5
          refine wm_iconst (v := 1) X (by decide) dX1_findOfSize_33 ?_
          refine wm_goto (tgt := 38) X (by decide) dX1_findOfSize_34 ?_
          exact w_X1_findOfSize_38 hD X hr ih x1 x4 1 σ4 h
set_option maxRecDepth 100000 in
set_option maxHeartbeats 4000000 in
theorem c_X1_findOfSize (l : Launch) (G : va_G) (tI tJ tZ : ClassId) (ad : Nat → Nat) (hD : ∀ σ, va_D (Ad 22 ad) (wdC tI tJ tZ ad σ)) (x1 : Int32) (σ : St) (post : St → Prop) (h : wp_X1_findOfSize x1 σ post) : Ct l yX1_findOfSize wsX1_findOfSize rm_X1_findOfSize G (tyL tI tJ tZ) (wdC tI tJ tZ ad) (Ad 22 ad) [.ref (ad 10), .int x1, .ref (ad 1), .ref (ad 5)] σ (Qv G (wdC tI tJ tZ ad) (Ad 22 ad) post) := by
  refine wm_entry (cc := cX1_findOfSize) (maxL := 6) (ret := none) (own := RX1) (lv := [(0, .ref (ad 10)), (1, .int x1), (2, .ref (ad 1)), (3, .ref (ad 5))]) (by decide +kernel) rfl rfl (Nat.le_of_ble_eq_true rfl) rfl hD ?_
  intro p e s m below meth c X hr
  unfold wp_X1_findOfSize at h
  refine wm_iconst (v := 0) X (by decide) dX1_findOfSize_0 ?_
  refine wm_istore (lv' := [(4, .int 0), (0, .ref (ad 10)), (1, .int x1), (2, .ref (ad 1)), (3, .ref (ad 5))]) X (by decide) rfl dX1_findOfSize_1 ?_
  refine wm_sub [1, 2, 3, 4, 0] (lv' := [(0, .ref (ad 10)), (1, .int x1), (2, .ref (ad 1)), (3, .ref (ad 5)), (4, .int 0)]) rfl ?_
  obtain ⟨n0, h⟩ := h
  exact w_X1_findOfSize_3 hD X hr n0 x1 0 σ h
/-! X1_leastSets -/
abbrev rm_X1_leastSets : Room := { frames := 6, cells := 0, slots := 0, locals := 151 }
def lp_X1_leastSets_37 (post : St → Prop)  : Nat → Int32 → Int32 → St → Prop
  | 0, _, _, _ => False
  | n + 1, x3, x4, σ =>
  (x3 < x4 → ∀ σ2 : St, σ2 = sI σ 13 1 → post σ2) ∧ (¬ x3 < x4 → (¬ (gI σ 14) = 0 → ∀ σ5 : St, σ5 = sI σ 13 1 → post σ5) ∧ ((gI σ 14) = 0 → wp_X1_findOfSize x4 σ (fun σ8 => ∀ v9 : Int32, v9 = x4 + 1 → lp_X1_leastSets_37 post n x3 v9 σ8)))
def wp_X1_leastSets (σ : St) (post : St → Prop) : Prop :=
  ((gI σ 13) = 0 → wp_X3_empty_11 σ (fun σ3 => wp_X3_empty_13 σ3 (fun σ5 => wp_J6_bitCount_0f7a4 (gI σ5 3) σ5 (fun r6 σ7 => ∃ fu : Nat, lp_X1_leastSets_37 post fu r6 0 σ7)))) ∧ (¬ (gI σ 13) = 0 → post σ)
set_option maxRecDepth 100000 in
set_option maxHeartbeats 4000000 in
theorem w_X1_leastSets_37 {p : Program} {l : Launch} {e : Env} {s : State} {m : MethodId} {args : Array Value} {below : List Frame} {meth : Method} {c : Code} {G : va_G} {tI tJ tZ : ClassId} {ad : Nat → Nat} (hD : ∀ σ, va_D (Ad 22 ad) (wdC tI tJ tZ ad σ)) (X : Cx p s m args meth c cX1_leastSets 5 RX1 wsX1_leastSets G (tyL tI tJ tZ) (wdC tI tJ tZ ad) (Ad 22 ad)) (hr : meth.sig.returnType = (some (.object "EndMeters$SetList"))) {post : St → Prop}  : ∀ (n : Nat) (x3 : Int32) (x4 : Int32) (σ : St), lp_X1_leastSets_37 post n x3 x4 σ → wm p l e rm_X1_leastSets s m args below meth c G (wdC tI tJ tZ ad) (Ad 22 ad) 5 (MQ below (Qr G (wdC tI tJ tZ ad) (Ad 22 ad) (ad 11) post) args s 0 0 (Ad 22 ad)) σ [(0, .ref (ad 10)), (1, .ref (ad 1)), (2, .ref (ad 5)), (3, .int x3), (4, .int x4)] 37 [] := by
  intro n
  induction n with
  | zero => intro x3 x4 σ h; exact h.elim
  | succ n ih =>
    intro x3 x4 σ h
    unfold lp_X1_leastSets_37 at h
    refine wm_iload X 4 rfl dX1_leastSets_37 ?_
    refine wm_iload_n X 3 rfl dX1_leastSets_39 ?_
    refine wm_icmp_gt (tgt := 67) X (by decide) dX1_leastSets_40 (fun c1 => ?_) (fun c1 => ?_)
    · replace h := h.1 c1
      refine wm_aload_n X 0 rfl dX1_leastSets_67 ?_
      refine wm_iconst (v := 1) X (by decide) dX1_leastSets_68 ?_
      refine wm_put (σ' := sI σ 13 1) X (by decide +kernel) tyX1 tyX1_ok nmX1 10 rfl rfl 2 (by decide) (by decide +kernel) rfl (tyX1_ok 2 (by decide)) (bz_narrow bz_1) (bz_fits bz_1) (Nat.le_of_ble_eq_true rfl) rfl dX1_leastSets_69 ?_
      refine wm_nmS (fun σ2 e3 => ?_)
      replace h := h σ2 e3
      clear e3
      refine wm_aload_n X 0 rfl dX1_leastSets_72 ?_
      refine wm_get X (by decide +kernel) 10 rfl rfl 0 (by decide) (by decide +kernel) rfl dX1_leastSets_73 ?_
      exact wm_aret X hr (Or.inl ⟨_, rfl⟩) h dX1_leastSets_76
    · replace h := h.2 c1
      refine wm_aload_n X 0 rfl dX1_leastSets_43 ?_
      refine wm_get X (by decide +kernel) 10 rfl rfl 0 (by decide) (by decide +kernel) rfl dX1_leastSets_44 ?_
      refine wm_get X (by decide +kernel) 11 rfl rfl 1 (by decide) (by decide +kernel) rfl dX1_leastSets_47 ?_
      refine wm_if_ne (tgt := 67) X (by decide) dX1_leastSets_50 (fun c4 => ?_) (fun c4 => ?_)
      · replace h := h.1 c4
        refine wm_aload_n X 0 rfl dX1_leastSets_67 ?_
        refine wm_iconst (v := 1) X (by decide) dX1_leastSets_68 ?_
        refine wm_put (σ' := sI σ 13 1) X (by decide +kernel) tyX1 tyX1_ok nmX1 10 rfl rfl 2 (by decide) (by decide +kernel) rfl (tyX1_ok 2 (by decide)) (bz_narrow bz_1) (bz_fits bz_1) (Nat.le_of_ble_eq_true rfl) rfl dX1_leastSets_69 ?_
        refine wm_nmS (fun σ5 e6 => ?_)
        replace h := h σ5 e6
        clear e6
        refine wm_aload_n X 0 rfl dX1_leastSets_72 ?_
        refine wm_get X (by decide +kernel) 10 rfl rfl 0 (by decide) (by decide +kernel) rfl dX1_leastSets_73 ?_
        exact wm_aret X hr (Or.inl ⟨_, rfl⟩) h dX1_leastSets_76
      · replace h := h.2 c4
        refine wm_aload_n X 0 rfl dX1_leastSets_53 ?_
        refine wm_iload X 4 rfl dX1_leastSets_54 ?_
        refine wm_aload_n X 1 rfl dX1_leastSets_56 ?_
        refine wm_aload_n X 2 rfl dX1_leastSets_57 ?_
        refine wm_callVv (n := 3) (As := [.int x4, .ref (ad 1), .ref (ad 5)]) (rest := []) X (c_X1_findOfSize l G tI tJ tZ ad hD x4 σ _ h) gX1_leastSets_X1_findOfSize rfl ⟨rfl, rfl⟩ (by decide +kernel) ⟨Nat.le_of_ble_eq_true rfl, Nat.le_of_ble_eq_true rfl⟩ 10 rfl rfl rfl rfl rfl (Nat.le_of_ble_eq_true rfl) dX1_leastSets_58 (fun σ8 h => ?_)
        obtain ⟨v9, e10⟩ : ∃ y : Int32, y = x4 + 1 := ⟨_, rfl⟩
        replace h := h v9 e10
        refine wm_iinc (v := v9) (lv' := [(4, .int v9), (0, .ref (ad 10)), (1, .ref (ad 1)), (2, .ref (ad 5)), (3, .int x3)]) X 4 rfl (by rw [e10]; rfl) (by decide) rfl dX1_leastSets_61 ?_
        clear e10
        refine wm_goto (tgt := 37) X (by decide) dX1_leastSets_64 ?_
        refine wm_sub [1, 2, 3, 4, 0] (lv' := [(0, .ref (ad 10)), (1, .ref (ad 1)), (2, .ref (ad 5)), (3, .int x3), (4, .int v9)]) rfl ?_
        exact ih x3 v9 σ8 h
set_option maxRecDepth 100000 in
set_option maxHeartbeats 4000000 in
theorem c_X1_leastSets (l : Launch) (G : va_G) (tI tJ tZ : ClassId) (ad : Nat → Nat) (hD : ∀ σ, va_D (Ad 22 ad) (wdC tI tJ tZ ad σ))  (σ : St) (post : St → Prop) (h : wp_X1_leastSets  σ post) : Ct l yX1_leastSets wsX1_leastSets rm_X1_leastSets G (tyL tI tJ tZ) (wdC tI tJ tZ ad) (Ad 22 ad) [.ref (ad 10), .ref (ad 1), .ref (ad 5)] σ (Qr G (wdC tI tJ tZ ad) (Ad 22 ad) (ad 11) post) := by
  refine wm_entry (cc := cX1_leastSets) (maxL := 5) (ret := (some (.object "EndMeters$SetList"))) (own := RX1) (lv := [(0, .ref (ad 10)), (1, .ref (ad 1)), (2, .ref (ad 5))]) (by decide +kernel) rfl rfl (Nat.le_of_ble_eq_true rfl) rfl hD ?_
  intro p e s m below meth c X hr
  unfold wp_X1_leastSets at h
  refine wm_aload_n X 0 rfl dX1_leastSets_0 ?_
  refine wm_get X (by decide +kernel) 10 rfl rfl 2 (by decide) (by decide +kernel) rfl dX1_leastSets_1 ?_
  refine wm_if_eq (tgt := 12) X (by decide) dX1_leastSets_4 (fun c1 => ?_) (fun c1 => ?_)
  · replace h := h.1 c1
    refine wm_aload_n X 0 rfl dX1_leastSets_12 ?_
    refine wm_get X (by decide +kernel) 10 rfl rfl 0 (by decide) (by decide +kernel) rfl dX1_leastSets_13 ?_
    refine wm_callVv (n := 0) (As := []) (rest := []) X (c_X3_empty_11 l G tI tJ tZ ad hD σ _ h) gX1_leastSets_X3_empty rfl ⟨rfl, rfl⟩ (by decide +kernel) ⟨Nat.le_of_ble_eq_true rfl, Nat.le_of_ble_eq_true rfl⟩ 11 rfl rfl rfl rfl rfl (Nat.le_of_ble_eq_true rfl) dX1_leastSets_16 (fun σ3 h => ?_)
    refine wm_aload_n X 0 rfl dX1_leastSets_19 ?_
    refine wm_get X (by decide +kernel) 10 rfl rfl 1 (by decide) (by decide +kernel) rfl dX1_leastSets_20 ?_
    refine wm_callVv (n := 0) (As := []) (rest := []) X (c_X3_empty_13 l G tI tJ tZ ad hD σ3 _ h) gX1_leastSets_X3_empty rfl ⟨rfl, rfl⟩ (by decide +kernel) ⟨Nat.le_of_ble_eq_true rfl, Nat.le_of_ble_eq_true rfl⟩ 13 rfl rfl rfl rfl rfl (Nat.le_of_ble_eq_true rfl) dX1_leastSets_23 (fun σ5 h => ?_)
    refine wm_aload_n X 1 rfl dX1_leastSets_26 ?_
    refine wm_get X (by decide +kernel) 1 rfl rfl 6 (by decide) (by decide +kernel) rfl dX1_leastSets_27 ?_
    refine wm_callSi (n := 1) (As := [.int (gI σ5 3)]) (rest := []) X (c_J6_bitCount_0f7a4 l G tI tJ tZ ad hD (gI σ5 3) σ5 _ h) gX1_leastSets_J6_bitCount_0f7a4 rfl ⟨rfl, rfl⟩ (by decide +kernel) ⟨Nat.le_of_ble_eq_true rfl, Nat.le_of_ble_eq_true rfl⟩ rfl rfl (Nat.le_of_ble_eq_true rfl) dX1_leastSets_30 (fun r6 σ7 h => ?_)
    refine wm_istore_n (lv' := [(3, .int r6), (0, .ref (ad 10)), (1, .ref (ad 1)), (2, .ref (ad 5))]) X rfl (by decide) rfl dX1_leastSets_33 ?_
    refine wm_iconst (v := 0) X (by decide) dX1_leastSets_34 ?_
    refine wm_istore (lv' := [(4, .int 0), (3, .int r6), (0, .ref (ad 10)), (1, .ref (ad 1)), (2, .ref (ad 5))]) X (by decide) rfl dX1_leastSets_35 ?_
    refine wm_sub [2, 3, 4, 1, 0] (lv' := [(0, .ref (ad 10)), (1, .ref (ad 1)), (2, .ref (ad 5)), (3, .int r6), (4, .int 0)]) rfl ?_
    obtain ⟨n0, h⟩ := h
    exact w_X1_leastSets_37 hD X hr n0 r6 0 σ7 h
  · replace h := h.2 c1
    refine wm_aload_n X 0 rfl dX1_leastSets_7 ?_
    refine wm_get X (by decide +kernel) 10 rfl rfl 0 (by decide) (by decide +kernel) rfl dX1_leastSets_8 ?_
    exact wm_aret X hr (Or.inl ⟨_, rfl⟩) h dX1_leastSets_11
/-! X3_answer_11 -/
abbrev rm_X3_answer_11 : Room := { frames := 0, cells := 0, slots := 0, locals := 0 }
def wp_X3_answer_11 (x1 : Int32) (σ : St) (post : Int32 → St → Prop) : Prop :=
  (¬ x1 = (-1) → (x1 < 0 → post (-102) σ) ∧ (¬ x1 < 0 → ((gI σ 14) ≤ x1 → post (-102) σ) ∧ (¬ (gI σ 14) ≤ x1 → vp_in x1 252 ∧ post (gA σ 6 (Int32.toNatClampNeg x1)) σ))) ∧ (x1 = (-1) → post (gI σ 14) σ)
set_option maxRecDepth 100000 in
set_option maxHeartbeats 4000000 in
theorem c_X3_answer_11 (l : Launch) (G : va_G) (tI tJ tZ : ClassId) (ad : Nat → Nat) (hD : ∀ σ, va_D (Ad 22 ad) (wdC tI tJ tZ ad σ)) (x1 : Int32) (σ : St) (post : Int32 → St → Prop) (h : wp_X3_answer_11 x1 σ post) : Ct l yX3_answer wsX3_answer rm_X3_answer_11 G (tyL tI tJ tZ) (wdC tI tJ tZ ad) (Ad 22 ad) [.ref (ad 11), .int x1] σ (Qi G (wdC tI tJ tZ ad) (Ad 22 ad) post) := by
  refine wm_entry (cc := cX3_answer) (maxL := 2) (ret := (some .int)) (own := RX3) (lv := [(0, .ref (ad 11)), (1, .int x1)]) (by decide +kernel) rfl rfl (Nat.le_of_ble_eq_true rfl) rfl hD ?_
  intro p e s m below meth c X hr
  unfold wp_X3_answer_11 at h
  refine wm_iload_n X 1 rfl dX3_answer_0 ?_
  refine wm_iconst (v := (-1)) X (by decide) dX3_answer_1 ?_
  refine wm_icmp_ne (tgt := 10) X (by decide) dX3_answer_2 (fun c1 => ?_) (fun c1 => ?_)
  · replace h := h.1 c1
    refine wm_iload_n X 1 rfl dX3_answer_10 ?_
    refine wm_if_lt (tgt := 31) X (by decide) dX3_answer_11 (fun c2 => ?_) (fun c2 => ?_)
    · replace h := h.1 c2
      refine wm_bipush (v := (-102)) X (by decide) dX3_answer_31 ?_
      exact wm_iret X hr h dX3_answer_33
    · replace h := h.2 c2
      refine wm_iload_n X 1 rfl dX3_answer_14 ?_
      refine wm_aload_n X 0 rfl dX3_answer_15 ?_
      refine wm_get X (by decide +kernel) 11 rfl rfl 1 (by decide) (by decide +kernel) rfl dX3_answer_16 ?_
      refine wm_icmp_ge (tgt := 31) X (by decide) dX3_answer_19 (fun c3 => ?_) (fun c3 => ?_)
      · replace h := h.1 c3
        refine wm_bipush (v := (-102)) X (by decide) dX3_answer_31 ?_
        exact wm_iret X hr h dX3_answer_33
      · replace h := h.2 c3
        refine wm_aload_n X 0 rfl dX3_answer_22 ?_
        refine wm_get X (by decide +kernel) 11 rfl rfl 0 (by decide) (by decide +kernel) rfl dX3_answer_23 ?_
        refine wm_iload_n X 1 rfl dX3_answer_26 ?_
        refine wm_iald X 12 0 rfl rfl h.1 dX3_answer_27 ?_
        replace h := h.2
        refine wm_goto (tgt := 33) X (by decide) dX3_answer_28 ?_
        exact wm_iret X hr h dX3_answer_33
  · replace h := h.2 c1
    refine wm_aload_n X 0 rfl dX3_answer_5 ?_
    refine wm_get X (by decide +kernel) 11 rfl rfl 1 (by decide) (by decide +kernel) rfl dX3_answer_6 ?_
    exact wm_iret X hr h dX3_answer_9
/-! X6_lying -/
abbrev rm_X6_lying : Room := { frames := 7, cells := 0, slots := 0, locals := 175 }
def wp_X6_lying (x1 : Int32) (σ : St) (post : Int32 → St → Prop) : Prop :=
  wp_X1_leastSets σ (fun σ2 => wp_X3_answer_11 x1 σ2 (fun r3 σ4 => post r3 σ4))
set_option maxRecDepth 100000 in
set_option maxHeartbeats 4000000 in
theorem c_X6_lying (l : Launch) (G : va_G) (tI tJ tZ : ClassId) (ad : Nat → Nat) (hD : ∀ σ, va_D (Ad 22 ad) (wdC tI tJ tZ ad σ)) (x1 : Int32) (σ : St) (post : Int32 → St → Prop) (h : wp_X6_lying x1 σ post) : Ct l yX6_lying wsX6_lying rm_X6_lying G (tyL tI tJ tZ) (wdC tI tJ tZ ad) (Ad 22 ad) [.ref (ad 0), .int x1] σ (Qi G (wdC tI tJ tZ ad) (Ad 22 ad) post) := by
  refine wm_entry (cc := cX6_lying) (maxL := 2) (ret := (some .int)) (own := RX6) (lv := [(0, .ref (ad 0)), (1, .int x1)]) (by decide +kernel) rfl rfl (Nat.le_of_ble_eq_true rfl) rfl hD ?_
  intro p e s m below meth c X hr
  unfold wp_X6_lying at h
  refine wm_aload_n X 0 rfl dX6_lying_0 ?_
  refine wm_get X (by decide +kernel) 0 rfl rfl 2 (by decide) (by decide +kernel) rfl dX6_lying_1 ?_
  refine wm_aload_n X 0 rfl dX6_lying_4 ?_
  refine wm_get X (by decide +kernel) 0 rfl rfl 0 (by decide) (by decide +kernel) rfl dX6_lying_5 ?_
  refine wm_aload_n X 0 rfl dX6_lying_8 ?_
  refine wm_get X (by decide +kernel) 0 rfl rfl 1 (by decide) (by decide +kernel) rfl dX6_lying_9 ?_
  refine wm_callVr (n := 2) (As := [.ref (ad 1), .ref (ad 5)]) (rest := []) X (c_X1_leastSets l G tI tJ tZ ad hD σ _ h) gX6_lying_X1_leastSets rfl ⟨rfl, rfl⟩ (by decide +kernel) ⟨Nat.le_of_ble_eq_true rfl, Nat.le_of_ble_eq_true rfl⟩ 10 rfl rfl rfl rfl rfl (Nat.le_of_ble_eq_true rfl) dX6_lying_12 (fun σ2 h => ?_)
  refine wm_iload_n X 1 rfl dX6_lying_15 ?_
  refine wm_callVi (n := 1) (As := [.int x1]) (rest := []) X (c_X3_answer_11 l G tI tJ tZ ad hD x1 σ2 _ h) gX6_lying_X3_answer rfl ⟨rfl, rfl⟩ (by decide +kernel) ⟨Nat.le_of_ble_eq_true rfl, Nat.le_of_ble_eq_true rfl⟩ 11 rfl rfl rfl rfl rfl (Nat.le_of_ble_eq_true rfl) dX6_lying_16 (fun r3 σ4 h => ?_)
  exact wm_iret X hr h dX6_lying_19
/-! X2_addOffer -/
abbrev rm_X2_addOffer : Room := { frames := 0, cells := 0, slots := 0, locals := 0 }
def wp_X2_addOffer (x1 : Int32) (σ : St) (post : Int32 → St → Prop) : Prop :=
  ∀ v1 : Int32, v1 = gI σ 2 → vp_in v1 10 ∧ (∀ σ3 : St, σ3 = sA σ 2 (Int32.toNatClampNeg v1) x1 → ∀ σ5 : St, σ5 = sI σ3 2 ((gI σ3 2) + 1) → post v1 σ5)
set_option maxRecDepth 100000 in
set_option maxHeartbeats 4000000 in
theorem c_X2_addOffer (l : Launch) (G : va_G) (tI tJ tZ : ClassId) (ad : Nat → Nat) (hD : ∀ σ, va_D (Ad 22 ad) (wdC tI tJ tZ ad σ)) (x1 : Int32) (σ : St) (post : Int32 → St → Prop) (h : wp_X2_addOffer x1 σ post) : Ct l yX2_addOffer wsX2_addOffer rm_X2_addOffer G (tyL tI tJ tZ) (wdC tI tJ tZ ad) (Ad 22 ad) [.ref (ad 1), .int x1] σ (Qi G (wdC tI tJ tZ ad) (Ad 22 ad) post) := by
  refine wm_entry (cc := cX2_addOffer) (maxL := 3) (ret := (some .int)) (own := RX2) (lv := [(0, .ref (ad 1)), (1, .int x1)]) (by decide +kernel) rfl rfl (Nat.le_of_ble_eq_true rfl) rfl hD ?_
  intro p e s m below meth c X hr
  unfold wp_X2_addOffer at h
  refine wm_aload_n X 0 rfl dX2_addOffer_0 ?_
  refine wm_get X (by decide +kernel) 1 rfl rfl 5 (by decide) (by decide +kernel) rfl dX2_addOffer_1 ?_
  refine wm_nmI (fun v1 e2 => ?_)
  replace h := h v1 e2
  clear e2
  refine wm_istore_n (lv' := [(2, .int v1), (0, .ref (ad 1)), (1, .int x1)]) X rfl (by decide) rfl dX2_addOffer_4 ?_
  refine wm_aload_n X 1 rfl dX2_addOffer_5 ?_
  refine wm_get X (by decide +kernel) 1 rfl rfl 2 (by decide) (by decide +kernel) rfl dX2_addOffer_6 ?_
  refine wm_iload_n X 0 rfl dX2_addOffer_9 ?_
  refine wm_iload_n X 2 rfl dX2_addOffer_10 ?_
  refine wm_iast (σ' := sA σ 2 (Int32.toNatClampNeg v1) x1) X 4 0 rfl rfl h.1 rfl dX2_addOffer_11 ?_
  replace h := h.2
  refine wm_nmS (fun σ3 e4 => ?_)
  replace h := h σ3 e4
  clear e4
  refine wm_aload_n X 1 rfl dX2_addOffer_12 ?_
  refine wm_dup X rfl dX2_addOffer_13 ?_
  refine wm_get X (by decide +kernel) 1 rfl rfl 5 (by decide) (by decide +kernel) rfl dX2_addOffer_14 ?_
  refine wm_iconst (v := 1) X (by decide) dX2_addOffer_17 ?_
  refine wm_iadd X dX2_addOffer_18 ?_
  refine wm_put (σ' := sI σ3 2 ((gI σ3 2) + 1)) X (by decide +kernel) tyX2 tyX2_ok nmX2 1 rfl rfl 5 (by decide) (by decide +kernel) rfl (tyX2_ok 5 (by decide)) rfl rfl (Nat.le_of_ble_eq_true rfl) rfl dX2_addOffer_19 ?_
  refine wm_nmS (fun σ5 e6 => ?_)
  replace h := h σ5 e6
  clear e6
  refine wm_iload_n X 0 rfl dX2_addOffer_22 ?_
  exact wm_iret X hr h dX2_addOffer_23
/-! X6_offer -/
abbrev rm_X6_offer : Room := { frames := 2, cells := 0, slots := 0, locals := 42 }
def wp_X6_offer (x1 : Int32) (σ : St) (post : Int32 → St → Prop) : Prop :=
  wp_X2_isFilledLineSet x1 σ (fun r1 σ2 => (¬ r1 = 0 → ((gI σ2 2) < 10 → wp_X2_addOffer x1 σ2 (fun r5 σ6 => post r5 σ6)) ∧ (¬ (gI σ2 2) < 10 → post (-104) σ2)) ∧ (r1 = 0 → post (-102) σ2))
set_option maxRecDepth 100000 in
set_option maxHeartbeats 4000000 in
theorem c_X6_offer (l : Launch) (G : va_G) (tI tJ tZ : ClassId) (ad : Nat → Nat) (hD : ∀ σ, va_D (Ad 22 ad) (wdC tI tJ tZ ad σ)) (x1 : Int32) (σ : St) (post : Int32 → St → Prop) (h : wp_X6_offer x1 σ post) : Ct l yX6_offer wsX6_offer rm_X6_offer G (tyL tI tJ tZ) (wdC tI tJ tZ ad) (Ad 22 ad) [.ref (ad 0), .int x1] σ (Qi G (wdC tI tJ tZ ad) (Ad 22 ad) post) := by
  refine wm_entry (cc := cX6_offer) (maxL := 2) (ret := (some .int)) (own := RX6) (lv := [(0, .ref (ad 0)), (1, .int x1)]) (by decide +kernel) rfl rfl (Nat.le_of_ble_eq_true rfl) rfl hD ?_
  intro p e s m below meth c X hr
  unfold wp_X6_offer at h
  refine wm_aload_n X 0 rfl dX6_offer_0 ?_
  refine wm_get X (by decide +kernel) 0 rfl rfl 0 (by decide) (by decide +kernel) rfl dX6_offer_1 ?_
  refine wm_iload_n X 1 rfl dX6_offer_4 ?_
  refine wm_callVi (n := 1) (As := [.int x1]) (rest := []) X (c_X2_isFilledLineSet l G tI tJ tZ ad hD x1 σ _ h) gX6_offer_X2_isFilledLineSet rfl ⟨rfl, rfl⟩ (by decide +kernel) ⟨Nat.le_of_ble_eq_true rfl, Nat.le_of_ble_eq_true rfl⟩ 1 rfl rfl rfl rfl rfl (Nat.le_of_ble_eq_true rfl) dX6_offer_5 (fun r1 σ2 h => ?_)
  refine wm_if_ne (tgt := 14) X (by decide) dX6_offer_8 (fun c3 => ?_) (fun c3 => ?_)
  · replace h := h.1 c3
    refine wm_aload_n X 0 rfl dX6_offer_14 ?_
    refine wm_get X (by decide +kernel) 0 rfl rfl 0 (by decide) (by decide +kernel) rfl dX6_offer_15 ?_
    refine wm_get X (by decide +kernel) 1 rfl rfl 5 (by decide) (by decide +kernel) rfl dX6_offer_18 ?_
    refine wm_bipush (v := 10) X (by decide) dX6_offer_21 ?_
    refine wm_icmp_lt (tgt := 29) X (by decide) dX6_offer_23 (fun c4 => ?_) (fun c4 => ?_)
    · replace h := h.1 c4
      refine wm_aload_n X 0 rfl dX6_offer_29 ?_
      refine wm_get X (by decide +kernel) 0 rfl rfl 0 (by decide) (by decide +kernel) rfl dX6_offer_30 ?_
      refine wm_iload_n X 1 rfl dX6_offer_33 ?_
      refine wm_callVi (n := 1) (As := [.int x1]) (rest := []) X (c_X2_addOffer l G tI tJ tZ ad hD x1 σ2 _ h) gX6_offer_X2_addOffer rfl ⟨rfl, rfl⟩ (by decide +kernel) ⟨Nat.le_of_ble_eq_true rfl, Nat.le_of_ble_eq_true rfl⟩ 1 rfl rfl rfl rfl rfl (Nat.le_of_ble_eq_true rfl) dX6_offer_34 (fun r5 σ6 h => ?_)
      exact wm_iret X hr h dX6_offer_37
    · replace h := h.2 c4
      refine wm_bipush (v := (-104)) X (by decide) dX6_offer_26 ?_
      exact wm_iret X hr h dX6_offer_28
  · replace h := h.2 c3
    refine wm_bipush (v := (-102)) X (by decide) dX6_offer_11 ?_
    exact wm_iret X hr h dX6_offer_13
/-! X2_hasOffer -/
abbrev rm_X2_hasOffer : Room := { frames := 0, cells := 0, slots := 0, locals := 0 }
def wp_X2_hasOffer (x1 : Int32) (σ : St) (post : Int32 → St → Prop) : Prop :=
  (x1 < 0 → post 0 σ) ∧ (¬ x1 < 0 → ((gI σ 2) ≤ x1 → post 0 σ) ∧ (¬ (gI σ 2) ≤ x1 → post 1 σ))
set_option maxRecDepth 100000 in
set_option maxHeartbeats 4000000 in
theorem c_X2_hasOffer (l : Launch) (G : va_G) (tI tJ tZ : ClassId) (ad : Nat → Nat) (hD : ∀ σ, va_D (Ad 22 ad) (wdC tI tJ tZ ad σ)) (x1 : Int32) (σ : St) (post : Int32 → St → Prop) (h : wp_X2_hasOffer x1 σ post) : Ct l yX2_hasOffer wsX2_hasOffer rm_X2_hasOffer G (tyL tI tJ tZ) (wdC tI tJ tZ ad) (Ad 22 ad) [.ref (ad 1), .int x1] σ (Qi G (wdC tI tJ tZ ad) (Ad 22 ad) post) := by
  refine wm_entry (cc := cX2_hasOffer) (maxL := 2) (ret := (some .boolean)) (own := RX2) (lv := [(0, .ref (ad 1)), (1, .int x1)]) (by decide +kernel) rfl rfl (Nat.le_of_ble_eq_true rfl) rfl hD ?_
  intro p e s m below meth c X hr
  unfold wp_X2_hasOffer at h
  refine wm_iload_n X 1 rfl dX2_hasOffer_0 ?_
  refine wm_if_lt (tgt := 16) X (by decide) dX2_hasOffer_1 (fun c1 => ?_) (fun c1 => ?_)
  · replace h := h.1 c1
    refine wm_iconst (v := 0) X (by decide) dX2_hasOffer_16 ?_
    exact wm_zret X hr bz_0 h dX2_hasOffer_17
  · replace h := h.2 c1
    refine wm_iload_n X 1 rfl dX2_hasOffer_4 ?_
    refine wm_aload_n X 0 rfl dX2_hasOffer_5 ?_
    refine wm_get X (by decide +kernel) 1 rfl rfl 5 (by decide) (by decide +kernel) rfl dX2_hasOffer_6 ?_
    refine wm_icmp_ge (tgt := 16) X (by decide) dX2_hasOffer_9 (fun c2 => ?_) (fun c2 => ?_)
    · replace h := h.1 c2
      refine wm_iconst (v := 0) X (by decide) dX2_hasOffer_16 ?_
      exact wm_zret X hr bz_0 h dX2_hasOffer_17
    · replace h := h.2 c2
      refine wm_iconst (v := 1) X (by decide) dX2_hasOffer_12 ?_
      refine wm_goto (tgt := 17) X (by decide) dX2_hasOffer_13 ?_
      exact wm_zret X hr bz_1 h dX2_hasOffer_17
/-! X6_offered -/
abbrev rm_X6_offered : Room := { frames := 2, cells := 0, slots := 0, locals := 42 }
def wp_X6_offered (x1 : Int32) (x2 : Int32) (σ : St) (post : Int32 → St → Prop) : Prop :=
  wp_X2_hasOffer x1 σ (fun r1 σ2 => (¬ r1 = 0 → wp_X2_isFilledLineSet x2 σ2 (fun r4 σ5 => (¬ r4 = 0 → vp_in x1 10 ∧ (∀ v7 : Int32, v7 = gA σ5 2 (Int32.toNatClampNeg x1) → vp_in x1 10 ∧ (∀ σ9 : St, σ9 = sA σ5 2 (Int32.toNatClampNeg x1) x2 → post v7 σ9))) ∧ (r4 = 0 → post (-102) σ5))) ∧ (r1 = 0 → post (-101) σ2))
set_option maxRecDepth 100000 in
set_option maxHeartbeats 4000000 in
theorem c_X6_offered (l : Launch) (G : va_G) (tI tJ tZ : ClassId) (ad : Nat → Nat) (hD : ∀ σ, va_D (Ad 22 ad) (wdC tI tJ tZ ad σ)) (x1 : Int32) (x2 : Int32) (σ : St) (post : Int32 → St → Prop) (h : wp_X6_offered x1 x2 σ post) : Ct l yX6_offered wsX6_offered rm_X6_offered G (tyL tI tJ tZ) (wdC tI tJ tZ ad) (Ad 22 ad) [.ref (ad 0), .int x1, .int x2] σ (Qi G (wdC tI tJ tZ ad) (Ad 22 ad) post) := by
  refine wm_entry (cc := cX6_offered) (maxL := 4) (ret := (some .int)) (own := RX6) (lv := [(0, .ref (ad 0)), (1, .int x1), (2, .int x2)]) (by decide +kernel) rfl rfl (Nat.le_of_ble_eq_true rfl) rfl hD ?_
  intro p e s m below meth c X hr
  unfold wp_X6_offered at h
  refine wm_aload_n X 0 rfl dX6_offered_0 ?_
  refine wm_get X (by decide +kernel) 0 rfl rfl 0 (by decide) (by decide +kernel) rfl dX6_offered_1 ?_
  refine wm_iload_n X 1 rfl dX6_offered_4 ?_
  refine wm_callVi (n := 1) (As := [.int x1]) (rest := []) X (c_X2_hasOffer l G tI tJ tZ ad hD x1 σ _ h) gX6_offered_X2_hasOffer rfl ⟨rfl, rfl⟩ (by decide +kernel) ⟨Nat.le_of_ble_eq_true rfl, Nat.le_of_ble_eq_true rfl⟩ 1 rfl rfl rfl rfl rfl (Nat.le_of_ble_eq_true rfl) dX6_offered_5 (fun r1 σ2 h => ?_)
  refine wm_if_ne (tgt := 14) X (by decide) dX6_offered_8 (fun c3 => ?_) (fun c3 => ?_)
  · replace h := h.1 c3
    refine wm_aload_n X 0 rfl dX6_offered_14 ?_
    refine wm_get X (by decide +kernel) 0 rfl rfl 0 (by decide) (by decide +kernel) rfl dX6_offered_15 ?_
    refine wm_iload_n X 2 rfl dX6_offered_18 ?_
    refine wm_callVi (n := 1) (As := [.int x2]) (rest := []) X (c_X2_isFilledLineSet l G tI tJ tZ ad hD x2 σ2 _ h) gX6_offered_X2_isFilledLineSet rfl ⟨rfl, rfl⟩ (by decide +kernel) ⟨Nat.le_of_ble_eq_true rfl, Nat.le_of_ble_eq_true rfl⟩ 1 rfl rfl rfl rfl rfl (Nat.le_of_ble_eq_true rfl) dX6_offered_19 (fun r4 σ5 h => ?_)
    refine wm_if_ne (tgt := 28) X (by decide) dX6_offered_22 (fun c6 => ?_) (fun c6 => ?_)
    · replace h := h.1 c6
      refine wm_aload_n X 0 rfl dX6_offered_28 ?_
      refine wm_get X (by decide +kernel) 0 rfl rfl 0 (by decide) (by decide +kernel) rfl dX6_offered_29 ?_
      refine wm_get X (by decide +kernel) 1 rfl rfl 2 (by decide) (by decide +kernel) rfl dX6_offered_32 ?_
      refine wm_iload_n X 1 rfl dX6_offered_35 ?_
      refine wm_iald X 4 0 rfl rfl h.1 dX6_offered_36 ?_
      replace h := h.2
      refine wm_nmI (fun v7 e8 => ?_)
      replace h := h v7 e8
      clear e8
      refine wm_istore_n (lv' := [(3, .int v7), (0, .ref (ad 0)), (1, .int x1), (2, .int x2)]) X rfl (by decide) rfl dX6_offered_37 ?_
      refine wm_aload_n X 1 rfl dX6_offered_38 ?_
      refine wm_get X (by decide +kernel) 0 rfl rfl 0 (by decide) (by decide +kernel) rfl dX6_offered_39 ?_
      refine wm_get X (by decide +kernel) 1 rfl rfl 2 (by decide) (by decide +kernel) rfl dX6_offered_42 ?_
      refine wm_iload_n X 2 rfl dX6_offered_45 ?_
      refine wm_iload_n X 3 rfl dX6_offered_46 ?_
      refine wm_iast (σ' := sA σ5 2 (Int32.toNatClampNeg x1) x2) X 4 0 rfl rfl h.1 rfl dX6_offered_47 ?_
      replace h := h.2
      refine wm_nmS (fun σ9 e10 => ?_)
      replace h := h σ9 e10
      clear e10
      refine wm_iload_n X 0 rfl dX6_offered_48 ?_
      exact wm_iret X hr h dX6_offered_49
    · replace h := h.2 c6
      refine wm_bipush (v := (-102)) X (by decide) dX6_offered_25 ?_
      exact wm_iret X hr h dX6_offered_27
  · replace h := h.2 c3
    refine wm_bipush (v := (-101)) X (by decide) dX6_offered_11 ?_
    exact wm_iret X hr h dX6_offered_13
/-! J7_fill_53178_17 -/
abbrev rm_J7_fill_53178_17 : Room := { frames := 0, cells := 0, slots := 0, locals := 0 }
def lp_J7_fill_53178_17_5 (post : St → Prop)  : Nat → Int32 → Int32 → Int32 → St → Prop
  | 0, _, _, _, _ => False
  | n + 1, x1, x2, x3, σ =>
  (x3 ≤ x2 → post σ) ∧ (¬ x3 ≤ x2 → vp_in x2 11 ∧ (∀ σ2 : St, σ2 = sA σ 10 (Int32.toNatClampNeg x2) x1 → ∀ v4 : Int32, v4 = x2 + 1 → lp_J7_fill_53178_17_5 post n x1 v4 x3 σ2))
def wp_J7_fill_53178_17 (x1 : Int32) (σ : St) (post : St → Prop) : Prop :=
  ∃ fu : Nat, lp_J7_fill_53178_17_5 post fu x1 0 11 σ
set_option maxRecDepth 100000 in
set_option maxHeartbeats 4000000 in
theorem w_J7_fill_53178_17_5 {p : Program} {l : Launch} {e : Env} {s : State} {m : MethodId} {args : Array Value} {below : List Frame} {meth : Method} {c : Code} {G : va_G} {tI tJ tZ : ClassId} {ad : Nat → Nat} (hD : ∀ σ, va_D (Ad 22 ad) (wdC tI tJ tZ ad σ)) (X : Cx p s m args meth c cJ7_fill_53178 4 RJ7 wsJ7_fill_53178 G (tyL tI tJ tZ) (wdC tI tJ tZ ad) (Ad 22 ad)) (hr : meth.sig.returnType = none) {post : St → Prop}  : ∀ (n : Nat) (x1 : Int32) (x2 : Int32) (x3 : Int32) (σ : St), lp_J7_fill_53178_17_5 post n x1 x2 x3 σ → wm p l e rm_J7_fill_53178_17 s m args below meth c G (wdC tI tJ tZ ad) (Ad 22 ad) 4 (MQ below (Qv G (wdC tI tJ tZ ad) (Ad 22 ad) post) args s 0 0 (Ad 22 ad)) σ [(0, .ref (ad 17)), (1, .int x1), (2, .int x2), (3, .int x3)] 5 [] := by
  intro n
  induction n with
  | zero => intro x1 x2 x3 σ h; exact h.elim
  | succ n ih =>
    intro x1 x2 x3 σ h
    unfold lp_J7_fill_53178_17_5 at h
    refine wm_iload_n X 2 rfl dJ7_fill_53178_5 ?_
    refine wm_iload_n X 3 rfl dJ7_fill_53178_6 ?_
    refine wm_icmp_ge (tgt := 20) X (by decide) dJ7_fill_53178_7 (fun c1 => ?_) (fun c1 => ?_)
    · replace h := h.1 c1
      exact wm_vret X hr h dJ7_fill_53178_20
    · replace h := h.2 c1
      refine wm_aload_n X 0 rfl dJ7_fill_53178_10 ?_
      refine wm_iload_n X 2 rfl dJ7_fill_53178_11 ?_
      refine wm_iload_n X 1 rfl dJ7_fill_53178_12 ?_
      refine wm_iast (σ' := sA σ 10 (Int32.toNatClampNeg x2) x1) X 17 0 rfl rfl h.1 rfl dJ7_fill_53178_13 ?_
      replace h := h.2
      refine wm_nmS (fun σ2 e3 => ?_)
      replace h := h σ2 e3
      clear e3
      obtain ⟨v4, e5⟩ : ∃ y : Int32, y = x2 + 1 := ⟨_, rfl⟩
      replace h := h v4 e5
      refine wm_iinc (v := v4) (lv' := [(2, .int v4), (0, .ref (ad 17)), (1, .int x1), (3, .int x3)]) X 2 rfl (by rw [e5]; rfl) (by decide) rfl dJ7_fill_53178_14 ?_
      clear e5
      refine wm_goto (tgt := 5) X (by decide) dJ7_fill_53178_17 ?_
      refine wm_sub [1, 2, 0, 3] (lv' := [(0, .ref (ad 17)), (1, .int x1), (2, .int v4), (3, .int x3)]) rfl ?_
      exact ih x1 v4 x3 σ2 h
set_option maxRecDepth 100000 in
set_option maxHeartbeats 4000000 in
theorem c_J7_fill_53178_17 (l : Launch) (G : va_G) (tI tJ tZ : ClassId) (ad : Nat → Nat) (hD : ∀ σ, va_D (Ad 22 ad) (wdC tI tJ tZ ad σ)) (x1 : Int32) (σ : St) (post : St → Prop) (h : wp_J7_fill_53178_17 x1 σ post) : Ct l yJ7_fill_53178 wsJ7_fill_53178 rm_J7_fill_53178_17 G (tyL tI tJ tZ) (wdC tI tJ tZ ad) (Ad 22 ad) [.ref (ad 17), .int x1] σ (Qv G (wdC tI tJ tZ ad) (Ad 22 ad) post) := by
  refine wm_entry (cc := cJ7_fill_53178) (maxL := 4) (ret := none) (own := RJ7) (lv := [(0, .ref (ad 17)), (1, .int x1)]) (by decide +kernel) rfl rfl (Nat.le_of_ble_eq_true rfl) rfl hD ?_
  intro p e s m below meth c X hr
  unfold wp_J7_fill_53178_17 at h
  refine wm_iconst (v := 0) X (by decide) dJ7_fill_53178_0 ?_
  refine wm_istore_n (lv' := [(2, .int 0), (0, .ref (ad 17)), (1, .int x1)]) X rfl (by decide) rfl dJ7_fill_53178_1 ?_
  refine wm_aload_n X 1 rfl dJ7_fill_53178_2 ?_
  refine wm_alen (v := 11) X 17 0 rfl rfl rfl dJ7_fill_53178_3 ?_
  refine wm_istore_n (lv' := [(3, .int 11), (2, .int 0), (0, .ref (ad 17)), (1, .int x1)]) X rfl (by decide) rfl dJ7_fill_53178_4 ?_
  refine wm_sub [2, 3, 1, 0] (lv' := [(0, .ref (ad 17)), (1, .int x1), (2, .int 0), (3, .int 11)]) rfl ?_
  obtain ⟨n0, h⟩ := h
  exact w_J7_fill_53178_17_5 hD X hr n0 x1 0 11 σ h
/-! X5_allAskedAreEmpty -/
abbrev rm_X5_allAskedAreEmpty : Room := { frames := 2, cells := 0, slots := 0, locals := 45 }
def lp_X5_allAskedAreEmpty_2 (post : Int32 → St → Prop)  : Nat → Int32 → Int32 → St → Prop
  | 0, _, _, _ => False
  | n + 1, x1, x2, σ =>
  ((gI σ 17) ≤ x2 → post 1 σ) ∧ (¬ (gI σ 17) ≤ x2 → wp_X6_bitOf (gI σ 19) x2 σ (fun r2 σ3 => (¬ r2 = 1 → ∀ v5 : Int32, v5 = x2 + 1 → lp_X5_allAskedAreEmpty_2 post n x1 v5 σ3) ∧ (r2 = 1 → wp_X5_firstFilledColumn x1 (20 + x2) σ3 (fun r7 σ8 => (r7 = (-1) → ∀ v10 : Int32, v10 = x2 + 1 → lp_X5_allAskedAreEmpty_2 post n x1 v10 σ8) ∧ (¬ r7 = (-1) → post 0 σ8)))))
def wp_X5_allAskedAreEmpty (x1 : Int32) (σ : St) (post : Int32 → St → Prop) : Prop :=
  ∃ fu : Nat, lp_X5_allAskedAreEmpty_2 post fu x1 0 σ
set_option maxRecDepth 100000 in
set_option maxHeartbeats 4000000 in
theorem w_X5_allAskedAreEmpty_2 {p : Program} {l : Launch} {e : Env} {s : State} {m : MethodId} {args : Array Value} {below : List Frame} {meth : Method} {c : Code} {G : va_G} {tI tJ tZ : ClassId} {ad : Nat → Nat} (hD : ∀ σ, va_D (Ad 22 ad) (wdC tI tJ tZ ad σ)) (X : Cx p s m args meth c cX5_allAskedAreEmpty 3 RX5 wsX5_allAskedAreEmpty G (tyL tI tJ tZ) (wdC tI tJ tZ ad) (Ad 22 ad)) (hr : meth.sig.returnType = (some .boolean)) {post : Int32 → St → Prop}  : ∀ (n : Nat) (x1 : Int32) (x2 : Int32) (σ : St), lp_X5_allAskedAreEmpty_2 post n x1 x2 σ → wm p l e rm_X5_allAskedAreEmpty s m args below meth c G (wdC tI tJ tZ ad) (Ad 22 ad) 3 (MQ below (Qi G (wdC tI tJ tZ ad) (Ad 22 ad) post) args s 0 0 (Ad 22 ad)) σ [(0, .ref (ad 15)), (1, .int x1), (2, .int x2)] 2 [] := by
  intro n
  induction n with
  | zero => intro x1 x2 σ h; exact h.elim
  | succ n ih =>
    intro x1 x2 σ h
    unfold lp_X5_allAskedAreEmpty_2 at h
    refine wm_iload_n X 2 rfl dX5_allAskedAreEmpty_2 ?_
    refine wm_aload_n X 0 rfl dX5_allAskedAreEmpty_3 ?_
    refine wm_get X (by decide +kernel) 15 rfl rfl 3 (by decide) (by decide +kernel) rfl dX5_allAskedAreEmpty_4 ?_
    refine wm_icmp_ge (tgt := 43) X (by decide) dX5_allAskedAreEmpty_7 (fun c1 => ?_) (fun c1 => ?_)
    · replace h := h.1 c1
      refine wm_iconst (v := 1) X (by decide) dX5_allAskedAreEmpty_43 ?_
      exact wm_zret X hr bz_1 h dX5_allAskedAreEmpty_44
    · replace h := h.2 c1
      refine wm_aload_n X 0 rfl dX5_allAskedAreEmpty_10 ?_
      refine wm_get X (by decide +kernel) 15 rfl rfl 5 (by decide) (by decide +kernel) rfl dX5_allAskedAreEmpty_11 ?_
      refine wm_iload_n X 2 rfl dX5_allAskedAreEmpty_14 ?_
      refine wm_callNi (n := 2) (As := [.int (gI σ 19), .int x2]) (rest := []) X (c_X6_bitOf l G tI tJ tZ ad hD (gI σ 19) x2 σ _ h) gX5_allAskedAreEmpty_X6_bitOf_n86 rfl ⟨rfl, rfl⟩ (List.mem_of_getElem? (i := 9) rfl) (by decide +kernel) (by decide +kernel) (by decide +kernel) ⟨Nat.le_of_ble_eq_true rfl, Nat.le_of_ble_eq_true rfl⟩ rfl rfl (Nat.le_of_ble_eq_true rfl) dX5_allAskedAreEmpty_15 (fun r2 σ3 h => ?_)
      refine wm_iconst (v := 1) X (by decide) dX5_allAskedAreEmpty_18 ?_
      refine wm_icmp_ne (tgt := 37) X (by decide) dX5_allAskedAreEmpty_19 (fun c4 => ?_) (fun c4 => ?_)
      · replace h := h.1 c4
        obtain ⟨v5, e6⟩ : ∃ y : Int32, y = x2 + 1 := ⟨_, rfl⟩
        replace h := h v5 e6
        refine wm_iinc (v := v5) (lv' := [(2, .int v5), (0, .ref (ad 15)), (1, .int x1)]) X 2 rfl (by rw [e6]; rfl) (by decide) rfl dX5_allAskedAreEmpty_37 ?_
        clear e6
        refine wm_goto (tgt := 2) X (by decide) dX5_allAskedAreEmpty_40 ?_
        refine wm_sub [1, 2, 0] (lv' := [(0, .ref (ad 15)), (1, .int x1), (2, .int v5)]) rfl ?_
        exact ih x1 v5 σ3 h
      · replace h := h.2 c4
        refine wm_aload_n X 0 rfl dX5_allAskedAreEmpty_22 ?_
        refine wm_iload_n X 1 rfl dX5_allAskedAreEmpty_23 ?_
        refine wm_bipush (v := 20) X (by decide) dX5_allAskedAreEmpty_24 ?_
        refine wm_iload_n X 2 rfl dX5_allAskedAreEmpty_26 ?_
        refine wm_iadd X dX5_allAskedAreEmpty_27 ?_
        refine wm_callVi (n := 2) (As := [.int x1, .int (20 + x2)]) (rest := []) X (c_X5_firstFilledColumn l G tI tJ tZ ad hD x1 (20 + x2) σ3 _ h) gX5_allAskedAreEmpty_X5_firstFilledColumn rfl ⟨rfl, rfl⟩ (by decide +kernel) ⟨Nat.le_of_ble_eq_true rfl, Nat.le_of_ble_eq_true rfl⟩ 15 rfl rfl rfl rfl rfl (Nat.le_of_ble_eq_true rfl) dX5_allAskedAreEmpty_28 (fun r7 σ8 h => ?_)
        refine wm_iconst (v := (-1)) X (by decide) dX5_allAskedAreEmpty_31 ?_
        refine wm_icmp_eq (tgt := 37) X (by decide) dX5_allAskedAreEmpty_32 (fun c9 => ?_) (fun c9 => ?_)
        · replace h := h.1 c9
          obtain ⟨v10, e11⟩ : ∃ y : Int32, y = x2 + 1 := ⟨_, rfl⟩
          replace h := h v10 e11
          refine wm_iinc (v := v10) (lv' := [(2, .int v10), (0, .ref (ad 15)), (1, .int x1)]) X 2 rfl (by rw [e11]; rfl) (by decide) rfl dX5_allAskedAreEmpty_37 ?_
          clear e11
          refine wm_goto (tgt := 2) X (by decide) dX5_allAskedAreEmpty_40 ?_
          refine wm_sub [1, 2, 0] (lv' := [(0, .ref (ad 15)), (1, .int x1), (2, .int v10)]) rfl ?_
          exact ih x1 v10 σ8 h
        · replace h := h.2 c9
          refine wm_iconst (v := 0) X (by decide) dX5_allAskedAreEmpty_35 ?_
          exact wm_zret X hr bz_0 h dX5_allAskedAreEmpty_36
set_option maxRecDepth 100000 in
set_option maxHeartbeats 4000000 in
theorem c_X5_allAskedAreEmpty (l : Launch) (G : va_G) (tI tJ tZ : ClassId) (ad : Nat → Nat) (hD : ∀ σ, va_D (Ad 22 ad) (wdC tI tJ tZ ad σ)) (x1 : Int32) (σ : St) (post : Int32 → St → Prop) (h : wp_X5_allAskedAreEmpty x1 σ post) : Ct l yX5_allAskedAreEmpty wsX5_allAskedAreEmpty rm_X5_allAskedAreEmpty G (tyL tI tJ tZ) (wdC tI tJ tZ ad) (Ad 22 ad) [.ref (ad 15), .int x1] σ (Qi G (wdC tI tJ tZ ad) (Ad 22 ad) post) := by
  refine wm_entry (cc := cX5_allAskedAreEmpty) (maxL := 3) (ret := (some .boolean)) (own := RX5) (lv := [(0, .ref (ad 15)), (1, .int x1)]) (by decide +kernel) rfl rfl (Nat.le_of_ble_eq_true rfl) rfl hD ?_
  intro p e s m below meth c X hr
  unfold wp_X5_allAskedAreEmpty at h
  refine wm_iconst (v := 0) X (by decide) dX5_allAskedAreEmpty_0 ?_
  refine wm_istore_n (lv' := [(2, .int 0), (0, .ref (ad 15)), (1, .int x1)]) X rfl (by decide) rfl dX5_allAskedAreEmpty_1 ?_
  refine wm_sub [1, 2, 0] (lv' := [(0, .ref (ad 15)), (1, .int x1), (2, .int 0)]) rfl ?_
  obtain ⟨n0, h⟩ := h
  exact w_X5_allAskedAreEmpty_2 hD X hr n0 x1 0 σ h
