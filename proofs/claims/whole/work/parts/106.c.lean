/-! X6_pair -/
abbrev rm_X6_pair : Room := { frames := 2, cells := 0, slots := 0, locals := 58 }
def wp_X6_pair (x1 : Int32) (x2 : Int32) (x3 : Int32) (x4 : Int32) (x5 : Int32) (x6 : Int32) (σ : St) (post : Int64 → St → Prop) : Prop :=
  wp_X6_isPair x1 x2 x3 x4 σ (fun r1 σ2 => (r1 = 0 → post (-102) σ2) ∧ (¬ r1 = 0 → (x5 < 0 → post (-102) σ2) ∧ (¬ x5 < 0 → (2 < x5 → post (-102) σ2) ∧ (¬ 2 < x5 → wp_X6_isZeroOrOne x6 σ2 (fun r6 σ7 => (¬ r6 = 0 → (¬ x4 = 0 → (¬ x5 = 0 → (¬ x5 = 1 → wp_X6_partOfFraction (Int32.toInt64 x4) (Int32.toInt64 x2) x6 σ7 (fun r12 σ13 => post r12 σ13)) ∧ (x5 = 1 → wp_X6_partOfFraction (Int32.toInt64 x4) (Int32.toInt64 x3) x6 σ7 (fun r14 σ15 => post r14 σ15))) ∧ (x5 = 0 → wp_X6_partOfFraction ((Int32.toInt64 x2) * (Int32.toInt64 x3)) ((Int32.toInt64 x1) * (Int32.toInt64 x4)) x6 σ7 (fun r16 σ17 => post r16 σ17))) ∧ (x4 = 0 → post (-103) σ7)) ∧ (r6 = 0 → post (-102) σ7))))))
set_option maxRecDepth 100000 in
set_option maxHeartbeats 4000000 in
theorem c_X6_pair (l : Launch) (G : va_G) (tI tJ tZ : ClassId) (ad : Nat → Nat) (hD : ∀ σ, va_D (Ad 22 ad) (wdC tI tJ tZ ad σ)) (x1 : Int32) (x2 : Int32) (x3 : Int32) (x4 : Int32) (x5 : Int32) (x6 : Int32) (σ : St) (post : Int64 → St → Prop) (h : wp_X6_pair x1 x2 x3 x4 x5 x6 σ post) : Ct l yX6_pair wsX6_pair rm_X6_pair G (tyL tI tJ tZ) (wdC tI tJ tZ ad) (Ad 22 ad) [.ref (ad 0), .int x1, .int x2, .int x3, .int x4, .int x5, .int x6] σ (Ql G (wdC tI tJ tZ ad) (Ad 22 ad) post) := by
  refine wm_entry (cc := cX6_pair) (maxL := 7) (ret := (some .long)) (own := RX6) (lv := [(0, .ref (ad 0)), (1, .int x1), (2, .int x2), (3, .int x3), (4, .int x4), (5, .int x5), (6, .int x6)]) (by decide +kernel) rfl rfl (Nat.le_of_ble_eq_true rfl) rfl hD ?_
  intro p e s m below meth c X hr
  unfold wp_X6_pair at h
  refine wm_iload_n X 1 rfl dX6_pair_0 ?_
  refine wm_iload_n X 2 rfl dX6_pair_1 ?_
  refine wm_iload_n X 3 rfl dX6_pair_2 ?_
  refine wm_iload X 4 rfl dX6_pair_3 ?_
  refine wm_callSi (n := 4) (As := [.int x1, .int x2, .int x3, .int x4]) (rest := []) X (c_X6_isPair l G tI tJ tZ ad hD x1 x2 x3 x4 σ _ h) gX6_pair_X6_isPair rfl ⟨rfl, rfl⟩ (by decide +kernel) ⟨Nat.le_of_ble_eq_true rfl, Nat.le_of_ble_eq_true rfl⟩ rfl rfl (Nat.le_of_ble_eq_true rfl) dX6_pair_5 (fun r1 σ2 h => ?_)
  refine wm_if_eq (tgt := 30) X (by decide) dX6_pair_8 (fun c3 => ?_) (fun c3 => ?_)
  · replace h := h.1 c3
    refine wm_ldc2 (v := (-102)) X (by decide +kernel) dX6_pair_30 ?_
    exact wm_lret X hr h dX6_pair_33
  · replace h := h.2 c3
    refine wm_iload X 5 rfl dX6_pair_11 ?_
    refine wm_if_lt (tgt := 30) X (by decide) dX6_pair_13 (fun c4 => ?_) (fun c4 => ?_)
    · replace h := h.1 c4
      refine wm_ldc2 (v := (-102)) X (by decide +kernel) dX6_pair_30 ?_
      exact wm_lret X hr h dX6_pair_33
    · replace h := h.2 c4
      refine wm_iload X 5 rfl dX6_pair_16 ?_
      refine wm_iconst (v := 2) X (by decide) dX6_pair_18 ?_
      refine wm_icmp_gt (tgt := 30) X (by decide) dX6_pair_19 (fun c5 => ?_) (fun c5 => ?_)
      · replace h := h.1 c5
        refine wm_ldc2 (v := (-102)) X (by decide +kernel) dX6_pair_30 ?_
        exact wm_lret X hr h dX6_pair_33
      · replace h := h.2 c5
        refine wm_iload X 6 rfl dX6_pair_22 ?_
        refine wm_callSi (n := 1) (As := [.int x6]) (rest := []) X (c_X6_isZeroOrOne l G tI tJ tZ ad hD x6 σ2 _ h) gX6_pair_X6_isZeroOrOne rfl ⟨rfl, rfl⟩ (by decide +kernel) ⟨Nat.le_of_ble_eq_true rfl, Nat.le_of_ble_eq_true rfl⟩ rfl rfl (Nat.le_of_ble_eq_true rfl) dX6_pair_24 (fun r6 σ7 h => ?_)
        refine wm_if_ne (tgt := 34) X (by decide) dX6_pair_27 (fun c8 => ?_) (fun c8 => ?_)
        · replace h := h.1 c8
          refine wm_iload X 4 rfl dX6_pair_34 ?_
          refine wm_if_ne (tgt := 43) X (by decide) dX6_pair_36 (fun c9 => ?_) (fun c9 => ?_)
          · replace h := h.1 c9
            refine wm_iload X 5 rfl dX6_pair_43 ?_
            refine wm_if_ne (tgt := 65) X (by decide) dX6_pair_45 (fun c10 => ?_) (fun c10 => ?_)
            · replace h := h.1 c10
              refine wm_iload X 4 rfl dX6_pair_65 ?_
              refine wm_i2l X dX6_pair_67 ?_
              refine wm_iload X 5 rfl dX6_pair_68 ?_
              refine wm_iconst (v := 1) X (by decide) dX6_pair_70 ?_
              refine wm_icmp_ne (tgt := 79) X (by decide) dX6_pair_71 (fun c11 => ?_) (fun c11 => ?_)
              · replace h := h.1 c11
                refine wm_iload_n X 2 rfl dX6_pair_79 ?_
                refine wm_i2l X dX6_pair_80 ?_
                refine wm_iload X 6 rfl dX6_pair_81 ?_
                refine wm_callSl (n := 3) (As := [.long (Int32.toInt64 x4), .long (Int32.toInt64 x2), .int x6]) (rest := []) X (c_X6_partOfFraction l G tI tJ tZ ad hD (Int32.toInt64 x4) (Int32.toInt64 x2) x6 σ7 _ h) gX6_pair_X6_partOfFraction rfl ⟨rfl, rfl⟩ (by decide +kernel) ⟨Nat.le_of_ble_eq_true rfl, Nat.le_of_ble_eq_true rfl⟩ rfl rfl (Nat.le_of_ble_eq_true rfl) dX6_pair_83 (fun r12 σ13 h => ?_)
                exact wm_lret X hr h dX6_pair_86
              · replace h := h.2 c11
                refine wm_iload_n X 3 rfl dX6_pair_74 ?_
                refine wm_i2l X dX6_pair_75 ?_
                refine wm_goto (tgt := 81) X (by decide) dX6_pair_76 ?_
                refine wm_iload X 6 rfl dX6_pair_81 ?_
                refine wm_callSl (n := 3) (As := [.long (Int32.toInt64 x4), .long (Int32.toInt64 x3), .int x6]) (rest := []) X (c_X6_partOfFraction l G tI tJ tZ ad hD (Int32.toInt64 x4) (Int32.toInt64 x3) x6 σ7 _ h) gX6_pair_X6_partOfFraction rfl ⟨rfl, rfl⟩ (by decide +kernel) ⟨Nat.le_of_ble_eq_true rfl, Nat.le_of_ble_eq_true rfl⟩ rfl rfl (Nat.le_of_ble_eq_true rfl) dX6_pair_83 (fun r14 σ15 h => ?_)
                exact wm_lret X hr h dX6_pair_86
            · replace h := h.2 c10
              refine wm_iload_n X 2 rfl dX6_pair_48 ?_
              refine wm_i2l X dX6_pair_49 ?_
              refine wm_iload_n X 3 rfl dX6_pair_50 ?_
              refine wm_i2l X dX6_pair_51 ?_
              refine wm_lmul X dX6_pair_52 ?_
              refine wm_iload_n X 1 rfl dX6_pair_53 ?_
              refine wm_i2l X dX6_pair_54 ?_
              refine wm_iload X 4 rfl dX6_pair_55 ?_
              refine wm_i2l X dX6_pair_57 ?_
              refine wm_lmul X dX6_pair_58 ?_
              refine wm_iload X 6 rfl dX6_pair_59 ?_
              refine wm_callSl (n := 3) (As := [.long ((Int32.toInt64 x2) * (Int32.toInt64 x3)), .long ((Int32.toInt64 x1) * (Int32.toInt64 x4)), .int x6]) (rest := []) X (c_X6_partOfFraction l G tI tJ tZ ad hD ((Int32.toInt64 x2) * (Int32.toInt64 x3)) ((Int32.toInt64 x1) * (Int32.toInt64 x4)) x6 σ7 _ h) gX6_pair_X6_partOfFraction rfl ⟨rfl, rfl⟩ (by decide +kernel) ⟨Nat.le_of_ble_eq_true rfl, Nat.le_of_ble_eq_true rfl⟩ rfl rfl (Nat.le_of_ble_eq_true rfl) dX6_pair_61 (fun r16 σ17 h => ?_)
              exact wm_lret X hr h dX6_pair_64
          · replace h := h.2 c9
            refine wm_ldc2 (v := (-103)) X (by decide +kernel) dX6_pair_39 ?_
            exact wm_lret X hr h dX6_pair_42
        · replace h := h.2 c8
          refine wm_ldc2 (v := (-102)) X (by decide +kernel) dX6_pair_30 ?_
          exact wm_lret X hr h dX6_pair_33
