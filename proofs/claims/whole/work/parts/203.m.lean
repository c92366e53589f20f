/-! X7_isSettled -/
abbrev rm_X7_isSettled : Room := { frames := 3, cells := 0, slots := 0, locals := 83 }
def wp_X7_isSettled (x1 : Int32) (σ : St) (post : Int32 → St → Prop) : Prop :=
  wp_X7_seenSet σ (fun r1 σ2 => (¬ ((r1 >>> (x1 &&& 31)) &&& 1) = 0 → wp_X7_find (1 <<< (x1 &&& 31)) 0 σ2 (fun r4 σ5 => vp_in x1 10 ∧ (∀ v6 : Int64, v6 = gB σ5 2 (Int32.toNatClampNeg x1) → ∀ v8 : Int64, v8 = gL σ5 2 → wp_X7_find (1 <<< (x1 &&& 31)) 1 σ5 (fun r10 σ11 => vp_in x1 10 ∧ ((¬ (v6 * (gL σ11 2)) = ((gB σ11 2 (Int32.toNatClampNeg x1)) * v8) → post 0 σ11) ∧ ((v6 * (gL σ11 2)) = ((gB σ11 2 (Int32.toNatClampNeg x1)) * v8) → post 1 σ11)))))) ∧ (((r1 >>> (x1 &&& 31)) &&& 1) = 0 → post 0 σ2))
set_option maxRecDepth 100000 in
set_option maxHeartbeats 4000000 in
theorem c_X7_isSettled (l : Launch) (G : va_G) (tI tJ tZ : ClassId) (ad : Nat → Nat) (hD : ∀ σ, va_D (Ad 11 ad) (wdM tI tJ tZ ad σ)) (x1 : Int32) (σ : St) (post : Int32 → St → Prop) (h : wp_X7_isSettled x1 σ post) : Ct l yX7_isSettled wsX7_isSettled rm_X7_isSettled G (tyL tI tJ tZ) (wdM tI tJ tZ ad) (Ad 11 ad) [.ref (ad 0), .int x1] σ (Qi G (wdM tI tJ tZ ad) (Ad 11 ad) post) := by
  refine wm_entry (cc := cX7_isSettled) (maxL := 7) (ret := (some .boolean)) (own := RX7) (lv := [(0, .ref (ad 0)), (1, .int x1)]) (by decide +kernel) rfl rfl (Nat.le_of_ble_eq_true rfl) rfl hD ?_
  intro p e s m below meth c X hr
  unfold wp_X7_isSettled at h
  refine wm_aload_n X 0 rfl dX7_isSettled_0 ?_
  refine wm_callVi (n := 0) (As := []) (rest := []) X (c_X7_seenSet l G tI tJ tZ ad hD σ _ h) gX7_isSettled_X7_seenSet rfl ⟨rfl, rfl⟩ (by decide +kernel) ⟨Nat.le_of_ble_eq_true rfl, Nat.le_of_ble_eq_true rfl⟩ 0 rfl rfl rfl rfl rfl (Nat.le_of_ble_eq_true rfl) dX7_isSettled_1 (fun r1 σ2 h => ?_)
  refine wm_iload_n X 1 rfl dX7_isSettled_4 ?_
  refine wm_ishr X dX7_isSettled_5 ?_
  refine wm_iconst (v := 1) X (by decide) dX7_isSettled_6 ?_
  refine wm_iand X dX7_isSettled_7 ?_
  refine wm_if_ne (tgt := 13) X (by decide) dX7_isSettled_8 (fun c3 => ?_) (fun c3 => ?_)
  · replace h := h.1 c3
    refine wm_aload_n X 0 rfl dX7_isSettled_13 ?_
    refine wm_iconst (v := 1) X (by decide) dX7_isSettled_14 ?_
    refine wm_iload_n X 1 rfl dX7_isSettled_15 ?_
    refine wm_ishl X dX7_isSettled_16 ?_
    refine wm_iconst (v := 0) X (by decide) dX7_isSettled_17 ?_
    refine wm_callVi (n := 2) (As := [.int (1 <<< (x1 &&& 31)), .int 0]) (rest := []) X (c_X7_find l G tI tJ tZ ad hD (1 <<< (x1 &&& 31)) 0 σ2 _ h) gX7_isSettled_X7_find rfl ⟨rfl, rfl⟩ (by decide +kernel) ⟨Nat.le_of_ble_eq_true rfl, Nat.le_of_ble_eq_true rfl⟩ 0 rfl rfl rfl rfl rfl (Nat.le_of_ble_eq_true rfl) dX7_isSettled_18 (fun r4 σ5 h => ?_)
    refine wm_istore_n (lv' := [(2, .int r4), (0, .ref (ad 0)), (1, .int x1)]) X rfl (by decide) rfl dX7_isSettled_21 ?_
    refine wm_aload_n X 1 rfl dX7_isSettled_22 ?_
    refine wm_get X (by decide +kernel) 0 rfl rfl 14 (by decide) (by decide +kernel) rfl dX7_isSettled_23 ?_
    refine wm_iload_n X 2 rfl dX7_isSettled_26 ?_
    refine wm_lald X 9 1 rfl rfl h.1 dX7_isSettled_27 ?_
    replace h := h.2
    refine wm_nmL (fun v6 e7 => ?_)
    replace h := h v6 e7
    clear e7
    refine wm_lstore_n (lv' := [(3, .long v6), (2, .int r4), (0, .ref (ad 0)), (1, .int x1)]) X rfl (by decide) rfl dX7_isSettled_28 ?_
    refine wm_aload_n X 2 rfl dX7_isSettled_29 ?_
    refine wm_get X (by decide +kernel) 0 rfl rfl 15 (by decide) (by decide +kernel) rfl dX7_isSettled_30 ?_
    refine wm_nmL (fun v8 e9 => ?_)
    replace h := h v8 e9
    clear e9
    refine wm_lstore (lv' := [(5, .long v8), (3, .long v6), (2, .int r4), (0, .ref (ad 0)), (1, .int x1)]) X (by decide) rfl dX7_isSettled_33 ?_
    refine wm_aload_n X 3 rfl dX7_isSettled_35 ?_
    refine wm_iconst (v := 1) X (by decide) dX7_isSettled_36 ?_
    refine wm_iload_n X 4 rfl dX7_isSettled_37 ?_
    refine wm_ishl X dX7_isSettled_38 ?_
    refine wm_iconst (v := 1) X (by decide) dX7_isSettled_39 ?_
    refine wm_callVi (n := 2) (As := [.int (1 <<< (x1 &&& 31)), .int 1]) (rest := []) X (c_X7_find l G tI tJ tZ ad hD (1 <<< (x1 &&& 31)) 1 σ5 _ h) gX7_isSettled_X7_find rfl ⟨rfl, rfl⟩ (by decide +kernel) ⟨Nat.le_of_ble_eq_true rfl, Nat.le_of_ble_eq_true rfl⟩ 0 rfl rfl rfl rfl rfl (Nat.le_of_ble_eq_true rfl) dX7_isSettled_40 (fun r10 σ11 h => ?_)
    refine wm_istore_n (lv' := [(2, .int r10), (5, .long v8), (3, .long v6), (0, .ref (ad 0)), (1, .int x1)]) X rfl (by decide) rfl dX7_isSettled_43 ?_
    refine wm_lload_n X 2 rfl dX7_isSettled_44 ?_
    refine wm_aload_n X 3 rfl dX7_isSettled_45 ?_
    refine wm_get X (by decide +kernel) 0 rfl rfl 15 (by decide) (by decide +kernel) rfl dX7_isSettled_46 ?_
    refine wm_lmul X dX7_isSettled_49 ?_
    refine wm_aload_n X 3 rfl dX7_isSettled_50 ?_
    refine wm_get X (by decide +kernel) 0 rfl rfl 14 (by decide) (by decide +kernel) rfl dX7_isSettled_51 ?_
    refine wm_iload_n X 4 rfl dX7_isSettled_54 ?_
    refine wm_lald X 9 1 rfl rfl h.1 dX7_isSettled_55 ?_
    replace h := h.2
    refine wm_lload X 1 rfl dX7_isSettled_56 ?_
    refine wm_lmul X dX7_isSettled_58 ?_
    refine wm_lcmp X dX7_isSettled_59 ?_
    refine wm_if_ne (tgt := 67) X (by decide) dX7_isSettled_60 (fun c12 => ?_) (fun c12 => ?_)
    · replace h := h.1 ((lc_ne _ _).mp c12)
      refine wm_iconst (v := 0) X (by decide) dX7_isSettled_67 ?_
      exact wm_zret X hr bz_0 h dX7_isSettled_68
    · replace h := h.2 ((lc_nne _ _).mp c12)
      refine wm_iconst (v := 1) X (by decide) dX7_isSettled_63 ?_
      refine wm_goto (tgt := 68) X (by decide) dX7_isSettled_64 ?_
      exact wm_zret X hr bz_1 h dX7_isSettled_68
  · replace h := h.2 c3
    refine wm_iconst (v := 0) X (by decide) dX7_isSettled_11 ?_
    exact wm_zret X hr bz_0 h dX7_isSettled_12
/-! X7_enter -/
abbrev rm_X7_enter : Room := { frames := 0, cells := 0, slots := 0, locals := 0 }
def lp_X7_enter_2 (post : Int32 → St → Prop)  : Nat → Int32 → Int32 → St → Prop
  | 0, _, _, _ => False
  | n + 1, x1, x2, σ =>
  ((gI σ 0) ≤ x2 → post (-1) σ) ∧ (¬ (gI σ 0) ≤ x2 → vp_in ((32 * x1) + x2) 800 ∧ (((gB σ 0 (Int32.toNatClampNeg ((32 * x1) + x2))) ≤ 0 → ∀ v3 : Int32, v3 = x2 + 1 → lp_X7_enter_2 post n x1 v3 σ) ∧ (¬ (gB σ 0 (Int32.toNatClampNeg ((32 * x1) + x2))) ≤ 0 → post x2 σ)))
def wp_X7_enter (x1 : Int32) (σ : St) (post : Int32 → St → Prop) : Prop :=
  ∃ fu : Nat, lp_X7_enter_2 post fu x1 0 σ
set_option maxRecDepth 100000 in
set_option maxHeartbeats 4000000 in
theorem w_X7_enter_2 {p : Program} {l : Launch} {e : Env} {s : State} {m : MethodId} {args : Array Value} {below : List Frame} {meth : Method} {c : Code} {G : va_G} {tI tJ tZ : ClassId} {ad : Nat → Nat} (hD : ∀ σ, va_D (Ad 11 ad) (wdM tI tJ tZ ad σ)) (X : Cx p s m args meth c cX7_enter 3 RX7 wsX7_enter G (tyL tI tJ tZ) (wdM tI tJ tZ ad) (Ad 11 ad)) (hr : meth.sig.returnType = (some .int)) {post : Int32 → St → Prop}  : ∀ (n : Nat) (x1 : Int32) (x2 : Int32) (σ : St), lp_X7_enter_2 post n x1 x2 σ → wm p l e rm_X7_enter s m args below meth c G (wdM tI tJ tZ ad) (Ad 11 ad) 3 (MQ below (Qi G (wdM tI tJ tZ ad) (Ad 11 ad) post) args s 0 0 (Ad 11 ad)) σ [(0, .ref (ad 0)), (1, .int x1), (2, .int x2)] 2 [] := by
  intro n
  induction n with
  | zero => intro x1 x2 σ h; exact h.elim
  | succ n ih =>
    intro x1 x2 σ h
    unfold lp_X7_enter_2 at h
    refine wm_iload_n X 2 rfl dX7_enter_2 ?_
    refine wm_aload_n X 0 rfl dX7_enter_3 ?_
    refine wm_get X (by decide +kernel) 0 rfl rfl 0 (by decide) (by decide +kernel) rfl dX7_enter_4 ?_
    refine wm_icmp_ge (tgt := 34) X (by decide) dX7_enter_7 (fun c1 => ?_) (fun c1 => ?_)
    · replace h := h.1 c1
      refine wm_iconst (v := (-1)) X (by decide) dX7_enter_34 ?_
      exact wm_iret X hr h dX7_enter_35
    · replace h := h.2 c1
      refine wm_aload_n X 0 rfl dX7_enter_10 ?_
      refine wm_get X (by decide +kernel) 0 rfl rfl 8 (by decide) (by decide +kernel) rfl dX7_enter_11 ?_
      refine wm_bipush (v := 32) X (by decide) dX7_enter_14 ?_
      refine wm_iload_n X 1 rfl dX7_enter_16 ?_
      refine wm_imul X dX7_enter_17 ?_
      refine wm_iload_n X 2 rfl dX7_enter_18 ?_
      refine wm_iadd X dX7_enter_19 ?_
      refine wm_lald X 6 1 rfl rfl h.1 dX7_enter_20 ?_
      replace h := h.2
      refine wm_lconst (v := 0) X (by decide) dX7_enter_21 ?_
      refine wm_lcmp X dX7_enter_22 ?_
      refine wm_if_le (tgt := 28) X (by decide) dX7_enter_23 (fun c2 => ?_) (fun c2 => ?_)
      · replace h := h.1 ((lc_le _ _).mp c2)
        obtain ⟨v3, e4⟩ : ∃ y : Int32, y = x2 + 1 := ⟨_, rfl⟩
        replace h := h v3 e4
        refine wm_iinc (v := v3) (lv' := [(2, .int v3), (0, .ref (ad 0)), (1, .int x1)]) X 2 rfl (by rw [e4]; rfl) (by decide) rfl dX7_enter_28 ?_
        clear e4
        refine wm_goto (tgt := 2) X (by decide) dX7_enter_31 ?_
        refine wm_sub [1, 2, 0] (lv' := [(0, .ref (ad 0)), (1, .int x1), (2, .int v3)]) rfl ?_
        exact ih x1 v3 σ h
      · replace h := h.2 ((lc_nle _ _).mp c2)
        refine wm_iload_n X 2 rfl dX7_enter_26 ?_
        exact wm_iret X hr h dX7_enter_27
set_option maxRecDepth 100000 in
set_option maxHeartbeats 4000000 in
theorem c_X7_enter (l : Launch) (G : va_G) (tI tJ tZ : ClassId) (ad : Nat → Nat) (hD : ∀ σ, va_D (Ad 11 ad) (wdM tI tJ tZ ad σ)) (x1 : Int32) (σ : St) (post : Int32 → St → Prop) (h : wp_X7_enter x1 σ post) : Ct l yX7_enter wsX7_enter rm_X7_enter G (tyL tI tJ tZ) (wdM tI tJ tZ ad) (Ad 11 ad) [.ref (ad 0), .int x1] σ (Qi G (wdM tI tJ tZ ad) (Ad 11 ad) post) := by
  refine wm_entry (cc := cX7_enter) (maxL := 3) (ret := (some .int)) (own := RX7) (lv := [(0, .ref (ad 0)), (1, .int x1)]) (by decide +kernel) rfl rfl (Nat.le_of_ble_eq_true rfl) rfl hD ?_
  intro p e s m below meth c X hr
  unfold wp_X7_enter at h
  refine wm_iconst (v := 0) X (by decide) dX7_enter_0 ?_
  refine wm_istore_n (lv' := [(2, .int 0), (0, .ref (ad 0)), (1, .int x1)]) X rfl (by decide) rfl dX7_enter_1 ?_
  refine wm_sub [1, 2, 0] (lv' := [(0, .ref (ad 0)), (1, .int x1), (2, .int 0)]) rfl ?_
  obtain ⟨n0, h⟩ := h
  exact w_X7_enter_2 hD X hr n0 x1 0 σ h
/-! X7_leave -/
abbrev rm_X7_leave : Room := { frames := 0, cells := 0, slots := 0, locals := 0 }
def jn_X7_leave_103 (post : Int32 → St → Prop) (K6 : Int32 → Int32 → Int32 → Int32 → Int32 → St → Prop) (x1 : Int32) (x2 : Int32) (x3 : Int32) (x4 : Int32) (x5 : Int32) (x6 : Int64) (s0 : Int64) (σ : St) : Prop :=
  (x4 < 0 → ∀ v2 : Int32, v2 = x5 + 1 → K6 x1 x2 x3 x5 v2 σ) ∧ (¬ x4 < 0 → (x6 < s0 → ∀ v5 : Int32, v5 = x5 + 1 → K6 x1 x2 x3 x5 v5 σ) ∧ (¬ x6 < s0 → (¬ x6 = s0 → ∀ v8 : Int32, v8 = x5 + 1 → K6 x1 x2 x3 x4 v8 σ) ∧ (x6 = s0 → vp_in x5 10 ∧ (vp_in x4 10 ∧ (((gA σ 5 (Int32.toNatClampNeg x4)) ≤ (gA σ 5 (Int32.toNatClampNeg x5)) → ∀ v11 : Int32, v11 = x5 + 1 → K6 x1 x2 x3 x4 v11 σ) ∧ (¬ (gA σ 5 (Int32.toNatClampNeg x4)) ≤ (gA σ 5 (Int32.toNatClampNeg x5)) → ∀ v13 : Int32, v13 = x5 + 1 → K6 x1 x2 x3 x5 v13 σ))))))
def jn_X7_leave_65 (post : Int32 → St → Prop) (K6 : Int32 → Int32 → Int32 → Int32 → Int32 → St → Prop) (x1 : Int32) (x2 : Int32) (x3 : Int32) (x4 : Int32) (x5 : Int32) (s0 : Int64) (σ : St) : Prop :=
  (0 ≤ x4 → vp_in (((32 * x4) + x3) - 1) 800 ∧ (vp_in ((32 * x5) + x1) 800 ∧ jn_X7_leave_103 post K6 x1 x2 x3 x4 x5 s0 ((gB σ 0 (Int32.toNatClampNeg (((32 * x4) + x3) - 1))) * (gB σ 0 (Int32.toNatClampNeg ((32 * x5) + x1)))) σ)) ∧ (¬ 0 ≤ x4 → jn_X7_leave_103 post K6 x1 x2 x3 x4 x5 s0 0 σ)
def lp_X7_leave_6 (post : Int32 → St → Prop)  : Nat → Int32 → Int32 → Int32 → Int32 → Int32 → St → Prop
  | 0, _, _, _, _, _, _ => False
  | n + 1, x1, x2, x3, x4, x5, σ =>
  (x2 ≤ x5 → post x4 σ) ∧ (¬ x2 ≤ x5 → vp_in ((32 * x5) + x1) 800 ∧ (((gB σ 0 (Int32.toNatClampNeg ((32 * x5) + x1))) ≤ 0 → ∀ v3 : Int32, v3 = x5 + 1 → lp_X7_leave_6 post n x1 x2 x3 x4 v3 σ) ∧ (¬ (gB σ 0 (Int32.toNatClampNeg ((32 * x5) + x1))) ≤ 0 → (0 ≤ x4 → vp_in (((32 * x5) + x3) - 1) 800 ∧ (vp_in ((32 * x4) + x1) 800 ∧ jn_X7_leave_65 post (lp_X7_leave_6 post n) x1 x2 x3 x4 x5 ((gB σ 0 (Int32.toNatClampNeg (((32 * x5) + x3) - 1))) * (gB σ 0 (Int32.toNatClampNeg ((32 * x4) + x1)))) σ)) ∧ (¬ 0 ≤ x4 → jn_X7_leave_65 post (lp_X7_leave_6 post n) x1 x2 x3 x4 x5 0 σ))))
def wp_X7_leave (x1 : Int32) (x2 : Int32) (x3 : Int32) (σ : St) (post : Int32 → St → Prop) : Prop :=
  ∃ fu : Nat, lp_X7_leave_6 post fu x1 x2 x3 (-1) 0 σ
set_option maxRecDepth 100000 in
set_option maxHeartbeats 4000000 in
theorem w_X7_leave_103 {p : Program} {l : Launch} {e : Env} {s : State} {m : MethodId} {args : Array Value} {below : List Frame} {meth : Method} {c : Code} {G : va_G} {tI tJ tZ : ClassId} {ad : Nat → Nat} (hD : ∀ σ, va_D (Ad 11 ad) (wdM tI tJ tZ ad σ)) (X : Cx p s m args meth c cX7_leave 10 RX7 wsX7_leave G (tyL tI tJ tZ) (wdM tI tJ tZ ad) (Ad 11 ad)) (hr : meth.sig.returnType = (some .int)) {post : Int32 → St → Prop} {K6 : Int32 → Int32 → Int32 → Int32 → Int32 → St → Prop} (hK6 : ∀ (x1 : Int32) (x2 : Int32) (x3 : Int32) (x4 : Int32) (x5 : Int32) (σ : St), K6 x1 x2 x3 x4 x5 σ → wm p l e rm_X7_leave s m args below meth c G (wdM tI tJ tZ ad) (Ad 11 ad) 10 (MQ below (Qi G (wdM tI tJ tZ ad) (Ad 11 ad) post) args s 0 0 (Ad 11 ad)) σ [(0, .ref (ad 0)), (1, .int x1), (2, .int x2), (3, .int x3), (4, .int x4), (5, .int x5)] 6 []) (x1 : Int32) (x2 : Int32) (x3 : Int32) (x4 : Int32) (x5 : Int32) (x6 : Int64) (s0 : Int64) (σ : St) (h : jn_X7_leave_103 post K6 x1 x2 x3 x4 x5 x6 s0 σ) : wm p l e rm_X7_leave s m args below meth c G (wdM tI tJ tZ ad) (Ad 11 ad) 10 (MQ below (Qi G (wdM tI tJ tZ ad) (Ad 11 ad) post) args s 0 0 (Ad 11 ad)) σ [(0, .ref (ad 0)), (1, .int x1), (2, .int x2), (3, .int x3), (4, .int x4), (5, .int x5), (6, .long x6)] 103 [.long s0] := by
  unfold jn_X7_leave_103 at h
  refine wm_lstore (lv' := [(8, .long s0), (0, .ref (ad 0)), (1, .int x1), (2, .int x2), (3, .int x3), (4, .int x4), (5, .int x5), (6, .long x6)]) X (by decide) rfl dX7_leave_103 ?_
  refine wm_iload X 5 rfl dX7_leave_105 ?_
  refine wm_if_lt (tgt := 143) X (by decide) dX7_leave_107 (fun c1 => ?_) (fun c1 => ?_)
  · replace h := h.1 c1
    refine wm_iload X 6 rfl dX7_leave_143 ?_
    refine wm_goto (tgt := 150) X (by decide) dX7_leave_145 ?_
    refine wm_istore (lv' := [(4, .int x5), (8, .long s0), (0, .ref (ad 0)), (1, .int x1), (2, .int x2), (3, .int x3), (5, .int x5), (6, .long x6)]) X (by decide) rfl dX7_leave_150 ?_
    obtain ⟨v2, e3⟩ : ∃ y : Int32, y = x5 + 1 := ⟨_, rfl⟩
    replace h := h v2 e3
    refine wm_iinc (v := v2) (lv' := [(5, .int v2), (4, .int x5), (8, .long s0), (0, .ref (ad 0)), (1, .int x1), (2, .int x2), (3, .int x3), (6, .long x6)]) X 6 rfl (by rw [e3]; rfl) (by decide) rfl dX7_leave_152 ?_
    clear e3
    refine wm_goto (tgt := 6) X (by decide) dX7_leave_155 ?_
    refine wm_sub [3, 4, 5, 6, 1, 0] (lv' := [(0, .ref (ad 0)), (1, .int x1), (2, .int x2), (3, .int x3), (4, .int x5), (5, .int v2)]) rfl ?_
    exact hK6 x1 x2 x3 x5 v2 σ h
  · replace h := h.2 c1
    refine wm_lload X 7 rfl dX7_leave_110 ?_
    refine wm_lload X 0 rfl dX7_leave_112 ?_
    refine wm_lcmp X dX7_leave_114 ?_
    refine wm_if_lt (tgt := 143) X (by decide) dX7_leave_115 (fun c4 => ?_) (fun c4 => ?_)
    · replace h := h.1 ((lc_lt _ _).mp c4)
      refine wm_iload X 6 rfl dX7_leave_143 ?_
      refine wm_goto (tgt := 150) X (by decide) dX7_leave_145 ?_
      refine wm_istore (lv' := [(4, .int x5), (8, .long s0), (0, .ref (ad 0)), (1, .int x1), (2, .int x2), (3, .int x3), (5, .int x5), (6, .long x6)]) X (by decide) rfl dX7_leave_150 ?_
      obtain ⟨v5, e6⟩ : ∃ y : Int32, y = x5 + 1 := ⟨_, rfl⟩
      replace h := h v5 e6
      refine wm_iinc (v := v5) (lv' := [(5, .int v5), (4, .int x5), (8, .long s0), (0, .ref (ad 0)), (1, .int x1), (2, .int x2), (3, .int x3), (6, .long x6)]) X 6 rfl (by rw [e6]; rfl) (by decide) rfl dX7_leave_152 ?_
      clear e6
      refine wm_goto (tgt := 6) X (by decide) dX7_leave_155 ?_
      refine wm_sub [3, 4, 5, 6, 1, 0] (lv' := [(0, .ref (ad 0)), (1, .int x1), (2, .int x2), (3, .int x3), (4, .int x5), (5, .int v5)]) rfl ?_
      exact hK6 x1 x2 x3 x5 v5 σ h
    · replace h := h.2 ((lc_nlt _ _).mp c4)
      refine wm_lload X 7 rfl dX7_leave_118 ?_
      refine wm_lload X 0 rfl dX7_leave_120 ?_
      refine wm_lcmp X dX7_leave_122 ?_
      refine wm_if_ne (tgt := 148) X (by decide) dX7_leave_123 (fun c7 => ?_) (fun c7 => ?_)
      · replace h := h.1 ((lc_ne _ _).mp c7)
        refine wm_iload X 5 rfl dX7_leave_148 ?_
        refine wm_istore (lv' := [(4, .int x4), (8, .long s0), (0, .ref (ad 0)), (1, .int x1), (2, .int x2), (3, .int x3), (5, .int x5), (6, .long x6)]) X (by decide) rfl dX7_leave_150 ?_
        obtain ⟨v8, e9⟩ : ∃ y : Int32, y = x5 + 1 := ⟨_, rfl⟩
        replace h := h v8 e9
        refine wm_iinc (v := v8) (lv' := [(5, .int v8), (4, .int x4), (8, .long s0), (0, .ref (ad 0)), (1, .int x1), (2, .int x2), (3, .int x3), (6, .long x6)]) X 6 rfl (by rw [e9]; rfl) (by decide) rfl dX7_leave_152 ?_
        clear e9
        refine wm_goto (tgt := 6) X (by decide) dX7_leave_155 ?_
        refine wm_sub [3, 4, 5, 6, 1, 0] (lv' := [(0, .ref (ad 0)), (1, .int x1), (2, .int x2), (3, .int x3), (4, .int x4), (5, .int v8)]) rfl ?_
        exact hK6 x1 x2 x3 x4 v8 σ h
      · replace h := h.2 ((lc_nne _ _).mp c7)
        refine wm_aload_n X 1 rfl dX7_leave_126 ?_
        refine wm_get X (by decide +kernel) 0 rfl rfl 11 (by decide) (by decide +kernel) rfl dX7_leave_127 ?_
        refine wm_iload X 6 rfl dX7_leave_130 ?_
        refine wm_iald X 7 0 rfl rfl h.1 dX7_leave_132 ?_
        replace h := h.2
        refine wm_aload_n X 1 rfl dX7_leave_133 ?_
        refine wm_get X (by decide +kernel) 0 rfl rfl 11 (by decide) (by decide +kernel) rfl dX7_leave_134 ?_
        refine wm_iload X 5 rfl dX7_leave_137 ?_
        refine wm_iald X 7 0 rfl rfl h.1 dX7_leave_139 ?_
        replace h := h.2
        refine wm_icmp_ge (tgt := 148) X (by decide) dX7_leave_140 (fun c10 => ?_) (fun c10 => ?_)
        · replace h := h.1 c10
          refine wm_iload X 5 rfl dX7_leave_148 ?_
          refine wm_istore (lv' := [(4, .int x4), (8, .long s0), (0, .ref (ad 0)), (1, .int x1), (2, .int x2), (3, .int x3), (5, .int x5), (6, .long x6)]) X (by decide) rfl dX7_leave_150 ?_
          obtain ⟨v11, e12⟩ : ∃ y : Int32, y = x5 + 1 := ⟨_, rfl⟩
          replace h := h v11 e12
          refine wm_iinc (v := v11) (lv' := [(5, .int v11), (4, .int x4), (8, .long s0), (0, .ref (ad 0)), (1, .int x1), (2, .int x2), (3, .int x3), (6, .long x6)]) X 6 rfl (by rw [e12]; rfl) (by decide) rfl dX7_leave_152 ?_
          clear e12
          refine wm_goto (tgt := 6) X (by decide) dX7_leave_155 ?_
          refine wm_sub [3, 4, 5, 6, 1, 0] (lv' := [(0, .ref (ad 0)), (1, .int x1), (2, .int x2), (3, .int x3), (4, .int x4), (5, .int v11)]) rfl ?_
          exact hK6 x1 x2 x3 x4 v11 σ h
        · replace h := h.2 c10
          refine wm_iload X 6 rfl dX7_leave_143 ?_
          refine wm_goto (tgt := 150) X (by decide) dX7_leave_145 ?_
          refine wm_istore (lv' := [(4, .int x5), (8, .long s0), (0, .ref (ad 0)), (1, .int x1), (2, .int x2), (3, .int x3), (5, .int x5), (6, .long x6)]) X (by decide) rfl dX7_leave_150 ?_
          obtain ⟨v13, e14⟩ : ∃ y : Int32, y = x5 + 1 := ⟨_, rfl⟩
          replace h := h v13 e14
          refine wm_iinc (v := v13) (lv' := [(5, .int v13), (4, .int x5), (8, .long s0), (0, .ref (ad 0)), (1, .int x1), (2, .int x2), (3, .int x3), (6, .long x6)]) X 6 rfl (by rw [e14]; rfl) (by decide) rfl dX7_leave_152 ?_
          clear e14
          refine wm_goto (tgt := 6) X (by decide) dX7_leave_155 ?_
          refine wm_sub [3, 4, 5, 6, 1, 0] (lv' := [(0, .ref (ad 0)), (1, .int x1), (2, .int x2), (3, .int x3), (4, .int x5), (5, .int v13)]) rfl ?_
          exact hK6 x1 x2 x3 x5 v13 σ h
set_option maxRecDepth 100000 in
set_option maxHeartbeats 4000000 in
theorem w_X7_leave_65 {p : Program} {l : Launch} {e : Env} {s : State} {m : MethodId} {args : Array Value} {below : List Frame} {meth : Method} {c : Code} {G : va_G} {tI tJ tZ : ClassId} {ad : Nat → Nat} (hD : ∀ σ, va_D (Ad 11 ad) (wdM tI tJ tZ ad σ)) (X : Cx p s m args meth c cX7_leave 10 RX7 wsX7_leave G (tyL tI tJ tZ) (wdM tI tJ tZ ad) (Ad 11 ad)) (hr : meth.sig.returnType = (some .int)) {post : Int32 → St → Prop} {K6 : Int32 → Int32 → Int32 → Int32 → Int32 → St → Prop} (hK6 : ∀ (x1 : Int32) (x2 : Int32) (x3 : Int32) (x4 : Int32) (x5 : Int32) (σ : St), K6 x1 x2 x3 x4 x5 σ → wm p l e rm_X7_leave s m args below meth c G (wdM tI tJ tZ ad) (Ad 11 ad) 10 (MQ below (Qi G (wdM tI tJ tZ ad) (Ad 11 ad) post) args s 0 0 (Ad 11 ad)) σ [(0, .ref (ad 0)), (1, .int x1), (2, .int x2), (3, .int x3), (4, .int x4), (5, .int x5)] 6 []) (x1 : Int32) (x2 : Int32) (x3 : Int32) (x4 : Int32) (x5 : Int32) (s0 : Int64) (σ : St) (h : jn_X7_leave_65 post K6 x1 x2 x3 x4 x5 s0 σ) : wm p l e rm_X7_leave s m args below meth c G (wdM tI tJ tZ ad) (Ad 11 ad) 10 (MQ below (Qi G (wdM tI tJ tZ ad) (Ad 11 ad) post) args s 0 0 (Ad 11 ad)) σ [(0, .ref (ad 0)), (1, .int x1), (2, .int x2), (3, .int x3), (4, .int x4), (5, .int x5)] 65 [.long s0] := by
  unfold jn_X7_leave_65 at h
  refine wm_lstore (lv' := [(6, .long s0), (0, .ref (ad 0)), (1, .int x1), (2, .int x2), (3, .int x3), (4, .int x4), (5, .int x5)]) X (by decide) rfl dX7_leave_65 ?_
  refine wm_iload X 5 rfl dX7_leave_67 ?_
  refine wm_if_ge (tgt := 76) X (by decide) dX7_leave_69 (fun c1 => ?_) (fun c1 => ?_)
  · replace h := h.1 c1
    refine wm_aload_n X 1 rfl dX7_leave_76 ?_
    refine wm_get X (by decide +kernel) 0 rfl rfl 8 (by decide) (by decide +kernel) rfl dX7_leave_77 ?_
    refine wm_bipush (v := 32) X (by decide) dX7_leave_80 ?_
    refine wm_iload X 5 rfl dX7_leave_82 ?_
    refine wm_imul X dX7_leave_84 ?_
    refine wm_iload_n X 4 rfl dX7_leave_85 ?_
    refine wm_iadd X dX7_leave_86 ?_
    refine wm_iconst (v := 1) X (by decide) dX7_leave_87 ?_
    refine wm_isub X dX7_leave_88 ?_
    refine wm_lald X 6 1 rfl rfl h.1 dX7_leave_89 ?_
    replace h := h.2
    refine wm_aload_n X 1 rfl dX7_leave_90 ?_
    refine wm_get X (by decide +kernel) 0 rfl rfl 8 (by decide) (by decide +kernel) rfl dX7_leave_91 ?_
    refine wm_bipush (v := 32) X (by decide) dX7_leave_94 ?_
    refine wm_iload X 6 rfl dX7_leave_96 ?_
    refine wm_imul X dX7_leave_98 ?_
    refine wm_iload_n X 2 rfl dX7_leave_99 ?_
    refine wm_iadd X dX7_leave_100 ?_
    refine wm_lald X 6 1 rfl rfl h.1 dX7_leave_101 ?_
    replace h := h.2
    refine wm_lmul X dX7_leave_102 ?_
    refine wm_sub [1, 2, 3, 4, 5, 6, 0] (lv' := [(0, .ref (ad 0)), (1, .int x1), (2, .int x2), (3, .int x3), (4, .int x4), (5, .int x5), (6, .long s0)]) rfl ?_
    exact w_X7_leave_103 hD X hr hK6 x1 x2 x3 x4 x5 s0 ((gB σ 0 (Int32.toNatClampNeg (((32 * x4) + x3) - 1))) * (gB σ 0 (Int32.toNatClampNeg ((32 * x5) + x1)))) σ h
  · replace h := h.2 c1
    refine wm_lconst (v := 0) X (by decide) dX7_leave_72 ?_
    refine wm_goto (tgt := 103) X (by decide) dX7_leave_73 ?_
    refine wm_sub [1, 2, 3, 4, 5, 6, 0] (lv' := [(0, .ref (ad 0)), (1, .int x1), (2, .int x2), (3, .int x3), (4, .int x4), (5, .int x5), (6, .long s0)]) rfl ?_
    exact w_X7_leave_103 hD X hr hK6 x1 x2 x3 x4 x5 s0 0 σ h
set_option maxRecDepth 100000 in
set_option maxHeartbeats 4000000 in
theorem w_X7_leave_6 {p : Program} {l : Launch} {e : Env} {s : State} {m : MethodId} {args : Array Value} {below : List Frame} {meth : Method} {c : Code} {G : va_G} {tI tJ tZ : ClassId} {ad : Nat → Nat} (hD : ∀ σ, va_D (Ad 11 ad) (wdM tI tJ tZ ad σ)) (X : Cx p s m args meth c cX7_leave 10 RX7 wsX7_leave G (tyL tI tJ tZ) (wdM tI tJ tZ ad) (Ad 11 ad)) (hr : meth.sig.returnType = (some .int)) {post : Int32 → St → Prop}  : ∀ (n : Nat) (x1 : Int32) (x2 : Int32) (x3 : Int32) (x4 : Int32) (x5 : Int32) (σ : St), lp_X7_leave_6 post n x1 x2 x3 x4 x5 σ → wm p l e rm_X7_leave s m args below meth c G (wdM tI tJ tZ ad) (Ad 11 ad) 10 (MQ below (Qi G (wdM tI tJ tZ ad) (Ad 11 ad) post) args s 0 0 (Ad 11 ad)) σ [(0, .ref (ad 0)), (1, .int x1), (2, .int x2), (3, .int x3), (4, .int x4), (5, .int x5)] 6 [] := by
  intro n
  induction n with
  | zero => intro x1 x2 x3 x4 x5 σ h; exact h.elim
  | succ n ih =>
    intro x1 x2 x3 x4 x5 σ h
    unfold lp_X7_leave_6 at h
    refine wm_iload X 5 rfl dX7_leave_6 ?_
    refine wm_iload_n X 2 rfl dX7_leave_8 ?_
    refine wm_icmp_ge (tgt := 158) X (by decide) dX7_leave_9 (fun c1 => ?_) (fun c1 => ?_)
    · replace h := h.1 c1
      refine wm_iload X 4 rfl dX7_leave_158 ?_
      exact wm_iret X hr h dX7_leave_160
    · replace h := h.2 c1
      refine wm_aload_n X 0 rfl dX7_leave_12 ?_
      refine wm_get X (by decide +kernel) 0 rfl rfl 8 (by decide) (by decide +kernel) rfl dX7_leave_13 ?_
      refine wm_bipush (v := 32) X (by decide) dX7_leave_16 ?_
      refine wm_iload X 5 rfl dX7_leave_18 ?_
      refine wm_imul X dX7_leave_20 ?_
      refine wm_iload_n X 1 rfl dX7_leave_21 ?_
      refine wm_iadd X dX7_leave_22 ?_
      refine wm_lald X 6 1 rfl rfl h.1 dX7_leave_23 ?_
      replace h := h.2
      refine wm_lconst (v := 0) X (by decide) dX7_leave_24 ?_
      refine wm_lcmp X dX7_leave_25 ?_
      refine wm_if_le (tgt := 152) X (by decide) dX7_leave_26 (fun c2 => ?_) (fun c2 => ?_)
      · replace h := h.1 ((lc_le _ _).mp c2)
        obtain ⟨v3, e4⟩ : ∃ y : Int32, y = x5 + 1 := ⟨_, rfl⟩
        replace h := h v3 e4
        refine wm_iinc (v := v3) (lv' := [(5, .int v3), (0, .ref (ad 0)), (1, .int x1), (2, .int x2), (3, .int x3), (4, .int x4)]) X 5 rfl (by rw [e4]; rfl) (by decide) rfl dX7_leave_152 ?_
        clear e4
        refine wm_goto (tgt := 6) X (by decide) dX7_leave_155 ?_
        refine wm_sub [1, 2, 3, 4, 5, 0] (lv' := [(0, .ref (ad 0)), (1, .int x1), (2, .int x2), (3, .int x3), (4, .int x4), (5, .int v3)]) rfl ?_
        exact ih x1 x2 x3 x4 v3 σ h
      · replace h := h.2 ((lc_nle _ _).mp c2)
        refine wm_iload X 4 rfl dX7_leave_29 ?_
        refine wm_if_ge (tgt := 38) X (by decide) dX7_leave_31 (fun c5 => ?_) (fun c5 => ?_)
        · replace h := h.1 c5
          refine wm_aload_n X 0 rfl dX7_leave_38 ?_
          refine wm_get X (by decide +kernel) 0 rfl rfl 8 (by decide) (by decide +kernel) rfl dX7_leave_39 ?_
          refine wm_bipush (v := 32) X (by decide) dX7_leave_42 ?_
          refine wm_iload X 5 rfl dX7_leave_44 ?_
          refine wm_imul X dX7_leave_46 ?_
          refine wm_iload_n X 3 rfl dX7_leave_47 ?_
          refine wm_iadd X dX7_leave_48 ?_
          refine wm_iconst (v := 1) X (by decide) dX7_leave_49 ?_
          refine wm_isub X dX7_leave_50 ?_
          refine wm_lald X 6 1 rfl rfl h.1 dX7_leave_51 ?_
          replace h := h.2
          refine wm_aload_n X 0 rfl dX7_leave_52 ?_
          refine wm_get X (by decide +kernel) 0 rfl rfl 8 (by decide) (by decide +kernel) rfl dX7_leave_53 ?_
          refine wm_bipush (v := 32) X (by decide) dX7_leave_56 ?_
          refine wm_iload X 4 rfl dX7_leave_58 ?_
          refine wm_imul X dX7_leave_60 ?_
          refine wm_iload_n X 1 rfl dX7_leave_61 ?_
          refine wm_iadd X dX7_leave_62 ?_
          refine wm_lald X 6 1 rfl rfl h.1 dX7_leave_63 ?_
          replace h := h.2
          refine wm_lmul X dX7_leave_64 ?_
          exact w_X7_leave_65 hD X hr ih x1 x2 x3 x4 x5 ((gB σ 0 (Int32.toNatClampNeg (((32 * x5) + x3) - 1))) * (gB σ 0 (Int32.toNatClampNeg ((32 * x4) + x1)))) σ h
        · replace h := h.2 c5
          refine wm_lconst (v := 0) X (by decide) dX7_leave_34 ?_
          refine wm_goto (tgt := 65) X (by decide) dX7_leave_35 ?_
          exact w_X7_leave_65 hD X hr ih x1 x2 x3 x4 x5 0 σ h
set_option maxRecDepth 100000 in
set_option maxHeartbeats 4000000 in
theorem c_X7_leave (l : Launch) (G : va_G) (tI tJ tZ : ClassId) (ad : Nat → Nat) (hD : ∀ σ, va_D (Ad 11 ad) (wdM tI tJ tZ ad σ)) (x1 : Int32) (x2 : Int32) (x3 : Int32) (σ : St) (post : Int32 → St → Prop) (h : wp_X7_leave x1 x2 x3 σ post) : Ct l yX7_leave wsX7_leave rm_X7_leave G (tyL tI tJ tZ) (wdM tI tJ tZ ad) (Ad 11 ad) [.ref (ad 0), .int x1, .int x2, .int x3] σ (Qi G (wdM tI tJ tZ ad) (Ad 11 ad) post) := by
  refine wm_entry (cc := cX7_leave) (maxL := 10) (ret := (some .int)) (own := RX7) (lv := [(0, .ref (ad 0)), (1, .int x1), (2, .int x2), (3, .int x3)]) (by decide +kernel) rfl rfl (Nat.le_of_ble_eq_true rfl) rfl hD ?_
  intro p e s m below meth c X hr
  unfold wp_X7_leave at h
  refine wm_iconst (v := (-1)) X (by decide) dX7_leave_0 ?_
  refine wm_istore (lv' := [(4, .int (-1)), (0, .ref (ad 0)), (1, .int x1), (2, .int x2), (3, .int x3)]) X (by decide) rfl dX7_leave_1 ?_
  refine wm_iconst (v := 0) X (by decide) dX7_leave_3 ?_
  refine wm_istore (lv' := [(5, .int 0), (4, .int (-1)), (0, .ref (ad 0)), (1, .int x1), (2, .int x2), (3, .int x3)]) X (by decide) rfl dX7_leave_4 ?_
  refine wm_sub [2, 3, 4, 5, 1, 0] (lv' := [(0, .ref (ad 0)), (1, .int x1), (2, .int x2), (3, .int x3), (4, .int (-1)), (5, .int 0)]) rfl ?_
  obtain ⟨n0, h⟩ := h
  exact w_X7_leave_6 hD X hr n0 x1 x2 x3 (-1) 0 σ h
/-! X7_doFit -/
abbrev rm_X7_doFit : Room := { frames := 1, cells := 0, slots := 0, locals := 29 }
def jn_X7_doFit_134 (post : Int32 → St → Prop) (K22 : Int32 → Int32 → Int32 → Int32 → St → Prop) (x1 : Int32) (x2 : Int32) (x3 : Int32) (x4 : Int32) (σ : St) : Prop :=
  vp_in (gI σ 3) 10 ∧ (∀ σ1 : St, σ1 = sA σ 5 (Int32.toNatClampNeg (gI σ 3)) ((gI σ 0) + (gI σ 3)) → ∀ σ3 : St, σ3 = sI σ1 3 ((gI σ1 3) + 1) → ∀ v5 : Int32, v5 = x4 + 1 → K22 x1 x2 x3 v5 σ3)
def lp_X7_doFit_44 (post : Int32 → St → Prop) (K22 : Int32 → Int32 → Int32 → Int32 → St → Prop) : Nat → Int32 → Int32 → Int32 → Int32 → Int32 → St → Prop
  | 0, _, _, _, _, _, _ => False
  | n + 1, x1, x2, x3, x4, x5, σ =>
  (x3 ≤ x5 → jn_X7_doFit_134 post K22 x1 x2 x3 x4 σ) ∧ (¬ x3 ≤ x5 → ((gI σ 0) ≤ x5 → (¬ x5 = ((gI σ 0) + (gI σ 3)) → (¬ x5 = (x3 - 1) → vp_in ((32 * (gI σ 3)) + x5) 800 ∧ (∀ σ5 : St, σ5 = sB σ 0 (Int32.toNatClampNeg ((32 * (gI σ 3)) + x5)) 0 → ∀ v7 : Int32, v7 = x5 + 1 → lp_X7_doFit_44 post K22 n x1 x2 x3 x4 v7 σ5)) ∧ (x5 = (x3 - 1) → vp_in x4 10 ∧ (vp_in ((32 * (gI σ 3)) + x5) 800 ∧ (∀ σ9 : St, σ9 = sB σ 0 (Int32.toNatClampNeg ((32 * (gI σ 3)) + x5)) (Int32.toInt64 (gA σ 1 (Int32.toNatClampNeg x4))) → ∀ v11 : Int32, v11 = x5 + 1 → lp_X7_doFit_44 post K22 n x1 x2 x3 x4 v11 σ9)))) ∧ (x5 = ((gI σ 0) + (gI σ 3)) → vp_in ((32 * (gI σ 3)) + x5) 800 ∧ (∀ σ13 : St, σ13 = sB σ 0 (Int32.toNatClampNeg ((32 * (gI σ 3)) + x5)) 1 → ∀ v15 : Int32, v15 = x5 + 1 → lp_X7_doFit_44 post K22 n x1 x2 x3 x4 v15 σ13))) ∧ (¬ (gI σ 0) ≤ x5 → vp_in x4 10 ∧ (vp_in ((32 * (gI σ 3)) + x5) 800 ∧ (∀ σ17 : St, σ17 = sB σ 0 (Int32.toNatClampNeg ((32 * (gI σ 3)) + x5)) (Int32.toInt64 (((gA σ 0 (Int32.toNatClampNeg x4)) >>> (x5 &&& 31)) &&& 1)) → ∀ v19 : Int32, v19 = x5 + 1 → lp_X7_doFit_44 post K22 n x1 x2 x3 x4 v19 σ17))))
def jn_X7_doFit_208 (post : Int32 → St → Prop) (K171 : Int32 → Int32 → Int32 → St → Prop) (K183 : Int32 → Int32 → Int32 → Int64 → Int32 → St → Prop) (x2 : Int32) (x3 : Int32) (x4 : Int32) (x7 : Int32) (s0 : Int64) (σ : St) : Prop :=
  vp_in ((32 * x7) + x4) 800 ∧ (∀ v1 : Int64, v1 = s0 + (gB σ 0 (Int32.toNatClampNeg ((32 * x7) + x4))) → ∀ v3 : Int32, v3 = x7 + 1 → K183 x2 x3 x4 v1 v3 σ)
def jn_X7_doFit_234 (post : Int32 → St → Prop) (K171 : Int32 → Int32 → Int32 → St → Prop) (x2 : Int32) (x3 : Int32) (x4 : Int32) (x5 : Int64) (σ : St) : Prop :=
  vp_in ((32 * x2) + x4) 800 ∧ (∀ σ1 : St, σ1 = sB σ 0 (Int32.toNatClampNeg ((32 * x2) + x4)) x5 → ∀ v3 : Int32, v3 = x4 + 1 → K171 x2 x3 v3 σ1)
def lp_X7_doFit_183 (post : Int32 → St → Prop) (K171 : Int32 → Int32 → Int32 → St → Prop) : Nat → Int32 → Int32 → Int32 → Int64 → Int32 → St → Prop
  | 0, _, _, _, _, _, _ => False
  | n + 1, x2, x3, x4, x5, x7, σ =>
  (x2 ≤ x7 → jn_X7_doFit_234 post K171 x2 x3 x4 x5 σ) ∧ (¬ x2 ≤ x7 → (x4 < (gI σ 0) → jn_X7_doFit_208 post K171 (lp_X7_doFit_183 post K171 n) x2 x3 x4 x7 x5 σ) ∧ (¬ x4 < (gI σ 0) → (¬ x4 = (x3 - 1) → ∀ v4 : Int64, v4 = x5 + 0 → ∀ v6 : Int32, v6 = x7 + 1 → lp_X7_doFit_183 post K171 n x2 x3 x4 v4 v6 σ) ∧ (x4 = (x3 - 1) → jn_X7_doFit_208 post K171 (lp_X7_doFit_183 post K171 n) x2 x3 x4 x7 x5 σ)))
def jn_X7_doFit_316 (post : Int32 → St → Prop)  (x2 : Int32) (x3 : Int32) (σ : St) : Prop :=
  vp_in (((32 * x2) + x3) - 1) 800 ∧ ((¬ (lg_cmp (gB σ 0 (Int32.toNatClampNeg (((32 * x2) + x3) - 1))) 0) = 0 → post 0 σ) ∧ ((lg_cmp (gB σ 0 (Int32.toNatClampNeg (((32 * x2) + x3) - 1))) 0) = 0 → post 1 σ))
def lp_X7_doFit_273 (post : Int32 → St → Prop)  : Nat → Int32 → Int32 → Int32 → St → Prop
  | 0, _, _, _, _ => False
  | n + 1, x2, x3, x4, σ =>
  (x4 < 0 → jn_X7_doFit_316 post x2 x3 σ) ∧ (¬ x4 < 0 → wp_X7_leave x4 x2 x3 σ (fun r2 σ3 => vp_in r2 10 ∧ (∀ σ4 : St, σ4 = sA σ3 5 (Int32.toNatClampNeg r2) x4 → wp_X7_pivot r2 x4 x3 σ4 (fun σ7 => wp_X7_enter x2 σ7 (fun r8 σ9 => lp_X7_doFit_273 post n x2 x3 r8 σ9)))))
def jn_X7_doFit_254 (post : Int32 → St → Prop)  (x2 : Int32) (x3 : Int32) (σ : St) : Prop :=
  ∀ σ1 : St, σ1 = sI σ 3 (x2 + 1) → ∀ σ3 : St, σ3 = sL σ1 0 1 → wp_X7_enter x2 σ3 (fun r5 σ6 => ∃ fu : Nat, lp_X7_doFit_273 post fu x2 x3 r5 σ6)
def lp_X7_doFit_171 (post : Int32 → St → Prop)  : Nat → Int32 → Int32 → Int32 → St → Prop
  | 0, _, _, _, _ => False
  | n + 1, x2, x3, x4, σ =>
  (x3 ≤ x4 → jn_X7_doFit_254 post x2 x3 σ) ∧ (¬ x3 ≤ x4 → ∃ fu : Nat, lp_X7_doFit_183 post (lp_X7_doFit_171 post n) fu x2 x3 x4 0 0 σ)
def lp_X7_doFit_22 (post : Int32 → St → Prop)  : Nat → Int32 → Int32 → Int32 → Int32 → St → Prop
  | 0, _, _, _, _, _ => False
  | n + 1, x1, x2, x3, x4, σ =>
  ((gI σ 1) ≤ x4 → ∃ fu : Nat, lp_X7_doFit_171 post fu x2 x3 0 σ) ∧ (¬ (gI σ 1) ≤ x4 → (¬ ((x1 >>> (x4 &&& 31)) &&& 1) = 1 → ∀ v3 : Int32, v3 = x4 + 1 → lp_X7_doFit_22 post n x1 x2 x3 v3 σ) ∧ (((x1 >>> (x4 &&& 31)) &&& 1) = 1 → ∃ fu : Nat, lp_X7_doFit_44 post (lp_X7_doFit_22 post n) fu x1 x2 x3 x4 0 σ))
def wp_X7_doFit (x1 : Int32) (σ : St) (post : Int32 → St → Prop) : Prop :=
  wp_X7_bits x1 σ (fun r1 σ2 => ∀ σ3 : St, σ3 = sI σ2 3 0 → ∀ v5 : Int32, v5 = ((gI σ3 0) + r1) + 1 → ∃ fu : Nat, lp_X7_doFit_22 post fu x1 r1 v5 0 σ3)
set_option maxRecDepth 100000 in
set_option maxHeartbeats 4000000 in
theorem w_X7_doFit_134 {p : Program} {l : Launch} {e : Env} {s : State} {m : MethodId} {args : Array Value} {below : List Frame} {meth : Method} {c : Code} {G : va_G} {tI tJ tZ : ClassId} {ad : Nat → Nat} (hD : ∀ σ, va_D (Ad 11 ad) (wdM tI tJ tZ ad σ)) (X : Cx p s m args meth c cX7_doFit 8 RX7 wsX7_doFit G (tyL tI tJ tZ) (wdM tI tJ tZ ad) (Ad 11 ad)) (hr : meth.sig.returnType = (some .boolean)) {post : Int32 → St → Prop} {K22 : Int32 → Int32 → Int32 → Int32 → St → Prop} (hK22 : ∀ (x1 : Int32) (x2 : Int32) (x3 : Int32) (x4 : Int32) (σ : St), K22 x1 x2 x3 x4 σ → wm p l e rm_X7_doFit s m args below meth c G (wdM tI tJ tZ ad) (Ad 11 ad) 8 (MQ below (Qi G (wdM tI tJ tZ ad) (Ad 11 ad) post) args s 0 0 (Ad 11 ad)) σ [(0, .ref (ad 0)), (1, .int x1), (2, .int x2), (3, .int x3), (4, .int x4)] 22 []) (x1 : Int32) (x2 : Int32) (x3 : Int32) (x4 : Int32) (σ : St) (h : jn_X7_doFit_134 post K22 x1 x2 x3 x4 σ) : wm p l e rm_X7_doFit s m args below meth c G (wdM tI tJ tZ ad) (Ad 11 ad) 8 (MQ below (Qi G (wdM tI tJ tZ ad) (Ad 11 ad) post) args s 0 0 (Ad 11 ad)) σ [(0, .ref (ad 0)), (1, .int x1), (2, .int x2), (3, .int x3), (4, .int x4)] 134 [] := by
  unfold jn_X7_doFit_134 at h
  refine wm_aload_n X 0 rfl dX7_doFit_134 ?_
  refine wm_get X (by decide +kernel) 0 rfl rfl 11 (by decide) (by decide +kernel) rfl dX7_doFit_135 ?_
  refine wm_aload_n X 0 rfl dX7_doFit_138 ?_
  refine wm_get X (by decide +kernel) 0 rfl rfl 9 (by decide) (by decide +kernel) rfl dX7_doFit_139 ?_
  refine wm_aload_n X 0 rfl dX7_doFit_142 ?_
  refine wm_get X (by decide +kernel) 0 rfl rfl 0 (by decide) (by decide +kernel) rfl dX7_doFit_143 ?_
  refine wm_aload_n X 0 rfl dX7_doFit_146 ?_
  refine wm_get X (by decide +kernel) 0 rfl rfl 9 (by decide) (by decide +kernel) rfl dX7_doFit_147 ?_
  refine wm_iadd X dX7_doFit_150 ?_
  refine wm_iast (σ' := sA σ 5 (Int32.toNatClampNeg (gI σ 3)) ((gI σ 0) + (gI σ 3))) X 7 0 rfl rfl h.1 rfl dX7_doFit_151 ?_
  replace h := h.2
  refine wm_nmS (fun σ1 e2 => ?_)
  replace h := h σ1 e2
  clear e2
  refine wm_aload_n X 0 rfl dX7_doFit_152 ?_
  refine wm_dup X rfl dX7_doFit_153 ?_
  refine wm_get X (by decide +kernel) 0 rfl rfl 9 (by decide) (by decide +kernel) rfl dX7_doFit_154 ?_
  refine wm_iconst (v := 1) X (by decide) dX7_doFit_157 ?_
  refine wm_iadd X dX7_doFit_158 ?_
  refine wm_put (σ' := sI σ1 3 ((gI σ1 3) + 1)) X (by decide +kernel) tyX7 tyX7_ok nmX7 0 rfl rfl 9 (by decide) (by decide +kernel) rfl (tyX7_ok 9 (by decide)) rfl rfl (Nat.le_of_ble_eq_true rfl) rfl dX7_doFit_159 ?_
  refine wm_nmS (fun σ3 e4 => ?_)
  replace h := h σ3 e4
  clear e4
  obtain ⟨v5, e6⟩ : ∃ y : Int32, y = x4 + 1 := ⟨_, rfl⟩
  replace h := h v5 e6
  refine wm_iinc (v := v5) (lv' := [(4, .int v5), (0, .ref (ad 0)), (1, .int x1), (2, .int x2), (3, .int x3)]) X 4 rfl (by rw [e6]; rfl) (by decide) rfl dX7_doFit_162 ?_
  clear e6
  refine wm_goto (tgt := 22) X (by decide) dX7_doFit_165 ?_
  refine wm_sub [1, 2, 3, 4, 0] (lv' := [(0, .ref (ad 0)), (1, .int x1), (2, .int x2), (3, .int x3), (4, .int v5)]) rfl ?_
  exact hK22 x1 x2 x3 v5 σ3 h
set_option maxRecDepth 100000 in
set_option maxHeartbeats 4000000 in
theorem w_X7_doFit_44 {p : Program} {l : Launch} {e : Env} {s : State} {m : MethodId} {args : Array Value} {below : List Frame} {meth : Method} {c : Code} {G : va_G} {tI tJ tZ : ClassId} {ad : Nat → Nat} (hD : ∀ σ, va_D (Ad 11 ad) (wdM tI tJ tZ ad σ)) (X : Cx p s m args meth c cX7_doFit 8 RX7 wsX7_doFit G (tyL tI tJ tZ) (wdM tI tJ tZ ad) (Ad 11 ad)) (hr : meth.sig.returnType = (some .boolean)) {post : Int32 → St → Prop} {K22 : Int32 → Int32 → Int32 → Int32 → St → Prop} (hK22 : ∀ (x1 : Int32) (x2 : Int32) (x3 : Int32) (x4 : Int32) (σ : St), K22 x1 x2 x3 x4 σ → wm p l e rm_X7_doFit s m args below meth c G (wdM tI tJ tZ ad) (Ad 11 ad) 8 (MQ below (Qi G (wdM tI tJ tZ ad) (Ad 11 ad) post) args s 0 0 (Ad 11 ad)) σ [(0, .ref (ad 0)), (1, .int x1), (2, .int x2), (3, .int x3), (4, .int x4)] 22 []) : ∀ (n : Nat) (x1 : Int32) (x2 : Int32) (x3 : Int32) (x4 : Int32) (x5 : Int32) (σ : St), lp_X7_doFit_44 post K22 n x1 x2 x3 x4 x5 σ → wm p l e rm_X7_doFit s m args below meth c G (wdM tI tJ tZ ad) (Ad 11 ad) 8 (MQ below (Qi G (wdM tI tJ tZ ad) (Ad 11 ad) post) args s 0 0 (Ad 11 ad)) σ [(0, .ref (ad 0)), (1, .int x1), (2, .int x2), (3, .int x3), (4, .int x4), (5, .int x5)] 44 [] := by
  intro n
  induction n with
  | zero => intro x1 x2 x3 x4 x5 σ h; exact h.elim
  | succ n ih =>
    intro x1 x2 x3 x4 x5 σ h
    unfold lp_X7_doFit_44 at h
    refine wm_iload X 5 rfl dX7_doFit_44 ?_
    refine wm_iload_n X 3 rfl dX7_doFit_46 ?_
    refine wm_icmp_ge (tgt := 134) X (by decide) dX7_doFit_47 (fun c1 => ?_) (fun c1 => ?_)
    · replace h := h.1 c1
      refine wm_sub [0, 1, 2, 3, 4] (lv' := [(0, .ref (ad 0)), (1, .int x1), (2, .int x2), (3, .int x3), (4, .int x4)]) rfl ?_
      exact w_X7_doFit_134 hD X hr hK22 x1 x2 x3 x4 σ h
    · replace h := h.2 c1
      refine wm_aload_n X 0 rfl dX7_doFit_50 ?_
      refine wm_get X (by decide +kernel) 0 rfl rfl 8 (by decide) (by decide +kernel) rfl dX7_doFit_51 ?_
      refine wm_bipush (v := 32) X (by decide) dX7_doFit_54 ?_
      refine wm_aload_n X 0 rfl dX7_doFit_56 ?_
      refine wm_get X (by decide +kernel) 0 rfl rfl 9 (by decide) (by decide +kernel) rfl dX7_doFit_57 ?_
      refine wm_imul X dX7_doFit_60 ?_
      refine wm_iload X 5 rfl dX7_doFit_61 ?_
      refine wm_iadd X dX7_doFit_63 ?_
      refine wm_iload X 5 rfl dX7_doFit_64 ?_
      refine wm_aload_n X 0 rfl dX7_doFit_66 ?_
      refine wm_get X (by decide +kernel) 0 rfl rfl 0 (by decide) (by decide +kernel) rfl dX7_doFit_67 ?_
      refine wm_icmp_ge (tgt := 89) X (by decide) dX7_doFit_70 (fun c2 => ?_) (fun c2 => ?_)
      · replace h := h.1 c2
        refine wm_iload X 5 rfl dX7_doFit_89 ?_
        refine wm_aload_n X 0 rfl dX7_doFit_91 ?_
        refine wm_get X (by decide +kernel) 0 rfl rfl 0 (by decide) (by decide +kernel) rfl dX7_doFit_92 ?_
        refine wm_aload_n X 0 rfl dX7_doFit_95 ?_
        refine wm_get X (by decide +kernel) 0 rfl rfl 9 (by decide) (by decide +kernel) rfl dX7_doFit_96 ?_
        refine wm_iadd X dX7_doFit_99 ?_
        refine wm_icmp_ne (tgt := 107) X (by decide) dX7_doFit_100 (fun c3 => ?_) (fun c3 => ?_)
        · replace h := h.1 c3
          refine wm_iload X 5 rfl dX7_doFit_107 ?_
          refine wm_iload_n X 3 rfl dX7_doFit_109 ?_
          refine wm_iconst (v := 1) X (by decide) dX7_doFit_110 ?_
          refine wm_isub X dX7_doFit_111 ?_
          refine wm_icmp_ne (tgt := 126) X (by decide) dX7_doFit_112 (fun c4 => ?_) (fun c4 => ?_)
          · replace h := h.1 c4
            refine wm_lconst (v := 0) X (by decide) dX7_doFit_126 ?_
            refine wm_last (σ' := sB σ 0 (Int32.toNatClampNeg ((32 * (gI σ 3)) + x5)) 0) X 6 1 rfl rfl h.1 rfl dX7_doFit_127 ?_
            replace h := h.2
            refine wm_nmS (fun σ5 e6 => ?_)
            replace h := h σ5 e6
            clear e6
            obtain ⟨v7, e8⟩ : ∃ y : Int32, y = x5 + 1 := ⟨_, rfl⟩
            replace h := h v7 e8
            refine wm_iinc (v := v7) (lv' := [(5, .int v7), (0, .ref (ad 0)), (1, .int x1), (2, .int x2), (3, .int x3), (4, .int x4)]) X 5 rfl (by rw [e8]; rfl) (by decide) rfl dX7_doFit_128 ?_
            clear e8
            refine wm_goto (tgt := 44) X (by decide) dX7_doFit_131 ?_
            refine wm_sub [1, 2, 3, 4, 5, 0] (lv' := [(0, .ref (ad 0)), (1, .int x1), (2, .int x2), (3, .int x3), (4, .int x4), (5, .int v7)]) rfl ?_
            exact ih x1 x2 x3 x4 v7 σ5 h
          · replace h := h.2 c4
            refine wm_aload_n X 0 rfl dX7_doFit_115 ?_
            refine wm_get X (by decide +kernel) 0 rfl rfl 2 (by decide) (by decide +kernel) rfl dX7_doFit_116 ?_
            refine wm_iload X 4 rfl dX7_doFit_119 ?_
            refine wm_iald X 2 0 rfl rfl h.1 dX7_doFit_121 ?_
            replace h := h.2
            refine wm_i2l X dX7_doFit_122 ?_
            refine wm_goto (tgt := 127) X (by decide) dX7_doFit_123 ?_
            refine wm_last (σ' := sB σ 0 (Int32.toNatClampNeg ((32 * (gI σ 3)) + x5)) (Int32.toInt64 (gA σ 1 (Int32.toNatClampNeg x4)))) X 6 1 rfl rfl h.1 rfl dX7_doFit_127 ?_
            replace h := h.2
            refine wm_nmS (fun σ9 e10 => ?_)
            replace h := h σ9 e10
            clear e10
            obtain ⟨v11, e12⟩ : ∃ y : Int32, y = x5 + 1 := ⟨_, rfl⟩
            replace h := h v11 e12
            refine wm_iinc (v := v11) (lv' := [(5, .int v11), (0, .ref (ad 0)), (1, .int x1), (2, .int x2), (3, .int x3), (4, .int x4)]) X 5 rfl (by rw [e12]; rfl) (by decide) rfl dX7_doFit_128 ?_
            clear e12
            refine wm_goto (tgt := 44) X (by decide) dX7_doFit_131 ?_
            refine wm_sub [1, 2, 3, 4, 5, 0] (lv' := [(0, .ref (ad 0)), (1, .int x1), (2, .int x2), (3, .int x3), (4, .int x4), (5, .int v11)]) rfl ?_
            exact ih x1 x2 x3 x4 v11 σ9 h
        · replace h := h.2 c3
          refine wm_lconst (v := 1) X (by decide) dX7_doFit_103 ?_
          refine wm_goto (tgt := 127) X (by decide) dX7_doFit_104 ?_
          refine wm_last (σ' := sB σ 0 (Int32.toNatClampNeg ((32 * (gI σ 3)) + x5)) 1) X 6 1 rfl rfl h.1 rfl dX7_doFit_127 ?_
          replace h := h.2
          refine wm_nmS (fun σ13 e14 => ?_)
          replace h := h σ13 e14
          clear e14
          obtain ⟨v15, e16⟩ : ∃ y : Int32, y = x5 + 1 := ⟨_, rfl⟩
          replace h := h v15 e16
          refine wm_iinc (v := v15) (lv' := [(5, .int v15), (0, .ref (ad 0)), (1, .int x1), (2, .int x2), (3, .int x3), (4, .int x4)]) X 5 rfl (by rw [e16]; rfl) (by decide) rfl dX7_doFit_128 ?_
          clear e16
          refine wm_goto (tgt := 44) X (by decide) dX7_doFit_131 ?_
          refine wm_sub [1, 2, 3, 4, 5, 0] (lv' := [(0, .ref (ad 0)), (1, .int x1), (2, .int x2), (3, .int x3), (4, .int x4), (5, .int v15)]) rfl ?_
          exact ih x1 x2 x3 x4 v15 σ13 h
      · replace h := h.2 c2
        refine wm_aload_n X 0 rfl dX7_doFit_73 ?_
        refine wm_get X (by decide +kernel) 0 rfl rfl 1 (by decide) (by decide +kernel) rfl dX7_doFit_74 ?_
        refine wm_iload X 4 rfl dX7_doFit_77 ?_
        refine wm_iald X 1 0 rfl rfl h.1 dX7_doFit_79 ?_
        replace h := h.2
        refine wm_iload X 5 rfl dX7_doFit_80 ?_
        refine wm_ishr X dX7_doFit_82 ?_
        refine wm_iconst (v := 1) X (by decide) dX7_doFit_83 ?_
        refine wm_iand X dX7_doFit_84 ?_
        refine wm_i2l X dX7_doFit_85 ?_
        refine wm_goto (tgt := 127) X (by decide) dX7_doFit_86 ?_
        refine wm_last (σ' := sB σ 0 (Int32.toNatClampNeg ((32 * (gI σ 3)) + x5)) (Int32.toInt64 (((gA σ 0 (Int32.toNatClampNeg x4)) >>> (x5 &&& 31)) &&& 1))) X 6 1 rfl rfl h.1 rfl dX7_doFit_127 ?_
        replace h := h.2
        refine wm_nmS (fun σ17 e18 => ?_)
        replace h := h σ17 e18
        clear e18
        obtain ⟨v19, e20⟩ : ∃ y : Int32, y = x5 + 1 := ⟨_, rfl⟩
        replace h := h v19 e20
        refine wm_iinc (v := v19) (lv' := [(5, .int v19), (0, .ref (ad 0)), (1, .int x1), (2, .int x2), (3, .int x3), (4, .int x4)]) X 5 rfl (by rw [e20]; rfl) (by decide) rfl dX7_doFit_128 ?_
        clear e20
        refine wm_goto (tgt := 44) X (by decide) dX7_doFit_131 ?_
        refine wm_sub [1, 2, 3, 4, 5, 0] (lv' := [(0, .ref (ad 0)), (1, .int x1), (2, .int x2), (3, .int x3), (4, .int x4), (5, .int v19)]) rfl ?_
        exact ih x1 x2 x3 x4 v19 σ17 h
set_option maxRecDepth 100000 in
set_option maxHeartbeats 4000000 in
theorem w_X7_doFit_208 {p : Program} {l : Launch} {e : Env} {s : State} {m : MethodId} {args : Array Value} {below : List Frame} {meth : Method} {c : Code} {G : va_G} {tI tJ tZ : ClassId} {ad : Nat → Nat} (hD : ∀ σ, va_D (Ad 11 ad) (wdM tI tJ tZ ad σ)) (X : Cx p s m args meth c cX7_doFit 8 RX7 wsX7_doFit G (tyL tI tJ tZ) (wdM tI tJ tZ ad) (Ad 11 ad)) (hr : meth.sig.returnType = (some .boolean)) {post : Int32 → St → Prop} {K171 : Int32 → Int32 → Int32 → St → Prop} {K183 : Int32 → Int32 → Int32 → Int64 → Int32 → St → Prop} (hK171 : ∀ (x2 : Int32) (x3 : Int32) (x4 : Int32) (σ : St), K171 x2 x3 x4 σ → wm p l e rm_X7_doFit s m args below meth c G (wdM tI tJ tZ ad) (Ad 11 ad) 8 (MQ below (Qi G (wdM tI tJ tZ ad) (Ad 11 ad) post) args s 0 0 (Ad 11 ad)) σ [(0, .ref (ad 0)), (2, .int x2), (3, .int x3), (4, .int x4)] 171 []) (hK183 : ∀ (x2 : Int32) (x3 : Int32) (x4 : Int32) (x5 : Int64) (x7 : Int32) (σ : St), K183 x2 x3 x4 x5 x7 σ → wm p l e rm_X7_doFit s m args below meth c G (wdM tI tJ tZ ad) (Ad 11 ad) 8 (MQ below (Qi G (wdM tI tJ tZ ad) (Ad 11 ad) post) args s 0 0 (Ad 11 ad)) σ [(0, .ref (ad 0)), (2, .int x2), (3, .int x3), (4, .int x4), (5, .long x5), (7, .int x7)] 183 []) (x2 : Int32) (x3 : Int32) (x4 : Int32) (x7 : Int32) (s0 : Int64) (σ : St) (h : jn_X7_doFit_208 post K171 K183 x2 x3 x4 x7 s0 σ) : wm p l e rm_X7_doFit s m args below meth c G (wdM tI tJ tZ ad) (Ad 11 ad) 8 (MQ below (Qi G (wdM tI tJ tZ ad) (Ad 11 ad) post) args s 0 0 (Ad 11 ad)) σ [(0, .ref (ad 0)), (2, .int x2), (3, .int x3), (4, .int x4), (7, .int x7)] 208 [.long s0] := by
  unfold jn_X7_doFit_208 at h
  refine wm_aload_n X 0 rfl dX7_doFit_208 ?_
  refine wm_get X (by decide +kernel) 0 rfl rfl 8 (by decide) (by decide +kernel) rfl dX7_doFit_209 ?_
  refine wm_bipush (v := 32) X (by decide) dX7_doFit_212 ?_
  refine wm_iload X 4 rfl dX7_doFit_214 ?_
  refine wm_imul X dX7_doFit_216 ?_
  refine wm_iload X 3 rfl dX7_doFit_217 ?_
  refine wm_iadd X dX7_doFit_219 ?_
  refine wm_lald X 6 1 rfl rfl h.1 dX7_doFit_220 ?_
  replace h := h.2
  refine wm_goto (tgt := 225) X (by decide) dX7_doFit_221 ?_
  refine wm_ladd X dX7_doFit_225 ?_
  refine wm_nmL (fun v1 e2 => ?_)
  replace h := h v1 e2
  clear e2
  refine wm_lstore (lv' := [(5, .long v1), (0, .ref (ad 0)), (2, .int x2), (3, .int x3), (4, .int x4), (7, .int x7)]) X (by decide) rfl dX7_doFit_226 ?_
  obtain ⟨v3, e4⟩ : ∃ y : Int32, y = x7 + 1 := ⟨_, rfl⟩
  replace h := h v3 e4
  refine wm_iinc (v := v3) (lv' := [(7, .int v3), (5, .long v1), (0, .ref (ad 0)), (2, .int x2), (3, .int x3), (4, .int x4)]) X 5 rfl (by rw [e4]; rfl) (by decide) rfl dX7_doFit_228 ?_
  clear e4
  refine wm_goto (tgt := 183) X (by decide) dX7_doFit_231 ?_
  refine wm_sub [2, 3, 4, 5, 1, 0] (lv' := [(0, .ref (ad 0)), (2, .int x2), (3, .int x3), (4, .int x4), (5, .long v1), (7, .int v3)]) rfl ?_
  exact hK183 x2 x3 x4 v1 v3 σ h
set_option maxRecDepth 100000 in
set_option maxHeartbeats 4000000 in
theorem w_X7_doFit_234 {p : Program} {l : Launch} {e : Env} {s : State} {m : MethodId} {args : Array Value} {below : List Frame} {meth : Method} {c : Code} {G : va_G} {tI tJ tZ : ClassId} {ad : Nat → Nat} (hD : ∀ σ, va_D (Ad 11 ad) (wdM tI tJ tZ ad σ)) (X : Cx p s m args meth c cX7_doFit 8 RX7 wsX7_doFit G (tyL tI tJ tZ) (wdM tI tJ tZ ad) (Ad 11 ad)) (hr : meth.sig.returnType = (some .boolean)) {post : Int32 → St → Prop} {K171 : Int32 → Int32 → Int32 → St → Prop} (hK171 : ∀ (x2 : Int32) (x3 : Int32) (x4 : Int32) (σ : St), K171 x2 x3 x4 σ → wm p l e rm_X7_doFit s m args below meth c G (wdM tI tJ tZ ad) (Ad 11 ad) 8 (MQ below (Qi G (wdM tI tJ tZ ad) (Ad 11 ad) post) args s 0 0 (Ad 11 ad)) σ [(0, .ref (ad 0)), (2, .int x2), (3, .int x3), (4, .int x4)] 171 []) (x2 : Int32) (x3 : Int32) (x4 : Int32) (x5 : Int64) (σ : St) (h : jn_X7_doFit_234 post K171 x2 x3 x4 x5 σ) : wm p l e rm_X7_doFit s m args below meth c G (wdM tI tJ tZ ad) (Ad 11 ad) 8 (MQ below (Qi G (wdM tI tJ tZ ad) (Ad 11 ad) post) args s 0 0 (Ad 11 ad)) σ [(0, .ref (ad 0)), (2, .int x2), (3, .int x3), (4, .int x4), (5, .long x5)] 234 [] := by
  unfold jn_X7_doFit_234 at h
  refine wm_aload_n X 0 rfl dX7_doFit_234 ?_
  refine wm_get X (by decide +kernel) 0 rfl rfl 8 (by decide) (by decide +kernel) rfl dX7_doFit_235 ?_
  refine wm_bipush (v := 32) X (by decide) dX7_doFit_238 ?_
  refine wm_iload_n X 1 rfl dX7_doFit_240 ?_
  refine wm_imul X dX7_doFit_241 ?_
  refine wm_iload X 3 rfl dX7_doFit_242 ?_
  refine wm_iadd X dX7_doFit_244 ?_
  refine wm_lload X 4 rfl dX7_doFit_245 ?_
  refine wm_last (σ' := sB σ 0 (Int32.toNatClampNeg ((32 * x2) + x4)) x5) X 6 1 rfl rfl h.1 rfl dX7_doFit_247 ?_
  replace h := h.2
  refine wm_nmS (fun σ1 e2 => ?_)
  replace h := h σ1 e2
  clear e2
  obtain ⟨v3, e4⟩ : ∃ y : Int32, y = x4 + 1 := ⟨_, rfl⟩
  replace h := h v3 e4
  refine wm_iinc (v := v3) (lv' := [(4, .int v3), (0, .ref (ad 0)), (2, .int x2), (3, .int x3), (5, .long x5)]) X 3 rfl (by rw [e4]; rfl) (by decide) rfl dX7_doFit_248 ?_
  clear e4
  refine wm_goto (tgt := 171) X (by decide) dX7_doFit_251 ?_
  refine wm_sub [1, 2, 3, 0] (lv' := [(0, .ref (ad 0)), (2, .int x2), (3, .int x3), (4, .int v3)]) rfl ?_
  exact hK171 x2 x3 v3 σ1 h
set_option maxRecDepth 100000 in
set_option maxHeartbeats 4000000 in
theorem w_X7_doFit_183 {p : Program} {l : Launch} {e : Env} {s : State} {m : MethodId} {args : Array Value} {below : List Frame} {meth : Method} {c : Code} {G : va_G} {tI tJ tZ : ClassId} {ad : Nat → Nat} (hD : ∀ σ, va_D (Ad 11 ad) (wdM tI tJ tZ ad σ)) (X : Cx p s m args meth c cX7_doFit 8 RX7 wsX7_doFit G (tyL tI tJ tZ) (wdM tI tJ tZ ad) (Ad 11 ad)) (hr : meth.sig.returnType = (some .boolean)) {post : Int32 → St → Prop} {K171 : Int32 → Int32 → Int32 → St → Prop} (hK171 : ∀ (x2 : Int32) (x3 : Int32) (x4 : Int32) (σ : St), K171 x2 x3 x4 σ → wm p l e rm_X7_doFit s m args below meth c G (wdM tI tJ tZ ad) (Ad 11 ad) 8 (MQ below (Qi G (wdM tI tJ tZ ad) (Ad 11 ad) post) args s 0 0 (Ad 11 ad)) σ [(0, .ref (ad 0)), (2, .int x2), (3, .int x3), (4, .int x4)] 171 []) : ∀ (n : Nat) (x2 : Int32) (x3 : Int32) (x4 : Int32) (x5 : Int64) (x7 : Int32) (σ : St), lp_X7_doFit_183 post K171 n x2 x3 x4 x5 x7 σ → wm p l e rm_X7_doFit s m args below meth c G (wdM tI tJ tZ ad) (Ad 11 ad) 8 (MQ below (Qi G (wdM tI tJ tZ ad) (Ad 11 ad) post) args s 0 0 (Ad 11 ad)) σ [(0, .ref (ad 0)), (2, .int x2), (3, .int x3), (4, .int x4), (5, .long x5), (7, .int x7)] 183 [] := by
  intro n
  induction n with
  | zero => intro x2 x3 x4 x5 x7 σ h; exact h.elim
  | succ n ih =>
    intro x2 x3 x4 x5 x7 σ h
    unfold lp_X7_doFit_183 at h
    refine wm_iload X 5 rfl dX7_doFit_183 ?_
    refine wm_iload_n X 1 rfl dX7_doFit_185 ?_
    refine wm_icmp_ge (tgt := 234) X (by decide) dX7_doFit_186 (fun c1 => ?_) (fun c1 => ?_)
    · replace h := h.1 c1
      refine wm_sub [0, 1, 2, 3, 4] (lv' := [(0, .ref (ad 0)), (2, .int x2), (3, .int x3), (4, .int x4), (5, .long x5)]) rfl ?_
      exact w_X7_doFit_234 hD X hr hK171 x2 x3 x4 x5 σ h
    · replace h := h.2 c1
      refine wm_lload X 4 rfl dX7_doFit_189 ?_
      refine wm_iload X 3 rfl dX7_doFit_191 ?_
      refine wm_aload_n X 0 rfl dX7_doFit_193 ?_
      refine wm_get X (by decide +kernel) 0 rfl rfl 0 (by decide) (by decide +kernel) rfl dX7_doFit_194 ?_
      refine wm_icmp_lt (tgt := 208) X (by decide) dX7_doFit_197 (fun c2 => ?_) (fun c2 => ?_)
      · replace h := h.1 c2
        refine wm_sub [0, 1, 2, 3, 5] (lv' := [(0, .ref (ad 0)), (2, .int x2), (3, .int x3), (4, .int x4), (7, .int x7)]) rfl ?_
        exact w_X7_doFit_208 hD X hr hK171 ih x2 x3 x4 x7 x5 σ h
      · replace h := h.2 c2
        refine wm_iload X 3 rfl dX7_doFit_200 ?_
        refine wm_iload_n X 2 rfl dX7_doFit_202 ?_
        refine wm_iconst (v := 1) X (by decide) dX7_doFit_203 ?_
        refine wm_isub X dX7_doFit_204 ?_
        refine wm_icmp_ne (tgt := 224) X (by decide) dX7_doFit_205 (fun c3 => ?_) (fun c3 => ?_)
        · replace h := h.1 c3
          refine wm_lconst (v := 0) X (by decide) dX7_doFit_224 ?_
          refine wm_ladd X dX7_doFit_225 ?_
          refine wm_nmL (fun v4 e5 => ?_)
          replace h := h v4 e5
          clear e5
          refine wm_lstore (lv' := [(5, .long v4), (0, .ref (ad 0)), (2, .int x2), (3, .int x3), (4, .int x4), (7, .int x7)]) X (by decide) rfl dX7_doFit_226 ?_
          obtain ⟨v6, e7⟩ : ∃ y : Int32, y = x7 + 1 := ⟨_, rfl⟩
          replace h := h v6 e7
          refine wm_iinc (v := v6) (lv' := [(7, .int v6), (5, .long v4), (0, .ref (ad 0)), (2, .int x2), (3, .int x3), (4, .int x4)]) X 5 rfl (by rw [e7]; rfl) (by decide) rfl dX7_doFit_228 ?_
          clear e7
          refine wm_goto (tgt := 183) X (by decide) dX7_doFit_231 ?_
          refine wm_sub [2, 3, 4, 5, 1, 0] (lv' := [(0, .ref (ad 0)), (2, .int x2), (3, .int x3), (4, .int x4), (5, .long v4), (7, .int v6)]) rfl ?_
          exact ih x2 x3 x4 v4 v6 σ h
        · replace h := h.2 c3
          refine wm_sub [0, 1, 2, 3, 5] (lv' := [(0, .ref (ad 0)), (2, .int x2), (3, .int x3), (4, .int x4), (7, .int x7)]) rfl ?_
          exact w_X7_doFit_208 hD X hr hK171 ih x2 x3 x4 x7 x5 σ h
set_option maxRecDepth 100000 in
set_option maxHeartbeats 4000000 in
theorem w_X7_doFit_316 {p : Program} {l : Launch} {e : Env} {s : State} {m : MethodId} {args : Array Value} {below : List Frame} {meth : Method} {c : Code} {G : va_G} {tI tJ tZ : ClassId} {ad : Nat → Nat} (hD : ∀ σ, va_D (Ad 11 ad) (wdM tI tJ tZ ad σ)) (X : Cx p s m args meth c cX7_doFit 8 RX7 wsX7_doFit G (tyL tI tJ tZ) (wdM tI tJ tZ ad) (Ad 11 ad)) (hr : meth.sig.returnType = (some .boolean)) {post : Int32 → St → Prop}  (x2 : Int32) (x3 : Int32) (σ : St) (h : jn_X7_doFit_316 post x2 x3 σ) : wm p l e rm_X7_doFit s m args below meth c G (wdM tI tJ tZ ad) (Ad 11 ad) 8 (MQ below (Qi G (wdM tI tJ tZ ad) (Ad 11 ad) post) args s 0 0 (Ad 11 ad)) σ [(0, .ref (ad 0)), (2, .int x2), (3, .int x3)] 316 [] := by
  unfold jn_X7_doFit_316 at h
  refine wm_aload_n X 0 rfl dX7_doFit_316 ?_
  refine wm_get X (by decide +kernel) 0 rfl rfl 8 (by decide) (by decide +kernel) rfl dX7_doFit_317 ?_
  refine wm_bipush (v := 32) X (by decide) dX7_doFit_320 ?_
  refine wm_iload_n X 1 rfl dX7_doFit_322 ?_
  refine wm_imul X dX7_doFit_323 ?_
  refine wm_iload_n X 2 rfl dX7_doFit_324 ?_
  refine wm_iadd X dX7_doFit_325 ?_
  refine wm_iconst (v := 1) X (by decide) dX7_doFit_326 ?_
  refine wm_isub X dX7_doFit_327 ?_
  refine wm_lald X 6 1 rfl rfl h.1 dX7_doFit_328 ?_
  replace h := h.2
  refine wm_lconst (v := 0) X (by decide) dX7_doFit_329 ?_
  refine wm_lcmp X dX7_doFit_330 ?_
  refine wm_if_ne (tgt := 338) X (by decide) dX7_doFit_331 (fun c1 => ?_) (fun c1 => ?_)
  · replace h := h.1 c1
    refine wm_iconst (v := 0) X (by decide) dX7_doFit_338 ?_
    exact wm_zret X hr bz_0 h dX7_doFit_339
  · replace h := h.2 c1
    refine wm_iconst (v := 1) X (by decide) dX7_doFit_334 ?_
    refine wm_goto (tgt := 339) X (by decide) dX7_doFit_335 ?_
    exact wm_zret X hr bz_1 h dX7_doFit_339
set_option maxRecDepth 100000 in
set_option maxHeartbeats 4000000 in
theorem w_X7_doFit_273 {p : Program} {l : Launch} {e : Env} {s : State} {m : MethodId} {args : Array Value} {below : List Frame} {meth : Method} {c : Code} {G : va_G} {tI tJ tZ : ClassId} {ad : Nat → Nat} (hD : ∀ σ, va_D (Ad 11 ad) (wdM tI tJ tZ ad σ)) (X : Cx p s m args meth c cX7_doFit 8 RX7 wsX7_doFit G (tyL tI tJ tZ) (wdM tI tJ tZ ad) (Ad 11 ad)) (hr : meth.sig.returnType = (some .boolean)) {post : Int32 → St → Prop}  : ∀ (n : Nat) (x2 : Int32) (x3 : Int32) (x4 : Int32) (σ : St), lp_X7_doFit_273 post n x2 x3 x4 σ → wm p l e rm_X7_doFit s m args below meth c G (wdM tI tJ tZ ad) (Ad 11 ad) 8 (MQ below (Qi G (wdM tI tJ tZ ad) (Ad 11 ad) post) args s 0 0 (Ad 11 ad)) σ [(0, .ref (ad 0)), (2, .int x2), (3, .int x3), (4, .int x4)] 273 [] := by
  intro n
  induction n with
  | zero => intro x2 x3 x4 σ h; exact h.elim
  | succ n ih =>
    intro x2 x3 x4 σ h
    unfold lp_X7_doFit_273 at h
    refine wm_iload X 3 rfl dX7_doFit_273 ?_
    refine wm_if_lt (tgt := 316) X (by decide) dX7_doFit_275 (fun c1 => ?_) (fun c1 => ?_)
    · replace h := h.1 c1
      refine wm_sub [0, 1, 2] (lv' := [(0, .ref (ad 0)), (2, .int x2), (3, .int x3)]) rfl ?_
      exact w_X7_doFit_316 hD X hr x2 x3 σ h
    · replace h := h.2 c1
      refine wm_aload_n X 0 rfl dX7_doFit_278 ?_
      refine wm_iload X 3 rfl dX7_doFit_279 ?_
      refine wm_iload_n X 1 rfl dX7_doFit_281 ?_
      refine wm_iload_n X 2 rfl dX7_doFit_282 ?_
      refine wm_callVi (n := 3) (As := [.int x4, .int x2, .int x3]) (rest := []) X (c_X7_leave l G tI tJ tZ ad hD x4 x2 x3 σ _ h) gX7_doFit_X7_leave rfl ⟨rfl, rfl⟩ (by decide +kernel) ⟨Nat.le_of_ble_eq_true rfl, Nat.le_of_ble_eq_true rfl⟩ 0 rfl rfl rfl rfl rfl (Nat.le_of_ble_eq_true rfl) dX7_doFit_283 (fun r2 σ3 h => ?_)
      refine wm_istore (lv' := [(5, .int r2), (0, .ref (ad 0)), (2, .int x2), (3, .int x3), (4, .int x4)]) X (by decide) rfl dX7_doFit_286 ?_
      refine wm_aload_n X 1 rfl dX7_doFit_288 ?_
      refine wm_get X (by decide +kernel) 0 rfl rfl 11 (by decide) (by decide +kernel) rfl dX7_doFit_289 ?_
      refine wm_iload X 0 rfl dX7_doFit_292 ?_
      refine wm_iload X 4 rfl dX7_doFit_294 ?_
      refine wm_iast (σ' := sA σ3 5 (Int32.toNatClampNeg r2) x4) X 7 0 rfl rfl h.1 rfl dX7_doFit_296 ?_
      replace h := h.2
      refine wm_nmS (fun σ4 e5 => ?_)
      replace h := h σ4 e5
      clear e5
      refine wm_aload_n X 1 rfl dX7_doFit_297 ?_
      refine wm_iload X 0 rfl dX7_doFit_298 ?_
      refine wm_iload X 4 rfl dX7_doFit_300 ?_
      refine wm_iload_n X 3 rfl dX7_doFit_302 ?_
      refine wm_callVv (n := 3) (As := [.int r2, .int x4, .int x3]) (rest := []) X (c_X7_pivot l G tI tJ tZ ad hD r2 x4 x3 σ4 _ h) gX7_doFit_X7_pivot rfl ⟨rfl, rfl⟩ (by decide +kernel) ⟨Nat.le_of_ble_eq_true rfl, Nat.le_of_ble_eq_true rfl⟩ 0 rfl rfl rfl rfl rfl (Nat.le_of_ble_eq_true rfl) dX7_doFit_303 (fun σ7 h => ?_)
      refine wm_aload_n X 1 rfl dX7_doFit_306 ?_
      refine wm_iload_n X 2 rfl dX7_doFit_307 ?_
      refine wm_callVi (n := 1) (As := [.int x2]) (rest := []) X (c_X7_enter l G tI tJ tZ ad hD x2 σ7 _ h) gX7_doFit_X7_enter rfl ⟨rfl, rfl⟩ (by decide +kernel) ⟨Nat.le_of_ble_eq_true rfl, Nat.le_of_ble_eq_true rfl⟩ 0 rfl rfl rfl rfl rfl (Nat.le_of_ble_eq_true rfl) dX7_doFit_308 (fun r8 σ9 h => ?_)
      refine wm_istore (lv' := [(4, .int r8), (5, .int r2), (0, .ref (ad 0)), (2, .int x2), (3, .int x3)]) X (by decide) rfl dX7_doFit_311 ?_
      refine wm_goto (tgt := 273) X (by decide) dX7_doFit_313 ?_
      refine wm_sub [2, 3, 4, 0] (lv' := [(0, .ref (ad 0)), (2, .int x2), (3, .int x3), (4, .int r8)]) rfl ?_
      exact ih x2 x3 r8 σ9 h
set_option maxRecDepth 100000 in
set_option maxHeartbeats 4000000 in
theorem w_X7_doFit_254 {p : Program} {l : Launch} {e : Env} {s : State} {m : MethodId} {args : Array Value} {below : List Frame} {meth : Method} {c : Code} {G : va_G} {tI tJ tZ : ClassId} {ad : Nat → Nat} (hD : ∀ σ, va_D (Ad 11 ad) (wdM tI tJ tZ ad σ)) (X : Cx p s m args meth c cX7_doFit 8 RX7 wsX7_doFit G (tyL tI tJ tZ) (wdM tI tJ tZ ad) (Ad 11 ad)) (hr : meth.sig.returnType = (some .boolean)) {post : Int32 → St → Prop}  (x2 : Int32) (x3 : Int32) (σ : St) (h : jn_X7_doFit_254 post x2 x3 σ) : wm p l e rm_X7_doFit s m args below meth c G (wdM tI tJ tZ ad) (Ad 11 ad) 8 (MQ below (Qi G (wdM tI tJ tZ ad) (Ad 11 ad) post) args s 0 0 (Ad 11 ad)) σ [(0, .ref (ad 0)), (2, .int x2), (3, .int x3)] 254 [] := by
  unfold jn_X7_doFit_254 at h
  refine wm_aload_n X 0 rfl dX7_doFit_254 ?_
  refine wm_iload_n X 1 rfl dX7_doFit_255 ?_
  refine wm_iconst (v := 1) X (by decide) dX7_doFit_256 ?_
  refine wm_iadd X dX7_doFit_257 ?_
  refine wm_put (σ' := sI σ 3 (x2 + 1)) X (by decide +kernel) tyX7 tyX7_ok nmX7 0 rfl rfl 9 (by decide) (by decide +kernel) rfl (tyX7_ok 9 (by decide)) rfl rfl (Nat.le_of_ble_eq_true rfl) rfl dX7_doFit_258 ?_
  refine wm_nmS (fun σ1 e2 => ?_)
  replace h := h σ1 e2
  clear e2
  refine wm_aload_n X 0 rfl dX7_doFit_261 ?_
  refine wm_lconst (v := 1) X (by decide) dX7_doFit_262 ?_
  refine wm_put (σ' := sL σ1 0 1) X (by decide +kernel) tyX7 tyX7_ok nmX7 0 rfl rfl 10 (by decide) (by decide +kernel) rfl (tyX7_ok 10 (by decide)) rfl rfl (Nat.le_of_ble_eq_true rfl) rfl dX7_doFit_263 ?_
  refine wm_nmS (fun σ3 e4 => ?_)
  replace h := h σ3 e4
  clear e4
  refine wm_aload_n X 0 rfl dX7_doFit_266 ?_
  refine wm_iload_n X 1 rfl dX7_doFit_267 ?_
  refine wm_callVi (n := 1) (As := [.int x2]) (rest := []) X (c_X7_enter l G tI tJ tZ ad hD x2 σ3 _ h) gX7_doFit_X7_enter rfl ⟨rfl, rfl⟩ (by decide +kernel) ⟨Nat.le_of_ble_eq_true rfl, Nat.le_of_ble_eq_true rfl⟩ 0 rfl rfl rfl rfl rfl (Nat.le_of_ble_eq_true rfl) dX7_doFit_268 (fun r5 σ6 h => ?_)
  refine wm_istore (lv' := [(4, .int r5), (0, .ref (ad 0)), (2, .int x2), (3, .int x3)]) X (by decide) rfl dX7_doFit_271 ?_
  refine wm_sub [1, 2, 3, 0] (lv' := [(0, .ref (ad 0)), (2, .int x2), (3, .int x3), (4, .int r5)]) rfl ?_
  obtain ⟨n0, h⟩ := h
  exact w_X7_doFit_273 hD X hr n0 x2 x3 r5 σ6 h
set_option maxRecDepth 100000 in
set_option maxHeartbeats 4000000 in
theorem w_X7_doFit_171 {p : Program} {l : Launch} {e : Env} {s : State} {m : MethodId} {args : Array Value} {below : List Frame} {meth : Method} {c : Code} {G : va_G} {tI tJ tZ : ClassId} {ad : Nat → Nat} (hD : ∀ σ, va_D (Ad 11 ad) (wdM tI tJ tZ ad σ)) (X : Cx p s m args meth c cX7_doFit 8 RX7 wsX7_doFit G (tyL tI tJ tZ) (wdM tI tJ tZ ad) (Ad 11 ad)) (hr : meth.sig.returnType = (some .boolean)) {post : Int32 → St → Prop}  : ∀ (n : Nat) (x2 : Int32) (x3 : Int32) (x4 : Int32) (σ : St), lp_X7_doFit_171 post n x2 x3 x4 σ → wm p l e rm_X7_doFit s m args below meth c G (wdM tI tJ tZ ad) (Ad 11 ad) 8 (MQ below (Qi G (wdM tI tJ tZ ad) (Ad 11 ad) post) args s 0 0 (Ad 11 ad)) σ [(0, .ref (ad 0)), (2, .int x2), (3, .int x3), (4, .int x4)] 171 [] := by
  intro n
  induction n with
  | zero => intro x2 x3 x4 σ h; exact h.elim
  | succ n ih =>
    intro x2 x3 x4 σ h
    unfold lp_X7_doFit_171 at h
    refine wm_iload X 3 rfl dX7_doFit_171 ?_
    refine wm_iload_n X 2 rfl dX7_doFit_173 ?_
    refine wm_icmp_ge (tgt := 254) X (by decide) dX7_doFit_174 (fun c1 => ?_) (fun c1 => ?_)
    · replace h := h.1 c1
      refine wm_sub [0, 1, 2] (lv' := [(0, .ref (ad 0)), (2, .int x2), (3, .int x3)]) rfl ?_
      exact w_X7_doFit_254 hD X hr x2 x3 σ h
    · replace h := h.2 c1
      refine wm_lconst (v := 0) X (by decide) dX7_doFit_177 ?_
      refine wm_lstore (lv' := [(5, .long 0), (0, .ref (ad 0)), (2, .int x2), (3, .int x3), (4, .int x4)]) X (by decide) rfl dX7_doFit_178 ?_
      refine wm_iconst (v := 0) X (by decide) dX7_doFit_180 ?_
      refine wm_istore (lv' := [(7, .int 0), (5, .long 0), (0, .ref (ad 0)), (2, .int x2), (3, .int x3), (4, .int x4)]) X (by decide) rfl dX7_doFit_181 ?_
      refine wm_sub [2, 3, 4, 5, 1, 0] (lv' := [(0, .ref (ad 0)), (2, .int x2), (3, .int x3), (4, .int x4), (5, .long 0), (7, .int 0)]) rfl ?_
      obtain ⟨n0, h⟩ := h
      exact w_X7_doFit_183 hD X hr ih n0 x2 x3 x4 0 0 σ h
set_option maxRecDepth 100000 in
set_option maxHeartbeats 4000000 in
theorem w_X7_doFit_22 {p : Program} {l : Launch} {e : Env} {s : State} {m : MethodId} {args : Array Value} {below : List Frame} {meth : Method} {c : Code} {G : va_G} {tI tJ tZ : ClassId} {ad : Nat → Nat} (hD : ∀ σ, va_D (Ad 11 ad) (wdM tI tJ tZ ad σ)) (X : Cx p s m args meth c cX7_doFit 8 RX7 wsX7_doFit G (tyL tI tJ tZ) (wdM tI tJ tZ ad) (Ad 11 ad)) (hr : meth.sig.returnType = (some .boolean)) {post : Int32 → St → Prop}  : ∀ (n : Nat) (x1 : Int32) (x2 : Int32) (x3 : Int32) (x4 : Int32) (σ : St), lp_X7_doFit_22 post n x1 x2 x3 x4 σ → wm p l e rm_X7_doFit s m args below meth c G (wdM tI tJ tZ ad) (Ad 11 ad) 8 (MQ below (Qi G (wdM tI tJ tZ ad) (Ad 11 ad) post) args s 0 0 (Ad 11 ad)) σ [(0, .ref (ad 0)), (1, .int x1), (2, .int x2), (3, .int x3), (4, .int x4)] 22 [] := by
  intro n
  induction n with
  | zero => intro x1 x2 x3 x4 σ h; exact h.elim
  | succ n ih =>
    intro x1 x2 x3 x4 σ h
    unfold lp_X7_doFit_22 at h
    refine wm_iload X 4 rfl dX7_doFit_22 ?_
    refine wm_aload_n X 0 rfl dX7_doFit_24 ?_
    refine wm_get X (by decide +kernel) 0 rfl rfl 5 (by decide) (by decide +kernel) rfl dX7_doFit_25 ?_
    refine wm_icmp_ge (tgt := 168) X (by decide) dX7_doFit_28 (fun c1 => ?_) (fun c1 => ?_)
    · replace h := h.1 c1
      refine wm_iconst (v := 0) X (by decide) dX7_doFit_168 ?_
      refine wm_istore (lv' := [(4, .int 0), (0, .ref (ad 0)), (1, .int x1), (2, .int x2), (3, .int x3)]) X (by decide) rfl dX7_doFit_169 ?_
      refine wm_sub [1, 3, 4, 0] (lv' := [(0, .ref (ad 0)), (2, .int x2), (3, .int x3), (4, .int 0)]) rfl ?_
      obtain ⟨n0, h⟩ := h
      exact w_X7_doFit_171 hD X hr n0 x2 x3 0 σ h
    · replace h := h.2 c1
      refine wm_iload_n X 1 rfl dX7_doFit_31 ?_
      refine wm_iload X 4 rfl dX7_doFit_32 ?_
      refine wm_ishr X dX7_doFit_34 ?_
      refine wm_iconst (v := 1) X (by decide) dX7_doFit_35 ?_
      refine wm_iand X dX7_doFit_36 ?_
      refine wm_iconst (v := 1) X (by decide) dX7_doFit_37 ?_
      refine wm_icmp_ne (tgt := 162) X (by decide) dX7_doFit_38 (fun c2 => ?_) (fun c2 => ?_)
      · replace h := h.1 c2
        obtain ⟨v3, e4⟩ : ∃ y : Int32, y = x4 + 1 := ⟨_, rfl⟩
        replace h := h v3 e4
        refine wm_iinc (v := v3) (lv' := [(4, .int v3), (0, .ref (ad 0)), (1, .int x1), (2, .int x2), (3, .int x3)]) X 4 rfl (by rw [e4]; rfl) (by decide) rfl dX7_doFit_162 ?_
        clear e4
        refine wm_goto (tgt := 22) X (by decide) dX7_doFit_165 ?_
        refine wm_sub [1, 2, 3, 4, 0] (lv' := [(0, .ref (ad 0)), (1, .int x1), (2, .int x2), (3, .int x3), (4, .int v3)]) rfl ?_
        exact ih x1 x2 x3 v3 σ h
      · replace h := h.2 c2
        refine wm_iconst (v := 0) X (by decide) dX7_doFit_41 ?_
        refine wm_istore (lv' := [(5, .int 0), (0, .ref (ad 0)), (1, .int x1), (2, .int x2), (3, .int x3), (4, .int x4)]) X (by decide) rfl dX7_doFit_42 ?_
        refine wm_sub [1, 2, 3, 4, 5, 0] (lv' := [(0, .ref (ad 0)), (1, .int x1), (2, .int x2), (3, .int x3), (4, .int x4), (5, .int 0)]) rfl ?_
        obtain ⟨n0, h⟩ := h
        exact w_X7_doFit_44 hD X hr ih n0 x1 x2 x3 x4 0 σ h
set_option maxRecDepth 100000 in
set_option maxHeartbeats 4000000 in
theorem c_X7_doFit (l : Launch) (G : va_G) (tI tJ tZ : ClassId) (ad : Nat → Nat) (hD : ∀ σ, va_D (Ad 11 ad) (wdM tI tJ tZ ad σ)) (x1 : Int32) (σ : St) (post : Int32 → St → Prop) (h : wp_X7_doFit x1 σ post) : Ct l yX7_doFit wsX7_doFit rm_X7_doFit G (tyL tI tJ tZ) (wdM tI tJ tZ ad) (Ad 11 ad) [.ref (ad 0), .int x1] σ (Qi G (wdM tI tJ tZ ad) (Ad 11 ad) post) := by
  refine wm_entry (cc := cX7_doFit) (maxL := 8) (ret := (some .boolean)) (own := RX7) (lv := [(0, .ref (ad 0)), (1, .int x1)]) (by decide +kernel) rfl rfl (Nat.le_of_ble_eq_true rfl) rfl hD ?_
  intro p e s m below meth c X hr
  unfold wp_X7_doFit at h
  refine wm_iload_n X 1 rfl dX7_doFit_0 ?_
  refine wm_callSi (n := 1) (As := [.int x1]) (rest := []) X (c_X7_bits l G tI tJ tZ ad hD x1 σ _ h) gX7_doFit_X7_bits rfl ⟨rfl, rfl⟩ (by decide +kernel) ⟨Nat.le_of_ble_eq_true rfl, Nat.le_of_ble_eq_true rfl⟩ rfl rfl (Nat.le_of_ble_eq_true rfl) dX7_doFit_1 (fun r1 σ2 h => ?_)
  refine wm_istore_n (lv' := [(2, .int r1), (0, .ref (ad 0)), (1, .int x1)]) X rfl (by decide) rfl dX7_doFit_4 ?_
  refine wm_aload_n X 1 rfl dX7_doFit_5 ?_
  refine wm_iconst (v := 0) X (by decide) dX7_doFit_6 ?_
  refine wm_put (σ' := sI σ2 3 0) X (by decide +kernel) tyX7 tyX7_ok nmX7 0 rfl rfl 9 (by decide) (by decide +kernel) rfl (tyX7_ok 9 (by decide)) rfl rfl (Nat.le_of_ble_eq_true rfl) rfl dX7_doFit_7 ?_
  refine wm_nmS (fun σ3 e4 => ?_)
  replace h := h σ3 e4
  clear e4
  refine wm_aload_n X 1 rfl dX7_doFit_10 ?_
  refine wm_get X (by decide +kernel) 0 rfl rfl 0 (by decide) (by decide +kernel) rfl dX7_doFit_11 ?_
  refine wm_iload_n X 0 rfl dX7_doFit_14 ?_
  refine wm_iadd X dX7_doFit_15 ?_
  refine wm_iconst (v := 1) X (by decide) dX7_doFit_16 ?_
  refine wm_iadd X dX7_doFit_17 ?_
  refine wm_nmI (fun v5 e6 => ?_)
  replace h := h v5 e6
  clear e6
  refine wm_istore_n (lv' := [(3, .int v5), (2, .int r1), (0, .ref (ad 0)), (1, .int x1)]) X rfl (by decide) rfl dX7_doFit_18 ?_
  refine wm_iconst (v := 0) X (by decide) dX7_doFit_19 ?_
  refine wm_istore (lv' := [(4, .int 0), (3, .int v5), (2, .int r1), (0, .ref (ad 0)), (1, .int x1)]) X (by decide) rfl dX7_doFit_20 ?_
  refine wm_sub [3, 4, 2, 1, 0] (lv' := [(0, .ref (ad 0)), (1, .int x1), (2, .int r1), (3, .int v5), (4, .int 0)]) rfl ?_
  obtain ⟨n0, h⟩ := h
  exact w_X7_doFit_22 hD X hr n0 x1 r1 v5 0 σ3 h
