/-! X0_solve -/
abbrev rm_X0_solve : Room := { frames := 3, cells := 0, slots := 0, locals := 79 }
def jn_X0_solve_51 (post : Int32 → St → Prop)  (x2 : Int32) (s1 : Int32) (σ : St) : Prop :=
  bz s1 ∧ (∀ σ1 : St, σ1 = sI σ 11 s1 → ((gI σ1 11) = 0 → wp_X0_waysThatClash σ1 (fun r4 σ5 => ∀ σ6 : St, σ6 = sI σ5 12 r4 → ∀ σ8 : St, σ8 = sI σ6 10 x2 → bz (gI σ8 11) ∧ post (gI σ8 11) σ8)) ∧ (¬ (gI σ1 11) = 0 → wp_X0_dropSlacks σ1 (fun σ11 => ∀ σ12 : St, σ12 = sI σ11 10 x2 → bz (gI σ12 11) ∧ post (gI σ12 11) σ12)))
def wp_X0_solve (x2 : Int32) (σ : St) (post : Int32 → St → Prop) : Prop :=
  (¬ x2 = (gI σ 10) → wp_X0_load x2 σ (fun σ3 => wp_X0_setGoal 0 0 1 σ3 (fun σ5 => wp_X0_walkToLeast σ5 (fun σ7 => wp_X0_costOfColumn ((gI σ7 8) - 1) σ7 (fun r8 σ9 => (¬ r8 = 0 → jn_X0_solve_51 post x2 0 σ9) ∧ (r8 = 0 → jn_X0_solve_51 post x2 1 σ9)))))) ∧ (x2 = (gI σ 10) → bz (gI σ 11) ∧ post (gI σ 11) σ)
set_option maxRecDepth 100000 in
set_option maxHeartbeats 4000000 in
theorem w_X0_solve_51 {p : Program} {l : Launch} {e : Env} {s : State} {m : MethodId} {args : Array Value} {below : List Frame} {meth : Method} {c : Code} {G : va_G} {tI tJ tZ : ClassId} {ad : Nat → Nat} (hD : ∀ σ, va_D (Ad 22 ad) (wdC tI tJ tZ ad σ)) (X : Cx p s m args meth c cX0_solve 3 RX0 wsX0_solve G (tyL tI tJ tZ) (wdC tI tJ tZ ad) (Ad 22 ad)) (hr : meth.sig.returnType = (some .boolean)) {post : Int32 → St → Prop}  (x2 : Int32) (s1 : Int32) (σ : St) (h : jn_X0_solve_51 post x2 s1 σ) : wm p l e rm_X0_solve s m args below meth c G (wdC tI tJ tZ ad) (Ad 22 ad) 3 (MQ below (Qi G (wdC tI tJ tZ ad) (Ad 22 ad) post) args s 0 0 (Ad 22 ad)) σ [(0, .ref (ad 5)), (2, .int x2)] 51 [.int s1, .ref (ad 5)] := by
  unfold jn_X0_solve_51 at h
  refine wm_put (σ' := sI σ 11 s1) X (by decide +kernel) tyX0 tyX0_ok nmX0 5 rfl rfl 11 (by decide) (by decide +kernel) rfl (tyX0_ok 11 (by decide)) (bz_narrow h.1) (bz_fits h.1) (Nat.le_of_ble_eq_true rfl) rfl dX0_solve_51 ?_
  replace h := h.2
  refine wm_nmS (fun σ1 e2 => ?_)
  replace h := h σ1 e2
  clear e2
  refine wm_aload_n X 0 rfl dX0_solve_54 ?_
  refine wm_get X (by decide +kernel) 5 rfl rfl 11 (by decide) (by decide +kernel) rfl dX0_solve_55 ?_
  refine wm_if_eq (tgt := 68) X (by decide) dX0_solve_58 (fun c3 => ?_) (fun c3 => ?_)
  · replace h := h.1 c3
    refine wm_aload_n X 0 rfl dX0_solve_68 ?_
    refine wm_aload_n X 0 rfl dX0_solve_69 ?_
    refine wm_callVi (n := 0) (As := []) (rest := [.ref (ad 5)]) X (c_X0_waysThatClash l G tI tJ tZ ad hD σ1 _ h) gX0_solve_X0_waysThatClash rfl ⟨rfl, rfl⟩ (by decide +kernel) ⟨Nat.le_of_ble_eq_true rfl, Nat.le_of_ble_eq_true rfl⟩ 5 rfl rfl rfl rfl rfl (Nat.le_of_ble_eq_true rfl) dX0_solve_70 (fun r4 σ5 h => ?_)
    refine wm_put (σ' := sI σ5 12 r4) X (by decide +kernel) tyX0 tyX0_ok nmX0 5 rfl rfl 12 (by decide) (by decide +kernel) rfl (tyX0_ok 12 (by decide)) rfl rfl (Nat.le_of_ble_eq_true rfl) rfl dX0_solve_73 ?_
    refine wm_nmS (fun σ6 e7 => ?_)
    replace h := h σ6 e7
    clear e7
    refine wm_aload_n X 0 rfl dX0_solve_76 ?_
    refine wm_iload_n X 1 rfl dX0_solve_77 ?_
    refine wm_put (σ' := sI σ6 10 x2) X (by decide +kernel) tyX0 tyX0_ok nmX0 5 rfl rfl 10 (by decide) (by decide +kernel) rfl (tyX0_ok 10 (by decide)) rfl rfl (Nat.le_of_ble_eq_true rfl) rfl dX0_solve_78 ?_
    refine wm_nmS (fun σ8 e9 => ?_)
    replace h := h σ8 e9
    clear e9
    refine wm_aload_n X 0 rfl dX0_solve_81 ?_
    refine wm_get X (by decide +kernel) 5 rfl rfl 11 (by decide) (by decide +kernel) rfl dX0_solve_82 ?_
    exact wm_zret X hr h.1 h.2 dX0_solve_85
  · replace h := h.2 c3
    refine wm_aload_n X 0 rfl dX0_solve_61 ?_
    refine wm_callVv (n := 0) (As := []) (rest := []) X (c_X0_dropSlacks l G tI tJ tZ ad hD σ1 _ h) gX0_solve_X0_dropSlacks rfl ⟨rfl, rfl⟩ (by decide +kernel) ⟨Nat.le_of_ble_eq_true rfl, Nat.le_of_ble_eq_true rfl⟩ 5 rfl rfl rfl rfl rfl (Nat.le_of_ble_eq_true rfl) dX0_solve_62 (fun σ11 h => ?_)
    refine wm_goto (tgt := 76) X (by decide) dX0_solve_65 ?_
    refine wm_aload_n X 0 rfl dX0_solve_76 ?_
    refine wm_iload_n X 1 rfl dX0_solve_77 ?_
    refine wm_put (σ' := sI σ11 10 x2) X (by decide +kernel) tyX0 tyX0_ok nmX0 5 rfl rfl 10 (by decide) (by decide +kernel) rfl (tyX0_ok 10 (by decide)) rfl rfl (Nat.le_of_ble_eq_true rfl) rfl dX0_solve_78 ?_
    refine wm_nmS (fun σ12 e13 => ?_)
    replace h := h σ12 e13
    clear e13
    refine wm_aload_n X 0 rfl dX0_solve_81 ?_
    refine wm_get X (by decide +kernel) 5 rfl rfl 11 (by decide) (by decide +kernel) rfl dX0_solve_82 ?_
    exact wm_zret X hr h.1 h.2 dX0_solve_85
set_option maxRecDepth 100000 in
set_option maxHeartbeats 4000000 in
theorem c_X0_solve (l : Launch) (G : va_G) (tI tJ tZ : ClassId) (ad : Nat → Nat) (hD : ∀ σ, va_D (Ad 22 ad) (wdC tI tJ tZ ad σ)) (x2 : Int32) (σ : St) (post : Int32 → St → Prop) (h : wp_X0_solve x2 σ post) : Ct l yX0_solve wsX0_solve rm_X0_solve G (tyL tI tJ tZ) (wdC tI tJ tZ ad) (Ad 22 ad) [.ref (ad 5), .ref (ad 1), .int x2] σ (Qi G (wdC tI tJ tZ ad) (Ad 22 ad) post) := by
  refine wm_entry (cc := cX0_solve) (maxL := 3) (ret := (some .boolean)) (own := RX0) (lv := [(0, .ref (ad 5)), (1, .ref (ad 1)), (2, .int x2)]) (by decide +kernel) rfl rfl (Nat.le_of_ble_eq_true rfl) rfl hD ?_
  intro p e s m below meth c X hr
  unfold wp_X0_solve at h
  refine wm_iload_n X 2 rfl dX0_solve_0 ?_
  refine wm_aload_n X 0 rfl dX0_solve_1 ?_
  refine wm_get X (by decide +kernel) 5 rfl rfl 10 (by decide) (by decide +kernel) rfl dX0_solve_2 ?_
  refine wm_icmp_ne (tgt := 13) X (by decide) dX0_solve_5 (fun c1 => ?_) (fun c1 => ?_)
  · replace h := h.1 c1
    refine wm_aload_n X 0 rfl dX0_solve_13 ?_
    refine wm_aload_n X 1 rfl dX0_solve_14 ?_
    refine wm_iload_n X 2 rfl dX0_solve_15 ?_
    refine wm_callVv (n := 2) (As := [.ref (ad 1), .int x2]) (rest := []) X (c_X0_load l G tI tJ tZ ad hD x2 σ _ h) gX0_solve_X0_load rfl ⟨rfl, rfl⟩ (by decide +kernel) ⟨Nat.le_of_ble_eq_true rfl, Nat.le_of_ble_eq_true rfl⟩ 5 rfl rfl rfl rfl rfl (Nat.le_of_ble_eq_true rfl) dX0_solve_16 (fun σ3 h => ?_)
    refine wm_aload_n X 0 rfl dX0_solve_19 ?_
    refine wm_iconst (v := 0) X (by decide) dX0_solve_20 ?_
    refine wm_iconst (v := 0) X (by decide) dX0_solve_21 ?_
    refine wm_iconst (v := 1) X (by decide) dX0_solve_22 ?_
    refine wm_callVv (n := 3) (As := [.int 0, .int 0, .int 1]) (rest := []) X (c_X0_setGoal l G tI tJ tZ ad hD 0 0 1 σ3 _ h) gX0_solve_X0_setGoal rfl ⟨rfl, rfl⟩ (by decide +kernel) ⟨Nat.le_of_ble_eq_true rfl, Nat.le_of_ble_eq_true rfl⟩ 5 rfl rfl rfl rfl rfl (Nat.le_of_ble_eq_true rfl) dX0_solve_23 (fun σ5 h => ?_)
    refine wm_aload_n X 0 rfl dX0_solve_26 ?_
    refine wm_callVv (n := 0) (As := []) (rest := []) X (c_X0_walkToLeast l G tI tJ tZ ad hD σ5 _ h) gX0_solve_X0_walkToLeast rfl ⟨rfl, rfl⟩ (by decide +kernel) ⟨Nat.le_of_ble_eq_true rfl, Nat.le_of_ble_eq_true rfl⟩ 5 rfl rfl rfl rfl rfl (Nat.le_of_ble_eq_true rfl) dX0_solve_27 (fun σ7 h => ?_)
    refine wm_aload_n X 0 rfl dX0_solve_30 ?_
    refine wm_aload_n X 0 rfl dX0_solve_31 ?_
    refine wm_aload_n X 0 rfl dX0_solve_32 ?_
    refine wm_get X (by decide +kernel) 5 rfl rfl 7 (by decide) (by decide +kernel) rfl dX0_solve_33 ?_
    refine wm_iconst (v := 1) X (by decide) dX0_solve_36 ?_
    refine wm_isub X dX0_solve_37 ?_
    refine wm_callVl (n := 1) (As := [.int ((gI σ7 8) - 1)]) (rest := [.ref (ad 5)]) X (c_X0_costOfColumn l G tI tJ tZ ad hD ((gI σ7 8) - 1) σ7 _ h) gX0_solve_X0_costOfColumn rfl ⟨rfl, rfl⟩ (by decide +kernel) ⟨Nat.le_of_ble_eq_true rfl, Nat.le_of_ble_eq_true rfl⟩ 5 rfl rfl rfl rfl rfl (Nat.le_of_ble_eq_true rfl) dX0_solve_38 (fun r8 σ9 h => ?_)
    refine wm_lconst (v := 0) X (by decide) dX0_solve_41 ?_
    refine wm_lcmp X dX0_solve_42 ?_
    refine wm_if_ne (tgt := 50) X (by decide) dX0_solve_43 (fun c10 => ?_) (fun c10 => ?_)
    · replace h := h.1 ((lc_ne _ _).mp c10)
      refine wm_iconst (v := 0) X (by decide) dX0_solve_50 ?_
      refine wm_sub [0, 2] (lv' := [(0, .ref (ad 5)), (2, .int x2)]) rfl ?_
      exact w_X0_solve_51 hD X hr x2 0 σ9 h
    · replace h := h.2 ((lc_nne _ _).mp c10)
      refine wm_iconst (v := 1) X (by decide) dX0_solve_46 ?_
      refine wm_goto (tgt := 51) X (by decide) dX0_solve_47 ?_
      refine wm_sub [0, 2] (lv' := [(0, .ref (ad 5)), (2, .int x2)]) rfl ?_
      exact w_X0_solve_51 hD X hr x2 1 σ9 h
  · replace h := h.2 c1
    refine wm_aload_n X 0 rfl dX0_solve_8 ?_
    refine wm_get X (by decide +kernel) 5 rfl rfl 11 (by decide) (by decide +kernel) rfl dX0_solve_9 ?_
    exact wm_zret X hr h.1 h.2 dX0_solve_12
/-! X2_seenLines -/
abbrev rm_X2_seenLines : Room := { frames := 2, cells := 0, slots := 0, locals := 42 }
def lp_X2_seenLines_4 (post : Int32 → St → Prop)  : Nat → Int32 → Int32 → St → Prop
  | 0, _, _, _ => False
  | n + 1, x1, x2, σ =>
  ((gI σ 1) ≤ x2 → post x1 σ) ∧ (¬ (gI σ 1) ≤ x2 → wp_X2_isOn x2 σ (fun r2 σ3 => (r2 = 0 → ∀ v5 : Int32, v5 = x2 + 1 → lp_X2_seenLines_4 post n x1 v5 σ3) ∧ (¬ r2 = 0 → vp_in x2 10 ∧ (∀ v7 : Int32, v7 = x1 ||| (gA σ3 0 (Int32.toNatClampNeg x2)) → ∀ v9 : Int32, v9 = x2 + 1 → lp_X2_seenLines_4 post n v7 v9 σ3))))
def wp_X2_seenLines (σ : St) (post : Int32 → St → Prop) : Prop :=
  ∃ fu : Nat, lp_X2_seenLines_4 post fu 0 0 σ
set_option maxRecDepth 100000 in
set_option maxHeartbeats 4000000 in
theorem w_X2_seenLines_4 {p : Program} {l : Launch} {e : Env} {s : State} {m : MethodId} {args : Array Value} {below : List Frame} {meth : Method} {c : Code} {G : va_G} {tI tJ tZ : ClassId} {ad : Nat → Nat} (hD : ∀ σ, va_D (Ad 22 ad) (wdC tI tJ tZ ad σ)) (X : Cx p s m args meth c cX2_seenLines 3 RX2 wsX2_seenLines G (tyL tI tJ tZ) (wdC tI tJ tZ ad) (Ad 22 ad)) (hr : meth.sig.returnType = (some .int)) {post : Int32 → St → Prop}  : ∀ (n : Nat) (x1 : Int32) (x2 : Int32) (σ : St), lp_X2_seenLines_4 post n x1 x2 σ → wm p l e rm_X2_seenLines s m args below meth c G (wdC tI tJ tZ ad) (Ad 22 ad) 3 (MQ below (Qi G (wdC tI tJ tZ ad) (Ad 22 ad) post) args s 0 0 (Ad 22 ad)) σ [(0, .ref (ad 1)), (1, .int x1), (2, .int x2)] 4 [] := by
  intro n
  induction n with
  | zero => intro x1 x2 σ h; exact h.elim
  | succ n ih =>
    intro x1 x2 σ h
    unfold lp_X2_seenLines_4 at h
    refine wm_iload_n X 2 rfl dX2_seenLines_4 ?_
    refine wm_aload_n X 0 rfl dX2_seenLines_5 ?_
    refine wm_get X (by decide +kernel) 1 rfl rfl 4 (by decide) (by decide +kernel) rfl dX2_seenLines_6 ?_
    refine wm_icmp_ge (tgt := 35) X (by decide) dX2_seenLines_9 (fun c1 => ?_) (fun c1 => ?_)
    · replace h := h.1 c1
      refine wm_iload_n X 1 rfl dX2_seenLines_35 ?_
      exact wm_iret X hr h dX2_seenLines_36
    · replace h := h.2 c1
      refine wm_aload_n X 0 rfl dX2_seenLines_12 ?_
      refine wm_iload_n X 2 rfl dX2_seenLines_13 ?_
      refine wm_callVi (n := 1) (As := [.int x2]) (rest := []) X (c_X2_isOn l G tI tJ tZ ad hD x2 σ _ h) gX2_seenLines_X2_isOn rfl ⟨rfl, rfl⟩ (by decide +kernel) ⟨Nat.le_of_ble_eq_true rfl, Nat.le_of_ble_eq_true rfl⟩ 1 rfl rfl rfl rfl rfl (Nat.le_of_ble_eq_true rfl) dX2_seenLines_14 (fun r2 σ3 h => ?_)
      refine wm_if_eq (tgt := 29) X (by decide) dX2_seenLines_17 (fun c4 => ?_) (fun c4 => ?_)
      · replace h := h.1 c4
        obtain ⟨v5, e6⟩ : ∃ y : Int32, y = x2 + 1 := ⟨_, rfl⟩
        replace h := h v5 e6
        refine wm_iinc (v := v5) (lv' := [(2, .int v5), (0, .ref (ad 1)), (1, .int x1)]) X 2 rfl (by rw [e6]; rfl) (by decide) rfl dX2_seenLines_29 ?_
        clear e6
        refine wm_goto (tgt := 4) X (by decide) dX2_seenLines_32 ?_
        refine wm_sub [1, 2, 0] (lv' := [(0, .ref (ad 1)), (1, .int x1), (2, .int v5)]) rfl ?_
        exact ih x1 v5 σ3 h
      · replace h := h.2 c4
        refine wm_iload_n X 1 rfl dX2_seenLines_20 ?_
        refine wm_aload_n X 0 rfl dX2_seenLines_21 ?_
        refine wm_get X (by decide +kernel) 1 rfl rfl 0 (by decide) (by decide +kernel) rfl dX2_seenLines_22 ?_
        refine wm_iload_n X 2 rfl dX2_seenLines_25 ?_
        refine wm_iald X 2 0 rfl rfl h.1 dX2_seenLines_26 ?_
        replace h := h.2
        refine wm_ior X dX2_seenLines_27 ?_
        refine wm_nmI (fun v7 e8 => ?_)
        replace h := h v7 e8
        clear e8
        refine wm_istore_n (lv' := [(1, .int v7), (0, .ref (ad 1)), (2, .int x2)]) X rfl (by decide) rfl dX2_seenLines_28 ?_
        obtain ⟨v9, e10⟩ : ∃ y : Int32, y = x2 + 1 := ⟨_, rfl⟩
        replace h := h v9 e10
        refine wm_iinc (v := v9) (lv' := [(2, .int v9), (1, .int v7), (0, .ref (ad 1))]) X 2 rfl (by rw [e10]; rfl) (by decide) rfl dX2_seenLines_29 ?_
        clear e10
        refine wm_goto (tgt := 4) X (by decide) dX2_seenLines_32 ?_
        refine wm_sub [2, 1, 0] (lv' := [(0, .ref (ad 1)), (1, .int v7), (2, .int v9)]) rfl ?_
        exact ih v7 v9 σ3 h
set_option maxRecDepth 100000 in
set_option maxHeartbeats 4000000 in
theorem c_X2_seenLines (l : Launch) (G : va_G) (tI tJ tZ : ClassId) (ad : Nat → Nat) (hD : ∀ σ, va_D (Ad 22 ad) (wdC tI tJ tZ ad σ))  (σ : St) (post : Int32 → St → Prop) (h : wp_X2_seenLines  σ post) : Ct l yX2_seenLines wsX2_seenLines rm_X2_seenLines G (tyL tI tJ tZ) (wdC tI tJ tZ ad) (Ad 22 ad) [.ref (ad 1)] σ (Qi G (wdC tI tJ tZ ad) (Ad 22 ad) post) := by
  refine wm_entry (cc := cX2_seenLines) (maxL := 3) (ret := (some .int)) (own := RX2) (lv := [(0, .ref (ad 1))]) (by decide +kernel) rfl rfl (Nat.le_of_ble_eq_true rfl) rfl hD ?_
  intro p e s m below meth c X hr
  unfold wp_X2_seenLines at h
  refine wm_iconst (v := 0) X (by decide) dX2_seenLines_0 ?_
  refine wm_istore_n (lv' := [(1, .int 0), (0, .ref (ad 1))]) X rfl (by decide) rfl dX2_seenLines_1 ?_
  refine wm_iconst (v := 0) X (by decide) dX2_seenLines_2 ?_
  refine wm_istore_n (lv' := [(2, .int 0), (1, .int 0), (0, .ref (ad 1))]) X rfl (by decide) rfl dX2_seenLines_3 ?_
  refine wm_sub [2, 1, 0] (lv' := [(0, .ref (ad 1)), (1, .int 0), (2, .int 0)]) rfl ?_
  obtain ⟨n0, h⟩ := h
  exact w_X2_seenLines_4 hD X hr n0 0 0 σ h
/-! X6_isEndless -/
abbrev rm_X6_isEndless : Room := { frames := 3, cells := 0, slots := 0, locals := 64 }
def wp_X6_isEndless (x1 : Int32) (x2 : Int32) (σ : St) (post : Int32 → St → Prop) : Prop :=
  (¬ x2 = 1 → post 0 σ) ∧ (x2 = 1 → wp_X2_seenLines σ (fun r2 σ3 => ((x1 &&& (r2 ^^^ (-1))) = 0 → post 0 σ3) ∧ (¬ (x1 &&& (r2 ^^^ (-1))) = 0 → post 1 σ3)))
set_option maxRecDepth 100000 in
set_option maxHeartbeats 4000000 in
theorem c_X6_isEndless (l : Launch) (G : va_G) (tI tJ tZ : ClassId) (ad : Nat → Nat) (hD : ∀ σ, va_D (Ad 22 ad) (wdC tI tJ tZ ad σ)) (x1 : Int32) (x2 : Int32) (σ : St) (post : Int32 → St → Prop) (h : wp_X6_isEndless x1 x2 σ post) : Ct l yX6_isEndless wsX6_isEndless rm_X6_isEndless G (tyL tI tJ tZ) (wdC tI tJ tZ ad) (Ad 22 ad) [.ref (ad 0), .int x1, .int x2] σ (Qi G (wdC tI tJ tZ ad) (Ad 22 ad) post) := by
  refine wm_entry (cc := cX6_isEndless) (maxL := 3) (ret := (some .boolean)) (own := RX6) (lv := [(0, .ref (ad 0)), (1, .int x1), (2, .int x2)]) (by decide +kernel) rfl rfl (Nat.le_of_ble_eq_true rfl) rfl hD ?_
  intro p e s m below meth c X hr
  unfold wp_X6_isEndless at h
  refine wm_iload_n X 2 rfl dX6_isEndless_0 ?_
  refine wm_iconst (v := 1) X (by decide) dX6_isEndless_1 ?_
  refine wm_icmp_ne (tgt := 23) X (by decide) dX6_isEndless_2 (fun c1 => ?_) (fun c1 => ?_)
  · replace h := h.1 c1
    refine wm_iconst (v := 0) X (by decide) dX6_isEndless_23 ?_
    exact wm_zret X hr bz_0 h dX6_isEndless_24
  · replace h := h.2 c1
    refine wm_iload_n X 1 rfl dX6_isEndless_5 ?_
    refine wm_aload_n X 0 rfl dX6_isEndless_6 ?_
    refine wm_get X (by decide +kernel) 0 rfl rfl 0 (by decide) (by decide +kernel) rfl dX6_isEndless_7 ?_
    refine wm_callVi (n := 0) (As := []) (rest := [.int x1]) X (c_X2_seenLines l G tI tJ tZ ad hD σ _ h) gX6_isEndless_X2_seenLines rfl ⟨rfl, rfl⟩ (by decide +kernel) ⟨Nat.le_of_ble_eq_true rfl, Nat.le_of_ble_eq_true rfl⟩ 1 rfl rfl rfl rfl rfl (Nat.le_of_ble_eq_true rfl) dX6_isEndless_10 (fun r2 σ3 h => ?_)
    refine wm_iconst (v := (-1)) X (by decide) dX6_isEndless_13 ?_
    refine wm_ixor X dX6_isEndless_14 ?_
    refine wm_iand X dX6_isEndless_15 ?_
    refine wm_if_eq (tgt := 23) X (by decide) dX6_isEndless_16 (fun c4 => ?_) (fun c4 => ?_)
    · replace h := h.1 c4
      refine wm_iconst (v := 0) X (by decide) dX6_isEndless_23 ?_
      exact wm_zret X hr bz_0 h dX6_isEndless_24
    · replace h := h.2 c4
      refine wm_iconst (v := 1) X (by decide) dX6_isEndless_19 ?_
      refine wm_goto (tgt := 24) X (by decide) dX6_isEndless_20 ?_
      exact wm_zret X hr bz_1 h dX6_isEndless_24
/-! X0_goToEnd -/
abbrev rm_X0_goToEnd : Room := { frames := 3, cells := 0, slots := 0, locals := 79 }
def wp_X0_goToEnd (x1 : Int32) (x2 : Int32) (σ : St) (post : St → Prop) : Prop :=
  ∀ σ1 : St, σ1 = sI σ 9 0 → (¬ x2 = 0 → wp_X0_setGoal x1 (-1) 0 σ1 (fun σ5 => wp_X0_walkToLeast σ5 (fun σ7 => post σ7))) ∧ (x2 = 0 → wp_X0_setGoal x1 1 0 σ1 (fun σ9 => wp_X0_walkToLeast σ9 (fun σ11 => post σ11)))
set_option maxRecDepth 100000 in
set_option maxHeartbeats 4000000 in
theorem c_X0_goToEnd (l : Launch) (G : va_G) (tI tJ tZ : ClassId) (ad : Nat → Nat) (hD : ∀ σ, va_D (Ad 22 ad) (wdC tI tJ tZ ad σ)) (x1 : Int32) (x2 : Int32) (σ : St) (post : St → Prop) (h : wp_X0_goToEnd x1 x2 σ post) : Ct l yX0_goToEnd wsX0_goToEnd rm_X0_goToEnd G (tyL tI tJ tZ) (wdC tI tJ tZ ad) (Ad 22 ad) [.ref (ad 5), .int x1, .int x2] σ (Qv G (wdC tI tJ tZ ad) (Ad 22 ad) post) := by
  refine wm_entry (cc := cX0_goToEnd) (maxL := 3) (ret := none) (own := RX0) (lv := [(0, .ref (ad 5)), (1, .int x1), (2, .int x2)]) (by decide +kernel) rfl rfl (Nat.le_of_ble_eq_true rfl) rfl hD ?_
  intro p e s m below meth c X hr
  unfold wp_X0_goToEnd at h
  refine wm_aload_n X 0 rfl dX0_goToEnd_0 ?_
  refine wm_iconst (v := 0) X (by decide) dX0_goToEnd_1 ?_
  refine wm_put (σ' := sI σ 9 0) X (by decide +kernel) tyX0 tyX0_ok nmX0 5 rfl rfl 9 (by decide) (by decide +kernel) rfl (tyX0_ok 9 (by decide)) rfl rfl (Nat.le_of_ble_eq_true rfl) rfl dX0_goToEnd_2 ?_
  refine wm_nmS (fun σ1 e2 => ?_)
  replace h := h σ1 e2
  clear e2
  refine wm_aload_n X 0 rfl dX0_goToEnd_5 ?_
  refine wm_iload_n X 1 rfl dX0_goToEnd_6 ?_
  refine wm_iload_n X 2 rfl dX0_goToEnd_7 ?_
  refine wm_if_ne (tgt := 15) X (by decide) dX0_goToEnd_8 (fun c3 => ?_) (fun c3 => ?_)
  · replace h := h.1 c3
    refine wm_iconst (v := (-1)) X (by decide) dX0_goToEnd_15 ?_
    refine wm_iconst (v := 0) X (by decide) dX0_goToEnd_16 ?_
    refine wm_callVv (n := 3) (As := [.int x1, .int (-1), .int 0]) (rest := []) X (c_X0_setGoal l G tI tJ tZ ad hD x1 (-1) 0 σ1 _ h) gX0_goToEnd_X0_setGoal rfl ⟨rfl, rfl⟩ (by decide +kernel) ⟨Nat.le_of_ble_eq_true rfl, Nat.le_of_ble_eq_true rfl⟩ 5 rfl rfl rfl rfl rfl (Nat.le_of_ble_eq_true rfl) dX0_goToEnd_17 (fun σ5 h => ?_)
    refine wm_aload_n X 0 rfl dX0_goToEnd_20 ?_
    refine wm_callVv (n := 0) (As := []) (rest := []) X (c_X0_walkToLeast l G tI tJ tZ ad hD σ5 _ h) gX0_goToEnd_X0_walkToLeast rfl ⟨rfl, rfl⟩ (by decide +kernel) ⟨Nat.le_of_ble_eq_true rfl, Nat.le_of_ble_eq_true rfl⟩ 5 rfl rfl rfl rfl rfl (Nat.le_of_ble_eq_true rfl) dX0_goToEnd_21 (fun σ7 h => ?_)
    exact wm_vret X hr h dX0_goToEnd_24
  · replace h := h.2 c3
    refine wm_iconst (v := 1) X (by decide) dX0_goToEnd_11 ?_
    refine wm_goto (tgt := 16) X (by decide) dX0_goToEnd_12 ?_
    refine wm_iconst (v := 0) X (by decide) dX0_goToEnd_16 ?_
    refine wm_callVv (n := 3) (As := [.int x1, .int 1, .int 0]) (rest := []) X (c_X0_setGoal l G tI tJ tZ ad hD x1 1 0 σ1 _ h) gX0_goToEnd_X0_setGoal rfl ⟨rfl, rfl⟩ (by decide +kernel) ⟨Nat.le_of_ble_eq_true rfl, Nat.le_of_ble_eq_true rfl⟩ 5 rfl rfl rfl rfl rfl (Nat.le_of_ble_eq_true rfl) dX0_goToEnd_17 (fun σ9 h => ?_)
    refine wm_aload_n X 0 rfl dX0_goToEnd_20 ?_
    refine wm_callVv (n := 0) (As := []) (rest := []) X (c_X0_walkToLeast l G tI tJ tZ ad hD σ9 _ h) gX0_goToEnd_X0_walkToLeast rfl ⟨rfl, rfl⟩ (by decide +kernel) ⟨Nat.le_of_ble_eq_true rfl, Nat.le_of_ble_eq_true rfl⟩ 5 rfl rfl rfl rfl rfl (Nat.le_of_ble_eq_true rfl) dX0_goToEnd_21 (fun σ11 h => ?_)
    exact wm_vret X hr h dX0_goToEnd_24
/-! X0_upperOf -/
abbrev rm_X0_upperOf : Room := { frames := 1, cells := 0, slots := 0, locals := 21 }
def lp_X0_upperOf_5 (post : Int64 → St → Prop)  : Nat → Int32 → Int64 → Int32 → St → Prop
  | 0, _, _, _, _ => False
  | n + 1, x1, x2, x4, σ =>
  ((gI σ 7) ≤ x4 → post x2 σ) ∧ (¬ (gI σ 7) ≤ x4 → vp_in x4 10 ∧ (((gA σ 3 (Int32.toNatClampNeg x4)) < 0 → ∀ v3 : Int32, v3 = x4 + 1 → lp_X0_upperOf_5 post n x1 x2 v3 σ) ∧ (¬ (gA σ 3 (Int32.toNatClampNeg x4)) < 0 → vp_in x4 10 ∧ (wp_X6_bitOf x1 (gA σ 3 (Int32.toNatClampNeg x4)) σ (fun r5 σ6 => (¬ r5 = 1 → ∀ v8 : Int32, v8 = x4 + 1 → lp_X0_upperOf_5 post n x1 x2 v8 σ6) ∧ (r5 = 1 → vp_in (((x4 * (gI σ6 8)) + (gI σ6 8)) - 1) 210 ∧ (∀ v10 : Int64, v10 = x2 + (gB σ6 0 (Int32.toNatClampNeg (((x4 * (gI σ6 8)) + (gI σ6 8)) - 1))) → ∀ v12 : Int32, v12 = x4 + 1 → lp_X0_upperOf_5 post n x1 v10 v12 σ6)))))))
def wp_X0_upperOf (x1 : Int32) (σ : St) (post : Int64 → St → Prop) : Prop :=
  ∃ fu : Nat, lp_X0_upperOf_5 post fu x1 0 0 σ
set_option maxRecDepth 100000 in
set_option maxHeartbeats 4000000 in
theorem w_X0_upperOf_5 {p : Program} {l : Launch} {e : Env} {s : State} {m : MethodId} {args : Array Value} {below : List Frame} {meth : Method} {c : Code} {G : va_G} {tI tJ tZ : ClassId} {ad : Nat → Nat} (hD : ∀ σ, va_D (Ad 22 ad) (wdC tI tJ tZ ad σ)) (X : Cx p s m args meth c cX0_upperOf 5 RX0 wsX0_upperOf G (tyL tI tJ tZ) (wdC tI tJ tZ ad) (Ad 22 ad)) (hr : meth.sig.returnType = (some .long)) {post : Int64 → St → Prop}  : ∀ (n : Nat) (x1 : Int32) (x2 : Int64) (x4 : Int32) (σ : St), lp_X0_upperOf_5 post n x1 x2 x4 σ → wm p l e rm_X0_upperOf s m args below meth c G (wdC tI tJ tZ ad) (Ad 22 ad) 5 (MQ below (Ql G (wdC tI tJ tZ ad) (Ad 22 ad) post) args s 0 0 (Ad 22 ad)) σ [(0, .ref (ad 5)), (1, .int x1), (2, .long x2), (4, .int x4)] 5 [] := by
  intro n
  induction n with
  | zero => intro x1 x2 x4 σ h; exact h.elim
  | succ n ih =>
    intro x1 x2 x4 σ h
    unfold lp_X0_upperOf_5 at h
    refine wm_iload X 3 rfl dX0_upperOf_5 ?_
    refine wm_aload_n X 0 rfl dX0_upperOf_7 ?_
    refine wm_get X (by decide +kernel) 5 rfl rfl 6 (by decide) (by decide +kernel) rfl dX0_upperOf_8 ?_
    refine wm_icmp_ge (tgt := 67) X (by decide) dX0_upperOf_11 (fun c1 => ?_) (fun c1 => ?_)
    · replace h := h.1 c1
      refine wm_lload_n X 2 rfl dX0_upperOf_67 ?_
      exact wm_lret X hr h dX0_upperOf_68
    · replace h := h.2 c1
      refine wm_aload_n X 0 rfl dX0_upperOf_14 ?_
      refine wm_get X (by decide +kernel) 5 rfl rfl 1 (by decide) (by decide +kernel) rfl dX0_upperOf_15 ?_
      refine wm_iload X 3 rfl dX0_upperOf_18 ?_
      refine wm_iald X 7 0 rfl rfl h.1 dX0_upperOf_20 ?_
      replace h := h.2
      refine wm_if_lt (tgt := 61) X (by decide) dX0_upperOf_21 (fun c2 => ?_) (fun c2 => ?_)
      · replace h := h.1 c2
        obtain ⟨v3, e4⟩ : ∃ y : Int32, y = x4 + 1 := ⟨_, rfl⟩
        replace h := h v3 e4
        refine wm_iinc (v := v3) (lv' := [(4, .int v3), (0, .ref (ad 5)), (1, .int x1), (2, .long x2)]) X 3 rfl (by rw [e4]; rfl) (by decide) rfl dX0_upperOf_61 ?_
        clear e4
        refine wm_goto (tgt := 5) X (by decide) dX0_upperOf_64 ?_
        refine wm_sub [1, 2, 3, 0] (lv' := [(0, .ref (ad 5)), (1, .int x1), (2, .long x2), (4, .int v3)]) rfl ?_
        exact ih x1 x2 v3 σ h
      · replace h := h.2 c2
        refine wm_iload_n X 1 rfl dX0_upperOf_24 ?_
        refine wm_aload_n X 0 rfl dX0_upperOf_25 ?_
        refine wm_get X (by decide +kernel) 5 rfl rfl 1 (by decide) (by decide +kernel) rfl dX0_upperOf_26 ?_
        refine wm_iload X 3 rfl dX0_upperOf_29 ?_
        refine wm_iald X 7 0 rfl rfl h.1 dX0_upperOf_31 ?_
        replace h := h.2
        refine wm_callNi (n := 2) (As := [.int x1, .int (gA σ 3 (Int32.toNatClampNeg x4))]) (rest := []) X (c_X6_bitOf l G tI tJ tZ ad hD x1 (gA σ 3 (Int32.toNatClampNeg x4)) σ _ h) gX0_upperOf_X6_bitOf_n77 rfl ⟨rfl, rfl⟩ (List.mem_of_getElem? (i := 10) rfl) (by decide +kernel) (by decide +kernel) (by decide +kernel) ⟨Nat.le_of_ble_eq_true rfl, Nat.le_of_ble_eq_true rfl⟩ rfl rfl (Nat.le_of_ble_eq_true rfl) dX0_upperOf_32 (fun r5 σ6 h => ?_)
        refine wm_iconst (v := 1) X (by decide) dX0_upperOf_35 ?_
        refine wm_icmp_ne (tgt := 61) X (by decide) dX0_upperOf_36 (fun c7 => ?_) (fun c7 => ?_)
        · replace h := h.1 c7
          obtain ⟨v8, e9⟩ : ∃ y : Int32, y = x4 + 1 := ⟨_, rfl⟩
          replace h := h v8 e9
          refine wm_iinc (v := v8) (lv' := [(4, .int v8), (0, .ref (ad 5)), (1, .int x1), (2, .long x2)]) X 3 rfl (by rw [e9]; rfl) (by decide) rfl dX0_upperOf_61 ?_
          clear e9
          refine wm_goto (tgt := 5) X (by decide) dX0_upperOf_64 ?_
          refine wm_sub [1, 2, 3, 0] (lv' := [(0, .ref (ad 5)), (1, .int x1), (2, .long x2), (4, .int v8)]) rfl ?_
          exact ih x1 x2 v8 σ6 h
        · replace h := h.2 c7
          refine wm_lload_n X 2 rfl dX0_upperOf_39 ?_
          refine wm_aload_n X 0 rfl dX0_upperOf_40 ?_
          refine wm_get X (by decide +kernel) 5 rfl rfl 0 (by decide) (by decide +kernel) rfl dX0_upperOf_41 ?_
          refine wm_iload X 3 rfl dX0_upperOf_44 ?_
          refine wm_aload_n X 0 rfl dX0_upperOf_46 ?_
          refine wm_get X (by decide +kernel) 5 rfl rfl 7 (by decide) (by decide +kernel) rfl dX0_upperOf_47 ?_
          refine wm_imul X dX0_upperOf_50 ?_
          refine wm_aload_n X 0 rfl dX0_upperOf_51 ?_
          refine wm_get X (by decide +kernel) 5 rfl rfl 7 (by decide) (by decide +kernel) rfl dX0_upperOf_52 ?_
          refine wm_iadd X dX0_upperOf_55 ?_
          refine wm_iconst (v := 1) X (by decide) dX0_upperOf_56 ?_
          refine wm_isub X dX0_upperOf_57 ?_
          refine wm_lald X 6 1 rfl rfl h.1 dX0_upperOf_58 ?_
          replace h := h.2
          refine wm_ladd X dX0_upperOf_59 ?_
          refine wm_nmL (fun v10 e11 => ?_)
          replace h := h v10 e11
          clear e11
          refine wm_lstore_n (lv' := [(2, .long v10), (0, .ref (ad 5)), (1, .int x1), (4, .int x4)]) X rfl (by decide) rfl dX0_upperOf_60 ?_
          obtain ⟨v12, e13⟩ : ∃ y : Int32, y = x4 + 1 := ⟨_, rfl⟩
          replace h := h v12 e13
          refine wm_iinc (v := v12) (lv' := [(4, .int v12), (2, .long v10), (0, .ref (ad 5)), (1, .int x1)]) X 3 rfl (by rw [e13]; rfl) (by decide) rfl dX0_upperOf_61 ?_
          clear e13
          refine wm_goto (tgt := 5) X (by decide) dX0_upperOf_64 ?_
          refine wm_sub [2, 3, 1, 0] (lv' := [(0, .ref (ad 5)), (1, .int x1), (2, .long v10), (4, .int v12)]) rfl ?_
          exact ih x1 v10 v12 σ6 h
set_option maxRecDepth 100000 in
set_option maxHeartbeats 4000000 in
theorem c_X0_upperOf (l : Launch) (G : va_G) (tI tJ tZ : ClassId) (ad : Nat → Nat) (hD : ∀ σ, va_D (Ad 22 ad) (wdC tI tJ tZ ad σ)) (x1 : Int32) (σ : St) (post : Int64 → St → Prop) (h : wp_X0_upperOf x1 σ post) : Ct l yX0_upperOf wsX0_upperOf rm_X0_upperOf G (tyL tI tJ tZ) (wdC tI tJ tZ ad) (Ad 22 ad) [.ref (ad 5), .int x1] σ (Ql G (wdC tI tJ tZ ad) (Ad 22 ad) post) := by
  refine wm_entry (cc := cX0_upperOf) (maxL := 5) (ret := (some .long)) (own := RX0) (lv := [(0, .ref (ad 5)), (1, .int x1)]) (by decide +kernel) rfl rfl (Nat.le_of_ble_eq_true rfl) rfl hD ?_
  intro p e s m below meth c X hr
  unfold wp_X0_upperOf at h
  refine wm_lconst (v := 0) X (by decide) dX0_upperOf_0 ?_
  refine wm_lstore_n (lv' := [(2, .long 0), (0, .ref (ad 5)), (1, .int x1)]) X rfl (by decide) rfl dX0_upperOf_1 ?_
  refine wm_iconst (v := 0) X (by decide) dX0_upperOf_2 ?_
  refine wm_istore (lv' := [(4, .int 0), (2, .long 0), (0, .ref (ad 5)), (1, .int x1)]) X (by decide) rfl dX0_upperOf_3 ?_
  refine wm_sub [2, 3, 1, 0] (lv' := [(0, .ref (ad 5)), (1, .int x1), (2, .long 0), (4, .int 0)]) rfl ?_
  obtain ⟨n0, h⟩ := h
  exact w_X0_upperOf_5 hD X hr n0 x1 0 0 σ h
/-! X6_isSettledLine -/
abbrev rm_X6_isSettledLine : Room := { frames := 4, cells := 0, slots := 0, locals := 101 }
def wp_X6_isSettledLine (x1 : Int32) (σ : St) (post : Int32 → St → Prop) : Prop :=
  ∀ v1 : Int32, v1 = 1 <<< (x1 &&& 31) → wp_X6_isEndless v1 1 σ (fun r3 σ4 => (r3 = 0 → wp_X0_goToEnd v1 0 σ4 (fun σ7 => wp_X0_upperOf v1 σ7 (fun r8 σ9 => ∀ v10 : Int64, v10 = gL σ9 0 → wp_X0_goToEnd v1 1 σ9 (fun σ13 => wp_X0_upperOf v1 σ13 (fun r14 σ15 => (¬ (r8 * (gL σ13 0)) = (r14 * v10) → post 0 σ15) ∧ ((r8 * (gL σ13 0)) = (r14 * v10) → post 1 σ15)))))) ∧ (¬ r3 = 0 → post 0 σ4))
set_option maxRecDepth 100000 in
set_option maxHeartbeats 4000000 in
theorem c_X6_isSettledLine (l : Launch) (G : va_G) (tI tJ tZ : ClassId) (ad : Nat → Nat) (hD : ∀ σ, va_D (Ad 22 ad) (wdC tI tJ tZ ad σ)) (x1 : Int32) (σ : St) (post : Int32 → St → Prop) (h : wp_X6_isSettledLine x1 σ post) : Ct l yX6_isSettledLine wsX6_isSettledLine rm_X6_isSettledLine G (tyL tI tJ tZ) (wdC tI tJ tZ ad) (Ad 22 ad) [.ref (ad 0), .int x1] σ (Qi G (wdC tI tJ tZ ad) (Ad 22 ad) post) := by
  refine wm_entry (cc := cX6_isSettledLine) (maxL := 7) (ret := (some .boolean)) (own := RX6) (lv := [(0, .ref (ad 0)), (1, .int x1)]) (by decide +kernel) rfl rfl (Nat.le_of_ble_eq_true rfl) rfl hD ?_
  intro p e s m below meth c X hr
  unfold wp_X6_isSettledLine at h
  refine wm_iconst (v := 1) X (by decide) dX6_isSettledLine_0 ?_
  refine wm_iload_n X 1 rfl dX6_isSettledLine_1 ?_
  refine wm_ishl X dX6_isSettledLine_2 ?_
  refine wm_nmI (fun v1 e2 => ?_)
  replace h := h v1 e2
  clear e2
  refine wm_istore_n (lv' := [(2, .int v1), (0, .ref (ad 0)), (1, .int x1)]) X rfl (by decide) rfl dX6_isSettledLine_3 ?_
  refine wm_aload_n X 1 rfl dX6_isSettledLine_4 ?_
  refine wm_iload_n X 0 rfl dX6_isSettledLine_5 ?_
  refine wm_iconst (v := 1) X (by decide) dX6_isSettledLine_6 ?_
  refine wm_callVi (n := 2) (As := [.int v1, .int 1]) (rest := []) X (c_X6_isEndless l G tI tJ tZ ad hD v1 1 σ _ h) gX6_isSettledLine_X6_isEndless rfl ⟨rfl, rfl⟩ (by decide +kernel) ⟨Nat.le_of_ble_eq_true rfl, Nat.le_of_ble_eq_true rfl⟩ 0 rfl rfl rfl rfl rfl (Nat.le_of_ble_eq_true rfl) dX6_isSettledLine_7 (fun r3 σ4 h => ?_)
  refine wm_if_eq (tgt := 15) X (by decide) dX6_isSettledLine_10 (fun c5 => ?_) (fun c5 => ?_)
  · replace h := h.1 c5
    refine wm_aload_n X 1 rfl dX6_isSettledLine_15 ?_
    refine wm_get X (by decide +kernel) 0 rfl rfl 1 (by decide) (by decide +kernel) rfl dX6_isSettledLine_16 ?_
    refine wm_iload_n X 0 rfl dX6_isSettledLine_19 ?_
    refine wm_iconst (v := 0) X (by decide) dX6_isSettledLine_20 ?_
    refine wm_callVv (n := 2) (As := [.int v1, .int 0]) (rest := []) X (c_X0_goToEnd l G tI tJ tZ ad hD v1 0 σ4 _ h) gX6_isSettledLine_X0_goToEnd rfl ⟨rfl, rfl⟩ (by decide +kernel) ⟨Nat.le_of_ble_eq_true rfl, Nat.le_of_ble_eq_true rfl⟩ 5 rfl rfl rfl rfl rfl (Nat.le_of_ble_eq_true rfl) dX6_isSettledLine_21 (fun σ7 h => ?_)
    refine wm_aload_n X 1 rfl dX6_isSettledLine_24 ?_
    refine wm_get X (by decide +kernel) 0 rfl rfl 1 (by decide) (by decide +kernel) rfl dX6_isSettledLine_25 ?_
    refine wm_iload_n X 0 rfl dX6_isSettledLine_28 ?_
    refine wm_callVl (n := 1) (As := [.int v1]) (rest := []) X (c_X0_upperOf l G tI tJ tZ ad hD v1 σ7 _ h) gX6_isSettledLine_X0_upperOf rfl ⟨rfl, rfl⟩ (by decide +kernel) ⟨Nat.le_of_ble_eq_true rfl, Nat.le_of_ble_eq_true rfl⟩ 5 rfl rfl rfl rfl rfl (Nat.le_of_ble_eq_true rfl) dX6_isSettledLine_29 (fun r8 σ9 h => ?_)
    refine wm_lstore_n (lv' := [(3, .long r8), (2, .int v1), (0, .ref (ad 0)), (1, .int x1)]) X rfl (by decide) rfl dX6_isSettledLine_32 ?_
    refine wm_aload_n X 2 rfl dX6_isSettledLine_33 ?_
    refine wm_get X (by decide +kernel) 0 rfl rfl 1 (by decide) (by decide +kernel) rfl dX6_isSettledLine_34 ?_
    refine wm_get X (by decide +kernel) 5 rfl rfl 8 (by decide) (by decide +kernel) rfl dX6_isSettledLine_37 ?_
    refine wm_nmL (fun v10 e11 => ?_)
    replace h := h v10 e11
    clear e11
    refine wm_lstore (lv' := [(5, .long v10), (3, .long r8), (2, .int v1), (0, .ref (ad 0)), (1, .int x1)]) X (by decide) rfl dX6_isSettledLine_40 ?_
    refine wm_aload_n X 3 rfl dX6_isSettledLine_42 ?_
    refine wm_get X (by decide +kernel) 0 rfl rfl 1 (by decide) (by decide +kernel) rfl dX6_isSettledLine_43 ?_
    refine wm_iload_n X 2 rfl dX6_isSettledLine_46 ?_
    refine wm_iconst (v := 1) X (by decide) dX6_isSettledLine_47 ?_
    refine wm_callVv (n := 2) (As := [.int v1, .int 1]) (rest := []) X (c_X0_goToEnd l G tI tJ tZ ad hD v1 1 σ9 _ h) gX6_isSettledLine_X0_goToEnd rfl ⟨rfl, rfl⟩ (by decide +kernel) ⟨Nat.le_of_ble_eq_true rfl, Nat.le_of_ble_eq_true rfl⟩ 5 rfl rfl rfl rfl rfl (Nat.le_of_ble_eq_true rfl) dX6_isSettledLine_48 (fun σ13 h => ?_)
    refine wm_lload_n X 1 rfl dX6_isSettledLine_51 ?_
    refine wm_aload_n X 3 rfl dX6_isSettledLine_52 ?_
    refine wm_get X (by decide +kernel) 0 rfl rfl 1 (by decide) (by decide +kernel) rfl dX6_isSettledLine_53 ?_
    refine wm_get X (by decide +kernel) 5 rfl rfl 8 (by decide) (by decide +kernel) rfl dX6_isSettledLine_56 ?_
    refine wm_lmul X dX6_isSettledLine_59 ?_
    refine wm_aload_n X 3 rfl dX6_isSettledLine_60 ?_
    refine wm_get X (by decide +kernel) 0 rfl rfl 1 (by decide) (by decide +kernel) rfl dX6_isSettledLine_61 ?_
    refine wm_iload_n X 2 rfl dX6_isSettledLine_64 ?_
    refine wm_callVl (n := 1) (As := [.int v1]) (rest := [.long (r8 * (gL σ13 0))]) X (c_X0_upperOf l G tI tJ tZ ad hD v1 σ13 _ h) gX6_isSettledLine_X0_upperOf rfl ⟨rfl, rfl⟩ (by decide +kernel) ⟨Nat.le_of_ble_eq_true rfl, Nat.le_of_ble_eq_true rfl⟩ 5 rfl rfl rfl rfl rfl (Nat.le_of_ble_eq_true rfl) dX6_isSettledLine_65 (fun r14 σ15 h => ?_)
    refine wm_lload X 0 rfl dX6_isSettledLine_68 ?_
    refine wm_lmul X dX6_isSettledLine_70 ?_
    refine wm_lcmp X dX6_isSettledLine_71 ?_
    refine wm_if_ne (tgt := 79) X (by decide) dX6_isSettledLine_72 (fun c16 => ?_) (fun c16 => ?_)
    · replace h := h.1 ((lc_ne _ _).mp c16)
      refine wm_iconst (v := 0) X (by decide) dX6_isSettledLine_79 ?_
      exact wm_zret X hr bz_0 h dX6_isSettledLine_80
    · replace h := h.2 ((lc_nne _ _).mp c16)
      refine wm_iconst (v := 1) X (by decide) dX6_isSettledLine_75 ?_
      refine wm_goto (tgt := 80) X (by decide) dX6_isSettledLine_76 ?_
      exact wm_zret X hr bz_1 h dX6_isSettledLine_80
  · replace h := h.2 c5
    refine wm_iconst (v := 0) X (by decide) dX6_isSettledLine_13 ?_
    exact wm_zret X hr bz_0 h dX6_isSettledLine_14
/-! X6_settledLines -/
abbrev rm_X6_settledLines : Room := { frames := 5, cells := 0, slots := 0, locals := 127 }
def lp_X6_settledLines_28 (post : Int32 → St → Prop)  : Nat → Int32 → Int32 → St → Prop
  | 0, _, _, _ => False
  | n + 1, x1, x2, σ =>
  ((gI σ 0) ≤ x2 → post x1 σ) ∧ (¬ (gI σ 0) ≤ x2 → wp_X6_isSettledLine x2 σ (fun r2 σ3 => (r2 = 0 → ∀ v5 : Int32, v5 = x2 + 1 → lp_X6_settledLines_28 post n x1 v5 σ3) ∧ (¬ r2 = 0 → ∀ v7 : Int32, v7 = x1 + 1 → ∀ v9 : Int32, v9 = x2 + 1 → lp_X6_settledLines_28 post n v7 v9 σ3)))
def wp_X6_settledLines (σ : St) (post : Int32 → St → Prop) : Prop :=
  wp_X0_solve (gI σ 3) σ (fun r1 σ2 => (¬ r1 = 0 → ∃ fu : Nat, lp_X6_settledLines_28 post fu 0 0 σ2) ∧ (r1 = 0 → post (-103) σ2))
set_option maxRecDepth 100000 in
set_option maxHeartbeats 4000000 in
theorem w_X6_settledLines_28 {p : Program} {l : Launch} {e : Env} {s : State} {m : MethodId} {args : Array Value} {below : List Frame} {meth : Method} {c : Code} {G : va_G} {tI tJ tZ : ClassId} {ad : Nat → Nat} (hD : ∀ σ, va_D (Ad 22 ad) (wdC tI tJ tZ ad σ)) (X : Cx p s m args meth c cX6_settledLines 3 RX6 wsX6_settledLines G (tyL tI tJ tZ) (wdC tI tJ tZ ad) (Ad 22 ad)) (hr : meth.sig.returnType = (some .int)) {post : Int32 → St → Prop}  : ∀ (n : Nat) (x1 : Int32) (x2 : Int32) (σ : St), lp_X6_settledLines_28 post n x1 x2 σ → wm p l e rm_X6_settledLines s m args below meth c G (wdC tI tJ tZ ad) (Ad 22 ad) 3 (MQ below (Qi G (wdC tI tJ tZ ad) (Ad 22 ad) post) args s 0 0 (Ad 22 ad)) σ [(0, .ref (ad 0)), (1, .int x1), (2, .int x2)] 28 [] := by
  intro n
  induction n with
  | zero => intro x1 x2 σ h; exact h.elim
  | succ n ih =>
    intro x1 x2 σ h
    unfold lp_X6_settledLines_28 at h
    refine wm_iload_n X 2 rfl dX6_settledLines_28 ?_
    refine wm_aload_n X 0 rfl dX6_settledLines_29 ?_
    refine wm_get X (by decide +kernel) 0 rfl rfl 0 (by decide) (by decide +kernel) rfl dX6_settledLines_30 ?_
    refine wm_get X (by decide +kernel) 1 rfl rfl 3 (by decide) (by decide +kernel) rfl dX6_settledLines_33 ?_
    refine wm_icmp_ge (tgt := 56) X (by decide) dX6_settledLines_36 (fun c1 => ?_) (fun c1 => ?_)
    · replace h := h.1 c1
      refine wm_iload_n X 1 rfl dX6_settledLines_56 ?_
      exact wm_iret X hr h dX6_settledLines_57
    · replace h := h.2 c1
      refine wm_aload_n X 0 rfl dX6_settledLines_39 ?_
      refine wm_iload_n X 2 rfl dX6_settledLines_40 ?_
      refine wm_callVi (n := 1) (As := [.int x2]) (rest := []) X (c_X6_isSettledLine l G tI tJ tZ ad hD x2 σ _ h) gX6_settledLines_X6_isSettledLine rfl ⟨rfl, rfl⟩ (by decide +kernel) ⟨Nat.le_of_ble_eq_true rfl, Nat.le_of_ble_eq_true rfl⟩ 0 rfl rfl rfl rfl rfl (Nat.le_of_ble_eq_true rfl) dX6_settledLines_41 (fun r2 σ3 h => ?_)
      refine wm_if_eq (tgt := 50) X (by decide) dX6_settledLines_44 (fun c4 => ?_) (fun c4 => ?_)
      · replace h := h.1 c4
        obtain ⟨v5, e6⟩ : ∃ y : Int32, y = x2 + 1 := ⟨_, rfl⟩
        replace h := h v5 e6
        refine wm_iinc (v := v5) (lv' := [(2, .int v5), (0, .ref (ad 0)), (1, .int x1)]) X 2 rfl (by rw [e6]; rfl) (by decide) rfl dX6_settledLines_50 ?_
        clear e6
        refine wm_goto (tgt := 28) X (by decide) dX6_settledLines_53 ?_
        refine wm_sub [1, 2, 0] (lv' := [(0, .ref (ad 0)), (1, .int x1), (2, .int v5)]) rfl ?_
        exact ih x1 v5 σ3 h
      · replace h := h.2 c4
        obtain ⟨v7, e8⟩ : ∃ y : Int32, y = x1 + 1 := ⟨_, rfl⟩
        replace h := h v7 e8
        refine wm_iinc (v := v7) (lv' := [(1, .int v7), (0, .ref (ad 0)), (2, .int x2)]) X 1 rfl (by rw [e8]; rfl) (by decide) rfl dX6_settledLines_47 ?_
        clear e8
        obtain ⟨v9, e10⟩ : ∃ y : Int32, y = x2 + 1 := ⟨_, rfl⟩
        replace h := h v9 e10
        refine wm_iinc (v := v9) (lv' := [(2, .int v9), (1, .int v7), (0, .ref (ad 0))]) X 2 rfl (by rw [e10]; rfl) (by decide) rfl dX6_settledLines_50 ?_
        clear e10
        refine wm_goto (tgt := 28) X (by decide) dX6_settledLines_53 ?_
        refine wm_sub [2, 1, 0] (lv' := [(0, .ref (ad 0)), (1, .int v7), (2, .int v9)]) rfl ?_
        exact ih v7 v9 σ3 h
set_option maxRecDepth 100000 in
set_option maxHeartbeats 4000000 in
theorem c_X6_settledLines (l : Launch) (G : va_G) (tI tJ tZ : ClassId) (ad : Nat → Nat) (hD : ∀ σ, va_D (Ad 22 ad) (wdC tI tJ tZ ad σ))  (σ : St) (post : Int32 → St → Prop) (h : wp_X6_settledLines  σ post) : Ct l yX6_settledLines wsX6_settledLines rm_X6_settledLines G (tyL tI tJ tZ) (wdC tI tJ tZ ad) (Ad 22 ad) [.ref (ad 0)] σ (Qi G (wdC tI tJ tZ ad) (Ad 22 ad) post) := by
  refine wm_entry (cc := cX6_settledLines) (maxL := 3) (ret := (some .int)) (own := RX6) (lv := [(0, .ref (ad 0))]) (by decide +kernel) rfl rfl (Nat.le_of_ble_eq_true rfl) rfl hD ?_
  intro p e s m below meth c X hr
  unfold wp_X6_settledLines at h
  refine wm_aload_n X 0 rfl dX6_settledLines_0 ?_
  refine wm_get X (by decide +kernel) 0 rfl rfl 1 (by decide) (by decide +kernel) rfl dX6_settledLines_1 ?_
  refine wm_aload_n X 0 rfl dX6_settledLines_4 ?_
  refine wm_get X (by decide +kernel) 0 rfl rfl 0 (by decide) (by decide +kernel) rfl dX6_settledLines_5 ?_
  refine wm_aload_n X 0 rfl dX6_settledLines_8 ?_
  refine wm_get X (by decide +kernel) 0 rfl rfl 0 (by decide) (by decide +kernel) rfl dX6_settledLines_9 ?_
  refine wm_get X (by decide +kernel) 1 rfl rfl 6 (by decide) (by decide +kernel) rfl dX6_settledLines_12 ?_
  refine wm_callVi (n := 2) (As := [.ref (ad 1), .int (gI σ 3)]) (rest := []) X (c_X0_solve l G tI tJ tZ ad hD (gI σ 3) σ _ h) gX6_settledLines_X0_solve rfl ⟨rfl, rfl⟩ (by decide +kernel) ⟨Nat.le_of_ble_eq_true rfl, Nat.le_of_ble_eq_true rfl⟩ 5 rfl rfl rfl rfl rfl (Nat.le_of_ble_eq_true rfl) dX6_settledLines_15 (fun r1 σ2 h => ?_)
  refine wm_if_ne (tgt := 24) X (by decide) dX6_settledLines_18 (fun c3 => ?_) (fun c3 => ?_)
  · replace h := h.1 c3
    refine wm_iconst (v := 0) X (by decide) dX6_settledLines_24 ?_
    refine wm_istore_n (lv' := [(1, .int 0), (0, .ref (ad 0))]) X rfl (by decide) rfl dX6_settledLines_25 ?_
    refine wm_iconst (v := 0) X (by decide) dX6_settledLines_26 ?_
    refine wm_istore_n (lv' := [(2, .int 0), (1, .int 0), (0, .ref (ad 0))]) X rfl (by decide) rfl dX6_settledLines_27 ?_
    refine wm_sub [2, 1, 0] (lv' := [(0, .ref (ad 0)), (1, .int 0), (2, .int 0)]) rfl ?_
    obtain ⟨n0, h⟩ := h
    exact w_X6_settledLines_28 hD X hr n0 0 0 σ2 h
  · replace h := h.2 c3
    refine wm_bipush (v := (-103)) X (by decide) dX6_settledLines_21 ?_
    exact wm_iret X hr h dX6_settledLines_23
/-! X5_rankOfWays -/
abbrev rm_X5_rankOfWays : Room := { frames := 4, cells := 0, slots := 0, locals := 91 }
def wp_X5_rankOfWays (σ : St) (post : Int32 → St → Prop) : Prop :=
  wp_X5_takeWays σ (fun σ2 => post (gI σ2 18) σ2)
set_option maxRecDepth 100000 in
set_option maxHeartbeats 4000000 in
theorem c_X5_rankOfWays (l : Launch) (G : va_G) (tI tJ tZ : ClassId) (ad : Nat → Nat) (hD : ∀ σ, va_D (Ad 22 ad) (wdC tI tJ tZ ad σ))  (σ : St) (post : Int32 → St → Prop) (h : wp_X5_rankOfWays  σ post) : Ct l yX5_rankOfWays wsX5_rankOfWays rm_X5_rankOfWays G (tyL tI tJ tZ) (wdC tI tJ tZ ad) (Ad 22 ad) [.ref (ad 15), .ref (ad 1)] σ (Qi G (wdC tI tJ tZ ad) (Ad 22 ad) post) := by
  refine wm_entry (cc := cX5_rankOfWays) (maxL := 2) (ret := (some .int)) (own := RX5) (lv := [(0, .ref (ad 15)), (1, .ref (ad 1))]) (by decide +kernel) rfl rfl (Nat.le_of_ble_eq_true rfl) rfl hD ?_
  intro p e s m below meth c X hr
  unfold wp_X5_rankOfWays at h
  refine wm_aload_n X 0 rfl dX5_rankOfWays_0 ?_
  refine wm_aload_n X 1 rfl dX5_rankOfWays_1 ?_
  refine wm_callVv (n := 1) (As := [.ref (ad 1)]) (rest := []) X (c_X5_takeWays l G tI tJ tZ ad hD σ _ h) gX5_rankOfWays_X5_takeWays rfl ⟨rfl, rfl⟩ (by decide +kernel) ⟨Nat.le_of_ble_eq_true rfl, Nat.le_of_ble_eq_true rfl⟩ 15 rfl rfl rfl rfl rfl (Nat.le_of_ble_eq_true rfl) dX5_rankOfWays_2 (fun σ2 h => ?_)
  refine wm_aload_n X 0 rfl dX5_rankOfWays_5 ?_
  refine wm_get X (by decide +kernel) 15 rfl rfl 4 (by decide) (by decide +kernel) rfl dX5_rankOfWays_6 ?_
  exact wm_iret X hr h dX5_rankOfWays_9
/-! X6_count -/
abbrev rm_X6_count : Room := { frames := 6, cells := 0, slots := 0, locals := 149 }
def wp_X6_count (x1 : Int32) (σ : St) (post : Int32 → St → Prop) : Prop :=
  (x1 = 0 → post (gI σ 0) σ) ∧ (x1 = 1 → post (gI σ 1) σ) ∧ (x1 = 2 → wp_J6_bitCount_0f7a4 (gI σ 3) σ (fun r4 σ5 => post r4 σ5)) ∧ (x1 = 3 → wp_X5_rankOfWays σ (fun r7 σ8 => post r7 σ8)) ∧ (x1 = 4 → wp_X2_seenLines σ (fun r10 σ11 => wp_J6_bitCount_0f7a4 r10 σ11 (fun r12 σ13 => post r12 σ13))) ∧ (x1 = 5 → wp_X6_settledLines σ (fun r15 σ16 => post r15 σ16)) ∧ (x1 = 6 → wp_X5_linesFromWays σ (fun r18 σ19 => wp_J6_bitCount_0f7a4 r18 σ19 (fun r20 σ21 => post r20 σ21))) ∧ (x1 = 7 → wp_X2_groupCount σ (fun r23 σ24 => post r23 σ24)) ∧ (x1 = 8 → post (gI σ 2) σ) ∧ (¬ x1 = 0 → ¬ x1 = 1 → ¬ x1 = 2 → ¬ x1 = 3 → ¬ x1 = 4 → ¬ x1 = 5 → ¬ x1 = 6 → ¬ x1 = 7 → ¬ x1 = 8 → post (-102) σ)
set_option maxRecDepth 100000 in
set_option maxHeartbeats 4000000 in
theorem c_X6_count (l : Launch) (G : va_G) (tI tJ tZ : ClassId) (ad : Nat → Nat) (hD : ∀ σ, va_D (Ad 22 ad) (wdC tI tJ tZ ad σ)) (x1 : Int32) (σ : St) (post : Int32 → St → Prop) (h : wp_X6_count x1 σ post) : Ct l yX6_count wsX6_count rm_X6_count G (tyL tI tJ tZ) (wdC tI tJ tZ ad) (Ad 22 ad) [.ref (ad 0), .int x1] σ (Qi G (wdC tI tJ tZ ad) (Ad 22 ad) post) := by
  refine wm_entry (cc := cX6_count) (maxL := 2) (ret := (some .int)) (own := RX6) (lv := [(0, .ref (ad 0)), (1, .int x1)]) (by decide +kernel) rfl rfl (Nat.le_of_ble_eq_true rfl) rfl hD ?_
  intro p e s m below meth c X hr
  unfold wp_X6_count at h
  refine wm_iload_n X 1 rfl dX6_count_0 ?_
  by_cases c1 : x1 = 0
  · replace h := h.1 c1
    refine wm_tabIn (off := 51) (tgt := 52) X (by rw [c1]; decide) (by rw [c1]; decide) (by rw [c1]; rfl) (by decide) dX6_count_1 ?_
    refine wm_aload_n X 0 rfl dX6_count_52 ?_
    refine wm_get X (by decide +kernel) 0 rfl rfl 0 (by decide) (by decide +kernel) rfl dX6_count_53 ?_
    refine wm_get X (by decide +kernel) 1 rfl rfl 3 (by decide) (by decide +kernel) rfl dX6_count_56 ?_
    exact wm_iret X hr h dX6_count_59
  replace h := h.2
  by_cases c2 : x1 = 1
  · replace h := h.1 c2
    refine wm_tabIn (off := 59) (tgt := 60) X (by rw [c2]; decide) (by rw [c2]; decide) (by rw [c2]; rfl) (by decide) dX6_count_1 ?_
    refine wm_aload_n X 0 rfl dX6_count_60 ?_
    refine wm_get X (by decide +kernel) 0 rfl rfl 0 (by decide) (by decide +kernel) rfl dX6_count_61 ?_
    refine wm_get X (by decide +kernel) 1 rfl rfl 4 (by decide) (by decide +kernel) rfl dX6_count_64 ?_
    exact wm_iret X hr h dX6_count_67
  replace h := h.2
  by_cases c3 : x1 = 2
  · replace h := h.1 c3
    refine wm_tabIn (off := 67) (tgt := 68) X (by rw [c3]; decide) (by rw [c3]; decide) (by rw [c3]; rfl) (by decide) dX6_count_1 ?_
    refine wm_aload_n X 0 rfl dX6_count_68 ?_
    refine wm_get X (by decide +kernel) 0 rfl rfl 0 (by decide) (by decide +kernel) rfl dX6_count_69 ?_
    refine wm_get X (by decide +kernel) 1 rfl rfl 6 (by decide) (by decide +kernel) rfl dX6_count_72 ?_
    refine wm_callSi (n := 1) (As := [.int (gI σ 3)]) (rest := []) X (c_J6_bitCount_0f7a4 l G tI tJ tZ ad hD (gI σ 3) σ _ h) gX6_count_J6_bitCount_0f7a4 rfl ⟨rfl, rfl⟩ (by decide +kernel) ⟨Nat.le_of_ble_eq_true rfl, Nat.le_of_ble_eq_true rfl⟩ rfl rfl (Nat.le_of_ble_eq_true rfl) dX6_count_75 (fun r4 σ5 h => ?_)
    exact wm_iret X hr h dX6_count_78
  replace h := h.2
  by_cases c6 : x1 = 3
  · replace h := h.1 c6
    refine wm_tabIn (off := 78) (tgt := 79) X (by rw [c6]; decide) (by rw [c6]; decide) (by rw [c6]; rfl) (by decide) dX6_count_1 ?_
    refine wm_aload_n X 0 rfl dX6_count_79 ?_
    refine wm_get X (by decide +kernel) 0 rfl rfl 3 (by decide) (by decide +kernel) rfl dX6_count_80 ?_
    refine wm_aload_n X 0 rfl dX6_count_83 ?_
    refine wm_get X (by decide +kernel) 0 rfl rfl 0 (by decide) (by decide +kernel) rfl dX6_count_84 ?_
    refine wm_callVi (n := 1) (As := [.ref (ad 1)]) (rest := []) X (c_X5_rankOfWays l G tI tJ tZ ad hD σ _ h) gX6_count_X5_rankOfWays rfl ⟨rfl, rfl⟩ (by decide +kernel) ⟨Nat.le_of_ble_eq_true rfl, Nat.le_of_ble_eq_true rfl⟩ 15 rfl rfl rfl rfl rfl (Nat.le_of_ble_eq_true rfl) dX6_count_87 (fun r7 σ8 h => ?_)
    exact wm_iret X hr h dX6_count_90
  replace h := h.2
  by_cases c9 : x1 = 4
  · replace h := h.1 c9
    refine wm_tabIn (off := 90) (tgt := 91) X (by rw [c9]; decide) (by rw [c9]; decide) (by rw [c9]; rfl) (by decide) dX6_count_1 ?_
    refine wm_aload_n X 0 rfl dX6_count_91 ?_
    refine wm_get X (by decide +kernel) 0 rfl rfl 0 (by decide) (by decide +kernel) rfl dX6_count_92 ?_
    refine wm_callVi (n := 0) (As := []) (rest := []) X (c_X2_seenLines l G tI tJ tZ ad hD σ _ h) gX6_count_X2_seenLines rfl ⟨rfl, rfl⟩ (by decide +kernel) ⟨Nat.le_of_ble_eq_true rfl, Nat.le_of_ble_eq_true rfl⟩ 1 rfl rfl rfl rfl rfl (Nat.le_of_ble_eq_true rfl) dX6_count_95 (fun r10 σ11 h => ?_)
    refine wm_callSi (n := 1) (As := [.int r10]) (rest := []) X (c_J6_bitCount_0f7a4 l G tI tJ tZ ad hD r10 σ11 _ h) gX6_count_J6_bitCount_0f7a4 rfl ⟨rfl, rfl⟩ (by decide +kernel) ⟨Nat.le_of_ble_eq_true rfl, Nat.le_of_ble_eq_true rfl⟩ rfl rfl (Nat.le_of_ble_eq_true rfl) dX6_count_98 (fun r12 σ13 h => ?_)
    exact wm_iret X hr h dX6_count_101
  replace h := h.2
  by_cases c14 : x1 = 5
  · replace h := h.1 c14
    refine wm_tabIn (off := 101) (tgt := 102) X (by rw [c14]; decide) (by rw [c14]; decide) (by rw [c14]; rfl) (by decide) dX6_count_1 ?_
    refine wm_aload_n X 0 rfl dX6_count_102 ?_
    refine wm_callVi (n := 0) (As := []) (rest := []) X (c_X6_settledLines l G tI tJ tZ ad hD σ _ h) gX6_count_X6_settledLines rfl ⟨rfl, rfl⟩ (by decide +kernel) ⟨Nat.le_of_ble_eq_true rfl, Nat.le_of_ble_eq_true rfl⟩ 0 rfl rfl rfl rfl rfl (Nat.le_of_ble_eq_true rfl) dX6_count_103 (fun r15 σ16 h => ?_)
    exact wm_iret X hr h dX6_count_106
  replace h := h.2
  by_cases c17 : x1 = 6
  · replace h := h.1 c17
    refine wm_tabIn (off := 106) (tgt := 107) X (by rw [c17]; decide) (by rw [c17]; decide) (by rw [c17]; rfl) (by decide) dX6_count_1 ?_
    refine wm_aload_n X 0 rfl dX6_count_107 ?_
    refine wm_get X (by decide +kernel) 0 rfl rfl 3 (by decide) (by decide +kernel) rfl dX6_count_108 ?_
    refine wm_aload_n X 0 rfl dX6_count_111 ?_
    refine wm_get X (by decide +kernel) 0 rfl rfl 0 (by decide) (by decide +kernel) rfl dX6_count_112 ?_
    refine wm_callVi (n := 1) (As := [.ref (ad 1)]) (rest := []) X (c_X5_linesFromWays l G tI tJ tZ ad hD σ _ h) gX6_count_X5_linesFromWays rfl ⟨rfl, rfl⟩ (by decide +kernel) ⟨Nat.le_of_ble_eq_true rfl, Nat.le_of_ble_eq_true rfl⟩ 15 rfl rfl rfl rfl rfl (Nat.le_of_ble_eq_true rfl) dX6_count_115 (fun r18 σ19 h => ?_)
    refine wm_callSi (n := 1) (As := [.int r18]) (rest := []) X (c_J6_bitCount_0f7a4 l G tI tJ tZ ad hD r18 σ19 _ h) gX6_count_J6_bitCount_0f7a4 rfl ⟨rfl, rfl⟩ (by decide +kernel) ⟨Nat.le_of_ble_eq_true rfl, Nat.le_of_ble_eq_true rfl⟩ rfl rfl (Nat.le_of_ble_eq_true rfl) dX6_count_118 (fun r20 σ21 h => ?_)
    exact wm_iret X hr h dX6_count_121
  replace h := h.2
  by_cases c22 : x1 = 7
  · replace h := h.1 c22
    refine wm_tabIn (off := 121) (tgt := 122) X (by rw [c22]; decide) (by rw [c22]; decide) (by rw [c22]; rfl) (by decide) dX6_count_1 ?_
    refine wm_aload_n X 0 rfl dX6_count_122 ?_
    refine wm_get X (by decide +kernel) 0 rfl rfl 0 (by decide) (by decide +kernel) rfl dX6_count_123 ?_
    refine wm_callVi (n := 0) (As := []) (rest := []) X (c_X2_groupCount l G tI tJ tZ ad hD σ _ h) gX6_count_X2_groupCount rfl ⟨rfl, rfl⟩ (by decide +kernel) ⟨Nat.le_of_ble_eq_true rfl, Nat.le_of_ble_eq_true rfl⟩ 1 rfl rfl rfl rfl rfl (Nat.le_of_ble_eq_true rfl) dX6_count_126 (fun r23 σ24 h => ?_)
    exact wm_iret X hr h dX6_count_129
  replace h := h.2
  by_cases c25 : x1 = 8
  · replace h := h.1 c25
    refine wm_tabIn (off := 129) (tgt := 130) X (by rw [c25]; decide) (by rw [c25]; decide) (by rw [c25]; rfl) (by decide) dX6_count_1 ?_
    refine wm_aload_n X 0 rfl dX6_count_130 ?_
    refine wm_get X (by decide +kernel) 0 rfl rfl 0 (by decide) (by decide +kernel) rfl dX6_count_131 ?_
    refine wm_get X (by decide +kernel) 1 rfl rfl 5 (by decide) (by decide +kernel) rfl dX6_count_134 ?_
    exact wm_iret X hr h dX6_count_137
  replace h := h.2
  replace h := h c1 c2 c3 c6 c9 c14 c17 c22 c25
  refine wm_tabOut (tgt := 138) X (sw_out8 c1 c2 c3 c6 c9 c14 c17 c22 c25) (by decide) dX6_count_1 ?_
  refine wm_bipush (v := (-102)) X (by decide) dX6_count_138 ?_
  exact wm_iret X hr h dX6_count_140
/-! X6_fits -/
abbrev rm_X6_fits : Room := { frames := 4, cells := 0, slots := 0, locals := 101 }
def wp_X6_fits (σ : St) (post : Int32 → St → Prop) : Prop :=
  wp_X0_solve (gI σ 3) σ (fun r1 σ2 => (r1 = 0 → post 0 σ2) ∧ (¬ r1 = 0 → post 1 σ2))
set_option maxRecDepth 100000 in
set_option maxHeartbeats 4000000 in
theorem c_X6_fits (l : Launch) (G : va_G) (tI tJ tZ : ClassId) (ad : Nat → Nat) (hD : ∀ σ, va_D (Ad 22 ad) (wdC tI tJ tZ ad σ))  (σ : St) (post : Int32 → St → Prop) (h : wp_X6_fits  σ post) : Ct l yX6_fits wsX6_fits rm_X6_fits G (tyL tI tJ tZ) (wdC tI tJ tZ ad) (Ad 22 ad) [.ref (ad 0)] σ (Qi G (wdC tI tJ tZ ad) (Ad 22 ad) post) := by
  refine wm_entry (cc := cX6_fits) (maxL := 1) (ret := (some .int)) (own := RX6) (lv := [(0, .ref (ad 0))]) (by decide +kernel) rfl rfl (Nat.le_of_ble_eq_true rfl) rfl hD ?_
  intro p e s m below meth c X hr
  unfold wp_X6_fits at h
  refine wm_aload_n X 0 rfl dX6_fits_0 ?_
  refine wm_get X (by decide +kernel) 0 rfl rfl 1 (by decide) (by decide +kernel) rfl dX6_fits_1 ?_
  refine wm_aload_n X 0 rfl dX6_fits_4 ?_
  refine wm_get X (by decide +kernel) 0 rfl rfl 0 (by decide) (by decide +kernel) rfl dX6_fits_5 ?_
  refine wm_aload_n X 0 rfl dX6_fits_8 ?_
  refine wm_get X (by decide +kernel) 0 rfl rfl 0 (by decide) (by decide +kernel) rfl dX6_fits_9 ?_
  refine wm_get X (by decide +kernel) 1 rfl rfl 6 (by decide) (by decide +kernel) rfl dX6_fits_12 ?_
  refine wm_callVi (n := 2) (As := [.ref (ad 1), .int (gI σ 3)]) (rest := []) X (c_X0_solve l G tI tJ tZ ad hD (gI σ 3) σ _ h) gX6_fits_X0_solve rfl ⟨rfl, rfl⟩ (by decide +kernel) ⟨Nat.le_of_ble_eq_true rfl, Nat.le_of_ble_eq_true rfl⟩ 5 rfl rfl rfl rfl rfl (Nat.le_of_ble_eq_true rfl) dX6_fits_15 (fun r1 σ2 h => ?_)
  refine wm_if_eq (tgt := 25) X (by decide) dX6_fits_18 (fun c3 => ?_) (fun c3 => ?_)
  · replace h := h.1 c3
    refine wm_iconst (v := 0) X (by decide) dX6_fits_25 ?_
    exact wm_iret X hr h dX6_fits_26
  · replace h := h.2 c3
    refine wm_iconst (v := 1) X (by decide) dX6_fits_21 ?_
    refine wm_goto (tgt := 26) X (by decide) dX6_fits_22 ?_
    exact wm_iret X hr h dX6_fits_26
/-! X6_isZeroOrOne -/
abbrev rm_X6_isZeroOrOne : Room := { frames := 0, cells := 0, slots := 0, locals := 0 }
def wp_X6_isZeroOrOne (x0 : Int32) (σ : St) (post : Int32 → St → Prop) : Prop :=
  (x0 = 0 → post 1 σ) ∧ (¬ x0 = 0 → (¬ x0 = 1 → post 0 σ) ∧ (x0 = 1 → post 1 σ))
set_option maxRecDepth 100000 in
set_option maxHeartbeats 4000000 in
theorem c_X6_isZeroOrOne (l : Launch) (G : va_G) (tI tJ tZ : ClassId) (ad : Nat → Nat) (hD : ∀ σ, va_D (Ad 22 ad) (wdC tI tJ tZ ad σ)) (x0 : Int32) (σ : St) (post : Int32 → St → Prop) (h : wp_X6_isZeroOrOne x0 σ post) : Ct l yX6_isZeroOrOne wsX6_isZeroOrOne rm_X6_isZeroOrOne G (tyL tI tJ tZ) (wdC tI tJ tZ ad) (Ad 22 ad) [.int x0] σ (Qi G (wdC tI tJ tZ ad) (Ad 22 ad) post) := by
  refine wm_entry (cc := cX6_isZeroOrOne) (maxL := 1) (ret := (some .boolean)) (own := RX6) (lv := [(0, .int x0)]) (by decide +kernel) rfl rfl (Nat.le_of_ble_eq_true rfl) rfl hD ?_
  intro p e s m below meth c X hr
  unfold wp_X6_isZeroOrOne at h
  refine wm_iload_n X 0 rfl dX6_isZeroOrOne_0 ?_
  refine wm_if_eq (tgt := 9) X (by decide) dX6_isZeroOrOne_1 (fun c1 => ?_) (fun c1 => ?_)
  · replace h := h.1 c1
    refine wm_iconst (v := 1) X (by decide) dX6_isZeroOrOne_9 ?_
    refine wm_goto (tgt := 14) X (by decide) dX6_isZeroOrOne_10 ?_
    exact wm_zret X hr bz_1 h dX6_isZeroOrOne_14
  · replace h := h.2 c1
    refine wm_iload_n X 0 rfl dX6_isZeroOrOne_4 ?_
    refine wm_iconst (v := 1) X (by decide) dX6_isZeroOrOne_5 ?_
    refine wm_icmp_ne (tgt := 13) X (by decide) dX6_isZeroOrOne_6 (fun c2 => ?_) (fun c2 => ?_)
    · replace h := h.1 c2
      refine wm_iconst (v := 0) X (by decide) dX6_isZeroOrOne_13 ?_
      exact wm_zret X hr bz_0 h dX6_isZeroOrOne_14
    · replace h := h.2 c2
      refine wm_iconst (v := 1) X (by decide) dX6_isZeroOrOne_9 ?_
      refine wm_goto (tgt := 14) X (by decide) dX6_isZeroOrOne_10 ?_
      exact wm_zret X hr bz_1 h dX6_isZeroOrOne_14
/-! X6_greatestDivisor -/
abbrev rm_X6_greatestDivisor : Room := { frames := 0, cells := 0, slots := 0, locals := 0 }
def lp_X6_greatestDivisor_9 (post : Int64 → St → Prop)  : Nat → Int64 → Int64 → Int32 → St → Prop
  | 0, _, _, _, _ => False
  | n + 1, x4, x6, x8, σ =>
  (100 ≤ x8 → post x4 σ) ∧ (¬ 100 ≤ x8 → (x6 = 0 → post x4 σ) ∧ (¬ x6 = 0 → ¬ x6 = 0 ∧ (∀ v3 : Int64, v3 = x4 - x4 / x6 * x6 → ∀ v5 : Int32, v5 = x8 + 1 → lp_X6_greatestDivisor_9 post n x6 v3 v5 σ)))
def wp_X6_greatestDivisor (x0 : Int64) (x2 : Int64) (σ : St) (post : Int64 → St → Prop) : Prop :=
  ∃ fu : Nat, lp_X6_greatestDivisor_9 post fu x0 x2 0 σ
set_option maxRecDepth 100000 in
set_option maxHeartbeats 4000000 in
theorem w_X6_greatestDivisor_9 {p : Program} {l : Launch} {e : Env} {s : State} {m : MethodId} {args : Array Value} {below : List Frame} {meth : Method} {c : Code} {G : va_G} {tI tJ tZ : ClassId} {ad : Nat → Nat} (hD : ∀ σ, va_D (Ad 22 ad) (wdC tI tJ tZ ad σ)) (X : Cx p s m args meth c cX6_greatestDivisor 11 RX6 wsX6_greatestDivisor G (tyL tI tJ tZ) (wdC tI tJ tZ ad) (Ad 22 ad)) (hr : meth.sig.returnType = (some .long)) {post : Int64 → St → Prop}  : ∀ (n : Nat) (x4 : Int64) (x6 : Int64) (x8 : Int32) (σ : St), lp_X6_greatestDivisor_9 post n x4 x6 x8 σ → wm p l e rm_X6_greatestDivisor s m args below meth c G (wdC tI tJ tZ ad) (Ad 22 ad) 11 (MQ below (Ql G (wdC tI tJ tZ ad) (Ad 22 ad) post) args s 0 0 (Ad 22 ad)) σ [(4, .long x4), (6, .long x6), (8, .int x8)] 9 [] := by
  intro n
  induction n with
  | zero => intro x4 x6 x8 σ h; exact h.elim
  | succ n ih =>
    intro x4 x6 x8 σ h
    unfold lp_X6_greatestDivisor_9 at h
    refine wm_iload X 2 rfl dX6_greatestDivisor_9 ?_
    refine wm_bipush (v := 100) X (by decide) dX6_greatestDivisor_11 ?_
    refine wm_icmp_ge (tgt := 44) X (by decide) dX6_greatestDivisor_13 (fun c1 => ?_) (fun c1 => ?_)
    · replace h := h.1 c1
      refine wm_lload X 0 rfl dX6_greatestDivisor_44 ?_
      exact wm_lret X hr h dX6_greatestDivisor_46
    · replace h := h.2 c1
      refine wm_lload X 1 rfl dX6_greatestDivisor_16 ?_
      refine wm_lconst (v := 0) X (by decide) dX6_greatestDivisor_18 ?_
      refine wm_lcmp X dX6_greatestDivisor_19 ?_
      refine wm_if_eq (tgt := 44) X (by decide) dX6_greatestDivisor_20 (fun c2 => ?_) (fun c2 => ?_)
      · replace h := h.1 ((lc_eq _ _).mp c2)
        refine wm_lload X 0 rfl dX6_greatestDivisor_44 ?_
        exact wm_lret X hr h dX6_greatestDivisor_46
      · replace h := h.2 ((lc_neq _ _).mp c2)
        refine wm_lload X 0 rfl dX6_greatestDivisor_23 ?_
        refine wm_lload X 1 rfl dX6_greatestDivisor_25 ?_
        refine wm_lrem X h.1 dX6_greatestDivisor_27 ?_
        replace h := h.2
        refine wm_nmL (fun v3 e4 => ?_)
        replace h := h v3 e4
        clear e4
        refine wm_lstore (lv' := [(9, .long v3), (4, .long x4), (6, .long x6), (8, .int x8)]) X (by decide) rfl dX6_greatestDivisor_28 ?_
        refine wm_lload X 2 rfl dX6_greatestDivisor_30 ?_
        refine wm_lstore (lv' := [(4, .long x6), (9, .long v3), (6, .long x6), (8, .int x8)]) X (by decide) rfl dX6_greatestDivisor_32 ?_
        refine wm_lload X 1 rfl dX6_greatestDivisor_34 ?_
        refine wm_lstore (lv' := [(6, .long v3), (4, .long x6), (9, .long v3), (8, .int x8)]) X (by decide) rfl dX6_greatestDivisor_36 ?_
        obtain ⟨v5, e6⟩ : ∃ y : Int32, y = x8 + 1 := ⟨_, rfl⟩
        replace h := h v5 e6
        refine wm_iinc (v := v5) (lv' := [(8, .int v5), (6, .long v3), (4, .long x6), (9, .long v3)]) X 3 rfl (by rw [e6]; rfl) (by decide) rfl dX6_greatestDivisor_38 ?_
        clear e6
        refine wm_goto (tgt := 9) X (by decide) dX6_greatestDivisor_41 ?_
        refine wm_sub [2, 1, 0] (lv' := [(4, .long x6), (6, .long v3), (8, .int v5)]) rfl ?_
        exact ih x6 v3 v5 σ h
set_option maxRecDepth 100000 in
set_option maxHeartbeats 4000000 in
theorem c_X6_greatestDivisor (l : Launch) (G : va_G) (tI tJ tZ : ClassId) (ad : Nat → Nat) (hD : ∀ σ, va_D (Ad 22 ad) (wdC tI tJ tZ ad σ)) (x0 : Int64) (x2 : Int64) (σ : St) (post : Int64 → St → Prop) (h : wp_X6_greatestDivisor x0 x2 σ post) : Ct l yX6_greatestDivisor wsX6_greatestDivisor rm_X6_greatestDivisor G (tyL tI tJ tZ) (wdC tI tJ tZ ad) (Ad 22 ad) [.long x0, .long x2] σ (Ql G (wdC tI tJ tZ ad) (Ad 22 ad) post) := by
  refine wm_entry (cc := cX6_greatestDivisor) (maxL := 11) (ret := (some .long)) (own := RX6) (lv := [(0, .long x0), (2, .long x2)]) (by decide +kernel) rfl rfl (Nat.le_of_ble_eq_true rfl) rfl hD ?_
  intro p e s m below meth c X hr
  unfold wp_X6_greatestDivisor at h
  refine wm_lload_n X 0 rfl dX6_greatestDivisor_0 ?_
  refine wm_lstore (lv' := [(4, .long x0), (0, .long x0), (2, .long x2)]) X (by decide) rfl dX6_greatestDivisor_1 ?_
  refine wm_lload_n X 2 rfl dX6_greatestDivisor_3 ?_
  refine wm_lstore (lv' := [(6, .long x2), (4, .long x0), (0, .long x0), (2, .long x2)]) X (by decide) rfl dX6_greatestDivisor_4 ?_
  refine wm_iconst (v := 0) X (by decide) dX6_greatestDivisor_6 ?_
  refine wm_istore (lv' := [(8, .int 0), (6, .long x2), (4, .long x0), (0, .long x0), (2, .long x2)]) X (by decide) rfl dX6_greatestDivisor_7 ?_
  refine wm_sub [2, 1, 0] (lv' := [(4, .long x0), (6, .long x2), (8, .int 0)]) rfl ?_
  obtain ⟨n0, h⟩ := h
  exact w_X6_greatestDivisor_9 hD X hr n0 x0 x2 0 σ h
/-! X6_partOfFraction -/
abbrev rm_X6_partOfFraction : Room := { frames := 1, cells := 0, slots := 0, locals := 30 }
def jn_X6_partOfFraction_17 (post : Int64 → St → Prop)  (x5 : Int64) (s0 : Int64) (σ : St) : Prop :=
  (x5 ≤ 0 → post s0 σ) ∧ (¬ x5 ≤ 0 → ¬ x5 = 0 ∧ post (s0 / x5) σ)
def wp_X6_partOfFraction (x0 : Int64) (x2 : Int64) (x4 : Int32) (σ : St) (post : Int64 → St → Prop) : Prop :=
  wp_X6_greatestDivisor x0 x2 σ (fun r1 σ2 => (¬ x4 = 0 → jn_X6_partOfFraction_17 post r1 x2 σ2) ∧ (x4 = 0 → jn_X6_partOfFraction_17 post r1 x0 σ2))
set_option maxRecDepth 100000 in
set_option maxHeartbeats 4000000 in
theorem w_X6_partOfFraction_17 {p : Program} {l : Launch} {e : Env} {s : State} {m : MethodId} {args : Array Value} {below : List Frame} {meth : Method} {c : Code} {G : va_G} {tI tJ tZ : ClassId} {ad : Nat → Nat} (hD : ∀ σ, va_D (Ad 22 ad) (wdC tI tJ tZ ad σ)) (X : Cx p s m args meth c cX6_partOfFraction 9 RX6 wsX6_partOfFraction G (tyL tI tJ tZ) (wdC tI tJ tZ ad) (Ad 22 ad)) (hr : meth.sig.returnType = (some .long)) {post : Int64 → St → Prop}  (x5 : Int64) (s0 : Int64) (σ : St) (h : jn_X6_partOfFraction_17 post x5 s0 σ) : wm p l e rm_X6_partOfFraction s m args below meth c G (wdC tI tJ tZ ad) (Ad 22 ad) 9 (MQ below (Ql G (wdC tI tJ tZ ad) (Ad 22 ad) post) args s 0 0 (Ad 22 ad)) σ [(5, .long x5)] 17 [.long s0] := by
  unfold jn_X6_partOfFraction_17 at h
  refine wm_lstore (lv' := [(7, .long s0), (5, .long x5)]) X (by decide) rfl dX6_partOfFraction_17 ?_
  refine wm_lload X 1 rfl dX6_partOfFraction_19 ?_
  refine wm_lconst (v := 0) X (by decide) dX6_partOfFraction_21 ?_
  refine wm_lcmp X dX6_partOfFraction_22 ?_
  refine wm_if_le (tgt := 34) X (by decide) dX6_partOfFraction_23 (fun c1 => ?_) (fun c1 => ?_)
  · replace h := h.1 ((lc_le _ _).mp c1)
    refine wm_lload X 0 rfl dX6_partOfFraction_34 ?_
    exact wm_lret X hr h dX6_partOfFraction_36
  · replace h := h.2 ((lc_nle _ _).mp c1)
    refine wm_lload X 0 rfl dX6_partOfFraction_26 ?_
    refine wm_lload X 1 rfl dX6_partOfFraction_28 ?_
    refine wm_ldiv X h.1 dX6_partOfFraction_30 ?_
    replace h := h.2
    refine wm_goto (tgt := 36) X (by decide) dX6_partOfFraction_31 ?_
    exact wm_lret X hr h dX6_partOfFraction_36
set_option maxRecDepth 100000 in
set_option maxHeartbeats 4000000 in
theorem c_X6_partOfFraction (l : Launch) (G : va_G) (tI tJ tZ : ClassId) (ad : Nat → Nat) (hD : ∀ σ, va_D (Ad 22 ad) (wdC tI tJ tZ ad σ)) (x0 : Int64) (x2 : Int64) (x4 : Int32) (σ : St) (post : Int64 → St → Prop) (h : wp_X6_partOfFraction x0 x2 x4 σ post) : Ct l yX6_partOfFraction wsX6_partOfFraction rm_X6_partOfFraction G (tyL tI tJ tZ) (wdC tI tJ tZ ad) (Ad 22 ad) [.long x0, .long x2, .int x4] σ (Ql G (wdC tI tJ tZ ad) (Ad 22 ad) post) := by
  refine wm_entry (cc := cX6_partOfFraction) (maxL := 9) (ret := (some .long)) (own := RX6) (lv := [(0, .long x0), (2, .long x2), (4, .int x4)]) (by decide +kernel) rfl rfl (Nat.le_of_ble_eq_true rfl) rfl hD ?_
  intro p e s m below meth c X hr
  unfold wp_X6_partOfFraction at h
  refine wm_lload_n X 0 rfl dX6_partOfFraction_0 ?_
  refine wm_lload_n X 1 rfl dX6_partOfFraction_1 ?_
  refine wm_callSl (n := 2) (As := [.long x0, .long x2]) (rest := []) X (c_X6_greatestDivisor l G tI tJ tZ ad hD x0 x2 σ _ h) gX6_partOfFraction_X6_greatestDivisor rfl ⟨rfl, rfl⟩ (by decide +kernel) ⟨Nat.le_of_ble_eq_true rfl, Nat.le_of_ble_eq_true rfl⟩ rfl rfl (Nat.le_of_ble_eq_true rfl) dX6_partOfFraction_2 (fun r1 σ2 h => ?_)
  refine wm_lstore (lv' := [(5, .long r1), (0, .long x0), (2, .long x2), (4, .int x4)]) X (by decide) rfl dX6_partOfFraction_5 ?_
  refine wm_iload X 3 rfl dX6_partOfFraction_7 ?_
  refine wm_if_ne (tgt := 16) X (by decide) dX6_partOfFraction_9 (fun c3 => ?_) (fun c3 => ?_)
  · replace h := h.1 c3
    refine wm_lload_n X 2 rfl dX6_partOfFraction_16 ?_
    refine wm_sub [0] (lv' := [(5, .long r1)]) rfl ?_
    exact w_X6_partOfFraction_17 hD X hr r1 x2 σ2 h
  · replace h := h.2 c3
    refine wm_lload_n X 1 rfl dX6_partOfFraction_12 ?_
    refine wm_goto (tgt := 17) X (by decide) dX6_partOfFraction_13 ?_
    refine wm_sub [0] (lv' := [(5, .long r1)]) rfl ?_
    exact w_X6_partOfFraction_17 hD X hr r1 x0 σ2 h
/-! X6_bound -/
abbrev rm_X6_bound : Room := { frames := 4, cells := 0, slots := 0, locals := 101 }
def wp_X6_bound (x1 : Int32) (x2 : Int32) (x3 : Int32) (σ : St) (post : Int64 → St → Prop) : Prop :=
  wp_X2_isLineSet x1 σ (fun r1 σ2 => (r1 = 0 → post (-102) σ2) ∧ (¬ r1 = 0 → wp_X6_isZeroOrOne x2 σ2 (fun r4 σ5 => (r4 = 0 → post (-102) σ5) ∧ (¬ r4 = 0 → wp_X6_isZeroOrOne x3 σ5 (fun r7 σ8 => (¬ r7 = 0 → wp_X0_solve (gI σ8 3) σ8 (fun r10 σ11 => (¬ r10 = 0 → wp_X6_isEndless x1 x2 σ11 (fun r13 σ14 => (r13 = 0 → wp_X0_goToEnd x1 x2 σ14 (fun σ17 => wp_X0_upperOf x1 σ17 (fun r18 σ19 => wp_X6_partOfFraction r18 (gL σ19 0) x3 σ19 (fun r20 σ21 => post r20 σ21)))) ∧ (¬ r13 = 0 → post (-105) σ14))) ∧ (r10 = 0 → post (-103) σ11))) ∧ (r7 = 0 → post (-102) σ8))))))
set_option maxRecDepth 100000 in
set_option maxHeartbeats 4000000 in
theorem c_X6_bound (l : Launch) (G : va_G) (tI tJ tZ : ClassId) (ad : Nat → Nat) (hD : ∀ σ, va_D (Ad 22 ad) (wdC tI tJ tZ ad σ)) (x1 : Int32) (x2 : Int32) (x3 : Int32) (σ : St) (post : Int64 → St → Prop) (h : wp_X6_bound x1 x2 x3 σ post) : Ct l yX6_bound wsX6_bound rm_X6_bound G (tyL tI tJ tZ) (wdC tI tJ tZ ad) (Ad 22 ad) [.ref (ad 0), .int x1, .int x2, .int x3] σ (Ql G (wdC tI tJ tZ ad) (Ad 22 ad) post) := by
  refine wm_entry (cc := cX6_bound) (maxL := 4) (ret := (some .long)) (own := RX6) (lv := [(0, .ref (ad 0)), (1, .int x1), (2, .int x2), (3, .int x3)]) (by decide +kernel) rfl rfl (Nat.le_of_ble_eq_true rfl) rfl hD ?_
  intro p e s m below meth c X hr
  unfold wp_X6_bound at h
  refine wm_aload_n X 0 rfl dX6_bound_0 ?_
  refine wm_get X (by decide +kernel) 0 rfl rfl 0 (by decide) (by decide +kernel) rfl dX6_bound_1 ?_
  refine wm_iload_n X 1 rfl dX6_bound_4 ?_
  refine wm_callVi (n := 1) (As := [.int x1]) (rest := []) X (c_X2_isLineSet l G tI tJ tZ ad hD x1 σ _ h) gX6_bound_X2_isLineSet rfl ⟨rfl, rfl⟩ (by decide +kernel) ⟨Nat.le_of_ble_eq_true rfl, Nat.le_of_ble_eq_true rfl⟩ 1 rfl rfl rfl rfl rfl (Nat.le_of_ble_eq_true rfl) dX6_bound_5 (fun r1 σ2 h => ?_)
  refine wm_if_eq (tgt := 25) X (by decide) dX6_bound_8 (fun c3 => ?_) (fun c3 => ?_)
  · replace h := h.1 c3
    refine wm_ldc2 (v := (-102)) X (by decide +kernel) dX6_bound_25 ?_
    exact wm_lret X hr h dX6_bound_28
  · replace h := h.2 c3
    refine wm_iload_n X 2 rfl dX6_bound_11 ?_
    refine wm_callSi (n := 1) (As := [.int x2]) (rest := []) X (c_X6_isZeroOrOne l G tI tJ tZ ad hD x2 σ2 _ h) gX6_bound_X6_isZeroOrOne rfl ⟨rfl, rfl⟩ (by decide +kernel) ⟨Nat.le_of_ble_eq_true rfl, Nat.le_of_ble_eq_true rfl⟩ rfl rfl (Nat.le_of_ble_eq_true rfl) dX6_bound_12 (fun r4 σ5 h => ?_)
    refine wm_if_eq (tgt := 25) X (by decide) dX6_bound_15 (fun c6 => ?_) (fun c6 => ?_)
    · replace h := h.1 c6
      refine wm_ldc2 (v := (-102)) X (by decide +kernel) dX6_bound_25 ?_
      exact wm_lret X hr h dX6_bound_28
    · replace h := h.2 c6
      refine wm_iload_n X 3 rfl dX6_bound_18 ?_
      refine wm_callSi (n := 1) (As := [.int x3]) (rest := []) X (c_X6_isZeroOrOne l G tI tJ tZ ad hD x3 σ5 _ h) gX6_bound_X6_isZeroOrOne rfl ⟨rfl, rfl⟩ (by decide +kernel) ⟨Nat.le_of_ble_eq_true rfl, Nat.le_of_ble_eq_true rfl⟩ rfl rfl (Nat.le_of_ble_eq_true rfl) dX6_bound_19 (fun r7 σ8 h => ?_)
      refine wm_if_ne (tgt := 29) X (by decide) dX6_bound_22 (fun c9 => ?_) (fun c9 => ?_)
      · replace h := h.1 c9
        refine wm_aload_n X 0 rfl dX6_bound_29 ?_
        refine wm_get X (by decide +kernel) 0 rfl rfl 1 (by decide) (by decide +kernel) rfl dX6_bound_30 ?_
        refine wm_aload_n X 0 rfl dX6_bound_33 ?_
        refine wm_get X (by decide +kernel) 0 rfl rfl 0 (by decide) (by decide +kernel) rfl dX6_bound_34 ?_
        refine wm_aload_n X 0 rfl dX6_bound_37 ?_
        refine wm_get X (by decide +kernel) 0 rfl rfl 0 (by decide) (by decide +kernel) rfl dX6_bound_38 ?_
        refine wm_get X (by decide +kernel) 1 rfl rfl 6 (by decide) (by decide +kernel) rfl dX6_bound_41 ?_
        refine wm_callVi (n := 2) (As := [.ref (ad 1), .int (gI σ8 3)]) (rest := []) X (c_X0_solve l G tI tJ tZ ad hD (gI σ8 3) σ8 _ h) gX6_bound_X0_solve rfl ⟨rfl, rfl⟩ (by decide +kernel) ⟨Nat.le_of_ble_eq_true rfl, Nat.le_of_ble_eq_true rfl⟩ 5 rfl rfl rfl rfl rfl (Nat.le_of_ble_eq_true rfl) dX6_bound_44 (fun r10 σ11 h => ?_)
        refine wm_if_ne (tgt := 54) X (by decide) dX6_bound_47 (fun c12 => ?_) (fun c12 => ?_)
        · replace h := h.1 c12
          refine wm_aload_n X 0 rfl dX6_bound_54 ?_
          refine wm_iload_n X 1 rfl dX6_bound_55 ?_
          refine wm_iload_n X 2 rfl dX6_bound_56 ?_
          refine wm_callVi (n := 2) (As := [.int x1, .int x2]) (rest := []) X (c_X6_isEndless l G tI tJ tZ ad hD x1 x2 σ11 _ h) gX6_bound_X6_isEndless rfl ⟨rfl, rfl⟩ (by decide +kernel) ⟨Nat.le_of_ble_eq_true rfl, Nat.le_of_ble_eq_true rfl⟩ 0 rfl rfl rfl rfl rfl (Nat.le_of_ble_eq_true rfl) dX6_bound_57 (fun r13 σ14 h => ?_)
          refine wm_if_eq (tgt := 67) X (by decide) dX6_bound_60 (fun c15 => ?_) (fun c15 => ?_)
          · replace h := h.1 c15
            refine wm_aload_n X 0 rfl dX6_bound_67 ?_
            refine wm_get X (by decide +kernel) 0 rfl rfl 1 (by decide) (by decide +kernel) rfl dX6_bound_68 ?_
            refine wm_iload_n X 1 rfl dX6_bound_71 ?_
            refine wm_iload_n X 2 rfl dX6_bound_72 ?_
            refine wm_callVv (n := 2) (As := [.int x1, .int x2]) (rest := []) X (c_X0_goToEnd l G tI tJ tZ ad hD x1 x2 σ14 _ h) gX6_bound_X0_goToEnd rfl ⟨rfl, rfl⟩ (by decide +kernel) ⟨Nat.le_of_ble_eq_true rfl, Nat.le_of_ble_eq_true rfl⟩ 5 rfl rfl rfl rfl rfl (Nat.le_of_ble_eq_true rfl) dX6_bound_73 (fun σ17 h => ?_)
            refine wm_aload_n X 0 rfl dX6_bound_76 ?_
            refine wm_get X (by decide +kernel) 0 rfl rfl 1 (by decide) (by decide +kernel) rfl dX6_bound_77 ?_
            refine wm_iload_n X 1 rfl dX6_bound_80 ?_
            refine wm_callVl (n := 1) (As := [.int x1]) (rest := []) X (c_X0_upperOf l G tI tJ tZ ad hD x1 σ17 _ h) gX6_bound_X0_upperOf rfl ⟨rfl, rfl⟩ (by decide +kernel) ⟨Nat.le_of_ble_eq_true rfl, Nat.le_of_ble_eq_true rfl⟩ 5 rfl rfl rfl rfl rfl (Nat.le_of_ble_eq_true rfl) dX6_bound_81 (fun r18 σ19 h => ?_)
            refine wm_aload_n X 0 rfl dX6_bound_84 ?_
            refine wm_get X (by decide +kernel) 0 rfl rfl 1 (by decide) (by decide +kernel) rfl dX6_bound_85 ?_
            refine wm_get X (by decide +kernel) 5 rfl rfl 8 (by decide) (by decide +kernel) rfl dX6_bound_88 ?_
            refine wm_iload_n X 3 rfl dX6_bound_91 ?_
            refine wm_callSl (n := 3) (As := [.long r18, .long (gL σ19 0), .int x3]) (rest := []) X (c_X6_partOfFraction l G tI tJ tZ ad hD r18 (gL σ19 0) x3 σ19 _ h) gX6_bound_X6_partOfFraction rfl ⟨rfl, rfl⟩ (by decide +kernel) ⟨Nat.le_of_ble_eq_true rfl, Nat.le_of_ble_eq_true rfl⟩ rfl rfl (Nat.le_of_ble_eq_true rfl) dX6_bound_92 (fun r20 σ21 h => ?_)
            exact wm_lret X hr h dX6_bound_95
          · replace h := h.2 c15
            refine wm_ldc2 (v := (-105)) X (by decide +kernel) dX6_bound_63 ?_
            exact wm_lret X hr h dX6_bound_66
        · replace h := h.2 c12
          refine wm_ldc2 (v := (-103)) X (by decide +kernel) dX6_bound_50 ?_
          exact wm_lret X hr h dX6_bound_53
      · replace h := h.2 c9
        refine wm_ldc2 (v := (-102)) X (by decide +kernel) dX6_bound_25 ?_
        exact wm_lret X hr h dX6_bound_28
/-! X2_hasLine -/
abbrev rm_X2_hasLine : Room := { frames := 0, cells := 0, slots := 0, locals := 0 }
def wp_X2_hasLine (x1 : Int32) (σ : St) (post : Int32 → St → Prop) : Prop :=
  (x1 < 0 → post 0 σ) ∧ (¬ x1 < 0 → ((gI σ 0) ≤ x1 → post 0 σ) ∧ (¬ (gI σ 0) ≤ x1 → post 1 σ))
set_option maxRecDepth 100000 in
set_option maxHeartbeats 4000000 in
theorem c_X2_hasLine (l : Launch) (G : va_G) (tI tJ tZ : ClassId) (ad : Nat → Nat) (hD : ∀ σ, va_D (Ad 22 ad) (wdC tI tJ tZ ad σ)) (x1 : Int32) (σ : St) (post : Int32 → St → Prop) (h : wp_X2_hasLine x1 σ post) : Ct l yX2_hasLine wsX2_hasLine rm_X2_hasLine G (tyL tI tJ tZ) (wdC tI tJ tZ ad) (Ad 22 ad) [.ref (ad 1), .int x1] σ (Qi G (wdC tI tJ tZ ad) (Ad 22 ad) post) := by
  refine wm_entry (cc := cX2_hasLine) (maxL := 2) (ret := (some .boolean)) (own := RX2) (lv := [(0, .ref (ad 1)), (1, .int x1)]) (by decide +kernel) rfl rfl (Nat.le_of_ble_eq_true rfl) rfl hD ?_
  intro p e s m below meth c X hr
  unfold wp_X2_hasLine at h
  refine wm_iload_n X 1 rfl dX2_hasLine_0 ?_
  refine wm_if_lt (tgt := 16) X (by decide) dX2_hasLine_1 (fun c1 => ?_) (fun c1 => ?_)
  · replace h := h.1 c1
    refine wm_iconst (v := 0) X (by decide) dX2_hasLine_16 ?_
    exact wm_zret X hr bz_0 h dX2_hasLine_17
  · replace h := h.2 c1
    refine wm_iload_n X 1 rfl dX2_hasLine_4 ?_
    refine wm_aload_n X 0 rfl dX2_hasLine_5 ?_
    refine wm_get X (by decide +kernel) 1 rfl rfl 3 (by decide) (by decide +kernel) rfl dX2_hasLine_6 ?_
    refine wm_icmp_ge (tgt := 16) X (by decide) dX2_hasLine_9 (fun c2 => ?_) (fun c2 => ?_)
    · replace h := h.1 c2
      refine wm_iconst (v := 0) X (by decide) dX2_hasLine_16 ?_
      exact wm_zret X hr bz_0 h dX2_hasLine_17
    · replace h := h.2 c2
      refine wm_iconst (v := 1) X (by decide) dX2_hasLine_12 ?_
      refine wm_goto (tgt := 17) X (by decide) dX2_hasLine_13 ?_
      exact wm_zret X hr bz_1 h dX2_hasLine_17
/-! X0_barWhatCosts -/
abbrev rm_X0_barWhatCosts : Room := { frames := 1, cells := 0, slots := 0, locals := 25 }
def lp_X0_barWhatCosts_2 (post : St → Prop)  : Nat → Int32 → St → Prop
  | 0, _, _ => False
  | n + 1, x1, σ =>
  ((gI σ 6) ≤ x1 → post σ) ∧ (¬ (gI σ 6) ≤ x1 → vp_in x1 10 ∧ (wp_X0_costOfColumn x1 σ (fun r2 σ3 => (((gL σ 0) * (Int32.toInt64 (gA σ 5 (Int32.toNatClampNeg x1)))) ≤ r2 → ∀ v5 : Int32, v5 = x1 + 1 → lp_X0_barWhatCosts_2 post n v5 σ3) ∧ (¬ ((gL σ 0) * (Int32.toInt64 (gA σ 5 (Int32.toNatClampNeg x1)))) ≤ r2 → ∀ σ7 : St, σ7 = sI σ3 9 ((gI σ3 9) ||| (1 <<< (x1 &&& 31))) → ∀ v9 : Int32, v9 = x1 + 1 → lp_X0_barWhatCosts_2 post n v9 σ7))))
def wp_X0_barWhatCosts (σ : St) (post : St → Prop) : Prop :=
  ∃ fu : Nat, lp_X0_barWhatCosts_2 post fu 0 σ
set_option maxRecDepth 100000 in
set_option maxHeartbeats 4000000 in
theorem w_X0_barWhatCosts_2 {p : Program} {l : Launch} {e : Env} {s : State} {m : MethodId} {args : Array Value} {below : List Frame} {meth : Method} {c : Code} {G : va_G} {tI tJ tZ : ClassId} {ad : Nat → Nat} (hD : ∀ σ, va_D (Ad 22 ad) (wdC tI tJ tZ ad σ)) (X : Cx p s m args meth c cX0_barWhatCosts 2 RX0 wsX0_barWhatCosts G (tyL tI tJ tZ) (wdC tI tJ tZ ad) (Ad 22 ad)) (hr : meth.sig.returnType = none) {post : St → Prop}  : ∀ (n : Nat) (x1 : Int32) (σ : St), lp_X0_barWhatCosts_2 post n x1 σ → wm p l e rm_X0_barWhatCosts s m args below meth c G (wdC tI tJ tZ ad) (Ad 22 ad) 2 (MQ below (Qv G (wdC tI tJ tZ ad) (Ad 22 ad) post) args s 0 0 (Ad 22 ad)) σ [(0, .ref (ad 5)), (1, .int x1)] 2 [] := by
  intro n
  induction n with
  | zero => intro x1 σ h; exact h.elim
  | succ n ih =>
    intro x1 σ h
    unfold lp_X0_barWhatCosts_2 at h
    refine wm_iload_n X 1 rfl dX0_barWhatCosts_2 ?_
    refine wm_aload_n X 0 rfl dX0_barWhatCosts_3 ?_
    refine wm_get X (by decide +kernel) 5 rfl rfl 5 (by decide) (by decide +kernel) rfl dX0_barWhatCosts_4 ?_
    refine wm_icmp_ge (tgt := 49) X (by decide) dX0_barWhatCosts_7 (fun c1 => ?_) (fun c1 => ?_)
    · replace h := h.1 c1
      exact wm_vret X hr h dX0_barWhatCosts_49
    · replace h := h.2 c1
      refine wm_aload_n X 0 rfl dX0_barWhatCosts_10 ?_
      refine wm_get X (by decide +kernel) 5 rfl rfl 8 (by decide) (by decide +kernel) rfl dX0_barWhatCosts_11 ?_
      refine wm_aload_n X 0 rfl dX0_barWhatCosts_14 ?_
      refine wm_get X (by decide +kernel) 5 rfl rfl 3 (by decide) (by decide +kernel) rfl dX0_barWhatCosts_15 ?_
      refine wm_iload_n X 1 rfl dX0_barWhatCosts_18 ?_
      refine wm_iald X 9 0 rfl rfl h.1 dX0_barWhatCosts_19 ?_
      replace h := h.2
      refine wm_i2l X dX0_barWhatCosts_20 ?_
      refine wm_lmul X dX0_barWhatCosts_21 ?_
      refine wm_aload_n X 0 rfl dX0_barWhatCosts_22 ?_
      refine wm_iload_n X 1 rfl dX0_barWhatCosts_23 ?_
      refine wm_callVl (n := 1) (As := [.int x1]) (rest := [.long ((gL σ 0) * (Int32.toInt64 (gA σ 5 (Int32.toNatClampNeg x1))))]) X (c_X0_costOfColumn l G tI tJ tZ ad hD x1 σ _ h) gX0_barWhatCosts_X0_costOfColumn rfl ⟨rfl, rfl⟩ (by decide +kernel) ⟨Nat.le_of_ble_eq_true rfl, Nat.le_of_ble_eq_true rfl⟩ 5 rfl rfl rfl rfl rfl (Nat.le_of_ble_eq_true rfl) dX0_barWhatCosts_24 (fun r2 σ3 h => ?_)
      refine wm_lcmp X dX0_barWhatCosts_27 ?_
      refine wm_if_le (tgt := 43) X (by decide) dX0_barWhatCosts_28 (fun c4 => ?_) (fun c4 => ?_)
      · replace h := h.1 ((lc_le _ _).mp c4)
        obtain ⟨v5, e6⟩ : ∃ y : Int32, y = x1 + 1 := ⟨_, rfl⟩
        replace h := h v5 e6
        refine wm_iinc (v := v5) (lv' := [(1, .int v5), (0, .ref (ad 5))]) X 1 rfl (by rw [e6]; rfl) (by decide) rfl dX0_barWhatCosts_43 ?_
        clear e6
        refine wm_goto (tgt := 2) X (by decide) dX0_barWhatCosts_46 ?_
        refine wm_sub [1, 0] (lv' := [(0, .ref (ad 5)), (1, .int v5)]) rfl ?_
        exact ih v5 σ3 h
      · replace h := h.2 ((lc_nle _ _).mp c4)
        refine wm_aload_n X 0 rfl dX0_barWhatCosts_31 ?_
        refine wm_dup X rfl dX0_barWhatCosts_32 ?_
        refine wm_get X (by decide +kernel) 5 rfl rfl 9 (by decide) (by decide +kernel) rfl dX0_barWhatCosts_33 ?_
        refine wm_iconst (v := 1) X (by decide) dX0_barWhatCosts_36 ?_
        refine wm_iload_n X 1 rfl dX0_barWhatCosts_37 ?_
        refine wm_ishl X dX0_barWhatCosts_38 ?_
        refine wm_ior X dX0_barWhatCosts_39 ?_
        refine wm_put (σ' := sI σ3 9 ((gI σ3 9) ||| (1 <<< (x1 &&& 31)))) X (by decide +kernel) tyX0 tyX0_ok nmX0 5 rfl rfl 9 (by decide) (by decide +kernel) rfl (tyX0_ok 9 (by decide)) rfl rfl (Nat.le_of_ble_eq_true rfl) rfl dX0_barWhatCosts_40 ?_
        refine wm_nmS (fun σ7 e8 => ?_)
        replace h := h σ7 e8
        clear e8
        obtain ⟨v9, e10⟩ : ∃ y : Int32, y = x1 + 1 := ⟨_, rfl⟩
        replace h := h v9 e10
        refine wm_iinc (v := v9) (lv' := [(1, .int v9), (0, .ref (ad 5))]) X 1 rfl (by rw [e10]; rfl) (by decide) rfl dX0_barWhatCosts_43 ?_
        clear e10
        refine wm_goto (tgt := 2) X (by decide) dX0_barWhatCosts_46 ?_
        refine wm_sub [1, 0] (lv' := [(0, .ref (ad 5)), (1, .int v9)]) rfl ?_
        exact ih v9 σ7 h
set_option maxRecDepth 100000 in
set_option maxHeartbeats 4000000 in
theorem c_X0_barWhatCosts (l : Launch) (G : va_G) (tI tJ tZ : ClassId) (ad : Nat → Nat) (hD : ∀ σ, va_D (Ad 22 ad) (wdC tI tJ tZ ad σ))  (σ : St) (post : St → Prop) (h : wp_X0_barWhatCosts  σ post) : Ct l yX0_barWhatCosts wsX0_barWhatCosts rm_X0_barWhatCosts G (tyL tI tJ tZ) (wdC tI tJ tZ ad) (Ad 22 ad) [.ref (ad 5)] σ (Qv G (wdC tI tJ tZ ad) (Ad 22 ad) post) := by
  refine wm_entry (cc := cX0_barWhatCosts) (maxL := 2) (ret := none) (own := RX0) (lv := [(0, .ref (ad 5))]) (by decide +kernel) rfl rfl (Nat.le_of_ble_eq_true rfl) rfl hD ?_
  intro p e s m below meth c X hr
  unfold wp_X0_barWhatCosts at h
  refine wm_iconst (v := 0) X (by decide) dX0_barWhatCosts_0 ?_
  refine wm_istore_n (lv' := [(1, .int 0), (0, .ref (ad 5))]) X rfl (by decide) rfl dX0_barWhatCosts_1 ?_
  refine wm_sub [1, 0] (lv' := [(0, .ref (ad 5)), (1, .int 0)]) rfl ?_
  obtain ⟨n0, h⟩ := h
  exact w_X0_barWhatCosts_2 hD X hr n0 0 σ h
/-! X0_leastInTurnUpTo -/
abbrev rm_X0_leastInTurnUpTo : Room := { frames := 3, cells := 0, slots := 0, locals := 79 }
def lp_X0_leastInTurnUpTo_2 (post : St → Prop)  : Nat → Int32 → Int32 → St → Prop
  | 0, _, _, _ => False
  | n + 1, x1, x2, σ =>
  (x1 < x2 → post σ) ∧ (¬ x1 < x2 → ((gI σ 6) ≤ x2 → post σ) ∧ (¬ (gI σ 6) ≤ x2 → wp_X0_barWhatCosts σ (fun σ4 => wp_X0_setGoal (1 <<< (x2 &&& 31)) 1 0 σ4 (fun σ6 => wp_X0_walkToLeast σ6 (fun σ8 => ∀ v9 : Int32, v9 = x2 + 1 → lp_X0_leastInTurnUpTo_2 post n x1 v9 σ8)))))
def wp_X0_leastInTurnUpTo (x1 : Int32) (σ : St) (post : St → Prop) : Prop :=
  ∃ fu : Nat, lp_X0_leastInTurnUpTo_2 post fu x1 0 σ
set_option maxRecDepth 100000 in
set_option maxHeartbeats 4000000 in
theorem w_X0_leastInTurnUpTo_2 {p : Program} {l : Launch} {e : Env} {s : State} {m : MethodId} {args : Array Value} {below : List Frame} {meth : Method} {c : Code} {G : va_G} {tI tJ tZ : ClassId} {ad : Nat → Nat} (hD : ∀ σ, va_D (Ad 22 ad) (wdC tI tJ tZ ad σ)) (X : Cx p s m args meth c cX0_leastInTurnUpTo 3 RX0 wsX0_leastInTurnUpTo G (tyL tI tJ tZ) (wdC tI tJ tZ ad) (Ad 22 ad)) (hr : meth.sig.returnType = none) {post : St → Prop}  : ∀ (n : Nat) (x1 : Int32) (x2 : Int32) (σ : St), lp_X0_leastInTurnUpTo_2 post n x1 x2 σ → wm p l e rm_X0_leastInTurnUpTo s m args below meth c G (wdC tI tJ tZ ad) (Ad 22 ad) 3 (MQ below (Qv G (wdC tI tJ tZ ad) (Ad 22 ad) post) args s 0 0 (Ad 22 ad)) σ [(0, .ref (ad 5)), (1, .int x1), (2, .int x2)] 2 [] := by
  intro n
  induction n with
  | zero => intro x1 x2 σ h; exact h.elim
  | succ n ih =>
    intro x1 x2 σ h
    unfold lp_X0_leastInTurnUpTo_2 at h
    refine wm_iload_n X 2 rfl dX0_leastInTurnUpTo_2 ?_
    refine wm_iload_n X 1 rfl dX0_leastInTurnUpTo_3 ?_
    refine wm_icmp_gt (tgt := 38) X (by decide) dX0_leastInTurnUpTo_4 (fun c1 => ?_) (fun c1 => ?_)
    · replace h := h.1 c1
      exact wm_vret X hr h dX0_leastInTurnUpTo_38
    · replace h := h.2 c1
      refine wm_iload_n X 2 rfl dX0_leastInTurnUpTo_7 ?_
      refine wm_aload_n X 0 rfl dX0_leastInTurnUpTo_8 ?_
      refine wm_get X (by decide +kernel) 5 rfl rfl 5 (by decide) (by decide +kernel) rfl dX0_leastInTurnUpTo_9 ?_
      refine wm_icmp_ge (tgt := 38) X (by decide) dX0_leastInTurnUpTo_12 (fun c2 => ?_) (fun c2 => ?_)
      · replace h := h.1 c2
        exact wm_vret X hr h dX0_leastInTurnUpTo_38
      · replace h := h.2 c2
        refine wm_aload_n X 0 rfl dX0_leastInTurnUpTo_15 ?_
        refine wm_callVv (n := 0) (As := []) (rest := []) X (c_X0_barWhatCosts l G tI tJ tZ ad hD σ _ h) gX0_leastInTurnUpTo_X0_barWhatCosts rfl ⟨rfl, rfl⟩ (by decide +kernel) ⟨Nat.le_of_ble_eq_true rfl, Nat.le_of_ble_eq_true rfl⟩ 5 rfl rfl rfl rfl rfl (Nat.le_of_ble_eq_true rfl) dX0_leastInTurnUpTo_16 (fun σ4 h => ?_)
        refine wm_aload_n X 0 rfl dX0_leastInTurnUpTo_19 ?_
        refine wm_iconst (v := 1) X (by decide) dX0_leastInTurnUpTo_20 ?_
        refine wm_iload_n X 2 rfl dX0_leastInTurnUpTo_21 ?_
        refine wm_ishl X dX0_leastInTurnUpTo_22 ?_
        refine wm_iconst (v := 1) X (by decide) dX0_leastInTurnUpTo_23 ?_
        refine wm_iconst (v := 0) X (by decide) dX0_leastInTurnUpTo_24 ?_
        refine wm_callVv (n := 3) (As := [.int (1 <<< (x2 &&& 31)), .int 1, .int 0]) (rest := []) X (c_X0_setGoal l G tI tJ tZ ad hD (1 <<< (x2 &&& 31)) 1 0 σ4 _ h) gX0_leastInTurnUpTo_X0_setGoal rfl ⟨rfl, rfl⟩ (by decide +kernel) ⟨Nat.le_of_ble_eq_true rfl, Nat.le_of_ble_eq_true rfl⟩ 5 rfl rfl rfl rfl rfl (Nat.le_of_ble_eq_true rfl) dX0_leastInTurnUpTo_25 (fun σ6 h => ?_)
        refine wm_aload_n X 0 rfl dX0_leastInTurnUpTo_28 ?_
        refine wm_callVv (n := 0) (As := []) (rest := []) X (c_X0_walkToLeast l G tI tJ tZ ad hD σ6 _ h) gX0_leastInTurnUpTo_X0_walkToLeast rfl ⟨rfl, rfl⟩ (by decide +kernel) ⟨Nat.le_of_ble_eq_true rfl, Nat.le_of_ble_eq_true rfl⟩ 5 rfl rfl rfl rfl rfl (Nat.le_of_ble_eq_true rfl) dX0_leastInTurnUpTo_29 (fun σ8 h => ?_)
        obtain ⟨v9, e10⟩ : ∃ y : Int32, y = x2 + 1 := ⟨_, rfl⟩
        replace h := h v9 e10
        refine wm_iinc (v := v9) (lv' := [(2, .int v9), (0, .ref (ad 5)), (1, .int x1)]) X 2 rfl (by rw [e10]; rfl) (by decide) rfl dX0_leastInTurnUpTo_32 ?_
        clear e10
        refine wm_goto (tgt := 2) X (by decide) dX0_leastInTurnUpTo_35 ?_
        refine wm_sub [1, 2, 0] (lv' := [(0, .ref (ad 5)), (1, .int x1), (2, .int v9)]) rfl ?_
        exact ih x1 v9 σ8 h
set_option maxRecDepth 100000 in
set_option maxHeartbeats 4000000 in
theorem c_X0_leastInTurnUpTo (l : Launch) (G : va_G) (tI tJ tZ : ClassId) (ad : Nat → Nat) (hD : ∀ σ, va_D (Ad 22 ad) (wdC tI tJ tZ ad σ)) (x1 : Int32) (σ : St) (post : St → Prop) (h : wp_X0_leastInTurnUpTo x1 σ post) : Ct l yX0_leastInTurnUpTo wsX0_leastInTurnUpTo rm_X0_leastInTurnUpTo G (tyL tI tJ tZ) (wdC tI tJ tZ ad) (Ad 22 ad) [.ref (ad 5), .int x1] σ (Qv G (wdC tI tJ tZ ad) (Ad 22 ad) post) := by
  refine wm_entry (cc := cX0_leastInTurnUpTo) (maxL := 3) (ret := none) (own := RX0) (lv := [(0, .ref (ad 5)), (1, .int x1)]) (by decide +kernel) rfl rfl (Nat.le_of_ble_eq_true rfl) rfl hD ?_
  intro p e s m below meth c X hr
  unfold wp_X0_leastInTurnUpTo at h
  refine wm_iconst (v := 0) X (by decide) dX0_leastInTurnUpTo_0 ?_
  refine wm_istore_n (lv' := [(2, .int 0), (0, .ref (ad 5)), (1, .int x1)]) X rfl (by decide) rfl dX0_leastInTurnUpTo_1 ?_
  refine wm_sub [1, 2, 0] (lv' := [(0, .ref (ad 5)), (1, .int x1), (2, .int 0)]) rfl ?_
  obtain ⟨n0, h⟩ := h
  exact w_X0_leastInTurnUpTo_2 hD X hr n0 x1 0 σ h
