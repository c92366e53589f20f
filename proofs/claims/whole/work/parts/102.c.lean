/-! X0_setGoal -/
abbrev rm_X0_setGoal : Room := { frames := 1, cells := 0, slots := 0, locals := 21 }
def lp_X0_setGoal_3 (post : St → Prop)  : Nat → Int32 → Int32 → Int32 → Int32 → St → Prop
  | 0, _, _, _, _, _ => False
  | n + 1, x1, x2, x3, x4, σ =>
  ((gI σ 6) ≤ x4 → ∀ σ2 : St, σ2 = sI σ 5 x3 → post σ2) ∧ (¬ (gI σ 6) ≤ x4 → wp_X6_bitOf x1 x4 σ (fun r4 σ5 => (¬ r4 = 1 → vp_in x4 10 ∧ (∀ σ7 : St, σ7 = sA σ5 5 (Int32.toNatClampNeg x4) 0 → ∀ v9 : Int32, v9 = x4 + 1 → lp_X0_setGoal_3 post n x1 x2 x3 v9 σ7)) ∧ (r4 = 1 → vp_in x4 10 ∧ (∀ σ11 : St, σ11 = sA σ5 5 (Int32.toNatClampNeg x4) x2 → ∀ v13 : Int32, v13 = x4 + 1 → lp_X0_setGoal_3 post n x1 x2 x3 v13 σ11))))
def wp_X0_setGoal (x1 : Int32) (x2 : Int32) (x3 : Int32) (σ : St) (post : St → Prop) : Prop :=
  ∃ fu : Nat, lp_X0_setGoal_3 post fu x1 x2 x3 0 σ
set_option maxRecDepth 100000 in
set_option maxHeartbeats 4000000 in
theorem w_X0_setGoal_3 {p : Program} {l : Launch} {e : Env} {s : State} {m : MethodId} {args : Array Value} {below : List Frame} {meth : Method} {c : Code} {G : va_G} {tI tJ tZ : ClassId} {ad : Nat → Nat} (hD : ∀ σ, va_D (Ad 22 ad) (wdC tI tJ tZ ad σ)) (X : Cx p s m args meth c cX0_setGoal 5 RX0 wsX0_setGoal G (tyL tI tJ tZ) (wdC tI tJ tZ ad) (Ad 22 ad)) (hr : meth.sig.returnType = none) {post : St → Prop}  : ∀ (n : Nat) (x1 : Int32) (x2 : Int32) (x3 : Int32) (x4 : Int32) (σ : St), lp_X0_setGoal_3 post n x1 x2 x3 x4 σ → wm p l e rm_X0_setGoal s m args below meth c G (wdC tI tJ tZ ad) (Ad 22 ad) 5 (MQ below (Qv G (wdC tI tJ tZ ad) (Ad 22 ad) post) args s 0 0 (Ad 22 ad)) σ [(0, .ref (ad 5)), (1, .int x1), (2, .int x2), (3, .int x3), (4, .int x4)] 3 [] := by
  intro n
  induction n with
  | zero => intro x1 x2 x3 x4 σ h; exact h.elim
  | succ n ih =>
    intro x1 x2 x3 x4 σ h
    unfold lp_X0_setGoal_3 at h
    refine wm_iload X 4 rfl dX0_setGoal_3 ?_
    refine wm_aload_n X 0 rfl dX0_setGoal_5 ?_
    refine wm_get X (by decide +kernel) 5 rfl rfl 5 (by decide) (by decide +kernel) rfl dX0_setGoal_6 ?_
    refine wm_icmp_ge (tgt := 40) X (by decide) dX0_setGoal_9 (fun c1 => ?_) (fun c1 => ?_)
    · replace h := h.1 c1
      refine wm_aload_n X 0 rfl dX0_setGoal_40 ?_
      refine wm_iload_n X 3 rfl dX0_setGoal_41 ?_
      refine wm_put (σ' := sI σ 5 x3) X (by decide +kernel) tyX0 tyX0_ok nmX0 5 rfl rfl 4 (by decide) (by decide +kernel) rfl (tyX0_ok 4 (by decide)) rfl rfl (Nat.le_of_ble_eq_true rfl) rfl dX0_setGoal_42 ?_
      refine wm_nmS (fun σ2 e3 => ?_)
      replace h := h σ2 e3
      clear e3
      exact wm_vret X hr h dX0_setGoal_45
    · replace h := h.2 c1
      refine wm_aload_n X 0 rfl dX0_setGoal_12 ?_
      refine wm_get X (by decide +kernel) 5 rfl rfl 3 (by decide) (by decide +kernel) rfl dX0_setGoal_13 ?_
      refine wm_iload X 4 rfl dX0_setGoal_16 ?_
      refine wm_iload_n X 1 rfl dX0_setGoal_18 ?_
      refine wm_iload X 4 rfl dX0_setGoal_19 ?_
      refine wm_callNi (n := 2) (As := [.int x1, .int x4]) (rest := [.int x4, .ref (ad 9)]) X (c_X6_bitOf l G tI tJ tZ ad hD x1 x4 σ _ h) gX0_setGoal_X6_bitOf_n77 rfl ⟨rfl, rfl⟩ (List.mem_of_getElem? (i := 10) rfl) (by decide +kernel) (by decide +kernel) (by decide +kernel) ⟨Nat.le_of_ble_eq_true rfl, Nat.le_of_ble_eq_true rfl⟩ rfl rfl (Nat.le_of_ble_eq_true rfl) dX0_setGoal_21 (fun r4 σ5 h => ?_)
      refine wm_iconst (v := 1) X (by decide) dX0_setGoal_24 ?_
      refine wm_icmp_ne (tgt := 32) X (by decide) dX0_setGoal_25 (fun c6 => ?_) (fun c6 => ?_)
      · replace h := h.1 c6
        refine wm_iconst (v := 0) X (by decide) dX0_setGoal_32 ?_
        refine wm_iast (σ' := sA σ5 5 (Int32.toNatClampNeg x4) 0) X 9 0 rfl rfl h.1 rfl dX0_setGoal_33 ?_
        replace h := h.2
        refine wm_nmS (fun σ7 e8 => ?_)
        replace h := h σ7 e8
        clear e8
        obtain ⟨v9, e10⟩ : ∃ y : Int32, y = x4 + 1 := ⟨_, rfl⟩
        replace h := h v9 e10
        refine wm_iinc (v := v9) (lv' := [(4, .int v9), (0, .ref (ad 5)), (1, .int x1), (2, .int x2), (3, .int x3)]) X 4 rfl (by rw [e10]; rfl) (by decide) rfl dX0_setGoal_34 ?_
        clear e10
        refine wm_goto (tgt := 3) X (by decide) dX0_setGoal_37 ?_
        refine wm_sub [1, 2, 3, 4, 0] (lv' := [(0, .ref (ad 5)), (1, .int x1), (2, .int x2), (3, .int x3), (4, .int v9)]) rfl ?_
        exact ih x1 x2 x3 v9 σ7 h
      · replace h := h.2 c6
        refine wm_iload_n X 2 rfl dX0_setGoal_28 ?_
        refine wm_goto (tgt := 33) X (by decide) dX0_setGoal_29 ?_
        refine wm_iast (σ' := sA σ5 5 (Int32.toNatClampNeg x4) x2) X 9 0 rfl rfl h.1 rfl dX0_setGoal_33 ?_
        replace h := h.2
        refine wm_nmS (fun σ11 e12 => ?_)
        replace h := h σ11 e12
        clear e12
        obtain ⟨v13, e14⟩ : ∃ y : Int32, y = x4 + 1 := ⟨_, rfl⟩
        replace h := h v13 e14
        refine wm_iinc (v := v13) (lv' := [(4, .int v13), (0, .ref (ad 5)), (1, .int x1), (2, .int x2), (3, .int x3)]) X 4 rfl (by rw [e14]; rfl) (by decide) rfl dX0_setGoal_34 ?_
        clear e14
        refine wm_goto (tgt := 3) X (by decide) dX0_setGoal_37 ?_
        refine wm_sub [1, 2, 3, 4, 0] (lv' := [(0, .ref (ad 5)), (1, .int x1), (2, .int x2), (3, .int x3), (4, .int v13)]) rfl ?_
        exact ih x1 x2 x3 v13 σ11 h
set_option maxRecDepth 100000 in
set_option maxHeartbeats 4000000 in
theorem c_X0_setGoal (l : Launch) (G : va_G) (tI tJ tZ : ClassId) (ad : Nat → Nat) (hD : ∀ σ, va_D (Ad 22 ad) (wdC tI tJ tZ ad σ)) (x1 : Int32) (x2 : Int32) (x3 : Int32) (σ : St) (post : St → Prop) (h : wp_X0_setGoal x1 x2 x3 σ post) : Ct l yX0_setGoal wsX0_setGoal rm_X0_setGoal G (tyL tI tJ tZ) (wdC tI tJ tZ ad) (Ad 22 ad) [.ref (ad 5), .int x1, .int x2, .int x3] σ (Qv G (wdC tI tJ tZ ad) (Ad 22 ad) post) := by
  refine wm_entry (cc := cX0_setGoal) (maxL := 5) (ret := none) (own := RX0) (lv := [(0, .ref (ad 5)), (1, .int x1), (2, .int x2), (3, .int x3)]) (by decide +kernel) rfl rfl (Nat.le_of_ble_eq_true rfl) rfl hD ?_
  intro p e s m below meth c X hr
  unfold wp_X0_setGoal at h
  refine wm_iconst (v := 0) X (by decide) dX0_setGoal_0 ?_
  refine wm_istore (lv' := [(4, .int 0), (0, .ref (ad 5)), (1, .int x1), (2, .int x2), (3, .int x3)]) X (by decide) rfl dX0_setGoal_1 ?_
  refine wm_sub [1, 2, 3, 4, 0] (lv' := [(0, .ref (ad 5)), (1, .int x1), (2, .int x2), (3, .int x3), (4, .int 0)]) rfl ?_
  obtain ⟨n0, h⟩ := h
  exact w_X0_setGoal_3 hD X hr n0 x1 x2 x3 0 σ h
/-! X0_costOfColumn -/
abbrev rm_X0_costOfColumn : Room := { frames := 0, cells := 0, slots := 0, locals := 0 }
def jn_X0_costOfColumn_43 (post : Int64 → St → Prop) (K5 : Int32 → Int64 → Int32 → St → Prop) (x1 : Int32) (x2 : Int64) (x4 : Int32) (s0 : Int32) (σ : St) : Prop :=
  vp_in ((x4 * (gI σ 8)) + x1) 210 ∧ (∀ v1 : Int64, v1 = x2 + ((Int32.toInt64 s0) * (gB σ 0 (Int32.toNatClampNeg ((x4 * (gI σ 8)) + x1)))) → ∀ v3 : Int32, v3 = x4 + 1 → K5 x1 v1 v3 σ)
def lp_X0_costOfColumn_5 (post : Int64 → St → Prop)  : Nat → Int32 → Int64 → Int32 → St → Prop
  | 0, _, _, _, _ => False
  | n + 1, x1, x2, x4, σ =>
  ((gI σ 7) ≤ x4 → post x2 σ) ∧ (¬ (gI σ 7) ≤ x4 → vp_in x4 10 ∧ ((0 ≤ (gA σ 3 (Int32.toNatClampNeg x4)) → vp_in x4 10 ∧ (vp_in (gA σ 3 (Int32.toNatClampNeg x4)) 10 ∧ jn_X0_costOfColumn_43 post (lp_X0_costOfColumn_5 post n) x1 x2 x4 (gA σ 5 (Int32.toNatClampNeg (gA σ 3 (Int32.toNatClampNeg x4)))) σ)) ∧ (¬ 0 ≤ (gA σ 3 (Int32.toNatClampNeg x4)) → jn_X0_costOfColumn_43 post (lp_X0_costOfColumn_5 post n) x1 x2 x4 (gI σ 5) σ)))
def wp_X0_costOfColumn (x1 : Int32) (σ : St) (post : Int64 → St → Prop) : Prop :=
  ∃ fu : Nat, lp_X0_costOfColumn_5 post fu x1 0 0 σ
set_option maxRecDepth 100000 in
set_option maxHeartbeats 4000000 in
theorem w_X0_costOfColumn_43 {p : Program} {l : Launch} {e : Env} {s : State} {m : MethodId} {args : Array Value} {below : List Frame} {meth : Method} {c : Code} {G : va_G} {tI tJ tZ : ClassId} {ad : Nat → Nat} (hD : ∀ σ, va_D (Ad 22 ad) (wdC tI tJ tZ ad σ)) (X : Cx p s m args meth c cX0_costOfColumn 6 RX0 wsX0_costOfColumn G (tyL tI tJ tZ) (wdC tI tJ tZ ad) (Ad 22 ad)) (hr : meth.sig.returnType = (some .long)) {post : Int64 → St → Prop} {K5 : Int32 → Int64 → Int32 → St → Prop} (hK5 : ∀ (x1 : Int32) (x2 : Int64) (x4 : Int32) (σ : St), K5 x1 x2 x4 σ → wm p l e rm_X0_costOfColumn s m args below meth c G (wdC tI tJ tZ ad) (Ad 22 ad) 6 (MQ below (Ql G (wdC tI tJ tZ ad) (Ad 22 ad) post) args s 0 0 (Ad 22 ad)) σ [(0, .ref (ad 5)), (1, .int x1), (2, .long x2), (4, .int x4)] 5 []) (x1 : Int32) (x2 : Int64) (x4 : Int32) (s0 : Int32) (σ : St) (h : jn_X0_costOfColumn_43 post K5 x1 x2 x4 s0 σ) : wm p l e rm_X0_costOfColumn s m args below meth c G (wdC tI tJ tZ ad) (Ad 22 ad) 6 (MQ below (Ql G (wdC tI tJ tZ ad) (Ad 22 ad) post) args s 0 0 (Ad 22 ad)) σ [(0, .ref (ad 5)), (1, .int x1), (2, .long x2), (4, .int x4)] 43 [.int s0] := by
  unfold jn_X0_costOfColumn_43 at h
  refine wm_istore (lv' := [(5, .int s0), (0, .ref (ad 5)), (1, .int x1), (2, .long x2), (4, .int x4)]) X (by decide) rfl dX0_costOfColumn_43 ?_
  refine wm_lload_n X 3 rfl dX0_costOfColumn_45 ?_
  refine wm_iload X 0 rfl dX0_costOfColumn_46 ?_
  refine wm_i2l X dX0_costOfColumn_48 ?_
  refine wm_aload_n X 1 rfl dX0_costOfColumn_49 ?_
  refine wm_get X (by decide +kernel) 5 rfl rfl 0 (by decide) (by decide +kernel) rfl dX0_costOfColumn_50 ?_
  refine wm_iload X 4 rfl dX0_costOfColumn_53 ?_
  refine wm_aload_n X 1 rfl dX0_costOfColumn_55 ?_
  refine wm_get X (by decide +kernel) 5 rfl rfl 7 (by decide) (by decide +kernel) rfl dX0_costOfColumn_56 ?_
  refine wm_imul X dX0_costOfColumn_59 ?_
  refine wm_iload_n X 2 rfl dX0_costOfColumn_60 ?_
  refine wm_iadd X dX0_costOfColumn_61 ?_
  refine wm_lald X 6 1 rfl rfl h.1 dX0_costOfColumn_62 ?_
  replace h := h.2
  refine wm_lmul X dX0_costOfColumn_63 ?_
  refine wm_ladd X dX0_costOfColumn_64 ?_
  refine wm_nmL (fun v1 e2 => ?_)
  replace h := h v1 e2
  clear e2
  refine wm_lstore_n (lv' := [(2, .long v1), (5, .int s0), (0, .ref (ad 5)), (1, .int x1), (4, .int x4)]) X rfl (by decide) rfl dX0_costOfColumn_65 ?_
  obtain ⟨v3, e4⟩ : ∃ y : Int32, y = x4 + 1 := ⟨_, rfl⟩
  replace h := h v3 e4
  refine wm_iinc (v := v3) (lv' := [(4, .int v3), (2, .long v1), (5, .int s0), (0, .ref (ad 5)), (1, .int x1)]) X 4 rfl (by rw [e4]; rfl) (by decide) rfl dX0_costOfColumn_66 ?_
  clear e4
  refine wm_goto (tgt := 5) X (by decide) dX0_costOfColumn_69 ?_
  refine wm_sub [3, 4, 1, 0] (lv' := [(0, .ref (ad 5)), (1, .int x1), (2, .long v1), (4, .int v3)]) rfl ?_
  exact hK5 x1 v1 v3 σ h
set_option maxRecDepth 100000 in
set_option maxHeartbeats 4000000 in
theorem w_X0_costOfColumn_5 {p : Program} {l : Launch} {e : Env} {s : State} {m : MethodId} {args : Array Value} {below : List Frame} {meth : Method} {c : Code} {G : va_G} {tI tJ tZ : ClassId} {ad : Nat → Nat} (hD : ∀ σ, va_D (Ad 22 ad) (wdC tI tJ tZ ad σ)) (X : Cx p s m args meth c cX0_costOfColumn 6 RX0 wsX0_costOfColumn G (tyL tI tJ tZ) (wdC tI tJ tZ ad) (Ad 22 ad)) (hr : meth.sig.returnType = (some .long)) {post : Int64 → St → Prop}  : ∀ (n : Nat) (x1 : Int32) (x2 : Int64) (x4 : Int32) (σ : St), lp_X0_costOfColumn_5 post n x1 x2 x4 σ → wm p l e rm_X0_costOfColumn s m args below meth c G (wdC tI tJ tZ ad) (Ad 22 ad) 6 (MQ below (Ql G (wdC tI tJ tZ ad) (Ad 22 ad) post) args s 0 0 (Ad 22 ad)) σ [(0, .ref (ad 5)), (1, .int x1), (2, .long x2), (4, .int x4)] 5 [] := by
  intro n
  induction n with
  | zero => intro x1 x2 x4 σ h; exact h.elim
  | succ n ih =>
    intro x1 x2 x4 σ h
    unfold lp_X0_costOfColumn_5 at h
    refine wm_iload X 3 rfl dX0_costOfColumn_5 ?_
    refine wm_aload_n X 0 rfl dX0_costOfColumn_7 ?_
    refine wm_get X (by decide +kernel) 5 rfl rfl 6 (by decide) (by decide +kernel) rfl dX0_costOfColumn_8 ?_
    refine wm_icmp_ge (tgt := 72) X (by decide) dX0_costOfColumn_11 (fun c1 => ?_) (fun c1 => ?_)
    · replace h := h.1 c1
      refine wm_lload_n X 2 rfl dX0_costOfColumn_72 ?_
      exact wm_lret X hr h dX0_costOfColumn_73
    · replace h := h.2 c1
      refine wm_aload_n X 0 rfl dX0_costOfColumn_14 ?_
      refine wm_get X (by decide +kernel) 5 rfl rfl 1 (by decide) (by decide +kernel) rfl dX0_costOfColumn_15 ?_
      refine wm_iload X 3 rfl dX0_costOfColumn_18 ?_
      refine wm_iald X 7 0 rfl rfl h.1 dX0_costOfColumn_20 ?_
      replace h := h.2
      refine wm_if_ge (tgt := 31) X (by decide) dX0_costOfColumn_21 (fun c2 => ?_) (fun c2 => ?_)
      · replace h := h.1 c2
        refine wm_aload_n X 0 rfl dX0_costOfColumn_31 ?_
        refine wm_get X (by decide +kernel) 5 rfl rfl 3 (by decide) (by decide +kernel) rfl dX0_costOfColumn_32 ?_
        refine wm_aload_n X 0 rfl dX0_costOfColumn_35 ?_
        refine wm_get X (by decide +kernel) 5 rfl rfl 1 (by decide) (by decide +kernel) rfl dX0_costOfColumn_36 ?_
        refine wm_iload X 3 rfl dX0_costOfColumn_39 ?_
        refine wm_iald X 7 0 rfl rfl h.1 dX0_costOfColumn_41 ?_
        replace h := h.2
        refine wm_iald X 9 0 rfl rfl h.1 dX0_costOfColumn_42 ?_
        replace h := h.2
        exact w_X0_costOfColumn_43 hD X hr ih x1 x2 x4 (gA σ 5 (Int32.toNatClampNeg (gA σ 3 (Int32.toNatClampNeg x4)))) σ h
      · replace h := h.2 c2
        refine wm_aload_n X 0 rfl dX0_costOfColumn_24 ?_
        refine wm_get X (by decide +kernel) 5 rfl rfl 4 (by decide) (by decide +kernel) rfl dX0_costOfColumn_25 ?_
        refine wm_goto (tgt := 43) X (by decide) dX0_costOfColumn_28 ?_
        exact w_X0_costOfColumn_43 hD X hr ih x1 x2 x4 (gI σ 5) σ h
set_option maxRecDepth 100000 in
set_option maxHeartbeats 4000000 in
theorem c_X0_costOfColumn (l : Launch) (G : va_G) (tI tJ tZ : ClassId) (ad : Nat → Nat) (hD : ∀ σ, va_D (Ad 22 ad) (wdC tI tJ tZ ad σ)) (x1 : Int32) (σ : St) (post : Int64 → St → Prop) (h : wp_X0_costOfColumn x1 σ post) : Ct l yX0_costOfColumn wsX0_costOfColumn rm_X0_costOfColumn G (tyL tI tJ tZ) (wdC tI tJ tZ ad) (Ad 22 ad) [.ref (ad 5), .int x1] σ (Ql G (wdC tI tJ tZ ad) (Ad 22 ad) post) := by
  refine wm_entry (cc := cX0_costOfColumn) (maxL := 6) (ret := (some .long)) (own := RX0) (lv := [(0, .ref (ad 5)), (1, .int x1)]) (by decide +kernel) rfl rfl (Nat.le_of_ble_eq_true rfl) rfl hD ?_
  intro p e s m below meth c X hr
  unfold wp_X0_costOfColumn at h
  refine wm_lconst (v := 0) X (by decide) dX0_costOfColumn_0 ?_
  refine wm_lstore_n (lv' := [(2, .long 0), (0, .ref (ad 5)), (1, .int x1)]) X rfl (by decide) rfl dX0_costOfColumn_1 ?_
  refine wm_iconst (v := 0) X (by decide) dX0_costOfColumn_2 ?_
  refine wm_istore (lv' := [(4, .int 0), (2, .long 0), (0, .ref (ad 5)), (1, .int x1)]) X (by decide) rfl dX0_costOfColumn_3 ?_
  refine wm_sub [2, 3, 1, 0] (lv' := [(0, .ref (ad 5)), (1, .int x1), (2, .long 0), (4, .int 0)]) rfl ?_
  obtain ⟨n0, h⟩ := h
  exact w_X0_costOfColumn_5 hD X hr n0 x1 0 0 σ h
/-! X0_firstLineThatHelps -/
abbrev rm_X0_firstLineThatHelps : Room := { frames := 1, cells := 0, slots := 0, locals := 25 }
def lp_X0_firstLineThatHelps_2 (post : Int32 → St → Prop)  : Nat → Int32 → St → Prop
  | 0, _, _ => False
  | n + 1, x1, σ =>
  ((gI σ 6) ≤ x1 → post (-1) σ) ∧ (¬ (gI σ 6) ≤ x1 → wp_X6_bitOf (gI σ 9) x1 σ (fun r2 σ3 => (¬ r2 = 0 → ∀ v5 : Int32, v5 = x1 + 1 → lp_X0_firstLineThatHelps_2 post n v5 σ3) ∧ (r2 = 0 → vp_in x1 10 ∧ (wp_X0_costOfColumn x1 σ3 (fun r7 σ8 => (r7 ≤ ((gL σ3 0) * (Int32.toInt64 (gA σ3 5 (Int32.toNatClampNeg x1)))) → ∀ v10 : Int32, v10 = x1 + 1 → lp_X0_firstLineThatHelps_2 post n v10 σ8) ∧ (¬ r7 ≤ ((gL σ3 0) * (Int32.toInt64 (gA σ3 5 (Int32.toNatClampNeg x1)))) → post x1 σ8))))))
def wp_X0_firstLineThatHelps (σ : St) (post : Int32 → St → Prop) : Prop :=
  ∃ fu : Nat, lp_X0_firstLineThatHelps_2 post fu 0 σ
set_option maxRecDepth 100000 in
set_option maxHeartbeats 4000000 in
theorem w_X0_firstLineThatHelps_2 {p : Program} {l : Launch} {e : Env} {s : State} {m : MethodId} {args : Array Value} {below : List Frame} {meth : Method} {c : Code} {G : va_G} {tI tJ tZ : ClassId} {ad : Nat → Nat} (hD : ∀ σ, va_D (Ad 22 ad) (wdC tI tJ tZ ad σ)) (X : Cx p s m args meth c cX0_firstLineThatHelps 2 RX0 wsX0_firstLineThatHelps G (tyL tI tJ tZ) (wdC tI tJ tZ ad) (Ad 22 ad)) (hr : meth.sig.returnType = (some .int)) {post : Int32 → St → Prop}  : ∀ (n : Nat) (x1 : Int32) (σ : St), lp_X0_firstLineThatHelps_2 post n x1 σ → wm p l e rm_X0_firstLineThatHelps s m args below meth c G (wdC tI tJ tZ ad) (Ad 22 ad) 2 (MQ below (Qi G (wdC tI tJ tZ ad) (Ad 22 ad) post) args s 0 0 (Ad 22 ad)) σ [(0, .ref (ad 5)), (1, .int x1)] 2 [] := by
  intro n
  induction n with
  | zero => intro x1 σ h; exact h.elim
  | succ n ih =>
    intro x1 σ h
    unfold lp_X0_firstLineThatHelps_2 at h
    refine wm_iload_n X 1 rfl dX0_firstLineThatHelps_2 ?_
    refine wm_aload_n X 0 rfl dX0_firstLineThatHelps_3 ?_
    refine wm_get X (by decide +kernel) 5 rfl rfl 5 (by decide) (by decide +kernel) rfl dX0_firstLineThatHelps_4 ?_
    refine wm_icmp_ge (tgt := 50) X (by decide) dX0_firstLineThatHelps_7 (fun c1 => ?_) (fun c1 => ?_)
    · replace h := h.1 c1
      refine wm_iconst (v := (-1)) X (by decide) dX0_firstLineThatHelps_50 ?_
      exact wm_iret X hr h dX0_firstLineThatHelps_51
    · replace h := h.2 c1
      refine wm_aload_n X 0 rfl dX0_firstLineThatHelps_10 ?_
      refine wm_get X (by decide +kernel) 5 rfl rfl 9 (by decide) (by decide +kernel) rfl dX0_firstLineThatHelps_11 ?_
      refine wm_iload_n X 1 rfl dX0_firstLineThatHelps_14 ?_
      refine wm_callNi (n := 2) (As := [.int (gI σ 9), .int x1]) (rest := []) X (c_X6_bitOf l G tI tJ tZ ad hD (gI σ 9) x1 σ _ h) gX0_firstLineThatHelps_X6_bitOf_n77 rfl ⟨rfl, rfl⟩ (List.mem_of_getElem? (i := 10) rfl) (by decide +kernel) (by decide +kernel) (by decide +kernel) ⟨Nat.le_of_ble_eq_true rfl, Nat.le_of_ble_eq_true rfl⟩ rfl rfl (Nat.le_of_ble_eq_true rfl) dX0_firstLineThatHelps_15 (fun r2 σ3 h => ?_)
      refine wm_if_ne (tgt := 44) X (by decide) dX0_firstLineThatHelps_18 (fun c4 => ?_) (fun c4 => ?_)
      · replace h := h.1 c4
        obtain ⟨v5, e6⟩ : ∃ y : Int32, y = x1 + 1 := ⟨_, rfl⟩
        replace h := h v5 e6
        refine wm_iinc (v := v5) (lv' := [(1, .int v5), (0, .ref (ad 5))]) X 1 rfl (by rw [e6]; rfl) (by decide) rfl dX0_firstLineThatHelps_44 ?_
        clear e6
        refine wm_goto (tgt := 2) X (by decide) dX0_firstLineThatHelps_47 ?_
        refine wm_sub [1, 0] (lv' := [(0, .ref (ad 5)), (1, .int v5)]) rfl ?_
        exact ih v5 σ3 h
      · replace h := h.2 c4
        refine wm_aload_n X 0 rfl dX0_firstLineThatHelps_21 ?_
        refine wm_get X (by decide +kernel) 5 rfl rfl 8 (by decide) (by decide +kernel) rfl dX0_firstLineThatHelps_22 ?_
        refine wm_aload_n X 0 rfl dX0_firstLineThatHelps_25 ?_
        refine wm_get X (by decide +kernel) 5 rfl rfl 3 (by decide) (by decide +kernel) rfl dX0_firstLineThatHelps_26 ?_
        refine wm_iload_n X 1 rfl dX0_firstLineThatHelps_29 ?_
        refine wm_iald X 9 0 rfl rfl h.1 dX0_firstLineThatHelps_30 ?_
        replace h := h.2
        refine wm_i2l X dX0_firstLineThatHelps_31 ?_
        refine wm_lmul X dX0_firstLineThatHelps_32 ?_
        refine wm_aload_n X 0 rfl dX0_firstLineThatHelps_33 ?_
        refine wm_iload_n X 1 rfl dX0_firstLineThatHelps_34 ?_
        refine wm_callVl (n := 1) (As := [.int x1]) (rest := [.long ((gL σ3 0) * (Int32.toInt64 (gA σ3 5 (Int32.toNatClampNeg x1))))]) X (c_X0_costOfColumn l G tI tJ tZ ad hD x1 σ3 _ h) gX0_firstLineThatHelps_X0_costOfColumn rfl ⟨rfl, rfl⟩ (by decide +kernel) ⟨Nat.le_of_ble_eq_true rfl, Nat.le_of_ble_eq_true rfl⟩ 5 rfl rfl rfl rfl rfl (Nat.le_of_ble_eq_true rfl) dX0_firstLineThatHelps_35 (fun r7 σ8 h => ?_)
        refine wm_lcmp X dX0_firstLineThatHelps_38 ?_
        refine wm_if_ge (tgt := 44) X (by decide) dX0_firstLineThatHelps_39 (fun c9 => ?_) (fun c9 => ?_)
        · replace h := h.1 ((lc_ge _ _).mp c9)
          obtain ⟨v10, e11⟩ : ∃ y : Int32, y = x1 + 1 := ⟨_, rfl⟩
          replace h := h v10 e11
          refine wm_iinc (v := v10) (lv' := [(1, .int v10), (0, .ref (ad 5))]) X 1 rfl (by rw [e11]; rfl) (by decide) rfl dX0_firstLineThatHelps_44 ?_
          clear e11
          refine wm_goto (tgt := 2) X (by decide) dX0_firstLineThatHelps_47 ?_
          refine wm_sub [1, 0] (lv' := [(0, .ref (ad 5)), (1, .int v10)]) rfl ?_
          exact ih v10 σ8 h
        · replace h := h.2 ((lc_nge _ _).mp c9)
          refine wm_iload_n X 1 rfl dX0_firstLineThatHelps_42 ?_
          exact wm_iret X hr h dX0_firstLineThatHelps_43
set_option maxRecDepth 100000 in
set_option maxHeartbeats 4000000 in
theorem c_X0_firstLineThatHelps (l : Launch) (G : va_G) (tI tJ tZ : ClassId) (ad : Nat → Nat) (hD : ∀ σ, va_D (Ad 22 ad) (wdC tI tJ tZ ad σ))  (σ : St) (post : Int32 → St → Prop) (h : wp_X0_firstLineThatHelps  σ post) : Ct l yX0_firstLineThatHelps wsX0_firstLineThatHelps rm_X0_firstLineThatHelps G (tyL tI tJ tZ) (wdC tI tJ tZ ad) (Ad 22 ad) [.ref (ad 5)] σ (Qi G (wdC tI tJ tZ ad) (Ad 22 ad) post) := by
  refine wm_entry (cc := cX0_firstLineThatHelps) (maxL := 2) (ret := (some .int)) (own := RX0) (lv := [(0, .ref (ad 5))]) (by decide +kernel) rfl rfl (Nat.le_of_ble_eq_true rfl) rfl hD ?_
  intro p e s m below meth c X hr
  unfold wp_X0_firstLineThatHelps at h
  refine wm_iconst (v := 0) X (by decide) dX0_firstLineThatHelps_0 ?_
  refine wm_istore_n (lv' := [(1, .int 0), (0, .ref (ad 5))]) X rfl (by decide) rfl dX0_firstLineThatHelps_1 ?_
  refine wm_sub [1, 0] (lv' := [(0, .ref (ad 5)), (1, .int 0)]) rfl ?_
  obtain ⟨n0, h⟩ := h
  exact w_X0_firstLineThatHelps_2 hD X hr n0 0 σ h
/-! X0_givesWayBefore -/
abbrev rm_X0_givesWayBefore : Room := { frames := 0, cells := 0, slots := 0, locals := 0 }
def wp_X0_givesWayBefore (x1 : Int32) (x2 : Int32) (x3 : Int32) (σ : St) (post : Int32 → St → Prop) : Prop :=
  ∀ v1 : Int32, v1 = x1 * (gI σ 8) → ∀ v3 : Int32, v3 = x2 * (gI σ 8) → vp_in ((v1 + (gI σ 8)) - 1) 210 ∧ (vp_in (v3 + x3) 210 ∧ (∀ v5 : Int64, v5 = (gB σ 0 (Int32.toNatClampNeg ((v1 + (gI σ 8)) - 1))) * (gB σ 0 (Int32.toNatClampNeg (v3 + x3))) → vp_in ((v3 + (gI σ 8)) - 1) 210 ∧ (vp_in (v1 + x3) 210 ∧ (∀ v7 : Int64, v7 = (gB σ 0 (Int32.toNatClampNeg ((v3 + (gI σ 8)) - 1))) * (gB σ 0 (Int32.toNatClampNeg (v1 + x3))) → (v5 < v7 → post 1 σ) ∧ (¬ v5 < v7 → (¬ v5 = v7 → post 0 σ) ∧ (v5 = v7 → vp_in x1 10 ∧ (vp_in x2 10 ∧ (((gA σ 3 (Int32.toNatClampNeg x2)) ≤ (gA σ 3 (Int32.toNatClampNeg x1)) → post 0 σ) ∧ (¬ (gA σ 3 (Int32.toNatClampNeg x2)) ≤ (gA σ 3 (Int32.toNatClampNeg x1)) → post 1 σ)))))))))
set_option maxRecDepth 100000 in
set_option maxHeartbeats 4000000 in
theorem c_X0_givesWayBefore (l : Launch) (G : va_G) (tI tJ tZ : ClassId) (ad : Nat → Nat) (hD : ∀ σ, va_D (Ad 22 ad) (wdC tI tJ tZ ad σ)) (x1 : Int32) (x2 : Int32) (x3 : Int32) (σ : St) (post : Int32 → St → Prop) (h : wp_X0_givesWayBefore x1 x2 x3 σ post) : Ct l yX0_givesWayBefore wsX0_givesWayBefore rm_X0_givesWayBefore G (tyL tI tJ tZ) (wdC tI tJ tZ ad) (Ad 22 ad) [.ref (ad 5), .int x1, .int x2, .int x3] σ (Qi G (wdC tI tJ tZ ad) (Ad 22 ad) post) := by
  refine wm_entry (cc := cX0_givesWayBefore) (maxL := 10) (ret := (some .boolean)) (own := RX0) (lv := [(0, .ref (ad 5)), (1, .int x1), (2, .int x2), (3, .int x3)]) (by decide +kernel) rfl rfl (Nat.le_of_ble_eq_true rfl) rfl hD ?_
  intro p e s m below meth c X hr
  unfold wp_X0_givesWayBefore at h
  refine wm_iload_n X 1 rfl dX0_givesWayBefore_0 ?_
  refine wm_aload_n X 0 rfl dX0_givesWayBefore_1 ?_
  refine wm_get X (by decide +kernel) 5 rfl rfl 7 (by decide) (by decide +kernel) rfl dX0_givesWayBefore_2 ?_
  refine wm_imul X dX0_givesWayBefore_5 ?_
  refine wm_nmI (fun v1 e2 => ?_)
  replace h := h v1 e2
  clear e2
  refine wm_istore (lv' := [(4, .int v1), (0, .ref (ad 5)), (1, .int x1), (2, .int x2), (3, .int x3)]) X (by decide) rfl dX0_givesWayBefore_6 ?_
  refine wm_iload_n X 3 rfl dX0_givesWayBefore_8 ?_
  refine wm_aload_n X 1 rfl dX0_givesWayBefore_9 ?_
  refine wm_get X (by decide +kernel) 5 rfl rfl 7 (by decide) (by decide +kernel) rfl dX0_givesWayBefore_10 ?_
  refine wm_imul X dX0_givesWayBefore_13 ?_
  refine wm_nmI (fun v3 e4 => ?_)
  replace h := h v3 e4
  clear e4
  refine wm_istore (lv' := [(5, .int v3), (4, .int v1), (0, .ref (ad 5)), (1, .int x1), (2, .int x2), (3, .int x3)]) X (by decide) rfl dX0_givesWayBefore_14 ?_
  refine wm_aload_n X 2 rfl dX0_givesWayBefore_16 ?_
  refine wm_get X (by decide +kernel) 5 rfl rfl 0 (by decide) (by decide +kernel) rfl dX0_givesWayBefore_17 ?_
  refine wm_iload X 1 rfl dX0_givesWayBefore_20 ?_
  refine wm_aload_n X 2 rfl dX0_givesWayBefore_22 ?_
  refine wm_get X (by decide +kernel) 5 rfl rfl 7 (by decide) (by decide +kernel) rfl dX0_givesWayBefore_23 ?_
  refine wm_iadd X dX0_givesWayBefore_26 ?_
  refine wm_iconst (v := 1) X (by decide) dX0_givesWayBefore_27 ?_
  refine wm_isub X dX0_givesWayBefore_28 ?_
  refine wm_lald X 6 1 rfl rfl h.1 dX0_givesWayBefore_29 ?_
  replace h := h.2
  refine wm_aload_n X 2 rfl dX0_givesWayBefore_30 ?_
  refine wm_get X (by decide +kernel) 5 rfl rfl 0 (by decide) (by decide +kernel) rfl dX0_givesWayBefore_31 ?_
  refine wm_iload X 0 rfl dX0_givesWayBefore_34 ?_
  refine wm_iload_n X 5 rfl dX0_givesWayBefore_36 ?_
  refine wm_iadd X dX0_givesWayBefore_37 ?_
  refine wm_lald X 6 1 rfl rfl h.1 dX0_givesWayBefore_38 ?_
  replace h := h.2
  refine wm_lmul X dX0_givesWayBefore_39 ?_
  refine wm_nmL (fun v5 e6 => ?_)
  replace h := h v5 e6
  clear e6
  refine wm_lstore (lv' := [(6, .long v5), (5, .int v3), (4, .int v1), (0, .ref (ad 5)), (1, .int x1), (2, .int x2), (3, .int x3)]) X (by decide) rfl dX0_givesWayBefore_40 ?_
  refine wm_aload_n X 3 rfl dX0_givesWayBefore_42 ?_
  refine wm_get X (by decide +kernel) 5 rfl rfl 0 (by decide) (by decide +kernel) rfl dX0_givesWayBefore_43 ?_
  refine wm_iload X 1 rfl dX0_givesWayBefore_46 ?_
  refine wm_aload_n X 3 rfl dX0_givesWayBefore_48 ?_
  refine wm_get X (by decide +kernel) 5 rfl rfl 7 (by decide) (by decide +kernel) rfl dX0_givesWayBefore_49 ?_
  refine wm_iadd X dX0_givesWayBefore_52 ?_
  refine wm_iconst (v := 1) X (by decide) dX0_givesWayBefore_53 ?_
  refine wm_isub X dX0_givesWayBefore_54 ?_
  refine wm_lald X 6 1 rfl rfl h.1 dX0_givesWayBefore_55 ?_
  replace h := h.2
  refine wm_aload_n X 3 rfl dX0_givesWayBefore_56 ?_
  refine wm_get X (by decide +kernel) 5 rfl rfl 0 (by decide) (by decide +kernel) rfl dX0_givesWayBefore_57 ?_
  refine wm_iload X 2 rfl dX0_givesWayBefore_60 ?_
  refine wm_iload_n X 6 rfl dX0_givesWayBefore_62 ?_
  refine wm_iadd X dX0_givesWayBefore_63 ?_
  refine wm_lald X 6 1 rfl rfl h.1 dX0_givesWayBefore_64 ?_
  replace h := h.2
  refine wm_lmul X dX0_givesWayBefore_65 ?_
  refine wm_nmL (fun v7 e8 => ?_)
  replace h := h v7 e8
  clear e8
  refine wm_lstore (lv' := [(8, .long v7), (6, .long v5), (5, .int v3), (4, .int v1), (0, .ref (ad 5)), (1, .int x1), (2, .int x2), (3, .int x3)]) X (by decide) rfl dX0_givesWayBefore_66 ?_
  refine wm_lload X 1 rfl dX0_givesWayBefore_68 ?_
  refine wm_lload X 0 rfl dX0_givesWayBefore_70 ?_
  refine wm_lcmp X dX0_givesWayBefore_72 ?_
  refine wm_if_lt (tgt := 99) X (by decide) dX0_givesWayBefore_73 (fun c9 => ?_) (fun c9 => ?_)
  · replace h := h.1 ((lc_lt _ _).mp c9)
    refine wm_iconst (v := 1) X (by decide) dX0_givesWayBefore_99 ?_
    refine wm_goto (tgt := 104) X (by decide) dX0_givesWayBefore_100 ?_
    exact wm_zret X hr bz_1 h dX0_givesWayBefore_104
  · replace h := h.2 ((lc_nlt _ _).mp c9)
    refine wm_lload X 1 rfl dX0_givesWayBefore_76 ?_
    refine wm_lload X 0 rfl dX0_givesWayBefore_78 ?_
    refine wm_lcmp X dX0_givesWayBefore_80 ?_
    refine wm_if_ne (tgt := 103) X (by decide) dX0_givesWayBefore_81 (fun c10 => ?_) (fun c10 => ?_)
    · replace h := h.1 ((lc_ne _ _).mp c10)
      refine wm_iconst (v := 0) X (by decide) dX0_givesWayBefore_103 ?_
      exact wm_zret X hr bz_0 h dX0_givesWayBefore_104
    · replace h := h.2 ((lc_nne _ _).mp c10)
      refine wm_aload_n X 4 rfl dX0_givesWayBefore_84 ?_
      refine wm_get X (by decide +kernel) 5 rfl rfl 1 (by decide) (by decide +kernel) rfl dX0_givesWayBefore_85 ?_
      refine wm_iload_n X 5 rfl dX0_givesWayBefore_88 ?_
      refine wm_iald X 7 0 rfl rfl h.1 dX0_givesWayBefore_89 ?_
      replace h := h.2
      refine wm_aload_n X 4 rfl dX0_givesWayBefore_90 ?_
      refine wm_get X (by decide +kernel) 5 rfl rfl 1 (by decide) (by decide +kernel) rfl dX0_givesWayBefore_91 ?_
      refine wm_iload_n X 6 rfl dX0_givesWayBefore_94 ?_
      refine wm_iald X 7 0 rfl rfl h.1 dX0_givesWayBefore_95 ?_
      replace h := h.2
      refine wm_icmp_ge (tgt := 103) X (by decide) dX0_givesWayBefore_96 (fun c11 => ?_) (fun c11 => ?_)
      · replace h := h.1 c11
        refine wm_iconst (v := 0) X (by decide) dX0_givesWayBefore_103 ?_
        exact wm_zret X hr bz_0 h dX0_givesWayBefore_104
      · replace h := h.2 c11
        refine wm_iconst (v := 1) X (by decide) dX0_givesWayBefore_99 ?_
        refine wm_goto (tgt := 104) X (by decide) dX0_givesWayBefore_100 ?_
        exact wm_zret X hr bz_1 h dX0_givesWayBefore_104
/-! X0_rowThatGivesWay -/
abbrev rm_X0_rowThatGivesWay : Room := { frames := 1, cells := 0, slots := 0, locals := 29 }
def lp_X0_rowThatGivesWay_4 (post : Int32 → St → Prop)  : Nat → Int32 → Int32 → Int32 → St → Prop
  | 0, _, _, _, _ => False
  | n + 1, x1, x2, x3, σ =>
  ((gI σ 7) ≤ x3 → post x2 σ) ∧ (¬ (gI σ 7) ≤ x3 → vp_in ((x3 * (gI σ 8)) + x1) 210 ∧ (((lg_cmp (gB σ 0 (Int32.toNatClampNeg ((x3 * (gI σ 8)) + x1))) 0) ≤ 0 → ∀ v3 : Int32, v3 = x3 + 1 → lp_X0_rowThatGivesWay_4 post n x1 x2 v3 σ) ∧ (¬ (lg_cmp (gB σ 0 (Int32.toNatClampNeg ((x3 * (gI σ 8)) + x1))) 0) ≤ 0 → (x2 = (-1) → ∀ v6 : Int32, v6 = x3 + 1 → lp_X0_rowThatGivesWay_4 post n x1 x3 v6 σ) ∧ (¬ x2 = (-1) → wp_X0_givesWayBefore x3 x2 x1 σ (fun r8 σ9 => (r8 = 0 → ∀ v11 : Int32, v11 = x3 + 1 → lp_X0_rowThatGivesWay_4 post n x1 x2 v11 σ9) ∧ (¬ r8 = 0 → ∀ v13 : Int32, v13 = x3 + 1 → lp_X0_rowThatGivesWay_4 post n x1 x3 v13 σ9))))))
def wp_X0_rowThatGivesWay (x1 : Int32) (σ : St) (post : Int32 → St → Prop) : Prop :=
  ∃ fu : Nat, lp_X0_rowThatGivesWay_4 post fu x1 (-1) 0 σ
set_option maxRecDepth 100000 in
set_option maxHeartbeats 4000000 in
theorem w_X0_rowThatGivesWay_4 {p : Program} {l : Launch} {e : Env} {s : State} {m : MethodId} {args : Array Value} {below : List Frame} {meth : Method} {c : Code} {G : va_G} {tI tJ tZ : ClassId} {ad : Nat → Nat} (hD : ∀ σ, va_D (Ad 22 ad) (wdC tI tJ tZ ad σ)) (X : Cx p s m args meth c cX0_rowThatGivesWay 4 RX0 wsX0_rowThatGivesWay G (tyL tI tJ tZ) (wdC tI tJ tZ ad) (Ad 22 ad)) (hr : meth.sig.returnType = (some .int)) {post : Int32 → St → Prop}  : ∀ (n : Nat) (x1 : Int32) (x2 : Int32) (x3 : Int32) (σ : St), lp_X0_rowThatGivesWay_4 post n x1 x2 x3 σ → wm p l e rm_X0_rowThatGivesWay s m args below meth c G (wdC tI tJ tZ ad) (Ad 22 ad) 4 (MQ below (Qi G (wdC tI tJ tZ ad) (Ad 22 ad) post) args s 0 0 (Ad 22 ad)) σ [(0, .ref (ad 5)), (1, .int x1), (2, .int x2), (3, .int x3)] 4 [] := by
  intro n
  induction n with
  | zero => intro x1 x2 x3 σ h; exact h.elim
  | succ n ih =>
    intro x1 x2 x3 σ h
    unfold lp_X0_rowThatGivesWay_4 at h
    refine wm_iload_n X 3 rfl dX0_rowThatGivesWay_4 ?_
    refine wm_aload_n X 0 rfl dX0_rowThatGivesWay_5 ?_
    refine wm_get X (by decide +kernel) 5 rfl rfl 6 (by decide) (by decide +kernel) rfl dX0_rowThatGivesWay_6 ?_
    refine wm_icmp_ge (tgt := 53) X (by decide) dX0_rowThatGivesWay_9 (fun c1 => ?_) (fun c1 => ?_)
    · replace h := h.1 c1
      refine wm_iload_n X 2 rfl dX0_rowThatGivesWay_53 ?_
      exact wm_iret X hr h dX0_rowThatGivesWay_54
    · replace h := h.2 c1
      refine wm_aload_n X 0 rfl dX0_rowThatGivesWay_12 ?_
      refine wm_get X (by decide +kernel) 5 rfl rfl 0 (by decide) (by decide +kernel) rfl dX0_rowThatGivesWay_13 ?_
      refine wm_iload_n X 3 rfl dX0_rowThatGivesWay_16 ?_
      refine wm_aload_n X 0 rfl dX0_rowThatGivesWay_17 ?_
      refine wm_get X (by decide +kernel) 5 rfl rfl 7 (by decide) (by decide +kernel) rfl dX0_rowThatGivesWay_18 ?_
      refine wm_imul X dX0_rowThatGivesWay_21 ?_
      refine wm_iload_n X 1 rfl dX0_rowThatGivesWay_22 ?_
      refine wm_iadd X dX0_rowThatGivesWay_23 ?_
      refine wm_lald X 6 1 rfl rfl h.1 dX0_rowThatGivesWay_24 ?_
      replace h := h.2
      refine wm_lconst (v := 0) X (by decide) dX0_rowThatGivesWay_25 ?_
      refine wm_lcmp X dX0_rowThatGivesWay_26 ?_
      refine wm_if_le (tgt := 47) X (by decide) dX0_rowThatGivesWay_27 (fun c2 => ?_) (fun c2 => ?_)
      · replace h := h.1 c2
        obtain ⟨v3, e4⟩ : ∃ y : Int32, y = x3 + 1 := ⟨_, rfl⟩
        replace h := h v3 e4
        refine wm_iinc (v := v3) (lv' := [(3, .int v3), (0, .ref (ad 5)), (1, .int x1), (2, .int x2)]) X 3 rfl (by rw [e4]; rfl) (by decide) rfl dX0_rowThatGivesWay_47 ?_
        clear e4
        refine wm_goto (tgt := 4) X (by decide) dX0_rowThatGivesWay_50 ?_
        refine wm_sub [1, 2, 3, 0] (lv' := [(0, .ref (ad 5)), (1, .int x1), (2, .int x2), (3, .int v3)]) rfl ?_
        exact ih x1 x2 v3 σ h
      · replace h := h.2 c2
        refine wm_iload_n X 2 rfl dX0_rowThatGivesWay_30 ?_
        refine wm_iconst (v := (-1)) X (by decide) dX0_rowThatGivesWay_31 ?_
        refine wm_icmp_eq (tgt := 45) X (by decide) dX0_rowThatGivesWay_32 (fun c5 => ?_) (fun c5 => ?_)
        · replace h := h.1 c5
          refine wm_iload_n X 3 rfl dX0_rowThatGivesWay_45 ?_
          refine wm_istore_n (lv' := [(2, .int x3), (0, .ref (ad 5)), (1, .int x1), (3, .int x3)]) X rfl (by decide) rfl dX0_rowThatGivesWay_46 ?_
          obtain ⟨v6, e7⟩ : ∃ y : Int32, y = x3 + 1 := ⟨_, rfl⟩
          replace h := h v6 e7
          refine wm_iinc (v := v6) (lv' := [(3, .int v6), (2, .int x3), (0, .ref (ad 5)), (1, .int x1)]) X 3 rfl (by rw [e7]; rfl) (by decide) rfl dX0_rowThatGivesWay_47 ?_
          clear e7
          refine wm_goto (tgt := 4) X (by decide) dX0_rowThatGivesWay_50 ?_
          refine wm_sub [2, 3, 1, 0] (lv' := [(0, .ref (ad 5)), (1, .int x1), (2, .int x3), (3, .int v6)]) rfl ?_
          exact ih x1 x3 v6 σ h
        · replace h := h.2 c5
          refine wm_aload_n X 0 rfl dX0_rowThatGivesWay_35 ?_
          refine wm_iload_n X 3 rfl dX0_rowThatGivesWay_36 ?_
          refine wm_iload_n X 2 rfl dX0_rowThatGivesWay_37 ?_
          refine wm_iload_n X 1 rfl dX0_rowThatGivesWay_38 ?_
          refine wm_callVi (n := 3) (As := [.int x3, .int x2, .int x1]) (rest := []) X (c_X0_givesWayBefore l G tI tJ tZ ad hD x3 x2 x1 σ _ h) gX0_rowThatGivesWay_X0_givesWayBefore rfl ⟨rfl, rfl⟩ (by decide +kernel) ⟨Nat.le_of_ble_eq_true rfl, Nat.le_of_ble_eq_true rfl⟩ 5 rfl rfl rfl rfl rfl (Nat.le_of_ble_eq_true rfl) dX0_rowThatGivesWay_39 (fun r8 σ9 h => ?_)
          refine wm_if_eq (tgt := 47) X (by decide) dX0_rowThatGivesWay_42 (fun c10 => ?_) (fun c10 => ?_)
          · replace h := h.1 c10
            obtain ⟨v11, e12⟩ : ∃ y : Int32, y = x3 + 1 := ⟨_, rfl⟩
            replace h := h v11 e12
            refine wm_iinc (v := v11) (lv' := [(3, .int v11), (0, .ref (ad 5)), (1, .int x1), (2, .int x2)]) X 3 rfl (by rw [e12]; rfl) (by decide) rfl dX0_rowThatGivesWay_47 ?_
            clear e12
            refine wm_goto (tgt := 4) X (by decide) dX0_rowThatGivesWay_50 ?_
            refine wm_sub [1, 2, 3, 0] (lv' := [(0, .ref (ad 5)), (1, .int x1), (2, .int x2), (3, .int v11)]) rfl ?_
            exact ih x1 x2 v11 σ9 h
          · replace h := h.2 c10
            refine wm_iload_n X 3 rfl dX0_rowThatGivesWay_45 ?_
            refine wm_istore_n (lv' := [(2, .int x3), (0, .ref (ad 5)), (1, .int x1), (3, .int x3)]) X rfl (by decide) rfl dX0_rowThatGivesWay_46 ?_
            obtain ⟨v13, e14⟩ : ∃ y : Int32, y = x3 + 1 := ⟨_, rfl⟩
            replace h := h v13 e14
            refine wm_iinc (v := v13) (lv' := [(3, .int v13), (2, .int x3), (0, .ref (ad 5)), (1, .int x1)]) X 3 rfl (by rw [e14]; rfl) (by decide) rfl dX0_rowThatGivesWay_47 ?_
            clear e14
            refine wm_goto (tgt := 4) X (by decide) dX0_rowThatGivesWay_50 ?_
            refine wm_sub [2, 3, 1, 0] (lv' := [(0, .ref (ad 5)), (1, .int x1), (2, .int x3), (3, .int v13)]) rfl ?_
            exact ih x1 x3 v13 σ9 h
set_option maxRecDepth 100000 in
set_option maxHeartbeats 4000000 in
theorem c_X0_rowThatGivesWay (l : Launch) (G : va_G) (tI tJ tZ : ClassId) (ad : Nat → Nat) (hD : ∀ σ, va_D (Ad 22 ad) (wdC tI tJ tZ ad σ)) (x1 : Int32) (σ : St) (post : Int32 → St → Prop) (h : wp_X0_rowThatGivesWay x1 σ post) : Ct l yX0_rowThatGivesWay wsX0_rowThatGivesWay rm_X0_rowThatGivesWay G (tyL tI tJ tZ) (wdC tI tJ tZ ad) (Ad 22 ad) [.ref (ad 5), .int x1] σ (Qi G (wdC tI tJ tZ ad) (Ad 22 ad) post) := by
  refine wm_entry (cc := cX0_rowThatGivesWay) (maxL := 4) (ret := (some .int)) (own := RX0) (lv := [(0, .ref (ad 5)), (1, .int x1)]) (by decide +kernel) rfl rfl (Nat.le_of_ble_eq_true rfl) rfl hD ?_
  intro p e s m below meth c X hr
  unfold wp_X0_rowThatGivesWay at h
  refine wm_iconst (v := (-1)) X (by decide) dX0_rowThatGivesWay_0 ?_
  refine wm_istore_n (lv' := [(2, .int (-1)), (0, .ref (ad 5)), (1, .int x1)]) X rfl (by decide) rfl dX0_rowThatGivesWay_1 ?_
  refine wm_iconst (v := 0) X (by decide) dX0_rowThatGivesWay_2 ?_
  refine wm_istore_n (lv' := [(3, .int 0), (2, .int (-1)), (0, .ref (ad 5)), (1, .int x1)]) X rfl (by decide) rfl dX0_rowThatGivesWay_3 ?_
  refine wm_sub [2, 3, 1, 0] (lv' := [(0, .ref (ad 5)), (1, .int x1), (2, .int (-1)), (3, .int 0)]) rfl ?_
  obtain ⟨n0, h⟩ := h
  exact w_X0_rowThatGivesWay_4 hD X hr n0 x1 (-1) 0 σ h
/-! X0_clearColumn -/
abbrev rm_X0_clearColumn : Room := { frames := 0, cells := 0, slots := 0, locals := 0 }
def lp_X0_clearColumn_50 (post : St → Prop)  : Nat → Int32 → Int32 → Int64 → Int64 → Int32 → St → Prop
  | 0, _, _, _, _, _, _ => False
  | n + 1, x1, x2, x4, x6, x8, σ =>
  ((gI σ 8) ≤ x8 → post σ) ∧ (¬ (gI σ 8) ≤ x8 → vp_in (x1 + x8) 210 ∧ (vp_in (x2 + x8) 210 ∧ (∀ v2 : Int64, v2 = ((gB σ 0 (Int32.toNatClampNeg (x1 + x8))) * x4) - (x6 * (gB σ 0 (Int32.toNatClampNeg (x2 + x8)))) → ¬ (gL σ 0) = 0 ∧ (vp_in (x1 + x8) 210 ∧ (∀ σ4 : St, σ4 = sB σ 0 (Int32.toNatClampNeg (x1 + x8)) (v2 / (gL σ 0)) → ∀ v6 : Int32, v6 = x8 + 1 → lp_X0_clearColumn_50 post n x1 x2 x4 x6 v6 σ4)))))
def wp_X0_clearColumn (x1 : Int32) (x2 : Int32) (x3 : Int32) (σ : St) (post : St → Prop) : Prop :=
  vp_in (x2 + x3) 210 ∧ (∀ v1 : Int64, v1 = gB σ 0 (Int32.toNatClampNeg (x2 + x3)) → vp_in (x1 + x3) 210 ∧ (∀ v3 : Int64, v3 = gB σ 0 (Int32.toNatClampNeg (x1 + x3)) → ((gL σ 0) = 0 → post σ) ∧ (¬ (gL σ 0) = 0 → (¬ v3 = 0 → ∃ fu : Nat, lp_X0_clearColumn_50 post fu x1 x2 v1 v3 0 σ) ∧ (v3 = 0 → (¬ v1 = (gL σ 0) → ∃ fu : Nat, lp_X0_clearColumn_50 post fu x1 x2 v1 v3 0 σ) ∧ (v1 = (gL σ 0) → post σ)))))
set_option maxRecDepth 100000 in
set_option maxHeartbeats 4000000 in
theorem w_X0_clearColumn_50 {p : Program} {l : Launch} {e : Env} {s : State} {m : MethodId} {args : Array Value} {below : List Frame} {meth : Method} {c : Code} {G : va_G} {tI tJ tZ : ClassId} {ad : Nat → Nat} (hD : ∀ σ, va_D (Ad 22 ad) (wdC tI tJ tZ ad σ)) (X : Cx p s m args meth c cX0_clearColumn 11 RX0 wsX0_clearColumn G (tyL tI tJ tZ) (wdC tI tJ tZ ad) (Ad 22 ad)) (hr : meth.sig.returnType = none) {post : St → Prop}  : ∀ (n : Nat) (x1 : Int32) (x2 : Int32) (x4 : Int64) (x6 : Int64) (x8 : Int32) (σ : St), lp_X0_clearColumn_50 post n x1 x2 x4 x6 x8 σ → wm p l e rm_X0_clearColumn s m args below meth c G (wdC tI tJ tZ ad) (Ad 22 ad) 11 (MQ below (Qv G (wdC tI tJ tZ ad) (Ad 22 ad) post) args s 0 0 (Ad 22 ad)) σ [(0, .ref (ad 5)), (1, .int x1), (2, .int x2), (4, .long x4), (6, .long x6), (8, .int x8)] 50 [] := by
  intro n
  induction n with
  | zero => intro x1 x2 x4 x6 x8 σ h; exact h.elim
  | succ n ih =>
    intro x1 x2 x4 x6 x8 σ h
    unfold lp_X0_clearColumn_50 at h
    refine wm_iload X 5 rfl dX0_clearColumn_50 ?_
    refine wm_aload_n X 0 rfl dX0_clearColumn_52 ?_
    refine wm_get X (by decide +kernel) 5 rfl rfl 7 (by decide) (by decide +kernel) rfl dX0_clearColumn_53 ?_
    refine wm_icmp_ge (tgt := 108) X (by decide) dX0_clearColumn_56 (fun c1 => ?_) (fun c1 => ?_)
    · replace h := h.1 c1
      exact wm_vret X hr h dX0_clearColumn_108
    · replace h := h.2 c1
      refine wm_aload_n X 0 rfl dX0_clearColumn_59 ?_
      refine wm_get X (by decide +kernel) 5 rfl rfl 0 (by decide) (by decide +kernel) rfl dX0_clearColumn_60 ?_
      refine wm_iload_n X 1 rfl dX0_clearColumn_63 ?_
      refine wm_iload X 5 rfl dX0_clearColumn_64 ?_
      refine wm_iadd X dX0_clearColumn_66 ?_
      refine wm_lald X 6 1 rfl rfl h.1 dX0_clearColumn_67 ?_
      replace h := h.2
      refine wm_lload X 3 rfl dX0_clearColumn_68 ?_
      refine wm_lmul X dX0_clearColumn_70 ?_
      refine wm_lload X 4 rfl dX0_clearColumn_71 ?_
      refine wm_aload_n X 0 rfl dX0_clearColumn_73 ?_
      refine wm_get X (by decide +kernel) 5 rfl rfl 0 (by decide) (by decide +kernel) rfl dX0_clearColumn_74 ?_
      refine wm_iload_n X 2 rfl dX0_clearColumn_77 ?_
      refine wm_iload X 5 rfl dX0_clearColumn_78 ?_
      refine wm_iadd X dX0_clearColumn_80 ?_
      refine wm_lald X 6 1 rfl rfl h.1 dX0_clearColumn_81 ?_
      replace h := h.2
      refine wm_lmul X dX0_clearColumn_82 ?_
      refine wm_lsub X dX0_clearColumn_83 ?_
      refine wm_nmL (fun v2 e3 => ?_)
      replace h := h v2 e3
      clear e3
      refine wm_lstore (lv' := [(9, .long v2), (0, .ref (ad 5)), (1, .int x1), (2, .int x2), (4, .long x4), (6, .long x6), (8, .int x8)]) X (by decide) rfl dX0_clearColumn_84 ?_
      refine wm_aload_n X 1 rfl dX0_clearColumn_86 ?_
      refine wm_get X (by decide +kernel) 5 rfl rfl 0 (by decide) (by decide +kernel) rfl dX0_clearColumn_87 ?_
      refine wm_iload_n X 2 rfl dX0_clearColumn_90 ?_
      refine wm_iload X 6 rfl dX0_clearColumn_91 ?_
      refine wm_iadd X dX0_clearColumn_93 ?_
      refine wm_lload X 0 rfl dX0_clearColumn_94 ?_
      refine wm_aload_n X 1 rfl dX0_clearColumn_96 ?_
      refine wm_get X (by decide +kernel) 5 rfl rfl 8 (by decide) (by decide +kernel) rfl dX0_clearColumn_97 ?_
      refine wm_ldiv X h.1 dX0_clearColumn_100 ?_
      replace h := h.2
      refine wm_last (σ' := sB σ 0 (Int32.toNatClampNeg (x1 + x8)) (v2 / (gL σ 0))) X 6 1 rfl rfl h.1 rfl dX0_clearColumn_101 ?_
      replace h := h.2
      refine wm_nmS (fun σ4 e5 => ?_)
      replace h := h σ4 e5
      clear e5
      obtain ⟨v6, e7⟩ : ∃ y : Int32, y = x8 + 1 := ⟨_, rfl⟩
      replace h := h v6 e7
      refine wm_iinc (v := v6) (lv' := [(8, .int v6), (9, .long v2), (0, .ref (ad 5)), (1, .int x1), (2, .int x2), (4, .long x4), (6, .long x6)]) X 6 rfl (by rw [e7]; rfl) (by decide) rfl dX0_clearColumn_102 ?_
      clear e7
      refine wm_goto (tgt := 50) X (by decide) dX0_clearColumn_105 ?_
      refine wm_sub [2, 3, 4, 5, 6, 0] (lv' := [(0, .ref (ad 5)), (1, .int x1), (2, .int x2), (4, .long x4), (6, .long x6), (8, .int v6)]) rfl ?_
      exact ih x1 x2 x4 x6 v6 σ4 h
set_option maxRecDepth 100000 in
set_option maxHeartbeats 4000000 in
theorem c_X0_clearColumn (l : Launch) (G : va_G) (tI tJ tZ : ClassId) (ad : Nat → Nat) (hD : ∀ σ, va_D (Ad 22 ad) (wdC tI tJ tZ ad σ)) (x1 : Int32) (x2 : Int32) (x3 : Int32) (σ : St) (post : St → Prop) (h : wp_X0_clearColumn x1 x2 x3 σ post) : Ct l yX0_clearColumn wsX0_clearColumn rm_X0_clearColumn G (tyL tI tJ tZ) (wdC tI tJ tZ ad) (Ad 22 ad) [.ref (ad 5), .int x1, .int x2, .int x3] σ (Qv G (wdC tI tJ tZ ad) (Ad 22 ad) post) := by
  refine wm_entry (cc := cX0_clearColumn) (maxL := 11) (ret := none) (own := RX0) (lv := [(0, .ref (ad 5)), (1, .int x1), (2, .int x2), (3, .int x3)]) (by decide +kernel) rfl rfl (Nat.le_of_ble_eq_true rfl) rfl hD ?_
  intro p e s m below meth c X hr
  unfold wp_X0_clearColumn at h
  refine wm_aload_n X 0 rfl dX0_clearColumn_0 ?_
  refine wm_get X (by decide +kernel) 5 rfl rfl 0 (by decide) (by decide +kernel) rfl dX0_clearColumn_1 ?_
  refine wm_iload_n X 2 rfl dX0_clearColumn_4 ?_
  refine wm_iload_n X 3 rfl dX0_clearColumn_5 ?_
  refine wm_iadd X dX0_clearColumn_6 ?_
  refine wm_lald X 6 1 rfl rfl h.1 dX0_clearColumn_7 ?_
  replace h := h.2
  refine wm_nmL (fun v1 e2 => ?_)
  replace h := h v1 e2
  clear e2
  refine wm_lstore (lv' := [(4, .long v1), (0, .ref (ad 5)), (1, .int x1), (2, .int x2), (3, .int x3)]) X (by decide) rfl dX0_clearColumn_8 ?_
  refine wm_aload_n X 1 rfl dX0_clearColumn_10 ?_
  refine wm_get X (by decide +kernel) 5 rfl rfl 0 (by decide) (by decide +kernel) rfl dX0_clearColumn_11 ?_
  refine wm_iload_n X 2 rfl dX0_clearColumn_14 ?_
  refine wm_iload_n X 4 rfl dX0_clearColumn_15 ?_
  refine wm_iadd X dX0_clearColumn_16 ?_
  refine wm_lald X 6 1 rfl rfl h.1 dX0_clearColumn_17 ?_
  replace h := h.2
  refine wm_nmL (fun v3 e4 => ?_)
  replace h := h v3 e4
  clear e4
  refine wm_lstore (lv' := [(6, .long v3), (4, .long v1), (0, .ref (ad 5)), (1, .int x1), (2, .int x2), (3, .int x3)]) X (by decide) rfl dX0_clearColumn_18 ?_
  refine wm_aload_n X 2 rfl dX0_clearColumn_20 ?_
  refine wm_get X (by decide +kernel) 5 rfl rfl 8 (by decide) (by decide +kernel) rfl dX0_clearColumn_21 ?_
  refine wm_lconst (v := 0) X (by decide) dX0_clearColumn_24 ?_
  refine wm_lcmp X dX0_clearColumn_25 ?_
  refine wm_if_eq (tgt := 46) X (by decide) dX0_clearColumn_26 (fun c5 => ?_) (fun c5 => ?_)
  · replace h := h.1 ((lc_eq _ _).mp c5)
    exact wm_vret X hr h dX0_clearColumn_46
  · replace h := h.2 ((lc_neq _ _).mp c5)
    refine wm_lload X 0 rfl dX0_clearColumn_29 ?_
    refine wm_lconst (v := 0) X (by decide) dX0_clearColumn_31 ?_
    refine wm_lcmp X dX0_clearColumn_32 ?_
    refine wm_if_ne (tgt := 47) X (by decide) dX0_clearColumn_33 (fun c6 => ?_) (fun c6 => ?_)
    · replace h := h.1 ((lc_ne _ _).mp c6)
      refine wm_iconst (v := 0) X (by decide) dX0_clearColumn_47 ?_
      refine wm_istore (lv' := [(8, .int 0), (6, .long v3), (4, .long v1), (0, .ref (ad 5)), (1, .int x1), (2, .int x2), (3, .int x3)]) X (by decide) rfl dX0_clearColumn_48 ?_
      refine wm_sub [3, 4, 5, 2, 1, 0] (lv' := [(0, .ref (ad 5)), (1, .int x1), (2, .int x2), (4, .long v1), (6, .long v3), (8, .int 0)]) rfl ?_
      obtain ⟨n0, h⟩ := h
      exact w_X0_clearColumn_50 hD X hr n0 x1 x2 v1 v3 0 σ h
    · replace h := h.2 ((lc_nne _ _).mp c6)
      refine wm_lload X 1 rfl dX0_clearColumn_36 ?_
      refine wm_aload_n X 2 rfl dX0_clearColumn_38 ?_
      refine wm_get X (by decide +kernel) 5 rfl rfl 8 (by decide) (by decide +kernel) rfl dX0_clearColumn_39 ?_
      refine wm_lcmp X dX0_clearColumn_42 ?_
      refine wm_if_ne (tgt := 47) X (by decide) dX0_clearColumn_43 (fun c7 => ?_) (fun c7 => ?_)
      · replace h := h.1 ((lc_ne _ _).mp c7)
        refine wm_iconst (v := 0) X (by decide) dX0_clearColumn_47 ?_
        refine wm_istore (lv' := [(8, .int 0), (6, .long v3), (4, .long v1), (0, .ref (ad 5)), (1, .int x1), (2, .int x2), (3, .int x3)]) X (by decide) rfl dX0_clearColumn_48 ?_
        refine wm_sub [3, 4, 5, 2, 1, 0] (lv' := [(0, .ref (ad 5)), (1, .int x1), (2, .int x2), (4, .long v1), (6, .long v3), (8, .int 0)]) rfl ?_
        obtain ⟨n0, h⟩ := h
        exact w_X0_clearColumn_50 hD X hr n0 x1 x2 v1 v3 0 σ h
      · replace h := h.2 ((lc_nne _ _).mp c7)
        exact wm_vret X hr h dX0_clearColumn_46
/-! X0_turnSigns -/
abbrev rm_X0_turnSigns : Room := { frames := 0, cells := 0, slots := 0, locals := 0 }
def lp_X0_turnSigns_2 (post : St → Prop)  : Nat → Int32 → Int32 → St → Prop
  | 0, _, _, _ => False
  | n + 1, x1, x2, σ =>
  ((gI σ 8) ≤ x2 → post σ) ∧ (¬ (gI σ 8) ≤ x2 → vp_in (x1 + x2) 210 ∧ (vp_in (x1 + x2) 210 ∧ (∀ σ2 : St, σ2 = sB σ 0 (Int32.toNatClampNeg (x1 + x2)) (-(gB σ 0 (Int32.toNatClampNeg (x1 + x2)))) → ∀ v4 : Int32, v4 = x2 + 1 → lp_X0_turnSigns_2 post n x1 v4 σ2)))
def wp_X0_turnSigns (x1 : Int32) (σ : St) (post : St → Prop) : Prop :=
  ∃ fu : Nat, lp_X0_turnSigns_2 post fu x1 0 σ
set_option maxRecDepth 100000 in
set_option maxHeartbeats 4000000 in
theorem w_X0_turnSigns_2 {p : Program} {l : Launch} {e : Env} {s : State} {m : MethodId} {args : Array Value} {below : List Frame} {meth : Method} {c : Code} {G : va_G} {tI tJ tZ : ClassId} {ad : Nat → Nat} (hD : ∀ σ, va_D (Ad 22 ad) (wdC tI tJ tZ ad σ)) (X : Cx p s m args meth c cX0_turnSigns 3 RX0 wsX0_turnSigns G (tyL tI tJ tZ) (wdC tI tJ tZ ad) (Ad 22 ad)) (hr : meth.sig.returnType = none) {post : St → Prop}  : ∀ (n : Nat) (x1 : Int32) (x2 : Int32) (σ : St), lp_X0_turnSigns_2 post n x1 x2 σ → wm p l e rm_X0_turnSigns s m args below meth c G (wdC tI tJ tZ ad) (Ad 22 ad) 3 (MQ below (Qv G (wdC tI tJ tZ ad) (Ad 22 ad) post) args s 0 0 (Ad 22 ad)) σ [(0, .ref (ad 5)), (1, .int x1), (2, .int x2)] 2 [] := by
  intro n
  induction n with
  | zero => intro x1 x2 σ h; exact h.elim
  | succ n ih =>
    intro x1 x2 σ h
    unfold lp_X0_turnSigns_2 at h
    refine wm_iload_n X 2 rfl dX0_turnSigns_2 ?_
    refine wm_aload_n X 0 rfl dX0_turnSigns_3 ?_
    refine wm_get X (by decide +kernel) 5 rfl rfl 7 (by decide) (by decide +kernel) rfl dX0_turnSigns_4 ?_
    refine wm_icmp_ge (tgt := 33) X (by decide) dX0_turnSigns_7 (fun c1 => ?_) (fun c1 => ?_)
    · replace h := h.1 c1
      exact wm_vret X hr h dX0_turnSigns_33
    · replace h := h.2 c1
      refine wm_aload_n X 0 rfl dX0_turnSigns_10 ?_
      refine wm_get X (by decide +kernel) 5 rfl rfl 0 (by decide) (by decide +kernel) rfl dX0_turnSigns_11 ?_
      refine wm_iload_n X 1 rfl dX0_turnSigns_14 ?_
      refine wm_iload_n X 2 rfl dX0_turnSigns_15 ?_
      refine wm_iadd X dX0_turnSigns_16 ?_
      refine wm_aload_n X 0 rfl dX0_turnSigns_17 ?_
      refine wm_get X (by decide +kernel) 5 rfl rfl 0 (by decide) (by decide +kernel) rfl dX0_turnSigns_18 ?_
      refine wm_iload_n X 1 rfl dX0_turnSigns_21 ?_
      refine wm_iload_n X 2 rfl dX0_turnSigns_22 ?_
      refine wm_iadd X dX0_turnSigns_23 ?_
      refine wm_lald X 6 1 rfl rfl h.1 dX0_turnSigns_24 ?_
      replace h := h.2
      refine wm_lneg X dX0_turnSigns_25 ?_
      refine wm_last (σ' := sB σ 0 (Int32.toNatClampNeg (x1 + x2)) (-(gB σ 0 (Int32.toNatClampNeg (x1 + x2))))) X 6 1 rfl rfl h.1 rfl dX0_turnSigns_26 ?_
      replace h := h.2
      refine wm_nmS (fun σ2 e3 => ?_)
      replace h := h σ2 e3
      clear e3
      obtain ⟨v4, e5⟩ : ∃ y : Int32, y = x2 + 1 := ⟨_, rfl⟩
      replace h := h v4 e5
      refine wm_iinc (v := v4) (lv' := [(2, .int v4), (0, .ref (ad 5)), (1, .int x1)]) X 2 rfl (by rw [e5]; rfl) (by decide) rfl dX0_turnSigns_27 ?_
      clear e5
      refine wm_goto (tgt := 2) X (by decide) dX0_turnSigns_30 ?_
      refine wm_sub [1, 2, 0] (lv' := [(0, .ref (ad 5)), (1, .int x1), (2, .int v4)]) rfl ?_
      exact ih x1 v4 σ2 h
set_option maxRecDepth 100000 in
set_option maxHeartbeats 4000000 in
theorem c_X0_turnSigns (l : Launch) (G : va_G) (tI tJ tZ : ClassId) (ad : Nat → Nat) (hD : ∀ σ, va_D (Ad 22 ad) (wdC tI tJ tZ ad σ)) (x1 : Int32) (σ : St) (post : St → Prop) (h : wp_X0_turnSigns x1 σ post) : Ct l yX0_turnSigns wsX0_turnSigns rm_X0_turnSigns G (tyL tI tJ tZ) (wdC tI tJ tZ ad) (Ad 22 ad) [.ref (ad 5), .int x1] σ (Qv G (wdC tI tJ tZ ad) (Ad 22 ad) post) := by
  refine wm_entry (cc := cX0_turnSigns) (maxL := 3) (ret := none) (own := RX0) (lv := [(0, .ref (ad 5)), (1, .int x1)]) (by decide +kernel) rfl rfl (Nat.le_of_ble_eq_true rfl) rfl hD ?_
  intro p e s m below meth c X hr
  unfold wp_X0_turnSigns at h
  refine wm_iconst (v := 0) X (by decide) dX0_turnSigns_0 ?_
  refine wm_istore_n (lv' := [(2, .int 0), (0, .ref (ad 5)), (1, .int x1)]) X rfl (by decide) rfl dX0_turnSigns_1 ?_
  refine wm_sub [1, 2, 0] (lv' := [(0, .ref (ad 5)), (1, .int x1), (2, .int 0)]) rfl ?_
  obtain ⟨n0, h⟩ := h
  exact w_X0_turnSigns_2 hD X hr n0 x1 0 σ h
/-! X0_exchange -/
abbrev rm_X0_exchange : Room := { frames := 1, cells := 0, slots := 0, locals := 30 }
def lp_X0_exchange_55 (post : St → Prop)  : Nat → Int32 → Int32 → Int32 → Int64 → Int32 → St → Prop
  | 0, _, _, _, _, _, _ => False
  | n + 1, x1, x2, x3, x4, x6, σ =>
  ((gI σ 7) ≤ x6 → ∀ σ2 : St, σ2 = sL σ 0 x4 → vp_in x1 10 ∧ (∀ σ4 : St, σ4 = sA σ2 3 (Int32.toNatClampNeg x1) x2 → post σ4)) ∧ (¬ (gI σ 7) ≤ x6 → (x6 = x1 → ∀ v7 : Int32, v7 = x6 + 1 → lp_X0_exchange_55 post n x1 x2 x3 x4 v7 σ) ∧ (¬ x6 = x1 → wp_X0_clearColumn (x6 * (gI σ 8)) x3 x2 σ (fun σ10 => ∀ v11 : Int32, v11 = x6 + 1 → lp_X0_exchange_55 post n x1 x2 x3 x4 v11 σ10)))
def jn_X0_exchange_25 (post : St → Prop)  (x1 : Int32) (x2 : Int32) (x3 : Int32) (σ : St) : Prop :=
  vp_in (x3 + x2) 210 ∧ (∀ v1 : Int64, v1 = gB σ 0 (Int32.toNatClampNeg (x3 + x2)) → (v1 = 0 → post σ) ∧ (¬ v1 = 0 → (¬ (gL σ 0) = 0 → ∃ fu : Nat, lp_X0_exchange_55 post fu x1 x2 x3 v1 0 σ) ∧ ((gL σ 0) = 0 → post σ)))
def wp_X0_exchange (x1 : Int32) (x2 : Int32) (σ : St) (post : St → Prop) : Prop :=
  ∀ v1 : Int32, v1 = x1 * (gI σ 8) → vp_in (v1 + x2) 210 ∧ ((0 ≤ (gB σ 0 (Int32.toNatClampNeg (v1 + x2))) → jn_X0_exchange_25 post x1 x2 v1 σ) ∧ (¬ 0 ≤ (gB σ 0 (Int32.toNatClampNeg (v1 + x2))) → wp_X0_turnSigns v1 σ (fun σ5 => jn_X0_exchange_25 post x1 x2 v1 σ5)))
set_option maxRecDepth 100000 in
set_option maxHeartbeats 4000000 in
theorem w_X0_exchange_55 {p : Program} {l : Launch} {e : Env} {s : State} {m : MethodId} {args : Array Value} {below : List Frame} {meth : Method} {c : Code} {G : va_G} {tI tJ tZ : ClassId} {ad : Nat → Nat} (hD : ∀ σ, va_D (Ad 22 ad) (wdC tI tJ tZ ad σ)) (X : Cx p s m args meth c cX0_exchange 7 RX0 wsX0_exchange G (tyL tI tJ tZ) (wdC tI tJ tZ ad) (Ad 22 ad)) (hr : meth.sig.returnType = none) {post : St → Prop}  : ∀ (n : Nat) (x1 : Int32) (x2 : Int32) (x3 : Int32) (x4 : Int64) (x6 : Int32) (σ : St), lp_X0_exchange_55 post n x1 x2 x3 x4 x6 σ → wm p l e rm_X0_exchange s m args below meth c G (wdC tI tJ tZ ad) (Ad 22 ad) 7 (MQ below (Qv G (wdC tI tJ tZ ad) (Ad 22 ad) post) args s 0 0 (Ad 22 ad)) σ [(0, .ref (ad 5)), (1, .int x1), (2, .int x2), (3, .int x3), (4, .long x4), (6, .int x6)] 55 [] := by
  intro n
  induction n with
  | zero => intro x1 x2 x3 x4 x6 σ h; exact h.elim
  | succ n ih =>
    intro x1 x2 x3 x4 x6 σ h
    unfold lp_X0_exchange_55 at h
    refine wm_iload X 5 rfl dX0_exchange_55 ?_
    refine wm_aload_n X 0 rfl dX0_exchange_57 ?_
    refine wm_get X (by decide +kernel) 5 rfl rfl 6 (by decide) (by decide +kernel) rfl dX0_exchange_58 ?_
    refine wm_icmp_ge (tgt := 89) X (by decide) dX0_exchange_61 (fun c1 => ?_) (fun c1 => ?_)
    · replace h := h.1 c1
      refine wm_aload_n X 0 rfl dX0_exchange_89 ?_
      refine wm_lload X 4 rfl dX0_exchange_90 ?_
      refine wm_put (σ' := sL σ 0 x4) X (by decide +kernel) tyX0 tyX0_ok nmX0 5 rfl rfl 8 (by decide) (by decide +kernel) rfl (tyX0_ok 8 (by decide)) rfl rfl (Nat.le_of_ble_eq_true rfl) rfl dX0_exchange_92 ?_
      refine wm_nmS (fun σ2 e3 => ?_)
      replace h := h σ2 e3
      clear e3
      refine wm_aload_n X 0 rfl dX0_exchange_95 ?_
      refine wm_get X (by decide +kernel) 5 rfl rfl 1 (by decide) (by decide +kernel) rfl dX0_exchange_96 ?_
      refine wm_iload_n X 1 rfl dX0_exchange_99 ?_
      refine wm_iload_n X 2 rfl dX0_exchange_100 ?_
      refine wm_iast (σ' := sA σ2 3 (Int32.toNatClampNeg x1) x2) X 7 0 rfl rfl h.1 rfl dX0_exchange_101 ?_
      replace h := h.2
      refine wm_nmS (fun σ4 e5 => ?_)
      replace h := h σ4 e5
      clear e5
      exact wm_vret X hr h dX0_exchange_102
    · replace h := h.2 c1
      refine wm_iload X 5 rfl dX0_exchange_64 ?_
      refine wm_iload_n X 1 rfl dX0_exchange_66 ?_
      refine wm_icmp_eq (tgt := 83) X (by decide) dX0_exchange_67 (fun c6 => ?_) (fun c6 => ?_)
      · replace h := h.1 c6
        obtain ⟨v7, e8⟩ : ∃ y : Int32, y = x6 + 1 := ⟨_, rfl⟩
        replace h := h v7 e8
        refine wm_iinc (v := v7) (lv' := [(6, .int v7), (0, .ref (ad 5)), (1, .int x1), (2, .int x2), (3, .int x3), (4, .long x4)]) X 5 rfl (by rw [e8]; rfl) (by decide) rfl dX0_exchange_83 ?_
        clear e8
        refine wm_goto (tgt := 55) X (by decide) dX0_exchange_86 ?_
        refine wm_sub [1, 2, 3, 4, 5, 0] (lv' := [(0, .ref (ad 5)), (1, .int x1), (2, .int x2), (3, .int x3), (4, .long x4), (6, .int v7)]) rfl ?_
        exact ih x1 x2 x3 x4 v7 σ h
      · replace h := h.2 c6
        refine wm_aload_n X 0 rfl dX0_exchange_70 ?_
        refine wm_iload X 5 rfl dX0_exchange_71 ?_
        refine wm_aload_n X 0 rfl dX0_exchange_73 ?_
        refine wm_get X (by decide +kernel) 5 rfl rfl 7 (by decide) (by decide +kernel) rfl dX0_exchange_74 ?_
        refine wm_imul X dX0_exchange_77 ?_
        refine wm_iload_n X 3 rfl dX0_exchange_78 ?_
        refine wm_iload_n X 2 rfl dX0_exchange_79 ?_
        refine wm_callVv (n := 3) (As := [.int (x6 * (gI σ 8)), .int x3, .int x2]) (rest := []) X (c_X0_clearColumn l G tI tJ tZ ad hD (x6 * (gI σ 8)) x3 x2 σ _ h) gX0_exchange_X0_clearColumn rfl ⟨rfl, rfl⟩ (by decide +kernel) ⟨Nat.le_of_ble_eq_true rfl, Nat.le_of_ble_eq_true rfl⟩ 5 rfl rfl rfl rfl rfl (Nat.le_of_ble_eq_true rfl) dX0_exchange_80 (fun σ10 h => ?_)
        obtain ⟨v11, e12⟩ : ∃ y : Int32, y = x6 + 1 := ⟨_, rfl⟩
        replace h := h v11 e12
        refine wm_iinc (v := v11) (lv' := [(6, .int v11), (0, .ref (ad 5)), (1, .int x1), (2, .int x2), (3, .int x3), (4, .long x4)]) X 5 rfl (by rw [e12]; rfl) (by decide) rfl dX0_exchange_83 ?_
        clear e12
        refine wm_goto (tgt := 55) X (by decide) dX0_exchange_86 ?_
        refine wm_sub [1, 2, 3, 4, 5, 0] (lv' := [(0, .ref (ad 5)), (1, .int x1), (2, .int x2), (3, .int x3), (4, .long x4), (6, .int v11)]) rfl ?_
        exact ih x1 x2 x3 x4 v11 σ10 h
set_option maxRecDepth 100000 in
set_option maxHeartbeats 4000000 in
theorem w_X0_exchange_25 {p : Program} {l : Launch} {e : Env} {s : State} {m : MethodId} {args : Array Value} {below : List Frame} {meth : Method} {c : Code} {G : va_G} {tI tJ tZ : ClassId} {ad : Nat → Nat} (hD : ∀ σ, va_D (Ad 22 ad) (wdC tI tJ tZ ad σ)) (X : Cx p s m args meth c cX0_exchange 7 RX0 wsX0_exchange G (tyL tI tJ tZ) (wdC tI tJ tZ ad) (Ad 22 ad)) (hr : meth.sig.returnType = none) {post : St → Prop}  (x1 : Int32) (x2 : Int32) (x3 : Int32) (σ : St) (h : jn_X0_exchange_25 post x1 x2 x3 σ) : wm p l e rm_X0_exchange s m args below meth c G (wdC tI tJ tZ ad) (Ad 22 ad) 7 (MQ below (Qv G (wdC tI tJ tZ ad) (Ad 22 ad) post) args s 0 0 (Ad 22 ad)) σ [(0, .ref (ad 5)), (1, .int x1), (2, .int x2), (3, .int x3)] 25 [] := by
  unfold jn_X0_exchange_25 at h
  refine wm_aload_n X 0 rfl dX0_exchange_25 ?_
  refine wm_get X (by decide +kernel) 5 rfl rfl 0 (by decide) (by decide +kernel) rfl dX0_exchange_26 ?_
  refine wm_iload_n X 3 rfl dX0_exchange_29 ?_
  refine wm_iload_n X 2 rfl dX0_exchange_30 ?_
  refine wm_iadd X dX0_exchange_31 ?_
  refine wm_lald X 6 1 rfl rfl h.1 dX0_exchange_32 ?_
  replace h := h.2
  refine wm_nmL (fun v1 e2 => ?_)
  replace h := h v1 e2
  clear e2
  refine wm_lstore (lv' := [(4, .long v1), (0, .ref (ad 5)), (1, .int x1), (2, .int x2), (3, .int x3)]) X (by decide) rfl dX0_exchange_33 ?_
  refine wm_lload X 0 rfl dX0_exchange_35 ?_
  refine wm_lconst (v := 0) X (by decide) dX0_exchange_37 ?_
  refine wm_lcmp X dX0_exchange_38 ?_
  refine wm_if_eq (tgt := 51) X (by decide) dX0_exchange_39 (fun c3 => ?_) (fun c3 => ?_)
  · replace h := h.1 ((lc_eq _ _).mp c3)
    exact wm_vret X hr h dX0_exchange_51
  · replace h := h.2 ((lc_neq _ _).mp c3)
    refine wm_aload_n X 1 rfl dX0_exchange_42 ?_
    refine wm_get X (by decide +kernel) 5 rfl rfl 8 (by decide) (by decide +kernel) rfl dX0_exchange_43 ?_
    refine wm_lconst (v := 0) X (by decide) dX0_exchange_46 ?_
    refine wm_lcmp X dX0_exchange_47 ?_
    refine wm_if_ne (tgt := 52) X (by decide) dX0_exchange_48 (fun c4 => ?_) (fun c4 => ?_)
    · replace h := h.1 ((lc_ne _ _).mp c4)
      refine wm_iconst (v := 0) X (by decide) dX0_exchange_52 ?_
      refine wm_istore (lv' := [(6, .int 0), (4, .long v1), (0, .ref (ad 5)), (1, .int x1), (2, .int x2), (3, .int x3)]) X (by decide) rfl dX0_exchange_53 ?_
      refine wm_sub [2, 3, 4, 5, 1, 0] (lv' := [(0, .ref (ad 5)), (1, .int x1), (2, .int x2), (3, .int x3), (4, .long v1), (6, .int 0)]) rfl ?_
      obtain ⟨n0, h⟩ := h
      exact w_X0_exchange_55 hD X hr n0 x1 x2 x3 v1 0 σ h
    · replace h := h.2 ((lc_nne _ _).mp c4)
      exact wm_vret X hr h dX0_exchange_51
set_option maxRecDepth 100000 in
set_option maxHeartbeats 4000000 in
theorem c_X0_exchange (l : Launch) (G : va_G) (tI tJ tZ : ClassId) (ad : Nat → Nat) (hD : ∀ σ, va_D (Ad 22 ad) (wdC tI tJ tZ ad σ)) (x1 : Int32) (x2 : Int32) (σ : St) (post : St → Prop) (h : wp_X0_exchange x1 x2 σ post) : Ct l yX0_exchange wsX0_exchange rm_X0_exchange G (tyL tI tJ tZ) (wdC tI tJ tZ ad) (Ad 22 ad) [.ref (ad 5), .int x1, .int x2] σ (Qv G (wdC tI tJ tZ ad) (Ad 22 ad) post) := by
  refine wm_entry (cc := cX0_exchange) (maxL := 7) (ret := none) (own := RX0) (lv := [(0, .ref (ad 5)), (1, .int x1), (2, .int x2)]) (by decide +kernel) rfl rfl (Nat.le_of_ble_eq_true rfl) rfl hD ?_
  intro p e s m below meth c X hr
  unfold wp_X0_exchange at h
  refine wm_iload_n X 1 rfl dX0_exchange_0 ?_
  refine wm_aload_n X 0 rfl dX0_exchange_1 ?_
  refine wm_get X (by decide +kernel) 5 rfl rfl 7 (by decide) (by decide +kernel) rfl dX0_exchange_2 ?_
  refine wm_imul X dX0_exchange_5 ?_
  refine wm_nmI (fun v1 e2 => ?_)
  replace h := h v1 e2
  clear e2
  refine wm_istore_n (lv' := [(3, .int v1), (0, .ref (ad 5)), (1, .int x1), (2, .int x2)]) X rfl (by decide) rfl dX0_exchange_6 ?_
  refine wm_aload_n X 1 rfl dX0_exchange_7 ?_
  refine wm_get X (by decide +kernel) 5 rfl rfl 0 (by decide) (by decide +kernel) rfl dX0_exchange_8 ?_
  refine wm_iload_n X 0 rfl dX0_exchange_11 ?_
  refine wm_iload_n X 3 rfl dX0_exchange_12 ?_
  refine wm_iadd X dX0_exchange_13 ?_
  refine wm_lald X 6 1 rfl rfl h.1 dX0_exchange_14 ?_
  replace h := h.2
  refine wm_lconst (v := 0) X (by decide) dX0_exchange_15 ?_
  refine wm_lcmp X dX0_exchange_16 ?_
  refine wm_if_ge (tgt := 25) X (by decide) dX0_exchange_17 (fun c3 => ?_) (fun c3 => ?_)
  · replace h := h.1 ((lc_ge _ _).mp c3)
    refine wm_sub [1, 2, 3, 0] (lv' := [(0, .ref (ad 5)), (1, .int x1), (2, .int x2), (3, .int v1)]) rfl ?_
    exact w_X0_exchange_25 hD X hr x1 x2 v1 σ h
  · replace h := h.2 ((lc_nge _ _).mp c3)
    refine wm_aload_n X 1 rfl dX0_exchange_20 ?_
    refine wm_iload_n X 0 rfl dX0_exchange_21 ?_
    refine wm_callVv (n := 1) (As := [.int v1]) (rest := []) X (c_X0_turnSigns l G tI tJ tZ ad hD v1 σ _ h) gX0_exchange_X0_turnSigns rfl ⟨rfl, rfl⟩ (by decide +kernel) ⟨Nat.le_of_ble_eq_true rfl, Nat.le_of_ble_eq_true rfl⟩ 5 rfl rfl rfl rfl rfl (Nat.le_of_ble_eq_true rfl) dX0_exchange_22 (fun σ5 h => ?_)
    refine wm_sub [1, 2, 3, 0] (lv' := [(0, .ref (ad 5)), (1, .int x1), (2, .int x2), (3, .int v1)]) rfl ?_
    exact w_X0_exchange_25 hD X hr x1 x2 v1 σ5 h
/-! X0_walkToLeast -/
abbrev rm_X0_walkToLeast : Room := { frames := 2, cells := 0, slots := 0, locals := 56 }
def lp_X0_walkToLeast_2 (post : St → Prop)  : Nat → Int32 → St → Prop
  | 0, _, _ => False
  | n + 1, x1, σ =>
  (1000000 ≤ x1 → post σ) ∧ (¬ 1000000 ≤ x1 → wp_X0_firstLineThatHelps σ (fun r2 σ3 => (¬ r2 = (-1) → wp_X0_rowThatGivesWay r2 σ3 (fun r5 σ6 => (¬ r5 = (-1) → wp_X0_exchange r5 r2 σ6 (fun σ9 => ∀ v10 : Int32, v10 = x1 + 1 → lp_X0_walkToLeast_2 post n v10 σ9)) ∧ (r5 = (-1) → post σ6))) ∧ (r2 = (-1) → post σ3)))
def wp_X0_walkToLeast (σ : St) (post : St → Prop) : Prop :=
  ∃ fu : Nat, lp_X0_walkToLeast_2 post fu 0 σ
set_option maxRecDepth 100000 in
set_option maxHeartbeats 4000000 in
theorem w_X0_walkToLeast_2 {p : Program} {l : Launch} {e : Env} {s : State} {m : MethodId} {args : Array Value} {below : List Frame} {meth : Method} {c : Code} {G : va_G} {tI tJ tZ : ClassId} {ad : Nat → Nat} (hD : ∀ σ, va_D (Ad 22 ad) (wdC tI tJ tZ ad σ)) (X : Cx p s m args meth c cX0_walkToLeast 4 RX0 wsX0_walkToLeast G (tyL tI tJ tZ) (wdC tI tJ tZ ad) (Ad 22 ad)) (hr : meth.sig.returnType = none) {post : St → Prop}  : ∀ (n : Nat) (x1 : Int32) (σ : St), lp_X0_walkToLeast_2 post n x1 σ → wm p l e rm_X0_walkToLeast s m args below meth c G (wdC tI tJ tZ ad) (Ad 22 ad) 4 (MQ below (Qv G (wdC tI tJ tZ ad) (Ad 22 ad) post) args s 0 0 (Ad 22 ad)) σ [(0, .ref (ad 5)), (1, .int x1)] 2 [] := by
  intro n
  induction n with
  | zero => intro x1 σ h; exact h.elim
  | succ n ih =>
    intro x1 σ h
    unfold lp_X0_walkToLeast_2 at h
    refine wm_iload_n X 1 rfl dX0_walkToLeast_2 ?_
    refine wm_ldc (v := 1000000) X (by decide +kernel) dX0_walkToLeast_3 ?_
    refine wm_icmp_ge (tgt := 43) X (by decide) dX0_walkToLeast_5 (fun c1 => ?_) (fun c1 => ?_)
    · replace h := h.1 c1
      exact wm_vret X hr h dX0_walkToLeast_43
    · replace h := h.2 c1
      refine wm_aload_n X 0 rfl dX0_walkToLeast_8 ?_
      refine wm_callVi (n := 0) (As := []) (rest := []) X (c_X0_firstLineThatHelps l G tI tJ tZ ad hD σ _ h) gX0_walkToLeast_X0_firstLineThatHelps rfl ⟨rfl, rfl⟩ (by decide +kernel) ⟨Nat.le_of_ble_eq_true rfl, Nat.le_of_ble_eq_true rfl⟩ 5 rfl rfl rfl rfl rfl (Nat.le_of_ble_eq_true rfl) dX0_walkToLeast_9 (fun r2 σ3 h => ?_)
      refine wm_istore_n (lv' := [(2, .int r2), (0, .ref (ad 5)), (1, .int x1)]) X rfl (by decide) rfl dX0_walkToLeast_12 ?_
      refine wm_iload_n X 0 rfl dX0_walkToLeast_13 ?_
      refine wm_iconst (v := (-1)) X (by decide) dX0_walkToLeast_14 ?_
      refine wm_icmp_ne (tgt := 19) X (by decide) dX0_walkToLeast_15 (fun c4 => ?_) (fun c4 => ?_)
      · replace h := h.1 c4
        refine wm_aload_n X 1 rfl dX0_walkToLeast_19 ?_
        refine wm_iload_n X 0 rfl dX0_walkToLeast_20 ?_
        refine wm_callVi (n := 1) (As := [.int r2]) (rest := []) X (c_X0_rowThatGivesWay l G tI tJ tZ ad hD r2 σ3 _ h) gX0_walkToLeast_X0_rowThatGivesWay rfl ⟨rfl, rfl⟩ (by decide +kernel) ⟨Nat.le_of_ble_eq_true rfl, Nat.le_of_ble_eq_true rfl⟩ 5 rfl rfl rfl rfl rfl (Nat.le_of_ble_eq_true rfl) dX0_walkToLeast_21 (fun r5 σ6 h => ?_)
        refine wm_istore_n (lv' := [(3, .int r5), (2, .int r2), (0, .ref (ad 5)), (1, .int x1)]) X rfl (by decide) rfl dX0_walkToLeast_24 ?_
        refine wm_iload_n X 0 rfl dX0_walkToLeast_25 ?_
        refine wm_iconst (v := (-1)) X (by decide) dX0_walkToLeast_26 ?_
        refine wm_icmp_ne (tgt := 31) X (by decide) dX0_walkToLeast_27 (fun c7 => ?_) (fun c7 => ?_)
        · replace h := h.1 c7
          refine wm_aload_n X 2 rfl dX0_walkToLeast_31 ?_
          refine wm_iload_n X 0 rfl dX0_walkToLeast_32 ?_
          refine wm_iload_n X 1 rfl dX0_walkToLeast_33 ?_
          refine wm_callVv (n := 2) (As := [.int r5, .int r2]) (rest := []) X (c_X0_exchange l G tI tJ tZ ad hD r5 r2 σ6 _ h) gX0_walkToLeast_X0_exchange rfl ⟨rfl, rfl⟩ (by decide +kernel) ⟨Nat.le_of_ble_eq_true rfl, Nat.le_of_ble_eq_true rfl⟩ 5 rfl rfl rfl rfl rfl (Nat.le_of_ble_eq_true rfl) dX0_walkToLeast_34 (fun σ9 h => ?_)
          obtain ⟨v10, e11⟩ : ∃ y : Int32, y = x1 + 1 := ⟨_, rfl⟩
          replace h := h v10 e11
          refine wm_iinc (v := v10) (lv' := [(1, .int v10), (3, .int r5), (2, .int r2), (0, .ref (ad 5))]) X 3 rfl (by rw [e11]; rfl) (by decide) rfl dX0_walkToLeast_37 ?_
          clear e11
          refine wm_goto (tgt := 2) X (by decide) dX0_walkToLeast_40 ?_
          refine wm_sub [3, 0] (lv' := [(0, .ref (ad 5)), (1, .int v10)]) rfl ?_
          exact ih v10 σ9 h
        · replace h := h.2 c7
          exact wm_vret X hr h dX0_walkToLeast_30
      · replace h := h.2 c4
        exact wm_vret X hr h dX0_walkToLeast_18
set_option maxRecDepth 100000 in
set_option maxHeartbeats 4000000 in
theorem c_X0_walkToLeast (l : Launch) (G : va_G) (tI tJ tZ : ClassId) (ad : Nat → Nat) (hD : ∀ σ, va_D (Ad 22 ad) (wdC tI tJ tZ ad σ))  (σ : St) (post : St → Prop) (h : wp_X0_walkToLeast  σ post) : Ct l yX0_walkToLeast wsX0_walkToLeast rm_X0_walkToLeast G (tyL tI tJ tZ) (wdC tI tJ tZ ad) (Ad 22 ad) [.ref (ad 5)] σ (Qv G (wdC tI tJ tZ ad) (Ad 22 ad) post) := by
  refine wm_entry (cc := cX0_walkToLeast) (maxL := 4) (ret := none) (own := RX0) (lv := [(0, .ref (ad 5))]) (by decide +kernel) rfl rfl (Nat.le_of_ble_eq_true rfl) rfl hD ?_
  intro p e s m below meth c X hr
  unfold wp_X0_walkToLeast at h
  refine wm_iconst (v := 0) X (by decide) dX0_walkToLeast_0 ?_
  refine wm_istore_n (lv' := [(1, .int 0), (0, .ref (ad 5))]) X rfl (by decide) rfl dX0_walkToLeast_1 ?_
  refine wm_sub [1, 0] (lv' := [(0, .ref (ad 5)), (1, .int 0)]) rfl ?_
  obtain ⟨n0, h⟩ := h
  exact w_X0_walkToLeast_2 hD X hr n0 0 σ h
/-! X0_waysThatClash -/
abbrev rm_X0_waysThatClash : Room := { frames := 1, cells := 0, slots := 0, locals := 25 }
def lp_X0_waysThatClash_4 (post : Int32 → St → Prop)  : Nat → Int32 → Int32 → St → Prop
  | 0, _, _, _ => False
  | n + 1, x1, x2, σ =>
  ((gI σ 7) ≤ x2 → post x1 σ) ∧ (¬ (gI σ 7) ≤ x2 → wp_X0_costOfColumn ((gI σ 6) + x2) σ (fun r2 σ3 => (r2 = 0 → ∀ v5 : Int32, v5 = x2 + 1 → lp_X0_waysThatClash_4 post n x1 v5 σ3) ∧ (¬ r2 = 0 → vp_in x2 10 ∧ (∀ v7 : Int32, v7 = x1 ||| (1 <<< ((gA σ3 4 (Int32.toNatClampNeg x2)) &&& 31)) → ∀ v9 : Int32, v9 = x2 + 1 → lp_X0_waysThatClash_4 post n v7 v9 σ3))))
def wp_X0_waysThatClash (σ : St) (post : Int32 → St → Prop) : Prop :=
  ∃ fu : Nat, lp_X0_waysThatClash_4 post fu 0 0 σ
set_option maxRecDepth 100000 in
set_option maxHeartbeats 4000000 in
theorem w_X0_waysThatClash_4 {p : Program} {l : Launch} {e : Env} {s : State} {m : MethodId} {args : Array Value} {below : List Frame} {meth : Method} {c : Code} {G : va_G} {tI tJ tZ : ClassId} {ad : Nat → Nat} (hD : ∀ σ, va_D (Ad 22 ad) (wdC tI tJ tZ ad σ)) (X : Cx p s m args meth c cX0_waysThatClash 3 RX0 wsX0_waysThatClash G (tyL tI tJ tZ) (wdC tI tJ tZ ad) (Ad 22 ad)) (hr : meth.sig.returnType = (some .int)) {post : Int32 → St → Prop}  : ∀ (n : Nat) (x1 : Int32) (x2 : Int32) (σ : St), lp_X0_waysThatClash_4 post n x1 x2 σ → wm p l e rm_X0_waysThatClash s m args below meth c G (wdC tI tJ tZ ad) (Ad 22 ad) 3 (MQ below (Qi G (wdC tI tJ tZ ad) (Ad 22 ad) post) args s 0 0 (Ad 22 ad)) σ [(0, .ref (ad 5)), (1, .int x1), (2, .int x2)] 4 [] := by
  intro n
  induction n with
  | zero => intro x1 x2 σ h; exact h.elim
  | succ n ih =>
    intro x1 x2 σ h
    unfold lp_X0_waysThatClash_4 at h
    refine wm_iload_n X 2 rfl dX0_waysThatClash_4 ?_
    refine wm_aload_n X 0 rfl dX0_waysThatClash_5 ?_
    refine wm_get X (by decide +kernel) 5 rfl rfl 6 (by decide) (by decide +kernel) rfl dX0_waysThatClash_6 ?_
    refine wm_icmp_ge (tgt := 44) X (by decide) dX0_waysThatClash_9 (fun c1 => ?_) (fun c1 => ?_)
    · replace h := h.1 c1
      refine wm_iload_n X 1 rfl dX0_waysThatClash_44 ?_
      exact wm_iret X hr h dX0_waysThatClash_45
    · replace h := h.2 c1
      refine wm_aload_n X 0 rfl dX0_waysThatClash_12 ?_
      refine wm_aload_n X 0 rfl dX0_waysThatClash_13 ?_
      refine wm_get X (by decide +kernel) 5 rfl rfl 5 (by decide) (by decide +kernel) rfl dX0_waysThatClash_14 ?_
      refine wm_iload_n X 2 rfl dX0_waysThatClash_17 ?_
      refine wm_iadd X dX0_waysThatClash_18 ?_
      refine wm_callVl (n := 1) (As := [.int ((gI σ 6) + x2)]) (rest := []) X (c_X0_costOfColumn l G tI tJ tZ ad hD ((gI σ 6) + x2) σ _ h) gX0_waysThatClash_X0_costOfColumn rfl ⟨rfl, rfl⟩ (by decide +kernel) ⟨Nat.le_of_ble_eq_true rfl, Nat.le_of_ble_eq_true rfl⟩ 5 rfl rfl rfl rfl rfl (Nat.le_of_ble_eq_true rfl) dX0_waysThatClash_19 (fun r2 σ3 h => ?_)
      refine wm_lconst (v := 0) X (by decide) dX0_waysThatClash_22 ?_
      refine wm_lcmp X dX0_waysThatClash_23 ?_
      refine wm_if_eq (tgt := 38) X (by decide) dX0_waysThatClash_24 (fun c4 => ?_) (fun c4 => ?_)
      · replace h := h.1 ((lc_eq _ _).mp c4)
        obtain ⟨v5, e6⟩ : ∃ y : Int32, y = x2 + 1 := ⟨_, rfl⟩
        replace h := h v5 e6
        refine wm_iinc (v := v5) (lv' := [(2, .int v5), (0, .ref (ad 5)), (1, .int x1)]) X 2 rfl (by rw [e6]; rfl) (by decide) rfl dX0_waysThatClash_38 ?_
        clear e6
        refine wm_goto (tgt := 4) X (by decide) dX0_waysThatClash_41 ?_
        refine wm_sub [1, 2, 0] (lv' := [(0, .ref (ad 5)), (1, .int x1), (2, .int v5)]) rfl ?_
        exact ih x1 v5 σ3 h
      · replace h := h.2 ((lc_neq _ _).mp c4)
        refine wm_iload_n X 1 rfl dX0_waysThatClash_27 ?_
        refine wm_iconst (v := 1) X (by decide) dX0_waysThatClash_28 ?_
        refine wm_aload_n X 0 rfl dX0_waysThatClash_29 ?_
        refine wm_get X (by decide +kernel) 5 rfl rfl 2 (by decide) (by decide +kernel) rfl dX0_waysThatClash_30 ?_
        refine wm_iload_n X 2 rfl dX0_waysThatClash_33 ?_
        refine wm_iald X 8 0 rfl rfl h.1 dX0_waysThatClash_34 ?_
        replace h := h.2
        refine wm_ishl X dX0_waysThatClash_35 ?_
        refine wm_ior X dX0_waysThatClash_36 ?_
        refine wm_nmI (fun v7 e8 => ?_)
        replace h := h v7 e8
        clear e8
        refine wm_istore_n (lv' := [(1, .int v7), (0, .ref (ad 5)), (2, .int x2)]) X rfl (by decide) rfl dX0_waysThatClash_37 ?_
        obtain ⟨v9, e10⟩ : ∃ y : Int32, y = x2 + 1 := ⟨_, rfl⟩
        replace h := h v9 e10
        refine wm_iinc (v := v9) (lv' := [(2, .int v9), (1, .int v7), (0, .ref (ad 5))]) X 2 rfl (by rw [e10]; rfl) (by decide) rfl dX0_waysThatClash_38 ?_
        clear e10
        refine wm_goto (tgt := 4) X (by decide) dX0_waysThatClash_41 ?_
        refine wm_sub [2, 1, 0] (lv' := [(0, .ref (ad 5)), (1, .int v7), (2, .int v9)]) rfl ?_
        exact ih v7 v9 σ3 h
set_option maxRecDepth 100000 in
set_option maxHeartbeats 4000000 in
theorem c_X0_waysThatClash (l : Launch) (G : va_G) (tI tJ tZ : ClassId) (ad : Nat → Nat) (hD : ∀ σ, va_D (Ad 22 ad) (wdC tI tJ tZ ad σ))  (σ : St) (post : Int32 → St → Prop) (h : wp_X0_waysThatClash  σ post) : Ct l yX0_waysThatClash wsX0_waysThatClash rm_X0_waysThatClash G (tyL tI tJ tZ) (wdC tI tJ tZ ad) (Ad 22 ad) [.ref (ad 5)] σ (Qi G (wdC tI tJ tZ ad) (Ad 22 ad) post) := by
  refine wm_entry (cc := cX0_waysThatClash) (maxL := 3) (ret := (some .int)) (own := RX0) (lv := [(0, .ref (ad 5))]) (by decide +kernel) rfl rfl (Nat.le_of_ble_eq_true rfl) rfl hD ?_
  intro p e s m below meth c X hr
  unfold wp_X0_waysThatClash at h
  refine wm_iconst (v := 0) X (by decide) dX0_waysThatClash_0 ?_
  refine wm_istore_n (lv' := [(1, .int 0), (0, .ref (ad 5))]) X rfl (by decide) rfl dX0_waysThatClash_1 ?_
  refine wm_iconst (v := 0) X (by decide) dX0_waysThatClash_2 ?_
  refine wm_istore_n (lv' := [(2, .int 0), (1, .int 0), (0, .ref (ad 5))]) X rfl (by decide) rfl dX0_waysThatClash_3 ?_
  refine wm_sub [2, 1, 0] (lv' := [(0, .ref (ad 5)), (1, .int 0), (2, .int 0)]) rfl ?_
  obtain ⟨n0, h⟩ := h
  exact w_X0_waysThatClash_4 hD X hr n0 0 0 σ h
/-! X0_dropSlacks -/
abbrev rm_X0_dropSlacks : Room := { frames := 2, cells := 0, slots := 0, locals := 56 }
def lp_X0_dropSlacks_12 (post : St → Prop) (K2 : Int32 → St → Prop) : Nat → Int32 → Int32 → St → Prop
  | 0, _, _, _ => False
  | n + 1, x1, x2, σ =>
  ((gI σ 6) ≤ x2 → ∀ v2 : Int32, v2 = x1 + 1 → K2 v2 σ) ∧ (¬ (gI σ 6) ≤ x2 → vp_in x1 10 ∧ ((0 ≤ (gA σ 3 (Int32.toNatClampNeg x1)) → ∀ v5 : Int32, v5 = x1 + 1 → K2 v5 σ) ∧ (¬ 0 ≤ (gA σ 3 (Int32.toNatClampNeg x1)) → vp_in ((x1 * (gI σ 8)) + x2) 210 ∧ (((lg_cmp (gB σ 0 (Int32.toNatClampNeg ((x1 * (gI σ 8)) + x2))) 0) = 0 → ∀ v8 : Int32, v8 = x2 + 1 → lp_X0_dropSlacks_12 post K2 n x1 v8 σ) ∧ (¬ (lg_cmp (gB σ 0 (Int32.toNatClampNeg ((x1 * (gI σ 8)) + x2))) 0) = 0 → wp_X0_exchange x1 x2 σ (fun σ11 => ∀ v12 : Int32, v12 = x2 + 1 → lp_X0_dropSlacks_12 post K2 n x1 v12 σ11))))))
def lp_X0_dropSlacks_2 (post : St → Prop)  : Nat → Int32 → St → Prop
  | 0, _, _ => False
  | n + 1, x1, σ =>
  ((gI σ 7) ≤ x1 → post σ) ∧ (¬ (gI σ 7) ≤ x1 → ∃ fu : Nat, lp_X0_dropSlacks_12 post (lp_X0_dropSlacks_2 post n) fu x1 0 σ)
def wp_X0_dropSlacks (σ : St) (post : St → Prop) : Prop :=
  ∃ fu : Nat, lp_X0_dropSlacks_2 post fu 0 σ
set_option maxRecDepth 100000 in
set_option maxHeartbeats 4000000 in
theorem w_X0_dropSlacks_12 {p : Program} {l : Launch} {e : Env} {s : State} {m : MethodId} {args : Array Value} {below : List Frame} {meth : Method} {c : Code} {G : va_G} {tI tJ tZ : ClassId} {ad : Nat → Nat} (hD : ∀ σ, va_D (Ad 22 ad) (wdC tI tJ tZ ad σ)) (X : Cx p s m args meth c cX0_dropSlacks 3 RX0 wsX0_dropSlacks G (tyL tI tJ tZ) (wdC tI tJ tZ ad) (Ad 22 ad)) (hr : meth.sig.returnType = none) {post : St → Prop} {K2 : Int32 → St → Prop} (hK2 : ∀ (x1 : Int32) (σ : St), K2 x1 σ → wm p l e rm_X0_dropSlacks s m args below meth c G (wdC tI tJ tZ ad) (Ad 22 ad) 3 (MQ below (Qv G (wdC tI tJ tZ ad) (Ad 22 ad) post) args s 0 0 (Ad 22 ad)) σ [(0, .ref (ad 5)), (1, .int x1)] 2 []) : ∀ (n : Nat) (x1 : Int32) (x2 : Int32) (σ : St), lp_X0_dropSlacks_12 post K2 n x1 x2 σ → wm p l e rm_X0_dropSlacks s m args below meth c G (wdC tI tJ tZ ad) (Ad 22 ad) 3 (MQ below (Qv G (wdC tI tJ tZ ad) (Ad 22 ad) post) args s 0 0 (Ad 22 ad)) σ [(0, .ref (ad 5)), (1, .int x1), (2, .int x2)] 12 [] := by
  intro n
  induction n with
  | zero => intro x1 x2 σ h; exact h.elim
  | succ n ih =>
    intro x1 x2 σ h
    unfold lp_X0_dropSlacks_12 at h
    refine wm_iload_n X 2 rfl dX0_dropSlacks_12 ?_
    refine wm_aload_n X 0 rfl dX0_dropSlacks_13 ?_
    refine wm_get X (by decide +kernel) 5 rfl rfl 5 (by decide) (by decide +kernel) rfl dX0_dropSlacks_14 ?_
    refine wm_icmp_ge (tgt := 59) X (by decide) dX0_dropSlacks_17 (fun c1 => ?_) (fun c1 => ?_)
    · replace h := h.1 c1
      obtain ⟨v2, e3⟩ : ∃ y : Int32, y = x1 + 1 := ⟨_, rfl⟩
      replace h := h v2 e3
      refine wm_iinc (v := v2) (lv' := [(1, .int v2), (0, .ref (ad 5)), (2, .int x2)]) X 1 rfl (by rw [e3]; rfl) (by decide) rfl dX0_dropSlacks_59 ?_
      clear e3
      refine wm_goto (tgt := 2) X (by decide) dX0_dropSlacks_62 ?_
      refine wm_sub [1, 0] (lv' := [(0, .ref (ad 5)), (1, .int v2)]) rfl ?_
      exact hK2 v2 σ h
    · replace h := h.2 c1
      refine wm_aload_n X 0 rfl dX0_dropSlacks_20 ?_
      refine wm_get X (by decide +kernel) 5 rfl rfl 1 (by decide) (by decide +kernel) rfl dX0_dropSlacks_21 ?_
      refine wm_iload_n X 1 rfl dX0_dropSlacks_24 ?_
      refine wm_iald X 7 0 rfl rfl h.1 dX0_dropSlacks_25 ?_
      replace h := h.2
      refine wm_if_ge (tgt := 59) X (by decide) dX0_dropSlacks_26 (fun c4 => ?_) (fun c4 => ?_)
      · replace h := h.1 c4
        obtain ⟨v5, e6⟩ : ∃ y : Int32, y = x1 + 1 := ⟨_, rfl⟩
        replace h := h v5 e6
        refine wm_iinc (v := v5) (lv' := [(1, .int v5), (0, .ref (ad 5)), (2, .int x2)]) X 1 rfl (by rw [e6]; rfl) (by decide) rfl dX0_dropSlacks_59 ?_
        clear e6
        refine wm_goto (tgt := 2) X (by decide) dX0_dropSlacks_62 ?_
        refine wm_sub [1, 0] (lv' := [(0, .ref (ad 5)), (1, .int v5)]) rfl ?_
        exact hK2 v5 σ h
      · replace h := h.2 c4
        refine wm_aload_n X 0 rfl dX0_dropSlacks_29 ?_
        refine wm_get X (by decide +kernel) 5 rfl rfl 0 (by decide) (by decide +kernel) rfl dX0_dropSlacks_30 ?_
        refine wm_iload_n X 1 rfl dX0_dropSlacks_33 ?_
        refine wm_aload_n X 0 rfl dX0_dropSlacks_34 ?_
        refine wm_get X (by decide +kernel) 5 rfl rfl 7 (by decide) (by decide +kernel) rfl dX0_dropSlacks_35 ?_
        refine wm_imul X dX0_dropSlacks_38 ?_
        refine wm_iload_n X 2 rfl dX0_dropSlacks_39 ?_
        refine wm_iadd X dX0_dropSlacks_40 ?_
        refine wm_lald X 6 1 rfl rfl h.1 dX0_dropSlacks_41 ?_
        replace h := h.2
        refine wm_lconst (v := 0) X (by decide) dX0_dropSlacks_42 ?_
        refine wm_lcmp X dX0_dropSlacks_43 ?_
        refine wm_if_eq (tgt := 53) X (by decide) dX0_dropSlacks_44 (fun c7 => ?_) (fun c7 => ?_)
        · replace h := h.1 c7
          obtain ⟨v8, e9⟩ : ∃ y : Int32, y = x2 + 1 := ⟨_, rfl⟩
          replace h := h v8 e9
          refine wm_iinc (v := v8) (lv' := [(2, .int v8), (0, .ref (ad 5)), (1, .int x1)]) X 2 rfl (by rw [e9]; rfl) (by decide) rfl dX0_dropSlacks_53 ?_
          clear e9
          refine wm_goto (tgt := 12) X (by decide) dX0_dropSlacks_56 ?_
          refine wm_sub [1, 2, 0] (lv' := [(0, .ref (ad 5)), (1, .int x1), (2, .int v8)]) rfl ?_
          exact ih x1 v8 σ h
        · replace h := h.2 c7
          refine wm_aload_n X 0 rfl dX0_dropSlacks_47 ?_
          refine wm_iload_n X 1 rfl dX0_dropSlacks_48 ?_
          refine wm_iload_n X 2 rfl dX0_dropSlacks_49 ?_
          refine wm_callVv (n := 2) (As := [.int x1, .int x2]) (rest := []) X (c_X0_exchange l G tI tJ tZ ad hD x1 x2 σ _ h) gX0_dropSlacks_X0_exchange rfl ⟨rfl, rfl⟩ (by decide +kernel) ⟨Nat.le_of_ble_eq_true rfl, Nat.le_of_ble_eq_true rfl⟩ 5 rfl rfl rfl rfl rfl (Nat.le_of_ble_eq_true rfl) dX0_dropSlacks_50 (fun σ11 h => ?_)
          obtain ⟨v12, e13⟩ : ∃ y : Int32, y = x2 + 1 := ⟨_, rfl⟩
          replace h := h v12 e13
          refine wm_iinc (v := v12) (lv' := [(2, .int v12), (0, .ref (ad 5)), (1, .int x1)]) X 2 rfl (by rw [e13]; rfl) (by decide) rfl dX0_dropSlacks_53 ?_
          clear e13
          refine wm_goto (tgt := 12) X (by decide) dX0_dropSlacks_56 ?_
          refine wm_sub [1, 2, 0] (lv' := [(0, .ref (ad 5)), (1, .int x1), (2, .int v12)]) rfl ?_
          exact ih x1 v12 σ11 h
set_option maxRecDepth 100000 in
set_option maxHeartbeats 4000000 in
theorem w_X0_dropSlacks_2 {p : Program} {l : Launch} {e : Env} {s : State} {m : MethodId} {args : Array Value} {below : List Frame} {meth : Method} {c : Code} {G : va_G} {tI tJ tZ : ClassId} {ad : Nat → Nat} (hD : ∀ σ, va_D (Ad 22 ad) (wdC tI tJ tZ ad σ)) (X : Cx p s m args meth c cX0_dropSlacks 3 RX0 wsX0_dropSlacks G (tyL tI tJ tZ) (wdC tI tJ tZ ad) (Ad 22 ad)) (hr : meth.sig.returnType = none) {post : St → Prop}  : ∀ (n : Nat) (x1 : Int32) (σ : St), lp_X0_dropSlacks_2 post n x1 σ → wm p l e rm_X0_dropSlacks s m args below meth c G (wdC tI tJ tZ ad) (Ad 22 ad) 3 (MQ below (Qv G (wdC tI tJ tZ ad) (Ad 22 ad) post) args s 0 0 (Ad 22 ad)) σ [(0, .ref (ad 5)), (1, .int x1)] 2 [] := by
  intro n
  induction n with
  | zero => intro x1 σ h; exact h.elim
  | succ n ih =>
    intro x1 σ h
    unfold lp_X0_dropSlacks_2 at h
    refine wm_iload_n X 1 rfl dX0_dropSlacks_2 ?_
    refine wm_aload_n X 0 rfl dX0_dropSlacks_3 ?_
    refine wm_get X (by decide +kernel) 5 rfl rfl 6 (by decide) (by decide +kernel) rfl dX0_dropSlacks_4 ?_
    refine wm_icmp_ge (tgt := 65) X (by decide) dX0_dropSlacks_7 (fun c1 => ?_) (fun c1 => ?_)
    · replace h := h.1 c1
      exact wm_vret X hr h dX0_dropSlacks_65
    · replace h := h.2 c1
      refine wm_iconst (v := 0) X (by decide) dX0_dropSlacks_10 ?_
      refine wm_istore_n (lv' := [(2, .int 0), (0, .ref (ad 5)), (1, .int x1)]) X rfl (by decide) rfl dX0_dropSlacks_11 ?_
      refine wm_sub [1, 2, 0] (lv' := [(0, .ref (ad 5)), (1, .int x1), (2, .int 0)]) rfl ?_
      obtain ⟨n0, h⟩ := h
      exact w_X0_dropSlacks_12 hD X hr ih n0 x1 0 σ h
set_option maxRecDepth 100000 in
set_option maxHeartbeats 4000000 in
theorem c_X0_dropSlacks (l : Launch) (G : va_G) (tI tJ tZ : ClassId) (ad : Nat → Nat) (hD : ∀ σ, va_D (Ad 22 ad) (wdC tI tJ tZ ad σ))  (σ : St) (post : St → Prop) (h : wp_X0_dropSlacks  σ post) : Ct l yX0_dropSlacks wsX0_dropSlacks rm_X0_dropSlacks G (tyL tI tJ tZ) (wdC tI tJ tZ ad) (Ad 22 ad) [.ref (ad 5)] σ (Qv G (wdC tI tJ tZ ad) (Ad 22 ad) post) := by
  refine wm_entry (cc := cX0_dropSlacks) (maxL := 3) (ret := none) (own := RX0) (lv := [(0, .ref (ad 5))]) (by decide +kernel) rfl rfl (Nat.le_of_ble_eq_true rfl) rfl hD ?_
  intro p e s m below meth c X hr
  unfold wp_X0_dropSlacks at h
  refine wm_iconst (v := 0) X (by decide) dX0_dropSlacks_0 ?_
  refine wm_istore_n (lv' := [(1, .int 0), (0, .ref (ad 5))]) X rfl (by decide) rfl dX0_dropSlacks_1 ?_
  refine wm_sub [1, 0] (lv' := [(0, .ref (ad 5)), (1, .int 0)]) rfl ?_
  obtain ⟨n0, h⟩ := h
  exact w_X0_dropSlacks_2 hD X hr n0 0 σ h
