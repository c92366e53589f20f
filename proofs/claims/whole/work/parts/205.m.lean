/-! X7_offered -/
abbrev rm_X7_offered : Room := { frames := 2, cells := 0, slots := 0, locals := 47 }
def wp_X7_offered (x1 : Int32) (x2 : Int32) (σ : St) (post : Int32 → St → Prop) : Prop :=
  wp_X7_in (Int32.toInt64 x1) 0 (Int32.toInt64 ((gI σ 2) - 1)) σ (fun r1 σ2 => (¬ r1 = 0 → wp_X7_noSet x2 1 σ2 (fun r4 σ5 => (r4 = 0 → vp_in x1 10 ∧ (∀ v7 : Int32, v7 = gA σ5 4 (Int32.toNatClampNeg x1) → vp_in x1 10 ∧ (∀ σ9 : St, σ9 = sA σ5 4 (Int32.toNatClampNeg x1) x2 → post v7 σ9))) ∧ (¬ r4 = 0 → post (-102) σ5))) ∧ (r1 = 0 → post (-101) σ2))
set_option maxRecDepth 100000 in
set_option maxHeartbeats 4000000 in
theorem c_X7_offered (l : Launch) (G : va_G) (tI tJ tZ : ClassId) (ad : Nat → Nat) (hD : ∀ σ, va_D (Ad 11 ad) (wdM tI tJ tZ ad σ)) (x1 : Int32) (x2 : Int32) (σ : St) (post : Int32 → St → Prop) (h : wp_X7_offered x1 x2 σ post) : Ct l yX7_offered wsX7_offered rm_X7_offered G (tyL tI tJ tZ) (wdM tI tJ tZ ad) (Ad 11 ad) [.ref (ad 0), .int x1, .int x2] σ (Qi G (wdM tI tJ tZ ad) (Ad 11 ad) post) := by
  refine wm_entry (cc := cX7_offered) (maxL := 4) (ret := (some .int)) (own := RX7) (lv := [(0, .ref (ad 0)), (1, .int x1), (2, .int x2)]) (by decide +kernel) rfl rfl (Nat.le_of_ble_eq_true rfl) rfl hD ?_
  intro p e s m below meth c X hr
  unfold wp_X7_offered at h
  refine wm_iload_n X 1 rfl dX7_offered_0 ?_
  refine wm_i2l X dX7_offered_1 ?_
  refine wm_lconst (v := 0) X (by decide) dX7_offered_2 ?_
  refine wm_aload_n X 0 rfl dX7_offered_3 ?_
  refine wm_get X (by decide +kernel) 0 rfl rfl 7 (by decide) (by decide +kernel) rfl dX7_offered_4 ?_
  refine wm_iconst (v := 1) X (by decide) dX7_offered_7 ?_
  refine wm_isub X dX7_offered_8 ?_
  refine wm_i2l X dX7_offered_9 ?_
  refine wm_callSi (n := 3) (As := [.long (Int32.toInt64 x1), .long 0, .long (Int32.toInt64 ((gI σ 2) - 1))]) (rest := []) X (c_X7_in l G tI tJ tZ ad hD (Int32.toInt64 x1) 0 (Int32.toInt64 ((gI σ 2) - 1)) σ _ h) gX7_offered_X7_in rfl ⟨rfl, rfl⟩ (by decide +kernel) ⟨Nat.le_of_ble_eq_true rfl, Nat.le_of_ble_eq_true rfl⟩ rfl rfl (Nat.le_of_ble_eq_true rfl) dX7_offered_10 (fun r1 σ2 h => ?_)
  refine wm_if_ne (tgt := 19) X (by decide) dX7_offered_13 (fun c3 => ?_) (fun c3 => ?_)
  · replace h := h.1 c3
    refine wm_aload_n X 0 rfl dX7_offered_19 ?_
    refine wm_iload_n X 2 rfl dX7_offered_20 ?_
    refine wm_iconst (v := 1) X (by decide) dX7_offered_21 ?_
    refine wm_callVi (n := 2) (As := [.int x2, .int 1]) (rest := []) X (c_X7_noSet l G tI tJ tZ ad hD x2 1 σ2 _ h) gX7_offered_X7_noSet rfl ⟨rfl, rfl⟩ (by decide +kernel) ⟨Nat.le_of_ble_eq_true rfl, Nat.le_of_ble_eq_true rfl⟩ 0 rfl rfl rfl rfl rfl (Nat.le_of_ble_eq_true rfl) dX7_offered_22 (fun r4 σ5 h => ?_)
    refine wm_if_eq (tgt := 31) X (by decide) dX7_offered_25 (fun c6 => ?_) (fun c6 => ?_)
    · replace h := h.1 c6
      refine wm_aload_n X 0 rfl dX7_offered_31 ?_
      refine wm_get X (by decide +kernel) 0 rfl rfl 6 (by decide) (by decide +kernel) rfl dX7_offered_32 ?_
      refine wm_iload_n X 1 rfl dX7_offered_35 ?_
      refine wm_iald X 5 0 rfl rfl h.1 dX7_offered_36 ?_
      replace h := h.2
      refine wm_nmI (fun v7 e8 => ?_)
      replace h := h v7 e8
      clear e8
      refine wm_istore_n (lv' := [(3, .int v7), (0, .ref (ad 0)), (1, .int x1), (2, .int x2)]) X rfl (by decide) rfl dX7_offered_37 ?_
      refine wm_aload_n X 1 rfl dX7_offered_38 ?_
      refine wm_get X (by decide +kernel) 0 rfl rfl 6 (by decide) (by decide +kernel) rfl dX7_offered_39 ?_
      refine wm_iload_n X 2 rfl dX7_offered_42 ?_
      refine wm_iload_n X 3 rfl dX7_offered_43 ?_
      refine wm_iast (σ' := sA σ5 4 (Int32.toNatClampNeg x1) x2) X 5 0 rfl rfl h.1 rfl dX7_offered_44 ?_
      replace h := h.2
      refine wm_nmS (fun σ9 e10 => ?_)
      replace h := h σ9 e10
      clear e10
      refine wm_iload_n X 0 rfl dX7_offered_45 ?_
      exact wm_iret X hr h dX7_offered_46
    · replace h := h.2 c6
      refine wm_bipush (v := (-102)) X (by decide) dX7_offered_28 ?_
      exact wm_iret X hr h dX7_offered_30
  · replace h := h.2 c3
    refine wm_bipush (v := (-101)) X (by decide) dX7_offered_16 ?_
    exact wm_iret X hr h dX7_offered_18
/-! X7_advises -/
abbrev rm_X7_advises : Room := { frames := 3, cells := 0, slots := 0, locals := 77 }
def lp_X7_advises_5 (post : Int32 → St → Prop)  : Nat → Int32 → Int32 → Int32 → Int32 → St → Prop
  | 0, _, _, _, _, _ => False
  | n + 1, x1, x2, x3, x4, σ =>
  ((gI σ 0) ≤ x4 → bz x3 ∧ post x3 σ) ∧ (¬ (gI σ 0) ≤ x4 → (x3 = 0 → bz x3 ∧ post x3 σ) ∧ (¬ x3 = 0 → (((x2 >>> (x4 &&& 31)) &&& 1) = 0 → ∀ v4 : Int32, v4 = x4 + 1 → lp_X7_advises_5 post n x1 x2 1 v4 σ) ∧ (¬ ((x2 >>> (x4 &&& 31)) &&& 1) = 0 → wp_X7_isKnown x4 x1 σ (fun r6 σ7 => (r6 = 0 → ∀ v9 : Int32, v9 = x4 + 1 → lp_X7_advises_5 post n x1 x2 0 v9 σ7) ∧ (¬ r6 = 0 → ∀ v11 : Int32, v11 = x4 + 1 → lp_X7_advises_5 post n x1 x2 1 v11 σ7)))))
def wp_X7_advises (x1 : Int32) (x2 : Int32) (σ : St) (post : Int32 → St → Prop) : Prop :=
  ∃ fu : Nat, lp_X7_advises_5 post fu x1 x2 1 0 σ
set_option maxRecDepth 100000 in
set_option maxHeartbeats 4000000 in
theorem w_X7_advises_5 {p : Program} {l : Launch} {e : Env} {s : State} {m : MethodId} {args : Array Value} {below : List Frame} {meth : Method} {c : Code} {G : va_G} {tI tJ tZ : ClassId} {ad : Nat → Nat} (hD : ∀ σ, va_D (Ad 11 ad) (wdM tI tJ tZ ad σ)) (X : Cx p s m args meth c cX7_advises 5 RX7 wsX7_advises G (tyL tI tJ tZ) (wdM tI tJ tZ ad) (Ad 11 ad)) (hr : meth.sig.returnType = (some .boolean)) {post : Int32 → St → Prop}  : ∀ (n : Nat) (x1 : Int32) (x2 : Int32) (x3 : Int32) (x4 : Int32) (σ : St), lp_X7_advises_5 post n x1 x2 x3 x4 σ → wm p l e rm_X7_advises s m args below meth c G (wdM tI tJ tZ ad) (Ad 11 ad) 5 (MQ below (Qi G (wdM tI tJ tZ ad) (Ad 11 ad) post) args s 0 0 (Ad 11 ad)) σ [(0, .ref (ad 0)), (1, .int x1), (2, .int x2), (3, .int x3), (4, .int x4)] 5 [] := by
  intro n
  induction n with
  | zero => intro x1 x2 x3 x4 σ h; exact h.elim
  | succ n ih =>
    intro x1 x2 x3 x4 σ h
    unfold lp_X7_advises_5 at h
    refine wm_iload X 4 rfl dX7_advises_5 ?_
    refine wm_aload_n X 0 rfl dX7_advises_7 ?_
    refine wm_get X (by decide +kernel) 0 rfl rfl 0 (by decide) (by decide +kernel) rfl dX7_advises_8 ?_
    refine wm_icmp_ge (tgt := 49) X (by decide) dX7_advises_11 (fun c1 => ?_) (fun c1 => ?_)
    · replace h := h.1 c1
      refine wm_iload_n X 3 rfl dX7_advises_49 ?_
      exact wm_zret X hr h.1 h.2 dX7_advises_50
    · replace h := h.2 c1
      refine wm_iload_n X 3 rfl dX7_advises_14 ?_
      refine wm_if_eq (tgt := 49) X (by decide) dX7_advises_15 (fun c2 => ?_) (fun c2 => ?_)
      · replace h := h.1 c2
        refine wm_iload_n X 3 rfl dX7_advises_49 ?_
        exact wm_zret X hr h.1 h.2 dX7_advises_50
      · replace h := h.2 c2
        refine wm_iload_n X 2 rfl dX7_advises_18 ?_
        refine wm_iload X 4 rfl dX7_advises_19 ?_
        refine wm_ishr X dX7_advises_21 ?_
        refine wm_iconst (v := 1) X (by decide) dX7_advises_22 ?_
        refine wm_iand X dX7_advises_23 ?_
        refine wm_if_eq (tgt := 37) X (by decide) dX7_advises_24 (fun c3 => ?_) (fun c3 => ?_)
        · replace h := h.1 c3
          refine wm_iconst (v := 1) X (by decide) dX7_advises_37 ?_
          refine wm_goto (tgt := 42) X (by decide) dX7_advises_38 ?_
          refine wm_istore_n (lv' := [(3, .int 1), (0, .ref (ad 0)), (1, .int x1), (2, .int x2), (4, .int x4)]) X rfl (by decide) rfl dX7_advises_42 ?_
          obtain ⟨v4, e5⟩ : ∃ y : Int32, y = x4 + 1 := ⟨_, rfl⟩
          replace h := h v4 e5
          refine wm_iinc (v := v4) (lv' := [(4, .int v4), (3, .int 1), (0, .ref (ad 0)), (1, .int x1), (2, .int x2)]) X 4 rfl (by rw [e5]; rfl) (by decide) rfl dX7_advises_43 ?_
          clear e5
          refine wm_goto (tgt := 5) X (by decide) dX7_advises_46 ?_
          refine wm_sub [2, 3, 4, 1, 0] (lv' := [(0, .ref (ad 0)), (1, .int x1), (2, .int x2), (3, .int 1), (4, .int v4)]) rfl ?_
          exact ih x1 x2 1 v4 σ h
        · replace h := h.2 c3
          refine wm_aload_n X 0 rfl dX7_advises_27 ?_
          refine wm_iload X 4 rfl dX7_advises_28 ?_
          refine wm_iload_n X 1 rfl dX7_advises_30 ?_
          refine wm_callVi (n := 2) (As := [.int x4, .int x1]) (rest := []) X (c_X7_isKnown l G tI tJ tZ ad hD x4 x1 σ _ h) gX7_advises_X7_isKnown rfl ⟨rfl, rfl⟩ (by decide +kernel) ⟨Nat.le_of_ble_eq_true rfl, Nat.le_of_ble_eq_true rfl⟩ 0 rfl rfl rfl rfl rfl (Nat.le_of_ble_eq_true rfl) dX7_advises_31 (fun r6 σ7 h => ?_)
          refine wm_if_eq (tgt := 41) X (by decide) dX7_advises_34 (fun c8 => ?_) (fun c8 => ?_)
          · replace h := h.1 c8
            refine wm_iconst (v := 0) X (by decide) dX7_advises_41 ?_
            refine wm_istore_n (lv' := [(3, .int 0), (0, .ref (ad 0)), (1, .int x1), (2, .int x2), (4, .int x4)]) X rfl (by decide) rfl dX7_advises_42 ?_
            obtain ⟨v9, e10⟩ : ∃ y : Int32, y = x4 + 1 := ⟨_, rfl⟩
            replace h := h v9 e10
            refine wm_iinc (v := v9) (lv' := [(4, .int v9), (3, .int 0), (0, .ref (ad 0)), (1, .int x1), (2, .int x2)]) X 4 rfl (by rw [e10]; rfl) (by decide) rfl dX7_advises_43 ?_
            clear e10
            refine wm_goto (tgt := 5) X (by decide) dX7_advises_46 ?_
            refine wm_sub [2, 3, 4, 1, 0] (lv' := [(0, .ref (ad 0)), (1, .int x1), (2, .int x2), (3, .int 0), (4, .int v9)]) rfl ?_
            exact ih x1 x2 0 v9 σ7 h
          · replace h := h.2 c8
            refine wm_iconst (v := 1) X (by decide) dX7_advises_37 ?_
            refine wm_goto (tgt := 42) X (by decide) dX7_advises_38 ?_
            refine wm_istore_n (lv' := [(3, .int 1), (0, .ref (ad 0)), (1, .int x1), (2, .int x2), (4, .int x4)]) X rfl (by decide) rfl dX7_advises_42 ?_
            obtain ⟨v11, e12⟩ : ∃ y : Int32, y = x4 + 1 := ⟨_, rfl⟩
            replace h := h v11 e12
            refine wm_iinc (v := v11) (lv' := [(4, .int v11), (3, .int 1), (0, .ref (ad 0)), (1, .int x1), (2, .int x2)]) X 4 rfl (by rw [e12]; rfl) (by decide) rfl dX7_advises_43 ?_
            clear e12
            refine wm_goto (tgt := 5) X (by decide) dX7_advises_46 ?_
            refine wm_sub [2, 3, 4, 1, 0] (lv' := [(0, .ref (ad 0)), (1, .int x1), (2, .int x2), (3, .int 1), (4, .int v11)]) rfl ?_
            exact ih x1 x2 1 v11 σ7 h
set_option maxRecDepth 100000 in
set_option maxHeartbeats 4000000 in
theorem c_X7_advises (l : Launch) (G : va_G) (tI tJ tZ : ClassId) (ad : Nat → Nat) (hD : ∀ σ, va_D (Ad 11 ad) (wdM tI tJ tZ ad σ)) (x1 : Int32) (x2 : Int32) (σ : St) (post : Int32 → St → Prop) (h : wp_X7_advises x1 x2 σ post) : Ct l yX7_advises wsX7_advises rm_X7_advises G (tyL tI tJ tZ) (wdM tI tJ tZ ad) (Ad 11 ad) [.ref (ad 0), .int x1, .int x2] σ (Qi G (wdM tI tJ tZ ad) (Ad 11 ad) post) := by
  refine wm_entry (cc := cX7_advises) (maxL := 5) (ret := (some .boolean)) (own := RX7) (lv := [(0, .ref (ad 0)), (1, .int x1), (2, .int x2)]) (by decide +kernel) rfl rfl (Nat.le_of_ble_eq_true rfl) rfl hD ?_
  intro p e s m below meth c X hr
  unfold wp_X7_advises at h
  refine wm_iconst (v := 1) X (by decide) dX7_advises_0 ?_
  refine wm_istore_n (lv' := [(3, .int 1), (0, .ref (ad 0)), (1, .int x1), (2, .int x2)]) X rfl (by decide) rfl dX7_advises_1 ?_
  refine wm_iconst (v := 0) X (by decide) dX7_advises_2 ?_
  refine wm_istore (lv' := [(4, .int 0), (3, .int 1), (0, .ref (ad 0)), (1, .int x1), (2, .int x2)]) X (by decide) rfl dX7_advises_3 ?_
  refine wm_sub [2, 3, 4, 1, 0] (lv' := [(0, .ref (ad 0)), (1, .int x1), (2, .int x2), (3, .int 1), (4, .int 0)]) rfl ?_
  obtain ⟨n0, h⟩ := h
  exact w_X7_advises_5 hD X hr n0 x1 x2 1 0 σ h
/-! X7_advice -/
abbrev rm_X7_advice : Room := { frames := 4, cells := 0, slots := 0, locals := 101 }
def lp_X7_advice_24 (post : Int32 → St → Prop) (K14 : Int32 → Int32 → St → Prop) : Nat → Int32 → Int32 → Int32 → St → Prop
  | 0, _, _, _, _ => False
  | n + 1, x1, x2, x3, σ =>
  ((1 <<< ((gI σ 2) &&& 31)) ≤ x3 → ∀ v2 : Int32, v2 = x2 + 1 → K14 x1 v2 σ) ∧ (¬ (1 <<< ((gI σ 2) &&& 31)) ≤ x3 → wp_X7_bits x3 σ (fun r4 σ5 => (¬ r4 = x2 → ∀ v7 : Int32, v7 = x3 + 1 → lp_X7_advice_24 post K14 n x1 x2 v7 σ5) ∧ (r4 = x2 → wp_X7_advises x3 x1 σ5 (fun r9 σ10 => (r9 = 0 → ∀ v12 : Int32, v12 = x3 + 1 → lp_X7_advice_24 post K14 n x1 x2 v12 σ10) ∧ (¬ r9 = 0 → post x3 σ10)))))
def lp_X7_advice_14 (post : Int32 → St → Prop)  : Nat → Int32 → Int32 → St → Prop
  | 0, _, _, _ => False
  | n + 1, x1, x2, σ =>
  ((gI σ 2) < x2 → post (-1) σ) ∧ (¬ (gI σ 2) < x2 → ∃ fu : Nat, lp_X7_advice_24 post (lp_X7_advice_14 post n) fu x1 x2 0 σ)
def wp_X7_advice (x1 : Int32) (σ : St) (post : Int32 → St → Prop) : Prop :=
  wp_X7_noSet x1 0 σ (fun r1 σ2 => (r1 = 0 → ∃ fu : Nat, lp_X7_advice_14 post fu x1 0 σ2) ∧ (¬ r1 = 0 → post (-102) σ2))
set_option maxRecDepth 100000 in
set_option maxHeartbeats 4000000 in
theorem w_X7_advice_24 {p : Program} {l : Launch} {e : Env} {s : State} {m : MethodId} {args : Array Value} {below : List Frame} {meth : Method} {c : Code} {G : va_G} {tI tJ tZ : ClassId} {ad : Nat → Nat} (hD : ∀ σ, va_D (Ad 11 ad) (wdM tI tJ tZ ad σ)) (X : Cx p s m args meth c cX7_advice 4 RX7 wsX7_advice G (tyL tI tJ tZ) (wdM tI tJ tZ ad) (Ad 11 ad)) (hr : meth.sig.returnType = (some .int)) {post : Int32 → St → Prop} {K14 : Int32 → Int32 → St → Prop} (hK14 : ∀ (x1 : Int32) (x2 : Int32) (σ : St), K14 x1 x2 σ → wm p l e rm_X7_advice s m args below meth c G (wdM tI tJ tZ ad) (Ad 11 ad) 4 (MQ below (Qi G (wdM tI tJ tZ ad) (Ad 11 ad) post) args s 0 0 (Ad 11 ad)) σ [(0, .ref (ad 0)), (1, .int x1), (2, .int x2)] 14 []) : ∀ (n : Nat) (x1 : Int32) (x2 : Int32) (x3 : Int32) (σ : St), lp_X7_advice_24 post K14 n x1 x2 x3 σ → wm p l e rm_X7_advice s m args below meth c G (wdM tI tJ tZ ad) (Ad 11 ad) 4 (MQ below (Qi G (wdM tI tJ tZ ad) (Ad 11 ad) post) args s 0 0 (Ad 11 ad)) σ [(0, .ref (ad 0)), (1, .int x1), (2, .int x2), (3, .int x3)] 24 [] := by
  intro n
  induction n with
  | zero => intro x1 x2 x3 σ h; exact h.elim
  | succ n ih =>
    intro x1 x2 x3 σ h
    unfold lp_X7_advice_24 at h
    refine wm_iload_n X 3 rfl dX7_advice_24 ?_
    refine wm_iconst (v := 1) X (by decide) dX7_advice_25 ?_
    refine wm_aload_n X 0 rfl dX7_advice_26 ?_
    refine wm_get X (by decide +kernel) 0 rfl rfl 7 (by decide) (by decide +kernel) rfl dX7_advice_27 ?_
    refine wm_ishl X dX7_advice_30 ?_
    refine wm_icmp_ge (tgt := 59) X (by decide) dX7_advice_31 (fun c1 => ?_) (fun c1 => ?_)
    · replace h := h.1 c1
      obtain ⟨v2, e3⟩ : ∃ y : Int32, y = x2 + 1 := ⟨_, rfl⟩
      replace h := h v2 e3
      refine wm_iinc (v := v2) (lv' := [(2, .int v2), (0, .ref (ad 0)), (1, .int x1), (3, .int x3)]) X 2 rfl (by rw [e3]; rfl) (by decide) rfl dX7_advice_59 ?_
      clear e3
      refine wm_goto (tgt := 14) X (by decide) dX7_advice_62 ?_
      refine wm_sub [1, 2, 0] (lv' := [(0, .ref (ad 0)), (1, .int x1), (2, .int v2)]) rfl ?_
      exact hK14 x1 v2 σ h
    · replace h := h.2 c1
      refine wm_iload_n X 3 rfl dX7_advice_34 ?_
      refine wm_callSi (n := 1) (As := [.int x3]) (rest := []) X (c_X7_bits l G tI tJ tZ ad hD x3 σ _ h) gX7_advice_X7_bits rfl ⟨rfl, rfl⟩ (by decide +kernel) ⟨Nat.le_of_ble_eq_true rfl, Nat.le_of_ble_eq_true rfl⟩ rfl rfl (Nat.le_of_ble_eq_true rfl) dX7_advice_35 (fun r4 σ5 h => ?_)
      refine wm_iload_n X 2 rfl dX7_advice_38 ?_
      refine wm_icmp_ne (tgt := 53) X (by decide) dX7_advice_39 (fun c6 => ?_) (fun c6 => ?_)
      · replace h := h.1 c6
        obtain ⟨v7, e8⟩ : ∃ y : Int32, y = x3 + 1 := ⟨_, rfl⟩
        replace h := h v7 e8
        refine wm_iinc (v := v7) (lv' := [(3, .int v7), (0, .ref (ad 0)), (1, .int x1), (2, .int x2)]) X 3 rfl (by rw [e8]; rfl) (by decide) rfl dX7_advice_53 ?_
        clear e8
        refine wm_goto (tgt := 24) X (by decide) dX7_advice_56 ?_
        refine wm_sub [1, 2, 3, 0] (lv' := [(0, .ref (ad 0)), (1, .int x1), (2, .int x2), (3, .int v7)]) rfl ?_
        exact ih x1 x2 v7 σ5 h
      · replace h := h.2 c6
        refine wm_aload_n X 0 rfl dX7_advice_42 ?_
        refine wm_iload_n X 3 rfl dX7_advice_43 ?_
        refine wm_iload_n X 1 rfl dX7_advice_44 ?_
        refine wm_callVi (n := 2) (As := [.int x3, .int x1]) (rest := []) X (c_X7_advises l G tI tJ tZ ad hD x3 x1 σ5 _ h) gX7_advice_X7_advises rfl ⟨rfl, rfl⟩ (by decide +kernel) ⟨Nat.le_of_ble_eq_true rfl, Nat.le_of_ble_eq_true rfl⟩ 0 rfl rfl rfl rfl rfl (Nat.le_of_ble_eq_true rfl) dX7_advice_45 (fun r9 σ10 h => ?_)
        refine wm_if_eq (tgt := 53) X (by decide) dX7_advice_48 (fun c11 => ?_) (fun c11 => ?_)
        · replace h := h.1 c11
          obtain ⟨v12, e13⟩ : ∃ y : Int32, y = x3 + 1 := ⟨_, rfl⟩
          replace h := h v12 e13
          refine wm_iinc (v := v12) (lv' := [(3, .int v12), (0, .ref (ad 0)), (1, .int x1), (2, .int x2)]) X 3 rfl (by rw [e13]; rfl) (by decide) rfl dX7_advice_53 ?_
          clear e13
          refine wm_goto (tgt := 24) X (by decide) dX7_advice_56 ?_
          refine wm_sub [1, 2, 3, 0] (lv' := [(0, .ref (ad 0)), (1, .int x1), (2, .int x2), (3, .int v12)]) rfl ?_
          exact ih x1 x2 v12 σ10 h
        · replace h := h.2 c11
          refine wm_iload_n X 3 rfl dX7_advice_51 ?_
          exact wm_iret X hr h dX7_advice_52
set_option maxRecDepth 100000 in
set_option maxHeartbeats 4000000 in
theorem w_X7_advice_14 {p : Program} {l : Launch} {e : Env} {s : State} {m : MethodId} {args : Array Value} {below : List Frame} {meth : Method} {c : Code} {G : va_G} {tI tJ tZ : ClassId} {ad : Nat → Nat} (hD : ∀ σ, va_D (Ad 11 ad) (wdM tI tJ tZ ad σ)) (X : Cx p s m args meth c cX7_advice 4 RX7 wsX7_advice G (tyL tI tJ tZ) (wdM tI tJ tZ ad) (Ad 11 ad)) (hr : meth.sig.returnType = (some .int)) {post : Int32 → St → Prop}  : ∀ (n : Nat) (x1 : Int32) (x2 : Int32) (σ : St), lp_X7_advice_14 post n x1 x2 σ → wm p l e rm_X7_advice s m args below meth c G (wdM tI tJ tZ ad) (Ad 11 ad) 4 (MQ below (Qi G (wdM tI tJ tZ ad) (Ad 11 ad) post) args s 0 0 (Ad 11 ad)) σ [(0, .ref (ad 0)), (1, .int x1), (2, .int x2)] 14 [] := by
  intro n
  induction n with
  | zero => intro x1 x2 σ h; exact h.elim
  | succ n ih =>
    intro x1 x2 σ h
    unfold lp_X7_advice_14 at h
    refine wm_iload_n X 2 rfl dX7_advice_14 ?_
    refine wm_aload_n X 0 rfl dX7_advice_15 ?_
    refine wm_get X (by decide +kernel) 0 rfl rfl 7 (by decide) (by decide +kernel) rfl dX7_advice_16 ?_
    refine wm_icmp_gt (tgt := 65) X (by decide) dX7_advice_19 (fun c1 => ?_) (fun c1 => ?_)
    · replace h := h.1 c1
      refine wm_iconst (v := (-1)) X (by decide) dX7_advice_65 ?_
      exact wm_iret X hr h dX7_advice_66
    · replace h := h.2 c1
      refine wm_iconst (v := 0) X (by decide) dX7_advice_22 ?_
      refine wm_istore_n (lv' := [(3, .int 0), (0, .ref (ad 0)), (1, .int x1), (2, .int x2)]) X rfl (by decide) rfl dX7_advice_23 ?_
      refine wm_sub [1, 2, 3, 0] (lv' := [(0, .ref (ad 0)), (1, .int x1), (2, .int x2), (3, .int 0)]) rfl ?_
      obtain ⟨n0, h⟩ := h
      exact w_X7_advice_24 hD X hr ih n0 x1 x2 0 σ h
set_option maxRecDepth 100000 in
set_option maxHeartbeats 4000000 in
theorem c_X7_advice (l : Launch) (G : va_G) (tI tJ tZ : ClassId) (ad : Nat → Nat) (hD : ∀ σ, va_D (Ad 11 ad) (wdM tI tJ tZ ad σ)) (x1 : Int32) (σ : St) (post : Int32 → St → Prop) (h : wp_X7_advice x1 σ post) : Ct l yX7_advice wsX7_advice rm_X7_advice G (tyL tI tJ tZ) (wdM tI tJ tZ ad) (Ad 11 ad) [.ref (ad 0), .int x1] σ (Qi G (wdM tI tJ tZ ad) (Ad 11 ad) post) := by
  refine wm_entry (cc := cX7_advice) (maxL := 4) (ret := (some .int)) (own := RX7) (lv := [(0, .ref (ad 0)), (1, .int x1)]) (by decide +kernel) rfl rfl (Nat.le_of_ble_eq_true rfl) rfl hD ?_
  intro p e s m below meth c X hr
  unfold wp_X7_advice at h
  refine wm_aload_n X 0 rfl dX7_advice_0 ?_
  refine wm_iload_n X 1 rfl dX7_advice_1 ?_
  refine wm_iconst (v := 0) X (by decide) dX7_advice_2 ?_
  refine wm_callVi (n := 2) (As := [.int x1, .int 0]) (rest := []) X (c_X7_noSet l G tI tJ tZ ad hD x1 0 σ _ h) gX7_advice_X7_noSet rfl ⟨rfl, rfl⟩ (by decide +kernel) ⟨Nat.le_of_ble_eq_true rfl, Nat.le_of_ble_eq_true rfl⟩ 0 rfl rfl rfl rfl rfl (Nat.le_of_ble_eq_true rfl) dX7_advice_3 (fun r1 σ2 h => ?_)
  refine wm_if_eq (tgt := 12) X (by decide) dX7_advice_6 (fun c3 => ?_) (fun c3 => ?_)
  · replace h := h.1 c3
    refine wm_iconst (v := 0) X (by decide) dX7_advice_12 ?_
    refine wm_istore_n (lv' := [(2, .int 0), (0, .ref (ad 0)), (1, .int x1)]) X rfl (by decide) rfl dX7_advice_13 ?_
    refine wm_sub [1, 2, 0] (lv' := [(0, .ref (ad 0)), (1, .int x1), (2, .int 0)]) rfl ?_
    obtain ⟨n0, h⟩ := h
    exact w_X7_advice_14 hD X hr n0 x1 0 σ2 h
  · replace h := h.2 c3
    refine wm_bipush (v := (-102)) X (by decide) dX7_advice_9 ?_
    exact wm_iret X hr h dX7_advice_11
/-! X7_explains -/
abbrev rm_X7_explains : Room := { frames := 0, cells := 0, slots := 0, locals := 0 }
def jn_X7_explains_47 (post : Int32 → St → Prop) (K4 : Int32 → Int32 → Int32 → St → Prop) (x1 : Int32) (x3 : Int32) (s0 : Int32) (s1 : Int32) (σ : St) : Prop :=
  (¬ s0 = s1 → ∀ v2 : Int32, v2 = x3 + 1 → K4 x1 0 v2 σ) ∧ (s0 = s1 → ∀ v4 : Int32, v4 = x3 + 1 → K4 x1 1 v4 σ)
def lp_X7_explains_4 (post : Int32 → St → Prop)  : Nat → Int32 → Int32 → Int32 → St → Prop
  | 0, _, _, _, _ => False
  | n + 1, x1, x2, x3, σ =>
  ((gI σ 1) ≤ x3 → bz x2 ∧ post x2 σ) ∧ (¬ (gI σ 1) ≤ x3 → (x2 = 0 → ∀ v3 : Int32, v3 = x3 + 1 → lp_X7_explains_4 post n x1 0 v3 σ) ∧ (¬ x2 = 0 → vp_in x3 10 ∧ (((gA σ 2 (Int32.toNatClampNeg x3)) = 0 → ∀ v6 : Int32, v6 = x3 + 1 → lp_X7_explains_4 post n x1 1 v6 σ) ∧ (¬ (gA σ 2 (Int32.toNatClampNeg x3)) = 0 → vp_in x3 10 ∧ (vp_in x3 10 ∧ ((((gA σ 0 (Int32.toNatClampNeg x3)) &&& x1) = 0 → jn_X7_explains_47 post (lp_X7_explains_4 post n) x1 x3 (gA σ 3 (Int32.toNatClampNeg x3)) 0 σ) ∧ (¬ ((gA σ 0 (Int32.toNatClampNeg x3)) &&& x1) = 0 → jn_X7_explains_47 post (lp_X7_explains_4 post n) x1 x3 (gA σ 3 (Int32.toNatClampNeg x3)) 1 σ)))))))
def wp_X7_explains (x1 : Int32) (σ : St) (post : Int32 → St → Prop) : Prop :=
  ∃ fu : Nat, lp_X7_explains_4 post fu x1 1 0 σ
set_option maxRecDepth 100000 in
set_option maxHeartbeats 4000000 in
theorem w_X7_explains_47 {p : Program} {l : Launch} {e : Env} {s : State} {m : MethodId} {args : Array Value} {below : List Frame} {meth : Method} {c : Code} {G : va_G} {tI tJ tZ : ClassId} {ad : Nat → Nat} (hD : ∀ σ, va_D (Ad 11 ad) (wdM tI tJ tZ ad σ)) (X : Cx p s m args meth c cX7_explains 4 RX7 wsX7_explains G (tyL tI tJ tZ) (wdM tI tJ tZ ad) (Ad 11 ad)) (hr : meth.sig.returnType = (some .boolean)) {post : Int32 → St → Prop} {K4 : Int32 → Int32 → Int32 → St → Prop} (hK4 : ∀ (x1 : Int32) (x2 : Int32) (x3 : Int32) (σ : St), K4 x1 x2 x3 σ → wm p l e rm_X7_explains s m args below meth c G (wdM tI tJ tZ ad) (Ad 11 ad) 4 (MQ below (Qi G (wdM tI tJ tZ ad) (Ad 11 ad) post) args s 0 0 (Ad 11 ad)) σ [(0, .ref (ad 0)), (1, .int x1), (2, .int x2), (3, .int x3)] 4 []) (x1 : Int32) (x3 : Int32) (s0 : Int32) (s1 : Int32) (σ : St) (h : jn_X7_explains_47 post K4 x1 x3 s0 s1 σ) : wm p l e rm_X7_explains s m args below meth c G (wdM tI tJ tZ ad) (Ad 11 ad) 4 (MQ below (Qi G (wdM tI tJ tZ ad) (Ad 11 ad) post) args s 0 0 (Ad 11 ad)) σ [(0, .ref (ad 0)), (1, .int x1), (3, .int x3)] 47 [.int s1, .int s0] := by
  unfold jn_X7_explains_47 at h
  refine wm_icmp_ne (tgt := 54) X (by decide) dX7_explains_47 (fun c1 => ?_) (fun c1 => ?_)
  · replace h := h.1 c1
    refine wm_iconst (v := 0) X (by decide) dX7_explains_54 ?_
    refine wm_istore_n (lv' := [(2, .int 0), (0, .ref (ad 0)), (1, .int x1), (3, .int x3)]) X rfl (by decide) rfl dX7_explains_55 ?_
    obtain ⟨v2, e3⟩ : ∃ y : Int32, y = x3 + 1 := ⟨_, rfl⟩
    replace h := h v2 e3
    refine wm_iinc (v := v2) (lv' := [(3, .int v2), (2, .int 0), (0, .ref (ad 0)), (1, .int x1)]) X 3 rfl (by rw [e3]; rfl) (by decide) rfl dX7_explains_56 ?_
    clear e3
    refine wm_goto (tgt := 4) X (by decide) dX7_explains_59 ?_
    refine wm_sub [2, 3, 1, 0] (lv' := [(0, .ref (ad 0)), (1, .int x1), (2, .int 0), (3, .int v2)]) rfl ?_
    exact hK4 x1 0 v2 σ h
  · replace h := h.2 c1
    refine wm_iconst (v := 1) X (by decide) dX7_explains_50 ?_
    refine wm_goto (tgt := 55) X (by decide) dX7_explains_51 ?_
    refine wm_istore_n (lv' := [(2, .int 1), (0, .ref (ad 0)), (1, .int x1), (3, .int x3)]) X rfl (by decide) rfl dX7_explains_55 ?_
    obtain ⟨v4, e5⟩ : ∃ y : Int32, y = x3 + 1 := ⟨_, rfl⟩
    replace h := h v4 e5
    refine wm_iinc (v := v4) (lv' := [(3, .int v4), (2, .int 1), (0, .ref (ad 0)), (1, .int x1)]) X 3 rfl (by rw [e5]; rfl) (by decide) rfl dX7_explains_56 ?_
    clear e5
    refine wm_goto (tgt := 4) X (by decide) dX7_explains_59 ?_
    refine wm_sub [2, 3, 1, 0] (lv' := [(0, .ref (ad 0)), (1, .int x1), (2, .int 1), (3, .int v4)]) rfl ?_
    exact hK4 x1 1 v4 σ h
set_option maxRecDepth 100000 in
set_option maxHeartbeats 4000000 in
theorem w_X7_explains_4 {p : Program} {l : Launch} {e : Env} {s : State} {m : MethodId} {args : Array Value} {below : List Frame} {meth : Method} {c : Code} {G : va_G} {tI tJ tZ : ClassId} {ad : Nat → Nat} (hD : ∀ σ, va_D (Ad 11 ad) (wdM tI tJ tZ ad σ)) (X : Cx p s m args meth c cX7_explains 4 RX7 wsX7_explains G (tyL tI tJ tZ) (wdM tI tJ tZ ad) (Ad 11 ad)) (hr : meth.sig.returnType = (some .boolean)) {post : Int32 → St → Prop}  : ∀ (n : Nat) (x1 : Int32) (x2 : Int32) (x3 : Int32) (σ : St), lp_X7_explains_4 post n x1 x2 x3 σ → wm p l e rm_X7_explains s m args below meth c G (wdM tI tJ tZ ad) (Ad 11 ad) 4 (MQ below (Qi G (wdM tI tJ tZ ad) (Ad 11 ad) post) args s 0 0 (Ad 11 ad)) σ [(0, .ref (ad 0)), (1, .int x1), (2, .int x2), (3, .int x3)] 4 [] := by
  intro n
  induction n with
  | zero => intro x1 x2 x3 σ h; exact h.elim
  | succ n ih =>
    intro x1 x2 x3 σ h
    unfold lp_X7_explains_4 at h
    refine wm_iload_n X 3 rfl dX7_explains_4 ?_
    refine wm_aload_n X 0 rfl dX7_explains_5 ?_
    refine wm_get X (by decide +kernel) 0 rfl rfl 5 (by decide) (by decide +kernel) rfl dX7_explains_6 ?_
    refine wm_icmp_ge (tgt := 62) X (by decide) dX7_explains_9 (fun c1 => ?_) (fun c1 => ?_)
    · replace h := h.1 c1
      refine wm_iload_n X 2 rfl dX7_explains_62 ?_
      exact wm_zret X hr h.1 h.2 dX7_explains_63
    · replace h := h.2 c1
      refine wm_iload_n X 2 rfl dX7_explains_12 ?_
      refine wm_if_eq (tgt := 54) X (by decide) dX7_explains_13 (fun c2 => ?_) (fun c2 => ?_)
      · replace h := h.1 c2
        refine wm_iconst (v := 0) X (by decide) dX7_explains_54 ?_
        refine wm_istore_n (lv' := [(2, .int 0), (0, .ref (ad 0)), (1, .int x1), (3, .int x3)]) X rfl (by decide) rfl dX7_explains_55 ?_
        obtain ⟨v3, e4⟩ : ∃ y : Int32, y = x3 + 1 := ⟨_, rfl⟩
        replace h := h v3 e4
        refine wm_iinc (v := v3) (lv' := [(3, .int v3), (2, .int 0), (0, .ref (ad 0)), (1, .int x1)]) X 3 rfl (by rw [e4]; rfl) (by decide) rfl dX7_explains_56 ?_
        clear e4
        refine wm_goto (tgt := 4) X (by decide) dX7_explains_59 ?_
        refine wm_sub [2, 3, 1, 0] (lv' := [(0, .ref (ad 0)), (1, .int x1), (2, .int 0), (3, .int v3)]) rfl ?_
        exact ih x1 0 v3 σ h
      · replace h := h.2 c2
        refine wm_aload_n X 0 rfl dX7_explains_16 ?_
        refine wm_get X (by decide +kernel) 0 rfl rfl 3 (by decide) (by decide +kernel) rfl dX7_explains_17 ?_
        refine wm_iload_n X 3 rfl dX7_explains_20 ?_
        refine wm_zald X 3 2 rfl rfl h.1 dX7_explains_21 ?_
        replace h := h.2
        refine wm_if_eq (tgt := 50) X (by decide) dX7_explains_22 (fun c5 => ?_) (fun c5 => ?_)
        · replace h := h.1 c5
          refine wm_iconst (v := 1) X (by decide) dX7_explains_50 ?_
          refine wm_goto (tgt := 55) X (by decide) dX7_explains_51 ?_
          refine wm_istore_n (lv' := [(2, .int 1), (0, .ref (ad 0)), (1, .int x1), (3, .int x3)]) X rfl (by decide) rfl dX7_explains_55 ?_
          obtain ⟨v6, e7⟩ : ∃ y : Int32, y = x3 + 1 := ⟨_, rfl⟩
          replace h := h v6 e7
          refine wm_iinc (v := v6) (lv' := [(3, .int v6), (2, .int 1), (0, .ref (ad 0)), (1, .int x1)]) X 3 rfl (by rw [e7]; rfl) (by decide) rfl dX7_explains_56 ?_
          clear e7
          refine wm_goto (tgt := 4) X (by decide) dX7_explains_59 ?_
          refine wm_sub [2, 3, 1, 0] (lv' := [(0, .ref (ad 0)), (1, .int x1), (2, .int 1), (3, .int v6)]) rfl ?_
          exact ih x1 1 v6 σ h
        · replace h := h.2 c5
          refine wm_aload_n X 0 rfl dX7_explains_25 ?_
          refine wm_get X (by decide +kernel) 0 rfl rfl 4 (by decide) (by decide +kernel) rfl dX7_explains_26 ?_
          refine wm_iload_n X 3 rfl dX7_explains_29 ?_
          refine wm_zald X 4 2 rfl rfl h.1 dX7_explains_30 ?_
          replace h := h.2
          refine wm_aload_n X 0 rfl dX7_explains_31 ?_
          refine wm_get X (by decide +kernel) 0 rfl rfl 1 (by decide) (by decide +kernel) rfl dX7_explains_32 ?_
          refine wm_iload_n X 3 rfl dX7_explains_35 ?_
          refine wm_iald X 1 0 rfl rfl h.1 dX7_explains_36 ?_
          replace h := h.2
          refine wm_iload_n X 1 rfl dX7_explains_37 ?_
          refine wm_iand X dX7_explains_38 ?_
          refine wm_if_eq (tgt := 46) X (by decide) dX7_explains_39 (fun c8 => ?_) (fun c8 => ?_)
          · replace h := h.1 c8
            refine wm_iconst (v := 0) X (by decide) dX7_explains_46 ?_
            refine wm_sub [0, 1, 3] (lv' := [(0, .ref (ad 0)), (1, .int x1), (3, .int x3)]) rfl ?_
            exact w_X7_explains_47 hD X hr ih x1 x3 (gA σ 3 (Int32.toNatClampNeg x3)) 0 σ h
          · replace h := h.2 c8
            refine wm_iconst (v := 1) X (by decide) dX7_explains_42 ?_
            refine wm_goto (tgt := 47) X (by decide) dX7_explains_43 ?_
            refine wm_sub [0, 1, 3] (lv' := [(0, .ref (ad 0)), (1, .int x1), (3, .int x3)]) rfl ?_
            exact w_X7_explains_47 hD X hr ih x1 x3 (gA σ 3 (Int32.toNatClampNeg x3)) 1 σ h
set_option maxRecDepth 100000 in
set_option maxHeartbeats 4000000 in
theorem c_X7_explains (l : Launch) (G : va_G) (tI tJ tZ : ClassId) (ad : Nat → Nat) (hD : ∀ σ, va_D (Ad 11 ad) (wdM tI tJ tZ ad σ)) (x1 : Int32) (σ : St) (post : Int32 → St → Prop) (h : wp_X7_explains x1 σ post) : Ct l yX7_explains wsX7_explains rm_X7_explains G (tyL tI tJ tZ) (wdM tI tJ tZ ad) (Ad 11 ad) [.ref (ad 0), .int x1] σ (Qi G (wdM tI tJ tZ ad) (Ad 11 ad) post) := by
  refine wm_entry (cc := cX7_explains) (maxL := 4) (ret := (some .boolean)) (own := RX7) (lv := [(0, .ref (ad 0)), (1, .int x1)]) (by decide +kernel) rfl rfl (Nat.le_of_ble_eq_true rfl) rfl hD ?_
  intro p e s m below meth c X hr
  unfold wp_X7_explains at h
  refine wm_iconst (v := 1) X (by decide) dX7_explains_0 ?_
  refine wm_istore_n (lv' := [(2, .int 1), (0, .ref (ad 0)), (1, .int x1)]) X rfl (by decide) rfl dX7_explains_1 ?_
  refine wm_iconst (v := 0) X (by decide) dX7_explains_2 ?_
  refine wm_istore_n (lv' := [(3, .int 0), (2, .int 1), (0, .ref (ad 0)), (1, .int x1)]) X rfl (by decide) rfl dX7_explains_3 ?_
  refine wm_sub [2, 3, 1, 0] (lv' := [(0, .ref (ad 0)), (1, .int x1), (2, .int 1), (3, .int 0)]) rfl ?_
  obtain ⟨n0, h⟩ := h
  exact w_X7_explains_4 hD X hr n0 x1 1 0 σ h
/-! X7_sick -/
abbrev rm_X7_sick : Room := { frames := 2, cells := 0, slots := 0, locals := 46 }
def lp_X7_sick_24 (post : Int32 → St → Prop) (K7 : Int32 → Int32 → St → Prop) : Nat → Int32 → Int32 → Int32 → St → Prop
  | 0, _, _, _, _ => False
  | n + 1, x1, x2, x3, σ =>
  ((1 <<< ((gI σ 0) &&& 31)) ≤ x3 → ∀ v2 : Int32, v2 = x2 + 1 → K7 x1 v2 σ) ∧ (¬ (1 <<< ((gI σ 0) &&& 31)) ≤ x3 → wp_X7_bits x3 σ (fun r4 σ5 => (¬ r4 = x2 → ∀ v7 : Int32, v7 = x3 + 1 → lp_X7_sick_24 post K7 n x1 x2 v7 σ5) ∧ (r4 = x2 → wp_X7_explains x3 σ5 (fun r9 σ10 => (r9 = 0 → ∀ v12 : Int32, v12 = x3 + 1 → lp_X7_sick_24 post K7 n x1 x2 v12 σ10) ∧ (¬ r9 = 0 → vp_in (gI σ10 4) 1024 ∧ (∀ σ14 : St, σ14 = sA σ10 6 (Int32.toNatClampNeg (gI σ10 4)) x3 → ∀ σ16 : St, σ16 = sI σ14 4 ((gI σ14 4) + 1) → ∀ v18 : Int32, v18 = x3 + 1 → lp_X7_sick_24 post K7 n x1 x2 v18 σ16))))))
def lp_X7_sick_7 (post : Int32 → St → Prop)  : Nat → Int32 → Int32 → St → Prop
  | 0, _, _, _ => False
  | n + 1, x1, x2, σ =>
  ((gI σ 0) < x2 → wp_X7_foundAt x1 σ (fun r2 σ3 => post r2 σ3)) ∧ (¬ (gI σ 0) < x2 → (¬ (gI σ 4) = 0 → wp_X7_foundAt x1 σ (fun r5 σ6 => post r5 σ6)) ∧ ((gI σ 4) = 0 → ∃ fu : Nat, lp_X7_sick_24 post (lp_X7_sick_7 post n) fu x1 x2 0 σ))
def wp_X7_sick (x1 : Int32) (σ : St) (post : Int32 → St → Prop) : Prop :=
  ∀ σ1 : St, σ1 = sI σ 4 0 → ∃ fu : Nat, lp_X7_sick_7 post fu x1 0 σ1
set_option maxRecDepth 100000 in
set_option maxHeartbeats 4000000 in
theorem w_X7_sick_24 {p : Program} {l : Launch} {e : Env} {s : State} {m : MethodId} {args : Array Value} {below : List Frame} {meth : Method} {c : Code} {G : va_G} {tI tJ tZ : ClassId} {ad : Nat → Nat} (hD : ∀ σ, va_D (Ad 11 ad) (wdM tI tJ tZ ad σ)) (X : Cx p s m args meth c cX7_sick 4 RX7 wsX7_sick G (tyL tI tJ tZ) (wdM tI tJ tZ ad) (Ad 11 ad)) (hr : meth.sig.returnType = (some .int)) {post : Int32 → St → Prop} {K7 : Int32 → Int32 → St → Prop} (hK7 : ∀ (x1 : Int32) (x2 : Int32) (σ : St), K7 x1 x2 σ → wm p l e rm_X7_sick s m args below meth c G (wdM tI tJ tZ ad) (Ad 11 ad) 4 (MQ below (Qi G (wdM tI tJ tZ ad) (Ad 11 ad) post) args s 0 0 (Ad 11 ad)) σ [(0, .ref (ad 0)), (1, .int x1), (2, .int x2)] 7 []) : ∀ (n : Nat) (x1 : Int32) (x2 : Int32) (x3 : Int32) (σ : St), lp_X7_sick_24 post K7 n x1 x2 x3 σ → wm p l e rm_X7_sick s m args below meth c G (wdM tI tJ tZ ad) (Ad 11 ad) 4 (MQ below (Qi G (wdM tI tJ tZ ad) (Ad 11 ad) post) args s 0 0 (Ad 11 ad)) σ [(0, .ref (ad 0)), (1, .int x1), (2, .int x2), (3, .int x3)] 24 [] := by
  intro n
  induction n with
  | zero => intro x1 x2 x3 σ h; exact h.elim
  | succ n ih =>
    intro x1 x2 x3 σ h
    unfold lp_X7_sick_24 at h
    refine wm_iload_n X 3 rfl dX7_sick_24 ?_
    refine wm_iconst (v := 1) X (by decide) dX7_sick_25 ?_
    refine wm_aload_n X 0 rfl dX7_sick_26 ?_
    refine wm_get X (by decide +kernel) 0 rfl rfl 0 (by decide) (by decide +kernel) rfl dX7_sick_27 ?_
    refine wm_ishl X dX7_sick_30 ?_
    refine wm_icmp_ge (tgt := 76) X (by decide) dX7_sick_31 (fun c1 => ?_) (fun c1 => ?_)
    · replace h := h.1 c1
      obtain ⟨v2, e3⟩ : ∃ y : Int32, y = x2 + 1 := ⟨_, rfl⟩
      replace h := h v2 e3
      refine wm_iinc (v := v2) (lv' := [(2, .int v2), (0, .ref (ad 0)), (1, .int x1), (3, .int x3)]) X 2 rfl (by rw [e3]; rfl) (by decide) rfl dX7_sick_76 ?_
      clear e3
      refine wm_goto (tgt := 7) X (by decide) dX7_sick_79 ?_
      refine wm_sub [1, 2, 0] (lv' := [(0, .ref (ad 0)), (1, .int x1), (2, .int v2)]) rfl ?_
      exact hK7 x1 v2 σ h
    · replace h := h.2 c1
      refine wm_iload_n X 3 rfl dX7_sick_34 ?_
      refine wm_callSi (n := 1) (As := [.int x3]) (rest := []) X (c_X7_bits l G tI tJ tZ ad hD x3 σ _ h) gX7_sick_X7_bits rfl ⟨rfl, rfl⟩ (by decide +kernel) ⟨Nat.le_of_ble_eq_true rfl, Nat.le_of_ble_eq_true rfl⟩ rfl rfl (Nat.le_of_ble_eq_true rfl) dX7_sick_35 (fun r4 σ5 h => ?_)
      refine wm_iload_n X 2 rfl dX7_sick_38 ?_
      refine wm_icmp_ne (tgt := 70) X (by decide) dX7_sick_39 (fun c6 => ?_) (fun c6 => ?_)
      · replace h := h.1 c6
        obtain ⟨v7, e8⟩ : ∃ y : Int32, y = x3 + 1 := ⟨_, rfl⟩
        replace h := h v7 e8
        refine wm_iinc (v := v7) (lv' := [(3, .int v7), (0, .ref (ad 0)), (1, .int x1), (2, .int x2)]) X 3 rfl (by rw [e8]; rfl) (by decide) rfl dX7_sick_70 ?_
        clear e8
        refine wm_goto (tgt := 24) X (by decide) dX7_sick_73 ?_
        refine wm_sub [1, 2, 3, 0] (lv' := [(0, .ref (ad 0)), (1, .int x1), (2, .int x2), (3, .int v7)]) rfl ?_
        exact ih x1 x2 v7 σ5 h
      · replace h := h.2 c6
        refine wm_aload_n X 0 rfl dX7_sick_42 ?_
        refine wm_iload_n X 3 rfl dX7_sick_43 ?_
        refine wm_callVi (n := 1) (As := [.int x3]) (rest := []) X (c_X7_explains l G tI tJ tZ ad hD x3 σ5 _ h) gX7_sick_X7_explains rfl ⟨rfl, rfl⟩ (by decide +kernel) ⟨Nat.le_of_ble_eq_true rfl, Nat.le_of_ble_eq_true rfl⟩ 0 rfl rfl rfl rfl rfl (Nat.le_of_ble_eq_true rfl) dX7_sick_44 (fun r9 σ10 h => ?_)
        refine wm_if_eq (tgt := 70) X (by decide) dX7_sick_47 (fun c11 => ?_) (fun c11 => ?_)
        · replace h := h.1 c11
          obtain ⟨v12, e13⟩ : ∃ y : Int32, y = x3 + 1 := ⟨_, rfl⟩
          replace h := h v12 e13
          refine wm_iinc (v := v12) (lv' := [(3, .int v12), (0, .ref (ad 0)), (1, .int x1), (2, .int x2)]) X 3 rfl (by rw [e13]; rfl) (by decide) rfl dX7_sick_70 ?_
          clear e13
          refine wm_goto (tgt := 24) X (by decide) dX7_sick_73 ?_
          refine wm_sub [1, 2, 3, 0] (lv' := [(0, .ref (ad 0)), (1, .int x1), (2, .int x2), (3, .int v12)]) rfl ?_
          exact ih x1 x2 v12 σ10 h
        · replace h := h.2 c11
          refine wm_aload_n X 0 rfl dX7_sick_50 ?_
          refine wm_get X (by decide +kernel) 0 rfl rfl 16 (by decide) (by decide +kernel) rfl dX7_sick_51 ?_
          refine wm_aload_n X 0 rfl dX7_sick_54 ?_
          refine wm_get X (by decide +kernel) 0 rfl rfl 17 (by decide) (by decide +kernel) rfl dX7_sick_55 ?_
          refine wm_iload_n X 3 rfl dX7_sick_58 ?_
          refine wm_iast (σ' := sA σ10 6 (Int32.toNatClampNeg (gI σ10 4)) x3) X 10 0 rfl rfl h.1 rfl dX7_sick_59 ?_
          replace h := h.2
          refine wm_nmS (fun σ14 e15 => ?_)
          replace h := h σ14 e15
          clear e15
          refine wm_aload_n X 0 rfl dX7_sick_60 ?_
          refine wm_dup X rfl dX7_sick_61 ?_
          refine wm_get X (by decide +kernel) 0 rfl rfl 17 (by decide) (by decide +kernel) rfl dX7_sick_62 ?_
          refine wm_iconst (v := 1) X (by decide) dX7_sick_65 ?_
          refine wm_iadd X dX7_sick_66 ?_
          refine wm_put (σ' := sI σ14 4 ((gI σ14 4) + 1)) X (by decide +kernel) tyX7 tyX7_ok nmX7 0 rfl rfl 17 (by decide) (by decide +kernel) rfl (tyX7_ok 17 (by decide)) rfl rfl (Nat.le_of_ble_eq_true rfl) rfl dX7_sick_67 ?_
          refine wm_nmS (fun σ16 e17 => ?_)
          replace h := h σ16 e17
          clear e17
          obtain ⟨v18, e19⟩ : ∃ y : Int32, y = x3 + 1 := ⟨_, rfl⟩
          replace h := h v18 e19
          refine wm_iinc (v := v18) (lv' := [(3, .int v18), (0, .ref (ad 0)), (1, .int x1), (2, .int x2)]) X 3 rfl (by rw [e19]; rfl) (by decide) rfl dX7_sick_70 ?_
          clear e19
          refine wm_goto (tgt := 24) X (by decide) dX7_sick_73 ?_
          refine wm_sub [1, 2, 3, 0] (lv' := [(0, .ref (ad 0)), (1, .int x1), (2, .int x2), (3, .int v18)]) rfl ?_
          exact ih x1 x2 v18 σ16 h
set_option maxRecDepth 100000 in
set_option maxHeartbeats 4000000 in
theorem w_X7_sick_7 {p : Program} {l : Launch} {e : Env} {s : State} {m : MethodId} {args : Array Value} {below : List Frame} {meth : Method} {c : Code} {G : va_G} {tI tJ tZ : ClassId} {ad : Nat → Nat} (hD : ∀ σ, va_D (Ad 11 ad) (wdM tI tJ tZ ad σ)) (X : Cx p s m args meth c cX7_sick 4 RX7 wsX7_sick G (tyL tI tJ tZ) (wdM tI tJ tZ ad) (Ad 11 ad)) (hr : meth.sig.returnType = (some .int)) {post : Int32 → St → Prop}  : ∀ (n : Nat) (x1 : Int32) (x2 : Int32) (σ : St), lp_X7_sick_7 post n x1 x2 σ → wm p l e rm_X7_sick s m args below meth c G (wdM tI tJ tZ ad) (Ad 11 ad) 4 (MQ below (Qi G (wdM tI tJ tZ ad) (Ad 11 ad) post) args s 0 0 (Ad 11 ad)) σ [(0, .ref (ad 0)), (1, .int x1), (2, .int x2)] 7 [] := by
  intro n
  induction n with
  | zero => intro x1 x2 σ h; exact h.elim
  | succ n ih =>
    intro x1 x2 σ h
    unfold lp_X7_sick_7 at h
    refine wm_iload_n X 2 rfl dX7_sick_7 ?_
    refine wm_aload_n X 0 rfl dX7_sick_8 ?_
    refine wm_get X (by decide +kernel) 0 rfl rfl 0 (by decide) (by decide +kernel) rfl dX7_sick_9 ?_
    refine wm_icmp_gt (tgt := 82) X (by decide) dX7_sick_12 (fun c1 => ?_) (fun c1 => ?_)
    · replace h := h.1 c1
      refine wm_aload_n X 0 rfl dX7_sick_82 ?_
      refine wm_iload_n X 1 rfl dX7_sick_83 ?_
      refine wm_callVi (n := 1) (As := [.int x1]) (rest := []) X (c_X7_foundAt l G tI tJ tZ ad hD x1 σ _ h) gX7_sick_X7_foundAt rfl ⟨rfl, rfl⟩ (by decide +kernel) ⟨Nat.le_of_ble_eq_true rfl, Nat.le_of_ble_eq_true rfl⟩ 0 rfl rfl rfl rfl rfl (Nat.le_of_ble_eq_true rfl) dX7_sick_84 (fun r2 σ3 h => ?_)
      exact wm_iret X hr h dX7_sick_87
    · replace h := h.2 c1
      refine wm_aload_n X 0 rfl dX7_sick_15 ?_
      refine wm_get X (by decide +kernel) 0 rfl rfl 17 (by decide) (by decide +kernel) rfl dX7_sick_16 ?_
      refine wm_if_ne (tgt := 82) X (by decide) dX7_sick_19 (fun c4 => ?_) (fun c4 => ?_)
      · replace h := h.1 c4
        refine wm_aload_n X 0 rfl dX7_sick_82 ?_
        refine wm_iload_n X 1 rfl dX7_sick_83 ?_
        refine wm_callVi (n := 1) (As := [.int x1]) (rest := []) X (c_X7_foundAt l G tI tJ tZ ad hD x1 σ _ h) gX7_sick_X7_foundAt rfl ⟨rfl, rfl⟩ (by decide +kernel) ⟨Nat.le_of_ble_eq_true rfl, Nat.le_of_ble_eq_true rfl⟩ 0 rfl rfl rfl rfl rfl (Nat.le_of_ble_eq_true rfl) dX7_sick_84 (fun r5 σ6 h => ?_)
        exact wm_iret X hr h dX7_sick_87
      · replace h := h.2 c4
        refine wm_iconst (v := 0) X (by decide) dX7_sick_22 ?_
        refine wm_istore_n (lv' := [(3, .int 0), (0, .ref (ad 0)), (1, .int x1), (2, .int x2)]) X rfl (by decide) rfl dX7_sick_23 ?_
        refine wm_sub [1, 2, 3, 0] (lv' := [(0, .ref (ad 0)), (1, .int x1), (2, .int x2), (3, .int 0)]) rfl ?_
        obtain ⟨n0, h⟩ := h
        exact w_X7_sick_24 hD X hr ih n0 x1 x2 0 σ h
set_option maxRecDepth 100000 in
set_option maxHeartbeats 4000000 in
theorem c_X7_sick (l : Launch) (G : va_G) (tI tJ tZ : ClassId) (ad : Nat → Nat) (hD : ∀ σ, va_D (Ad 11 ad) (wdM tI tJ tZ ad σ)) (x1 : Int32) (σ : St) (post : Int32 → St → Prop) (h : wp_X7_sick x1 σ post) : Ct l yX7_sick wsX7_sick rm_X7_sick G (tyL tI tJ tZ) (wdM tI tJ tZ ad) (Ad 11 ad) [.ref (ad 0), .int x1] σ (Qi G (wdM tI tJ tZ ad) (Ad 11 ad) post) := by
  refine wm_entry (cc := cX7_sick) (maxL := 4) (ret := (some .int)) (own := RX7) (lv := [(0, .ref (ad 0)), (1, .int x1)]) (by decide +kernel) rfl rfl (Nat.le_of_ble_eq_true rfl) rfl hD ?_
  intro p e s m below meth c X hr
  unfold wp_X7_sick at h
  refine wm_aload_n X 0 rfl dX7_sick_0 ?_
  refine wm_iconst (v := 0) X (by decide) dX7_sick_1 ?_
  refine wm_put (σ' := sI σ 4 0) X (by decide +kernel) tyX7 tyX7_ok nmX7 0 rfl rfl 17 (by decide) (by decide +kernel) rfl (tyX7_ok 17 (by decide)) rfl rfl (Nat.le_of_ble_eq_true rfl) rfl dX7_sick_2 ?_
  refine wm_nmS (fun σ1 e2 => ?_)
  replace h := h σ1 e2
  clear e2
  refine wm_iconst (v := 0) X (by decide) dX7_sick_5 ?_
  refine wm_istore_n (lv' := [(2, .int 0), (0, .ref (ad 0)), (1, .int x1)]) X rfl (by decide) rfl dX7_sick_6 ?_
  refine wm_sub [1, 2, 0] (lv' := [(0, .ref (ad 0)), (1, .int x1), (2, .int 0)]) rfl ?_
  obtain ⟨n0, h⟩ := h
  exact w_X7_sick_7 hD X hr n0 x1 0 σ1 h
/-! X7_pair -/
abbrev rm_X7_pair : Room := { frames := 2, cells := 0, slots := 0, locals := 55 }
def jn_X7_pair_57 (post : Int64 → St → Prop)  (x1 : Int32) (x2 : Int32) (x3 : Int32) (x4 : Int32) (x5 : Int32) (x6 : Int32) (s0 : Int32) (σ : St) : Prop :=
  (s0 = 0 → post (-102) σ) ∧ (¬ s0 = 0 → wp_X7_in (Int32.toInt64 x5) 0 2 σ (fun r2 σ3 => (r2 = 0 → post (-102) σ3) ∧ (¬ r2 = 0 → wp_X7_in (Int32.toInt64 x6) 0 1 σ3 (fun r5 σ6 => (¬ r5 = 0 → (¬ x4 = 0 → (¬ x5 = 0 → (¬ x5 = 1 → wp_X7_part (Int32.toInt64 x4) (Int32.toInt64 x2) x6 σ6 (fun r11 σ12 => post r11 σ12)) ∧ (x5 = 1 → wp_X7_part (Int32.toInt64 x4) (Int32.toInt64 x3) x6 σ6 (fun r13 σ14 => post r13 σ14))) ∧ (x5 = 0 → wp_X7_part ((Int32.toInt64 x2) * (Int32.toInt64 x3)) ((Int32.toInt64 x1) * (Int32.toInt64 x4)) x6 σ6 (fun r15 σ16 => post r15 σ16))) ∧ (x4 = 0 → post (-103) σ6)) ∧ (r5 = 0 → post (-102) σ6)))))
def jn_X7_pair_56 (post : Int64 → St → Prop)  (x1 : Int32) (x2 : Int32) (x3 : Int32) (x4 : Int32) (x5 : Int32) (x6 : Int32) (σ : St) : Prop :=
  jn_X7_pair_57 post x1 x2 x3 x4 x5 x6 0 σ
def wp_X7_pair (x1 : Int32) (x2 : Int32) (x3 : Int32) (x4 : Int32) (x5 : Int32) (x6 : Int32) (σ : St) (post : Int64 → St → Prop) : Prop :=
  wp_X7_in (Int32.toInt64 x1) 0 1000000 σ (fun r1 σ2 => (r1 = 0 → jn_X7_pair_56 post x1 x2 x3 x4 x5 x6 σ2) ∧ (¬ r1 = 0 → wp_X7_in (Int32.toInt64 x2) 0 (Int32.toInt64 x1) σ2 (fun r4 σ5 => (r4 = 0 → jn_X7_pair_56 post x1 x2 x3 x4 x5 x6 σ5) ∧ (¬ r4 = 0 → wp_X7_in (Int32.toInt64 x3) 0 (Int32.toInt64 x1) σ5 (fun r7 σ8 => (r7 = 0 → jn_X7_pair_56 post x1 x2 x3 x4 x5 x6 σ8) ∧ (¬ r7 = 0 → wp_X7_in (Int32.toInt64 x4) 0 (Int32.toInt64 x2) σ8 (fun r10 σ11 => (r10 = 0 → jn_X7_pair_56 post x1 x2 x3 x4 x5 x6 σ11) ∧ (¬ r10 = 0 → (x3 < x4 → jn_X7_pair_56 post x1 x2 x3 x4 x5 x6 σ11) ∧ (¬ x3 < x4 → jn_X7_pair_57 post x1 x2 x3 x4 x5 x6 1 σ11)))))))))
set_option maxRecDepth 100000 in
set_option maxHeartbeats 4000000 in
theorem w_X7_pair_57 {p : Program} {l : Launch} {e : Env} {s : State} {m : MethodId} {args : Array Value} {below : List Frame} {meth : Method} {c : Code} {G : va_G} {tI tJ tZ : ClassId} {ad : Nat → Nat} (hD : ∀ σ, va_D (Ad 11 ad) (wdM tI tJ tZ ad σ)) (X : Cx p s m args meth c cX7_pair 8 RX7 wsX7_pair G (tyL tI tJ tZ) (wdM tI tJ tZ ad) (Ad 11 ad)) (hr : meth.sig.returnType = (some .long)) {post : Int64 → St → Prop}  (x1 : Int32) (x2 : Int32) (x3 : Int32) (x4 : Int32) (x5 : Int32) (x6 : Int32) (s0 : Int32) (σ : St) (h : jn_X7_pair_57 post x1 x2 x3 x4 x5 x6 s0 σ) : wm p l e rm_X7_pair s m args below meth c G (wdM tI tJ tZ ad) (Ad 11 ad) 8 (MQ below (Ql G (wdM tI tJ tZ ad) (Ad 11 ad) post) args s 0 0 (Ad 11 ad)) σ [(1, .int x1), (2, .int x2), (3, .int x3), (4, .int x4), (5, .int x5), (6, .int x6)] 57 [.int s0] := by
  unfold jn_X7_pair_57 at h
  refine wm_istore (lv' := [(7, .int s0), (1, .int x1), (2, .int x2), (3, .int x3), (4, .int x4), (5, .int x5), (6, .int x6)]) X (by decide) rfl dX7_pair_57 ?_
  refine wm_iload X 0 rfl dX7_pair_59 ?_
  refine wm_if_eq (tgt := 88) X (by decide) dX7_pair_61 (fun c1 => ?_) (fun c1 => ?_)
  · replace h := h.1 c1
    refine wm_ldc2 (v := (-102)) X (by decide +kernel) dX7_pair_88 ?_
    exact wm_lret X hr h dX7_pair_91
  · replace h := h.2 c1
    refine wm_iload X 5 rfl dX7_pair_64 ?_
    refine wm_i2l X dX7_pair_66 ?_
    refine wm_lconst (v := 0) X (by decide) dX7_pair_67 ?_
    refine wm_ldc2 (v := 2) X (by decide +kernel) dX7_pair_68 ?_
    refine wm_callSi (n := 3) (As := [.long (Int32.toInt64 x5), .long 0, .long 2]) (rest := []) X (c_X7_in l G tI tJ tZ ad hD (Int32.toInt64 x5) 0 2 σ _ h) gX7_pair_X7_in rfl ⟨rfl, rfl⟩ (by decide +kernel) ⟨Nat.le_of_ble_eq_true rfl, Nat.le_of_ble_eq_true rfl⟩ rfl rfl (Nat.le_of_ble_eq_true rfl) dX7_pair_71 (fun r2 σ3 h => ?_)
    refine wm_if_eq (tgt := 88) X (by decide) dX7_pair_74 (fun c4 => ?_) (fun c4 => ?_)
    · replace h := h.1 c4
      refine wm_ldc2 (v := (-102)) X (by decide +kernel) dX7_pair_88 ?_
      exact wm_lret X hr h dX7_pair_91
    · replace h := h.2 c4
      refine wm_iload X 6 rfl dX7_pair_77 ?_
      refine wm_i2l X dX7_pair_79 ?_
      refine wm_lconst (v := 0) X (by decide) dX7_pair_80 ?_
      refine wm_lconst (v := 1) X (by decide) dX7_pair_81 ?_
      refine wm_callSi (n := 3) (As := [.long (Int32.toInt64 x6), .long 0, .long 1]) (rest := []) X (c_X7_in l G tI tJ tZ ad hD (Int32.toInt64 x6) 0 1 σ3 _ h) gX7_pair_X7_in rfl ⟨rfl, rfl⟩ (by decide +kernel) ⟨Nat.le_of_ble_eq_true rfl, Nat.le_of_ble_eq_true rfl⟩ rfl rfl (Nat.le_of_ble_eq_true rfl) dX7_pair_82 (fun r5 σ6 h => ?_)
      refine wm_if_ne (tgt := 92) X (by decide) dX7_pair_85 (fun c7 => ?_) (fun c7 => ?_)
      · replace h := h.1 c7
        refine wm_iload X 4 rfl dX7_pair_92 ?_
        refine wm_if_ne (tgt := 101) X (by decide) dX7_pair_94 (fun c8 => ?_) (fun c8 => ?_)
        · replace h := h.1 c8
          refine wm_iload X 5 rfl dX7_pair_101 ?_
          refine wm_if_ne (tgt := 125) X (by decide) dX7_pair_103 (fun c9 => ?_) (fun c9 => ?_)
          · replace h := h.1 c9
            refine wm_iload X 4 rfl dX7_pair_125 ?_
            refine wm_i2l X dX7_pair_127 ?_
            refine wm_iload X 5 rfl dX7_pair_128 ?_
            refine wm_iconst (v := 1) X (by decide) dX7_pair_130 ?_
            refine wm_icmp_ne (tgt := 139) X (by decide) dX7_pair_131 (fun c10 => ?_) (fun c10 => ?_)
            · replace h := h.1 c10
              refine wm_iload_n X 2 rfl dX7_pair_139 ?_
              refine wm_i2l X dX7_pair_140 ?_
              refine wm_iload X 6 rfl dX7_pair_141 ?_
              refine wm_callSl (n := 3) (As := [.long (Int32.toInt64 x4), .long (Int32.toInt64 x2), .int x6]) (rest := []) X (c_X7_part l G tI tJ tZ ad hD (Int32.toInt64 x4) (Int32.toInt64 x2) x6 σ6 _ h) gX7_pair_X7_part rfl ⟨rfl, rfl⟩ (by decide +kernel) ⟨Nat.le_of_ble_eq_true rfl, Nat.le_of_ble_eq_true rfl⟩ rfl rfl (Nat.le_of_ble_eq_true rfl) dX7_pair_143 (fun r11 σ12 h => ?_)
              exact wm_lret X hr h dX7_pair_146
            · replace h := h.2 c10
              refine wm_iload_n X 3 rfl dX7_pair_134 ?_
              refine wm_i2l X dX7_pair_135 ?_
              refine wm_goto (tgt := 141) X (by decide) dX7_pair_136 ?_
              refine wm_iload X 6 rfl dX7_pair_141 ?_
              refine wm_callSl (n := 3) (As := [.long (Int32.toInt64 x4), .long (Int32.toInt64 x3), .int x6]) (rest := []) X (c_X7_part l G tI tJ tZ ad hD (Int32.toInt64 x4) (Int32.toInt64 x3) x6 σ6 _ h) gX7_pair_X7_part rfl ⟨rfl, rfl⟩ (by decide +kernel) ⟨Nat.le_of_ble_eq_true rfl, Nat.le_of_ble_eq_true rfl⟩ rfl rfl (Nat.le_of_ble_eq_true rfl) dX7_pair_143 (fun r13 σ14 h => ?_)
              exact wm_lret X hr h dX7_pair_146
          · replace h := h.2 c9
            refine wm_iload_n X 2 rfl dX7_pair_106 ?_
            refine wm_i2l X dX7_pair_107 ?_
            refine wm_iload_n X 3 rfl dX7_pair_108 ?_
            refine wm_i2l X dX7_pair_109 ?_
            refine wm_lmul X dX7_pair_110 ?_
            refine wm_iload_n X 1 rfl dX7_pair_111 ?_
            refine wm_i2l X dX7_pair_112 ?_
            refine wm_iload X 4 rfl dX7_pair_113 ?_
            refine wm_i2l X dX7_pair_115 ?_
            refine wm_lmul X dX7_pair_116 ?_
            refine wm_iload X 6 rfl dX7_pair_117 ?_
            refine wm_callSl (n := 3) (As := [.long ((Int32.toInt64 x2) * (Int32.toInt64 x3)), .long ((Int32.toInt64 x1) * (Int32.toInt64 x4)), .int x6]) (rest := []) X (c_X7_part l G tI tJ tZ ad hD ((Int32.toInt64 x2) * (Int32.toInt64 x3)) ((Int32.toInt64 x1) * (Int32.toInt64 x4)) x6 σ6 _ h) gX7_pair_X7_part rfl ⟨rfl, rfl⟩ (by decide +kernel) ⟨Nat.le_of_ble_eq_true rfl, Nat.le_of_ble_eq_true rfl⟩ rfl rfl (Nat.le_of_ble_eq_true rfl) dX7_pair_119 (fun r15 σ16 h => ?_)
            refine wm_goto (tgt := 146) X (by decide) dX7_pair_122 ?_
            exact wm_lret X hr h dX7_pair_146
        · replace h := h.2 c8
          refine wm_ldc2 (v := (-103)) X (by decide +kernel) dX7_pair_97 ?_
          exact wm_lret X hr h dX7_pair_100
      · replace h := h.2 c7
        refine wm_ldc2 (v := (-102)) X (by decide +kernel) dX7_pair_88 ?_
        exact wm_lret X hr h dX7_pair_91
set_option maxRecDepth 100000 in
set_option maxHeartbeats 4000000 in
theorem w_X7_pair_56 {p : Program} {l : Launch} {e : Env} {s : State} {m : MethodId} {args : Array Value} {below : List Frame} {meth : Method} {c : Code} {G : va_G} {tI tJ tZ : ClassId} {ad : Nat → Nat} (hD : ∀ σ, va_D (Ad 11 ad) (wdM tI tJ tZ ad σ)) (X : Cx p s m args meth c cX7_pair 8 RX7 wsX7_pair G (tyL tI tJ tZ) (wdM tI tJ tZ ad) (Ad 11 ad)) (hr : meth.sig.returnType = (some .long)) {post : Int64 → St → Prop}  (x1 : Int32) (x2 : Int32) (x3 : Int32) (x4 : Int32) (x5 : Int32) (x6 : Int32) (σ : St) (h : jn_X7_pair_56 post x1 x2 x3 x4 x5 x6 σ) : wm p l e rm_X7_pair s m args below meth c G (wdM tI tJ tZ ad) (Ad 11 ad) 8 (MQ below (Ql G (wdM tI tJ tZ ad) (Ad 11 ad) post) args s 0 0 (Ad 11 ad)) σ [(1, .int x1), (2, .int x2), (3, .int x3), (4, .int x4), (5, .int x5), (6, .int x6)] 56 [] := by
  unfold jn_X7_pair_56 at h
  refine wm_iconst (v := 0) X (by decide) dX7_pair_56 ?_
  exact w_X7_pair_57 hD X hr x1 x2 x3 x4 x5 x6 0 σ h
set_option maxRecDepth 100000 in
set_option maxHeartbeats 4000000 in
theorem c_X7_pair (l : Launch) (G : va_G) (tI tJ tZ : ClassId) (ad : Nat → Nat) (hD : ∀ σ, va_D (Ad 11 ad) (wdM tI tJ tZ ad σ)) (x1 : Int32) (x2 : Int32) (x3 : Int32) (x4 : Int32) (x5 : Int32) (x6 : Int32) (σ : St) (post : Int64 → St → Prop) (h : wp_X7_pair x1 x2 x3 x4 x5 x6 σ post) : Ct l yX7_pair wsX7_pair rm_X7_pair G (tyL tI tJ tZ) (wdM tI tJ tZ ad) (Ad 11 ad) [.ref (ad 0), .int x1, .int x2, .int x3, .int x4, .int x5, .int x6] σ (Ql G (wdM tI tJ tZ ad) (Ad 11 ad) post) := by
  refine wm_entry (cc := cX7_pair) (maxL := 8) (ret := (some .long)) (own := RX7) (lv := [(0, .ref (ad 0)), (1, .int x1), (2, .int x2), (3, .int x3), (4, .int x4), (5, .int x5), (6, .int x6)]) (by decide +kernel) rfl rfl (Nat.le_of_ble_eq_true rfl) rfl hD ?_
  intro p e s m below meth c X hr
  unfold wp_X7_pair at h
  refine wm_iload_n X 1 rfl dX7_pair_0 ?_
  refine wm_i2l X dX7_pair_1 ?_
  refine wm_lconst (v := 0) X (by decide) dX7_pair_2 ?_
  refine wm_ldc2 (v := 1000000) X (by decide +kernel) dX7_pair_3 ?_
  refine wm_callSi (n := 3) (As := [.long (Int32.toInt64 x1), .long 0, .long 1000000]) (rest := []) X (c_X7_in l G tI tJ tZ ad hD (Int32.toInt64 x1) 0 1000000 σ _ h) gX7_pair_X7_in rfl ⟨rfl, rfl⟩ (by decide +kernel) ⟨Nat.le_of_ble_eq_true rfl, Nat.le_of_ble_eq_true rfl⟩ rfl rfl (Nat.le_of_ble_eq_true rfl) dX7_pair_6 (fun r1 σ2 h => ?_)
  refine wm_if_eq (tgt := 56) X (by decide) dX7_pair_9 (fun c3 => ?_) (fun c3 => ?_)
  · replace h := h.1 c3
    refine wm_sub [1, 2, 3, 4, 5, 6] (lv' := [(1, .int x1), (2, .int x2), (3, .int x3), (4, .int x4), (5, .int x5), (6, .int x6)]) rfl ?_
    exact w_X7_pair_56 hD X hr x1 x2 x3 x4 x5 x6 σ2 h
  · replace h := h.2 c3
    refine wm_iload_n X 2 rfl dX7_pair_12 ?_
    refine wm_i2l X dX7_pair_13 ?_
    refine wm_lconst (v := 0) X (by decide) dX7_pair_14 ?_
    refine wm_iload_n X 1 rfl dX7_pair_15 ?_
    refine wm_i2l X dX7_pair_16 ?_
    refine wm_callSi (n := 3) (As := [.long (Int32.toInt64 x2), .long 0, .long (Int32.toInt64 x1)]) (rest := []) X (c_X7_in l G tI tJ tZ ad hD (Int32.toInt64 x2) 0 (Int32.toInt64 x1) σ2 _ h) gX7_pair_X7_in rfl ⟨rfl, rfl⟩ (by decide +kernel) ⟨Nat.le_of_ble_eq_true rfl, Nat.le_of_ble_eq_true rfl⟩ rfl rfl (Nat.le_of_ble_eq_true rfl) dX7_pair_17 (fun r4 σ5 h => ?_)
    refine wm_if_eq (tgt := 56) X (by decide) dX7_pair_20 (fun c6 => ?_) (fun c6 => ?_)
    · replace h := h.1 c6
      refine wm_sub [1, 2, 3, 4, 5, 6] (lv' := [(1, .int x1), (2, .int x2), (3, .int x3), (4, .int x4), (5, .int x5), (6, .int x6)]) rfl ?_
      exact w_X7_pair_56 hD X hr x1 x2 x3 x4 x5 x6 σ5 h
    · replace h := h.2 c6
      refine wm_iload_n X 3 rfl dX7_pair_23 ?_
      refine wm_i2l X dX7_pair_24 ?_
      refine wm_lconst (v := 0) X (by decide) dX7_pair_25 ?_
      refine wm_iload_n X 1 rfl dX7_pair_26 ?_
      refine wm_i2l X dX7_pair_27 ?_
      refine wm_callSi (n := 3) (As := [.long (Int32.toInt64 x3), .long 0, .long (Int32.toInt64 x1)]) (rest := []) X (c_X7_in l G tI tJ tZ ad hD (Int32.toInt64 x3) 0 (Int32.toInt64 x1) σ5 _ h) gX7_pair_X7_in rfl ⟨rfl, rfl⟩ (by decide +kernel) ⟨Nat.le_of_ble_eq_true rfl, Nat.le_of_ble_eq_true rfl⟩ rfl rfl (Nat.le_of_ble_eq_true rfl) dX7_pair_28 (fun r7 σ8 h => ?_)
      refine wm_if_eq (tgt := 56) X (by decide) dX7_pair_31 (fun c9 => ?_) (fun c9 => ?_)
      · replace h := h.1 c9
        refine wm_sub [1, 2, 3, 4, 5, 6] (lv' := [(1, .int x1), (2, .int x2), (3, .int x3), (4, .int x4), (5, .int x5), (6, .int x6)]) rfl ?_
        exact w_X7_pair_56 hD X hr x1 x2 x3 x4 x5 x6 σ8 h
      · replace h := h.2 c9
        refine wm_iload X 4 rfl dX7_pair_34 ?_
        refine wm_i2l X dX7_pair_36 ?_
        refine wm_lconst (v := 0) X (by decide) dX7_pair_37 ?_
        refine wm_iload_n X 2 rfl dX7_pair_38 ?_
        refine wm_i2l X dX7_pair_39 ?_
        refine wm_callSi (n := 3) (As := [.long (Int32.toInt64 x4), .long 0, .long (Int32.toInt64 x2)]) (rest := []) X (c_X7_in l G tI tJ tZ ad hD (Int32.toInt64 x4) 0 (Int32.toInt64 x2) σ8 _ h) gX7_pair_X7_in rfl ⟨rfl, rfl⟩ (by decide +kernel) ⟨Nat.le_of_ble_eq_true rfl, Nat.le_of_ble_eq_true rfl⟩ rfl rfl (Nat.le_of_ble_eq_true rfl) dX7_pair_40 (fun r10 σ11 h => ?_)
        refine wm_if_eq (tgt := 56) X (by decide) dX7_pair_43 (fun c12 => ?_) (fun c12 => ?_)
        · replace h := h.1 c12
          refine wm_sub [1, 2, 3, 4, 5, 6] (lv' := [(1, .int x1), (2, .int x2), (3, .int x3), (4, .int x4), (5, .int x5), (6, .int x6)]) rfl ?_
          exact w_X7_pair_56 hD X hr x1 x2 x3 x4 x5 x6 σ11 h
        · replace h := h.2 c12
          refine wm_iload X 4 rfl dX7_pair_46 ?_
          refine wm_iload_n X 3 rfl dX7_pair_48 ?_
          refine wm_icmp_gt (tgt := 56) X (by decide) dX7_pair_49 (fun c13 => ?_) (fun c13 => ?_)
          · replace h := h.1 c13
            refine wm_sub [1, 2, 3, 4, 5, 6] (lv' := [(1, .int x1), (2, .int x2), (3, .int x3), (4, .int x4), (5, .int x5), (6, .int x6)]) rfl ?_
            exact w_X7_pair_56 hD X hr x1 x2 x3 x4 x5 x6 σ11 h
          · replace h := h.2 c13
            refine wm_iconst (v := 1) X (by decide) dX7_pair_52 ?_
            refine wm_goto (tgt := 57) X (by decide) dX7_pair_53 ?_
            refine wm_sub [1, 2, 3, 4, 5, 6] (lv' := [(1, .int x1), (2, .int x2), (3, .int x3), (4, .int x4), (5, .int x5), (6, .int x6)]) rfl ?_
            exact w_X7_pair_57 hD X hr x1 x2 x3 x4 x5 x6 1 σ11 h
