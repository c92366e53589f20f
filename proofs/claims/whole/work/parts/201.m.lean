/-! X7_pivot -/
abbrev rm_X7_pivot : Room := { frames := 0, cells := 0, slots := 0, locals := 0 }
def lp_X7_pivot_42 (post : St → Prop) (K16 : Int32 → Int32 → Int32 → Int64 → Int32 → St → Prop) : Nat → Int32 → Int32 → Int32 → Int64 → Int32 → Int64 → Int32 → St → Prop
  | 0, _, _, _, _, _, _, _, _ => False
  | n + 1, x1, x2, x3, x4, x6, x7, x9, σ =>
  (x3 ≤ x9 → ∀ v2 : Int32, v2 = x6 + 1 → K16 x1 x2 x3 x4 v2 σ) ∧ (¬ x3 ≤ x9 → (x6 = x1 → ∀ v5 : Int32, v5 = x6 + 1 → K16 x1 x2 x3 x4 v5 σ) ∧ (¬ x6 = x1 → vp_in ((32 * x6) + x9) 800 ∧ (vp_in ((32 * x1) + x9) 800 ∧ (¬ (gL σ 0) = 0 ∧ (vp_in ((32 * x6) + x9) 800 ∧ (∀ σ7 : St, σ7 = sB σ 0 (Int32.toNatClampNeg ((32 * x6) + x9)) ((((gB σ 0 (Int32.toNatClampNeg ((32 * x6) + x9))) * x4) - (x7 * (gB σ 0 (Int32.toNatClampNeg ((32 * x1) + x9))))) / (gL σ 0)) → ∀ v9 : Int32, v9 = x9 + 1 → lp_X7_pivot_42 post K16 n x1 x2 x3 x4 x6 x7 v9 σ7))))))
def lp_X7_pivot_16 (post : St → Prop)  : Nat → Int32 → Int32 → Int32 → Int64 → Int32 → St → Prop
  | 0, _, _, _, _, _, _ => False
  | n + 1, x1, x2, x3, x4, x6, σ =>
  ((gI σ 3) ≤ x6 → ∀ σ2 : St, σ2 = sL σ 0 x4 → post σ2) ∧ (¬ (gI σ 3) ≤ x6 → vp_in ((32 * x6) + x2) 800 ∧ (∀ v4 : Int64, v4 = gB σ 0 (Int32.toNatClampNeg ((32 * x6) + x2)) → ∃ fu : Nat, lp_X7_pivot_42 post (lp_X7_pivot_16 post n) fu x1 x2 x3 x4 x6 v4 0 σ))
def wp_X7_pivot (x1 : Int32) (x2 : Int32) (x3 : Int32) (σ : St) (post : St → Prop) : Prop :=
  vp_in ((32 * x1) + x2) 800 ∧ (∀ v1 : Int64, v1 = gB σ 0 (Int32.toNatClampNeg ((32 * x1) + x2)) → ∃ fu : Nat, lp_X7_pivot_16 post fu x1 x2 x3 v1 0 σ)
set_option maxRecDepth 100000 in
set_option maxHeartbeats 4000000 in
theorem w_X7_pivot_42 {p : Program} {l : Launch} {e : Env} {s : State} {m : MethodId} {args : Array Value} {below : List Frame} {meth : Method} {c : Code} {G : va_G} {tI tJ tZ : ClassId} {ad : Nat → Nat} (hD : ∀ σ, va_D (Ad 11 ad) (wdM tI tJ tZ ad σ)) (X : Cx p s m args meth c cX7_pivot 10 RX7 wsX7_pivot G (tyL tI tJ tZ) (wdM tI tJ tZ ad) (Ad 11 ad)) (hr : meth.sig.returnType = none) {post : St → Prop} {K16 : Int32 → Int32 → Int32 → Int64 → Int32 → St → Prop} (hK16 : ∀ (x1 : Int32) (x2 : Int32) (x3 : Int32) (x4 : Int64) (x6 : Int32) (σ : St), K16 x1 x2 x3 x4 x6 σ → wm p l e rm_X7_pivot s m args below meth c G (wdM tI tJ tZ ad) (Ad 11 ad) 10 (MQ below (Qv G (wdM tI tJ tZ ad) (Ad 11 ad) post) args s 0 0 (Ad 11 ad)) σ [(0, .ref (ad 0)), (1, .int x1), (2, .int x2), (3, .int x3), (4, .long x4), (6, .int x6)] 16 []) : ∀ (n : Nat) (x1 : Int32) (x2 : Int32) (x3 : Int32) (x4 : Int64) (x6 : Int32) (x7 : Int64) (x9 : Int32) (σ : St), lp_X7_pivot_42 post K16 n x1 x2 x3 x4 x6 x7 x9 σ → wm p l e rm_X7_pivot s m args below meth c G (wdM tI tJ tZ ad) (Ad 11 ad) 10 (MQ below (Qv G (wdM tI tJ tZ ad) (Ad 11 ad) post) args s 0 0 (Ad 11 ad)) σ [(0, .ref (ad 0)), (1, .int x1), (2, .int x2), (3, .int x3), (4, .long x4), (6, .int x6), (7, .long x7), (9, .int x9)] 42 [] := by
  intro n
  induction n with
  | zero => intro x1 x2 x3 x4 x6 x7 x9 σ h; exact h.elim
  | succ n ih =>
    intro x1 x2 x3 x4 x6 x7 x9 σ h
    unfold lp_X7_pivot_42 at h
    refine wm_iload X 7 rfl dX7_pivot_42 ?_
    refine wm_iload_n X 3 rfl dX7_pivot_44 ?_
    refine wm_icmp_ge (tgt := 110) X (by decide) dX7_pivot_45 (fun c1 => ?_) (fun c1 => ?_)
    · replace h := h.1 c1
      obtain ⟨v2, e3⟩ : ∃ y : Int32, y = x6 + 1 := ⟨_, rfl⟩
      replace h := h v2 e3
      refine wm_iinc (v := v2) (lv' := [(6, .int v2), (0, .ref (ad 0)), (1, .int x1), (2, .int x2), (3, .int x3), (4, .long x4), (7, .long x7), (9, .int x9)]) X 5 rfl (by rw [e3]; rfl) (by decide) rfl dX7_pivot_110 ?_
      clear e3
      refine wm_goto (tgt := 16) X (by decide) dX7_pivot_113 ?_
      refine wm_sub [1, 2, 3, 4, 5, 0] (lv' := [(0, .ref (ad 0)), (1, .int x1), (2, .int x2), (3, .int x3), (4, .long x4), (6, .int v2)]) rfl ?_
      exact hK16 x1 x2 x3 x4 v2 σ h
    · replace h := h.2 c1
      refine wm_iload X 5 rfl dX7_pivot_48 ?_
      refine wm_iload_n X 1 rfl dX7_pivot_50 ?_
      refine wm_icmp_eq (tgt := 110) X (by decide) dX7_pivot_51 (fun c4 => ?_) (fun c4 => ?_)
      · replace h := h.1 c4
        obtain ⟨v5, e6⟩ : ∃ y : Int32, y = x6 + 1 := ⟨_, rfl⟩
        replace h := h v5 e6
        refine wm_iinc (v := v5) (lv' := [(6, .int v5), (0, .ref (ad 0)), (1, .int x1), (2, .int x2), (3, .int x3), (4, .long x4), (7, .long x7), (9, .int x9)]) X 5 rfl (by rw [e6]; rfl) (by decide) rfl dX7_pivot_110 ?_
        clear e6
        refine wm_goto (tgt := 16) X (by decide) dX7_pivot_113 ?_
        refine wm_sub [1, 2, 3, 4, 5, 0] (lv' := [(0, .ref (ad 0)), (1, .int x1), (2, .int x2), (3, .int x3), (4, .long x4), (6, .int v5)]) rfl ?_
        exact hK16 x1 x2 x3 x4 v5 σ h
      · replace h := h.2 c4
        refine wm_aload_n X 0 rfl dX7_pivot_54 ?_
        refine wm_get X (by decide +kernel) 0 rfl rfl 8 (by decide) (by decide +kernel) rfl dX7_pivot_55 ?_
        refine wm_bipush (v := 32) X (by decide) dX7_pivot_58 ?_
        refine wm_iload X 5 rfl dX7_pivot_60 ?_
        refine wm_imul X dX7_pivot_62 ?_
        refine wm_iload X 7 rfl dX7_pivot_63 ?_
        refine wm_iadd X dX7_pivot_65 ?_
        refine wm_aload_n X 0 rfl dX7_pivot_66 ?_
        refine wm_get X (by decide +kernel) 0 rfl rfl 8 (by decide) (by decide +kernel) rfl dX7_pivot_67 ?_
        refine wm_bipush (v := 32) X (by decide) dX7_pivot_70 ?_
        refine wm_iload X 5 rfl dX7_pivot_72 ?_
        refine wm_imul X dX7_pivot_74 ?_
        refine wm_iload X 7 rfl dX7_pivot_75 ?_
        refine wm_iadd X dX7_pivot_77 ?_
        refine wm_lald X 6 1 rfl rfl h.1 dX7_pivot_78 ?_
        replace h := h.2
        refine wm_lload X 4 rfl dX7_pivot_79 ?_
        refine wm_lmul X dX7_pivot_81 ?_
        refine wm_lload X 6 rfl dX7_pivot_82 ?_
        refine wm_aload_n X 0 rfl dX7_pivot_84 ?_
        refine wm_get X (by decide +kernel) 0 rfl rfl 8 (by decide) (by decide +kernel) rfl dX7_pivot_85 ?_
        refine wm_bipush (v := 32) X (by decide) dX7_pivot_88 ?_
        refine wm_iload_n X 1 rfl dX7_pivot_90 ?_
        refine wm_imul X dX7_pivot_91 ?_
        refine wm_iload X 7 rfl dX7_pivot_92 ?_
        refine wm_iadd X dX7_pivot_94 ?_
        refine wm_lald X 6 1 rfl rfl h.1 dX7_pivot_95 ?_
        replace h := h.2
        refine wm_lmul X dX7_pivot_96 ?_
        refine wm_lsub X dX7_pivot_97 ?_
        refine wm_aload_n X 0 rfl dX7_pivot_98 ?_
        refine wm_get X (by decide +kernel) 0 rfl rfl 10 (by decide) (by decide +kernel) rfl dX7_pivot_99 ?_
        refine wm_ldiv X h.1 dX7_pivot_102 ?_
        replace h := h.2
        refine wm_last (σ' := sB σ 0 (Int32.toNatClampNeg ((32 * x6) + x9)) ((((gB σ 0 (Int32.toNatClampNeg ((32 * x6) + x9))) * x4) - (x7 * (gB σ 0 (Int32.toNatClampNeg ((32 * x1) + x9))))) / (gL σ 0))) X 6 1 rfl rfl h.1 rfl dX7_pivot_103 ?_
        replace h := h.2
        refine wm_nmS (fun σ7 e8 => ?_)
        replace h := h σ7 e8
        clear e8
        obtain ⟨v9, e10⟩ : ∃ y : Int32, y = x9 + 1 := ⟨_, rfl⟩
        replace h := h v9 e10
        refine wm_iinc (v := v9) (lv' := [(9, .int v9), (0, .ref (ad 0)), (1, .int x1), (2, .int x2), (3, .int x3), (4, .long x4), (6, .int x6), (7, .long x7)]) X 7 rfl (by rw [e10]; rfl) (by decide) rfl dX7_pivot_104 ?_
        clear e10
        refine wm_goto (tgt := 42) X (by decide) dX7_pivot_107 ?_
        refine wm_sub [1, 2, 3, 4, 5, 6, 7, 0] (lv' := [(0, .ref (ad 0)), (1, .int x1), (2, .int x2), (3, .int x3), (4, .long x4), (6, .int x6), (7, .long x7), (9, .int v9)]) rfl ?_
        exact ih x1 x2 x3 x4 x6 x7 v9 σ7 h
set_option maxRecDepth 100000 in
set_option maxHeartbeats 4000000 in
theorem w_X7_pivot_16 {p : Program} {l : Launch} {e : Env} {s : State} {m : MethodId} {args : Array Value} {below : List Frame} {meth : Method} {c : Code} {G : va_G} {tI tJ tZ : ClassId} {ad : Nat → Nat} (hD : ∀ σ, va_D (Ad 11 ad) (wdM tI tJ tZ ad σ)) (X : Cx p s m args meth c cX7_pivot 10 RX7 wsX7_pivot G (tyL tI tJ tZ) (wdM tI tJ tZ ad) (Ad 11 ad)) (hr : meth.sig.returnType = none) {post : St → Prop}  : ∀ (n : Nat) (x1 : Int32) (x2 : Int32) (x3 : Int32) (x4 : Int64) (x6 : Int32) (σ : St), lp_X7_pivot_16 post n x1 x2 x3 x4 x6 σ → wm p l e rm_X7_pivot s m args below meth c G (wdM tI tJ tZ ad) (Ad 11 ad) 10 (MQ below (Qv G (wdM tI tJ tZ ad) (Ad 11 ad) post) args s 0 0 (Ad 11 ad)) σ [(0, .ref (ad 0)), (1, .int x1), (2, .int x2), (3, .int x3), (4, .long x4), (6, .int x6)] 16 [] := by
  intro n
  induction n with
  | zero => intro x1 x2 x3 x4 x6 σ h; exact h.elim
  | succ n ih =>
    intro x1 x2 x3 x4 x6 σ h
    unfold lp_X7_pivot_16 at h
    refine wm_iload X 5 rfl dX7_pivot_16 ?_
    refine wm_aload_n X 0 rfl dX7_pivot_18 ?_
    refine wm_get X (by decide +kernel) 0 rfl rfl 9 (by decide) (by decide +kernel) rfl dX7_pivot_19 ?_
    refine wm_icmp_ge (tgt := 116) X (by decide) dX7_pivot_22 (fun c1 => ?_) (fun c1 => ?_)
    · replace h := h.1 c1
      refine wm_aload_n X 0 rfl dX7_pivot_116 ?_
      refine wm_lload X 4 rfl dX7_pivot_117 ?_
      refine wm_put (σ' := sL σ 0 x4) X (by decide +kernel) tyX7 tyX7_ok nmX7 0 rfl rfl 10 (by decide) (by decide +kernel) rfl (tyX7_ok 10 (by decide)) rfl rfl (Nat.le_of_ble_eq_true rfl) rfl dX7_pivot_119 ?_
      refine wm_nmS (fun σ2 e3 => ?_)
      replace h := h σ2 e3
      clear e3
      exact wm_vret X hr h dX7_pivot_122
    · replace h := h.2 c1
      refine wm_aload_n X 0 rfl dX7_pivot_25 ?_
      refine wm_get X (by decide +kernel) 0 rfl rfl 8 (by decide) (by decide +kernel) rfl dX7_pivot_26 ?_
      refine wm_bipush (v := 32) X (by decide) dX7_pivot_29 ?_
      refine wm_iload X 5 rfl dX7_pivot_31 ?_
      refine wm_imul X dX7_pivot_33 ?_
      refine wm_iload_n X 2 rfl dX7_pivot_34 ?_
      refine wm_iadd X dX7_pivot_35 ?_
      refine wm_lald X 6 1 rfl rfl h.1 dX7_pivot_36 ?_
      replace h := h.2
      refine wm_nmL (fun v4 e5 => ?_)
      replace h := h v4 e5
      clear e5
      refine wm_lstore (lv' := [(7, .long v4), (0, .ref (ad 0)), (1, .int x1), (2, .int x2), (3, .int x3), (4, .long x4), (6, .int x6)]) X (by decide) rfl dX7_pivot_37 ?_
      refine wm_iconst (v := 0) X (by decide) dX7_pivot_39 ?_
      refine wm_istore (lv' := [(9, .int 0), (7, .long v4), (0, .ref (ad 0)), (1, .int x1), (2, .int x2), (3, .int x3), (4, .long x4), (6, .int x6)]) X (by decide) rfl dX7_pivot_40 ?_
      refine wm_sub [2, 3, 4, 5, 6, 7, 1, 0] (lv' := [(0, .ref (ad 0)), (1, .int x1), (2, .int x2), (3, .int x3), (4, .long x4), (6, .int x6), (7, .long v4), (9, .int 0)]) rfl ?_
      obtain ⟨n0, h⟩ := h
      exact w_X7_pivot_42 hD X hr ih n0 x1 x2 x3 x4 x6 v4 0 σ h
set_option maxRecDepth 100000 in
set_option maxHeartbeats 4000000 in
theorem c_X7_pivot (l : Launch) (G : va_G) (tI tJ tZ : ClassId) (ad : Nat → Nat) (hD : ∀ σ, va_D (Ad 11 ad) (wdM tI tJ tZ ad σ)) (x1 : Int32) (x2 : Int32) (x3 : Int32) (σ : St) (post : St → Prop) (h : wp_X7_pivot x1 x2 x3 σ post) : Ct l yX7_pivot wsX7_pivot rm_X7_pivot G (tyL tI tJ tZ) (wdM tI tJ tZ ad) (Ad 11 ad) [.ref (ad 0), .int x1, .int x2, .int x3] σ (Qv G (wdM tI tJ tZ ad) (Ad 11 ad) post) := by
  refine wm_entry (cc := cX7_pivot) (maxL := 10) (ret := none) (own := RX7) (lv := [(0, .ref (ad 0)), (1, .int x1), (2, .int x2), (3, .int x3)]) (by decide +kernel) rfl rfl (Nat.le_of_ble_eq_true rfl) rfl hD ?_
  intro p e s m below meth c X hr
  unfold wp_X7_pivot at h
  refine wm_aload_n X 0 rfl dX7_pivot_0 ?_
  refine wm_get X (by decide +kernel) 0 rfl rfl 8 (by decide) (by decide +kernel) rfl dX7_pivot_1 ?_
  refine wm_bipush (v := 32) X (by decide) dX7_pivot_4 ?_
  refine wm_iload_n X 1 rfl dX7_pivot_6 ?_
  refine wm_imul X dX7_pivot_7 ?_
  refine wm_iload_n X 2 rfl dX7_pivot_8 ?_
  refine wm_iadd X dX7_pivot_9 ?_
  refine wm_lald X 6 1 rfl rfl h.1 dX7_pivot_10 ?_
  replace h := h.2
  refine wm_nmL (fun v1 e2 => ?_)
  replace h := h v1 e2
  clear e2
  refine wm_lstore (lv' := [(4, .long v1), (0, .ref (ad 0)), (1, .int x1), (2, .int x2), (3, .int x3)]) X (by decide) rfl dX7_pivot_11 ?_
  refine wm_iconst (v := 0) X (by decide) dX7_pivot_13 ?_
  refine wm_istore (lv' := [(6, .int 0), (4, .long v1), (0, .ref (ad 0)), (1, .int x1), (2, .int x2), (3, .int x3)]) X (by decide) rfl dX7_pivot_14 ?_
  refine wm_sub [2, 3, 4, 5, 1, 0] (lv' := [(0, .ref (ad 0)), (1, .int x1), (2, .int x2), (3, .int x3), (4, .long v1), (6, .int 0)]) rfl ?_
  obtain ⟨n0, h⟩ := h
  exact w_X7_pivot_16 hD X hr n0 x1 x2 x3 v1 0 σ h
/-! X7_addRow -/
abbrev rm_X7_addRow : Room := { frames := 0, cells := 0, slots := 0, locals := 0 }
def lp_X7_addRow_2 (post : St → Prop)  : Nat → Int32 → Int32 → St → Prop
  | 0, _, _, _ => False
  | n + 1, x1, x2, σ =>
  ((gI σ 0) ≤ x2 → ∀ σ2 : St, σ2 = sI σ 3 ((gI σ 3) + 1) → post σ2) ∧ (¬ (gI σ 0) ≤ x2 → vp_in ((32 * (gI σ 3)) + x2) 800 ∧ (∀ σ4 : St, σ4 = sB σ 0 (Int32.toNatClampNeg ((32 * (gI σ 3)) + x2)) (Int32.toInt64 ((x1 >>> (x2 &&& 31)) &&& 1)) → ∀ v6 : Int32, v6 = x2 + 1 → lp_X7_addRow_2 post n x1 v6 σ4))
def wp_X7_addRow (x1 : Int32) (σ : St) (post : St → Prop) : Prop :=
  ∃ fu : Nat, lp_X7_addRow_2 post fu x1 0 σ
set_option maxRecDepth 100000 in
set_option maxHeartbeats 4000000 in
theorem w_X7_addRow_2 {p : Program} {l : Launch} {e : Env} {s : State} {m : MethodId} {args : Array Value} {below : List Frame} {meth : Method} {c : Code} {G : va_G} {tI tJ tZ : ClassId} {ad : Nat → Nat} (hD : ∀ σ, va_D (Ad 11 ad) (wdM tI tJ tZ ad σ)) (X : Cx p s m args meth c cX7_addRow 3 RX7 wsX7_addRow G (tyL tI tJ tZ) (wdM tI tJ tZ ad) (Ad 11 ad)) (hr : meth.sig.returnType = none) {post : St → Prop}  : ∀ (n : Nat) (x1 : Int32) (x2 : Int32) (σ : St), lp_X7_addRow_2 post n x1 x2 σ → wm p l e rm_X7_addRow s m args below meth c G (wdM tI tJ tZ ad) (Ad 11 ad) 3 (MQ below (Qv G (wdM tI tJ tZ ad) (Ad 11 ad) post) args s 0 0 (Ad 11 ad)) σ [(0, .ref (ad 0)), (1, .int x1), (2, .int x2)] 2 [] := by
  intro n
  induction n with
  | zero => intro x1 x2 σ h; exact h.elim
  | succ n ih =>
    intro x1 x2 σ h
    unfold lp_X7_addRow_2 at h
    refine wm_iload_n X 2 rfl dX7_addRow_2 ?_
    refine wm_aload_n X 0 rfl dX7_addRow_3 ?_
    refine wm_get X (by decide +kernel) 0 rfl rfl 0 (by decide) (by decide +kernel) rfl dX7_addRow_4 ?_
    refine wm_icmp_ge (tgt := 36) X (by decide) dX7_addRow_7 (fun c1 => ?_) (fun c1 => ?_)
    · replace h := h.1 c1
      refine wm_aload_n X 0 rfl dX7_addRow_36 ?_
      refine wm_dup X rfl dX7_addRow_37 ?_
      refine wm_get X (by decide +kernel) 0 rfl rfl 9 (by decide) (by decide +kernel) rfl dX7_addRow_38 ?_
      refine wm_iconst (v := 1) X (by decide) dX7_addRow_41 ?_
      refine wm_iadd X dX7_addRow_42 ?_
      refine wm_put (σ' := sI σ 3 ((gI σ 3) + 1)) X (by decide +kernel) tyX7 tyX7_ok nmX7 0 rfl rfl 9 (by decide) (by decide +kernel) rfl (tyX7_ok 9 (by decide)) rfl rfl (Nat.le_of_ble_eq_true rfl) rfl dX7_addRow_43 ?_
      refine wm_nmS (fun σ2 e3 => ?_)
      replace h := h σ2 e3
      clear e3
      exact wm_vret X hr h dX7_addRow_46
    · replace h := h.2 c1
      refine wm_aload_n X 0 rfl dX7_addRow_10 ?_
      refine wm_get X (by decide +kernel) 0 rfl rfl 8 (by decide) (by decide +kernel) rfl dX7_addRow_11 ?_
      refine wm_bipush (v := 32) X (by decide) dX7_addRow_14 ?_
      refine wm_aload_n X 0 rfl dX7_addRow_16 ?_
      refine wm_get X (by decide +kernel) 0 rfl rfl 9 (by decide) (by decide +kernel) rfl dX7_addRow_17 ?_
      refine wm_imul X dX7_addRow_20 ?_
      refine wm_iload_n X 2 rfl dX7_addRow_21 ?_
      refine wm_iadd X dX7_addRow_22 ?_
      refine wm_iload_n X 1 rfl dX7_addRow_23 ?_
      refine wm_iload_n X 2 rfl dX7_addRow_24 ?_
      refine wm_ishr X dX7_addRow_25 ?_
      refine wm_iconst (v := 1) X (by decide) dX7_addRow_26 ?_
      refine wm_iand X dX7_addRow_27 ?_
      refine wm_i2l X dX7_addRow_28 ?_
      refine wm_last (σ' := sB σ 0 (Int32.toNatClampNeg ((32 * (gI σ 3)) + x2)) (Int32.toInt64 ((x1 >>> (x2 &&& 31)) &&& 1))) X 6 1 rfl rfl h.1 rfl dX7_addRow_29 ?_
      replace h := h.2
      refine wm_nmS (fun σ4 e5 => ?_)
      replace h := h σ4 e5
      clear e5
      obtain ⟨v6, e7⟩ : ∃ y : Int32, y = x2 + 1 := ⟨_, rfl⟩
      replace h := h v6 e7
      refine wm_iinc (v := v6) (lv' := [(2, .int v6), (0, .ref (ad 0)), (1, .int x1)]) X 2 rfl (by rw [e7]; rfl) (by decide) rfl dX7_addRow_30 ?_
      clear e7
      refine wm_goto (tgt := 2) X (by decide) dX7_addRow_33 ?_
      refine wm_sub [1, 2, 0] (lv' := [(0, .ref (ad 0)), (1, .int x1), (2, .int v6)]) rfl ?_
      exact ih x1 v6 σ4 h
set_option maxRecDepth 100000 in
set_option maxHeartbeats 4000000 in
theorem c_X7_addRow (l : Launch) (G : va_G) (tI tJ tZ : ClassId) (ad : Nat → Nat) (hD : ∀ σ, va_D (Ad 11 ad) (wdM tI tJ tZ ad σ)) (x1 : Int32) (σ : St) (post : St → Prop) (h : wp_X7_addRow x1 σ post) : Ct l yX7_addRow wsX7_addRow rm_X7_addRow G (tyL tI tJ tZ) (wdM tI tJ tZ ad) (Ad 11 ad) [.ref (ad 0), .int x1] σ (Qv G (wdM tI tJ tZ ad) (Ad 11 ad) post) := by
  refine wm_entry (cc := cX7_addRow) (maxL := 3) (ret := none) (own := RX7) (lv := [(0, .ref (ad 0)), (1, .int x1)]) (by decide +kernel) rfl rfl (Nat.le_of_ble_eq_true rfl) rfl hD ?_
  intro p e s m below meth c X hr
  unfold wp_X7_addRow at h
  refine wm_iconst (v := 0) X (by decide) dX7_addRow_0 ?_
  refine wm_istore_n (lv' := [(2, .int 0), (0, .ref (ad 0)), (1, .int x1)]) X rfl (by decide) rfl dX7_addRow_1 ?_
  refine wm_sub [1, 2, 0] (lv' := [(0, .ref (ad 0)), (1, .int x1), (2, .int 0)]) rfl ?_
  obtain ⟨n0, h⟩ := h
  exact w_X7_addRow_2 hD X hr n0 x1 0 σ h
/-! X7_rank -/
abbrev rm_X7_rank : Room := { frames := 1, cells := 0, slots := 0, locals := 29 }
def lp_X7_rank_105 (post : Int32 → St → Prop)  : Nat → Int32 → Int32 → St → Prop
  | 0, _, _, _ => False
  | n + 1, x4, x5, σ =>
  ((gI σ 0) ≤ x5 → post x4 σ) ∧ (¬ (gI σ 0) ≤ x5 → wp_X7_findRow x4 x5 σ (fun r2 σ3 => ((gI σ3 3) ≤ r2 → ∀ v5 : Int32, v5 = x5 + 1 → lp_X7_rank_105 post n x4 v5 σ3) ∧ (¬ (gI σ3 3) ≤ r2 → wp_X7_swap r2 x4 (gI σ3 0) σ3 (fun σ8 => wp_X7_pivot x4 x5 (gI σ8 0) σ8 (fun σ10 => ∀ v11 : Int32, v11 = x4 + 1 → ∀ v13 : Int32, v13 = x5 + 1 → lp_X7_rank_105 post n v11 v13 σ10)))))
def jn_X7_rank_83 (post : Int32 → St → Prop)  (x3 : Int32) (σ : St) : Prop :=
  (x3 < 0 → ∀ σ2 : St, σ2 = sL σ 0 1 → ∃ fu : Nat, lp_X7_rank_105 post fu 0 0 σ2) ∧ (¬ x3 < 0 → wp_X7_addRow (1 <<< (x3 &&& 31)) σ (fun σ5 => ∀ σ6 : St, σ6 = sL σ5 0 1 → ∃ fu : Nat, lp_X7_rank_105 post fu 0 0 σ6))
def lp_X7_rank_47 (post : Int32 → St → Prop)  : Nat → Int32 → Int32 → Int32 → St → Prop
  | 0, _, _, _, _ => False
  | n + 1, x2, x3, x4, σ =>
  ((gI σ 2) ≤ x4 → jn_X7_rank_83 post x3 σ) ∧ (¬ (gI σ 2) ≤ x4 → (¬ ((x2 >>> (x4 &&& 31)) &&& 1) = 1 → ∀ v3 : Int32, v3 = x4 + 1 → lp_X7_rank_47 post n x2 x3 v3 σ) ∧ (((x2 >>> (x4 &&& 31)) &&& 1) = 1 → vp_in x4 10 ∧ (wp_X7_addRow (gA σ 4 (Int32.toNatClampNeg x4)) σ (fun σ6 => ∀ v7 : Int32, v7 = x4 + 1 → lp_X7_rank_47 post n x2 x3 v7 σ6))))
def lp_X7_rank_8 (post : Int32 → St → Prop)  : Nat → Int32 → Int32 → Int32 → Int32 → St → Prop
  | 0, _, _, _, _, _ => False
  | n + 1, x1, x2, x3, x4, σ =>
  ((gI σ 1) ≤ x4 → ∃ fu : Nat, lp_X7_rank_47 post fu x2 x3 0 σ) ∧ (¬ (gI σ 1) ≤ x4 → (¬ ((x1 >>> (x4 &&& 31)) &&& 1) = 1 → ∀ v3 : Int32, v3 = x4 + 1 → lp_X7_rank_8 post n x1 x2 x3 v3 σ) ∧ (((x1 >>> (x4 &&& 31)) &&& 1) = 1 → vp_in x4 10 ∧ (wp_X7_addRow (gA σ 0 (Int32.toNatClampNeg x4)) σ (fun σ6 => ∀ v7 : Int32, v7 = x4 + 1 → lp_X7_rank_8 post n x1 x2 x3 v7 σ6))))
def wp_X7_rank (x1 : Int32) (x2 : Int32) (x3 : Int32) (σ : St) (post : Int32 → St → Prop) : Prop :=
  ∀ σ1 : St, σ1 = sI σ 3 0 → ∃ fu : Nat, lp_X7_rank_8 post fu x1 x2 x3 0 σ1
set_option maxRecDepth 100000 in
set_option maxHeartbeats 4000000 in
theorem w_X7_rank_105 {p : Program} {l : Launch} {e : Env} {s : State} {m : MethodId} {args : Array Value} {below : List Frame} {meth : Method} {c : Code} {G : va_G} {tI tJ tZ : ClassId} {ad : Nat → Nat} (hD : ∀ σ, va_D (Ad 11 ad) (wdM tI tJ tZ ad σ)) (X : Cx p s m args meth c cX7_rank 7 RX7 wsX7_rank G (tyL tI tJ tZ) (wdM tI tJ tZ ad) (Ad 11 ad)) (hr : meth.sig.returnType = (some .int)) {post : Int32 → St → Prop}  : ∀ (n : Nat) (x4 : Int32) (x5 : Int32) (σ : St), lp_X7_rank_105 post n x4 x5 σ → wm p l e rm_X7_rank s m args below meth c G (wdM tI tJ tZ ad) (Ad 11 ad) 7 (MQ below (Qi G (wdM tI tJ tZ ad) (Ad 11 ad) post) args s 0 0 (Ad 11 ad)) σ [(0, .ref (ad 0)), (4, .int x4), (5, .int x5)] 105 [] := by
  intro n
  induction n with
  | zero => intro x4 x5 σ h; exact h.elim
  | succ n ih =>
    intro x4 x5 σ h
    unfold lp_X7_rank_105 at h
    refine wm_iload X 2 rfl dX7_rank_105 ?_
    refine wm_aload_n X 0 rfl dX7_rank_107 ?_
    refine wm_get X (by decide +kernel) 0 rfl rfl 0 (by decide) (by decide +kernel) rfl dX7_rank_108 ?_
    refine wm_icmp_ge (tgt := 166) X (by decide) dX7_rank_111 (fun c1 => ?_) (fun c1 => ?_)
    · replace h := h.1 c1
      refine wm_iload X 1 rfl dX7_rank_166 ?_
      exact wm_iret X hr h dX7_rank_168
    · replace h := h.2 c1
      refine wm_aload_n X 0 rfl dX7_rank_114 ?_
      refine wm_iload X 1 rfl dX7_rank_115 ?_
      refine wm_iload X 2 rfl dX7_rank_117 ?_
      refine wm_callVi (n := 2) (As := [.int x4, .int x5]) (rest := []) X (c_X7_findRow l G tI tJ tZ ad hD x4 x5 σ _ h) gX7_rank_X7_findRow rfl ⟨rfl, rfl⟩ (by decide +kernel) ⟨Nat.le_of_ble_eq_true rfl, Nat.le_of_ble_eq_true rfl⟩ 0 rfl rfl rfl rfl rfl (Nat.le_of_ble_eq_true rfl) dX7_rank_119 (fun r2 σ3 h => ?_)
      refine wm_istore (lv' := [(6, .int r2), (0, .ref (ad 0)), (4, .int x4), (5, .int x5)]) X (by decide) rfl dX7_rank_122 ?_
      refine wm_iload X 0 rfl dX7_rank_124 ?_
      refine wm_aload_n X 1 rfl dX7_rank_126 ?_
      refine wm_get X (by decide +kernel) 0 rfl rfl 9 (by decide) (by decide +kernel) rfl dX7_rank_127 ?_
      refine wm_icmp_ge (tgt := 160) X (by decide) dX7_rank_130 (fun c4 => ?_) (fun c4 => ?_)
      · replace h := h.1 c4
        obtain ⟨v5, e6⟩ : ∃ y : Int32, y = x5 + 1 := ⟨_, rfl⟩
        replace h := h v5 e6
        refine wm_iinc (v := v5) (lv' := [(5, .int v5), (6, .int r2), (0, .ref (ad 0)), (4, .int x4)]) X 3 rfl (by rw [e6]; rfl) (by decide) rfl dX7_rank_160 ?_
        clear e6
        refine wm_goto (tgt := 105) X (by decide) dX7_rank_163 ?_
        refine wm_sub [2, 3, 0] (lv' := [(0, .ref (ad 0)), (4, .int x4), (5, .int v5)]) rfl ?_
        exact ih x4 v5 σ3 h
      · replace h := h.2 c4
        refine wm_aload_n X 1 rfl dX7_rank_133 ?_
        refine wm_iload X 0 rfl dX7_rank_134 ?_
        refine wm_iload X 2 rfl dX7_rank_136 ?_
        refine wm_aload_n X 1 rfl dX7_rank_138 ?_
        refine wm_get X (by decide +kernel) 0 rfl rfl 0 (by decide) (by decide +kernel) rfl dX7_rank_139 ?_
        refine wm_callVv (n := 3) (As := [.int r2, .int x4, .int (gI σ3 0)]) (rest := []) X (c_X7_swap l G tI tJ tZ ad hD r2 x4 (gI σ3 0) σ3 _ h) gX7_rank_X7_swap rfl ⟨rfl, rfl⟩ (by decide +kernel) ⟨Nat.le_of_ble_eq_true rfl, Nat.le_of_ble_eq_true rfl⟩ 0 rfl rfl rfl rfl rfl (Nat.le_of_ble_eq_true rfl) dX7_rank_142 (fun σ8 h => ?_)
        refine wm_aload_n X 1 rfl dX7_rank_145 ?_
        refine wm_iload X 2 rfl dX7_rank_146 ?_
        refine wm_iload X 3 rfl dX7_rank_148 ?_
        refine wm_aload_n X 1 rfl dX7_rank_150 ?_
        refine wm_get X (by decide +kernel) 0 rfl rfl 0 (by decide) (by decide +kernel) rfl dX7_rank_151 ?_
        refine wm_callVv (n := 3) (As := [.int x4, .int x5, .int (gI σ8 0)]) (rest := []) X (c_X7_pivot l G tI tJ tZ ad hD x4 x5 (gI σ8 0) σ8 _ h) gX7_rank_X7_pivot rfl ⟨rfl, rfl⟩ (by decide +kernel) ⟨Nat.le_of_ble_eq_true rfl, Nat.le_of_ble_eq_true rfl⟩ 0 rfl rfl rfl rfl rfl (Nat.le_of_ble_eq_true rfl) dX7_rank_154 (fun σ10 h => ?_)
        obtain ⟨v11, e12⟩ : ∃ y : Int32, y = x4 + 1 := ⟨_, rfl⟩
        replace h := h v11 e12
        refine wm_iinc (v := v11) (lv' := [(4, .int v11), (6, .int r2), (0, .ref (ad 0)), (5, .int x5)]) X 2 rfl (by rw [e12]; rfl) (by decide) rfl dX7_rank_157 ?_
        clear e12
        obtain ⟨v13, e14⟩ : ∃ y : Int32, y = x5 + 1 := ⟨_, rfl⟩
        replace h := h v13 e14
        refine wm_iinc (v := v13) (lv' := [(5, .int v13), (4, .int v11), (6, .int r2), (0, .ref (ad 0))]) X 3 rfl (by rw [e14]; rfl) (by decide) rfl dX7_rank_160 ?_
        clear e14
        refine wm_goto (tgt := 105) X (by decide) dX7_rank_163 ?_
        refine wm_sub [3, 1, 0] (lv' := [(0, .ref (ad 0)), (4, .int v11), (5, .int v13)]) rfl ?_
        exact ih v11 v13 σ10 h
set_option maxRecDepth 100000 in
set_option maxHeartbeats 4000000 in
theorem w_X7_rank_83 {p : Program} {l : Launch} {e : Env} {s : State} {m : MethodId} {args : Array Value} {below : List Frame} {meth : Method} {c : Code} {G : va_G} {tI tJ tZ : ClassId} {ad : Nat → Nat} (hD : ∀ σ, va_D (Ad 11 ad) (wdM tI tJ tZ ad σ)) (X : Cx p s m args meth c cX7_rank 7 RX7 wsX7_rank G (tyL tI tJ tZ) (wdM tI tJ tZ ad) (Ad 11 ad)) (hr : meth.sig.returnType = (some .int)) {post : Int32 → St → Prop}  (x3 : Int32) (σ : St) (h : jn_X7_rank_83 post x3 σ) : wm p l e rm_X7_rank s m args below meth c G (wdM tI tJ tZ ad) (Ad 11 ad) 7 (MQ below (Qi G (wdM tI tJ tZ ad) (Ad 11 ad) post) args s 0 0 (Ad 11 ad)) σ [(0, .ref (ad 0)), (3, .int x3)] 83 [] := by
  unfold jn_X7_rank_83 at h
  refine wm_iload_n X 1 rfl dX7_rank_83 ?_
  refine wm_if_lt (tgt := 94) X (by decide) dX7_rank_84 (fun c1 => ?_) (fun c1 => ?_)
  · replace h := h.1 c1
    refine wm_aload_n X 0 rfl dX7_rank_94 ?_
    refine wm_lconst (v := 1) X (by decide) dX7_rank_95 ?_
    refine wm_put (σ' := sL σ 0 1) X (by decide +kernel) tyX7 tyX7_ok nmX7 0 rfl rfl 10 (by decide) (by decide +kernel) rfl (tyX7_ok 10 (by decide)) rfl rfl (Nat.le_of_ble_eq_true rfl) rfl dX7_rank_96 ?_
    refine wm_nmS (fun σ2 e3 => ?_)
    replace h := h σ2 e3
    clear e3
    refine wm_iconst (v := 0) X (by decide) dX7_rank_99 ?_
    refine wm_istore (lv' := [(4, .int 0), (0, .ref (ad 0)), (3, .int x3)]) X (by decide) rfl dX7_rank_100 ?_
    refine wm_iconst (v := 0) X (by decide) dX7_rank_102 ?_
    refine wm_istore (lv' := [(5, .int 0), (4, .int 0), (0, .ref (ad 0)), (3, .int x3)]) X (by decide) rfl dX7_rank_103 ?_
    refine wm_sub [2, 1, 0] (lv' := [(0, .ref (ad 0)), (4, .int 0), (5, .int 0)]) rfl ?_
    obtain ⟨n0, h⟩ := h
    exact w_X7_rank_105 hD X hr n0 0 0 σ2 h
  · replace h := h.2 c1
    refine wm_aload_n X 0 rfl dX7_rank_87 ?_
    refine wm_iconst (v := 1) X (by decide) dX7_rank_88 ?_
    refine wm_iload_n X 1 rfl dX7_rank_89 ?_
    refine wm_ishl X dX7_rank_90 ?_
    refine wm_callVv (n := 1) (As := [.int (1 <<< (x3 &&& 31))]) (rest := []) X (c_X7_addRow l G tI tJ tZ ad hD (1 <<< (x3 &&& 31)) σ _ h) gX7_rank_X7_addRow rfl ⟨rfl, rfl⟩ (by decide +kernel) ⟨Nat.le_of_ble_eq_true rfl, Nat.le_of_ble_eq_true rfl⟩ 0 rfl rfl rfl rfl rfl (Nat.le_of_ble_eq_true rfl) dX7_rank_91 (fun σ5 h => ?_)
    refine wm_aload_n X 0 rfl dX7_rank_94 ?_
    refine wm_lconst (v := 1) X (by decide) dX7_rank_95 ?_
    refine wm_put (σ' := sL σ5 0 1) X (by decide +kernel) tyX7 tyX7_ok nmX7 0 rfl rfl 10 (by decide) (by decide +kernel) rfl (tyX7_ok 10 (by decide)) rfl rfl (Nat.le_of_ble_eq_true rfl) rfl dX7_rank_96 ?_
    refine wm_nmS (fun σ6 e7 => ?_)
    replace h := h σ6 e7
    clear e7
    refine wm_iconst (v := 0) X (by decide) dX7_rank_99 ?_
    refine wm_istore (lv' := [(4, .int 0), (0, .ref (ad 0)), (3, .int x3)]) X (by decide) rfl dX7_rank_100 ?_
    refine wm_iconst (v := 0) X (by decide) dX7_rank_102 ?_
    refine wm_istore (lv' := [(5, .int 0), (4, .int 0), (0, .ref (ad 0)), (3, .int x3)]) X (by decide) rfl dX7_rank_103 ?_
    refine wm_sub [2, 1, 0] (lv' := [(0, .ref (ad 0)), (4, .int 0), (5, .int 0)]) rfl ?_
    obtain ⟨n0, h⟩ := h
    exact w_X7_rank_105 hD X hr n0 0 0 σ6 h
set_option maxRecDepth 100000 in
set_option maxHeartbeats 4000000 in
theorem w_X7_rank_47 {p : Program} {l : Launch} {e : Env} {s : State} {m : MethodId} {args : Array Value} {below : List Frame} {meth : Method} {c : Code} {G : va_G} {tI tJ tZ : ClassId} {ad : Nat → Nat} (hD : ∀ σ, va_D (Ad 11 ad) (wdM tI tJ tZ ad σ)) (X : Cx p s m args meth c cX7_rank 7 RX7 wsX7_rank G (tyL tI tJ tZ) (wdM tI tJ tZ ad) (Ad 11 ad)) (hr : meth.sig.returnType = (some .int)) {post : Int32 → St → Prop}  : ∀ (n : Nat) (x2 : Int32) (x3 : Int32) (x4 : Int32) (σ : St), lp_X7_rank_47 post n x2 x3 x4 σ → wm p l e rm_X7_rank s m args below meth c G (wdM tI tJ tZ ad) (Ad 11 ad) 7 (MQ below (Qi G (wdM tI tJ tZ ad) (Ad 11 ad) post) args s 0 0 (Ad 11 ad)) σ [(0, .ref (ad 0)), (2, .int x2), (3, .int x3), (4, .int x4)] 47 [] := by
  intro n
  induction n with
  | zero => intro x2 x3 x4 σ h; exact h.elim
  | succ n ih =>
    intro x2 x3 x4 σ h
    unfold lp_X7_rank_47 at h
    refine wm_iload X 3 rfl dX7_rank_47 ?_
    refine wm_aload_n X 0 rfl dX7_rank_49 ?_
    refine wm_get X (by decide +kernel) 0 rfl rfl 7 (by decide) (by decide +kernel) rfl dX7_rank_50 ?_
    refine wm_icmp_ge (tgt := 83) X (by decide) dX7_rank_53 (fun c1 => ?_) (fun c1 => ?_)
    · replace h := h.1 c1
      refine wm_sub [0, 2] (lv' := [(0, .ref (ad 0)), (3, .int x3)]) rfl ?_
      exact w_X7_rank_83 hD X hr x3 σ h
    · replace h := h.2 c1
      refine wm_iload_n X 1 rfl dX7_rank_56 ?_
      refine wm_iload X 3 rfl dX7_rank_57 ?_
      refine wm_ishr X dX7_rank_59 ?_
      refine wm_iconst (v := 1) X (by decide) dX7_rank_60 ?_
      refine wm_iand X dX7_rank_61 ?_
      refine wm_iconst (v := 1) X (by decide) dX7_rank_62 ?_
      refine wm_icmp_ne (tgt := 77) X (by decide) dX7_rank_63 (fun c2 => ?_) (fun c2 => ?_)
      · replace h := h.1 c2
        obtain ⟨v3, e4⟩ : ∃ y : Int32, y = x4 + 1 := ⟨_, rfl⟩
        replace h := h v3 e4
        refine wm_iinc (v := v3) (lv' := [(4, .int v3), (0, .ref (ad 0)), (2, .int x2), (3, .int x3)]) X 3 rfl (by rw [e4]; rfl) (by decide) rfl dX7_rank_77 ?_
        clear e4
        refine wm_goto (tgt := 47) X (by decide) dX7_rank_80 ?_
        refine wm_sub [1, 2, 3, 0] (lv' := [(0, .ref (ad 0)), (2, .int x2), (3, .int x3), (4, .int v3)]) rfl ?_
        exact ih x2 x3 v3 σ h
      · replace h := h.2 c2
        refine wm_aload_n X 0 rfl dX7_rank_66 ?_
        refine wm_aload_n X 0 rfl dX7_rank_67 ?_
        refine wm_get X (by decide +kernel) 0 rfl rfl 6 (by decide) (by decide +kernel) rfl dX7_rank_68 ?_
        refine wm_iload X 3 rfl dX7_rank_71 ?_
        refine wm_iald X 5 0 rfl rfl h.1 dX7_rank_73 ?_
        replace h := h.2
        refine wm_callVv (n := 1) (As := [.int (gA σ 4 (Int32.toNatClampNeg x4))]) (rest := []) X (c_X7_addRow l G tI tJ tZ ad hD (gA σ 4 (Int32.toNatClampNeg x4)) σ _ h) gX7_rank_X7_addRow rfl ⟨rfl, rfl⟩ (by decide +kernel) ⟨Nat.le_of_ble_eq_true rfl, Nat.le_of_ble_eq_true rfl⟩ 0 rfl rfl rfl rfl rfl (Nat.le_of_ble_eq_true rfl) dX7_rank_74 (fun σ6 h => ?_)
        obtain ⟨v7, e8⟩ : ∃ y : Int32, y = x4 + 1 := ⟨_, rfl⟩
        replace h := h v7 e8
        refine wm_iinc (v := v7) (lv' := [(4, .int v7), (0, .ref (ad 0)), (2, .int x2), (3, .int x3)]) X 3 rfl (by rw [e8]; rfl) (by decide) rfl dX7_rank_77 ?_
        clear e8
        refine wm_goto (tgt := 47) X (by decide) dX7_rank_80 ?_
        refine wm_sub [1, 2, 3, 0] (lv' := [(0, .ref (ad 0)), (2, .int x2), (3, .int x3), (4, .int v7)]) rfl ?_
        exact ih x2 x3 v7 σ6 h
set_option maxRecDepth 100000 in
set_option maxHeartbeats 4000000 in
theorem w_X7_rank_8 {p : Program} {l : Launch} {e : Env} {s : State} {m : MethodId} {args : Array Value} {below : List Frame} {meth : Method} {c : Code} {G : va_G} {tI tJ tZ : ClassId} {ad : Nat → Nat} (hD : ∀ σ, va_D (Ad 11 ad) (wdM tI tJ tZ ad σ)) (X : Cx p s m args meth c cX7_rank 7 RX7 wsX7_rank G (tyL tI tJ tZ) (wdM tI tJ tZ ad) (Ad 11 ad)) (hr : meth.sig.returnType = (some .int)) {post : Int32 → St → Prop}  : ∀ (n : Nat) (x1 : Int32) (x2 : Int32) (x3 : Int32) (x4 : Int32) (σ : St), lp_X7_rank_8 post n x1 x2 x3 x4 σ → wm p l e rm_X7_rank s m args below meth c G (wdM tI tJ tZ ad) (Ad 11 ad) 7 (MQ below (Qi G (wdM tI tJ tZ ad) (Ad 11 ad) post) args s 0 0 (Ad 11 ad)) σ [(0, .ref (ad 0)), (1, .int x1), (2, .int x2), (3, .int x3), (4, .int x4)] 8 [] := by
  intro n
  induction n with
  | zero => intro x1 x2 x3 x4 σ h; exact h.elim
  | succ n ih =>
    intro x1 x2 x3 x4 σ h
    unfold lp_X7_rank_8 at h
    refine wm_iload X 4 rfl dX7_rank_8 ?_
    refine wm_aload_n X 0 rfl dX7_rank_10 ?_
    refine wm_get X (by decide +kernel) 0 rfl rfl 5 (by decide) (by decide +kernel) rfl dX7_rank_11 ?_
    refine wm_icmp_ge (tgt := 44) X (by decide) dX7_rank_14 (fun c1 => ?_) (fun c1 => ?_)
    · replace h := h.1 c1
      refine wm_iconst (v := 0) X (by decide) dX7_rank_44 ?_
      refine wm_istore (lv' := [(4, .int 0), (0, .ref (ad 0)), (1, .int x1), (2, .int x2), (3, .int x3)]) X (by decide) rfl dX7_rank_45 ?_
      refine wm_sub [1, 3, 4, 0] (lv' := [(0, .ref (ad 0)), (2, .int x2), (3, .int x3), (4, .int 0)]) rfl ?_
      obtain ⟨n0, h⟩ := h
      exact w_X7_rank_47 hD X hr n0 x2 x3 0 σ h
    · replace h := h.2 c1
      refine wm_iload_n X 1 rfl dX7_rank_17 ?_
      refine wm_iload X 4 rfl dX7_rank_18 ?_
      refine wm_ishr X dX7_rank_20 ?_
      refine wm_iconst (v := 1) X (by decide) dX7_rank_21 ?_
      refine wm_iand X dX7_rank_22 ?_
      refine wm_iconst (v := 1) X (by decide) dX7_rank_23 ?_
      refine wm_icmp_ne (tgt := 38) X (by decide) dX7_rank_24 (fun c2 => ?_) (fun c2 => ?_)
      · replace h := h.1 c2
        obtain ⟨v3, e4⟩ : ∃ y : Int32, y = x4 + 1 := ⟨_, rfl⟩
        replace h := h v3 e4
        refine wm_iinc (v := v3) (lv' := [(4, .int v3), (0, .ref (ad 0)), (1, .int x1), (2, .int x2), (3, .int x3)]) X 4 rfl (by rw [e4]; rfl) (by decide) rfl dX7_rank_38 ?_
        clear e4
        refine wm_goto (tgt := 8) X (by decide) dX7_rank_41 ?_
        refine wm_sub [1, 2, 3, 4, 0] (lv' := [(0, .ref (ad 0)), (1, .int x1), (2, .int x2), (3, .int x3), (4, .int v3)]) rfl ?_
        exact ih x1 x2 x3 v3 σ h
      · replace h := h.2 c2
        refine wm_aload_n X 0 rfl dX7_rank_27 ?_
        refine wm_aload_n X 0 rfl dX7_rank_28 ?_
        refine wm_get X (by decide +kernel) 0 rfl rfl 1 (by decide) (by decide +kernel) rfl dX7_rank_29 ?_
        refine wm_iload X 4 rfl dX7_rank_32 ?_
        refine wm_iald X 1 0 rfl rfl h.1 dX7_rank_34 ?_
        replace h := h.2
        refine wm_callVv (n := 1) (As := [.int (gA σ 0 (Int32.toNatClampNeg x4))]) (rest := []) X (c_X7_addRow l G tI tJ tZ ad hD (gA σ 0 (Int32.toNatClampNeg x4)) σ _ h) gX7_rank_X7_addRow rfl ⟨rfl, rfl⟩ (by decide +kernel) ⟨Nat.le_of_ble_eq_true rfl, Nat.le_of_ble_eq_true rfl⟩ 0 rfl rfl rfl rfl rfl (Nat.le_of_ble_eq_true rfl) dX7_rank_35 (fun σ6 h => ?_)
        obtain ⟨v7, e8⟩ : ∃ y : Int32, y = x4 + 1 := ⟨_, rfl⟩
        replace h := h v7 e8
        refine wm_iinc (v := v7) (lv' := [(4, .int v7), (0, .ref (ad 0)), (1, .int x1), (2, .int x2), (3, .int x3)]) X 4 rfl (by rw [e8]; rfl) (by decide) rfl dX7_rank_38 ?_
        clear e8
        refine wm_goto (tgt := 8) X (by decide) dX7_rank_41 ?_
        refine wm_sub [1, 2, 3, 4, 0] (lv' := [(0, .ref (ad 0)), (1, .int x1), (2, .int x2), (3, .int x3), (4, .int v7)]) rfl ?_
        exact ih x1 x2 x3 v7 σ6 h
set_option maxRecDepth 100000 in
set_option maxHeartbeats 4000000 in
theorem c_X7_rank (l : Launch) (G : va_G) (tI tJ tZ : ClassId) (ad : Nat → Nat) (hD : ∀ σ, va_D (Ad 11 ad) (wdM tI tJ tZ ad σ)) (x1 : Int32) (x2 : Int32) (x3 : Int32) (σ : St) (post : Int32 → St → Prop) (h : wp_X7_rank x1 x2 x3 σ post) : Ct l yX7_rank wsX7_rank rm_X7_rank G (tyL tI tJ tZ) (wdM tI tJ tZ ad) (Ad 11 ad) [.ref (ad 0), .int x1, .int x2, .int x3] σ (Qi G (wdM tI tJ tZ ad) (Ad 11 ad) post) := by
  refine wm_entry (cc := cX7_rank) (maxL := 7) (ret := (some .int)) (own := RX7) (lv := [(0, .ref (ad 0)), (1, .int x1), (2, .int x2), (3, .int x3)]) (by decide +kernel) rfl rfl (Nat.le_of_ble_eq_true rfl) rfl hD ?_
  intro p e s m below meth c X hr
  unfold wp_X7_rank at h
  refine wm_aload_n X 0 rfl dX7_rank_0 ?_
  refine wm_iconst (v := 0) X (by decide) dX7_rank_1 ?_
  refine wm_put (σ' := sI σ 3 0) X (by decide +kernel) tyX7 tyX7_ok nmX7 0 rfl rfl 9 (by decide) (by decide +kernel) rfl (tyX7_ok 9 (by decide)) rfl rfl (Nat.le_of_ble_eq_true rfl) rfl dX7_rank_2 ?_
  refine wm_nmS (fun σ1 e2 => ?_)
  replace h := h σ1 e2
  clear e2
  refine wm_iconst (v := 0) X (by decide) dX7_rank_5 ?_
  refine wm_istore (lv' := [(4, .int 0), (0, .ref (ad 0)), (1, .int x1), (2, .int x2), (3, .int x3)]) X (by decide) rfl dX7_rank_6 ?_
  refine wm_sub [1, 2, 3, 4, 0] (lv' := [(0, .ref (ad 0)), (1, .int x1), (2, .int x2), (3, .int x3), (4, .int 0)]) rfl ?_
  obtain ⟨n0, h⟩ := h
  exact w_X7_rank_8 hD X hr n0 x1 x2 x3 0 σ1 h
/-! X7_overLine -/
abbrev rm_X7_overLine : Room := { frames := 0, cells := 0, slots := 0, locals := 0 }
def lp_X7_overLine_4 (post : Int32 → St → Prop)  : Nat → Int32 → Int32 → Int32 → St → Prop
  | 0, _, _, _, _ => False
  | n + 1, x1, x2, x3, σ =>
  ((gI σ 1) ≤ x3 → post x2 σ) ∧ (¬ (gI σ 1) ≤ x3 → vp_in x3 10 ∧ (((gA σ 2 (Int32.toNatClampNeg x3)) = 0 → ∀ v3 : Int32, v3 = x2 ||| 0 → ∀ v5 : Int32, v5 = x3 + 1 → lp_X7_overLine_4 post n x1 v3 v5 σ) ∧ (¬ (gA σ 2 (Int32.toNatClampNeg x3)) = 0 → vp_in x3 10 ∧ ((¬ (((gA σ 0 (Int32.toNatClampNeg x3)) >>> (x1 &&& 31)) &&& 1) = 1 → ∀ v8 : Int32, v8 = x2 ||| 0 → ∀ v10 : Int32, v10 = x3 + 1 → lp_X7_overLine_4 post n x1 v8 v10 σ) ∧ ((((gA σ 0 (Int32.toNatClampNeg x3)) >>> (x1 &&& 31)) &&& 1) = 1 → ∀ v12 : Int32, v12 = x2 ||| (1 <<< (x3 &&& 31)) → ∀ v14 : Int32, v14 = x3 + 1 → lp_X7_overLine_4 post n x1 v12 v14 σ)))))
def wp_X7_overLine (x1 : Int32) (σ : St) (post : Int32 → St → Prop) : Prop :=
  ∃ fu : Nat, lp_X7_overLine_4 post fu x1 0 0 σ
set_option maxRecDepth 100000 in
set_option maxHeartbeats 4000000 in
theorem w_X7_overLine_4 {p : Program} {l : Launch} {e : Env} {s : State} {m : MethodId} {args : Array Value} {below : List Frame} {meth : Method} {c : Code} {G : va_G} {tI tJ tZ : ClassId} {ad : Nat → Nat} (hD : ∀ σ, va_D (Ad 11 ad) (wdM tI tJ tZ ad σ)) (X : Cx p s m args meth c cX7_overLine 4 RX7 wsX7_overLine G (tyL tI tJ tZ) (wdM tI tJ tZ ad) (Ad 11 ad)) (hr : meth.sig.returnType = (some .int)) {post : Int32 → St → Prop}  : ∀ (n : Nat) (x1 : Int32) (x2 : Int32) (x3 : Int32) (σ : St), lp_X7_overLine_4 post n x1 x2 x3 σ → wm p l e rm_X7_overLine s m args below meth c G (wdM tI tJ tZ ad) (Ad 11 ad) 4 (MQ below (Qi G (wdM tI tJ tZ ad) (Ad 11 ad) post) args s 0 0 (Ad 11 ad)) σ [(0, .ref (ad 0)), (1, .int x1), (2, .int x2), (3, .int x3)] 4 [] := by
  intro n
  induction n with
  | zero => intro x1 x2 x3 σ h; exact h.elim
  | succ n ih =>
    intro x1 x2 x3 σ h
    unfold lp_X7_overLine_4 at h
    refine wm_iload_n X 3 rfl dX7_overLine_4 ?_
    refine wm_aload_n X 0 rfl dX7_overLine_5 ?_
    refine wm_get X (by decide +kernel) 0 rfl rfl 5 (by decide) (by decide +kernel) rfl dX7_overLine_6 ?_
    refine wm_icmp_ge (tgt := 51) X (by decide) dX7_overLine_9 (fun c1 => ?_) (fun c1 => ?_)
    · replace h := h.1 c1
      refine wm_iload_n X 2 rfl dX7_overLine_51 ?_
      exact wm_iret X hr h dX7_overLine_52
    · replace h := h.2 c1
      refine wm_iload_n X 2 rfl dX7_overLine_12 ?_
      refine wm_aload_n X 0 rfl dX7_overLine_13 ?_
      refine wm_get X (by decide +kernel) 0 rfl rfl 3 (by decide) (by decide +kernel) rfl dX7_overLine_14 ?_
      refine wm_iload_n X 3 rfl dX7_overLine_17 ?_
      refine wm_zald X 3 2 rfl rfl h.1 dX7_overLine_18 ?_
      replace h := h.2
      refine wm_if_eq (tgt := 42) X (by decide) dX7_overLine_19 (fun c2 => ?_) (fun c2 => ?_)
      · replace h := h.1 c2
        refine wm_iconst (v := 0) X (by decide) dX7_overLine_42 ?_
        refine wm_ior X dX7_overLine_43 ?_
        refine wm_nmI (fun v3 e4 => ?_)
        replace h := h v3 e4
        clear e4
        refine wm_istore_n (lv' := [(2, .int v3), (0, .ref (ad 0)), (1, .int x1), (3, .int x3)]) X rfl (by decide) rfl dX7_overLine_44 ?_
        obtain ⟨v5, e6⟩ : ∃ y : Int32, y = x3 + 1 := ⟨_, rfl⟩
        replace h := h v5 e6
        refine wm_iinc (v := v5) (lv' := [(3, .int v5), (2, .int v3), (0, .ref (ad 0)), (1, .int x1)]) X 3 rfl (by rw [e6]; rfl) (by decide) rfl dX7_overLine_45 ?_
        clear e6
        refine wm_goto (tgt := 4) X (by decide) dX7_overLine_48 ?_
        refine wm_sub [2, 3, 1, 0] (lv' := [(0, .ref (ad 0)), (1, .int x1), (2, .int v3), (3, .int v5)]) rfl ?_
        exact ih x1 v3 v5 σ h
      · replace h := h.2 c2
        refine wm_aload_n X 0 rfl dX7_overLine_22 ?_
        refine wm_get X (by decide +kernel) 0 rfl rfl 1 (by decide) (by decide +kernel) rfl dX7_overLine_23 ?_
        refine wm_iload_n X 3 rfl dX7_overLine_26 ?_
        refine wm_iald X 1 0 rfl rfl h.1 dX7_overLine_27 ?_
        replace h := h.2
        refine wm_iload_n X 1 rfl dX7_overLine_28 ?_
        refine wm_ishr X dX7_overLine_29 ?_
        refine wm_iconst (v := 1) X (by decide) dX7_overLine_30 ?_
        refine wm_iand X dX7_overLine_31 ?_
        refine wm_iconst (v := 1) X (by decide) dX7_overLine_32 ?_
        refine wm_icmp_ne (tgt := 42) X (by decide) dX7_overLine_33 (fun c7 => ?_) (fun c7 => ?_)
        · replace h := h.1 c7
          refine wm_iconst (v := 0) X (by decide) dX7_overLine_42 ?_
          refine wm_ior X dX7_overLine_43 ?_
          refine wm_nmI (fun v8 e9 => ?_)
          replace h := h v8 e9
          clear e9
          refine wm_istore_n (lv' := [(2, .int v8), (0, .ref (ad 0)), (1, .int x1), (3, .int x3)]) X rfl (by decide) rfl dX7_overLine_44 ?_
          obtain ⟨v10, e11⟩ : ∃ y : Int32, y = x3 + 1 := ⟨_, rfl⟩
          replace h := h v10 e11
          refine wm_iinc (v := v10) (lv' := [(3, .int v10), (2, .int v8), (0, .ref (ad 0)), (1, .int x1)]) X 3 rfl (by rw [e11]; rfl) (by decide) rfl dX7_overLine_45 ?_
          clear e11
          refine wm_goto (tgt := 4) X (by decide) dX7_overLine_48 ?_
          refine wm_sub [2, 3, 1, 0] (lv' := [(0, .ref (ad 0)), (1, .int x1), (2, .int v8), (3, .int v10)]) rfl ?_
          exact ih x1 v8 v10 σ h
        · replace h := h.2 c7
          refine wm_iconst (v := 1) X (by decide) dX7_overLine_36 ?_
          refine wm_iload_n X 3 rfl dX7_overLine_37 ?_
          refine wm_ishl X dX7_overLine_38 ?_
          refine wm_goto (tgt := 43) X (by decide) dX7_overLine_39 ?_
          refine wm_ior X dX7_overLine_43 ?_
          refine wm_nmI (fun v12 e13 => ?_)
          replace h := h v12 e13
          clear e13
          refine wm_istore_n (lv' := [(2, .int v12), (0, .ref (ad 0)), (1, .int x1), (3, .int x3)]) X rfl (by decide) rfl dX7_overLine_44 ?_
          obtain ⟨v14, e15⟩ : ∃ y : Int32, y = x3 + 1 := ⟨_, rfl⟩
          replace h := h v14 e15
          refine wm_iinc (v := v14) (lv' := [(3, .int v14), (2, .int v12), (0, .ref (ad 0)), (1, .int x1)]) X 3 rfl (by rw [e15]; rfl) (by decide) rfl dX7_overLine_45 ?_
          clear e15
          refine wm_goto (tgt := 4) X (by decide) dX7_overLine_48 ?_
          refine wm_sub [2, 3, 1, 0] (lv' := [(0, .ref (ad 0)), (1, .int x1), (2, .int v12), (3, .int v14)]) rfl ?_
          exact ih x1 v12 v14 σ h
set_option maxRecDepth 100000 in
set_option maxHeartbeats 4000000 in
theorem c_X7_overLine (l : Launch) (G : va_G) (tI tJ tZ : ClassId) (ad : Nat → Nat) (hD : ∀ σ, va_D (Ad 11 ad) (wdM tI tJ tZ ad σ)) (x1 : Int32) (σ : St) (post : Int32 → St → Prop) (h : wp_X7_overLine x1 σ post) : Ct l yX7_overLine wsX7_overLine rm_X7_overLine G (tyL tI tJ tZ) (wdM tI tJ tZ ad) (Ad 11 ad) [.ref (ad 0), .int x1] σ (Qi G (wdM tI tJ tZ ad) (Ad 11 ad) post) := by
  refine wm_entry (cc := cX7_overLine) (maxL := 4) (ret := (some .int)) (own := RX7) (lv := [(0, .ref (ad 0)), (1, .int x1)]) (by decide +kernel) rfl rfl (Nat.le_of_ble_eq_true rfl) rfl hD ?_
  intro p e s m below meth c X hr
  unfold wp_X7_overLine at h
  refine wm_iconst (v := 0) X (by decide) dX7_overLine_0 ?_
  refine wm_istore_n (lv' := [(2, .int 0), (0, .ref (ad 0)), (1, .int x1)]) X rfl (by decide) rfl dX7_overLine_1 ?_
  refine wm_iconst (v := 0) X (by decide) dX7_overLine_2 ?_
  refine wm_istore_n (lv' := [(3, .int 0), (2, .int 0), (0, .ref (ad 0)), (1, .int x1)]) X rfl (by decide) rfl dX7_overLine_3 ?_
  refine wm_sub [2, 3, 1, 0] (lv' := [(0, .ref (ad 0)), (1, .int x1), (2, .int 0), (3, .int 0)]) rfl ?_
  obtain ⟨n0, h⟩ := h
  exact w_X7_overLine_4 hD X hr n0 x1 0 0 σ h
/-! X7_groupOf -/
abbrev rm_X7_groupOf : Room := { frames := 1, cells := 0, slots := 0, locals := 23 }
def lp_X7_groupOf_4 (post : Int32 → St → Prop)  : Nat → Int32 → Int32 → Int32 → St → Prop
  | 0, _, _, _, _ => False
  | n + 1, x1, x2, x3, σ =>
  ((gI σ 0) ≤ x3 → post x2 σ) ∧ (¬ (gI σ 0) ≤ x3 → wp_X7_overLine x3 σ (fun r2 σ3 => wp_X7_overLine x1 σ3 (fun r4 σ5 => (¬ r2 = r4 → ∀ v7 : Int32, v7 = x2 ||| 0 → ∀ v9 : Int32, v9 = x3 + 1 → lp_X7_groupOf_4 post n x1 v7 v9 σ5) ∧ (r2 = r4 → ∀ v11 : Int32, v11 = x2 ||| (1 <<< (x3 &&& 31)) → ∀ v13 : Int32, v13 = x3 + 1 → lp_X7_groupOf_4 post n x1 v11 v13 σ5))))
def wp_X7_groupOf (x1 : Int32) (σ : St) (post : Int32 → St → Prop) : Prop :=
  ∃ fu : Nat, lp_X7_groupOf_4 post fu x1 0 0 σ
set_option maxRecDepth 100000 in
set_option maxHeartbeats 4000000 in
theorem w_X7_groupOf_4 {p : Program} {l : Launch} {e : Env} {s : State} {m : MethodId} {args : Array Value} {below : List Frame} {meth : Method} {c : Code} {G : va_G} {tI tJ tZ : ClassId} {ad : Nat → Nat} (hD : ∀ σ, va_D (Ad 11 ad) (wdM tI tJ tZ ad σ)) (X : Cx p s m args meth c cX7_groupOf 4 RX7 wsX7_groupOf G (tyL tI tJ tZ) (wdM tI tJ tZ ad) (Ad 11 ad)) (hr : meth.sig.returnType = (some .int)) {post : Int32 → St → Prop}  : ∀ (n : Nat) (x1 : Int32) (x2 : Int32) (x3 : Int32) (σ : St), lp_X7_groupOf_4 post n x1 x2 x3 σ → wm p l e rm_X7_groupOf s m args below meth c G (wdM tI tJ tZ ad) (Ad 11 ad) 4 (MQ below (Qi G (wdM tI tJ tZ ad) (Ad 11 ad) post) args s 0 0 (Ad 11 ad)) σ [(0, .ref (ad 0)), (1, .int x1), (2, .int x2), (3, .int x3)] 4 [] := by
  intro n
  induction n with
  | zero => intro x1 x2 x3 σ h; exact h.elim
  | succ n ih =>
    intro x1 x2 x3 σ h
    unfold lp_X7_groupOf_4 at h
    refine wm_iload_n X 3 rfl dX7_groupOf_4 ?_
    refine wm_aload_n X 0 rfl dX7_groupOf_5 ?_
    refine wm_get X (by decide +kernel) 0 rfl rfl 0 (by decide) (by decide +kernel) rfl dX7_groupOf_6 ?_
    refine wm_icmp_ge (tgt := 41) X (by decide) dX7_groupOf_9 (fun c1 => ?_) (fun c1 => ?_)
    · replace h := h.1 c1
      refine wm_iload_n X 2 rfl dX7_groupOf_41 ?_
      exact wm_iret X hr h dX7_groupOf_42
    · replace h := h.2 c1
      refine wm_iload_n X 2 rfl dX7_groupOf_12 ?_
      refine wm_aload_n X 0 rfl dX7_groupOf_13 ?_
      refine wm_iload_n X 3 rfl dX7_groupOf_14 ?_
      refine wm_callVi (n := 1) (As := [.int x3]) (rest := [.int x2]) X (c_X7_overLine l G tI tJ tZ ad hD x3 σ _ h) gX7_groupOf_X7_overLine rfl ⟨rfl, rfl⟩ (by decide +kernel) ⟨Nat.le_of_ble_eq_true rfl, Nat.le_of_ble_eq_true rfl⟩ 0 rfl rfl rfl rfl rfl (Nat.le_of_ble_eq_true rfl) dX7_groupOf_15 (fun r2 σ3 h => ?_)
      refine wm_aload_n X 0 rfl dX7_groupOf_18 ?_
      refine wm_iload_n X 1 rfl dX7_groupOf_19 ?_
      refine wm_callVi (n := 1) (As := [.int x1]) (rest := [.int r2, .int x2]) X (c_X7_overLine l G tI tJ tZ ad hD x1 σ3 _ h) gX7_groupOf_X7_overLine rfl ⟨rfl, rfl⟩ (by decide +kernel) ⟨Nat.le_of_ble_eq_true rfl, Nat.le_of_ble_eq_true rfl⟩ 0 rfl rfl rfl rfl rfl (Nat.le_of_ble_eq_true rfl) dX7_groupOf_20 (fun r4 σ5 h => ?_)
      refine wm_icmp_ne (tgt := 32) X (by decide) dX7_groupOf_23 (fun c6 => ?_) (fun c6 => ?_)
      · replace h := h.1 c6
        refine wm_iconst (v := 0) X (by decide) dX7_groupOf_32 ?_
        refine wm_ior X dX7_groupOf_33 ?_
        refine wm_nmI (fun v7 e8 => ?_)
        replace h := h v7 e8
        clear e8
        refine wm_istore_n (lv' := [(2, .int v7), (0, .ref (ad 0)), (1, .int x1), (3, .int x3)]) X rfl (by decide) rfl dX7_groupOf_34 ?_
        obtain ⟨v9, e10⟩ : ∃ y : Int32, y = x3 + 1 := ⟨_, rfl⟩
        replace h := h v9 e10
        refine wm_iinc (v := v9) (lv' := [(3, .int v9), (2, .int v7), (0, .ref (ad 0)), (1, .int x1)]) X 3 rfl (by rw [e10]; rfl) (by decide) rfl dX7_groupOf_35 ?_
        clear e10
        refine wm_goto (tgt := 4) X (by decide) dX7_groupOf_38 ?_
        refine wm_sub [2, 3, 1, 0] (lv' := [(0, .ref (ad 0)), (1, .int x1), (2, .int v7), (3, .int v9)]) rfl ?_
        exact ih x1 v7 v9 σ5 h
      · replace h := h.2 c6
        refine wm_iconst (v := 1) X (by decide) dX7_groupOf_26 ?_
        refine wm_iload_n X 3 rfl dX7_groupOf_27 ?_
        refine wm_ishl X dX7_groupOf_28 ?_
        refine wm_goto (tgt := 33) X (by decide) dX7_groupOf_29 ?_
        refine wm_ior X dX7_groupOf_33 ?_
        refine wm_nmI (fun v11 e12 => ?_)
        replace h := h v11 e12
        clear e12
        refine wm_istore_n (lv' := [(2, .int v11), (0, .ref (ad 0)), (1, .int x1), (3, .int x3)]) X rfl (by decide) rfl dX7_groupOf_34 ?_
        obtain ⟨v13, e14⟩ : ∃ y : Int32, y = x3 + 1 := ⟨_, rfl⟩
        replace h := h v13 e14
        refine wm_iinc (v := v13) (lv' := [(3, .int v13), (2, .int v11), (0, .ref (ad 0)), (1, .int x1)]) X 3 rfl (by rw [e14]; rfl) (by decide) rfl dX7_groupOf_35 ?_
        clear e14
        refine wm_goto (tgt := 4) X (by decide) dX7_groupOf_38 ?_
        refine wm_sub [2, 3, 1, 0] (lv' := [(0, .ref (ad 0)), (1, .int x1), (2, .int v11), (3, .int v13)]) rfl ?_
        exact ih x1 v11 v13 σ5 h
set_option maxRecDepth 100000 in
set_option maxHeartbeats 4000000 in
theorem c_X7_groupOf (l : Launch) (G : va_G) (tI tJ tZ : ClassId) (ad : Nat → Nat) (hD : ∀ σ, va_D (Ad 11 ad) (wdM tI tJ tZ ad σ)) (x1 : Int32) (σ : St) (post : Int32 → St → Prop) (h : wp_X7_groupOf x1 σ post) : Ct l yX7_groupOf wsX7_groupOf rm_X7_groupOf G (tyL tI tJ tZ) (wdM tI tJ tZ ad) (Ad 11 ad) [.ref (ad 0), .int x1] σ (Qi G (wdM tI tJ tZ ad) (Ad 11 ad) post) := by
  refine wm_entry (cc := cX7_groupOf) (maxL := 4) (ret := (some .int)) (own := RX7) (lv := [(0, .ref (ad 0)), (1, .int x1)]) (by decide +kernel) rfl rfl (Nat.le_of_ble_eq_true rfl) rfl hD ?_
  intro p e s m below meth c X hr
  unfold wp_X7_groupOf at h
  refine wm_iconst (v := 0) X (by decide) dX7_groupOf_0 ?_
  refine wm_istore_n (lv' := [(2, .int 0), (0, .ref (ad 0)), (1, .int x1)]) X rfl (by decide) rfl dX7_groupOf_1 ?_
  refine wm_iconst (v := 0) X (by decide) dX7_groupOf_2 ?_
  refine wm_istore_n (lv' := [(3, .int 0), (2, .int 0), (0, .ref (ad 0)), (1, .int x1)]) X rfl (by decide) rfl dX7_groupOf_3 ?_
  refine wm_sub [2, 3, 1, 0] (lv' := [(0, .ref (ad 0)), (1, .int x1), (2, .int 0), (3, .int 0)]) rfl ?_
  obtain ⟨n0, h⟩ := h
  exact w_X7_groupOf_4 hD X hr n0 x1 0 0 σ h
/-! X7_isKnown -/
abbrev rm_X7_isKnown : Room := { frames := 2, cells := 0, slots := 0, locals := 55 }
def wp_X7_isKnown (x1 : Int32) (x2 : Int32) (σ : St) (post : Int32 → St → Prop) : Prop :=
  wp_X7_onSet σ (fun r1 σ2 => wp_X7_rank r1 x2 x1 σ2 (fun r3 σ4 => wp_X7_onSet σ4 (fun r5 σ6 => wp_X7_rank r5 x2 (-1) σ6 (fun r7 σ8 => (¬ r3 = r7 → post 0 σ8) ∧ (r3 = r7 → post 1 σ8)))))
set_option maxRecDepth 100000 in
set_option maxHeartbeats 4000000 in
theorem c_X7_isKnown (l : Launch) (G : va_G) (tI tJ tZ : ClassId) (ad : Nat → Nat) (hD : ∀ σ, va_D (Ad 11 ad) (wdM tI tJ tZ ad σ)) (x1 : Int32) (x2 : Int32) (σ : St) (post : Int32 → St → Prop) (h : wp_X7_isKnown x1 x2 σ post) : Ct l yX7_isKnown wsX7_isKnown rm_X7_isKnown G (tyL tI tJ tZ) (wdM tI tJ tZ ad) (Ad 11 ad) [.ref (ad 0), .int x1, .int x2] σ (Qi G (wdM tI tJ tZ ad) (Ad 11 ad) post) := by
  refine wm_entry (cc := cX7_isKnown) (maxL := 3) (ret := (some .boolean)) (own := RX7) (lv := [(0, .ref (ad 0)), (1, .int x1), (2, .int x2)]) (by decide +kernel) rfl rfl (Nat.le_of_ble_eq_true rfl) rfl hD ?_
  intro p e s m below meth c X hr
  unfold wp_X7_isKnown at h
  refine wm_aload_n X 0 rfl dX7_isKnown_0 ?_
  refine wm_aload_n X 0 rfl dX7_isKnown_1 ?_
  refine wm_callVi (n := 0) (As := []) (rest := [.ref (ad 0)]) X (c_X7_onSet l G tI tJ tZ ad hD σ _ h) gX7_isKnown_X7_onSet rfl ⟨rfl, rfl⟩ (by decide +kernel) ⟨Nat.le_of_ble_eq_true rfl, Nat.le_of_ble_eq_true rfl⟩ 0 rfl rfl rfl rfl rfl (Nat.le_of_ble_eq_true rfl) dX7_isKnown_2 (fun r1 σ2 h => ?_)
  refine wm_iload_n X 2 rfl dX7_isKnown_5 ?_
  refine wm_iload_n X 1 rfl dX7_isKnown_6 ?_
  refine wm_callVi (n := 3) (As := [.int r1, .int x2, .int x1]) (rest := []) X (c_X7_rank l G tI tJ tZ ad hD r1 x2 x1 σ2 _ h) gX7_isKnown_X7_rank rfl ⟨rfl, rfl⟩ (by decide +kernel) ⟨Nat.le_of_ble_eq_true rfl, Nat.le_of_ble_eq_true rfl⟩ 0 rfl rfl rfl rfl rfl (Nat.le_of_ble_eq_true rfl) dX7_isKnown_7 (fun r3 σ4 h => ?_)
  refine wm_aload_n X 0 rfl dX7_isKnown_10 ?_
  refine wm_aload_n X 0 rfl dX7_isKnown_11 ?_
  refine wm_callVi (n := 0) (As := []) (rest := [.ref (ad 0), .int r3]) X (c_X7_onSet l G tI tJ tZ ad hD σ4 _ h) gX7_isKnown_X7_onSet rfl ⟨rfl, rfl⟩ (by decide +kernel) ⟨Nat.le_of_ble_eq_true rfl, Nat.le_of_ble_eq_true rfl⟩ 0 rfl rfl rfl rfl rfl (Nat.le_of_ble_eq_true rfl) dX7_isKnown_12 (fun r5 σ6 h => ?_)
  refine wm_iload_n X 2 rfl dX7_isKnown_15 ?_
  refine wm_iconst (v := (-1)) X (by decide) dX7_isKnown_16 ?_
  refine wm_callVi (n := 3) (As := [.int r5, .int x2, .int (-1)]) (rest := [.int r3]) X (c_X7_rank l G tI tJ tZ ad hD r5 x2 (-1) σ6 _ h) gX7_isKnown_X7_rank rfl ⟨rfl, rfl⟩ (by decide +kernel) ⟨Nat.le_of_ble_eq_true rfl, Nat.le_of_ble_eq_true rfl⟩ 0 rfl rfl rfl rfl rfl (Nat.le_of_ble_eq_true rfl) dX7_isKnown_17 (fun r7 σ8 h => ?_)
  refine wm_icmp_ne (tgt := 27) X (by decide) dX7_isKnown_20 (fun c9 => ?_) (fun c9 => ?_)
  · replace h := h.1 c9
    refine wm_iconst (v := 0) X (by decide) dX7_isKnown_27 ?_
    exact wm_zret X hr bz_0 h dX7_isKnown_28
  · replace h := h.2 c9
    refine wm_iconst (v := 1) X (by decide) dX7_isKnown_23 ?_
    refine wm_goto (tgt := 28) X (by decide) dX7_isKnown_24 ?_
    exact wm_zret X hr bz_1 h dX7_isKnown_28
