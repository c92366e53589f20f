/-! X7_tries -/
abbrev rm_X7_tries : Room := { frames := 1, cells := 0, slots := 0, locals := 29 }
def jn_X7_tries_85 (post : Int32 → St → Prop) (K9 : Int32 → Int32 → St → Prop) (x1 : Int32) (x2 : Int32) (x3 : Int32) (σ : St) : Prop :=
  vp_in x3 10 ∧ (vp_in ((32 * (gI σ 3)) + x2) 800 ∧ (∀ σ1 : St, σ1 = sB σ 0 (Int32.toNatClampNeg ((32 * (gI σ 3)) + x2)) (Int32.toInt64 (gA σ 1 (Int32.toNatClampNeg x3))) → ∀ σ3 : St, σ3 = sI σ1 3 ((gI σ1 3) + 1) → ∀ v5 : Int32, v5 = x3 + 1 → K9 x1 v5 σ3))
def lp_X7_tries_31 (post : Int32 → St → Prop) (K9 : Int32 → Int32 → St → Prop) : Nat → Int32 → Int32 → Int32 → Int32 → St → Prop
  | 0, _, _, _, _, _ => False
  | n + 1, x1, x2, x3, x4, σ =>
  ((gI σ 0) ≤ x4 → jn_X7_tries_85 post K9 x1 x2 x3 σ) ∧ (¬ (gI σ 0) ≤ x4 → (¬ ((x1 >>> (x4 &&& 31)) &&& 1) = 1 → ∀ v3 : Int32, v3 = x4 + 1 → lp_X7_tries_31 post K9 n x1 x2 x3 v3 σ) ∧ (((x1 >>> (x4 &&& 31)) &&& 1) = 1 → vp_in x3 10 ∧ (vp_in ((32 * (gI σ 3)) + x2) 800 ∧ (∀ σ5 : St, σ5 = sB σ 0 (Int32.toNatClampNeg ((32 * (gI σ 3)) + x2)) (Int32.toInt64 (((gA σ 0 (Int32.toNatClampNeg x3)) >>> (x4 &&& 31)) &&& 1)) → ∀ v7 : Int32, v7 = x2 + 1 → ∀ v9 : Int32, v9 = x4 + 1 → lp_X7_tries_31 post K9 n x1 v7 x3 v9 σ5))))
def jn_X7_tries_347 (post : Int32 → St → Prop) (K265 : Int32 → Int32 → Int32 → Int64 → Int32 → Int32 → St → Prop) (x1 : Int32) (x2 : Int32) (x4 : Int64) (x6 : Int32) (x7 : Int32) (x8 : Int32) (s0 : Int32) (σ : St) : Prop :=
  (x8 = 0 → ∀ v2 : Int32, v2 = x6 + 0 → ∀ v4 : Int32, v4 = x7 + 1 → K265 x1 x2 s0 x4 v2 v4 σ) ∧ (¬ x8 = 0 → ∀ v6 : Int32, v6 = x6 + 1 → ∀ v8 : Int32, v8 = x7 + 1 → K265 x1 x2 s0 x4 v6 v8 σ)
def jn_X7_tries_346 (post : Int32 → St → Prop) (K265 : Int32 → Int32 → Int32 → Int64 → Int32 → Int32 → St → Prop) (x1 : Int32) (x2 : Int32) (x4 : Int64) (x6 : Int32) (x7 : Int32) (x8 : Int32) (σ : St) : Prop :=
  jn_X7_tries_347 post K265 x1 x2 x4 x6 x7 x8 0 σ
def jn_X7_tries_325 (post : Int32 → St → Prop) (K265 : Int32 → Int32 → Int32 → Int64 → Int32 → Int32 → St → Prop) (x1 : Int32) (x2 : Int32) (x3 : Int32) (x4 : Int64) (x6 : Int32) (x7 : Int32) (x8 : Int32) (s1 : Int32) (s2 : Int64) (σ : St) : Prop :=
  vp_in s1 10 ∧ (∀ σ1 : St, σ1 = sB σ 1 (Int32.toNatClampNeg s1) s2 → (x3 = 0 → jn_X7_tries_346 post K265 x1 x2 x4 x6 x7 x8 σ1) ∧ (¬ x3 = 0 → vp_in x7 10 ∧ (((gB σ1 1 (Int32.toNatClampNeg x7)) < 0 → jn_X7_tries_346 post K265 x1 x2 x4 x6 x7 x8 σ1) ∧ (¬ (gB σ1 1 (Int32.toNatClampNeg x7)) < 0 → jn_X7_tries_347 post K265 x1 x2 x4 x6 x7 x8 1 σ1))))
def jn_X7_tries_324 (post : Int32 → St → Prop) (K265 : Int32 → Int32 → Int32 → Int64 → Int32 → Int32 → St → Prop) (x1 : Int32) (x2 : Int32) (x3 : Int32) (x4 : Int64) (x6 : Int32) (x7 : Int32) (x8 : Int32) (s1 : Int32) (σ : St) : Prop :=
  jn_X7_tries_325 post K265 x1 x2 x3 x4 x6 x7 x8 s1 0 σ
def jn_X7_tries_289 (post : Int32 → St → Prop) (K265 : Int32 → Int32 → Int32 → Int64 → Int32 → Int32 → St → Prop) (x1 : Int32) (x2 : Int32) (x3 : Int32) (x4 : Int64) (x6 : Int32) (x7 : Int32) (s0 : Int32) (σ : St) : Prop :=
  (s0 = 0 → jn_X7_tries_324 post K265 x1 x2 x3 x4 x6 x7 s0 x7 σ) ∧ (¬ s0 = 0 → (x3 = 0 → jn_X7_tries_324 post K265 x1 x2 x3 x4 x6 x7 s0 x7 σ) ∧ (¬ x3 = 0 → vp_in ((32 * x6) + x2) 800 ∧ jn_X7_tries_325 post K265 x1 x2 x3 x4 x6 x7 s0 x7 ((gB σ 0 (Int32.toNatClampNeg ((32 * x6) + x2))) * x4) σ))
def lp_X7_tries_265 (post : Int32 → St → Prop)  : Nat → Int32 → Int32 → Int32 → Int64 → Int32 → Int32 → St → Prop
  | 0, _, _, _, _, _, _, _ => False
  | n + 1, x1, x2, x3, x4, x6, x7, σ =>
  ((gI σ 0) ≤ x7 → bz x3 ∧ post x3 σ) ∧ (¬ (gI σ 0) ≤ x7 → (¬ ((x1 >>> (x7 &&& 31)) &&& 1) = 1 → jn_X7_tries_289 post (lp_X7_tries_265 post n) x1 x2 x3 x4 x6 x7 0 σ) ∧ (((x1 >>> (x7 &&& 31)) &&& 1) = 1 → jn_X7_tries_289 post (lp_X7_tries_265 post n) x1 x2 x3 x4 x6 x7 1 σ))
def jn_X7_tries_246 (post : Int32 → St → Prop)  (x1 : Int32) (x2 : Int32) (x3 : Int32) (s0 : Int64) (σ : St) : Prop :=
  ∀ σ1 : St, σ1 = sL σ 1 ((gL σ 0) * s0) → ∃ fu : Nat, lp_X7_tries_265 post fu x1 x2 x3 s0 0 0 σ1
def jn_X7_tries_230 (post : Int32 → St → Prop)  (x1 : Int32) (x2 : Int32) (x3 : Int32) (σ : St) : Prop :=
  (0 ≤ (gL σ 0) → jn_X7_tries_246 post x1 x2 x3 1 σ) ∧ (¬ 0 ≤ (gL σ 0) → jn_X7_tries_246 post x1 x2 x3 (-1) σ)
def lp_X7_tries_188 (post : Int32 → St → Prop)  : Nat → Int32 → Int32 → Int32 → Int32 → St → Prop
  | 0, _, _, _, _, _ => False
  | n + 1, x1, x2, x3, x4, σ =>
  ((gI σ 3) ≤ x4 → jn_X7_tries_230 post x1 x2 x3 σ) ∧ (¬ (gI σ 3) ≤ x4 → (x3 = 0 → ∀ v3 : Int32, v3 = x4 + 1 → lp_X7_tries_188 post n x1 x2 0 v3 σ) ∧ (¬ x3 = 0 → vp_in ((32 * x4) + x2) 800 ∧ ((¬ (gB σ 0 (Int32.toNatClampNeg ((32 * x4) + x2))) = 0 → ∀ v6 : Int32, v6 = x4 + 1 → lp_X7_tries_188 post n x1 x2 0 v6 σ) ∧ ((gB σ 0 (Int32.toNatClampNeg ((32 * x4) + x2))) = 0 → ∀ v8 : Int32, v8 = x4 + 1 → lp_X7_tries_188 post n x1 x2 1 v8 σ))))
def lp_X7_tries_134 (post : Int32 → St → Prop)  : Nat → Int32 → Int32 → Int32 → St → Prop
  | 0, _, _, _, _ => False
  | n + 1, x1, x2, x3, σ =>
  (x2 ≤ x3 → ∃ fu : Nat, lp_X7_tries_188 post fu x1 x2 1 x2 σ) ∧ (¬ x2 ≤ x3 → wp_X7_findRow x3 x3 σ (fun r2 σ3 => (r2 < (gI σ3 3) → wp_X7_swap r2 x3 (x2 + 1) σ3 (fun σ6 => wp_X7_pivot x3 x3 (x2 + 1) σ6 (fun σ8 => ∀ v9 : Int32, v9 = x3 + 1 → lp_X7_tries_134 post n x1 x2 v9 σ8))) ∧ (¬ r2 < (gI σ3 3) → post 0 σ3)))
def lp_X7_tries_9 (post : Int32 → St → Prop)  : Nat → Int32 → Int32 → St → Prop
  | 0, _, _, _ => False
  | n + 1, x1, x3, σ =>
  ((gI σ 1) ≤ x3 → wp_X7_bits x1 σ (fun r2 σ3 => ∀ σ4 : St, σ4 = sL σ3 0 1 → ∃ fu : Nat, lp_X7_tries_134 post fu x1 r2 0 σ4)) ∧ (¬ (gI σ 1) ≤ x3 → vp_in x3 10 ∧ (((gA σ 2 (Int32.toNatClampNeg x3)) = 0 → ∀ v7 : Int32, v7 = x3 + 1 → lp_X7_tries_9 post n x1 v7 σ) ∧ (¬ (gA σ 2 (Int32.toNatClampNeg x3)) = 0 → ∃ fu : Nat, lp_X7_tries_31 post (lp_X7_tries_9 post n) fu x1 0 x3 0 σ)))
def wp_X7_tries (x1 : Int32) (σ : St) (post : Int32 → St → Prop) : Prop :=
  ∀ σ1 : St, σ1 = sI σ 3 0 → ∃ fu : Nat, lp_X7_tries_9 post fu x1 0 σ1
set_option maxRecDepth 100000 in
set_option maxHeartbeats 4000000 in
theorem w_X7_tries_85 {p : Program} {l : Launch} {e : Env} {s : State} {m : MethodId} {args : Array Value} {below : List Frame} {meth : Method} {c : Code} {G : va_G} {tI tJ tZ : ClassId} {ad : Nat → Nat} (hD : ∀ σ, va_D (Ad 11 ad) (wdM tI tJ tZ ad σ)) (X : Cx p s m args meth c cX7_tries 9 RX7 wsX7_tries G (tyL tI tJ tZ) (wdM tI tJ tZ ad) (Ad 11 ad)) (hr : meth.sig.returnType = (some .boolean)) {post : Int32 → St → Prop} {K9 : Int32 → Int32 → St → Prop} (hK9 : ∀ (x1 : Int32) (x3 : Int32) (σ : St), K9 x1 x3 σ → wm p l e rm_X7_tries s m args below meth c G (wdM tI tJ tZ ad) (Ad 11 ad) 9 (MQ below (Qi G (wdM tI tJ tZ ad) (Ad 11 ad) post) args s 0 0 (Ad 11 ad)) σ [(0, .ref (ad 0)), (1, .int x1), (3, .int x3)] 9 []) (x1 : Int32) (x2 : Int32) (x3 : Int32) (σ : St) (h : jn_X7_tries_85 post K9 x1 x2 x3 σ) : wm p l e rm_X7_tries s m args below meth c G (wdM tI tJ tZ ad) (Ad 11 ad) 9 (MQ below (Qi G (wdM tI tJ tZ ad) (Ad 11 ad) post) args s 0 0 (Ad 11 ad)) σ [(0, .ref (ad 0)), (1, .int x1), (2, .int x2), (3, .int x3)] 85 [] := by
  unfold jn_X7_tries_85 at h
  refine wm_aload_n X 0 rfl dX7_tries_85 ?_
  refine wm_get X (by decide +kernel) 0 rfl rfl 8 (by decide) (by decide +kernel) rfl dX7_tries_86 ?_
  refine wm_bipush (v := 32) X (by decide) dX7_tries_89 ?_
  refine wm_aload_n X 0 rfl dX7_tries_91 ?_
  refine wm_get X (by decide +kernel) 0 rfl rfl 9 (by decide) (by decide +kernel) rfl dX7_tries_92 ?_
  refine wm_imul X dX7_tries_95 ?_
  refine wm_iload_n X 2 rfl dX7_tries_96 ?_
  refine wm_iadd X dX7_tries_97 ?_
  refine wm_aload_n X 0 rfl dX7_tries_98 ?_
  refine wm_get X (by decide +kernel) 0 rfl rfl 2 (by decide) (by decide +kernel) rfl dX7_tries_99 ?_
  refine wm_iload_n X 3 rfl dX7_tries_102 ?_
  refine wm_iald X 2 0 rfl rfl h.1 dX7_tries_103 ?_
  replace h := h.2
  refine wm_i2l X dX7_tries_104 ?_
  refine wm_last (σ' := sB σ 0 (Int32.toNatClampNeg ((32 * (gI σ 3)) + x2)) (Int32.toInt64 (gA σ 1 (Int32.toNatClampNeg x3)))) X 6 1 rfl rfl h.1 rfl dX7_tries_105 ?_
  replace h := h.2
  refine wm_nmS (fun σ1 e2 => ?_)
  replace h := h σ1 e2
  clear e2
  refine wm_aload_n X 0 rfl dX7_tries_106 ?_
  refine wm_dup X rfl dX7_tries_107 ?_
  refine wm_get X (by decide +kernel) 0 rfl rfl 9 (by decide) (by decide +kernel) rfl dX7_tries_108 ?_
  refine wm_iconst (v := 1) X (by decide) dX7_tries_111 ?_
  refine wm_iadd X dX7_tries_112 ?_
  refine wm_put (σ' := sI σ1 3 ((gI σ1 3) + 1)) X (by decide +kernel) tyX7 tyX7_ok nmX7 0 rfl rfl 9 (by decide) (by decide +kernel) rfl (tyX7_ok 9 (by decide)) rfl rfl (Nat.le_of_ble_eq_true rfl) rfl dX7_tries_113 ?_
  refine wm_nmS (fun σ3 e4 => ?_)
  replace h := h σ3 e4
  clear e4
  obtain ⟨v5, e6⟩ : ∃ y : Int32, y = x3 + 1 := ⟨_, rfl⟩
  replace h := h v5 e6
  refine wm_iinc (v := v5) (lv' := [(3, .int v5), (0, .ref (ad 0)), (1, .int x1), (2, .int x2)]) X 3 rfl (by rw [e6]; rfl) (by decide) rfl dX7_tries_116 ?_
  clear e6
  refine wm_goto (tgt := 9) X (by decide) dX7_tries_119 ?_
  refine wm_sub [1, 2, 0] (lv' := [(0, .ref (ad 0)), (1, .int x1), (3, .int v5)]) rfl ?_
  exact hK9 x1 v5 σ3 h
set_option maxRecDepth 100000 in
set_option maxHeartbeats 4000000 in
theorem w_X7_tries_31 {p : Program} {l : Launch} {e : Env} {s : State} {m : MethodId} {args : Array Value} {below : List Frame} {meth : Method} {c : Code} {G : va_G} {tI tJ tZ : ClassId} {ad : Nat → Nat} (hD : ∀ σ, va_D (Ad 11 ad) (wdM tI tJ tZ ad σ)) (X : Cx p s m args meth c cX7_tries 9 RX7 wsX7_tries G (tyL tI tJ tZ) (wdM tI tJ tZ ad) (Ad 11 ad)) (hr : meth.sig.returnType = (some .boolean)) {post : Int32 → St → Prop} {K9 : Int32 → Int32 → St → Prop} (hK9 : ∀ (x1 : Int32) (x3 : Int32) (σ : St), K9 x1 x3 σ → wm p l e rm_X7_tries s m args below meth c G (wdM tI tJ tZ ad) (Ad 11 ad) 9 (MQ below (Qi G (wdM tI tJ tZ ad) (Ad 11 ad) post) args s 0 0 (Ad 11 ad)) σ [(0, .ref (ad 0)), (1, .int x1), (3, .int x3)] 9 []) : ∀ (n : Nat) (x1 : Int32) (x2 : Int32) (x3 : Int32) (x4 : Int32) (σ : St), lp_X7_tries_31 post K9 n x1 x2 x3 x4 σ → wm p l e rm_X7_tries s m args below meth c G (wdM tI tJ tZ ad) (Ad 11 ad) 9 (MQ below (Qi G (wdM tI tJ tZ ad) (Ad 11 ad) post) args s 0 0 (Ad 11 ad)) σ [(0, .ref (ad 0)), (1, .int x1), (2, .int x2), (3, .int x3), (4, .int x4)] 31 [] := by
  intro n
  induction n with
  | zero => intro x1 x2 x3 x4 σ h; exact h.elim
  | succ n ih =>
    intro x1 x2 x3 x4 σ h
    unfold lp_X7_tries_31 at h
    refine wm_iload X 4 rfl dX7_tries_31 ?_
    refine wm_aload_n X 0 rfl dX7_tries_33 ?_
    refine wm_get X (by decide +kernel) 0 rfl rfl 0 (by decide) (by decide +kernel) rfl dX7_tries_34 ?_
    refine wm_icmp_ge (tgt := 85) X (by decide) dX7_tries_37 (fun c1 => ?_) (fun c1 => ?_)
    · replace h := h.1 c1
      refine wm_sub [0, 1, 2, 3] (lv' := [(0, .ref (ad 0)), (1, .int x1), (2, .int x2), (3, .int x3)]) rfl ?_
      exact w_X7_tries_85 hD X hr hK9 x1 x2 x3 σ h
    · replace h := h.2 c1
      refine wm_iload_n X 1 rfl dX7_tries_40 ?_
      refine wm_iload X 4 rfl dX7_tries_41 ?_
      refine wm_ishr X dX7_tries_43 ?_
      refine wm_iconst (v := 1) X (by decide) dX7_tries_44 ?_
      refine wm_iand X dX7_tries_45 ?_
      refine wm_iconst (v := 1) X (by decide) dX7_tries_46 ?_
      refine wm_icmp_ne (tgt := 79) X (by decide) dX7_tries_47 (fun c2 => ?_) (fun c2 => ?_)
      · replace h := h.1 c2
        obtain ⟨v3, e4⟩ : ∃ y : Int32, y = x4 + 1 := ⟨_, rfl⟩
        replace h := h v3 e4
        refine wm_iinc (v := v3) (lv' := [(4, .int v3), (0, .ref (ad 0)), (1, .int x1), (2, .int x2), (3, .int x3)]) X 4 rfl (by rw [e4]; rfl) (by decide) rfl dX7_tries_79 ?_
        clear e4
        refine wm_goto (tgt := 31) X (by decide) dX7_tries_82 ?_
        refine wm_sub [1, 2, 3, 4, 0] (lv' := [(0, .ref (ad 0)), (1, .int x1), (2, .int x2), (3, .int x3), (4, .int v3)]) rfl ?_
        exact ih x1 x2 x3 v3 σ h
      · replace h := h.2 c2
        refine wm_aload_n X 0 rfl dX7_tries_50 ?_
        refine wm_get X (by decide +kernel) 0 rfl rfl 8 (by decide) (by decide +kernel) rfl dX7_tries_51 ?_
        refine wm_bipush (v := 32) X (by decide) dX7_tries_54 ?_
        refine wm_aload_n X 0 rfl dX7_tries_56 ?_
        refine wm_get X (by decide +kernel) 0 rfl rfl 9 (by decide) (by decide +kernel) rfl dX7_tries_57 ?_
        refine wm_imul X dX7_tries_60 ?_
        refine wm_iload_n X 2 rfl dX7_tries_61 ?_
        refine wm_iadd X dX7_tries_62 ?_
        refine wm_aload_n X 0 rfl dX7_tries_63 ?_
        refine wm_get X (by decide +kernel) 0 rfl rfl 1 (by decide) (by decide +kernel) rfl dX7_tries_64 ?_
        refine wm_iload_n X 3 rfl dX7_tries_67 ?_
        refine wm_iald X 1 0 rfl rfl h.1 dX7_tries_68 ?_
        replace h := h.2
        refine wm_iload X 4 rfl dX7_tries_69 ?_
        refine wm_ishr X dX7_tries_71 ?_
        refine wm_iconst (v := 1) X (by decide) dX7_tries_72 ?_
        refine wm_iand X dX7_tries_73 ?_
        refine wm_i2l X dX7_tries_74 ?_
        refine wm_last (σ' := sB σ 0 (Int32.toNatClampNeg ((32 * (gI σ 3)) + x2)) (Int32.toInt64 (((gA σ 0 (Int32.toNatClampNeg x3)) >>> (x4 &&& 31)) &&& 1))) X 6 1 rfl rfl h.1 rfl dX7_tries_75 ?_
        replace h := h.2
        refine wm_nmS (fun σ5 e6 => ?_)
        replace h := h σ5 e6
        clear e6
        obtain ⟨v7, e8⟩ : ∃ y : Int32, y = x2 + 1 := ⟨_, rfl⟩
        replace h := h v7 e8
        refine wm_iinc (v := v7) (lv' := [(2, .int v7), (0, .ref (ad 0)), (1, .int x1), (3, .int x3), (4, .int x4)]) X 2 rfl (by rw [e8]; rfl) (by decide) rfl dX7_tries_76 ?_
        clear e8
        obtain ⟨v9, e10⟩ : ∃ y : Int32, y = x4 + 1 := ⟨_, rfl⟩
        replace h := h v9 e10
        refine wm_iinc (v := v9) (lv' := [(4, .int v9), (2, .int v7), (0, .ref (ad 0)), (1, .int x1), (3, .int x3)]) X 4 rfl (by rw [e10]; rfl) (by decide) rfl dX7_tries_79 ?_
        clear e10
        refine wm_goto (tgt := 31) X (by decide) dX7_tries_82 ?_
        refine wm_sub [2, 3, 1, 4, 0] (lv' := [(0, .ref (ad 0)), (1, .int x1), (2, .int v7), (3, .int x3), (4, .int v9)]) rfl ?_
        exact ih x1 v7 x3 v9 σ5 h
set_option maxRecDepth 100000 in
set_option maxHeartbeats 4000000 in
theorem w_X7_tries_347 {p : Program} {l : Launch} {e : Env} {s : State} {m : MethodId} {args : Array Value} {below : List Frame} {meth : Method} {c : Code} {G : va_G} {tI tJ tZ : ClassId} {ad : Nat → Nat} (hD : ∀ σ, va_D (Ad 11 ad) (wdM tI tJ tZ ad σ)) (X : Cx p s m args meth c cX7_tries 9 RX7 wsX7_tries G (tyL tI tJ tZ) (wdM tI tJ tZ ad) (Ad 11 ad)) (hr : meth.sig.returnType = (some .boolean)) {post : Int32 → St → Prop} {K265 : Int32 → Int32 → Int32 → Int64 → Int32 → Int32 → St → Prop} (hK265 : ∀ (x1 : Int32) (x2 : Int32) (x3 : Int32) (x4 : Int64) (x6 : Int32) (x7 : Int32) (σ : St), K265 x1 x2 x3 x4 x6 x7 σ → wm p l e rm_X7_tries s m args below meth c G (wdM tI tJ tZ ad) (Ad 11 ad) 9 (MQ below (Qi G (wdM tI tJ tZ ad) (Ad 11 ad) post) args s 0 0 (Ad 11 ad)) σ [(0, .ref (ad 0)), (1, .int x1), (2, .int x2), (3, .int x3), (4, .long x4), (6, .int x6), (7, .int x7)] 265 []) (x1 : Int32) (x2 : Int32) (x4 : Int64) (x6 : Int32) (x7 : Int32) (x8 : Int32) (s0 : Int32) (σ : St) (h : jn_X7_tries_347 post K265 x1 x2 x4 x6 x7 x8 s0 σ) : wm p l e rm_X7_tries s m args below meth c G (wdM tI tJ tZ ad) (Ad 11 ad) 9 (MQ below (Qi G (wdM tI tJ tZ ad) (Ad 11 ad) post) args s 0 0 (Ad 11 ad)) σ [(0, .ref (ad 0)), (1, .int x1), (2, .int x2), (4, .long x4), (6, .int x6), (7, .int x7), (8, .int x8)] 347 [.int s0] := by
  unfold jn_X7_tries_347 at h
  refine wm_istore_n (lv' := [(3, .int s0), (0, .ref (ad 0)), (1, .int x1), (2, .int x2), (4, .long x4), (6, .int x6), (7, .int x7), (8, .int x8)]) X rfl (by decide) rfl dX7_tries_347 ?_
  refine wm_iload X 5 rfl dX7_tries_348 ?_
  refine wm_iload X 7 rfl dX7_tries_350 ?_
  refine wm_if_eq (tgt := 359) X (by decide) dX7_tries_352 (fun c1 => ?_) (fun c1 => ?_)
  · replace h := h.1 c1
    refine wm_iconst (v := 0) X (by decide) dX7_tries_359 ?_
    refine wm_iadd X dX7_tries_360 ?_
    refine wm_nmI (fun v2 e3 => ?_)
    replace h := h v2 e3
    clear e3
    refine wm_istore (lv' := [(6, .int v2), (3, .int s0), (0, .ref (ad 0)), (1, .int x1), (2, .int x2), (4, .long x4), (7, .int x7), (8, .int x8)]) X (by decide) rfl dX7_tries_361 ?_
    obtain ⟨v4, e5⟩ : ∃ y : Int32, y = x7 + 1 := ⟨_, rfl⟩
    replace h := h v4 e5
    refine wm_iinc (v := v4) (lv' := [(7, .int v4), (6, .int v2), (3, .int s0), (0, .ref (ad 0)), (1, .int x1), (2, .int x2), (4, .long x4), (8, .int x8)]) X 6 rfl (by rw [e5]; rfl) (by decide) rfl dX7_tries_363 ?_
    clear e5
    refine wm_goto (tgt := 265) X (by decide) dX7_tries_366 ?_
    refine wm_sub [3, 4, 5, 2, 6, 1, 0] (lv' := [(0, .ref (ad 0)), (1, .int x1), (2, .int x2), (3, .int s0), (4, .long x4), (6, .int v2), (7, .int v4)]) rfl ?_
    exact hK265 x1 x2 s0 x4 v2 v4 σ h
  · replace h := h.2 c1
    refine wm_iconst (v := 1) X (by decide) dX7_tries_355 ?_
    refine wm_goto (tgt := 360) X (by decide) dX7_tries_356 ?_
    refine wm_iadd X dX7_tries_360 ?_
    refine wm_nmI (fun v6 e7 => ?_)
    replace h := h v6 e7
    clear e7
    refine wm_istore (lv' := [(6, .int v6), (3, .int s0), (0, .ref (ad 0)), (1, .int x1), (2, .int x2), (4, .long x4), (7, .int x7), (8, .int x8)]) X (by decide) rfl dX7_tries_361 ?_
    obtain ⟨v8, e9⟩ : ∃ y : Int32, y = x7 + 1 := ⟨_, rfl⟩
    replace h := h v8 e9
    refine wm_iinc (v := v8) (lv' := [(7, .int v8), (6, .int v6), (3, .int s0), (0, .ref (ad 0)), (1, .int x1), (2, .int x2), (4, .long x4), (8, .int x8)]) X 6 rfl (by rw [e9]; rfl) (by decide) rfl dX7_tries_363 ?_
    clear e9
    refine wm_goto (tgt := 265) X (by decide) dX7_tries_366 ?_
    refine wm_sub [3, 4, 5, 2, 6, 1, 0] (lv' := [(0, .ref (ad 0)), (1, .int x1), (2, .int x2), (3, .int s0), (4, .long x4), (6, .int v6), (7, .int v8)]) rfl ?_
    exact hK265 x1 x2 s0 x4 v6 v8 σ h
set_option maxRecDepth 100000 in
set_option maxHeartbeats 4000000 in
theorem w_X7_tries_346 {p : Program} {l : Launch} {e : Env} {s : State} {m : MethodId} {args : Array Value} {below : List Frame} {meth : Method} {c : Code} {G : va_G} {tI tJ tZ : ClassId} {ad : Nat → Nat} (hD : ∀ σ, va_D (Ad 11 ad) (wdM tI tJ tZ ad σ)) (X : Cx p s m args meth c cX7_tries 9 RX7 wsX7_tries G (tyL tI tJ tZ) (wdM tI tJ tZ ad) (Ad 11 ad)) (hr : meth.sig.returnType = (some .boolean)) {post : Int32 → St → Prop} {K265 : Int32 → Int32 → Int32 → Int64 → Int32 → Int32 → St → Prop} (hK265 : ∀ (x1 : Int32) (x2 : Int32) (x3 : Int32) (x4 : Int64) (x6 : Int32) (x7 : Int32) (σ : St), K265 x1 x2 x3 x4 x6 x7 σ → wm p l e rm_X7_tries s m args below meth c G (wdM tI tJ tZ ad) (Ad 11 ad) 9 (MQ below (Qi G (wdM tI tJ tZ ad) (Ad 11 ad) post) args s 0 0 (Ad 11 ad)) σ [(0, .ref (ad 0)), (1, .int x1), (2, .int x2), (3, .int x3), (4, .long x4), (6, .int x6), (7, .int x7)] 265 []) (x1 : Int32) (x2 : Int32) (x4 : Int64) (x6 : Int32) (x7 : Int32) (x8 : Int32) (σ : St) (h : jn_X7_tries_346 post K265 x1 x2 x4 x6 x7 x8 σ) : wm p l e rm_X7_tries s m args below meth c G (wdM tI tJ tZ ad) (Ad 11 ad) 9 (MQ below (Qi G (wdM tI tJ tZ ad) (Ad 11 ad) post) args s 0 0 (Ad 11 ad)) σ [(0, .ref (ad 0)), (1, .int x1), (2, .int x2), (4, .long x4), (6, .int x6), (7, .int x7), (8, .int x8)] 346 [] := by
  unfold jn_X7_tries_346 at h
  refine wm_iconst (v := 0) X (by decide) dX7_tries_346 ?_
  exact w_X7_tries_347 hD X hr hK265 x1 x2 x4 x6 x7 x8 0 σ h
set_option maxRecDepth 100000 in
set_option maxHeartbeats 4000000 in
theorem w_X7_tries_325 {p : Program} {l : Launch} {e : Env} {s : State} {m : MethodId} {args : Array Value} {below : List Frame} {meth : Method} {c : Code} {G : va_G} {tI tJ tZ : ClassId} {ad : Nat → Nat} (hD : ∀ σ, va_D (Ad 11 ad) (wdM tI tJ tZ ad σ)) (X : Cx p s m args meth c cX7_tries 9 RX7 wsX7_tries G (tyL tI tJ tZ) (wdM tI tJ tZ ad) (Ad 11 ad)) (hr : meth.sig.returnType = (some .boolean)) {post : Int32 → St → Prop} {K265 : Int32 → Int32 → Int32 → Int64 → Int32 → Int32 → St → Prop} (hK265 : ∀ (x1 : Int32) (x2 : Int32) (x3 : Int32) (x4 : Int64) (x6 : Int32) (x7 : Int32) (σ : St), K265 x1 x2 x3 x4 x6 x7 σ → wm p l e rm_X7_tries s m args below meth c G (wdM tI tJ tZ ad) (Ad 11 ad) 9 (MQ below (Qi G (wdM tI tJ tZ ad) (Ad 11 ad) post) args s 0 0 (Ad 11 ad)) σ [(0, .ref (ad 0)), (1, .int x1), (2, .int x2), (3, .int x3), (4, .long x4), (6, .int x6), (7, .int x7)] 265 []) (x1 : Int32) (x2 : Int32) (x3 : Int32) (x4 : Int64) (x6 : Int32) (x7 : Int32) (x8 : Int32) (s1 : Int32) (s2 : Int64) (σ : St) (h : jn_X7_tries_325 post K265 x1 x2 x3 x4 x6 x7 x8 s1 s2 σ) : wm p l e rm_X7_tries s m args below meth c G (wdM tI tJ tZ ad) (Ad 11 ad) 9 (MQ below (Qi G (wdM tI tJ tZ ad) (Ad 11 ad) post) args s 0 0 (Ad 11 ad)) σ [(0, .ref (ad 0)), (1, .int x1), (2, .int x2), (3, .int x3), (4, .long x4), (6, .int x6), (7, .int x7), (8, .int x8)] 325 [.long s2, .int s1, .ref (ad 8)] := by
  unfold jn_X7_tries_325 at h
  refine wm_last (σ' := sB σ 1 (Int32.toNatClampNeg s1) s2) X 8 1 rfl rfl h.1 rfl dX7_tries_325 ?_
  replace h := h.2
  refine wm_nmS (fun σ1 e2 => ?_)
  replace h := h σ1 e2
  clear e2
  refine wm_iload_n X 3 rfl dX7_tries_326 ?_
  refine wm_if_eq (tgt := 346) X (by decide) dX7_tries_327 (fun c3 => ?_) (fun c3 => ?_)
  · replace h := h.1 c3
    refine wm_sub [0, 1, 2, 4, 5, 6, 7] (lv' := [(0, .ref (ad 0)), (1, .int x1), (2, .int x2), (4, .long x4), (6, .int x6), (7, .int x7), (8, .int x8)]) rfl ?_
    exact w_X7_tries_346 hD X hr hK265 x1 x2 x4 x6 x7 x8 σ1 h
  · replace h := h.2 c3
    refine wm_aload_n X 0 rfl dX7_tries_330 ?_
    refine wm_get X (by decide +kernel) 0 rfl rfl 12 (by decide) (by decide +kernel) rfl dX7_tries_331 ?_
    refine wm_iload X 6 rfl dX7_tries_334 ?_
    refine wm_lald X 8 1 rfl rfl h.1 dX7_tries_336 ?_
    replace h := h.2
    refine wm_lconst (v := 0) X (by decide) dX7_tries_337 ?_
    refine wm_lcmp X dX7_tries_338 ?_
    refine wm_if_lt (tgt := 346) X (by decide) dX7_tries_339 (fun c4 => ?_) (fun c4 => ?_)
    · replace h := h.1 ((lc_lt _ _).mp c4)
      refine wm_sub [0, 1, 2, 4, 5, 6, 7] (lv' := [(0, .ref (ad 0)), (1, .int x1), (2, .int x2), (4, .long x4), (6, .int x6), (7, .int x7), (8, .int x8)]) rfl ?_
      exact w_X7_tries_346 hD X hr hK265 x1 x2 x4 x6 x7 x8 σ1 h
    · replace h := h.2 ((lc_nlt _ _).mp c4)
      refine wm_iconst (v := 1) X (by decide) dX7_tries_342 ?_
      refine wm_goto (tgt := 347) X (by decide) dX7_tries_343 ?_
      refine wm_sub [0, 1, 2, 4, 5, 6, 7] (lv' := [(0, .ref (ad 0)), (1, .int x1), (2, .int x2), (4, .long x4), (6, .int x6), (7, .int x7), (8, .int x8)]) rfl ?_
      exact w_X7_tries_347 hD X hr hK265 x1 x2 x4 x6 x7 x8 1 σ1 h
set_option maxRecDepth 100000 in
set_option maxHeartbeats 4000000 in
theorem w_X7_tries_324 {p : Program} {l : Launch} {e : Env} {s : State} {m : MethodId} {args : Array Value} {below : List Frame} {meth : Method} {c : Code} {G : va_G} {tI tJ tZ : ClassId} {ad : Nat → Nat} (hD : ∀ σ, va_D (Ad 11 ad) (wdM tI tJ tZ ad σ)) (X : Cx p s m args meth c cX7_tries 9 RX7 wsX7_tries G (tyL tI tJ tZ) (wdM tI tJ tZ ad) (Ad 11 ad)) (hr : meth.sig.returnType = (some .boolean)) {post : Int32 → St → Prop} {K265 : Int32 → Int32 → Int32 → Int64 → Int32 → Int32 → St → Prop} (hK265 : ∀ (x1 : Int32) (x2 : Int32) (x3 : Int32) (x4 : Int64) (x6 : Int32) (x7 : Int32) (σ : St), K265 x1 x2 x3 x4 x6 x7 σ → wm p l e rm_X7_tries s m args below meth c G (wdM tI tJ tZ ad) (Ad 11 ad) 9 (MQ below (Qi G (wdM tI tJ tZ ad) (Ad 11 ad) post) args s 0 0 (Ad 11 ad)) σ [(0, .ref (ad 0)), (1, .int x1), (2, .int x2), (3, .int x3), (4, .long x4), (6, .int x6), (7, .int x7)] 265 []) (x1 : Int32) (x2 : Int32) (x3 : Int32) (x4 : Int64) (x6 : Int32) (x7 : Int32) (x8 : Int32) (s1 : Int32) (σ : St) (h : jn_X7_tries_324 post K265 x1 x2 x3 x4 x6 x7 x8 s1 σ) : wm p l e rm_X7_tries s m args below meth c G (wdM tI tJ tZ ad) (Ad 11 ad) 9 (MQ below (Qi G (wdM tI tJ tZ ad) (Ad 11 ad) post) args s 0 0 (Ad 11 ad)) σ [(0, .ref (ad 0)), (1, .int x1), (2, .int x2), (3, .int x3), (4, .long x4), (6, .int x6), (7, .int x7), (8, .int x8)] 324 [.int s1, .ref (ad 8)] := by
  unfold jn_X7_tries_324 at h
  refine wm_lconst (v := 0) X (by decide) dX7_tries_324 ?_
  exact w_X7_tries_325 hD X hr hK265 x1 x2 x3 x4 x6 x7 x8 s1 0 σ h
set_option maxRecDepth 100000 in
set_option maxHeartbeats 4000000 in
theorem w_X7_tries_289 {p : Program} {l : Launch} {e : Env} {s : State} {m : MethodId} {args : Array Value} {below : List Frame} {meth : Method} {c : Code} {G : va_G} {tI tJ tZ : ClassId} {ad : Nat → Nat} (hD : ∀ σ, va_D (Ad 11 ad) (wdM tI tJ tZ ad σ)) (X : Cx p s m args meth c cX7_tries 9 RX7 wsX7_tries G (tyL tI tJ tZ) (wdM tI tJ tZ ad) (Ad 11 ad)) (hr : meth.sig.returnType = (some .boolean)) {post : Int32 → St → Prop} {K265 : Int32 → Int32 → Int32 → Int64 → Int32 → Int32 → St → Prop} (hK265 : ∀ (x1 : Int32) (x2 : Int32) (x3 : Int32) (x4 : Int64) (x6 : Int32) (x7 : Int32) (σ : St), K265 x1 x2 x3 x4 x6 x7 σ → wm p l e rm_X7_tries s m args below meth c G (wdM tI tJ tZ ad) (Ad 11 ad) 9 (MQ below (Qi G (wdM tI tJ tZ ad) (Ad 11 ad) post) args s 0 0 (Ad 11 ad)) σ [(0, .ref (ad 0)), (1, .int x1), (2, .int x2), (3, .int x3), (4, .long x4), (6, .int x6), (7, .int x7)] 265 []) (x1 : Int32) (x2 : Int32) (x3 : Int32) (x4 : Int64) (x6 : Int32) (x7 : Int32) (s0 : Int32) (σ : St) (h : jn_X7_tries_289 post K265 x1 x2 x3 x4 x6 x7 s0 σ) : wm p l e rm_X7_tries s m args below meth c G (wdM tI tJ tZ ad) (Ad 11 ad) 9 (MQ below (Qi G (wdM tI tJ tZ ad) (Ad 11 ad) post) args s 0 0 (Ad 11 ad)) σ [(0, .ref (ad 0)), (1, .int x1), (2, .int x2), (3, .int x3), (4, .long x4), (6, .int x6), (7, .int x7)] 289 [.int s0] := by
  unfold jn_X7_tries_289 at h
  refine wm_istore (lv' := [(8, .int s0), (0, .ref (ad 0)), (1, .int x1), (2, .int x2), (3, .int x3), (4, .long x4), (6, .int x6), (7, .int x7)]) X (by decide) rfl dX7_tries_289 ?_
  refine wm_aload_n X 1 rfl dX7_tries_291 ?_
  refine wm_get X (by decide +kernel) 0 rfl rfl 12 (by decide) (by decide +kernel) rfl dX7_tries_292 ?_
  refine wm_iload X 7 rfl dX7_tries_295 ?_
  refine wm_iload X 0 rfl dX7_tries_297 ?_
  refine wm_if_eq (tgt := 324) X (by decide) dX7_tries_299 (fun c1 => ?_) (fun c1 => ?_)
  · replace h := h.1 c1
    refine wm_sub [1, 2, 3, 4, 5, 6, 7, 0] (lv' := [(0, .ref (ad 0)), (1, .int x1), (2, .int x2), (3, .int x3), (4, .long x4), (6, .int x6), (7, .int x7), (8, .int s0)]) rfl ?_
    exact w_X7_tries_324 hD X hr hK265 x1 x2 x3 x4 x6 x7 s0 x7 σ h
  · replace h := h.2 c1
    refine wm_iload_n X 4 rfl dX7_tries_302 ?_
    refine wm_if_eq (tgt := 324) X (by decide) dX7_tries_303 (fun c2 => ?_) (fun c2 => ?_)
    · replace h := h.1 c2
      refine wm_sub [1, 2, 3, 4, 5, 6, 7, 0] (lv' := [(0, .ref (ad 0)), (1, .int x1), (2, .int x2), (3, .int x3), (4, .long x4), (6, .int x6), (7, .int x7), (8, .int s0)]) rfl ?_
      exact w_X7_tries_324 hD X hr hK265 x1 x2 x3 x4 x6 x7 s0 x7 σ h
    · replace h := h.2 c2
      refine wm_aload_n X 1 rfl dX7_tries_306 ?_
      refine wm_get X (by decide +kernel) 0 rfl rfl 8 (by decide) (by decide +kernel) rfl dX7_tries_307 ?_
      refine wm_bipush (v := 32) X (by decide) dX7_tries_310 ?_
      refine wm_iload X 6 rfl dX7_tries_312 ?_
      refine wm_imul X dX7_tries_314 ?_
      refine wm_iload_n X 3 rfl dX7_tries_315 ?_
      refine wm_iadd X dX7_tries_316 ?_
      refine wm_lald X 6 1 rfl rfl h.1 dX7_tries_317 ?_
      replace h := h.2
      refine wm_lload X 5 rfl dX7_tries_318 ?_
      refine wm_lmul X dX7_tries_320 ?_
      refine wm_goto (tgt := 325) X (by decide) dX7_tries_321 ?_
      refine wm_sub [1, 2, 3, 4, 5, 6, 7, 0] (lv' := [(0, .ref (ad 0)), (1, .int x1), (2, .int x2), (3, .int x3), (4, .long x4), (6, .int x6), (7, .int x7), (8, .int s0)]) rfl ?_
      exact w_X7_tries_325 hD X hr hK265 x1 x2 x3 x4 x6 x7 s0 x7 ((gB σ 0 (Int32.toNatClampNeg ((32 * x6) + x2))) * x4) σ h
set_option maxRecDepth 100000 in
set_option maxHeartbeats 4000000 in
theorem w_X7_tries_265 {p : Program} {l : Launch} {e : Env} {s : State} {m : MethodId} {args : Array Value} {below : List Frame} {meth : Method} {c : Code} {G : va_G} {tI tJ tZ : ClassId} {ad : Nat → Nat} (hD : ∀ σ, va_D (Ad 11 ad) (wdM tI tJ tZ ad σ)) (X : Cx p s m args meth c cX7_tries 9 RX7 wsX7_tries G (tyL tI tJ tZ) (wdM tI tJ tZ ad) (Ad 11 ad)) (hr : meth.sig.returnType = (some .boolean)) {post : Int32 → St → Prop}  : ∀ (n : Nat) (x1 : Int32) (x2 : Int32) (x3 : Int32) (x4 : Int64) (x6 : Int32) (x7 : Int32) (σ : St), lp_X7_tries_265 post n x1 x2 x3 x4 x6 x7 σ → wm p l e rm_X7_tries s m args below meth c G (wdM tI tJ tZ ad) (Ad 11 ad) 9 (MQ below (Qi G (wdM tI tJ tZ ad) (Ad 11 ad) post) args s 0 0 (Ad 11 ad)) σ [(0, .ref (ad 0)), (1, .int x1), (2, .int x2), (3, .int x3), (4, .long x4), (6, .int x6), (7, .int x7)] 265 [] := by
  intro n
  induction n with
  | zero => intro x1 x2 x3 x4 x6 x7 σ h; exact h.elim
  | succ n ih =>
    intro x1 x2 x3 x4 x6 x7 σ h
    unfold lp_X7_tries_265 at h
    refine wm_iload X 6 rfl dX7_tries_265 ?_
    refine wm_aload_n X 0 rfl dX7_tries_267 ?_
    refine wm_get X (by decide +kernel) 0 rfl rfl 0 (by decide) (by decide +kernel) rfl dX7_tries_268 ?_
    refine wm_icmp_ge (tgt := 369) X (by decide) dX7_tries_271 (fun c1 => ?_) (fun c1 => ?_)
    · replace h := h.1 c1
      refine wm_iload_n X 3 rfl dX7_tries_369 ?_
      exact wm_zret X hr h.1 h.2 dX7_tries_370
    · replace h := h.2 c1
      refine wm_iload_n X 1 rfl dX7_tries_274 ?_
      refine wm_iload X 6 rfl dX7_tries_275 ?_
      refine wm_ishr X dX7_tries_277 ?_
      refine wm_iconst (v := 1) X (by decide) dX7_tries_278 ?_
      refine wm_iand X dX7_tries_279 ?_
      refine wm_iconst (v := 1) X (by decide) dX7_tries_280 ?_
      refine wm_icmp_ne (tgt := 288) X (by decide) dX7_tries_281 (fun c2 => ?_) (fun c2 => ?_)
      · replace h := h.1 c2
        refine wm_iconst (v := 0) X (by decide) dX7_tries_288 ?_
        exact w_X7_tries_289 hD X hr ih x1 x2 x3 x4 x6 x7 0 σ h
      · replace h := h.2 c2
        refine wm_iconst (v := 1) X (by decide) dX7_tries_284 ?_
        refine wm_goto (tgt := 289) X (by decide) dX7_tries_285 ?_
        exact w_X7_tries_289 hD X hr ih x1 x2 x3 x4 x6 x7 1 σ h
set_option maxRecDepth 100000 in
set_option maxHeartbeats 4000000 in
theorem w_X7_tries_246 {p : Program} {l : Launch} {e : Env} {s : State} {m : MethodId} {args : Array Value} {below : List Frame} {meth : Method} {c : Code} {G : va_G} {tI tJ tZ : ClassId} {ad : Nat → Nat} (hD : ∀ σ, va_D (Ad 11 ad) (wdM tI tJ tZ ad σ)) (X : Cx p s m args meth c cX7_tries 9 RX7 wsX7_tries G (tyL tI tJ tZ) (wdM tI tJ tZ ad) (Ad 11 ad)) (hr : meth.sig.returnType = (some .boolean)) {post : Int32 → St → Prop}  (x1 : Int32) (x2 : Int32) (x3 : Int32) (s0 : Int64) (σ : St) (h : jn_X7_tries_246 post x1 x2 x3 s0 σ) : wm p l e rm_X7_tries s m args below meth c G (wdM tI tJ tZ ad) (Ad 11 ad) 9 (MQ below (Qi G (wdM tI tJ tZ ad) (Ad 11 ad) post) args s 0 0 (Ad 11 ad)) σ [(0, .ref (ad 0)), (1, .int x1), (2, .int x2), (3, .int x3)] 246 [.long s0] := by
  unfold jn_X7_tries_246 at h
  refine wm_lstore (lv' := [(4, .long s0), (0, .ref (ad 0)), (1, .int x1), (2, .int x2), (3, .int x3)]) X (by decide) rfl dX7_tries_246 ?_
  refine wm_aload_n X 1 rfl dX7_tries_248 ?_
  refine wm_aload_n X 1 rfl dX7_tries_249 ?_
  refine wm_get X (by decide +kernel) 0 rfl rfl 10 (by decide) (by decide +kernel) rfl dX7_tries_250 ?_
  refine wm_lload X 0 rfl dX7_tries_253 ?_
  refine wm_lmul X dX7_tries_255 ?_
  refine wm_put (σ' := sL σ 1 ((gL σ 0) * s0)) X (by decide +kernel) tyX7 tyX7_ok nmX7 0 rfl rfl 13 (by decide) (by decide +kernel) rfl (tyX7_ok 13 (by decide)) rfl rfl (Nat.le_of_ble_eq_true rfl) rfl dX7_tries_256 ?_
  refine wm_nmS (fun σ1 e2 => ?_)
  replace h := h σ1 e2
  clear e2
  refine wm_iconst (v := 0) X (by decide) dX7_tries_259 ?_
  refine wm_istore (lv' := [(6, .int 0), (4, .long s0), (0, .ref (ad 0)), (1, .int x1), (2, .int x2), (3, .int x3)]) X (by decide) rfl dX7_tries_260 ?_
  refine wm_iconst (v := 0) X (by decide) dX7_tries_262 ?_
  refine wm_istore (lv' := [(7, .int 0), (6, .int 0), (4, .long s0), (0, .ref (ad 0)), (1, .int x1), (2, .int x2), (3, .int x3)]) X (by decide) rfl dX7_tries_263 ?_
  refine wm_sub [3, 4, 5, 6, 2, 1, 0] (lv' := [(0, .ref (ad 0)), (1, .int x1), (2, .int x2), (3, .int x3), (4, .long s0), (6, .int 0), (7, .int 0)]) rfl ?_
  obtain ⟨n0, h⟩ := h
  exact w_X7_tries_265 hD X hr n0 x1 x2 x3 s0 0 0 σ1 h
set_option maxRecDepth 100000 in
set_option maxHeartbeats 4000000 in
theorem w_X7_tries_230 {p : Program} {l : Launch} {e : Env} {s : State} {m : MethodId} {args : Array Value} {below : List Frame} {meth : Method} {c : Code} {G : va_G} {tI tJ tZ : ClassId} {ad : Nat → Nat} (hD : ∀ σ, va_D (Ad 11 ad) (wdM tI tJ tZ ad σ)) (X : Cx p s m args meth c cX7_tries 9 RX7 wsX7_tries G (tyL tI tJ tZ) (wdM tI tJ tZ ad) (Ad 11 ad)) (hr : meth.sig.returnType = (some .boolean)) {post : Int32 → St → Prop}  (x1 : Int32) (x2 : Int32) (x3 : Int32) (σ : St) (h : jn_X7_tries_230 post x1 x2 x3 σ) : wm p l e rm_X7_tries s m args below meth c G (wdM tI tJ tZ ad) (Ad 11 ad) 9 (MQ below (Qi G (wdM tI tJ tZ ad) (Ad 11 ad) post) args s 0 0 (Ad 11 ad)) σ [(0, .ref (ad 0)), (1, .int x1), (2, .int x2), (3, .int x3)] 230 [] := by
  unfold jn_X7_tries_230 at h
  refine wm_aload_n X 0 rfl dX7_tries_230 ?_
  refine wm_get X (by decide +kernel) 0 rfl rfl 10 (by decide) (by decide +kernel) rfl dX7_tries_231 ?_
  refine wm_lconst (v := 0) X (by decide) dX7_tries_234 ?_
  refine wm_lcmp X dX7_tries_235 ?_
  refine wm_if_ge (tgt := 245) X (by decide) dX7_tries_236 (fun c1 => ?_) (fun c1 => ?_)
  · replace h := h.1 ((lc_ge _ _).mp c1)
    refine wm_lconst (v := 1) X (by decide) dX7_tries_245 ?_
    exact w_X7_tries_246 hD X hr x1 x2 x3 1 σ h
  · replace h := h.2 ((lc_nge _ _).mp c1)
    refine wm_ldc2 (v := (-1)) X (by decide +kernel) dX7_tries_239 ?_
    refine wm_goto (tgt := 246) X (by decide) dX7_tries_242 ?_
    exact w_X7_tries_246 hD X hr x1 x2 x3 (-1) σ h
set_option maxRecDepth 100000 in
set_option maxHeartbeats 4000000 in
theorem w_X7_tries_188 {p : Program} {l : Launch} {e : Env} {s : State} {m : MethodId} {args : Array Value} {below : List Frame} {meth : Method} {c : Code} {G : va_G} {tI tJ tZ : ClassId} {ad : Nat → Nat} (hD : ∀ σ, va_D (Ad 11 ad) (wdM tI tJ tZ ad σ)) (X : Cx p s m args meth c cX7_tries 9 RX7 wsX7_tries G (tyL tI tJ tZ) (wdM tI tJ tZ ad) (Ad 11 ad)) (hr : meth.sig.returnType = (some .boolean)) {post : Int32 → St → Prop}  : ∀ (n : Nat) (x1 : Int32) (x2 : Int32) (x3 : Int32) (x4 : Int32) (σ : St), lp_X7_tries_188 post n x1 x2 x3 x4 σ → wm p l e rm_X7_tries s m args below meth c G (wdM tI tJ tZ ad) (Ad 11 ad) 9 (MQ below (Qi G (wdM tI tJ tZ ad) (Ad 11 ad) post) args s 0 0 (Ad 11 ad)) σ [(0, .ref (ad 0)), (1, .int x1), (2, .int x2), (3, .int x3), (4, .int x4)] 188 [] := by
  intro n
  induction n with
  | zero => intro x1 x2 x3 x4 σ h; exact h.elim
  | succ n ih =>
    intro x1 x2 x3 x4 σ h
    unfold lp_X7_tries_188 at h
    refine wm_iload X 4 rfl dX7_tries_188 ?_
    refine wm_aload_n X 0 rfl dX7_tries_190 ?_
    refine wm_get X (by decide +kernel) 0 rfl rfl 9 (by decide) (by decide +kernel) rfl dX7_tries_191 ?_
    refine wm_icmp_ge (tgt := 230) X (by decide) dX7_tries_194 (fun c1 => ?_) (fun c1 => ?_)
    · replace h := h.1 c1
      refine wm_sub [0, 1, 2, 3] (lv' := [(0, .ref (ad 0)), (1, .int x1), (2, .int x2), (3, .int x3)]) rfl ?_
      exact w_X7_tries_230 hD X hr x1 x2 x3 σ h
    · replace h := h.2 c1
      refine wm_iload_n X 3 rfl dX7_tries_197 ?_
      refine wm_if_eq (tgt := 222) X (by decide) dX7_tries_198 (fun c2 => ?_) (fun c2 => ?_)
      · replace h := h.1 c2
        refine wm_iconst (v := 0) X (by decide) dX7_tries_222 ?_
        refine wm_istore_n (lv' := [(3, .int 0), (0, .ref (ad 0)), (1, .int x1), (2, .int x2), (4, .int x4)]) X rfl (by decide) rfl dX7_tries_223 ?_
        obtain ⟨v3, e4⟩ : ∃ y : Int32, y = x4 + 1 := ⟨_, rfl⟩
        replace h := h v3 e4
        refine wm_iinc (v := v3) (lv' := [(4, .int v3), (3, .int 0), (0, .ref (ad 0)), (1, .int x1), (2, .int x2)]) X 4 rfl (by rw [e4]; rfl) (by decide) rfl dX7_tries_224 ?_
        clear e4
        refine wm_goto (tgt := 188) X (by decide) dX7_tries_227 ?_
        refine wm_sub [2, 3, 4, 1, 0] (lv' := [(0, .ref (ad 0)), (1, .int x1), (2, .int x2), (3, .int 0), (4, .int v3)]) rfl ?_
        exact ih x1 x2 0 v3 σ h
      · replace h := h.2 c2
        refine wm_aload_n X 0 rfl dX7_tries_201 ?_
        refine wm_get X (by decide +kernel) 0 rfl rfl 8 (by decide) (by decide +kernel) rfl dX7_tries_202 ?_
        refine wm_bipush (v := 32) X (by decide) dX7_tries_205 ?_
        refine wm_iload X 4 rfl dX7_tries_207 ?_
        refine wm_imul X dX7_tries_209 ?_
        refine wm_iload_n X 2 rfl dX7_tries_210 ?_
        refine wm_iadd X dX7_tries_211 ?_
        refine wm_lald X 6 1 rfl rfl h.1 dX7_tries_212 ?_
        replace h := h.2
        refine wm_lconst (v := 0) X (by decide) dX7_tries_213 ?_
        refine wm_lcmp X dX7_tries_214 ?_
        refine wm_if_ne (tgt := 222) X (by decide) dX7_tries_215 (fun c5 => ?_) (fun c5 => ?_)
        · replace h := h.1 ((lc_ne _ _).mp c5)
          refine wm_iconst (v := 0) X (by decide) dX7_tries_222 ?_
          refine wm_istore_n (lv' := [(3, .int 0), (0, .ref (ad 0)), (1, .int x1), (2, .int x2), (4, .int x4)]) X rfl (by decide) rfl dX7_tries_223 ?_
          obtain ⟨v6, e7⟩ : ∃ y : Int32, y = x4 + 1 := ⟨_, rfl⟩
          replace h := h v6 e7
          refine wm_iinc (v := v6) (lv' := [(4, .int v6), (3, .int 0), (0, .ref (ad 0)), (1, .int x1), (2, .int x2)]) X 4 rfl (by rw [e7]; rfl) (by decide) rfl dX7_tries_224 ?_
          clear e7
          refine wm_goto (tgt := 188) X (by decide) dX7_tries_227 ?_
          refine wm_sub [2, 3, 4, 1, 0] (lv' := [(0, .ref (ad 0)), (1, .int x1), (2, .int x2), (3, .int 0), (4, .int v6)]) rfl ?_
          exact ih x1 x2 0 v6 σ h
        · replace h := h.2 ((lc_nne _ _).mp c5)
          refine wm_iconst (v := 1) X (by decide) dX7_tries_218 ?_
          refine wm_goto (tgt := 223) X (by decide) dX7_tries_219 ?_
          refine wm_istore_n (lv' := [(3, .int 1), (0, .ref (ad 0)), (1, .int x1), (2, .int x2), (4, .int x4)]) X rfl (by decide) rfl dX7_tries_223 ?_
          obtain ⟨v8, e9⟩ : ∃ y : Int32, y = x4 + 1 := ⟨_, rfl⟩
          replace h := h v8 e9
          refine wm_iinc (v := v8) (lv' := [(4, .int v8), (3, .int 1), (0, .ref (ad 0)), (1, .int x1), (2, .int x2)]) X 4 rfl (by rw [e9]; rfl) (by decide) rfl dX7_tries_224 ?_
          clear e9
          refine wm_goto (tgt := 188) X (by decide) dX7_tries_227 ?_
          refine wm_sub [2, 3, 4, 1, 0] (lv' := [(0, .ref (ad 0)), (1, .int x1), (2, .int x2), (3, .int 1), (4, .int v8)]) rfl ?_
          exact ih x1 x2 1 v8 σ h
set_option maxRecDepth 100000 in
set_option maxHeartbeats 4000000 in
theorem w_X7_tries_134 {p : Program} {l : Launch} {e : Env} {s : State} {m : MethodId} {args : Array Value} {below : List Frame} {meth : Method} {c : Code} {G : va_G} {tI tJ tZ : ClassId} {ad : Nat → Nat} (hD : ∀ σ, va_D (Ad 11 ad) (wdM tI tJ tZ ad σ)) (X : Cx p s m args meth c cX7_tries 9 RX7 wsX7_tries G (tyL tI tJ tZ) (wdM tI tJ tZ ad) (Ad 11 ad)) (hr : meth.sig.returnType = (some .boolean)) {post : Int32 → St → Prop}  : ∀ (n : Nat) (x1 : Int32) (x2 : Int32) (x3 : Int32) (σ : St), lp_X7_tries_134 post n x1 x2 x3 σ → wm p l e rm_X7_tries s m args below meth c G (wdM tI tJ tZ ad) (Ad 11 ad) 9 (MQ below (Qi G (wdM tI tJ tZ ad) (Ad 11 ad) post) args s 0 0 (Ad 11 ad)) σ [(0, .ref (ad 0)), (1, .int x1), (2, .int x2), (3, .int x3)] 134 [] := by
  intro n
  induction n with
  | zero => intro x1 x2 x3 σ h; exact h.elim
  | succ n ih =>
    intro x1 x2 x3 σ h
    unfold lp_X7_tries_134 at h
    refine wm_iload_n X 3 rfl dX7_tries_134 ?_
    refine wm_iload_n X 2 rfl dX7_tries_135 ?_
    refine wm_icmp_ge (tgt := 183) X (by decide) dX7_tries_136 (fun c1 => ?_) (fun c1 => ?_)
    · replace h := h.1 c1
      refine wm_iconst (v := 1) X (by decide) dX7_tries_183 ?_
      refine wm_istore_n (lv' := [(3, .int 1), (0, .ref (ad 0)), (1, .int x1), (2, .int x2)]) X rfl (by decide) rfl dX7_tries_184 ?_
      refine wm_iload_n X 3 rfl dX7_tries_185 ?_
      refine wm_istore (lv' := [(4, .int x2), (3, .int 1), (0, .ref (ad 0)), (1, .int x1), (2, .int x2)]) X (by decide) rfl dX7_tries_186 ?_
      refine wm_sub [2, 3, 4, 1, 0] (lv' := [(0, .ref (ad 0)), (1, .int x1), (2, .int x2), (3, .int 1), (4, .int x2)]) rfl ?_
      obtain ⟨n0, h⟩ := h
      exact w_X7_tries_188 hD X hr n0 x1 x2 1 x2 σ h
    · replace h := h.2 c1
      refine wm_aload_n X 0 rfl dX7_tries_139 ?_
      refine wm_iload_n X 3 rfl dX7_tries_140 ?_
      refine wm_iload_n X 3 rfl dX7_tries_141 ?_
      refine wm_callVi (n := 2) (As := [.int x3, .int x3]) (rest := []) X (c_X7_findRow l G tI tJ tZ ad hD x3 x3 σ _ h) gX7_tries_X7_findRow rfl ⟨rfl, rfl⟩ (by decide +kernel) ⟨Nat.le_of_ble_eq_true rfl, Nat.le_of_ble_eq_true rfl⟩ 0 rfl rfl rfl rfl rfl (Nat.le_of_ble_eq_true rfl) dX7_tries_142 (fun r2 σ3 h => ?_)
      refine wm_istore (lv' := [(4, .int r2), (0, .ref (ad 0)), (1, .int x1), (2, .int x2), (3, .int x3)]) X (by decide) rfl dX7_tries_145 ?_
      refine wm_iload X 0 rfl dX7_tries_147 ?_
      refine wm_aload_n X 1 rfl dX7_tries_149 ?_
      refine wm_get X (by decide +kernel) 0 rfl rfl 9 (by decide) (by decide +kernel) rfl dX7_tries_150 ?_
      refine wm_icmp_lt (tgt := 158) X (by decide) dX7_tries_153 (fun c4 => ?_) (fun c4 => ?_)
      · replace h := h.1 c4
        refine wm_aload_n X 1 rfl dX7_tries_158 ?_
        refine wm_iload X 0 rfl dX7_tries_159 ?_
        refine wm_iload_n X 4 rfl dX7_tries_161 ?_
        refine wm_iload_n X 3 rfl dX7_tries_162 ?_
        refine wm_iconst (v := 1) X (by decide) dX7_tries_163 ?_
        refine wm_iadd X dX7_tries_164 ?_
        refine wm_callVv (n := 3) (As := [.int r2, .int x3, .int (x2 + 1)]) (rest := []) X (c_X7_swap l G tI tJ tZ ad hD r2 x3 (x2 + 1) σ3 _ h) gX7_tries_X7_swap rfl ⟨rfl, rfl⟩ (by decide +kernel) ⟨Nat.le_of_ble_eq_true rfl, Nat.le_of_ble_eq_true rfl⟩ 0 rfl rfl rfl rfl rfl (Nat.le_of_ble_eq_true rfl) dX7_tries_165 (fun σ6 h => ?_)
        refine wm_aload_n X 1 rfl dX7_tries_168 ?_
        refine wm_iload_n X 4 rfl dX7_tries_169 ?_
        refine wm_iload_n X 4 rfl dX7_tries_170 ?_
        refine wm_iload_n X 3 rfl dX7_tries_171 ?_
        refine wm_iconst (v := 1) X (by decide) dX7_tries_172 ?_
        refine wm_iadd X dX7_tries_173 ?_
        refine wm_callVv (n := 3) (As := [.int x3, .int x3, .int (x2 + 1)]) (rest := []) X (c_X7_pivot l G tI tJ tZ ad hD x3 x3 (x2 + 1) σ6 _ h) gX7_tries_X7_pivot rfl ⟨rfl, rfl⟩ (by decide +kernel) ⟨Nat.le_of_ble_eq_true rfl, Nat.le_of_ble_eq_true rfl⟩ 0 rfl rfl rfl rfl rfl (Nat.le_of_ble_eq_true rfl) dX7_tries_174 (fun σ8 h => ?_)
        obtain ⟨v9, e10⟩ : ∃ y : Int32, y = x3 + 1 := ⟨_, rfl⟩
        replace h := h v9 e10
        refine wm_iinc (v := v9) (lv' := [(3, .int v9), (4, .int r2), (0, .ref (ad 0)), (1, .int x1), (2, .int x2)]) X 4 rfl (by rw [e10]; rfl) (by decide) rfl dX7_tries_177 ?_
        clear e10
        refine wm_goto (tgt := 134) X (by decide) dX7_tries_180 ?_
        refine wm_sub [2, 3, 4, 0] (lv' := [(0, .ref (ad 0)), (1, .int x1), (2, .int x2), (3, .int v9)]) rfl ?_
        exact ih x1 x2 v9 σ8 h
      · replace h := h.2 c4
        refine wm_iconst (v := 0) X (by decide) dX7_tries_156 ?_
        exact wm_zret X hr bz_0 h dX7_tries_157
set_option maxRecDepth 100000 in
set_option maxHeartbeats 4000000 in
theorem w_X7_tries_9 {p : Program} {l : Launch} {e : Env} {s : State} {m : MethodId} {args : Array Value} {below : List Frame} {meth : Method} {c : Code} {G : va_G} {tI tJ tZ : ClassId} {ad : Nat → Nat} (hD : ∀ σ, va_D (Ad 11 ad) (wdM tI tJ tZ ad σ)) (X : Cx p s m args meth c cX7_tries 9 RX7 wsX7_tries G (tyL tI tJ tZ) (wdM tI tJ tZ ad) (Ad 11 ad)) (hr : meth.sig.returnType = (some .boolean)) {post : Int32 → St → Prop}  : ∀ (n : Nat) (x1 : Int32) (x3 : Int32) (σ : St), lp_X7_tries_9 post n x1 x3 σ → wm p l e rm_X7_tries s m args below meth c G (wdM tI tJ tZ ad) (Ad 11 ad) 9 (MQ below (Qi G (wdM tI tJ tZ ad) (Ad 11 ad) post) args s 0 0 (Ad 11 ad)) σ [(0, .ref (ad 0)), (1, .int x1), (3, .int x3)] 9 [] := by
  intro n
  induction n with
  | zero => intro x1 x3 σ h; exact h.elim
  | succ n ih =>
    intro x1 x3 σ h
    unfold lp_X7_tries_9 at h
    refine wm_iload_n X 2 rfl dX7_tries_9 ?_
    refine wm_aload_n X 0 rfl dX7_tries_10 ?_
    refine wm_get X (by decide +kernel) 0 rfl rfl 5 (by decide) (by decide +kernel) rfl dX7_tries_11 ?_
    refine wm_icmp_ge (tgt := 122) X (by decide) dX7_tries_14 (fun c1 => ?_) (fun c1 => ?_)
    · replace h := h.1 c1
      refine wm_iload_n X 1 rfl dX7_tries_122 ?_
      refine wm_callSi (n := 1) (As := [.int x1]) (rest := []) X (c_X7_bits l G tI tJ tZ ad hD x1 σ _ h) gX7_tries_X7_bits rfl ⟨rfl, rfl⟩ (by decide +kernel) ⟨Nat.le_of_ble_eq_true rfl, Nat.le_of_ble_eq_true rfl⟩ rfl rfl (Nat.le_of_ble_eq_true rfl) dX7_tries_123 (fun r2 σ3 h => ?_)
      refine wm_istore_n (lv' := [(2, .int r2), (0, .ref (ad 0)), (1, .int x1), (3, .int x3)]) X rfl (by decide) rfl dX7_tries_126 ?_
      refine wm_aload_n X 1 rfl dX7_tries_127 ?_
      refine wm_lconst (v := 1) X (by decide) dX7_tries_128 ?_
      refine wm_put (σ' := sL σ3 0 1) X (by decide +kernel) tyX7 tyX7_ok nmX7 0 rfl rfl 10 (by decide) (by decide +kernel) rfl (tyX7_ok 10 (by decide)) rfl rfl (Nat.le_of_ble_eq_true rfl) rfl dX7_tries_129 ?_
      refine wm_nmS (fun σ4 e5 => ?_)
      replace h := h σ4 e5
      clear e5
      refine wm_iconst (v := 0) X (by decide) dX7_tries_132 ?_
      refine wm_istore_n (lv' := [(3, .int 0), (2, .int r2), (0, .ref (ad 0)), (1, .int x1)]) X rfl (by decide) rfl dX7_tries_133 ?_
      refine wm_sub [2, 3, 1, 0] (lv' := [(0, .ref (ad 0)), (1, .int x1), (2, .int r2), (3, .int 0)]) rfl ?_
      obtain ⟨n0, h⟩ := h
      exact w_X7_tries_134 hD X hr n0 x1 r2 0 σ4 h
    · replace h := h.2 c1
      refine wm_aload_n X 0 rfl dX7_tries_17 ?_
      refine wm_get X (by decide +kernel) 0 rfl rfl 3 (by decide) (by decide +kernel) rfl dX7_tries_18 ?_
      refine wm_iload_n X 2 rfl dX7_tries_21 ?_
      refine wm_zald X 3 2 rfl rfl h.1 dX7_tries_22 ?_
      replace h := h.2
      refine wm_if_eq (tgt := 116) X (by decide) dX7_tries_23 (fun c6 => ?_) (fun c6 => ?_)
      · replace h := h.1 c6
        obtain ⟨v7, e8⟩ : ∃ y : Int32, y = x3 + 1 := ⟨_, rfl⟩
        replace h := h v7 e8
        refine wm_iinc (v := v7) (lv' := [(3, .int v7), (0, .ref (ad 0)), (1, .int x1)]) X 2 rfl (by rw [e8]; rfl) (by decide) rfl dX7_tries_116 ?_
        clear e8
        refine wm_goto (tgt := 9) X (by decide) dX7_tries_119 ?_
        refine wm_sub [1, 2, 0] (lv' := [(0, .ref (ad 0)), (1, .int x1), (3, .int v7)]) rfl ?_
        exact ih x1 v7 σ h
      · replace h := h.2 c6
        refine wm_iconst (v := 0) X (by decide) dX7_tries_26 ?_
        refine wm_istore_n (lv' := [(2, .int 0), (0, .ref (ad 0)), (1, .int x1), (3, .int x3)]) X rfl (by decide) rfl dX7_tries_27 ?_
        refine wm_iconst (v := 0) X (by decide) dX7_tries_28 ?_
        refine wm_istore (lv' := [(4, .int 0), (2, .int 0), (0, .ref (ad 0)), (1, .int x1), (3, .int x3)]) X (by decide) rfl dX7_tries_29 ?_
        refine wm_sub [2, 3, 1, 4, 0] (lv' := [(0, .ref (ad 0)), (1, .int x1), (2, .int 0), (3, .int x3), (4, .int 0)]) rfl ?_
        obtain ⟨n0, h⟩ := h
        exact w_X7_tries_31 hD X hr ih n0 x1 0 x3 0 σ h
set_option maxRecDepth 100000 in
set_option maxHeartbeats 4000000 in
theorem c_X7_tries (l : Launch) (G : va_G) (tI tJ tZ : ClassId) (ad : Nat → Nat) (hD : ∀ σ, va_D (Ad 11 ad) (wdM tI tJ tZ ad σ)) (x1 : Int32) (σ : St) (post : Int32 → St → Prop) (h : wp_X7_tries x1 σ post) : Ct l yX7_tries wsX7_tries rm_X7_tries G (tyL tI tJ tZ) (wdM tI tJ tZ ad) (Ad 11 ad) [.ref (ad 0), .int x1] σ (Qi G (wdM tI tJ tZ ad) (Ad 11 ad) post) := by
  refine wm_entry (cc := cX7_tries) (maxL := 9) (ret := (some .boolean)) (own := RX7) (lv := [(0, .ref (ad 0)), (1, .int x1)]) (by decide +kernel) rfl rfl (Nat.le_of_ble_eq_true rfl) rfl hD ?_
  intro p e s m below meth c X hr
  unfold wp_X7_tries at h
  refine wm_iconst (v := 0) X (by decide) dX7_tries_0 ?_
  refine wm_istore_n (lv' := [(2, .int 0), (0, .ref (ad 0)), (1, .int x1)]) X rfl (by decide) rfl dX7_tries_1 ?_
  refine wm_aload_n X 1 rfl dX7_tries_2 ?_
  refine wm_iconst (v := 0) X (by decide) dX7_tries_3 ?_
  refine wm_put (σ' := sI σ 3 0) X (by decide +kernel) tyX7 tyX7_ok nmX7 0 rfl rfl 9 (by decide) (by decide +kernel) rfl (tyX7_ok 9 (by decide)) rfl rfl (Nat.le_of_ble_eq_true rfl) rfl dX7_tries_4 ?_
  refine wm_nmS (fun σ1 e2 => ?_)
  replace h := h σ1 e2
  clear e2
  refine wm_iconst (v := 0) X (by decide) dX7_tries_7 ?_
  refine wm_istore_n (lv' := [(3, .int 0), (2, .int 0), (0, .ref (ad 0)), (1, .int x1)]) X rfl (by decide) rfl dX7_tries_8 ?_
  refine wm_sub [2, 3, 0] (lv' := [(0, .ref (ad 0)), (1, .int x1), (3, .int 0)]) rfl ?_
  obtain ⟨n0, h⟩ := h
  exact w_X7_tries_9 hD X hr n0 x1 0 σ1 h
/-! X7_of_8 -/
abbrev rm_X7_of_8 : Room := { frames := 0, cells := 0, slots := 0, locals := 0 }
def lp_X7_of_8_5 (post : Int64 → St → Prop)  : Nat → Int32 → Int64 → Int32 → St → Prop
  | 0, _, _, _, _ => False
  | n + 1, x1, x2, x4, σ =>
  (10 ≤ x4 → post x2 σ) ∧ (¬ 10 ≤ x4 → (¬ ((x1 >>> (x4 &&& 31)) &&& 1) = 1 → ∀ v3 : Int64, v3 = x2 + 0 → ∀ v5 : Int32, v5 = x4 + 1 → lp_X7_of_8_5 post n x1 v3 v5 σ) ∧ (((x1 >>> (x4 &&& 31)) &&& 1) = 1 → vp_in x4 10 ∧ (∀ v7 : Int64, v7 = x2 + (gB σ 1 (Int32.toNatClampNeg x4)) → ∀ v9 : Int32, v9 = x4 + 1 → lp_X7_of_8_5 post n x1 v7 v9 σ)))
def wp_X7_of_8 (x1 : Int32) (σ : St) (post : Int64 → St → Prop) : Prop :=
  ∃ fu : Nat, lp_X7_of_8_5 post fu x1 0 0 σ
set_option maxRecDepth 100000 in
set_option maxHeartbeats 4000000 in
theorem w_X7_of_8_5 {p : Program} {l : Launch} {e : Env} {s : State} {m : MethodId} {args : Array Value} {below : List Frame} {meth : Method} {c : Code} {G : va_G} {tI tJ tZ : ClassId} {ad : Nat → Nat} (hD : ∀ σ, va_D (Ad 11 ad) (wdM tI tJ tZ ad σ)) (X : Cx p s m args meth c cX7_of 5 RX7 wsX7_of G (tyL tI tJ tZ) (wdM tI tJ tZ ad) (Ad 11 ad)) (hr : meth.sig.returnType = (some .long)) {post : Int64 → St → Prop}  : ∀ (n : Nat) (x1 : Int32) (x2 : Int64) (x4 : Int32) (σ : St), lp_X7_of_8_5 post n x1 x2 x4 σ → wm p l e rm_X7_of_8 s m args below meth c G (wdM tI tJ tZ ad) (Ad 11 ad) 5 (MQ below (Ql G (wdM tI tJ tZ ad) (Ad 11 ad) post) args s 0 0 (Ad 11 ad)) σ [(0, .ref (ad 8)), (1, .int x1), (2, .long x2), (4, .int x4)] 5 [] := by
  intro n
  induction n with
  | zero => intro x1 x2 x4 σ h; exact h.elim
  | succ n ih =>
    intro x1 x2 x4 σ h
    unfold lp_X7_of_8_5 at h
    refine wm_iload X 3 rfl dX7_of_5 ?_
    refine wm_bipush (v := 10) X (by decide) dX7_of_7 ?_
    refine wm_icmp_ge (tgt := 39) X (by decide) dX7_of_9 (fun c1 => ?_) (fun c1 => ?_)
    · replace h := h.1 c1
      refine wm_lload_n X 2 rfl dX7_of_39 ?_
      exact wm_lret X hr h dX7_of_40
    · replace h := h.2 c1
      refine wm_lload_n X 2 rfl dX7_of_12 ?_
      refine wm_iload_n X 1 rfl dX7_of_13 ?_
      refine wm_iload X 3 rfl dX7_of_14 ?_
      refine wm_ishr X dX7_of_16 ?_
      refine wm_iconst (v := 1) X (by decide) dX7_of_17 ?_
      refine wm_iand X dX7_of_18 ?_
      refine wm_iconst (v := 1) X (by decide) dX7_of_19 ?_
      refine wm_icmp_ne (tgt := 30) X (by decide) dX7_of_20 (fun c2 => ?_) (fun c2 => ?_)
      · replace h := h.1 c2
        refine wm_lconst (v := 0) X (by decide) dX7_of_30 ?_
        refine wm_ladd X dX7_of_31 ?_
        refine wm_nmL (fun v3 e4 => ?_)
        replace h := h v3 e4
        clear e4
        refine wm_lstore_n (lv' := [(2, .long v3), (0, .ref (ad 8)), (1, .int x1), (4, .int x4)]) X rfl (by decide) rfl dX7_of_32 ?_
        obtain ⟨v5, e6⟩ : ∃ y : Int32, y = x4 + 1 := ⟨_, rfl⟩
        replace h := h v5 e6
        refine wm_iinc (v := v5) (lv' := [(4, .int v5), (2, .long v3), (0, .ref (ad 8)), (1, .int x1)]) X 3 rfl (by rw [e6]; rfl) (by decide) rfl dX7_of_33 ?_
        clear e6
        refine wm_goto (tgt := 5) X (by decide) dX7_of_36 ?_
        refine wm_sub [2, 3, 1, 0] (lv' := [(0, .ref (ad 8)), (1, .int x1), (2, .long v3), (4, .int v5)]) rfl ?_
        exact ih x1 v3 v5 σ h
      · replace h := h.2 c2
        refine wm_aload_n X 0 rfl dX7_of_23 ?_
        refine wm_iload X 3 rfl dX7_of_24 ?_
        refine wm_lald X 8 1 rfl rfl h.1 dX7_of_26 ?_
        replace h := h.2
        refine wm_goto (tgt := 31) X (by decide) dX7_of_27 ?_
        refine wm_ladd X dX7_of_31 ?_
        refine wm_nmL (fun v7 e8 => ?_)
        replace h := h v7 e8
        clear e8
        refine wm_lstore_n (lv' := [(2, .long v7), (0, .ref (ad 8)), (1, .int x1), (4, .int x4)]) X rfl (by decide) rfl dX7_of_32 ?_
        obtain ⟨v9, e10⟩ : ∃ y : Int32, y = x4 + 1 := ⟨_, rfl⟩
        replace h := h v9 e10
        refine wm_iinc (v := v9) (lv' := [(4, .int v9), (2, .long v7), (0, .ref (ad 8)), (1, .int x1)]) X 3 rfl (by rw [e10]; rfl) (by decide) rfl dX7_of_33 ?_
        clear e10
        refine wm_goto (tgt := 5) X (by decide) dX7_of_36 ?_
        refine wm_sub [2, 3, 1, 0] (lv' := [(0, .ref (ad 8)), (1, .int x1), (2, .long v7), (4, .int v9)]) rfl ?_
        exact ih x1 v7 v9 σ h
set_option maxRecDepth 100000 in
set_option maxHeartbeats 4000000 in
theorem c_X7_of_8 (l : Launch) (G : va_G) (tI tJ tZ : ClassId) (ad : Nat → Nat) (hD : ∀ σ, va_D (Ad 11 ad) (wdM tI tJ tZ ad σ)) (x1 : Int32) (σ : St) (post : Int64 → St → Prop) (h : wp_X7_of_8 x1 σ post) : Ct l yX7_of wsX7_of rm_X7_of_8 G (tyL tI tJ tZ) (wdM tI tJ tZ ad) (Ad 11 ad) [.ref (ad 8), .int x1] σ (Ql G (wdM tI tJ tZ ad) (Ad 11 ad) post) := by
  refine wm_entry (cc := cX7_of) (maxL := 5) (ret := (some .long)) (own := RX7) (lv := [(0, .ref (ad 8)), (1, .int x1)]) (by decide +kernel) rfl rfl (Nat.le_of_ble_eq_true rfl) rfl hD ?_
  intro p e s m below meth c X hr
  unfold wp_X7_of_8 at h
  refine wm_lconst (v := 0) X (by decide) dX7_of_0 ?_
  refine wm_lstore_n (lv' := [(2, .long 0), (0, .ref (ad 8)), (1, .int x1)]) X rfl (by decide) rfl dX7_of_1 ?_
  refine wm_iconst (v := 0) X (by decide) dX7_of_2 ?_
  refine wm_istore (lv' := [(4, .int 0), (2, .long 0), (0, .ref (ad 8)), (1, .int x1)]) X (by decide) rfl dX7_of_3 ?_
  refine wm_sub [2, 3, 1, 0] (lv' := [(0, .ref (ad 8)), (1, .int x1), (2, .long 0), (4, .int 0)]) rfl ?_
  obtain ⟨n0, h⟩ := h
  exact w_X7_of_8_5 hD X hr n0 x1 0 0 σ h
/-! X7_of_9 -/
abbrev rm_X7_of_9 : Room := { frames := 0, cells := 0, slots := 0, locals := 0 }
def lp_X7_of_9_5 (post : Int64 → St → Prop)  : Nat → Int32 → Int64 → Int32 → St → Prop
  | 0, _, _, _, _ => False
  | n + 1, x1, x2, x4, σ =>
  (10 ≤ x4 → post x2 σ) ∧ (¬ 10 ≤ x4 → (¬ ((x1 >>> (x4 &&& 31)) &&& 1) = 1 → ∀ v3 : Int64, v3 = x2 + 0 → ∀ v5 : Int32, v5 = x4 + 1 → lp_X7_of_9_5 post n x1 v3 v5 σ) ∧ (((x1 >>> (x4 &&& 31)) &&& 1) = 1 → vp_in x4 10 ∧ (∀ v7 : Int64, v7 = x2 + (gB σ 2 (Int32.toNatClampNeg x4)) → ∀ v9 : Int32, v9 = x4 + 1 → lp_X7_of_9_5 post n x1 v7 v9 σ)))
def wp_X7_of_9 (x1 : Int32) (σ : St) (post : Int64 → St → Prop) : Prop :=
  ∃ fu : Nat, lp_X7_of_9_5 post fu x1 0 0 σ
set_option maxRecDepth 100000 in
set_option maxHeartbeats 4000000 in
theorem w_X7_of_9_5 {p : Program} {l : Launch} {e : Env} {s : State} {m : MethodId} {args : Array Value} {below : List Frame} {meth : Method} {c : Code} {G : va_G} {tI tJ tZ : ClassId} {ad : Nat → Nat} (hD : ∀ σ, va_D (Ad 11 ad) (wdM tI tJ tZ ad σ)) (X : Cx p s m args meth c cX7_of 5 RX7 wsX7_of G (tyL tI tJ tZ) (wdM tI tJ tZ ad) (Ad 11 ad)) (hr : meth.sig.returnType = (some .long)) {post : Int64 → St → Prop}  : ∀ (n : Nat) (x1 : Int32) (x2 : Int64) (x4 : Int32) (σ : St), lp_X7_of_9_5 post n x1 x2 x4 σ → wm p l e rm_X7_of_9 s m args below meth c G (wdM tI tJ tZ ad) (Ad 11 ad) 5 (MQ below (Ql G (wdM tI tJ tZ ad) (Ad 11 ad) post) args s 0 0 (Ad 11 ad)) σ [(0, .ref (ad 9)), (1, .int x1), (2, .long x2), (4, .int x4)] 5 [] := by
  intro n
  induction n with
  | zero => intro x1 x2 x4 σ h; exact h.elim
  | succ n ih =>
    intro x1 x2 x4 σ h
    unfold lp_X7_of_9_5 at h
    refine wm_iload X 3 rfl dX7_of_5 ?_
    refine wm_bipush (v := 10) X (by decide) dX7_of_7 ?_
    refine wm_icmp_ge (tgt := 39) X (by decide) dX7_of_9 (fun c1 => ?_) (fun c1 => ?_)
    · replace h := h.1 c1
      refine wm_lload_n X 2 rfl dX7_of_39 ?_
      exact wm_lret X hr h dX7_of_40
    · replace h := h.2 c1
      refine wm_lload_n X 2 rfl dX7_of_12 ?_
      refine wm_iload_n X 1 rfl dX7_of_13 ?_
      refine wm_iload X 3 rfl dX7_of_14 ?_
      refine wm_ishr X dX7_of_16 ?_
      refine wm_iconst (v := 1) X (by decide) dX7_of_17 ?_
      refine wm_iand X dX7_of_18 ?_
      refine wm_iconst (v := 1) X (by decide) dX7_of_19 ?_
      refine wm_icmp_ne (tgt := 30) X (by decide) dX7_of_20 (fun c2 => ?_) (fun c2 => ?_)
      · replace h := h.1 c2
        refine wm_lconst (v := 0) X (by decide) dX7_of_30 ?_
        refine wm_ladd X dX7_of_31 ?_
        refine wm_nmL (fun v3 e4 => ?_)
        replace h := h v3 e4
        clear e4
        refine wm_lstore_n (lv' := [(2, .long v3), (0, .ref (ad 9)), (1, .int x1), (4, .int x4)]) X rfl (by decide) rfl dX7_of_32 ?_
        obtain ⟨v5, e6⟩ : ∃ y : Int32, y = x4 + 1 := ⟨_, rfl⟩
        replace h := h v5 e6
        refine wm_iinc (v := v5) (lv' := [(4, .int v5), (2, .long v3), (0, .ref (ad 9)), (1, .int x1)]) X 3 rfl (by rw [e6]; rfl) (by decide) rfl dX7_of_33 ?_
        clear e6
        refine wm_goto (tgt := 5) X (by decide) dX7_of_36 ?_
        refine wm_sub [2, 3, 1, 0] (lv' := [(0, .ref (ad 9)), (1, .int x1), (2, .long v3), (4, .int v5)]) rfl ?_
        exact ih x1 v3 v5 σ h
      · replace h := h.2 c2
        refine wm_aload_n X 0 rfl dX7_of_23 ?_
        refine wm_iload X 3 rfl dX7_of_24 ?_
        refine wm_lald X 9 1 rfl rfl h.1 dX7_of_26 ?_
        replace h := h.2
        refine wm_goto (tgt := 31) X (by decide) dX7_of_27 ?_
        refine wm_ladd X dX7_of_31 ?_
        refine wm_nmL (fun v7 e8 => ?_)
        replace h := h v7 e8
        clear e8
        refine wm_lstore_n (lv' := [(2, .long v7), (0, .ref (ad 9)), (1, .int x1), (4, .int x4)]) X rfl (by decide) rfl dX7_of_32 ?_
        obtain ⟨v9, e10⟩ : ∃ y : Int32, y = x4 + 1 := ⟨_, rfl⟩
        replace h := h v9 e10
        refine wm_iinc (v := v9) (lv' := [(4, .int v9), (2, .long v7), (0, .ref (ad 9)), (1, .int x1)]) X 3 rfl (by rw [e10]; rfl) (by decide) rfl dX7_of_33 ?_
        clear e10
        refine wm_goto (tgt := 5) X (by decide) dX7_of_36 ?_
        refine wm_sub [2, 3, 1, 0] (lv' := [(0, .ref (ad 9)), (1, .int x1), (2, .long v7), (4, .int v9)]) rfl ?_
        exact ih x1 v7 v9 σ h
set_option maxRecDepth 100000 in
set_option maxHeartbeats 4000000 in
theorem c_X7_of_9 (l : Launch) (G : va_G) (tI tJ tZ : ClassId) (ad : Nat → Nat) (hD : ∀ σ, va_D (Ad 11 ad) (wdM tI tJ tZ ad σ)) (x1 : Int32) (σ : St) (post : Int64 → St → Prop) (h : wp_X7_of_9 x1 σ post) : Ct l yX7_of wsX7_of rm_X7_of_9 G (tyL tI tJ tZ) (wdM tI tJ tZ ad) (Ad 11 ad) [.ref (ad 9), .int x1] σ (Ql G (wdM tI tJ tZ ad) (Ad 11 ad) post) := by
  refine wm_entry (cc := cX7_of) (maxL := 5) (ret := (some .long)) (own := RX7) (lv := [(0, .ref (ad 9)), (1, .int x1)]) (by decide +kernel) rfl rfl (Nat.le_of_ble_eq_true rfl) rfl hD ?_
  intro p e s m below meth c X hr
  unfold wp_X7_of_9 at h
  refine wm_lconst (v := 0) X (by decide) dX7_of_0 ?_
  refine wm_lstore_n (lv' := [(2, .long 0), (0, .ref (ad 9)), (1, .int x1)]) X rfl (by decide) rfl dX7_of_1 ?_
  refine wm_iconst (v := 0) X (by decide) dX7_of_2 ?_
  refine wm_istore (lv' := [(4, .int 0), (2, .long 0), (0, .ref (ad 9)), (1, .int x1)]) X (by decide) rfl dX7_of_3 ?_
  refine wm_sub [2, 3, 1, 0] (lv' := [(0, .ref (ad 9)), (1, .int x1), (2, .long 0), (4, .int 0)]) rfl ?_
  obtain ⟨n0, h⟩ := h
  exact w_X7_of_9_5 hD X hr n0 x1 0 0 σ h
/-! X7_betters -/
abbrev rm_X7_betters : Room := { frames := 1, cells := 0, slots := 0, locals := 24 }
def jn_X7_betters_116 (post : Int32 → St → Prop)  (x8 : Int64) (x10 : Int64) (σ : St) : Prop :=
  (x10 ≤ x8 → post 0 σ) ∧ (¬ x10 ≤ x8 → post 1 σ)
def lp_X7_betters_71 (post : Int32 → St → Prop)  : Nat → Int32 → St → Prop
  | 0, _, _ => False
  | n + 1, x7, σ =>
  ((gI σ 0) ≤ x7 → post 0 σ) ∧ (¬ (gI σ 0) ≤ x7 → vp_in x7 10 ∧ (∀ v2 : Int64, v2 = (gB σ 1 (Int32.toNatClampNeg x7)) * (gL σ 2) → vp_in x7 10 ∧ (∀ v4 : Int64, v4 = (gB σ 2 (Int32.toNatClampNeg x7)) * (gL σ 1) → (v2 = v4 → ∀ v7 : Int32, v7 = x7 + 1 → lp_X7_betters_71 post n v7 σ) ∧ (¬ v2 = v4 → jn_X7_betters_116 post v2 v4 σ))))
def wp_X7_betters (x1 : Int32) (x2 : Int32) (σ : St) (post : Int32 → St → Prop) : Prop :=
  wp_X7_of_8 x1 σ (fun r1 σ2 => ∀ v3 : Int64, v3 = r1 * (gL σ2 2) → wp_X7_of_9 x1 σ2 (fun r5 σ6 => ∀ v7 : Int64, v7 = r5 * (gL σ6 1) → (v3 = v7 → ∃ fu : Nat, lp_X7_betters_71 post fu 0 σ6) ∧ (¬ v3 = v7 → (¬ x2 = 0 → (v3 ≤ v7 → post 0 σ6) ∧ (¬ v3 ≤ v7 → post 1 σ6)) ∧ (x2 = 0 → (v7 ≤ v3 → post 0 σ6) ∧ (¬ v7 ≤ v3 → post 1 σ6)))))
set_option maxRecDepth 100000 in
set_option maxHeartbeats 4000000 in
theorem w_X7_betters_116 {p : Program} {l : Launch} {e : Env} {s : State} {m : MethodId} {args : Array Value} {below : List Frame} {meth : Method} {c : Code} {G : va_G} {tI tJ tZ : ClassId} {ad : Nat → Nat} (hD : ∀ σ, va_D (Ad 11 ad) (wdM tI tJ tZ ad σ)) (X : Cx p s m args meth c cX7_betters 12 RX7 wsX7_betters G (tyL tI tJ tZ) (wdM tI tJ tZ ad) (Ad 11 ad)) (hr : meth.sig.returnType = (some .boolean)) {post : Int32 → St → Prop}  (x8 : Int64) (x10 : Int64) (σ : St) (h : jn_X7_betters_116 post x8 x10 σ) : wm p l e rm_X7_betters s m args below meth c G (wdM tI tJ tZ ad) (Ad 11 ad) 12 (MQ below (Qi G (wdM tI tJ tZ ad) (Ad 11 ad) post) args s 0 0 (Ad 11 ad)) σ [(8, .long x8), (10, .long x10)] 116 [] := by
  unfold jn_X7_betters_116 at h
  refine wm_lload X 0 rfl dX7_betters_116 ?_
  refine wm_lload X 1 rfl dX7_betters_118 ?_
  refine wm_lcmp X dX7_betters_120 ?_
  refine wm_if_ge (tgt := 128) X (by decide) dX7_betters_121 (fun c1 => ?_) (fun c1 => ?_)
  · replace h := h.1 ((lc_ge _ _).mp c1)
    refine wm_iconst (v := 0) X (by decide) dX7_betters_128 ?_
    exact wm_zret X hr bz_0 h dX7_betters_129
  · replace h := h.2 ((lc_nge _ _).mp c1)
    refine wm_iconst (v := 1) X (by decide) dX7_betters_124 ?_
    refine wm_goto (tgt := 129) X (by decide) dX7_betters_125 ?_
    exact wm_zret X hr bz_1 h dX7_betters_129
set_option maxRecDepth 100000 in
set_option maxHeartbeats 4000000 in
theorem w_X7_betters_71 {p : Program} {l : Launch} {e : Env} {s : State} {m : MethodId} {args : Array Value} {below : List Frame} {meth : Method} {c : Code} {G : va_G} {tI tJ tZ : ClassId} {ad : Nat → Nat} (hD : ∀ σ, va_D (Ad 11 ad) (wdM tI tJ tZ ad σ)) (X : Cx p s m args meth c cX7_betters 12 RX7 wsX7_betters G (tyL tI tJ tZ) (wdM tI tJ tZ ad) (Ad 11 ad)) (hr : meth.sig.returnType = (some .boolean)) {post : Int32 → St → Prop}  : ∀ (n : Nat) (x7 : Int32) (σ : St), lp_X7_betters_71 post n x7 σ → wm p l e rm_X7_betters s m args below meth c G (wdM tI tJ tZ ad) (Ad 11 ad) 12 (MQ below (Qi G (wdM tI tJ tZ ad) (Ad 11 ad) post) args s 0 0 (Ad 11 ad)) σ [(0, .ref (ad 0)), (7, .int x7)] 71 [] := by
  intro n
  induction n with
  | zero => intro x7 σ h; exact h.elim
  | succ n ih =>
    intro x7 σ h
    unfold lp_X7_betters_71 at h
    refine wm_iload X 1 rfl dX7_betters_71 ?_
    refine wm_aload_n X 0 rfl dX7_betters_73 ?_
    refine wm_get X (by decide +kernel) 0 rfl rfl 0 (by decide) (by decide +kernel) rfl dX7_betters_74 ?_
    refine wm_icmp_ge (tgt := 136) X (by decide) dX7_betters_77 (fun c1 => ?_) (fun c1 => ?_)
    · replace h := h.1 c1
      refine wm_iconst (v := 0) X (by decide) dX7_betters_136 ?_
      exact wm_zret X hr bz_0 h dX7_betters_137
    · replace h := h.2 c1
      refine wm_aload_n X 0 rfl dX7_betters_80 ?_
      refine wm_get X (by decide +kernel) 0 rfl rfl 12 (by decide) (by decide +kernel) rfl dX7_betters_81 ?_
      refine wm_iload X 1 rfl dX7_betters_84 ?_
      refine wm_lald X 8 1 rfl rfl h.1 dX7_betters_86 ?_
      replace h := h.2
      refine wm_aload_n X 0 rfl dX7_betters_87 ?_
      refine wm_get X (by decide +kernel) 0 rfl rfl 15 (by decide) (by decide +kernel) rfl dX7_betters_88 ?_
      refine wm_lmul X dX7_betters_91 ?_
      refine wm_nmL (fun v2 e3 => ?_)
      replace h := h v2 e3
      clear e3
      refine wm_lstore (lv' := [(8, .long v2), (0, .ref (ad 0)), (7, .int x7)]) X (by decide) rfl dX7_betters_92 ?_
      refine wm_aload_n X 1 rfl dX7_betters_94 ?_
      refine wm_get X (by decide +kernel) 0 rfl rfl 14 (by decide) (by decide +kernel) rfl dX7_betters_95 ?_
      refine wm_iload X 2 rfl dX7_betters_98 ?_
      refine wm_lald X 9 1 rfl rfl h.1 dX7_betters_100 ?_
      replace h := h.2
      refine wm_aload_n X 1 rfl dX7_betters_101 ?_
      refine wm_get X (by decide +kernel) 0 rfl rfl 13 (by decide) (by decide +kernel) rfl dX7_betters_102 ?_
      refine wm_lmul X dX7_betters_105 ?_
      refine wm_nmL (fun v4 e5 => ?_)
      replace h := h v4 e5
      clear e5
      refine wm_lstore (lv' := [(10, .long v4), (8, .long v2), (0, .ref (ad 0)), (7, .int x7)]) X (by decide) rfl dX7_betters_106 ?_
      refine wm_lload X 1 rfl dX7_betters_108 ?_
      refine wm_lload X 0 rfl dX7_betters_110 ?_
      refine wm_lcmp X dX7_betters_112 ?_
      refine wm_if_eq (tgt := 130) X (by decide) dX7_betters_113 (fun c6 => ?_) (fun c6 => ?_)
      · replace h := h.1 ((lc_eq _ _).mp c6)
        obtain ⟨v7, e8⟩ : ∃ y : Int32, y = x7 + 1 := ⟨_, rfl⟩
        replace h := h v7 e8
        refine wm_iinc (v := v7) (lv' := [(7, .int v7), (10, .long v4), (8, .long v2), (0, .ref (ad 0))]) X 3 rfl (by rw [e8]; rfl) (by decide) rfl dX7_betters_130 ?_
        clear e8
        refine wm_goto (tgt := 71) X (by decide) dX7_betters_133 ?_
        refine wm_sub [3, 0] (lv' := [(0, .ref (ad 0)), (7, .int v7)]) rfl ?_
        exact ih v7 σ h
      · replace h := h.2 ((lc_neq _ _).mp c6)
        refine wm_sub [1, 0] (lv' := [(8, .long v2), (10, .long v4)]) rfl ?_
        exact w_X7_betters_116 hD X hr v2 v4 σ h
set_option maxRecDepth 100000 in
set_option maxHeartbeats 4000000 in
theorem c_X7_betters (l : Launch) (G : va_G) (tI tJ tZ : ClassId) (ad : Nat → Nat) (hD : ∀ σ, va_D (Ad 11 ad) (wdM tI tJ tZ ad σ)) (x1 : Int32) (x2 : Int32) (σ : St) (post : Int32 → St → Prop) (h : wp_X7_betters x1 x2 σ post) : Ct l yX7_betters wsX7_betters rm_X7_betters G (tyL tI tJ tZ) (wdM tI tJ tZ ad) (Ad 11 ad) [.ref (ad 0), .int x1, .int x2] σ (Qi G (wdM tI tJ tZ ad) (Ad 11 ad) post) := by
  refine wm_entry (cc := cX7_betters) (maxL := 12) (ret := (some .boolean)) (own := RX7) (lv := [(0, .ref (ad 0)), (1, .int x1), (2, .int x2)]) (by decide +kernel) rfl rfl (Nat.le_of_ble_eq_true rfl) rfl hD ?_
  intro p e s m below meth c X hr
  unfold wp_X7_betters at h
  refine wm_aload_n X 0 rfl dX7_betters_0 ?_
  refine wm_get X (by decide +kernel) 0 rfl rfl 12 (by decide) (by decide +kernel) rfl dX7_betters_1 ?_
  refine wm_iload_n X 1 rfl dX7_betters_4 ?_
  refine wm_callSl (n := 2) (As := [.ref (ad 8), .int x1]) (rest := []) X (c_X7_of_8 l G tI tJ tZ ad hD x1 σ _ h) gX7_betters_X7_of rfl ⟨rfl, rfl⟩ (by decide +kernel) ⟨Nat.le_of_ble_eq_true rfl, Nat.le_of_ble_eq_true rfl⟩ rfl rfl (Nat.le_of_ble_eq_true rfl) dX7_betters_5 (fun r1 σ2 h => ?_)
  refine wm_aload_n X 0 rfl dX7_betters_8 ?_
  refine wm_get X (by decide +kernel) 0 rfl rfl 15 (by decide) (by decide +kernel) rfl dX7_betters_9 ?_
  refine wm_lmul X dX7_betters_12 ?_
  refine wm_nmL (fun v3 e4 => ?_)
  replace h := h v3 e4
  clear e4
  refine wm_lstore_n (lv' := [(3, .long v3), (0, .ref (ad 0)), (1, .int x1), (2, .int x2)]) X rfl (by decide) rfl dX7_betters_13 ?_
  refine wm_aload_n X 1 rfl dX7_betters_14 ?_
  refine wm_get X (by decide +kernel) 0 rfl rfl 14 (by decide) (by decide +kernel) rfl dX7_betters_15 ?_
  refine wm_iload_n X 2 rfl dX7_betters_18 ?_
  refine wm_callSl (n := 2) (As := [.ref (ad 9), .int x1]) (rest := []) X (c_X7_of_9 l G tI tJ tZ ad hD x1 σ2 _ h) gX7_betters_X7_of rfl ⟨rfl, rfl⟩ (by decide +kernel) ⟨Nat.le_of_ble_eq_true rfl, Nat.le_of_ble_eq_true rfl⟩ rfl rfl (Nat.le_of_ble_eq_true rfl) dX7_betters_19 (fun r5 σ6 h => ?_)
  refine wm_aload_n X 1 rfl dX7_betters_22 ?_
  refine wm_get X (by decide +kernel) 0 rfl rfl 13 (by decide) (by decide +kernel) rfl dX7_betters_23 ?_
  refine wm_lmul X dX7_betters_26 ?_
  refine wm_nmL (fun v7 e8 => ?_)
  replace h := h v7 e8
  clear e8
  refine wm_lstore (lv' := [(5, .long v7), (3, .long v3), (0, .ref (ad 0)), (1, .int x1), (2, .int x2)]) X (by decide) rfl dX7_betters_27 ?_
  refine wm_lload_n X 1 rfl dX7_betters_29 ?_
  refine wm_lload X 0 rfl dX7_betters_30 ?_
  refine wm_lcmp X dX7_betters_32 ?_
  refine wm_if_eq (tgt := 68) X (by decide) dX7_betters_33 (fun c9 => ?_) (fun c9 => ?_)
  · replace h := h.1 ((lc_eq _ _).mp c9)
    refine wm_iconst (v := 0) X (by decide) dX7_betters_68 ?_
    refine wm_istore (lv' := [(7, .int 0), (5, .long v7), (3, .long v3), (0, .ref (ad 0)), (1, .int x1), (2, .int x2)]) X (by decide) rfl dX7_betters_69 ?_
    refine wm_sub [3, 0] (lv' := [(0, .ref (ad 0)), (7, .int 0)]) rfl ?_
    obtain ⟨n0, h⟩ := h
    exact w_X7_betters_71 hD X hr n0 0 σ6 h
  · replace h := h.2 ((lc_neq _ _).mp c9)
    refine wm_iload_n X 4 rfl dX7_betters_36 ?_
    refine wm_if_ne (tgt := 55) X (by decide) dX7_betters_37 (fun c10 => ?_) (fun c10 => ?_)
    · replace h := h.1 c10
      refine wm_lload_n X 1 rfl dX7_betters_55 ?_
      refine wm_lload X 0 rfl dX7_betters_56 ?_
      refine wm_lcmp X dX7_betters_58 ?_
      refine wm_if_le (tgt := 66) X (by decide) dX7_betters_59 (fun c11 => ?_) (fun c11 => ?_)
      · replace h := h.1 ((lc_le _ _).mp c11)
        refine wm_iconst (v := 0) X (by decide) dX7_betters_66 ?_
        exact wm_zret X hr bz_0 h dX7_betters_67
      · replace h := h.2 ((lc_nle _ _).mp c11)
        refine wm_iconst (v := 1) X (by decide) dX7_betters_62 ?_
        refine wm_goto (tgt := 67) X (by decide) dX7_betters_63 ?_
        exact wm_zret X hr bz_1 h dX7_betters_67
    · replace h := h.2 c10
      refine wm_lload_n X 1 rfl dX7_betters_40 ?_
      refine wm_lload X 0 rfl dX7_betters_41 ?_
      refine wm_lcmp X dX7_betters_43 ?_
      refine wm_if_ge (tgt := 51) X (by decide) dX7_betters_44 (fun c12 => ?_) (fun c12 => ?_)
      · replace h := h.1 ((lc_ge _ _).mp c12)
        refine wm_iconst (v := 0) X (by decide) dX7_betters_51 ?_
        refine wm_goto (tgt := 67) X (by decide) dX7_betters_52 ?_
        exact wm_zret X hr bz_0 h dX7_betters_67
      · replace h := h.2 ((lc_nge _ _).mp c12)
        refine wm_iconst (v := 1) X (by decide) dX7_betters_47 ?_
        refine wm_goto (tgt := 67) X (by decide) dX7_betters_48 ?_
        exact wm_zret X hr bz_1 h dX7_betters_67
/-! X7_find -/
abbrev rm_X7_find : Room := { frames := 2, cells := 0, slots := 0, locals := 57 }
def lp_X7_find_57 (post : Int32 → St → Prop) (K11 : Int32 → Int32 → Int32 → Int32 → Int32 → St → Prop) : Nat → Int32 → Int32 → Int32 → Int32 → Int32 → St → Prop
  | 0, _, _, _, _, _, _ => False
  | n + 1, x1, x2, x4, x5, x6, σ =>
  (10 ≤ x6 → ∀ σ2 : St, σ2 = sL σ 2 (gL σ 1) → ∀ v4 : Int32, v4 = x5 + 1 → K11 x1 x2 1 x4 v4 σ2) ∧ (¬ 10 ≤ x6 → ((gI σ 0) ≤ x6 → vp_in x6 10 ∧ (∀ σ7 : St, σ7 = sB σ 2 (Int32.toNatClampNeg x6) 0 → ∀ v9 : Int32, v9 = x6 + 1 → lp_X7_find_57 post K11 n x1 x2 x4 x5 v9 σ7)) ∧ (¬ (gI σ 0) ≤ x6 → vp_in x6 10 ∧ (vp_in x6 10 ∧ (∀ σ11 : St, σ11 = sB σ 2 (Int32.toNatClampNeg x6) (gB σ 1 (Int32.toNatClampNeg x6)) → ∀ v13 : Int32, v13 = x6 + 1 → lp_X7_find_57 post K11 n x1 x2 x4 x5 v13 σ11))))
def lp_X7_find_11 (post : Int32 → St → Prop)  : Nat → Int32 → Int32 → Int32 → Int32 → Int32 → St → Prop
  | 0, _, _, _, _, _, _ => False
  | n + 1, x1, x2, x3, x4, x5, σ =>
  ((1 <<< ((gI σ 0) &&& 31)) ≤ x5 → bz x3 ∧ post x3 σ) ∧ (¬ (1 <<< ((gI σ 0) &&& 31)) ≤ x5 → (¬ (x5 &&& (x4 ^^^ (-1))) = 0 → ∀ v3 : Int32, v3 = x5 + 1 → lp_X7_find_11 post n x1 x2 x3 x4 v3 σ) ∧ ((x5 &&& (x4 ^^^ (-1))) = 0 → wp_X7_tries x5 σ (fun r5 σ6 => (r5 = 0 → ∀ v8 : Int32, v8 = x5 + 1 → lp_X7_find_11 post n x1 x2 x3 x4 v8 σ6) ∧ (¬ r5 = 0 → (x3 = 0 → ∃ fu : Nat, lp_X7_find_57 post (lp_X7_find_11 post n) fu x1 x2 x4 x5 0 σ6) ∧ (¬ x3 = 0 → wp_X7_betters x1 x2 σ6 (fun r11 σ12 => (r11 = 0 → ∀ v14 : Int32, v14 = x5 + 1 → lp_X7_find_11 post n x1 x2 x3 x4 v14 σ12) ∧ (¬ r11 = 0 → ∃ fu : Nat, lp_X7_find_57 post (lp_X7_find_11 post n) fu x1 x2 x4 x5 0 σ12)))))))
def wp_X7_find (x1 : Int32) (x2 : Int32) (σ : St) (post : Int32 → St → Prop) : Prop :=
  wp_X7_seenSet σ (fun r1 σ2 => ∃ fu : Nat, lp_X7_find_11 post fu x1 x2 0 r1 0 σ2)
set_option maxRecDepth 100000 in
set_option maxHeartbeats 4000000 in
theorem w_X7_find_57 {p : Program} {l : Launch} {e : Env} {s : State} {m : MethodId} {args : Array Value} {below : List Frame} {meth : Method} {c : Code} {G : va_G} {tI tJ tZ : ClassId} {ad : Nat → Nat} (hD : ∀ σ, va_D (Ad 11 ad) (wdM tI tJ tZ ad σ)) (X : Cx p s m args meth c cX7_find 7 RX7 wsX7_find G (tyL tI tJ tZ) (wdM tI tJ tZ ad) (Ad 11 ad)) (hr : meth.sig.returnType = (some .boolean)) {post : Int32 → St → Prop} {K11 : Int32 → Int32 → Int32 → Int32 → Int32 → St → Prop} (hK11 : ∀ (x1 : Int32) (x2 : Int32) (x3 : Int32) (x4 : Int32) (x5 : Int32) (σ : St), K11 x1 x2 x3 x4 x5 σ → wm p l e rm_X7_find s m args below meth c G (wdM tI tJ tZ ad) (Ad 11 ad) 7 (MQ below (Qi G (wdM tI tJ tZ ad) (Ad 11 ad) post) args s 0 0 (Ad 11 ad)) σ [(0, .ref (ad 0)), (1, .int x1), (2, .int x2), (3, .int x3), (4, .int x4), (5, .int x5)] 11 []) : ∀ (n : Nat) (x1 : Int32) (x2 : Int32) (x4 : Int32) (x5 : Int32) (x6 : Int32) (σ : St), lp_X7_find_57 post K11 n x1 x2 x4 x5 x6 σ → wm p l e rm_X7_find s m args below meth c G (wdM tI tJ tZ ad) (Ad 11 ad) 7 (MQ below (Qi G (wdM tI tJ tZ ad) (Ad 11 ad) post) args s 0 0 (Ad 11 ad)) σ [(0, .ref (ad 0)), (1, .int x1), (2, .int x2), (4, .int x4), (5, .int x5), (6, .int x6)] 57 [] := by
  intro n
  induction n with
  | zero => intro x1 x2 x4 x5 x6 σ h; exact h.elim
  | succ n ih =>
    intro x1 x2 x4 x5 x6 σ h
    unfold lp_X7_find_57 at h
    refine wm_iload X 5 rfl dX7_find_57 ?_
    refine wm_bipush (v := 10) X (by decide) dX7_find_59 ?_
    refine wm_icmp_ge (tgt := 97) X (by decide) dX7_find_61 (fun c1 => ?_) (fun c1 => ?_)
    · replace h := h.1 c1
      refine wm_aload_n X 0 rfl dX7_find_97 ?_
      refine wm_aload_n X 0 rfl dX7_find_98 ?_
      refine wm_get X (by decide +kernel) 0 rfl rfl 13 (by decide) (by decide +kernel) rfl dX7_find_99 ?_
      refine wm_put (σ' := sL σ 2 (gL σ 1)) X (by decide +kernel) tyX7 tyX7_ok nmX7 0 rfl rfl 15 (by decide) (by decide +kernel) rfl (tyX7_ok 15 (by decide)) rfl rfl (Nat.le_of_ble_eq_true rfl) rfl dX7_find_102 ?_
      refine wm_nmS (fun σ2 e3 => ?_)
      replace h := h σ2 e3
      clear e3
      refine wm_iconst (v := 1) X (by decide) dX7_find_105 ?_
      refine wm_istore_n (lv' := [(3, .int 1), (0, .ref (ad 0)), (1, .int x1), (2, .int x2), (4, .int x4), (5, .int x5), (6, .int x6)]) X rfl (by decide) rfl dX7_find_106 ?_
      obtain ⟨v4, e5⟩ : ∃ y : Int32, y = x5 + 1 := ⟨_, rfl⟩
      replace h := h v4 e5
      refine wm_iinc (v := v4) (lv' := [(5, .int v4), (3, .int 1), (0, .ref (ad 0)), (1, .int x1), (2, .int x2), (4, .int x4), (6, .int x6)]) X 5 rfl (by rw [e5]; rfl) (by decide) rfl dX7_find_107 ?_
      clear e5
      refine wm_goto (tgt := 11) X (by decide) dX7_find_110 ?_
      refine wm_sub [2, 3, 4, 1, 5, 0] (lv' := [(0, .ref (ad 0)), (1, .int x1), (2, .int x2), (3, .int 1), (4, .int x4), (5, .int v4)]) rfl ?_
      exact hK11 x1 x2 1 x4 v4 σ2 h
    · replace h := h.2 c1
      refine wm_aload_n X 0 rfl dX7_find_64 ?_
      refine wm_get X (by decide +kernel) 0 rfl rfl 14 (by decide) (by decide +kernel) rfl dX7_find_65 ?_
      refine wm_iload X 5 rfl dX7_find_68 ?_
      refine wm_iload X 5 rfl dX7_find_70 ?_
      refine wm_aload_n X 0 rfl dX7_find_72 ?_
      refine wm_get X (by decide +kernel) 0 rfl rfl 0 (by decide) (by decide +kernel) rfl dX7_find_73 ?_
      refine wm_icmp_ge (tgt := 89) X (by decide) dX7_find_76 (fun c6 => ?_) (fun c6 => ?_)
      · replace h := h.1 c6
        refine wm_lconst (v := 0) X (by decide) dX7_find_89 ?_
        refine wm_last (σ' := sB σ 2 (Int32.toNatClampNeg x6) 0) X 9 1 rfl rfl h.1 rfl dX7_find_90 ?_
        replace h := h.2
        refine wm_nmS (fun σ7 e8 => ?_)
        replace h := h σ7 e8
        clear e8
        obtain ⟨v9, e10⟩ : ∃ y : Int32, y = x6 + 1 := ⟨_, rfl⟩
        replace h := h v9 e10
        refine wm_iinc (v := v9) (lv' := [(6, .int v9), (0, .ref (ad 0)), (1, .int x1), (2, .int x2), (4, .int x4), (5, .int x5)]) X 5 rfl (by rw [e10]; rfl) (by decide) rfl dX7_find_91 ?_
        clear e10
        refine wm_goto (tgt := 57) X (by decide) dX7_find_94 ?_
        refine wm_sub [1, 2, 3, 4, 5, 0] (lv' := [(0, .ref (ad 0)), (1, .int x1), (2, .int x2), (4, .int x4), (5, .int x5), (6, .int v9)]) rfl ?_
        exact ih x1 x2 x4 x5 v9 σ7 h
      · replace h := h.2 c6
        refine wm_aload_n X 0 rfl dX7_find_79 ?_
        refine wm_get X (by decide +kernel) 0 rfl rfl 12 (by decide) (by decide +kernel) rfl dX7_find_80 ?_
        refine wm_iload X 5 rfl dX7_find_83 ?_
        refine wm_lald X 8 1 rfl rfl h.1 dX7_find_85 ?_
        replace h := h.2
        refine wm_goto (tgt := 90) X (by decide) dX7_find_86 ?_
        refine wm_last (σ' := sB σ 2 (Int32.toNatClampNeg x6) (gB σ 1 (Int32.toNatClampNeg x6))) X 9 1 rfl rfl h.1 rfl dX7_find_90 ?_
        replace h := h.2
        refine wm_nmS (fun σ11 e12 => ?_)
        replace h := h σ11 e12
        clear e12
        obtain ⟨v13, e14⟩ : ∃ y : Int32, y = x6 + 1 := ⟨_, rfl⟩
        replace h := h v13 e14
        refine wm_iinc (v := v13) (lv' := [(6, .int v13), (0, .ref (ad 0)), (1, .int x1), (2, .int x2), (4, .int x4), (5, .int x5)]) X 5 rfl (by rw [e14]; rfl) (by decide) rfl dX7_find_91 ?_
        clear e14
        refine wm_goto (tgt := 57) X (by decide) dX7_find_94 ?_
        refine wm_sub [1, 2, 3, 4, 5, 0] (lv' := [(0, .ref (ad 0)), (1, .int x1), (2, .int x2), (4, .int x4), (5, .int x5), (6, .int v13)]) rfl ?_
        exact ih x1 x2 x4 x5 v13 σ11 h
set_option maxRecDepth 100000 in
set_option maxHeartbeats 4000000 in
theorem w_X7_find_11 {p : Program} {l : Launch} {e : Env} {s : State} {m : MethodId} {args : Array Value} {below : List Frame} {meth : Method} {c : Code} {G : va_G} {tI tJ tZ : ClassId} {ad : Nat → Nat} (hD : ∀ σ, va_D (Ad 11 ad) (wdM tI tJ tZ ad σ)) (X : Cx p s m args meth c cX7_find 7 RX7 wsX7_find G (tyL tI tJ tZ) (wdM tI tJ tZ ad) (Ad 11 ad)) (hr : meth.sig.returnType = (some .boolean)) {post : Int32 → St → Prop}  : ∀ (n : Nat) (x1 : Int32) (x2 : Int32) (x3 : Int32) (x4 : Int32) (x5 : Int32) (σ : St), lp_X7_find_11 post n x1 x2 x3 x4 x5 σ → wm p l e rm_X7_find s m args below meth c G (wdM tI tJ tZ ad) (Ad 11 ad) 7 (MQ below (Qi G (wdM tI tJ tZ ad) (Ad 11 ad) post) args s 0 0 (Ad 11 ad)) σ [(0, .ref (ad 0)), (1, .int x1), (2, .int x2), (3, .int x3), (4, .int x4), (5, .int x5)] 11 [] := by
  intro n
  induction n with
  | zero => intro x1 x2 x3 x4 x5 σ h; exact h.elim
  | succ n ih =>
    intro x1 x2 x3 x4 x5 σ h
    unfold lp_X7_find_11 at h
    refine wm_iload X 5 rfl dX7_find_11 ?_
    refine wm_iconst (v := 1) X (by decide) dX7_find_13 ?_
    refine wm_aload_n X 0 rfl dX7_find_14 ?_
    refine wm_get X (by decide +kernel) 0 rfl rfl 0 (by decide) (by decide +kernel) rfl dX7_find_15 ?_
    refine wm_ishl X dX7_find_18 ?_
    refine wm_icmp_ge (tgt := 113) X (by decide) dX7_find_19 (fun c1 => ?_) (fun c1 => ?_)
    · replace h := h.1 c1
      refine wm_iload_n X 3 rfl dX7_find_113 ?_
      exact wm_zret X hr h.1 h.2 dX7_find_114
    · replace h := h.2 c1
      refine wm_iload X 5 rfl dX7_find_22 ?_
      refine wm_iload X 4 rfl dX7_find_24 ?_
      refine wm_iconst (v := (-1)) X (by decide) dX7_find_26 ?_
      refine wm_ixor X dX7_find_27 ?_
      refine wm_iand X dX7_find_28 ?_
      refine wm_if_ne (tgt := 107) X (by decide) dX7_find_29 (fun c2 => ?_) (fun c2 => ?_)
      · replace h := h.1 c2
        obtain ⟨v3, e4⟩ : ∃ y : Int32, y = x5 + 1 := ⟨_, rfl⟩
        replace h := h v3 e4
        refine wm_iinc (v := v3) (lv' := [(5, .int v3), (0, .ref (ad 0)), (1, .int x1), (2, .int x2), (3, .int x3), (4, .int x4)]) X 5 rfl (by rw [e4]; rfl) (by decide) rfl dX7_find_107 ?_
        clear e4
        refine wm_goto (tgt := 11) X (by decide) dX7_find_110 ?_
        refine wm_sub [1, 2, 3, 4, 5, 0] (lv' := [(0, .ref (ad 0)), (1, .int x1), (2, .int x2), (3, .int x3), (4, .int x4), (5, .int v3)]) rfl ?_
        exact ih x1 x2 x3 x4 v3 σ h
      · replace h := h.2 c2
        refine wm_aload_n X 0 rfl dX7_find_32 ?_
        refine wm_iload X 5 rfl dX7_find_33 ?_
        refine wm_callVi (n := 1) (As := [.int x5]) (rest := []) X (c_X7_tries l G tI tJ tZ ad hD x5 σ _ h) gX7_find_X7_tries rfl ⟨rfl, rfl⟩ (by decide +kernel) ⟨Nat.le_of_ble_eq_true rfl, Nat.le_of_ble_eq_true rfl⟩ 0 rfl rfl rfl rfl rfl (Nat.le_of_ble_eq_true rfl) dX7_find_35 (fun r5 σ6 h => ?_)
        refine wm_if_eq (tgt := 107) X (by decide) dX7_find_38 (fun c7 => ?_) (fun c7 => ?_)
        · replace h := h.1 c7
          obtain ⟨v8, e9⟩ : ∃ y : Int32, y = x5 + 1 := ⟨_, rfl⟩
          replace h := h v8 e9
          refine wm_iinc (v := v8) (lv' := [(5, .int v8), (0, .ref (ad 0)), (1, .int x1), (2, .int x2), (3, .int x3), (4, .int x4)]) X 5 rfl (by rw [e9]; rfl) (by decide) rfl dX7_find_107 ?_
          clear e9
          refine wm_goto (tgt := 11) X (by decide) dX7_find_110 ?_
          refine wm_sub [1, 2, 3, 4, 5, 0] (lv' := [(0, .ref (ad 0)), (1, .int x1), (2, .int x2), (3, .int x3), (4, .int x4), (5, .int v8)]) rfl ?_
          exact ih x1 x2 x3 x4 v8 σ6 h
        · replace h := h.2 c7
          refine wm_iload_n X 3 rfl dX7_find_41 ?_
          refine wm_if_eq (tgt := 54) X (by decide) dX7_find_42 (fun c10 => ?_) (fun c10 => ?_)
          · replace h := h.1 c10
            refine wm_iconst (v := 0) X (by decide) dX7_find_54 ?_
            refine wm_istore (lv' := [(6, .int 0), (0, .ref (ad 0)), (1, .int x1), (2, .int x2), (3, .int x3), (4, .int x4), (5, .int x5)]) X (by decide) rfl dX7_find_55 ?_
            refine wm_sub [1, 2, 3, 5, 6, 0] (lv' := [(0, .ref (ad 0)), (1, .int x1), (2, .int x2), (4, .int x4), (5, .int x5), (6, .int 0)]) rfl ?_
            obtain ⟨n0, h⟩ := h
            exact w_X7_find_57 hD X hr ih n0 x1 x2 x4 x5 0 σ6 h
          · replace h := h.2 c10
            refine wm_aload_n X 0 rfl dX7_find_45 ?_
            refine wm_iload_n X 1 rfl dX7_find_46 ?_
            refine wm_iload_n X 2 rfl dX7_find_47 ?_
            refine wm_callVi (n := 2) (As := [.int x1, .int x2]) (rest := []) X (c_X7_betters l G tI tJ tZ ad hD x1 x2 σ6 _ h) gX7_find_X7_betters rfl ⟨rfl, rfl⟩ (by decide +kernel) ⟨Nat.le_of_ble_eq_true rfl, Nat.le_of_ble_eq_true rfl⟩ 0 rfl rfl rfl rfl rfl (Nat.le_of_ble_eq_true rfl) dX7_find_48 (fun r11 σ12 h => ?_)
            refine wm_if_eq (tgt := 107) X (by decide) dX7_find_51 (fun c13 => ?_) (fun c13 => ?_)
            · replace h := h.1 c13
              obtain ⟨v14, e15⟩ : ∃ y : Int32, y = x5 + 1 := ⟨_, rfl⟩
              replace h := h v14 e15
              refine wm_iinc (v := v14) (lv' := [(5, .int v14), (0, .ref (ad 0)), (1, .int x1), (2, .int x2), (3, .int x3), (4, .int x4)]) X 5 rfl (by rw [e15]; rfl) (by decide) rfl dX7_find_107 ?_
              clear e15
              refine wm_goto (tgt := 11) X (by decide) dX7_find_110 ?_
              refine wm_sub [1, 2, 3, 4, 5, 0] (lv' := [(0, .ref (ad 0)), (1, .int x1), (2, .int x2), (3, .int x3), (4, .int x4), (5, .int v14)]) rfl ?_
              exact ih x1 x2 x3 x4 v14 σ12 h
            · replace h := h.2 c13
              refine wm_iconst (v := 0) X (by decide) dX7_find_54 ?_
              refine wm_istore (lv' := [(6, .int 0), (0, .ref (ad 0)), (1, .int x1), (2, .int x2), (3, .int x3), (4, .int x4), (5, .int x5)]) X (by decide) rfl dX7_find_55 ?_
              refine wm_sub [1, 2, 3, 5, 6, 0] (lv' := [(0, .ref (ad 0)), (1, .int x1), (2, .int x2), (4, .int x4), (5, .int x5), (6, .int 0)]) rfl ?_
              obtain ⟨n0, h⟩ := h
              exact w_X7_find_57 hD X hr ih n0 x1 x2 x4 x5 0 σ12 h
set_option maxRecDepth 100000 in
set_option maxHeartbeats 4000000 in
theorem c_X7_find (l : Launch) (G : va_G) (tI tJ tZ : ClassId) (ad : Nat → Nat) (hD : ∀ σ, va_D (Ad 11 ad) (wdM tI tJ tZ ad σ)) (x1 : Int32) (x2 : Int32) (σ : St) (post : Int32 → St → Prop) (h : wp_X7_find x1 x2 σ post) : Ct l yX7_find wsX7_find rm_X7_find G (tyL tI tJ tZ) (wdM tI tJ tZ ad) (Ad 11 ad) [.ref (ad 0), .int x1, .int x2] σ (Qi G (wdM tI tJ tZ ad) (Ad 11 ad) post) := by
  refine wm_entry (cc := cX7_find) (maxL := 7) (ret := (some .boolean)) (own := RX7) (lv := [(0, .ref (ad 0)), (1, .int x1), (2, .int x2)]) (by decide +kernel) rfl rfl (Nat.le_of_ble_eq_true rfl) rfl hD ?_
  intro p e s m below meth c X hr
  unfold wp_X7_find at h
  refine wm_iconst (v := 0) X (by decide) dX7_find_0 ?_
  refine wm_istore_n (lv' := [(3, .int 0), (0, .ref (ad 0)), (1, .int x1), (2, .int x2)]) X rfl (by decide) rfl dX7_find_1 ?_
  refine wm_aload_n X 1 rfl dX7_find_2 ?_
  refine wm_callVi (n := 0) (As := []) (rest := []) X (c_X7_seenSet l G tI tJ tZ ad hD σ _ h) gX7_find_X7_seenSet rfl ⟨rfl, rfl⟩ (by decide +kernel) ⟨Nat.le_of_ble_eq_true rfl, Nat.le_of_ble_eq_true rfl⟩ 0 rfl rfl rfl rfl rfl (Nat.le_of_ble_eq_true rfl) dX7_find_3 (fun r1 σ2 h => ?_)
  refine wm_istore (lv' := [(4, .int r1), (3, .int 0), (0, .ref (ad 0)), (1, .int x1), (2, .int x2)]) X (by decide) rfl dX7_find_6 ?_
  refine wm_iconst (v := 0) X (by decide) dX7_find_8 ?_
  refine wm_istore (lv' := [(5, .int 0), (4, .int r1), (3, .int 0), (0, .ref (ad 0)), (1, .int x1), (2, .int x2)]) X (by decide) rfl dX7_find_9 ?_
  refine wm_sub [3, 4, 5, 2, 1, 0] (lv' := [(0, .ref (ad 0)), (1, .int x1), (2, .int x2), (3, .int 0), (4, .int r1), (5, .int 0)]) rfl ?_
  obtain ⟨n0, h⟩ := h
  exact w_X7_find_11 hD X hr n0 x1 x2 0 r1 0 σ2 h
