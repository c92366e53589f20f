/-! X5_loadRow -/
abbrev rm_X5_loadRow : Room := { frames := 1, cells := 0, slots := 0, locals := 21 }
def lp_X5_loadRow_9 (post : St → Prop)  : Nat → Int32 → Int32 → Int32 → St → Prop
  | 0, _, _, _, _ => False
  | n + 1, x2, x3, x4, σ =>
  ((gI σ 17) ≤ x4 → post σ) ∧ (¬ (gI σ 17) ≤ x4 → wp_X6_bitOf x2 x4 σ (fun r2 σ3 => vp_in (x3 + x4) 3300 ∧ (∀ σ4 : St, σ4 = sA σ3 9 (Int32.toNatClampNeg (x3 + x4)) r2 → ∀ v6 : Int32, v6 = x4 + 1 → lp_X5_loadRow_9 post n x2 x3 v6 σ4)))
def wp_X5_loadRow (x1 : Int32) (x2 : Int32) (σ : St) (post : St → Prop) : Prop :=
  wp_X5_startOf 0 x1 σ (fun r1 σ2 => ∃ fu : Nat, lp_X5_loadRow_9 post fu x2 r1 0 σ2)
set_option maxRecDepth 100000 in
set_option maxHeartbeats 4000000 in
theorem w_X5_loadRow_9 {p : Program} {l : Launch} {e : Env} {s : State} {m : MethodId} {args : Array Value} {below : List Frame} {meth : Method} {c : Code} {G : va_G} {tI tJ tZ : ClassId} {ad : Nat → Nat} (hD : ∀ σ, va_D (Ad 22 ad) (wdC tI tJ tZ ad σ)) (X : Cx p s m args meth c cX5_loadRow 5 RX5 wsX5_loadRow G (tyL tI tJ tZ) (wdC tI tJ tZ ad) (Ad 22 ad)) (hr : meth.sig.returnType = none) {post : St → Prop}  : ∀ (n : Nat) (x2 : Int32) (x3 : Int32) (x4 : Int32) (σ : St), lp_X5_loadRow_9 post n x2 x3 x4 σ → wm p l e rm_X5_loadRow s m args below meth c G (wdC tI tJ tZ ad) (Ad 22 ad) 5 (MQ below (Qv G (wdC tI tJ tZ ad) (Ad 22 ad) post) args s 0 0 (Ad 22 ad)) σ [(0, .ref (ad 15)), (2, .int x2), (3, .int x3), (4, .int x4)] 9 [] := by
  intro n
  induction n with
  | zero => intro x2 x3 x4 σ h; exact h.elim
  | succ n ih =>
    intro x2 x3 x4 σ h
    unfold lp_X5_loadRow_9 at h
    refine wm_iload X 3 rfl dX5_loadRow_9 ?_
    refine wm_aload_n X 0 rfl dX5_loadRow_11 ?_
    refine wm_get X (by decide +kernel) 15 rfl rfl 3 (by decide) (by decide +kernel) rfl dX5_loadRow_12 ?_
    refine wm_icmp_ge (tgt := 39) X (by decide) dX5_loadRow_15 (fun c1 => ?_) (fun c1 => ?_)
    · replace h := h.1 c1
      exact wm_vret X hr h dX5_loadRow_39
    · replace h := h.2 c1
      refine wm_aload_n X 0 rfl dX5_loadRow_18 ?_
      refine wm_get X (by decide +kernel) 15 rfl rfl 0 (by decide) (by decide +kernel) rfl dX5_loadRow_19 ?_
      refine wm_iload_n X 2 rfl dX5_loadRow_22 ?_
      refine wm_iload X 3 rfl dX5_loadRow_23 ?_
      refine wm_iadd X dX5_loadRow_25 ?_
      refine wm_iload_n X 1 rfl dX5_loadRow_26 ?_
      refine wm_iload X 3 rfl dX5_loadRow_27 ?_
      refine wm_callNi (n := 2) (As := [.int x2, .int x4]) (rest := [.int (x3 + x4), .ref (ad 16)]) X (c_X6_bitOf l G tI tJ tZ ad hD x2 x4 σ _ h) gX5_loadRow_X6_bitOf_n86 rfl ⟨rfl, rfl⟩ (List.mem_of_getElem? (i := 9) rfl) (by decide +kernel) (by decide +kernel) (by decide +kernel) ⟨Nat.le_of_ble_eq_true rfl, Nat.le_of_ble_eq_true rfl⟩ rfl rfl (Nat.le_of_ble_eq_true rfl) dX5_loadRow_29 (fun r2 σ3 h => ?_)
      refine wm_iast (σ' := sA σ3 9 (Int32.toNatClampNeg (x3 + x4)) r2) X 16 0 rfl rfl h.1 rfl dX5_loadRow_32 ?_
      replace h := h.2
      refine wm_nmS (fun σ4 e5 => ?_)
      replace h := h σ4 e5
      clear e5
      obtain ⟨v6, e7⟩ : ∃ y : Int32, y = x4 + 1 := ⟨_, rfl⟩
      replace h := h v6 e7
      refine wm_iinc (v := v6) (lv' := [(4, .int v6), (0, .ref (ad 15)), (2, .int x2), (3, .int x3)]) X 3 rfl (by rw [e7]; rfl) (by decide) rfl dX5_loadRow_33 ?_
      clear e7
      refine wm_goto (tgt := 9) X (by decide) dX5_loadRow_36 ?_
      refine wm_sub [1, 2, 3, 0] (lv' := [(0, .ref (ad 15)), (2, .int x2), (3, .int x3), (4, .int v6)]) rfl ?_
      exact ih x2 x3 v6 σ4 h
set_option maxRecDepth 100000 in
set_option maxHeartbeats 4000000 in
theorem c_X5_loadRow (l : Launch) (G : va_G) (tI tJ tZ : ClassId) (ad : Nat → Nat) (hD : ∀ σ, va_D (Ad 22 ad) (wdC tI tJ tZ ad σ)) (x1 : Int32) (x2 : Int32) (σ : St) (post : St → Prop) (h : wp_X5_loadRow x1 x2 σ post) : Ct l yX5_loadRow wsX5_loadRow rm_X5_loadRow G (tyL tI tJ tZ) (wdC tI tJ tZ ad) (Ad 22 ad) [.ref (ad 15), .int x1, .int x2] σ (Qv G (wdC tI tJ tZ ad) (Ad 22 ad) post) := by
  refine wm_entry (cc := cX5_loadRow) (maxL := 5) (ret := none) (own := RX5) (lv := [(0, .ref (ad 15)), (1, .int x1), (2, .int x2)]) (by decide +kernel) rfl rfl (Nat.le_of_ble_eq_true rfl) rfl hD ?_
  intro p e s m below meth c X hr
  unfold wp_X5_loadRow at h
  refine wm_iconst (v := 0) X (by decide) dX5_loadRow_0 ?_
  refine wm_iload_n X 1 rfl dX5_loadRow_1 ?_
  refine wm_callSi (n := 2) (As := [.int 0, .int x1]) (rest := []) X (c_X5_startOf l G tI tJ tZ ad hD 0 x1 σ _ h) gX5_loadRow_X5_startOf rfl ⟨rfl, rfl⟩ (by decide +kernel) ⟨Nat.le_of_ble_eq_true rfl, Nat.le_of_ble_eq_true rfl⟩ rfl rfl (Nat.le_of_ble_eq_true rfl) dX5_loadRow_2 (fun r1 σ2 h => ?_)
  refine wm_istore_n (lv' := [(3, .int r1), (0, .ref (ad 15)), (1, .int x1), (2, .int x2)]) X rfl (by decide) rfl dX5_loadRow_5 ?_
  refine wm_iconst (v := 0) X (by decide) dX5_loadRow_6 ?_
  refine wm_istore (lv' := [(4, .int 0), (3, .int r1), (0, .ref (ad 15)), (1, .int x1), (2, .int x2)]) X (by decide) rfl dX5_loadRow_7 ?_
  refine wm_sub [2, 4, 1, 0] (lv' := [(0, .ref (ad 15)), (2, .int x2), (3, .int r1), (4, .int 0)]) rfl ?_
  obtain ⟨n0, h⟩ := h
  exact w_X5_loadRow_9 hD X hr n0 x2 r1 0 σ2 h
/-! X5_load -/
abbrev rm_X5_load : Room := { frames := 2, cells := 0, slots := 0, locals := 45 }
def jn_X5_load_37 (post : St → Prop) (K10 : Int32 → St → Prop) (x2 : Int32) (s0 : Int32) (σ : St) : Prop :=
  (s0 = 0 → wp_X5_loadRow x2 0 σ (fun σ3 => ∀ v4 : Int32, v4 = x2 + 1 → K10 v4 σ3)) ∧ (¬ s0 = 0 → vp_in x2 10 ∧ (wp_X5_loadRow x2 (gA σ 0 (Int32.toNatClampNeg x2)) σ (fun σ7 => ∀ v8 : Int32, v8 = x2 + 1 → K10 v8 σ7)))
def jn_X5_load_36 (post : St → Prop) (K10 : Int32 → St → Prop) (x2 : Int32) (σ : St) : Prop :=
  jn_X5_load_37 post K10 x2 0 σ
def lp_X5_load_105 (post : St → Prop)  : Nat → Int32 → St → Prop
  | 0, _, _ => False
  | n + 1, x2, σ =>
  (10 ≤ x2 → post σ) ∧ (¬ 10 ≤ x2 → wp_X5_loadRow (20 + x2) (1 <<< (x2 &&& 31)) σ (fun σ3 => ∀ v4 : Int32, v4 = x2 + 1 → lp_X5_load_105 post n v4 σ3))
def lp_X5_load_65 (post : St → Prop)  : Nat → Int32 → St → Prop
  | 0, _, _ => False
  | n + 1, x2, σ =>
  (10 ≤ x2 → ∃ fu : Nat, lp_X5_load_105 post fu 0 σ) ∧ (¬ 10 ≤ x2 → ((gI σ 2) ≤ x2 → wp_X5_loadRow (10 + x2) 0 σ (fun σ4 => ∀ v5 : Int32, v5 = x2 + 1 → lp_X5_load_65 post n v5 σ4)) ∧ (¬ (gI σ 2) ≤ x2 → vp_in x2 10 ∧ (wp_X5_loadRow (10 + x2) (gA σ 2 (Int32.toNatClampNeg x2)) σ (fun σ8 => ∀ v9 : Int32, v9 = x2 + 1 → lp_X5_load_65 post n v9 σ8))))
def lp_X5_load_10 (post : St → Prop)  : Nat → Int32 → St → Prop
  | 0, _, _ => False
  | n + 1, x2, σ =>
  (10 ≤ x2 → ∃ fu : Nat, lp_X5_load_65 post fu 0 σ) ∧ (¬ 10 ≤ x2 → ((gI σ 1) ≤ x2 → jn_X5_load_36 post (lp_X5_load_10 post n) x2 σ) ∧ (¬ (gI σ 1) ≤ x2 → wp_X2_isOn x2 σ (fun r3 σ4 => (r3 = 0 → jn_X5_load_36 post (lp_X5_load_10 post n) x2 σ4) ∧ (¬ r3 = 0 → jn_X5_load_37 post (lp_X5_load_10 post n) x2 1 σ4))))
def wp_X5_load (σ : St) (post : St → Prop) : Prop :=
  ∀ σ1 : St, σ1 = sI σ 17 (gI σ 0) → ∃ fu : Nat, lp_X5_load_10 post fu 0 σ1
set_option maxRecDepth 100000 in
set_option maxHeartbeats 4000000 in
theorem w_X5_load_37 {p : Program} {l : Launch} {e : Env} {s : State} {m : MethodId} {args : Array Value} {below : List Frame} {meth : Method} {c : Code} {G : va_G} {tI tJ tZ : ClassId} {ad : Nat → Nat} (hD : ∀ σ, va_D (Ad 22 ad) (wdC tI tJ tZ ad σ)) (X : Cx p s m args meth c cX5_load 4 RX5 wsX5_load G (tyL tI tJ tZ) (wdC tI tJ tZ ad) (Ad 22 ad)) (hr : meth.sig.returnType = none) {post : St → Prop} {K10 : Int32 → St → Prop} (hK10 : ∀ (x2 : Int32) (σ : St), K10 x2 σ → wm p l e rm_X5_load s m args below meth c G (wdC tI tJ tZ ad) (Ad 22 ad) 4 (MQ below (Qv G (wdC tI tJ tZ ad) (Ad 22 ad) post) args s 0 0 (Ad 22 ad)) σ [(0, .ref (ad 15)), (1, .ref (ad 1)), (2, .int x2)] 10 []) (x2 : Int32) (s0 : Int32) (σ : St) (h : jn_X5_load_37 post K10 x2 s0 σ) : wm p l e rm_X5_load s m args below meth c G (wdC tI tJ tZ ad) (Ad 22 ad) 4 (MQ below (Qv G (wdC tI tJ tZ ad) (Ad 22 ad) post) args s 0 0 (Ad 22 ad)) σ [(0, .ref (ad 15)), (1, .ref (ad 1)), (2, .int x2)] 37 [.int s0] := by
  unfold jn_X5_load_37 at h
  refine wm_istore_n (lv' := [(3, .int s0), (0, .ref (ad 15)), (1, .ref (ad 1)), (2, .int x2)]) X rfl (by decide) rfl dX5_load_37 ?_
  refine wm_aload_n X 1 rfl dX5_load_38 ?_
  refine wm_iload_n X 3 rfl dX5_load_39 ?_
  refine wm_iload_n X 0 rfl dX5_load_40 ?_
  refine wm_if_eq (tgt := 53) X (by decide) dX5_load_41 (fun c1 => ?_) (fun c1 => ?_)
  · replace h := h.1 c1
    refine wm_iconst (v := 0) X (by decide) dX5_load_53 ?_
    refine wm_callVv (n := 2) (As := [.int x2, .int 0]) (rest := []) X (c_X5_loadRow l G tI tJ tZ ad hD x2 0 σ _ h) gX5_load_X5_loadRow rfl ⟨rfl, rfl⟩ (by decide +kernel) ⟨Nat.le_of_ble_eq_true rfl, Nat.le_of_ble_eq_true rfl⟩ 15 rfl rfl rfl rfl rfl (Nat.le_of_ble_eq_true rfl) dX5_load_54 (fun σ3 h => ?_)
    obtain ⟨v4, e5⟩ : ∃ y : Int32, y = x2 + 1 := ⟨_, rfl⟩
    replace h := h v4 e5
    refine wm_iinc (v := v4) (lv' := [(2, .int v4), (3, .int s0), (0, .ref (ad 15)), (1, .ref (ad 1))]) X 3 rfl (by rw [e5]; rfl) (by decide) rfl dX5_load_57 ?_
    clear e5
    refine wm_goto (tgt := 10) X (by decide) dX5_load_60 ?_
    refine wm_sub [2, 3, 0] (lv' := [(0, .ref (ad 15)), (1, .ref (ad 1)), (2, .int v4)]) rfl ?_
    exact hK10 v4 σ3 h
  · replace h := h.2 c1
    refine wm_aload_n X 2 rfl dX5_load_44 ?_
    refine wm_get X (by decide +kernel) 1 rfl rfl 0 (by decide) (by decide +kernel) rfl dX5_load_45 ?_
    refine wm_iload_n X 3 rfl dX5_load_48 ?_
    refine wm_iald X 2 0 rfl rfl h.1 dX5_load_49 ?_
    replace h := h.2
    refine wm_goto (tgt := 54) X (by decide) dX5_load_50 ?_
    refine wm_callVv (n := 2) (As := [.int x2, .int (gA σ 0 (Int32.toNatClampNeg x2))]) (rest := []) X (c_X5_loadRow l G tI tJ tZ ad hD x2 (gA σ 0 (Int32.toNatClampNeg x2)) σ _ h) gX5_load_X5_loadRow rfl ⟨rfl, rfl⟩ (by decide +kernel) ⟨Nat.le_of_ble_eq_true rfl, Nat.le_of_ble_eq_true rfl⟩ 15 rfl rfl rfl rfl rfl (Nat.le_of_ble_eq_true rfl) dX5_load_54 (fun σ7 h => ?_)
    obtain ⟨v8, e9⟩ : ∃ y : Int32, y = x2 + 1 := ⟨_, rfl⟩
    replace h := h v8 e9
    refine wm_iinc (v := v8) (lv' := [(2, .int v8), (3, .int s0), (0, .ref (ad 15)), (1, .ref (ad 1))]) X 3 rfl (by rw [e9]; rfl) (by decide) rfl dX5_load_57 ?_
    clear e9
    refine wm_goto (tgt := 10) X (by decide) dX5_load_60 ?_
    refine wm_sub [2, 3, 0] (lv' := [(0, .ref (ad 15)), (1, .ref (ad 1)), (2, .int v8)]) rfl ?_
    exact hK10 v8 σ7 h
set_option maxRecDepth 100000 in
set_option maxHeartbeats 4000000 in
theorem w_X5_load_36 {p : Program} {l : Launch} {e : Env} {s : State} {m : MethodId} {args : Array Value} {below : List Frame} {meth : Method} {c : Code} {G : va_G} {tI tJ tZ : ClassId} {ad : Nat → Nat} (hD : ∀ σ, va_D (Ad 22 ad) (wdC tI tJ tZ ad σ)) (X : Cx p s m args meth c cX5_load 4 RX5 wsX5_load G (tyL tI tJ tZ) (wdC tI tJ tZ ad) (Ad 22 ad)) (hr : meth.sig.returnType = none) {post : St → Prop} {K10 : Int32 → St → Prop} (hK10 : ∀ (x2 : Int32) (σ : St), K10 x2 σ → wm p l e rm_X5_load s m args below meth c G (wdC tI tJ tZ ad) (Ad 22 ad) 4 (MQ below (Qv G (wdC tI tJ tZ ad) (Ad 22 ad) post) args s 0 0 (Ad 22 ad)) σ [(0, .ref (ad 15)), (1, .ref (ad 1)), (2, .int x2)] 10 []) (x2 : Int32) (σ : St) (h : jn_X5_load_36 post K10 x2 σ) : wm p l e rm_X5_load s m args below meth c G (wdC tI tJ tZ ad) (Ad 22 ad) 4 (MQ below (Qv G (wdC tI tJ tZ ad) (Ad 22 ad) post) args s 0 0 (Ad 22 ad)) σ [(0, .ref (ad 15)), (1, .ref (ad 1)), (2, .int x2)] 36 [] := by
  unfold jn_X5_load_36 at h
  refine wm_iconst (v := 0) X (by decide) dX5_load_36 ?_
  exact w_X5_load_37 hD X hr hK10 x2 0 σ h
set_option maxRecDepth 100000 in
set_option maxHeartbeats 4000000 in
theorem w_X5_load_105 {p : Program} {l : Launch} {e : Env} {s : State} {m : MethodId} {args : Array Value} {below : List Frame} {meth : Method} {c : Code} {G : va_G} {tI tJ tZ : ClassId} {ad : Nat → Nat} (hD : ∀ σ, va_D (Ad 22 ad) (wdC tI tJ tZ ad σ)) (X : Cx p s m args meth c cX5_load 4 RX5 wsX5_load G (tyL tI tJ tZ) (wdC tI tJ tZ ad) (Ad 22 ad)) (hr : meth.sig.returnType = none) {post : St → Prop}  : ∀ (n : Nat) (x2 : Int32) (σ : St), lp_X5_load_105 post n x2 σ → wm p l e rm_X5_load s m args below meth c G (wdC tI tJ tZ ad) (Ad 22 ad) 4 (MQ below (Qv G (wdC tI tJ tZ ad) (Ad 22 ad) post) args s 0 0 (Ad 22 ad)) σ [(0, .ref (ad 15)), (2, .int x2)] 105 [] := by
  intro n
  induction n with
  | zero => intro x2 σ h; exact h.elim
  | succ n ih =>
    intro x2 σ h
    unfold lp_X5_load_105 at h
    refine wm_iload_n X 1 rfl dX5_load_105 ?_
    refine wm_bipush (v := 10) X (by decide) dX5_load_106 ?_
    refine wm_icmp_ge (tgt := 128) X (by decide) dX5_load_108 (fun c1 => ?_) (fun c1 => ?_)
    · replace h := h.1 c1
      exact wm_vret X hr h dX5_load_128
    · replace h := h.2 c1
      refine wm_aload_n X 0 rfl dX5_load_111 ?_
      refine wm_bipush (v := 20) X (by decide) dX5_load_112 ?_
      refine wm_iload_n X 1 rfl dX5_load_114 ?_
      refine wm_iadd X dX5_load_115 ?_
      refine wm_iconst (v := 1) X (by decide) dX5_load_116 ?_
      refine wm_iload_n X 1 rfl dX5_load_117 ?_
      refine wm_ishl X dX5_load_118 ?_
      refine wm_callVv (n := 2) (As := [.int (20 + x2), .int (1 <<< (x2 &&& 31))]) (rest := []) X (c_X5_loadRow l G tI tJ tZ ad hD (20 + x2) (1 <<< (x2 &&& 31)) σ _ h) gX5_load_X5_loadRow rfl ⟨rfl, rfl⟩ (by decide +kernel) ⟨Nat.le_of_ble_eq_true rfl, Nat.le_of_ble_eq_true rfl⟩ 15 rfl rfl rfl rfl rfl (Nat.le_of_ble_eq_true rfl) dX5_load_119 (fun σ3 h => ?_)
      obtain ⟨v4, e5⟩ : ∃ y : Int32, y = x2 + 1 := ⟨_, rfl⟩
      replace h := h v4 e5
      refine wm_iinc (v := v4) (lv' := [(2, .int v4), (0, .ref (ad 15))]) X 1 rfl (by rw [e5]; rfl) (by decide) rfl dX5_load_122 ?_
      clear e5
      refine wm_goto (tgt := 105) X (by decide) dX5_load_125 ?_
      refine wm_sub [1, 0] (lv' := [(0, .ref (ad 15)), (2, .int v4)]) rfl ?_
      exact ih v4 σ3 h
set_option maxRecDepth 100000 in
set_option maxHeartbeats 4000000 in
theorem w_X5_load_65 {p : Program} {l : Launch} {e : Env} {s : State} {m : MethodId} {args : Array Value} {below : List Frame} {meth : Method} {c : Code} {G : va_G} {tI tJ tZ : ClassId} {ad : Nat → Nat} (hD : ∀ σ, va_D (Ad 22 ad) (wdC tI tJ tZ ad σ)) (X : Cx p s m args meth c cX5_load 4 RX5 wsX5_load G (tyL tI tJ tZ) (wdC tI tJ tZ ad) (Ad 22 ad)) (hr : meth.sig.returnType = none) {post : St → Prop}  : ∀ (n : Nat) (x2 : Int32) (σ : St), lp_X5_load_65 post n x2 σ → wm p l e rm_X5_load s m args below meth c G (wdC tI tJ tZ ad) (Ad 22 ad) 4 (MQ below (Qv G (wdC tI tJ tZ ad) (Ad 22 ad) post) args s 0 0 (Ad 22 ad)) σ [(0, .ref (ad 15)), (1, .ref (ad 1)), (2, .int x2)] 65 [] := by
  intro n
  induction n with
  | zero => intro x2 σ h; exact h.elim
  | succ n ih =>
    intro x2 σ h
    unfold lp_X5_load_65 at h
    refine wm_iload_n X 2 rfl dX5_load_65 ?_
    refine wm_bipush (v := 10) X (by decide) dX5_load_66 ?_
    refine wm_icmp_ge (tgt := 103) X (by decide) dX5_load_68 (fun c1 => ?_) (fun c1 => ?_)
    · replace h := h.1 c1
      refine wm_iconst (v := 0) X (by decide) dX5_load_103 ?_
      refine wm_istore_n (lv' := [(2, .int 0), (0, .ref (ad 15)), (1, .ref (ad 1))]) X rfl (by decide) rfl dX5_load_104 ?_
      refine wm_sub [1, 0] (lv' := [(0, .ref (ad 15)), (2, .int 0)]) rfl ?_
      obtain ⟨n0, h⟩ := h
      exact w_X5_load_105 hD X hr n0 0 σ h
    · replace h := h.2 c1
      refine wm_aload_n X 0 rfl dX5_load_71 ?_
      refine wm_bipush (v := 10) X (by decide) dX5_load_72 ?_
      refine wm_iload_n X 2 rfl dX5_load_74 ?_
      refine wm_iadd X dX5_load_75 ?_
      refine wm_iload_n X 2 rfl dX5_load_76 ?_
      refine wm_aload_n X 1 rfl dX5_load_77 ?_
      refine wm_get X (by decide +kernel) 1 rfl rfl 5 (by decide) (by decide +kernel) rfl dX5_load_78 ?_
      refine wm_icmp_ge (tgt := 93) X (by decide) dX5_load_81 (fun c2 => ?_) (fun c2 => ?_)
      · replace h := h.1 c2
        refine wm_iconst (v := 0) X (by decide) dX5_load_93 ?_
        refine wm_callVv (n := 2) (As := [.int (10 + x2), .int 0]) (rest := []) X (c_X5_loadRow l G tI tJ tZ ad hD (10 + x2) 0 σ _ h) gX5_load_X5_loadRow rfl ⟨rfl, rfl⟩ (by decide +kernel) ⟨Nat.le_of_ble_eq_true rfl, Nat.le_of_ble_eq_true rfl⟩ 15 rfl rfl rfl rfl rfl (Nat.le_of_ble_eq_true rfl) dX5_load_94 (fun σ4 h => ?_)
        obtain ⟨v5, e6⟩ : ∃ y : Int32, y = x2 + 1 := ⟨_, rfl⟩
        replace h := h v5 e6
        refine wm_iinc (v := v5) (lv' := [(2, .int v5), (0, .ref (ad 15)), (1, .ref (ad 1))]) X 2 rfl (by rw [e6]; rfl) (by decide) rfl dX5_load_97 ?_
        clear e6
        refine wm_goto (tgt := 65) X (by decide) dX5_load_100 ?_
        refine wm_sub [1, 2, 0] (lv' := [(0, .ref (ad 15)), (1, .ref (ad 1)), (2, .int v5)]) rfl ?_
        exact ih v5 σ4 h
      · replace h := h.2 c2
        refine wm_aload_n X 1 rfl dX5_load_84 ?_
        refine wm_get X (by decide +kernel) 1 rfl rfl 2 (by decide) (by decide +kernel) rfl dX5_load_85 ?_
        refine wm_iload_n X 2 rfl dX5_load_88 ?_
        refine wm_iald X 4 0 rfl rfl h.1 dX5_load_89 ?_
        replace h := h.2
        refine wm_goto (tgt := 94) X (by decide) dX5_load_90 ?_
        refine wm_callVv (n := 2) (As := [.int (10 + x2), .int (gA σ 2 (Int32.toNatClampNeg x2))]) (rest := []) X (c_X5_loadRow l G tI tJ tZ ad hD (10 + x2) (gA σ 2 (Int32.toNatClampNeg x2)) σ _ h) gX5_load_X5_loadRow rfl ⟨rfl, rfl⟩ (by decide +kernel) ⟨Nat.le_of_ble_eq_true rfl, Nat.le_of_ble_eq_true rfl⟩ 15 rfl rfl rfl rfl rfl (Nat.le_of_ble_eq_true rfl) dX5_load_94 (fun σ8 h => ?_)
        obtain ⟨v9, e10⟩ : ∃ y : Int32, y = x2 + 1 := ⟨_, rfl⟩
        replace h := h v9 e10
        refine wm_iinc (v := v9) (lv' := [(2, .int v9), (0, .ref (ad 15)), (1, .ref (ad 1))]) X 2 rfl (by rw [e10]; rfl) (by decide) rfl dX5_load_97 ?_
        clear e10
        refine wm_goto (tgt := 65) X (by decide) dX5_load_100 ?_
        refine wm_sub [1, 2, 0] (lv' := [(0, .ref (ad 15)), (1, .ref (ad 1)), (2, .int v9)]) rfl ?_
        exact ih v9 σ8 h
set_option maxRecDepth 100000 in
set_option maxHeartbeats 4000000 in
theorem w_X5_load_10 {p : Program} {l : Launch} {e : Env} {s : State} {m : MethodId} {args : Array Value} {below : List Frame} {meth : Method} {c : Code} {G : va_G} {tI tJ tZ : ClassId} {ad : Nat → Nat} (hD : ∀ σ, va_D (Ad 22 ad) (wdC tI tJ tZ ad σ)) (X : Cx p s m args meth c cX5_load 4 RX5 wsX5_load G (tyL tI tJ tZ) (wdC tI tJ tZ ad) (Ad 22 ad)) (hr : meth.sig.returnType = none) {post : St → Prop}  : ∀ (n : Nat) (x2 : Int32) (σ : St), lp_X5_load_10 post n x2 σ → wm p l e rm_X5_load s m args below meth c G (wdC tI tJ tZ ad) (Ad 22 ad) 4 (MQ below (Qv G (wdC tI tJ tZ ad) (Ad 22 ad) post) args s 0 0 (Ad 22 ad)) σ [(0, .ref (ad 15)), (1, .ref (ad 1)), (2, .int x2)] 10 [] := by
  intro n
  induction n with
  | zero => intro x2 σ h; exact h.elim
  | succ n ih =>
    intro x2 σ h
    unfold lp_X5_load_10 at h
    refine wm_iload_n X 2 rfl dX5_load_10 ?_
    refine wm_bipush (v := 10) X (by decide) dX5_load_11 ?_
    refine wm_icmp_ge (tgt := 63) X (by decide) dX5_load_13 (fun c1 => ?_) (fun c1 => ?_)
    · replace h := h.1 c1
      refine wm_iconst (v := 0) X (by decide) dX5_load_63 ?_
      refine wm_istore_n (lv' := [(2, .int 0), (0, .ref (ad 15)), (1, .ref (ad 1))]) X rfl (by decide) rfl dX5_load_64 ?_
      refine wm_sub [1, 2, 0] (lv' := [(0, .ref (ad 15)), (1, .ref (ad 1)), (2, .int 0)]) rfl ?_
      obtain ⟨n0, h⟩ := h
      exact w_X5_load_65 hD X hr n0 0 σ h
    · replace h := h.2 c1
      refine wm_iload_n X 2 rfl dX5_load_16 ?_
      refine wm_aload_n X 1 rfl dX5_load_17 ?_
      refine wm_get X (by decide +kernel) 1 rfl rfl 4 (by decide) (by decide +kernel) rfl dX5_load_18 ?_
      refine wm_icmp_ge (tgt := 36) X (by decide) dX5_load_21 (fun c2 => ?_) (fun c2 => ?_)
      · replace h := h.1 c2
        exact w_X5_load_36 hD X hr ih x2 σ h
      · replace h := h.2 c2
        refine wm_aload_n X 1 rfl dX5_load_24 ?_
        refine wm_iload_n X 2 rfl dX5_load_25 ?_
        refine wm_callVi (n := 1) (As := [.int x2]) (rest := []) X (c_X2_isOn l G tI tJ tZ ad hD x2 σ _ h) gX5_load_X2_isOn rfl ⟨rfl, rfl⟩ (by decide +kernel) ⟨Nat.le_of_ble_eq_true rfl, Nat.le_of_ble_eq_true rfl⟩ 1 rfl rfl rfl rfl rfl (Nat.le_of_ble_eq_true rfl) dX5_load_26 (fun r3 σ4 h => ?_)
        refine wm_if_eq (tgt := 36) X (by decide) dX5_load_29 (fun c5 => ?_) (fun c5 => ?_)
        · replace h := h.1 c5
          exact w_X5_load_36 hD X hr ih x2 σ4 h
        · replace h := h.2 c5
          refine wm_iconst (v := 1) X (by decide) dX5_load_32 ?_
          refine wm_goto (tgt := 37) X (by decide) dX5_load_33 ?_
          exact w_X5_load_37 hD X hr ih x2 1 σ4 h
set_option maxRecDepth 100000 in
set_option maxHeartbeats 4000000 in
theorem c_X5_load (l : Launch) (G : va_G) (tI tJ tZ : ClassId) (ad : Nat → Nat) (hD : ∀ σ, va_D (Ad 22 ad) (wdC tI tJ tZ ad σ))  (σ : St) (post : St → Prop) (h : wp_X5_load  σ post) : Ct l yX5_load wsX5_load rm_X5_load G (tyL tI tJ tZ) (wdC tI tJ tZ ad) (Ad 22 ad) [.ref (ad 15), .ref (ad 1)] σ (Qv G (wdC tI tJ tZ ad) (Ad 22 ad) post) := by
  refine wm_entry (cc := cX5_load) (maxL := 4) (ret := none) (own := RX5) (lv := [(0, .ref (ad 15)), (1, .ref (ad 1))]) (by decide +kernel) rfl rfl (Nat.le_of_ble_eq_true rfl) rfl hD ?_
  intro p e s m below meth c X hr
  unfold wp_X5_load at h
  refine wm_aload_n X 0 rfl dX5_load_0 ?_
  refine wm_aload_n X 1 rfl dX5_load_1 ?_
  refine wm_get X (by decide +kernel) 1 rfl rfl 3 (by decide) (by decide +kernel) rfl dX5_load_2 ?_
  refine wm_put (σ' := sI σ 17 (gI σ 0)) X (by decide +kernel) tyX5 tyX5_ok nmX5 15 rfl rfl 3 (by decide) (by decide +kernel) rfl (tyX5_ok 3 (by decide)) rfl rfl (Nat.le_of_ble_eq_true rfl) rfl dX5_load_5 ?_
  refine wm_nmS (fun σ1 e2 => ?_)
  replace h := h σ1 e2
  clear e2
  refine wm_iconst (v := 0) X (by decide) dX5_load_8 ?_
  refine wm_istore_n (lv' := [(2, .int 0), (0, .ref (ad 15)), (1, .ref (ad 1))]) X rfl (by decide) rfl dX5_load_9 ?_
  refine wm_sub [1, 2, 0] (lv' := [(0, .ref (ad 15)), (1, .ref (ad 1)), (2, .int 0)]) rfl ?_
  obtain ⟨n0, h⟩ := h
  exact w_X5_load_10 hD X hr n0 0 σ1 h
/-! X5_firstFilledColumn -/
abbrev rm_X5_firstFilledColumn : Room := { frames := 1, cells := 0, slots := 0, locals := 21 }
def lp_X5_firstFilledColumn_9 (post : Int32 → St → Prop)  : Nat → Int32 → Int32 → St → Prop
  | 0, _, _, _ => False
  | n + 1, x3, x4, σ =>
  ((gI σ 17) ≤ x4 → post (-1) σ) ∧ (¬ (gI σ 17) ≤ x4 → vp_in (x3 + x4) 3300 ∧ (((gA σ 9 (Int32.toNatClampNeg (x3 + x4))) = 0 → ∀ v3 : Int32, v3 = x4 + 1 → lp_X5_firstFilledColumn_9 post n x3 v3 σ) ∧ (¬ (gA σ 9 (Int32.toNatClampNeg (x3 + x4))) = 0 → post x4 σ)))
def wp_X5_firstFilledColumn (x1 : Int32) (x2 : Int32) (σ : St) (post : Int32 → St → Prop) : Prop :=
  wp_X5_startOf x1 x2 σ (fun r1 σ2 => ∃ fu : Nat, lp_X5_firstFilledColumn_9 post fu r1 0 σ2)
set_option maxRecDepth 100000 in
set_option maxHeartbeats 4000000 in
theorem w_X5_firstFilledColumn_9 {p : Program} {l : Launch} {e : Env} {s : State} {m : MethodId} {args : Array Value} {below : List Frame} {meth : Method} {c : Code} {G : va_G} {tI tJ tZ : ClassId} {ad : Nat → Nat} (hD : ∀ σ, va_D (Ad 22 ad) (wdC tI tJ tZ ad σ)) (X : Cx p s m args meth c cX5_firstFilledColumn 5 RX5 wsX5_firstFilledColumn G (tyL tI tJ tZ) (wdC tI tJ tZ ad) (Ad 22 ad)) (hr : meth.sig.returnType = (some .int)) {post : Int32 → St → Prop}  : ∀ (n : Nat) (x3 : Int32) (x4 : Int32) (σ : St), lp_X5_firstFilledColumn_9 post n x3 x4 σ → wm p l e rm_X5_firstFilledColumn s m args below meth c G (wdC tI tJ tZ ad) (Ad 22 ad) 5 (MQ below (Qi G (wdC tI tJ tZ ad) (Ad 22 ad) post) args s 0 0 (Ad 22 ad)) σ [(0, .ref (ad 15)), (3, .int x3), (4, .int x4)] 9 [] := by
  intro n
  induction n with
  | zero => intro x3 x4 σ h; exact h.elim
  | succ n ih =>
    intro x3 x4 σ h
    unfold lp_X5_firstFilledColumn_9 at h
    refine wm_iload X 2 rfl dX5_firstFilledColumn_9 ?_
    refine wm_aload_n X 0 rfl dX5_firstFilledColumn_11 ?_
    refine wm_get X (by decide +kernel) 15 rfl rfl 3 (by decide) (by decide +kernel) rfl dX5_firstFilledColumn_12 ?_
    refine wm_icmp_ge (tgt := 39) X (by decide) dX5_firstFilledColumn_15 (fun c1 => ?_) (fun c1 => ?_)
    · replace h := h.1 c1
      refine wm_iconst (v := (-1)) X (by decide) dX5_firstFilledColumn_39 ?_
      exact wm_iret X hr h dX5_firstFilledColumn_40
    · replace h := h.2 c1
      refine wm_aload_n X 0 rfl dX5_firstFilledColumn_18 ?_
      refine wm_get X (by decide +kernel) 15 rfl rfl 0 (by decide) (by decide +kernel) rfl dX5_firstFilledColumn_19 ?_
      refine wm_iload_n X 1 rfl dX5_firstFilledColumn_22 ?_
      refine wm_iload X 2 rfl dX5_firstFilledColumn_23 ?_
      refine wm_iadd X dX5_firstFilledColumn_25 ?_
      refine wm_iald X 16 0 rfl rfl h.1 dX5_firstFilledColumn_26 ?_
      replace h := h.2
      refine wm_if_eq (tgt := 33) X (by decide) dX5_firstFilledColumn_27 (fun c2 => ?_) (fun c2 => ?_)
      · replace h := h.1 c2
        obtain ⟨v3, e4⟩ : ∃ y : Int32, y = x4 + 1 := ⟨_, rfl⟩
        replace h := h v3 e4
        refine wm_iinc (v := v3) (lv' := [(4, .int v3), (0, .ref (ad 15)), (3, .int x3)]) X 2 rfl (by rw [e4]; rfl) (by decide) rfl dX5_firstFilledColumn_33 ?_
        clear e4
        refine wm_goto (tgt := 9) X (by decide) dX5_firstFilledColumn_36 ?_
        refine wm_sub [1, 2, 0] (lv' := [(0, .ref (ad 15)), (3, .int x3), (4, .int v3)]) rfl ?_
        exact ih x3 v3 σ h
      · replace h := h.2 c2
        refine wm_iload X 2 rfl dX5_firstFilledColumn_30 ?_
        exact wm_iret X hr h dX5_firstFilledColumn_32
set_option maxRecDepth 100000 in
set_option maxHeartbeats 4000000 in
theorem c_X5_firstFilledColumn (l : Launch) (G : va_G) (tI tJ tZ : ClassId) (ad : Nat → Nat) (hD : ∀ σ, va_D (Ad 22 ad) (wdC tI tJ tZ ad σ)) (x1 : Int32) (x2 : Int32) (σ : St) (post : Int32 → St → Prop) (h : wp_X5_firstFilledColumn x1 x2 σ post) : Ct l yX5_firstFilledColumn wsX5_firstFilledColumn rm_X5_firstFilledColumn G (tyL tI tJ tZ) (wdC tI tJ tZ ad) (Ad 22 ad) [.ref (ad 15), .int x1, .int x2] σ (Qi G (wdC tI tJ tZ ad) (Ad 22 ad) post) := by
  refine wm_entry (cc := cX5_firstFilledColumn) (maxL := 5) (ret := (some .int)) (own := RX5) (lv := [(0, .ref (ad 15)), (1, .int x1), (2, .int x2)]) (by decide +kernel) rfl rfl (Nat.le_of_ble_eq_true rfl) rfl hD ?_
  intro p e s m below meth c X hr
  unfold wp_X5_firstFilledColumn at h
  refine wm_iload_n X 1 rfl dX5_firstFilledColumn_0 ?_
  refine wm_iload_n X 2 rfl dX5_firstFilledColumn_1 ?_
  refine wm_callSi (n := 2) (As := [.int x1, .int x2]) (rest := []) X (c_X5_startOf l G tI tJ tZ ad hD x1 x2 σ _ h) gX5_firstFilledColumn_X5_startOf rfl ⟨rfl, rfl⟩ (by decide +kernel) ⟨Nat.le_of_ble_eq_true rfl, Nat.le_of_ble_eq_true rfl⟩ rfl rfl (Nat.le_of_ble_eq_true rfl) dX5_firstFilledColumn_2 (fun r1 σ2 h => ?_)
  refine wm_istore_n (lv' := [(3, .int r1), (0, .ref (ad 15)), (1, .int x1), (2, .int x2)]) X rfl (by decide) rfl dX5_firstFilledColumn_5 ?_
  refine wm_iconst (v := 0) X (by decide) dX5_firstFilledColumn_6 ?_
  refine wm_istore (lv' := [(4, .int 0), (3, .int r1), (0, .ref (ad 15)), (1, .int x1), (2, .int x2)]) X (by decide) rfl dX5_firstFilledColumn_7 ?_
  refine wm_sub [2, 1, 0] (lv' := [(0, .ref (ad 15)), (3, .int r1), (4, .int 0)]) rfl ?_
  obtain ⟨n0, h⟩ := h
  exact w_X5_firstFilledColumn_9 hD X hr n0 r1 0 σ2 h
/-! X5_clearColumn -/
abbrev rm_X5_clearColumn : Room := { frames := 0, cells := 0, slots := 0, locals := 0 }
def lp_X5_clearColumn_31 (post : St → Prop)  : Nat → Int32 → Int32 → Int32 → Int32 → Int32 → Int32 → Int32 → St → Prop
  | 0, _, _, _, _, _, _, _, _ => False
  | n + 1, x1, x2, x3, x5, x6, x7, x8, σ =>
  ((gI σ 17) ≤ x8 → post σ) ∧ (¬ (gI σ 17) ≤ x8 → vp_in (x1 + x8) 3300 ∧ (vp_in (x3 + x8) 3300 ∧ (∀ v2 : Int32, v2 = ((gA σ 9 (Int32.toNatClampNeg (x1 + x8))) * x6) - (x7 * (gA σ 9 (Int32.toNatClampNeg (x3 + x8)))) → ¬ x5 = 0 ∧ (vp_in (x2 + x8) 3300 ∧ (∀ σ4 : St, σ4 = sA σ 9 (Int32.toNatClampNeg (x2 + x8)) (v2 / x5) → ∀ v6 : Int32, v6 = x8 + 1 → lp_X5_clearColumn_31 post n x1 x2 x3 x5 x6 x7 v6 σ4)))))
def wp_X5_clearColumn (x1 : Int32) (x2 : Int32) (x3 : Int32) (x4 : Int32) (x5 : Int32) (σ : St) (post : St → Prop) : Prop :=
  (¬ x5 = 0 → vp_in (x3 + x4) 3300 ∧ (∀ v2 : Int32, v2 = gA σ 9 (Int32.toNatClampNeg (x3 + x4)) → vp_in (x1 + x4) 3300 ∧ (∀ v4 : Int32, v4 = gA σ 9 (Int32.toNatClampNeg (x1 + x4)) → ∃ fu : Nat, lp_X5_clearColumn_31 post fu x1 x2 x3 x5 v2 v4 0 σ))) ∧ (x5 = 0 → post σ)
set_option maxRecDepth 100000 in
set_option maxHeartbeats 4000000 in
theorem w_X5_clearColumn_31 {p : Program} {l : Launch} {e : Env} {s : State} {m : MethodId} {args : Array Value} {below : List Frame} {meth : Method} {c : Code} {G : va_G} {tI tJ tZ : ClassId} {ad : Nat → Nat} (hD : ∀ σ, va_D (Ad 22 ad) (wdC tI tJ tZ ad σ)) (X : Cx p s m args meth c cX5_clearColumn 10 RX5 wsX5_clearColumn G (tyL tI tJ tZ) (wdC tI tJ tZ ad) (Ad 22 ad)) (hr : meth.sig.returnType = none) {post : St → Prop}  : ∀ (n : Nat) (x1 : Int32) (x2 : Int32) (x3 : Int32) (x5 : Int32) (x6 : Int32) (x7 : Int32) (x8 : Int32) (σ : St), lp_X5_clearColumn_31 post n x1 x2 x3 x5 x6 x7 x8 σ → wm p l e rm_X5_clearColumn s m args below meth c G (wdC tI tJ tZ ad) (Ad 22 ad) 10 (MQ below (Qv G (wdC tI tJ tZ ad) (Ad 22 ad) post) args s 0 0 (Ad 22 ad)) σ [(0, .ref (ad 15)), (1, .int x1), (2, .int x2), (3, .int x3), (5, .int x5), (6, .int x6), (7, .int x7), (8, .int x8)] 31 [] := by
  intro n
  induction n with
  | zero => intro x1 x2 x3 x5 x6 x7 x8 σ h; exact h.elim
  | succ n ih =>
    intro x1 x2 x3 x5 x6 x7 x8 σ h
    unfold lp_X5_clearColumn_31 at h
    refine wm_iload X 7 rfl dX5_clearColumn_31 ?_
    refine wm_aload_n X 0 rfl dX5_clearColumn_33 ?_
    refine wm_get X (by decide +kernel) 15 rfl rfl 3 (by decide) (by decide +kernel) rfl dX5_clearColumn_34 ?_
    refine wm_icmp_ge (tgt := 87) X (by decide) dX5_clearColumn_37 (fun c1 => ?_) (fun c1 => ?_)
    · replace h := h.1 c1
      exact wm_vret X hr h dX5_clearColumn_87
    · replace h := h.2 c1
      refine wm_aload_n X 0 rfl dX5_clearColumn_40 ?_
      refine wm_get X (by decide +kernel) 15 rfl rfl 0 (by decide) (by decide +kernel) rfl dX5_clearColumn_41 ?_
      refine wm_iload_n X 1 rfl dX5_clearColumn_44 ?_
      refine wm_iload X 7 rfl dX5_clearColumn_45 ?_
      refine wm_iadd X dX5_clearColumn_47 ?_
      refine wm_iald X 16 0 rfl rfl h.1 dX5_clearColumn_48 ?_
      replace h := h.2
      refine wm_iload X 5 rfl dX5_clearColumn_49 ?_
      refine wm_imul X dX5_clearColumn_51 ?_
      refine wm_iload X 6 rfl dX5_clearColumn_52 ?_
      refine wm_aload_n X 0 rfl dX5_clearColumn_54 ?_
      refine wm_get X (by decide +kernel) 15 rfl rfl 0 (by decide) (by decide +kernel) rfl dX5_clearColumn_55 ?_
      refine wm_iload_n X 3 rfl dX5_clearColumn_58 ?_
      refine wm_iload X 7 rfl dX5_clearColumn_59 ?_
      refine wm_iadd X dX5_clearColumn_61 ?_
      refine wm_iald X 16 0 rfl rfl h.1 dX5_clearColumn_62 ?_
      replace h := h.2
      refine wm_imul X dX5_clearColumn_63 ?_
      refine wm_isub X dX5_clearColumn_64 ?_
      refine wm_nmI (fun v2 e3 => ?_)
      replace h := h v2 e3
      clear e3
      refine wm_istore (lv' := [(9, .int v2), (0, .ref (ad 15)), (1, .int x1), (2, .int x2), (3, .int x3), (5, .int x5), (6, .int x6), (7, .int x7), (8, .int x8)]) X (by decide) rfl dX5_clearColumn_65 ?_
      refine wm_aload_n X 1 rfl dX5_clearColumn_67 ?_
      refine wm_get X (by decide +kernel) 15 rfl rfl 0 (by decide) (by decide +kernel) rfl dX5_clearColumn_68 ?_
      refine wm_iload_n X 3 rfl dX5_clearColumn_71 ?_
      refine wm_iload X 8 rfl dX5_clearColumn_72 ?_
      refine wm_iadd X dX5_clearColumn_74 ?_
      refine wm_iload X 0 rfl dX5_clearColumn_75 ?_
      refine wm_iload X 5 rfl dX5_clearColumn_77 ?_
      refine wm_idiv X h.1 dX5_clearColumn_79 ?_
      replace h := h.2
      refine wm_iast (σ' := sA σ 9 (Int32.toNatClampNeg (x2 + x8)) (v2 / x5)) X 16 0 rfl rfl h.1 rfl dX5_clearColumn_80 ?_
      replace h := h.2
      refine wm_nmS (fun σ4 e5 => ?_)
      replace h := h σ4 e5
      clear e5
      obtain ⟨v6, e7⟩ : ∃ y : Int32, y = x8 + 1 := ⟨_, rfl⟩
      replace h := h v6 e7
      refine wm_iinc (v := v6) (lv' := [(8, .int v6), (9, .int v2), (0, .ref (ad 15)), (1, .int x1), (2, .int x2), (3, .int x3), (5, .int x5), (6, .int x6), (7, .int x7)]) X 8 rfl (by rw [e7]; rfl) (by decide) rfl dX5_clearColumn_81 ?_
      clear e7
      refine wm_goto (tgt := 31) X (by decide) dX5_clearColumn_84 ?_
      refine wm_sub [2, 3, 4, 5, 6, 7, 8, 0] (lv' := [(0, .ref (ad 15)), (1, .int x1), (2, .int x2), (3, .int x3), (5, .int x5), (6, .int x6), (7, .int x7), (8, .int v6)]) rfl ?_
      exact ih x1 x2 x3 x5 x6 x7 v6 σ4 h
set_option maxRecDepth 100000 in
set_option maxHeartbeats 4000000 in
theorem c_X5_clearColumn (l : Launch) (G : va_G) (tI tJ tZ : ClassId) (ad : Nat → Nat) (hD : ∀ σ, va_D (Ad 22 ad) (wdC tI tJ tZ ad σ)) (x1 : Int32) (x2 : Int32) (x3 : Int32) (x4 : Int32) (x5 : Int32) (σ : St) (post : St → Prop) (h : wp_X5_clearColumn x1 x2 x3 x4 x5 σ post) : Ct l yX5_clearColumn wsX5_clearColumn rm_X5_clearColumn G (tyL tI tJ tZ) (wdC tI tJ tZ ad) (Ad 22 ad) [.ref (ad 15), .int x1, .int x2, .int x3, .int x4, .int x5] σ (Qv G (wdC tI tJ tZ ad) (Ad 22 ad) post) := by
  refine wm_entry (cc := cX5_clearColumn) (maxL := 10) (ret := none) (own := RX5) (lv := [(0, .ref (ad 15)), (1, .int x1), (2, .int x2), (3, .int x3), (4, .int x4), (5, .int x5)]) (by decide +kernel) rfl rfl (Nat.le_of_ble_eq_true rfl) rfl hD ?_
  intro p e s m below meth c X hr
  unfold wp_X5_clearColumn at h
  refine wm_iload X 5 rfl dX5_clearColumn_0 ?_
  refine wm_if_ne (tgt := 6) X (by decide) dX5_clearColumn_2 (fun c1 => ?_) (fun c1 => ?_)
  · replace h := h.1 c1
    refine wm_aload_n X 0 rfl dX5_clearColumn_6 ?_
    refine wm_get X (by decide +kernel) 15 rfl rfl 0 (by decide) (by decide +kernel) rfl dX5_clearColumn_7 ?_
    refine wm_iload_n X 3 rfl dX5_clearColumn_10 ?_
    refine wm_iload X 4 rfl dX5_clearColumn_11 ?_
    refine wm_iadd X dX5_clearColumn_13 ?_
    refine wm_iald X 16 0 rfl rfl h.1 dX5_clearColumn_14 ?_
    replace h := h.2
    refine wm_nmI (fun v2 e3 => ?_)
    replace h := h v2 e3
    clear e3
    refine wm_istore (lv' := [(6, .int v2), (0, .ref (ad 15)), (1, .int x1), (2, .int x2), (3, .int x3), (4, .int x4), (5, .int x5)]) X (by decide) rfl dX5_clearColumn_15 ?_
    refine wm_aload_n X 1 rfl dX5_clearColumn_17 ?_
    refine wm_get X (by decide +kernel) 15 rfl rfl 0 (by decide) (by decide +kernel) rfl dX5_clearColumn_18 ?_
    refine wm_iload_n X 2 rfl dX5_clearColumn_21 ?_
    refine wm_iload X 5 rfl dX5_clearColumn_22 ?_
    refine wm_iadd X dX5_clearColumn_24 ?_
    refine wm_iald X 16 0 rfl rfl h.1 dX5_clearColumn_25 ?_
    replace h := h.2
    refine wm_nmI (fun v4 e5 => ?_)
    replace h := h v4 e5
    clear e5
    refine wm_istore (lv' := [(7, .int v4), (6, .int v2), (0, .ref (ad 15)), (1, .int x1), (2, .int x2), (3, .int x3), (4, .int x4), (5, .int x5)]) X (by decide) rfl dX5_clearColumn_26 ?_
    refine wm_iconst (v := 0) X (by decide) dX5_clearColumn_28 ?_
    refine wm_istore (lv' := [(8, .int 0), (7, .int v4), (6, .int v2), (0, .ref (ad 15)), (1, .int x1), (2, .int x2), (3, .int x3), (4, .int x4), (5, .int x5)]) X (by decide) rfl dX5_clearColumn_29 ?_
    refine wm_sub [3, 4, 5, 6, 8, 2, 1, 0] (lv' := [(0, .ref (ad 15)), (1, .int x1), (2, .int x2), (3, .int x3), (5, .int x5), (6, .int v2), (7, .int v4), (8, .int 0)]) rfl ?_
    obtain ⟨n0, h⟩ := h
    exact w_X5_clearColumn_31 hD X hr n0 x1 x2 x3 x5 v2 v4 0 σ h
  · replace h := h.2 c1
    exact wm_vret X hr h dX5_clearColumn_5
/-! X5_takeWay -/
abbrev rm_X5_takeWay : Room := { frames := 1, cells := 0, slots := 0, locals := 29 }
def jn_X5_takeWay_53 (post : St → Prop)  (x2 : Int32) (x3 : Int32) (σ : St) : Prop :=
  vp_in (x3 + x2) 3300 ∧ (vp_in 0 11 ∧ (∀ σ1 : St, σ1 = sA σ 11 (Int32.toNatClampNeg 0) (gA σ 9 (Int32.toNatClampNeg (x3 + x2))) → ∀ σ3 : St, σ3 = sI σ1 18 ((gI σ1 18) + 1) → post σ3))
def lp_X5_takeWay_11 (post : St → Prop)  : Nat → Int32 → Int32 → Int32 → St → Prop
  | 0, _, _, _, _ => False
  | n + 1, x2, x3, x4, σ =>
  ((20 + (gI σ 17)) ≤ x4 → jn_X5_takeWay_53 post x2 x3 σ) ∧ (¬ (20 + (gI σ 17)) ≤ x4 → wp_X5_startOf 0 x4 σ (fun r2 σ3 => wp_X5_startOf 0 x4 σ3 (fun r4 σ5 => vp_in 0 11 ∧ (wp_X5_clearColumn r2 r4 x3 x2 (gA σ5 11 (Int32.toNatClampNeg 0)) σ5 (fun σ7 => ∀ v8 : Int32, v8 = x4 + 1 → lp_X5_takeWay_11 post n x2 x3 v8 σ7)))))
def wp_X5_takeWay (x1 : Int32) (x2 : Int32) (σ : St) (post : St → Prop) : Prop :=
  wp_X5_startOf 0 x1 σ (fun r1 σ2 => ∀ v3 : Int32, v3 = x1 + 1 → ∃ fu : Nat, lp_X5_takeWay_11 post fu x2 r1 v3 σ2)
set_option maxRecDepth 100000 in
set_option maxHeartbeats 4000000 in
theorem w_X5_takeWay_53 {p : Program} {l : Launch} {e : Env} {s : State} {m : MethodId} {args : Array Value} {below : List Frame} {meth : Method} {c : Code} {G : va_G} {tI tJ tZ : ClassId} {ad : Nat → Nat} (hD : ∀ σ, va_D (Ad 22 ad) (wdC tI tJ tZ ad σ)) (X : Cx p s m args meth c cX5_takeWay 5 RX5 wsX5_takeWay G (tyL tI tJ tZ) (wdC tI tJ tZ ad) (Ad 22 ad)) (hr : meth.sig.returnType = none) {post : St → Prop}  (x2 : Int32) (x3 : Int32) (σ : St) (h : jn_X5_takeWay_53 post x2 x3 σ) : wm p l e rm_X5_takeWay s m args below meth c G (wdC tI tJ tZ ad) (Ad 22 ad) 5 (MQ below (Qv G (wdC tI tJ tZ ad) (Ad 22 ad) post) args s 0 0 (Ad 22 ad)) σ [(0, .ref (ad 15)), (2, .int x2), (3, .int x3)] 53 [] := by
  unfold jn_X5_takeWay_53 at h
  refine wm_aload_n X 0 rfl dX5_takeWay_53 ?_
  refine wm_get X (by decide +kernel) 15 rfl rfl 2 (by decide) (by decide +kernel) rfl dX5_takeWay_54 ?_
  refine wm_iconst (v := 0) X (by decide) dX5_takeWay_57 ?_
  refine wm_aload_n X 0 rfl dX5_takeWay_58 ?_
  refine wm_get X (by decide +kernel) 15 rfl rfl 0 (by decide) (by decide +kernel) rfl dX5_takeWay_59 ?_
  refine wm_iload_n X 2 rfl dX5_takeWay_62 ?_
  refine wm_iload_n X 1 rfl dX5_takeWay_63 ?_
  refine wm_iadd X dX5_takeWay_64 ?_
  refine wm_iald X 16 0 rfl rfl h.1 dX5_takeWay_65 ?_
  replace h := h.2
  refine wm_iast (σ' := sA σ 11 (Int32.toNatClampNeg 0) (gA σ 9 (Int32.toNatClampNeg (x3 + x2)))) X 18 0 rfl rfl h.1 rfl dX5_takeWay_66 ?_
  replace h := h.2
  refine wm_nmS (fun σ1 e2 => ?_)
  replace h := h σ1 e2
  clear e2
  refine wm_aload_n X 0 rfl dX5_takeWay_67 ?_
  refine wm_dup X rfl dX5_takeWay_68 ?_
  refine wm_get X (by decide +kernel) 15 rfl rfl 4 (by decide) (by decide +kernel) rfl dX5_takeWay_69 ?_
  refine wm_iconst (v := 1) X (by decide) dX5_takeWay_72 ?_
  refine wm_iadd X dX5_takeWay_73 ?_
  refine wm_put (σ' := sI σ1 18 ((gI σ1 18) + 1)) X (by decide +kernel) tyX5 tyX5_ok nmX5 15 rfl rfl 4 (by decide) (by decide +kernel) rfl (tyX5_ok 4 (by decide)) rfl rfl (Nat.le_of_ble_eq_true rfl) rfl dX5_takeWay_74 ?_
  refine wm_nmS (fun σ3 e4 => ?_)
  replace h := h σ3 e4
  clear e4
  exact wm_vret X hr h dX5_takeWay_77
set_option maxRecDepth 100000 in
set_option maxHeartbeats 4000000 in
theorem w_X5_takeWay_11 {p : Program} {l : Launch} {e : Env} {s : State} {m : MethodId} {args : Array Value} {below : List Frame} {meth : Method} {c : Code} {G : va_G} {tI tJ tZ : ClassId} {ad : Nat → Nat} (hD : ∀ σ, va_D (Ad 22 ad) (wdC tI tJ tZ ad σ)) (X : Cx p s m args meth c cX5_takeWay 5 RX5 wsX5_takeWay G (tyL tI tJ tZ) (wdC tI tJ tZ ad) (Ad 22 ad)) (hr : meth.sig.returnType = none) {post : St → Prop}  : ∀ (n : Nat) (x2 : Int32) (x3 : Int32) (x4 : Int32) (σ : St), lp_X5_takeWay_11 post n x2 x3 x4 σ → wm p l e rm_X5_takeWay s m args below meth c G (wdC tI tJ tZ ad) (Ad 22 ad) 5 (MQ below (Qv G (wdC tI tJ tZ ad) (Ad 22 ad) post) args s 0 0 (Ad 22 ad)) σ [(0, .ref (ad 15)), (2, .int x2), (3, .int x3), (4, .int x4)] 11 [] := by
  intro n
  induction n with
  | zero => intro x2 x3 x4 σ h; exact h.elim
  | succ n ih =>
    intro x2 x3 x4 σ h
    unfold lp_X5_takeWay_11 at h
    refine wm_iload X 3 rfl dX5_takeWay_11 ?_
    refine wm_bipush (v := 20) X (by decide) dX5_takeWay_13 ?_
    refine wm_aload_n X 0 rfl dX5_takeWay_15 ?_
    refine wm_get X (by decide +kernel) 15 rfl rfl 3 (by decide) (by decide +kernel) rfl dX5_takeWay_16 ?_
    refine wm_iadd X dX5_takeWay_19 ?_
    refine wm_icmp_ge (tgt := 53) X (by decide) dX5_takeWay_20 (fun c1 => ?_) (fun c1 => ?_)
    · replace h := h.1 c1
      refine wm_sub [0, 1, 2] (lv' := [(0, .ref (ad 15)), (2, .int x2), (3, .int x3)]) rfl ?_
      exact w_X5_takeWay_53 hD X hr x2 x3 σ h
    · replace h := h.2 c1
      refine wm_aload_n X 0 rfl dX5_takeWay_23 ?_
      refine wm_iconst (v := 0) X (by decide) dX5_takeWay_24 ?_
      refine wm_iload X 3 rfl dX5_takeWay_25 ?_
      refine wm_callSi (n := 2) (As := [.int 0, .int x4]) (rest := [.ref (ad 15)]) X (c_X5_startOf l G tI tJ tZ ad hD 0 x4 σ _ h) gX5_takeWay_X5_startOf rfl ⟨rfl, rfl⟩ (by decide +kernel) ⟨Nat.le_of_ble_eq_true rfl, Nat.le_of_ble_eq_true rfl⟩ rfl rfl (Nat.le_of_ble_eq_true rfl) dX5_takeWay_27 (fun r2 σ3 h => ?_)
      refine wm_iconst (v := 0) X (by decide) dX5_takeWay_30 ?_
      refine wm_iload X 3 rfl dX5_takeWay_31 ?_
      refine wm_callSi (n := 2) (As := [.int 0, .int x4]) (rest := [.int r2, .ref (ad 15)]) X (c_X5_startOf l G tI tJ tZ ad hD 0 x4 σ3 _ h) gX5_takeWay_X5_startOf rfl ⟨rfl, rfl⟩ (by decide +kernel) ⟨Nat.le_of_ble_eq_true rfl, Nat.le_of_ble_eq_true rfl⟩ rfl rfl (Nat.le_of_ble_eq_true rfl) dX5_takeWay_33 (fun r4 σ5 h => ?_)
      refine wm_iload_n X 2 rfl dX5_takeWay_36 ?_
      refine wm_iload_n X 1 rfl dX5_takeWay_37 ?_
      refine wm_aload_n X 0 rfl dX5_takeWay_38 ?_
      refine wm_get X (by decide +kernel) 15 rfl rfl 2 (by decide) (by decide +kernel) rfl dX5_takeWay_39 ?_
      refine wm_iconst (v := 0) X (by decide) dX5_takeWay_42 ?_
      refine wm_iald X 18 0 rfl rfl h.1 dX5_takeWay_43 ?_
      replace h := h.2
      refine wm_callVv (n := 5) (As := [.int r2, .int r4, .int x3, .int x2, .int (gA σ5 11 (Int32.toNatClampNeg 0))]) (rest := []) X (c_X5_clearColumn l G tI tJ tZ ad hD r2 r4 x3 x2 (gA σ5 11 (Int32.toNatClampNeg 0)) σ5 _ h) gX5_takeWay_X5_clearColumn rfl ⟨rfl, rfl⟩ (by decide +kernel) ⟨Nat.le_of_ble_eq_true rfl, Nat.le_of_ble_eq_true rfl⟩ 15 rfl rfl rfl rfl rfl (Nat.le_of_ble_eq_true rfl) dX5_takeWay_44 (fun σ7 h => ?_)
      obtain ⟨v8, e9⟩ : ∃ y : Int32, y = x4 + 1 := ⟨_, rfl⟩
      replace h := h v8 e9
      refine wm_iinc (v := v8) (lv' := [(4, .int v8), (0, .ref (ad 15)), (2, .int x2), (3, .int x3)]) X 3 rfl (by rw [e9]; rfl) (by decide) rfl dX5_takeWay_47 ?_
      clear e9
      refine wm_goto (tgt := 11) X (by decide) dX5_takeWay_50 ?_
      refine wm_sub [1, 2, 3, 0] (lv' := [(0, .ref (ad 15)), (2, .int x2), (3, .int x3), (4, .int v8)]) rfl ?_
      exact ih x2 x3 v8 σ7 h
set_option maxRecDepth 100000 in
set_option maxHeartbeats 4000000 in
theorem c_X5_takeWay (l : Launch) (G : va_G) (tI tJ tZ : ClassId) (ad : Nat → Nat) (hD : ∀ σ, va_D (Ad 22 ad) (wdC tI tJ tZ ad σ)) (x1 : Int32) (x2 : Int32) (σ : St) (post : St → Prop) (h : wp_X5_takeWay x1 x2 σ post) : Ct l yX5_takeWay wsX5_takeWay rm_X5_takeWay G (tyL tI tJ tZ) (wdC tI tJ tZ ad) (Ad 22 ad) [.ref (ad 15), .int x1, .int x2] σ (Qv G (wdC tI tJ tZ ad) (Ad 22 ad) post) := by
  refine wm_entry (cc := cX5_takeWay) (maxL := 5) (ret := none) (own := RX5) (lv := [(0, .ref (ad 15)), (1, .int x1), (2, .int x2)]) (by decide +kernel) rfl rfl (Nat.le_of_ble_eq_true rfl) rfl hD ?_
  intro p e s m below meth c X hr
  unfold wp_X5_takeWay at h
  refine wm_iconst (v := 0) X (by decide) dX5_takeWay_0 ?_
  refine wm_iload_n X 1 rfl dX5_takeWay_1 ?_
  refine wm_callSi (n := 2) (As := [.int 0, .int x1]) (rest := []) X (c_X5_startOf l G tI tJ tZ ad hD 0 x1 σ _ h) gX5_takeWay_X5_startOf rfl ⟨rfl, rfl⟩ (by decide +kernel) ⟨Nat.le_of_ble_eq_true rfl, Nat.le_of_ble_eq_true rfl⟩ rfl rfl (Nat.le_of_ble_eq_true rfl) dX5_takeWay_2 (fun r1 σ2 h => ?_)
  refine wm_istore_n (lv' := [(3, .int r1), (0, .ref (ad 15)), (1, .int x1), (2, .int x2)]) X rfl (by decide) rfl dX5_takeWay_5 ?_
  refine wm_iload_n X 2 rfl dX5_takeWay_6 ?_
  refine wm_iconst (v := 1) X (by decide) dX5_takeWay_7 ?_
  refine wm_iadd X dX5_takeWay_8 ?_
  refine wm_nmI (fun v3 e4 => ?_)
  replace h := h v3 e4
  clear e4
  refine wm_istore (lv' := [(4, .int v3), (3, .int r1), (0, .ref (ad 15)), (1, .int x1), (2, .int x2)]) X (by decide) rfl dX5_takeWay_9 ?_
  refine wm_sub [2, 4, 1, 0] (lv' := [(0, .ref (ad 15)), (2, .int x2), (3, .int r1), (4, .int v3)]) rfl ?_
  obtain ⟨n0, h⟩ := h
  exact w_X5_takeWay_11 hD X hr n0 x2 r1 v3 σ2 h
/-! X5_takeWays -/
abbrev rm_X5_takeWays : Room := { frames := 3, cells := 0, slots := 0, locals := 68 }
def lp_X5_takeWays_19 (post : St → Prop)  : Nat → Int32 → St → Prop
  | 0, _, _ => False
  | n + 1, x2, σ =>
  ((gI σ 1) ≤ x2 → post σ) ∧ (¬ (gI σ 1) ≤ x2 → wp_X5_firstFilledColumn 0 x2 σ (fun r2 σ3 => (r2 = (-1) → ∀ v5 : Int32, v5 = x2 + 1 → lp_X5_takeWays_19 post n v5 σ3) ∧ (¬ r2 = (-1) → wp_X5_takeWay x2 r2 σ3 (fun σ8 => ∀ v9 : Int32, v9 = x2 + 1 → lp_X5_takeWays_19 post n v9 σ8))))
def wp_X5_takeWays (σ : St) (post : St → Prop) : Prop :=
  wp_X5_load σ (fun σ2 => ∀ σ3 : St, σ3 = sI σ2 18 0 → vp_in 0 11 ∧ (∀ σ5 : St, σ5 = sA σ3 11 (Int32.toNatClampNeg 0) 1 → ∃ fu : Nat, lp_X5_takeWays_19 post fu 0 σ5))
set_option maxRecDepth 100000 in
set_option maxHeartbeats 4000000 in
theorem w_X5_takeWays_19 {p : Program} {l : Launch} {e : Env} {s : State} {m : MethodId} {args : Array Value} {below : List Frame} {meth : Method} {c : Code} {G : va_G} {tI tJ tZ : ClassId} {ad : Nat → Nat} (hD : ∀ σ, va_D (Ad 22 ad) (wdC tI tJ tZ ad σ)) (X : Cx p s m args meth c cX5_takeWays 4 RX5 wsX5_takeWays G (tyL tI tJ tZ) (wdC tI tJ tZ ad) (Ad 22 ad)) (hr : meth.sig.returnType = none) {post : St → Prop}  : ∀ (n : Nat) (x2 : Int32) (σ : St), lp_X5_takeWays_19 post n x2 σ → wm p l e rm_X5_takeWays s m args below meth c G (wdC tI tJ tZ ad) (Ad 22 ad) 4 (MQ below (Qv G (wdC tI tJ tZ ad) (Ad 22 ad) post) args s 0 0 (Ad 22 ad)) σ [(0, .ref (ad 15)), (1, .ref (ad 1)), (2, .int x2)] 19 [] := by
  intro n
  induction n with
  | zero => intro x2 σ h; exact h.elim
  | succ n ih =>
    intro x2 σ h
    unfold lp_X5_takeWays_19 at h
    refine wm_iload_n X 2 rfl dX5_takeWays_19 ?_
    refine wm_aload_n X 1 rfl dX5_takeWays_20 ?_
    refine wm_get X (by decide +kernel) 1 rfl rfl 4 (by decide) (by decide +kernel) rfl dX5_takeWays_21 ?_
    refine wm_icmp_ge (tgt := 51) X (by decide) dX5_takeWays_24 (fun c1 => ?_) (fun c1 => ?_)
    · replace h := h.1 c1
      exact wm_vret X hr h dX5_takeWays_51
    · replace h := h.2 c1
      refine wm_aload_n X 0 rfl dX5_takeWays_27 ?_
      refine wm_iconst (v := 0) X (by decide) dX5_takeWays_28 ?_
      refine wm_iload_n X 2 rfl dX5_takeWays_29 ?_
      refine wm_callVi (n := 2) (As := [.int 0, .int x2]) (rest := []) X (c_X5_firstFilledColumn l G tI tJ tZ ad hD 0 x2 σ _ h) gX5_takeWays_X5_firstFilledColumn rfl ⟨rfl, rfl⟩ (by decide +kernel) ⟨Nat.le_of_ble_eq_true rfl, Nat.le_of_ble_eq_true rfl⟩ 15 rfl rfl rfl rfl rfl (Nat.le_of_ble_eq_true rfl) dX5_takeWays_30 (fun r2 σ3 h => ?_)
      refine wm_istore_n (lv' := [(3, .int r2), (0, .ref (ad 15)), (1, .ref (ad 1)), (2, .int x2)]) X rfl (by decide) rfl dX5_takeWays_33 ?_
      refine wm_iload_n X 0 rfl dX5_takeWays_34 ?_
      refine wm_iconst (v := (-1)) X (by decide) dX5_takeWays_35 ?_
      refine wm_icmp_eq (tgt := 45) X (by decide) dX5_takeWays_36 (fun c4 => ?_) (fun c4 => ?_)
      · replace h := h.1 c4
        obtain ⟨v5, e6⟩ : ∃ y : Int32, y = x2 + 1 := ⟨_, rfl⟩
        replace h := h v5 e6
        refine wm_iinc (v := v5) (lv' := [(2, .int v5), (3, .int r2), (0, .ref (ad 15)), (1, .ref (ad 1))]) X 3 rfl (by rw [e6]; rfl) (by decide) rfl dX5_takeWays_45 ?_
        clear e6
        refine wm_goto (tgt := 19) X (by decide) dX5_takeWays_48 ?_
        refine wm_sub [2, 3, 0] (lv' := [(0, .ref (ad 15)), (1, .ref (ad 1)), (2, .int v5)]) rfl ?_
        exact ih v5 σ3 h
      · replace h := h.2 c4
        refine wm_aload_n X 1 rfl dX5_takeWays_39 ?_
        refine wm_iload_n X 3 rfl dX5_takeWays_40 ?_
        refine wm_iload_n X 0 rfl dX5_takeWays_41 ?_
        refine wm_callVv (n := 2) (As := [.int x2, .int r2]) (rest := []) X (c_X5_takeWay l G tI tJ tZ ad hD x2 r2 σ3 _ h) gX5_takeWays_X5_takeWay rfl ⟨rfl, rfl⟩ (by decide +kernel) ⟨Nat.le_of_ble_eq_true rfl, Nat.le_of_ble_eq_true rfl⟩ 15 rfl rfl rfl rfl rfl (Nat.le_of_ble_eq_true rfl) dX5_takeWays_42 (fun σ8 h => ?_)
        obtain ⟨v9, e10⟩ : ∃ y : Int32, y = x2 + 1 := ⟨_, rfl⟩
        replace h := h v9 e10
        refine wm_iinc (v := v9) (lv' := [(2, .int v9), (3, .int r2), (0, .ref (ad 15)), (1, .ref (ad 1))]) X 3 rfl (by rw [e10]; rfl) (by decide) rfl dX5_takeWays_45 ?_
        clear e10
        refine wm_goto (tgt := 19) X (by decide) dX5_takeWays_48 ?_
        refine wm_sub [2, 3, 0] (lv' := [(0, .ref (ad 15)), (1, .ref (ad 1)), (2, .int v9)]) rfl ?_
        exact ih v9 σ8 h
set_option maxRecDepth 100000 in
set_option maxHeartbeats 4000000 in
theorem c_X5_takeWays (l : Launch) (G : va_G) (tI tJ tZ : ClassId) (ad : Nat → Nat) (hD : ∀ σ, va_D (Ad 22 ad) (wdC tI tJ tZ ad σ))  (σ : St) (post : St → Prop) (h : wp_X5_takeWays  σ post) : Ct l yX5_takeWays wsX5_takeWays rm_X5_takeWays G (tyL tI tJ tZ) (wdC tI tJ tZ ad) (Ad 22 ad) [.ref (ad 15), .ref (ad 1)] σ (Qv G (wdC tI tJ tZ ad) (Ad 22 ad) post) := by
  refine wm_entry (cc := cX5_takeWays) (maxL := 4) (ret := none) (own := RX5) (lv := [(0, .ref (ad 15)), (1, .ref (ad 1))]) (by decide +kernel) rfl rfl (Nat.le_of_ble_eq_true rfl) rfl hD ?_
  intro p e s m below meth c X hr
  unfold wp_X5_takeWays at h
  refine wm_aload_n X 0 rfl dX5_takeWays_0 ?_
  refine wm_aload_n X 1 rfl dX5_takeWays_1 ?_
  refine wm_callVv (n := 1) (As := [.ref (ad 1)]) (rest := []) X (c_X5_load l G tI tJ tZ ad hD σ _ h) gX5_takeWays_X5_load rfl ⟨rfl, rfl⟩ (by decide +kernel) ⟨Nat.le_of_ble_eq_true rfl, Nat.le_of_ble_eq_true rfl⟩ 15 rfl rfl rfl rfl rfl (Nat.le_of_ble_eq_true rfl) dX5_takeWays_2 (fun σ2 h => ?_)
  refine wm_aload_n X 0 rfl dX5_takeWays_5 ?_
  refine wm_iconst (v := 0) X (by decide) dX5_takeWays_6 ?_
  refine wm_put (σ' := sI σ2 18 0) X (by decide +kernel) tyX5 tyX5_ok nmX5 15 rfl rfl 4 (by decide) (by decide +kernel) rfl (tyX5_ok 4 (by decide)) rfl rfl (Nat.le_of_ble_eq_true rfl) rfl dX5_takeWays_7 ?_
  refine wm_nmS (fun σ3 e4 => ?_)
  replace h := h σ3 e4
  clear e4
  refine wm_aload_n X 0 rfl dX5_takeWays_10 ?_
  refine wm_get X (by decide +kernel) 15 rfl rfl 2 (by decide) (by decide +kernel) rfl dX5_takeWays_11 ?_
  refine wm_iconst (v := 0) X (by decide) dX5_takeWays_14 ?_
  refine wm_iconst (v := 1) X (by decide) dX5_takeWays_15 ?_
  refine wm_iast (σ' := sA σ3 11 (Int32.toNatClampNeg 0) 1) X 18 0 rfl rfl h.1 rfl dX5_takeWays_16 ?_
  replace h := h.2
  refine wm_nmS (fun σ5 e6 => ?_)
  replace h := h σ5 e6
  clear e6
  refine wm_iconst (v := 0) X (by decide) dX5_takeWays_17 ?_
  refine wm_istore_n (lv' := [(2, .int 0), (0, .ref (ad 15)), (1, .ref (ad 1))]) X rfl (by decide) rfl dX5_takeWays_18 ?_
  refine wm_sub [1, 2, 0] (lv' := [(0, .ref (ad 15)), (1, .ref (ad 1)), (2, .int 0)]) rfl ?_
  obtain ⟨n0, h⟩ := h
  exact w_X5_takeWays_19 hD X hr n0 0 σ5 h
/-! X5_linesFromWays -/
abbrev rm_X5_linesFromWays : Room := { frames := 4, cells := 0, slots := 0, locals := 91 }
def lp_X5_linesFromWays_9 (post : Int32 → St → Prop)  : Nat → Int32 → Int32 → St → Prop
  | 0, _, _, _ => False
  | n + 1, x2, x3, σ =>
  ((gI σ 17) ≤ x3 → post x2 σ) ∧ (¬ (gI σ 17) ≤ x3 → wp_X5_firstFilledColumn 0 (20 + x3) σ (fun r2 σ3 => (¬ r2 = (-1) → ∀ v5 : Int32, v5 = x3 + 1 → lp_X5_linesFromWays_9 post n x2 v5 σ3) ∧ (r2 = (-1) → ∀ v7 : Int32, v7 = x2 ||| (1 <<< (x3 &&& 31)) → ∀ v9 : Int32, v9 = x3 + 1 → lp_X5_linesFromWays_9 post n v7 v9 σ3)))
def wp_X5_linesFromWays (σ : St) (post : Int32 → St → Prop) : Prop :=
  wp_X5_takeWays σ (fun σ2 => ∃ fu : Nat, lp_X5_linesFromWays_9 post fu 0 0 σ2)
set_option maxRecDepth 100000 in
set_option maxHeartbeats 4000000 in
theorem w_X5_linesFromWays_9 {p : Program} {l : Launch} {e : Env} {s : State} {m : MethodId} {args : Array Value} {below : List Frame} {meth : Method} {c : Code} {G : va_G} {tI tJ tZ : ClassId} {ad : Nat → Nat} (hD : ∀ σ, va_D (Ad 22 ad) (wdC tI tJ tZ ad σ)) (X : Cx p s m args meth c cX5_linesFromWays 4 RX5 wsX5_linesFromWays G (tyL tI tJ tZ) (wdC tI tJ tZ ad) (Ad 22 ad)) (hr : meth.sig.returnType = (some .int)) {post : Int32 → St → Prop}  : ∀ (n : Nat) (x2 : Int32) (x3 : Int32) (σ : St), lp_X5_linesFromWays_9 post n x2 x3 σ → wm p l e rm_X5_linesFromWays s m args below meth c G (wdC tI tJ tZ ad) (Ad 22 ad) 4 (MQ below (Qi G (wdC tI tJ tZ ad) (Ad 22 ad) post) args s 0 0 (Ad 22 ad)) σ [(0, .ref (ad 15)), (2, .int x2), (3, .int x3)] 9 [] := by
  intro n
  induction n with
  | zero => intro x2 x3 σ h; exact h.elim
  | succ n ih =>
    intro x2 x3 σ h
    unfold lp_X5_linesFromWays_9 at h
    refine wm_iload_n X 2 rfl dX5_linesFromWays_9 ?_
    refine wm_aload_n X 0 rfl dX5_linesFromWays_10 ?_
    refine wm_get X (by decide +kernel) 15 rfl rfl 3 (by decide) (by decide +kernel) rfl dX5_linesFromWays_11 ?_
    refine wm_icmp_ge (tgt := 42) X (by decide) dX5_linesFromWays_14 (fun c1 => ?_) (fun c1 => ?_)
    · replace h := h.1 c1
      refine wm_iload_n X 1 rfl dX5_linesFromWays_42 ?_
      exact wm_iret X hr h dX5_linesFromWays_43
    · replace h := h.2 c1
      refine wm_aload_n X 0 rfl dX5_linesFromWays_17 ?_
      refine wm_iconst (v := 0) X (by decide) dX5_linesFromWays_18 ?_
      refine wm_bipush (v := 20) X (by decide) dX5_linesFromWays_19 ?_
      refine wm_iload_n X 2 rfl dX5_linesFromWays_21 ?_
      refine wm_iadd X dX5_linesFromWays_22 ?_
      refine wm_callVi (n := 2) (As := [.int 0, .int (20 + x3)]) (rest := []) X (c_X5_firstFilledColumn l G tI tJ tZ ad hD 0 (20 + x3) σ _ h) gX5_linesFromWays_X5_firstFilledColumn rfl ⟨rfl, rfl⟩ (by decide +kernel) ⟨Nat.le_of_ble_eq_true rfl, Nat.le_of_ble_eq_true rfl⟩ 15 rfl rfl rfl rfl rfl (Nat.le_of_ble_eq_true rfl) dX5_linesFromWays_23 (fun r2 σ3 h => ?_)
      refine wm_iconst (v := (-1)) X (by decide) dX5_linesFromWays_26 ?_
      refine wm_icmp_ne (tgt := 36) X (by decide) dX5_linesFromWays_27 (fun c4 => ?_) (fun c4 => ?_)
      · replace h := h.1 c4
        obtain ⟨v5, e6⟩ : ∃ y : Int32, y = x3 + 1 := ⟨_, rfl⟩
        replace h := h v5 e6
        refine wm_iinc (v := v5) (lv' := [(3, .int v5), (0, .ref (ad 15)), (2, .int x2)]) X 2 rfl (by rw [e6]; rfl) (by decide) rfl dX5_linesFromWays_36 ?_
        clear e6
        refine wm_goto (tgt := 9) X (by decide) dX5_linesFromWays_39 ?_
        refine wm_sub [1, 2, 0] (lv' := [(0, .ref (ad 15)), (2, .int x2), (3, .int v5)]) rfl ?_
        exact ih x2 v5 σ3 h
      · replace h := h.2 c4
        refine wm_iload_n X 1 rfl dX5_linesFromWays_30 ?_
        refine wm_iconst (v := 1) X (by decide) dX5_linesFromWays_31 ?_
        refine wm_iload_n X 2 rfl dX5_linesFromWays_32 ?_
        refine wm_ishl X dX5_linesFromWays_33 ?_
        refine wm_ior X dX5_linesFromWays_34 ?_
        refine wm_nmI (fun v7 e8 => ?_)
        replace h := h v7 e8
        clear e8
        refine wm_istore_n (lv' := [(2, .int v7), (0, .ref (ad 15)), (3, .int x3)]) X rfl (by decide) rfl dX5_linesFromWays_35 ?_
        obtain ⟨v9, e10⟩ : ∃ y : Int32, y = x3 + 1 := ⟨_, rfl⟩
        replace h := h v9 e10
        refine wm_iinc (v := v9) (lv' := [(3, .int v9), (2, .int v7), (0, .ref (ad 15))]) X 2 rfl (by rw [e10]; rfl) (by decide) rfl dX5_linesFromWays_36 ?_
        clear e10
        refine wm_goto (tgt := 9) X (by decide) dX5_linesFromWays_39 ?_
        refine wm_sub [2, 1, 0] (lv' := [(0, .ref (ad 15)), (2, .int v7), (3, .int v9)]) rfl ?_
        exact ih v7 v9 σ3 h
set_option maxRecDepth 100000 in
set_option maxHeartbeats 4000000 in
theorem c_X5_linesFromWays (l : Launch) (G : va_G) (tI tJ tZ : ClassId) (ad : Nat → Nat) (hD : ∀ σ, va_D (Ad 22 ad) (wdC tI tJ tZ ad σ))  (σ : St) (post : Int32 → St → Prop) (h : wp_X5_linesFromWays  σ post) : Ct l yX5_linesFromWays wsX5_linesFromWays rm_X5_linesFromWays G (tyL tI tJ tZ) (wdC tI tJ tZ ad) (Ad 22 ad) [.ref (ad 15), .ref (ad 1)] σ (Qi G (wdC tI tJ tZ ad) (Ad 22 ad) post) := by
  refine wm_entry (cc := cX5_linesFromWays) (maxL := 4) (ret := (some .int)) (own := RX5) (lv := [(0, .ref (ad 15)), (1, .ref (ad 1))]) (by decide +kernel) rfl rfl (Nat.le_of_ble_eq_true rfl) rfl hD ?_
  intro p e s m below meth c X hr
  unfold wp_X5_linesFromWays at h
  refine wm_aload_n X 0 rfl dX5_linesFromWays_0 ?_
  refine wm_aload_n X 1 rfl dX5_linesFromWays_1 ?_
  refine wm_callVv (n := 1) (As := [.ref (ad 1)]) (rest := []) X (c_X5_takeWays l G tI tJ tZ ad hD σ _ h) gX5_linesFromWays_X5_takeWays rfl ⟨rfl, rfl⟩ (by decide +kernel) ⟨Nat.le_of_ble_eq_true rfl, Nat.le_of_ble_eq_true rfl⟩ 15 rfl rfl rfl rfl rfl (Nat.le_of_ble_eq_true rfl) dX5_linesFromWays_2 (fun σ2 h => ?_)
  refine wm_iconst (v := 0) X (by decide) dX5_linesFromWays_5 ?_
  refine wm_istore_n (lv' := [(2, .int 0), (0, .ref (ad 15)), (1, .ref (ad 1))]) X rfl (by decide) rfl dX5_linesFromWays_6 ?_
  refine wm_iconst (v := 0) X (by decide) dX5_linesFromWays_7 ?_
  refine wm_istore_n (lv' := [(3, .int 0), (2, .int 0), (0, .ref (ad 15)), (1, .ref (ad 1))]) X rfl (by decide) rfl dX5_linesFromWays_8 ?_
  refine wm_sub [2, 1, 0] (lv' := [(0, .ref (ad 15)), (2, .int 0), (3, .int 0)]) rfl ?_
  obtain ⟨n0, h⟩ := h
  exact w_X5_linesFromWays_9 hD X hr n0 0 0 σ2 h
/-! J6_bitCount_0f7a4 -/
abbrev rm_J6_bitCount_0f7a4 : Room := { frames := 0, cells := 0, slots := 0, locals := 0 }
def wp_J6_bitCount_0f7a4 (x0 : Int32) (σ : St) (post : Int32 → St → Prop) : Prop :=
  ∀ v1 : Int32, v1 = x0 - (((Int32.toUInt32 x0 >>> (Int32.toUInt32 1 &&& Int32.toUInt32 31)).toInt32) &&& 1431655765) → ∀ v3 : Int32, v3 = (v1 &&& 858993459) + (((Int32.toUInt32 v1 >>> (Int32.toUInt32 2 &&& Int32.toUInt32 31)).toInt32) &&& 858993459) → ∀ v5 : Int32, v5 = (v3 + ((Int32.toUInt32 v3 >>> (Int32.toUInt32 4 &&& Int32.toUInt32 31)).toInt32)) &&& 252645135 → ∀ v7 : Int32, v7 = v5 + ((Int32.toUInt32 v5 >>> (Int32.toUInt32 8 &&& Int32.toUInt32 31)).toInt32) → ∀ v9 : Int32, v9 = v7 + ((Int32.toUInt32 v7 >>> (Int32.toUInt32 16 &&& Int32.toUInt32 31)).toInt32) → post (v9 &&& 63) σ
set_option maxRecDepth 100000 in
set_option maxHeartbeats 4000000 in
theorem c_J6_bitCount_0f7a4 (l : Launch) (G : va_G) (tI tJ tZ : ClassId) (ad : Nat → Nat) (hD : ∀ σ, va_D (Ad 22 ad) (wdC tI tJ tZ ad σ)) (x0 : Int32) (σ : St) (post : Int32 → St → Prop) (h : wp_J6_bitCount_0f7a4 x0 σ post) : Ct l yJ6_bitCount_0f7a4 wsJ6_bitCount_0f7a4 rm_J6_bitCount_0f7a4 G (tyL tI tJ tZ) (wdC tI tJ tZ ad) (Ad 22 ad) [.int x0] σ (Qi G (wdC tI tJ tZ ad) (Ad 22 ad) post) := by
  refine wm_entry (cc := cJ6_bitCount_0f7a4) (maxL := 1) (ret := (some .int)) (own := RJ6) (lv := [(0, .int x0)]) (by decide +kernel) rfl rfl (Nat.le_of_ble_eq_true rfl) rfl hD ?_
  intro p e s m below meth c X hr
  unfold wp_J6_bitCount_0f7a4 at h
  refine wm_iload_n X 0 rfl dJ6_bitCount_0f7a4_0 ?_
  refine wm_iload_n X 0 rfl dJ6_bitCount_0f7a4_1 ?_
  refine wm_iconst (v := 1) X (by decide) dJ6_bitCount_0f7a4_2 ?_
  refine wm_iushr X dJ6_bitCount_0f7a4_3 ?_
  refine wm_ldcw (v := 1431655765) X (by decide +kernel) dJ6_bitCount_0f7a4_4 ?_
  refine wm_iand X dJ6_bitCount_0f7a4_7 ?_
  refine wm_isub X dJ6_bitCount_0f7a4_8 ?_
  refine wm_nmI (fun v1 e2 => ?_)
  replace h := h v1 e2
  clear e2
  refine wm_istore_n (lv' := [(0, .int v1)]) X rfl (by decide) rfl dJ6_bitCount_0f7a4_9 ?_
  refine wm_iload_n X 0 rfl dJ6_bitCount_0f7a4_10 ?_
  refine wm_ldcw (v := 858993459) X (by decide +kernel) dJ6_bitCount_0f7a4_11 ?_
  refine wm_iand X dJ6_bitCount_0f7a4_14 ?_
  refine wm_iload_n X 0 rfl dJ6_bitCount_0f7a4_15 ?_
  refine wm_iconst (v := 2) X (by decide) dJ6_bitCount_0f7a4_16 ?_
  refine wm_iushr X dJ6_bitCount_0f7a4_17 ?_
  refine wm_ldcw (v := 858993459) X (by decide +kernel) dJ6_bitCount_0f7a4_18 ?_
  refine wm_iand X dJ6_bitCount_0f7a4_21 ?_
  refine wm_iadd X dJ6_bitCount_0f7a4_22 ?_
  refine wm_nmI (fun v3 e4 => ?_)
  replace h := h v3 e4
  clear e4
  refine wm_istore_n (lv' := [(0, .int v3)]) X rfl (by decide) rfl dJ6_bitCount_0f7a4_23 ?_
  refine wm_iload_n X 0 rfl dJ6_bitCount_0f7a4_24 ?_
  refine wm_iload_n X 0 rfl dJ6_bitCount_0f7a4_25 ?_
  refine wm_iconst (v := 4) X (by decide) dJ6_bitCount_0f7a4_26 ?_
  refine wm_iushr X dJ6_bitCount_0f7a4_27 ?_
  refine wm_iadd X dJ6_bitCount_0f7a4_28 ?_
  refine wm_ldcw (v := 252645135) X (by decide +kernel) dJ6_bitCount_0f7a4_29 ?_
  refine wm_iand X dJ6_bitCount_0f7a4_32 ?_
  refine wm_nmI (fun v5 e6 => ?_)
  replace h := h v5 e6
  clear e6
  refine wm_istore_n (lv' := [(0, .int v5)]) X rfl (by decide) rfl dJ6_bitCount_0f7a4_33 ?_
  refine wm_iload_n X 0 rfl dJ6_bitCount_0f7a4_34 ?_
  refine wm_iload_n X 0 rfl dJ6_bitCount_0f7a4_35 ?_
  refine wm_bipush (v := 8) X (by decide) dJ6_bitCount_0f7a4_36 ?_
  refine wm_iushr X dJ6_bitCount_0f7a4_38 ?_
  refine wm_iadd X dJ6_bitCount_0f7a4_39 ?_
  refine wm_nmI (fun v7 e8 => ?_)
  replace h := h v7 e8
  clear e8
  refine wm_istore_n (lv' := [(0, .int v7)]) X rfl (by decide) rfl dJ6_bitCount_0f7a4_40 ?_
  refine wm_iload_n X 0 rfl dJ6_bitCount_0f7a4_41 ?_
  refine wm_iload_n X 0 rfl dJ6_bitCount_0f7a4_42 ?_
  refine wm_bipush (v := 16) X (by decide) dJ6_bitCount_0f7a4_43 ?_
  refine wm_iushr X dJ6_bitCount_0f7a4_45 ?_
  refine wm_iadd X dJ6_bitCount_0f7a4_46 ?_
  refine wm_nmI (fun v9 e10 => ?_)
  replace h := h v9 e10
  clear e10
  refine wm_istore_n (lv' := [(0, .int v9)]) X rfl (by decide) rfl dJ6_bitCount_0f7a4_47 ?_
  refine wm_iload_n X 0 rfl dJ6_bitCount_0f7a4_48 ?_
  refine wm_bipush (v := 63) X (by decide) dJ6_bitCount_0f7a4_49 ?_
  refine wm_iand X dJ6_bitCount_0f7a4_51 ?_
  exact wm_iret X hr h dJ6_bitCount_0f7a4_52
/-! J7_fill_d0a16_6 -/
abbrev rm_J7_fill_d0a16_6 : Room := { frames := 0, cells := 0, slots := 0, locals := 0 }
def lp_J7_fill_d0a16_6_6 (post : St → Prop)  : Nat → Int64 → Int32 → Int32 → St → Prop
  | 0, _, _, _, _ => False
  | n + 1, x1, x3, x4, σ =>
  (x4 ≤ x3 → post σ) ∧ (¬ x4 ≤ x3 → vp_in x3 210 ∧ (∀ σ2 : St, σ2 = sB σ 0 (Int32.toNatClampNeg x3) x1 → ∀ v4 : Int32, v4 = x3 + 1 → lp_J7_fill_d0a16_6_6 post n x1 v4 x4 σ2))
def wp_J7_fill_d0a16_6 (x1 : Int64) (σ : St) (post : St → Prop) : Prop :=
  ∃ fu : Nat, lp_J7_fill_d0a16_6_6 post fu x1 0 210 σ
set_option maxRecDepth 100000 in
set_option maxHeartbeats 4000000 in
theorem w_J7_fill_d0a16_6_6 {p : Program} {l : Launch} {e : Env} {s : State} {m : MethodId} {args : Array Value} {below : List Frame} {meth : Method} {c : Code} {G : va_G} {tI tJ tZ : ClassId} {ad : Nat → Nat} (hD : ∀ σ, va_D (Ad 22 ad) (wdC tI tJ tZ ad σ)) (X : Cx p s m args meth c cJ7_fill_d0a16 5 RJ7 wsJ7_fill_d0a16 G (tyL tI tJ tZ) (wdC tI tJ tZ ad) (Ad 22 ad)) (hr : meth.sig.returnType = none) {post : St → Prop}  : ∀ (n : Nat) (x1 : Int64) (x3 : Int32) (x4 : Int32) (σ : St), lp_J7_fill_d0a16_6_6 post n x1 x3 x4 σ → wm p l e rm_J7_fill_d0a16_6 s m args below meth c G (wdC tI tJ tZ ad) (Ad 22 ad) 5 (MQ below (Qv G (wdC tI tJ tZ ad) (Ad 22 ad) post) args s 0 0 (Ad 22 ad)) σ [(0, .ref (ad 6)), (1, .long x1), (3, .int x3), (4, .int x4)] 6 [] := by
  intro n
  induction n with
  | zero => intro x1 x3 x4 σ h; exact h.elim
  | succ n ih =>
    intro x1 x3 x4 σ h
    unfold lp_J7_fill_d0a16_6_6 at h
    refine wm_iload_n X 2 rfl dJ7_fill_d0a16_6 ?_
    refine wm_iload X 3 rfl dJ7_fill_d0a16_7 ?_
    refine wm_icmp_ge (tgt := 22) X (by decide) dJ7_fill_d0a16_9 (fun c1 => ?_) (fun c1 => ?_)
    · replace h := h.1 c1
      exact wm_vret X hr h dJ7_fill_d0a16_22
    · replace h := h.2 c1
      refine wm_aload_n X 0 rfl dJ7_fill_d0a16_12 ?_
      refine wm_iload_n X 2 rfl dJ7_fill_d0a16_13 ?_
      refine wm_lload_n X 1 rfl dJ7_fill_d0a16_14 ?_
      refine wm_last (σ' := sB σ 0 (Int32.toNatClampNeg x3) x1) X 6 1 rfl rfl h.1 rfl dJ7_fill_d0a16_15 ?_
      replace h := h.2
      refine wm_nmS (fun σ2 e3 => ?_)
      replace h := h σ2 e3
      clear e3
      obtain ⟨v4, e5⟩ : ∃ y : Int32, y = x3 + 1 := ⟨_, rfl⟩
      replace h := h v4 e5
      refine wm_iinc (v := v4) (lv' := [(3, .int v4), (0, .ref (ad 6)), (1, .long x1), (4, .int x4)]) X 2 rfl (by rw [e5]; rfl) (by decide) rfl dJ7_fill_d0a16_16 ?_
      clear e5
      refine wm_goto (tgt := 6) X (by decide) dJ7_fill_d0a16_19 ?_
      refine wm_sub [1, 2, 0, 3] (lv' := [(0, .ref (ad 6)), (1, .long x1), (3, .int v4), (4, .int x4)]) rfl ?_
      exact ih x1 v4 x4 σ2 h
set_option maxRecDepth 100000 in
set_option maxHeartbeats 4000000 in
theorem c_J7_fill_d0a16_6 (l : Launch) (G : va_G) (tI tJ tZ : ClassId) (ad : Nat → Nat) (hD : ∀ σ, va_D (Ad 22 ad) (wdC tI tJ tZ ad σ)) (x1 : Int64) (σ : St) (post : St → Prop) (h : wp_J7_fill_d0a16_6 x1 σ post) : Ct l yJ7_fill_d0a16 wsJ7_fill_d0a16 rm_J7_fill_d0a16_6 G (tyL tI tJ tZ) (wdC tI tJ tZ ad) (Ad 22 ad) [.ref (ad 6), .long x1] σ (Qv G (wdC tI tJ tZ ad) (Ad 22 ad) post) := by
  refine wm_entry (cc := cJ7_fill_d0a16) (maxL := 5) (ret := none) (own := RJ7) (lv := [(0, .ref (ad 6)), (1, .long x1)]) (by decide +kernel) rfl rfl (Nat.le_of_ble_eq_true rfl) rfl hD ?_
  intro p e s m below meth c X hr
  unfold wp_J7_fill_d0a16_6 at h
  refine wm_iconst (v := 0) X (by decide) dJ7_fill_d0a16_0 ?_
  refine wm_istore_n (lv' := [(3, .int 0), (0, .ref (ad 6)), (1, .long x1)]) X rfl (by decide) rfl dJ7_fill_d0a16_1 ?_
  refine wm_aload_n X 1 rfl dJ7_fill_d0a16_2 ?_
  refine wm_alen (v := 210) X 6 1 rfl rfl rfl dJ7_fill_d0a16_3 ?_
  refine wm_istore (lv' := [(4, .int 210), (3, .int 0), (0, .ref (ad 6)), (1, .long x1)]) X (by decide) rfl dJ7_fill_d0a16_4 ?_
  refine wm_sub [2, 3, 1, 0] (lv' := [(0, .ref (ad 6)), (1, .long x1), (3, .int 0), (4, .int 210)]) rfl ?_
  obtain ⟨n0, h⟩ := h
  exact w_J7_fill_d0a16_6_6 hD X hr n0 x1 0 210 σ h
/-! X0_loadRow -/
abbrev rm_X0_loadRow : Room := { frames := 1, cells := 0, slots := 0, locals := 21 }
def jn_X0_loadRow_43 (post : St → Prop)  (x1 : Int32) (x3 : Int32) (x4 : Int32) (σ : St) : Prop :=
  vp_in ((x4 + (gI σ 6)) + x1) 210 ∧ (∀ σ1 : St, σ1 = sB σ 0 (Int32.toNatClampNeg ((x4 + (gI σ 6)) + x1)) 1 → vp_in ((x4 + (gI σ1 8)) - 1) 210 ∧ (∀ σ3 : St, σ3 = sB σ1 0 (Int32.toNatClampNeg ((x4 + (gI σ1 8)) - 1)) (Int32.toInt64 x3) → vp_in x1 10 ∧ (∀ σ5 : St, σ5 = sA σ3 3 (Int32.toNatClampNeg x1) (-1) → post σ5)))
def lp_X0_loadRow_11 (post : St → Prop)  : Nat → Int32 → Int32 → Int32 → Int32 → Int32 → St → Prop
  | 0, _, _, _, _, _, _ => False
  | n + 1, x1, x2, x3, x4, x5, σ =>
  ((gI σ 6) ≤ x5 → jn_X0_loadRow_43 post x1 x3 x4 σ) ∧ (¬ (gI σ 6) ≤ x5 → wp_X6_bitOf x2 x5 σ (fun r2 σ3 => vp_in (x4 + x5) 210 ∧ (∀ σ4 : St, σ4 = sB σ3 0 (Int32.toNatClampNeg (x4 + x5)) (Int32.toInt64 r2) → ∀ v6 : Int32, v6 = x5 + 1 → lp_X0_loadRow_11 post n x1 x2 x3 x4 v6 σ4)))
def wp_X0_loadRow (x1 : Int32) (x2 : Int32) (x3 : Int32) (σ : St) (post : St → Prop) : Prop :=
  ∀ v1 : Int32, v1 = x1 * (gI σ 8) → ∃ fu : Nat, lp_X0_loadRow_11 post fu x1 x2 x3 v1 0 σ
set_option maxRecDepth 100000 in
set_option maxHeartbeats 4000000 in
theorem w_X0_loadRow_43 {p : Program} {l : Launch} {e : Env} {s : State} {m : MethodId} {args : Array Value} {below : List Frame} {meth : Method} {c : Code} {G : va_G} {tI tJ tZ : ClassId} {ad : Nat → Nat} (hD : ∀ σ, va_D (Ad 22 ad) (wdC tI tJ tZ ad σ)) (X : Cx p s m args meth c cX0_loadRow 6 RX0 wsX0_loadRow G (tyL tI tJ tZ) (wdC tI tJ tZ ad) (Ad 22 ad)) (hr : meth.sig.returnType = none) {post : St → Prop}  (x1 : Int32) (x3 : Int32) (x4 : Int32) (σ : St) (h : jn_X0_loadRow_43 post x1 x3 x4 σ) : wm p l e rm_X0_loadRow s m args below meth c G (wdC tI tJ tZ ad) (Ad 22 ad) 6 (MQ below (Qv G (wdC tI tJ tZ ad) (Ad 22 ad) post) args s 0 0 (Ad 22 ad)) σ [(0, .ref (ad 5)), (1, .int x1), (3, .int x3), (4, .int x4)] 43 [] := by
  unfold jn_X0_loadRow_43 at h
  refine wm_aload_n X 0 rfl dX0_loadRow_43 ?_
  refine wm_get X (by decide +kernel) 5 rfl rfl 0 (by decide) (by decide +kernel) rfl dX0_loadRow_44 ?_
  refine wm_iload X 3 rfl dX0_loadRow_47 ?_
  refine wm_aload_n X 0 rfl dX0_loadRow_49 ?_
  refine wm_get X (by decide +kernel) 5 rfl rfl 5 (by decide) (by decide +kernel) rfl dX0_loadRow_50 ?_
  refine wm_iadd X dX0_loadRow_53 ?_
  refine wm_iload_n X 1 rfl dX0_loadRow_54 ?_
  refine wm_iadd X dX0_loadRow_55 ?_
  refine wm_lconst (v := 1) X (by decide) dX0_loadRow_56 ?_
  refine wm_last (σ' := sB σ 0 (Int32.toNatClampNeg ((x4 + (gI σ 6)) + x1)) 1) X 6 1 rfl rfl h.1 rfl dX0_loadRow_57 ?_
  replace h := h.2
  refine wm_nmS (fun σ1 e2 => ?_)
  replace h := h σ1 e2
  clear e2
  refine wm_aload_n X 0 rfl dX0_loadRow_58 ?_
  refine wm_get X (by decide +kernel) 5 rfl rfl 0 (by decide) (by decide +kernel) rfl dX0_loadRow_59 ?_
  refine wm_iload X 3 rfl dX0_loadRow_62 ?_
  refine wm_aload_n X 0 rfl dX0_loadRow_64 ?_
  refine wm_get X (by decide +kernel) 5 rfl rfl 7 (by decide) (by decide +kernel) rfl dX0_loadRow_65 ?_
  refine wm_iadd X dX0_loadRow_68 ?_
  refine wm_iconst (v := 1) X (by decide) dX0_loadRow_69 ?_
  refine wm_isub X dX0_loadRow_70 ?_
  refine wm_iload_n X 2 rfl dX0_loadRow_71 ?_
  refine wm_i2l X dX0_loadRow_72 ?_
  refine wm_last (σ' := sB σ1 0 (Int32.toNatClampNeg ((x4 + (gI σ1 8)) - 1)) (Int32.toInt64 x3)) X 6 1 rfl rfl h.1 rfl dX0_loadRow_73 ?_
  replace h := h.2
  refine wm_nmS (fun σ3 e4 => ?_)
  replace h := h σ3 e4
  clear e4
  refine wm_aload_n X 0 rfl dX0_loadRow_74 ?_
  refine wm_get X (by decide +kernel) 5 rfl rfl 1 (by decide) (by decide +kernel) rfl dX0_loadRow_75 ?_
  refine wm_iload_n X 1 rfl dX0_loadRow_78 ?_
  refine wm_iconst (v := (-1)) X (by decide) dX0_loadRow_79 ?_
  refine wm_iast (σ' := sA σ3 3 (Int32.toNatClampNeg x1) (-1)) X 7 0 rfl rfl h.1 rfl dX0_loadRow_80 ?_
  replace h := h.2
  refine wm_nmS (fun σ5 e6 => ?_)
  replace h := h σ5 e6
  clear e6
  exact wm_vret X hr h dX0_loadRow_81
set_option maxRecDepth 100000 in
set_option maxHeartbeats 4000000 in
theorem w_X0_loadRow_11 {p : Program} {l : Launch} {e : Env} {s : State} {m : MethodId} {args : Array Value} {below : List Frame} {meth : Method} {c : Code} {G : va_G} {tI tJ tZ : ClassId} {ad : Nat → Nat} (hD : ∀ σ, va_D (Ad 22 ad) (wdC tI tJ tZ ad σ)) (X : Cx p s m args meth c cX0_loadRow 6 RX0 wsX0_loadRow G (tyL tI tJ tZ) (wdC tI tJ tZ ad) (Ad 22 ad)) (hr : meth.sig.returnType = none) {post : St → Prop}  : ∀ (n : Nat) (x1 : Int32) (x2 : Int32) (x3 : Int32) (x4 : Int32) (x5 : Int32) (σ : St), lp_X0_loadRow_11 post n x1 x2 x3 x4 x5 σ → wm p l e rm_X0_loadRow s m args below meth c G (wdC tI tJ tZ ad) (Ad 22 ad) 6 (MQ below (Qv G (wdC tI tJ tZ ad) (Ad 22 ad) post) args s 0 0 (Ad 22 ad)) σ [(0, .ref (ad 5)), (1, .int x1), (2, .int x2), (3, .int x3), (4, .int x4), (5, .int x5)] 11 [] := by
  intro n
  induction n with
  | zero => intro x1 x2 x3 x4 x5 σ h; exact h.elim
  | succ n ih =>
    intro x1 x2 x3 x4 x5 σ h
    unfold lp_X0_loadRow_11 at h
    refine wm_iload X 5 rfl dX0_loadRow_11 ?_
    refine wm_aload_n X 0 rfl dX0_loadRow_13 ?_
    refine wm_get X (by decide +kernel) 5 rfl rfl 5 (by decide) (by decide +kernel) rfl dX0_loadRow_14 ?_
    refine wm_icmp_ge (tgt := 43) X (by decide) dX0_loadRow_17 (fun c1 => ?_) (fun c1 => ?_)
    · replace h := h.1 c1
      refine wm_sub [0, 1, 3, 4] (lv' := [(0, .ref (ad 5)), (1, .int x1), (3, .int x3), (4, .int x4)]) rfl ?_
      exact w_X0_loadRow_43 hD X hr x1 x3 x4 σ h
    · replace h := h.2 c1
      refine wm_aload_n X 0 rfl dX0_loadRow_20 ?_
      refine wm_get X (by decide +kernel) 5 rfl rfl 0 (by decide) (by decide +kernel) rfl dX0_loadRow_21 ?_
      refine wm_iload X 4 rfl dX0_loadRow_24 ?_
      refine wm_iload X 5 rfl dX0_loadRow_26 ?_
      refine wm_iadd X dX0_loadRow_28 ?_
      refine wm_iload_n X 2 rfl dX0_loadRow_29 ?_
      refine wm_iload X 5 rfl dX0_loadRow_30 ?_
      refine wm_callNi (n := 2) (As := [.int x2, .int x5]) (rest := [.int (x4 + x5), .ref (ad 6)]) X (c_X6_bitOf l G tI tJ tZ ad hD x2 x5 σ _ h) gX0_loadRow_X6_bitOf_n77 rfl ⟨rfl, rfl⟩ (List.mem_of_getElem? (i := 10) rfl) (by decide +kernel) (by decide +kernel) (by decide +kernel) ⟨Nat.le_of_ble_eq_true rfl, Nat.le_of_ble_eq_true rfl⟩ rfl rfl (Nat.le_of_ble_eq_true rfl) dX0_loadRow_32 (fun r2 σ3 h => ?_)
      refine wm_i2l X dX0_loadRow_35 ?_
      refine wm_last (σ' := sB σ3 0 (Int32.toNatClampNeg (x4 + x5)) (Int32.toInt64 r2)) X 6 1 rfl rfl h.1 rfl dX0_loadRow_36 ?_
      replace h := h.2
      refine wm_nmS (fun σ4 e5 => ?_)
      replace h := h σ4 e5
      clear e5
      obtain ⟨v6, e7⟩ : ∃ y : Int32, y = x5 + 1 := ⟨_, rfl⟩
      replace h := h v6 e7
      refine wm_iinc (v := v6) (lv' := [(5, .int v6), (0, .ref (ad 5)), (1, .int x1), (2, .int x2), (3, .int x3), (4, .int x4)]) X 5 rfl (by rw [e7]; rfl) (by decide) rfl dX0_loadRow_37 ?_
      clear e7
      refine wm_goto (tgt := 11) X (by decide) dX0_loadRow_40 ?_
      refine wm_sub [1, 2, 3, 4, 5, 0] (lv' := [(0, .ref (ad 5)), (1, .int x1), (2, .int x2), (3, .int x3), (4, .int x4), (5, .int v6)]) rfl ?_
      exact ih x1 x2 x3 x4 v6 σ4 h
set_option maxRecDepth 100000 in
set_option maxHeartbeats 4000000 in
theorem c_X0_loadRow (l : Launch) (G : va_G) (tI tJ tZ : ClassId) (ad : Nat → Nat) (hD : ∀ σ, va_D (Ad 22 ad) (wdC tI tJ tZ ad σ)) (x1 : Int32) (x2 : Int32) (x3 : Int32) (σ : St) (post : St → Prop) (h : wp_X0_loadRow x1 x2 x3 σ post) : Ct l yX0_loadRow wsX0_loadRow rm_X0_loadRow G (tyL tI tJ tZ) (wdC tI tJ tZ ad) (Ad 22 ad) [.ref (ad 5), .int x1, .int x2, .int x3] σ (Qv G (wdC tI tJ tZ ad) (Ad 22 ad) post) := by
  refine wm_entry (cc := cX0_loadRow) (maxL := 6) (ret := none) (own := RX0) (lv := [(0, .ref (ad 5)), (1, .int x1), (2, .int x2), (3, .int x3)]) (by decide +kernel) rfl rfl (Nat.le_of_ble_eq_true rfl) rfl hD ?_
  intro p e s m below meth c X hr
  unfold wp_X0_loadRow at h
  refine wm_iload_n X 1 rfl dX0_loadRow_0 ?_
  refine wm_aload_n X 0 rfl dX0_loadRow_1 ?_
  refine wm_get X (by decide +kernel) 5 rfl rfl 7 (by decide) (by decide +kernel) rfl dX0_loadRow_2 ?_
  refine wm_imul X dX0_loadRow_5 ?_
  refine wm_nmI (fun v1 e2 => ?_)
  replace h := h v1 e2
  clear e2
  refine wm_istore (lv' := [(4, .int v1), (0, .ref (ad 5)), (1, .int x1), (2, .int x2), (3, .int x3)]) X (by decide) rfl dX0_loadRow_6 ?_
  refine wm_iconst (v := 0) X (by decide) dX0_loadRow_8 ?_
  refine wm_istore (lv' := [(5, .int 0), (4, .int v1), (0, .ref (ad 5)), (1, .int x1), (2, .int x2), (3, .int x3)]) X (by decide) rfl dX0_loadRow_9 ?_
  refine wm_sub [2, 3, 4, 5, 1, 0] (lv' := [(0, .ref (ad 5)), (1, .int x1), (2, .int x2), (3, .int x3), (4, .int v1), (5, .int 0)]) rfl ?_
  obtain ⟨n0, h⟩ := h
  exact w_X0_loadRow_11 hD X hr n0 x1 x2 x3 v1 0 σ h
/-! X0_load -/
abbrev rm_X0_load : Room := { frames := 2, cells := 0, slots := 0, locals := 46 }
def lp_X0_load_54 (post : St → Prop)  : Nat → Int32 → Int32 → Int32 → St → Prop
  | 0, _, _, _, _ => False
  | n + 1, x2, x3, x4, σ =>
  ((gI σ 1) ≤ x4 → post σ) ∧ (¬ (gI σ 1) ≤ x4 → wp_X6_bitOf x2 x4 σ (fun r2 σ3 => (¬ r2 = 1 → ∀ v5 : Int32, v5 = x4 + 1 → lp_X0_load_54 post n x2 x3 v5 σ3) ∧ (r2 = 1 → vp_in x4 10 ∧ (vp_in x4 10 ∧ (wp_X0_loadRow x3 (gA σ3 0 (Int32.toNatClampNeg x4)) (gA σ3 1 (Int32.toNatClampNeg x4)) σ3 (fun σ8 => vp_in x3 10 ∧ (∀ σ9 : St, σ9 = sA σ8 4 (Int32.toNatClampNeg x3) x4 → ∀ v11 : Int32, v11 = x3 + 1 → ∀ v13 : Int32, v13 = x4 + 1 → lp_X0_load_54 post n x2 v11 v13 σ9)))))))
def wp_X0_load (x2 : Int32) (σ : St) (post : St → Prop) : Prop :=
  ∀ σ1 : St, σ1 = sI σ 6 (gI σ 0) → wp_J6_bitCount_0f7a4 x2 σ1 (fun r3 σ4 => ∀ σ5 : St, σ5 = sI σ4 7 r3 → ∀ σ7 : St, σ7 = sI σ5 8 (((gI σ5 6) + (gI σ5 7)) + 1) → ∀ σ9 : St, σ9 = sL σ7 0 1 → ∀ σ11 : St, σ11 = sI σ9 9 0 → wp_J7_fill_d0a16_6 0 σ11 (fun σ14 => ∃ fu : Nat, lp_X0_load_54 post fu x2 0 0 σ14))
set_option maxRecDepth 100000 in
set_option maxHeartbeats 4000000 in
theorem w_X0_load_54 {p : Program} {l : Launch} {e : Env} {s : State} {m : MethodId} {args : Array Value} {below : List Frame} {meth : Method} {c : Code} {G : va_G} {tI tJ tZ : ClassId} {ad : Nat → Nat} (hD : ∀ σ, va_D (Ad 22 ad) (wdC tI tJ tZ ad σ)) (X : Cx p s m args meth c cX0_load 5 RX0 wsX0_load G (tyL tI tJ tZ) (wdC tI tJ tZ ad) (Ad 22 ad)) (hr : meth.sig.returnType = none) {post : St → Prop}  : ∀ (n : Nat) (x2 : Int32) (x3 : Int32) (x4 : Int32) (σ : St), lp_X0_load_54 post n x2 x3 x4 σ → wm p l e rm_X0_load s m args below meth c G (wdC tI tJ tZ ad) (Ad 22 ad) 5 (MQ below (Qv G (wdC tI tJ tZ ad) (Ad 22 ad) post) args s 0 0 (Ad 22 ad)) σ [(0, .ref (ad 5)), (1, .ref (ad 1)), (2, .int x2), (3, .int x3), (4, .int x4)] 54 [] := by
  intro n
  induction n with
  | zero => intro x2 x3 x4 σ h; exact h.elim
  | succ n ih =>
    intro x2 x3 x4 σ h
    unfold lp_X0_load_54 at h
    refine wm_iload X 4 rfl dX0_load_54 ?_
    refine wm_aload_n X 1 rfl dX0_load_56 ?_
    refine wm_get X (by decide +kernel) 1 rfl rfl 4 (by decide) (by decide +kernel) rfl dX0_load_57 ?_
    refine wm_icmp_ge (tgt := 109) X (by decide) dX0_load_60 (fun c1 => ?_) (fun c1 => ?_)
    · replace h := h.1 c1
      exact wm_vret X hr h dX0_load_109
    · replace h := h.2 c1
      refine wm_iload_n X 2 rfl dX0_load_63 ?_
      refine wm_iload X 4 rfl dX0_load_64 ?_
      refine wm_callNi (n := 2) (As := [.int x2, .int x4]) (rest := []) X (c_X6_bitOf l G tI tJ tZ ad hD x2 x4 σ _ h) gX0_load_X6_bitOf_n77 rfl ⟨rfl, rfl⟩ (List.mem_of_getElem? (i := 10) rfl) (by decide +kernel) (by decide +kernel) (by decide +kernel) ⟨Nat.le_of_ble_eq_true rfl, Nat.le_of_ble_eq_true rfl⟩ rfl rfl (Nat.le_of_ble_eq_true rfl) dX0_load_66 (fun r2 σ3 h => ?_)
      refine wm_iconst (v := 1) X (by decide) dX0_load_69 ?_
      refine wm_icmp_ne (tgt := 103) X (by decide) dX0_load_70 (fun c4 => ?_) (fun c4 => ?_)
      · replace h := h.1 c4
        obtain ⟨v5, e6⟩ : ∃ y : Int32, y = x4 + 1 := ⟨_, rfl⟩
        replace h := h v5 e6
        refine wm_iinc (v := v5) (lv' := [(4, .int v5), (0, .ref (ad 5)), (1, .ref (ad 1)), (2, .int x2), (3, .int x3)]) X 4 rfl (by rw [e6]; rfl) (by decide) rfl dX0_load_103 ?_
        clear e6
        refine wm_goto (tgt := 54) X (by decide) dX0_load_106 ?_
        refine wm_sub [1, 2, 3, 4, 0] (lv' := [(0, .ref (ad 5)), (1, .ref (ad 1)), (2, .int x2), (3, .int x3), (4, .int v5)]) rfl ?_
        exact ih x2 x3 v5 σ3 h
      · replace h := h.2 c4
        refine wm_aload_n X 0 rfl dX0_load_73 ?_
        refine wm_iload_n X 3 rfl dX0_load_74 ?_
        refine wm_aload_n X 1 rfl dX0_load_75 ?_
        refine wm_get X (by decide +kernel) 1 rfl rfl 0 (by decide) (by decide +kernel) rfl dX0_load_76 ?_
        refine wm_iload X 4 rfl dX0_load_79 ?_
        refine wm_iald X 2 0 rfl rfl h.1 dX0_load_81 ?_
        replace h := h.2
        refine wm_aload_n X 1 rfl dX0_load_82 ?_
        refine wm_get X (by decide +kernel) 1 rfl rfl 1 (by decide) (by decide +kernel) rfl dX0_load_83 ?_
        refine wm_iload X 4 rfl dX0_load_86 ?_
        refine wm_iald X 3 0 rfl rfl h.1 dX0_load_88 ?_
        replace h := h.2
        refine wm_callVv (n := 3) (As := [.int x3, .int (gA σ3 0 (Int32.toNatClampNeg x4)), .int (gA σ3 1 (Int32.toNatClampNeg x4))]) (rest := []) X (c_X0_loadRow l G tI tJ tZ ad hD x3 (gA σ3 0 (Int32.toNatClampNeg x4)) (gA σ3 1 (Int32.toNatClampNeg x4)) σ3 _ h) gX0_load_X0_loadRow rfl ⟨rfl, rfl⟩ (by decide +kernel) ⟨Nat.le_of_ble_eq_true rfl, Nat.le_of_ble_eq_true rfl⟩ 5 rfl rfl rfl rfl rfl (Nat.le_of_ble_eq_true rfl) dX0_load_89 (fun σ8 h => ?_)
        refine wm_aload_n X 0 rfl dX0_load_92 ?_
        refine wm_get X (by decide +kernel) 5 rfl rfl 2 (by decide) (by decide +kernel) rfl dX0_load_93 ?_
        refine wm_iload_n X 3 rfl dX0_load_96 ?_
        refine wm_iload X 4 rfl dX0_load_97 ?_
        refine wm_iast (σ' := sA σ8 4 (Int32.toNatClampNeg x3) x4) X 8 0 rfl rfl h.1 rfl dX0_load_99 ?_
        replace h := h.2
        refine wm_nmS (fun σ9 e10 => ?_)
        replace h := h σ9 e10
        clear e10
        obtain ⟨v11, e12⟩ : ∃ y : Int32, y = x3 + 1 := ⟨_, rfl⟩
        replace h := h v11 e12
        refine wm_iinc (v := v11) (lv' := [(3, .int v11), (0, .ref (ad 5)), (1, .ref (ad 1)), (2, .int x2), (4, .int x4)]) X 3 rfl (by rw [e12]; rfl) (by decide) rfl dX0_load_100 ?_
        clear e12
        obtain ⟨v13, e14⟩ : ∃ y : Int32, y = x4 + 1 := ⟨_, rfl⟩
        replace h := h v13 e14
        refine wm_iinc (v := v13) (lv' := [(4, .int v13), (3, .int v11), (0, .ref (ad 5)), (1, .ref (ad 1)), (2, .int x2)]) X 4 rfl (by rw [e14]; rfl) (by decide) rfl dX0_load_103 ?_
        clear e14
        refine wm_goto (tgt := 54) X (by decide) dX0_load_106 ?_
        refine wm_sub [2, 3, 4, 1, 0] (lv' := [(0, .ref (ad 5)), (1, .ref (ad 1)), (2, .int x2), (3, .int v11), (4, .int v13)]) rfl ?_
        exact ih x2 v11 v13 σ9 h
set_option maxRecDepth 100000 in
set_option maxHeartbeats 4000000 in
theorem c_X0_load (l : Launch) (G : va_G) (tI tJ tZ : ClassId) (ad : Nat → Nat) (hD : ∀ σ, va_D (Ad 22 ad) (wdC tI tJ tZ ad σ)) (x2 : Int32) (σ : St) (post : St → Prop) (h : wp_X0_load x2 σ post) : Ct l yX0_load wsX0_load rm_X0_load G (tyL tI tJ tZ) (wdC tI tJ tZ ad) (Ad 22 ad) [.ref (ad 5), .ref (ad 1), .int x2] σ (Qv G (wdC tI tJ tZ ad) (Ad 22 ad) post) := by
  refine wm_entry (cc := cX0_load) (maxL := 5) (ret := none) (own := RX0) (lv := [(0, .ref (ad 5)), (1, .ref (ad 1)), (2, .int x2)]) (by decide +kernel) rfl rfl (Nat.le_of_ble_eq_true rfl) rfl hD ?_
  intro p e s m below meth c X hr
  unfold wp_X0_load at h
  refine wm_aload_n X 0 rfl dX0_load_0 ?_
  refine wm_aload_n X 1 rfl dX0_load_1 ?_
  refine wm_get X (by decide +kernel) 1 rfl rfl 3 (by decide) (by decide +kernel) rfl dX0_load_2 ?_
  refine wm_put (σ' := sI σ 6 (gI σ 0)) X (by decide +kernel) tyX0 tyX0_ok nmX0 5 rfl rfl 5 (by decide) (by decide +kernel) rfl (tyX0_ok 5 (by decide)) rfl rfl (Nat.le_of_ble_eq_true rfl) rfl dX0_load_5 ?_
  refine wm_nmS (fun σ1 e2 => ?_)
  replace h := h σ1 e2
  clear e2
  refine wm_aload_n X 0 rfl dX0_load_8 ?_
  refine wm_iload_n X 2 rfl dX0_load_9 ?_
  refine wm_callSi (n := 1) (As := [.int x2]) (rest := [.ref (ad 5)]) X (c_J6_bitCount_0f7a4 l G tI tJ tZ ad hD x2 σ1 _ h) gX0_load_J6_bitCount_0f7a4 rfl ⟨rfl, rfl⟩ (by decide +kernel) ⟨Nat.le_of_ble_eq_true rfl, Nat.le_of_ble_eq_true rfl⟩ rfl rfl (Nat.le_of_ble_eq_true rfl) dX0_load_10 (fun r3 σ4 h => ?_)
  refine wm_put (σ' := sI σ4 7 r3) X (by decide +kernel) tyX0 tyX0_ok nmX0 5 rfl rfl 6 (by decide) (by decide +kernel) rfl (tyX0_ok 6 (by decide)) rfl rfl (Nat.le_of_ble_eq_true rfl) rfl dX0_load_13 ?_
  refine wm_nmS (fun σ5 e6 => ?_)
  replace h := h σ5 e6
  clear e6
  refine wm_aload_n X 0 rfl dX0_load_16 ?_
  refine wm_aload_n X 0 rfl dX0_load_17 ?_
  refine wm_get X (by decide +kernel) 5 rfl rfl 5 (by decide) (by decide +kernel) rfl dX0_load_18 ?_
  refine wm_aload_n X 0 rfl dX0_load_21 ?_
  refine wm_get X (by decide +kernel) 5 rfl rfl 6 (by decide) (by decide +kernel) rfl dX0_load_22 ?_
  refine wm_iadd X dX0_load_25 ?_
  refine wm_iconst (v := 1) X (by decide) dX0_load_26 ?_
  refine wm_iadd X dX0_load_27 ?_
  refine wm_put (σ' := sI σ5 8 (((gI σ5 6) + (gI σ5 7)) + 1)) X (by decide +kernel) tyX0 tyX0_ok nmX0 5 rfl rfl 7 (by decide) (by decide +kernel) rfl (tyX0_ok 7 (by decide)) rfl rfl (Nat.le_of_ble_eq_true rfl) rfl dX0_load_28 ?_
  refine wm_nmS (fun σ7 e8 => ?_)
  replace h := h σ7 e8
  clear e8
  refine wm_aload_n X 0 rfl dX0_load_31 ?_
  refine wm_lconst (v := 1) X (by decide) dX0_load_32 ?_
  refine wm_put (σ' := sL σ7 0 1) X (by decide +kernel) tyX0 tyX0_ok nmX0 5 rfl rfl 8 (by decide) (by decide +kernel) rfl (tyX0_ok 8 (by decide)) rfl rfl (Nat.le_of_ble_eq_true rfl) rfl dX0_load_33 ?_
  refine wm_nmS (fun σ9 e10 => ?_)
  replace h := h σ9 e10
  clear e10
  refine wm_aload_n X 0 rfl dX0_load_36 ?_
  refine wm_iconst (v := 0) X (by decide) dX0_load_37 ?_
  refine wm_put (σ' := sI σ9 9 0) X (by decide +kernel) tyX0 tyX0_ok nmX0 5 rfl rfl 9 (by decide) (by decide +kernel) rfl (tyX0_ok 9 (by decide)) rfl rfl (Nat.le_of_ble_eq_true rfl) rfl dX0_load_38 ?_
  refine wm_nmS (fun σ11 e12 => ?_)
  replace h := h σ11 e12
  clear e12
  refine wm_aload_n X 0 rfl dX0_load_41 ?_
  refine wm_get X (by decide +kernel) 5 rfl rfl 0 (by decide) (by decide +kernel) rfl dX0_load_42 ?_
  refine wm_lconst (v := 0) X (by decide) dX0_load_45 ?_
  refine wm_callSv (n := 2) (As := [.ref (ad 6), .long 0]) (rest := []) X (c_J7_fill_d0a16_6 l G tI tJ tZ ad hD 0 σ11 _ h) gX0_load_J7_fill_d0a16 rfl ⟨rfl, rfl⟩ (by decide +kernel) ⟨Nat.le_of_ble_eq_true rfl, Nat.le_of_ble_eq_true rfl⟩ rfl rfl (Nat.le_of_ble_eq_true rfl) dX0_load_46 (fun σ14 h => ?_)
  refine wm_iconst (v := 0) X (by decide) dX0_load_49 ?_
  refine wm_istore_n (lv' := [(3, .int 0), (0, .ref (ad 5)), (1, .ref (ad 1)), (2, .int x2)]) X rfl (by decide) rfl dX0_load_50 ?_
  refine wm_iconst (v := 0) X (by decide) dX0_load_51 ?_
  refine wm_istore (lv' := [(4, .int 0), (3, .int 0), (0, .ref (ad 5)), (1, .ref (ad 1)), (2, .int x2)]) X (by decide) rfl dX0_load_52 ?_
  refine wm_sub [2, 3, 4, 1, 0] (lv' := [(0, .ref (ad 5)), (1, .ref (ad 1)), (2, .int x2), (3, .int 0), (4, .int 0)]) rfl ?_
  obtain ⟨n0, h⟩ := h
  exact w_X0_load_54 hD X hr n0 x2 0 0 σ14 h
