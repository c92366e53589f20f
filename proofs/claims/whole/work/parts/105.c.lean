/-! X5_takeOffer -/
abbrev rm_X5_takeOffer : Room := { frames := 2, cells := 0, slots := 0, locals := 45 }
def jn_X5_takeOffer_98 (post : Int32 → St → Prop) (K41 : Int32 → Int32 → Int32 → Int32 → Int32 → St → Prop) (x1 : Int32) (x2 : Int32) (x3 : Int32) (x4 : Int32) (x5 : Int32) (s0 : Int32) (σ : St) : Prop :=
  (s0 = 0 → ∀ v2 : Int32, v2 = x5 + 1 → K41 x1 x2 x3 x4 v2 σ) ∧ (¬ s0 = 0 → wp_X5_startOf x1 x5 σ (fun r4 σ5 => wp_X5_startOf (x1 + 1) x5 σ5 (fun r6 σ7 => vp_in x1 11 ∧ (wp_X5_clearColumn r4 r6 x4 x3 (gA σ7 11 (Int32.toNatClampNeg x1)) σ7 (fun σ9 => ∀ v10 : Int32, v10 = x5 + 1 → K41 x1 x2 x3 x4 v10 σ9)))))
def jn_X5_takeOffer_138 (post : Int32 → St → Prop)  (x1 : Int32) (x2 : Int32) (x3 : Int32) (x4 : Int32) (σ : St) : Prop :=
  vp_in (x4 + x3) 3300 ∧ (vp_in (x1 + 1) 11 ∧ (∀ σ1 : St, σ1 = sA σ 11 (Int32.toNatClampNeg (x1 + 1)) (gA σ 9 (Int32.toNatClampNeg (x4 + x3))) → vp_in x1 11 ∧ (vp_in (x1 + 1) 11 ∧ (∀ σ3 : St, σ3 = sA σ1 10 (Int32.toNatClampNeg (x1 + 1)) ((gA σ1 10 (Int32.toNatClampNeg x1)) ||| (1 <<< (x2 &&& 31))) → post 1 σ3))))
def lp_X5_takeOffer_41 (post : Int32 → St → Prop)  : Nat → Int32 → Int32 → Int32 → Int32 → Int32 → St → Prop
  | 0, _, _, _, _, _, _ => False
  | n + 1, x1, x2, x3, x4, x5, σ =>
  ((20 + (gI σ 17)) ≤ x5 → jn_X5_takeOffer_138 post x1 x2 x3 x4 σ) ∧ (¬ (20 + (gI σ 17)) ≤ x5 → (20 ≤ x5 → wp_X6_bitOf (gI σ 19) (x5 - 20) σ (fun r3 σ4 => (¬ r3 = 1 → jn_X5_takeOffer_98 post (lp_X5_takeOffer_41 post n) x1 x2 x3 x4 x5 0 σ4) ∧ (r3 = 1 → jn_X5_takeOffer_98 post (lp_X5_takeOffer_41 post n) x1 x2 x3 x4 x5 1 σ4))) ∧ (¬ 20 ≤ x5 → ((10 + x2) ≤ x5 → jn_X5_takeOffer_98 post (lp_X5_takeOffer_41 post n) x1 x2 x3 x4 x5 0 σ) ∧ (¬ (10 + x2) ≤ x5 → jn_X5_takeOffer_98 post (lp_X5_takeOffer_41 post n) x1 x2 x3 x4 x5 1 σ)))
def jn_X5_takeOffer_19 (post : Int32 → St → Prop)  (x1 : Int32) (x2 : Int32) (s0 : Int32) (σ : St) : Prop :=
  (¬ s0 = (-1) → wp_X5_startOf x1 (10 + x2) σ (fun r2 σ3 => ∃ fu : Nat, lp_X5_takeOffer_41 post fu x1 x2 s0 r2 10 σ3)) ∧ (s0 = (-1) → post 0 σ)
def wp_X5_takeOffer (x1 : Int32) (x2 : Int32) (σ : St) (post : Int32 → St → Prop) : Prop :=
  (10 ≤ x1 → jn_X5_takeOffer_19 post x1 x2 (-1) σ) ∧ (¬ 10 ≤ x1 → wp_X5_firstFilledColumn x1 (10 + x2) σ (fun r2 σ3 => jn_X5_takeOffer_19 post x1 x2 r2 σ3))
set_option maxRecDepth 100000 in
set_option maxHeartbeats 4000000 in
theorem w_X5_takeOffer_98 {p : Program} {l : Launch} {e : Env} {s : State} {m : MethodId} {args : Array Value} {below : List Frame} {meth : Method} {c : Code} {G : va_G} {tI tJ tZ : ClassId} {ad : Nat → Nat} (hD : ∀ σ, va_D (Ad 22 ad) (wdC tI tJ tZ ad σ)) (X : Cx p s m args meth c cX5_takeOffer 7 RX5 wsX5_takeOffer G (tyL tI tJ tZ) (wdC tI tJ tZ ad) (Ad 22 ad)) (hr : meth.sig.returnType = (some .boolean)) {post : Int32 → St → Prop} {K41 : Int32 → Int32 → Int32 → Int32 → Int32 → St → Prop} (hK41 : ∀ (x1 : Int32) (x2 : Int32) (x3 : Int32) (x4 : Int32) (x5 : Int32) (σ : St), K41 x1 x2 x3 x4 x5 σ → wm p l e rm_X5_takeOffer s m args below meth c G (wdC tI tJ tZ ad) (Ad 22 ad) 7 (MQ below (Qi G (wdC tI tJ tZ ad) (Ad 22 ad) post) args s 0 0 (Ad 22 ad)) σ [(0, .ref (ad 15)), (1, .int x1), (2, .int x2), (3, .int x3), (4, .int x4), (5, .int x5)] 41 []) (x1 : Int32) (x2 : Int32) (x3 : Int32) (x4 : Int32) (x5 : Int32) (s0 : Int32) (σ : St) (h : jn_X5_takeOffer_98 post K41 x1 x2 x3 x4 x5 s0 σ) : wm p l e rm_X5_takeOffer s m args below meth c G (wdC tI tJ tZ ad) (Ad 22 ad) 7 (MQ below (Qi G (wdC tI tJ tZ ad) (Ad 22 ad) post) args s 0 0 (Ad 22 ad)) σ [(0, .ref (ad 15)), (1, .int x1), (2, .int x2), (3, .int x3), (4, .int x4), (5, .int x5)] 98 [.int s0] := by
  unfold jn_X5_takeOffer_98 at h
  refine wm_istore (lv' := [(6, .int s0), (0, .ref (ad 15)), (1, .int x1), (2, .int x2), (3, .int x3), (4, .int x4), (5, .int x5)]) X (by decide) rfl dX5_takeOffer_98 ?_
  refine wm_iload X 0 rfl dX5_takeOffer_100 ?_
  refine wm_if_eq (tgt := 132) X (by decide) dX5_takeOffer_102 (fun c1 => ?_) (fun c1 => ?_)
  · replace h := h.1 c1
    obtain ⟨v2, e3⟩ : ∃ y : Int32, y = x5 + 1 := ⟨_, rfl⟩
    replace h := h v2 e3
    refine wm_iinc (v := v2) (lv' := [(5, .int v2), (6, .int s0), (0, .ref (ad 15)), (1, .int x1), (2, .int x2), (3, .int x3), (4, .int x4)]) X 6 rfl (by rw [e3]; rfl) (by decide) rfl dX5_takeOffer_132 ?_
    clear e3
    refine wm_goto (tgt := 41) X (by decide) dX5_takeOffer_135 ?_
    refine wm_sub [2, 3, 4, 5, 6, 0] (lv' := [(0, .ref (ad 15)), (1, .int x1), (2, .int x2), (3, .int x3), (4, .int x4), (5, .int v2)]) rfl ?_
    exact hK41 x1 x2 x3 x4 v2 σ h
  · replace h := h.2 c1
    refine wm_aload_n X 1 rfl dX5_takeOffer_105 ?_
    refine wm_iload_n X 2 rfl dX5_takeOffer_106 ?_
    refine wm_iload X 6 rfl dX5_takeOffer_107 ?_
    refine wm_callSi (n := 2) (As := [.int x1, .int x5]) (rest := [.ref (ad 15)]) X (c_X5_startOf l G tI tJ tZ ad hD x1 x5 σ _ h) gX5_takeOffer_X5_startOf rfl ⟨rfl, rfl⟩ (by decide +kernel) ⟨Nat.le_of_ble_eq_true rfl, Nat.le_of_ble_eq_true rfl⟩ rfl rfl (Nat.le_of_ble_eq_true rfl) dX5_takeOffer_109 (fun r4 σ5 h => ?_)
    refine wm_iload_n X 2 rfl dX5_takeOffer_112 ?_
    refine wm_iconst (v := 1) X (by decide) dX5_takeOffer_113 ?_
    refine wm_iadd X dX5_takeOffer_114 ?_
    refine wm_iload X 6 rfl dX5_takeOffer_115 ?_
    refine wm_callSi (n := 2) (As := [.int (x1 + 1), .int x5]) (rest := [.int r4, .ref (ad 15)]) X (c_X5_startOf l G tI tJ tZ ad hD (x1 + 1) x5 σ5 _ h) gX5_takeOffer_X5_startOf rfl ⟨rfl, rfl⟩ (by decide +kernel) ⟨Nat.le_of_ble_eq_true rfl, Nat.le_of_ble_eq_true rfl⟩ rfl rfl (Nat.le_of_ble_eq_true rfl) dX5_takeOffer_117 (fun r6 σ7 h => ?_)
    refine wm_iload X 5 rfl dX5_takeOffer_120 ?_
    refine wm_iload_n X 4 rfl dX5_takeOffer_122 ?_
    refine wm_aload_n X 1 rfl dX5_takeOffer_123 ?_
    refine wm_get X (by decide +kernel) 15 rfl rfl 2 (by decide) (by decide +kernel) rfl dX5_takeOffer_124 ?_
    refine wm_iload_n X 2 rfl dX5_takeOffer_127 ?_
    refine wm_iald X 18 0 rfl rfl h.1 dX5_takeOffer_128 ?_
    replace h := h.2
    refine wm_callVv (n := 5) (As := [.int r4, .int r6, .int x4, .int x3, .int (gA σ7 11 (Int32.toNatClampNeg x1))]) (rest := []) X (c_X5_clearColumn l G tI tJ tZ ad hD r4 r6 x4 x3 (gA σ7 11 (Int32.toNatClampNeg x1)) σ7 _ h) gX5_takeOffer_X5_clearColumn rfl ⟨rfl, rfl⟩ (by decide +kernel) ⟨Nat.le_of_ble_eq_true rfl, Nat.le_of_ble_eq_true rfl⟩ 15 rfl rfl rfl rfl rfl (Nat.le_of_ble_eq_true rfl) dX5_takeOffer_129 (fun σ9 h => ?_)
    obtain ⟨v10, e11⟩ : ∃ y : Int32, y = x5 + 1 := ⟨_, rfl⟩
    replace h := h v10 e11
    refine wm_iinc (v := v10) (lv' := [(5, .int v10), (6, .int s0), (0, .ref (ad 15)), (1, .int x1), (2, .int x2), (3, .int x3), (4, .int x4)]) X 6 rfl (by rw [e11]; rfl) (by decide) rfl dX5_takeOffer_132 ?_
    clear e11
    refine wm_goto (tgt := 41) X (by decide) dX5_takeOffer_135 ?_
    refine wm_sub [2, 3, 4, 5, 6, 0] (lv' := [(0, .ref (ad 15)), (1, .int x1), (2, .int x2), (3, .int x3), (4, .int x4), (5, .int v10)]) rfl ?_
    exact hK41 x1 x2 x3 x4 v10 σ9 h
set_option maxRecDepth 100000 in
set_option maxHeartbeats 4000000 in
theorem w_X5_takeOffer_138 {p : Program} {l : Launch} {e : Env} {s : State} {m : MethodId} {args : Array Value} {below : List Frame} {meth : Method} {c : Code} {G : va_G} {tI tJ tZ : ClassId} {ad : Nat → Nat} (hD : ∀ σ, va_D (Ad 22 ad) (wdC tI tJ tZ ad σ)) (X : Cx p s m args meth c cX5_takeOffer 7 RX5 wsX5_takeOffer G (tyL tI tJ tZ) (wdC tI tJ tZ ad) (Ad 22 ad)) (hr : meth.sig.returnType = (some .boolean)) {post : Int32 → St → Prop}  (x1 : Int32) (x2 : Int32) (x3 : Int32) (x4 : Int32) (σ : St) (h : jn_X5_takeOffer_138 post x1 x2 x3 x4 σ) : wm p l e rm_X5_takeOffer s m args below meth c G (wdC tI tJ tZ ad) (Ad 22 ad) 7 (MQ below (Qi G (wdC tI tJ tZ ad) (Ad 22 ad) post) args s 0 0 (Ad 22 ad)) σ [(0, .ref (ad 15)), (1, .int x1), (2, .int x2), (3, .int x3), (4, .int x4)] 138 [] := by
  unfold jn_X5_takeOffer_138 at h
  refine wm_aload_n X 0 rfl dX5_takeOffer_138 ?_
  refine wm_get X (by decide +kernel) 15 rfl rfl 2 (by decide) (by decide +kernel) rfl dX5_takeOffer_139 ?_
  refine wm_iload_n X 1 rfl dX5_takeOffer_142 ?_
  refine wm_iconst (v := 1) X (by decide) dX5_takeOffer_143 ?_
  refine wm_iadd X dX5_takeOffer_144 ?_
  refine wm_aload_n X 0 rfl dX5_takeOffer_145 ?_
  refine wm_get X (by decide +kernel) 15 rfl rfl 0 (by decide) (by decide +kernel) rfl dX5_takeOffer_146 ?_
  refine wm_iload X 4 rfl dX5_takeOffer_149 ?_
  refine wm_iload_n X 3 rfl dX5_takeOffer_151 ?_
  refine wm_iadd X dX5_takeOffer_152 ?_
  refine wm_iald X 16 0 rfl rfl h.1 dX5_takeOffer_153 ?_
  replace h := h.2
  refine wm_iast (σ' := sA σ 11 (Int32.toNatClampNeg (x1 + 1)) (gA σ 9 (Int32.toNatClampNeg (x4 + x3)))) X 18 0 rfl rfl h.1 rfl dX5_takeOffer_154 ?_
  replace h := h.2
  refine wm_nmS (fun σ1 e2 => ?_)
  replace h := h σ1 e2
  clear e2
  refine wm_aload_n X 0 rfl dX5_takeOffer_155 ?_
  refine wm_get X (by decide +kernel) 15 rfl rfl 1 (by decide) (by decide +kernel) rfl dX5_takeOffer_156 ?_
  refine wm_iload_n X 1 rfl dX5_takeOffer_159 ?_
  refine wm_iconst (v := 1) X (by decide) dX5_takeOffer_160 ?_
  refine wm_iadd X dX5_takeOffer_161 ?_
  refine wm_aload_n X 0 rfl dX5_takeOffer_162 ?_
  refine wm_get X (by decide +kernel) 15 rfl rfl 1 (by decide) (by decide +kernel) rfl dX5_takeOffer_163 ?_
  refine wm_iload_n X 1 rfl dX5_takeOffer_166 ?_
  refine wm_iald X 17 0 rfl rfl h.1 dX5_takeOffer_167 ?_
  replace h := h.2
  refine wm_iconst (v := 1) X (by decide) dX5_takeOffer_168 ?_
  refine wm_iload_n X 2 rfl dX5_takeOffer_169 ?_
  refine wm_ishl X dX5_takeOffer_170 ?_
  refine wm_ior X dX5_takeOffer_171 ?_
  refine wm_iast (σ' := sA σ1 10 (Int32.toNatClampNeg (x1 + 1)) ((gA σ1 10 (Int32.toNatClampNeg x1)) ||| (1 <<< (x2 &&& 31)))) X 17 0 rfl rfl h.1 rfl dX5_takeOffer_172 ?_
  replace h := h.2
  refine wm_nmS (fun σ3 e4 => ?_)
  replace h := h σ3 e4
  clear e4
  refine wm_iconst (v := 1) X (by decide) dX5_takeOffer_173 ?_
  exact wm_zret X hr bz_1 h dX5_takeOffer_174
set_option maxRecDepth 100000 in
set_option maxHeartbeats 4000000 in
theorem w_X5_takeOffer_41 {p : Program} {l : Launch} {e : Env} {s : State} {m : MethodId} {args : Array Value} {below : List Frame} {meth : Method} {c : Code} {G : va_G} {tI tJ tZ : ClassId} {ad : Nat → Nat} (hD : ∀ σ, va_D (Ad 22 ad) (wdC tI tJ tZ ad σ)) (X : Cx p s m args meth c cX5_takeOffer 7 RX5 wsX5_takeOffer G (tyL tI tJ tZ) (wdC tI tJ tZ ad) (Ad 22 ad)) (hr : meth.sig.returnType = (some .boolean)) {post : Int32 → St → Prop}  : ∀ (n : Nat) (x1 : Int32) (x2 : Int32) (x3 : Int32) (x4 : Int32) (x5 : Int32) (σ : St), lp_X5_takeOffer_41 post n x1 x2 x3 x4 x5 σ → wm p l e rm_X5_takeOffer s m args below meth c G (wdC tI tJ tZ ad) (Ad 22 ad) 7 (MQ below (Qi G (wdC tI tJ tZ ad) (Ad 22 ad) post) args s 0 0 (Ad 22 ad)) σ [(0, .ref (ad 15)), (1, .int x1), (2, .int x2), (3, .int x3), (4, .int x4), (5, .int x5)] 41 [] := by
  intro n
  induction n with
  | zero => intro x1 x2 x3 x4 x5 σ h; exact h.elim
  | succ n ih =>
    intro x1 x2 x3 x4 x5 σ h
    unfold lp_X5_takeOffer_41 at h
    refine wm_iload X 5 rfl dX5_takeOffer_41 ?_
    refine wm_bipush (v := 20) X (by decide) dX5_takeOffer_43 ?_
    refine wm_aload_n X 0 rfl dX5_takeOffer_45 ?_
    refine wm_get X (by decide +kernel) 15 rfl rfl 3 (by decide) (by decide +kernel) rfl dX5_takeOffer_46 ?_
    refine wm_iadd X dX5_takeOffer_49 ?_
    refine wm_icmp_ge (tgt := 138) X (by decide) dX5_takeOffer_50 (fun c1 => ?_) (fun c1 => ?_)
    · replace h := h.1 c1
      refine wm_sub [0, 1, 2, 3, 4] (lv' := [(0, .ref (ad 15)), (1, .int x1), (2, .int x2), (3, .int x3), (4, .int x4)]) rfl ?_
      exact w_X5_takeOffer_138 hD X hr x1 x2 x3 x4 σ h
    · replace h := h.2 c1
      refine wm_iload X 5 rfl dX5_takeOffer_53 ?_
      refine wm_bipush (v := 20) X (by decide) dX5_takeOffer_55 ?_
      refine wm_icmp_ge (tgt := 77) X (by decide) dX5_takeOffer_57 (fun c2 => ?_) (fun c2 => ?_)
      · replace h := h.1 c2
        refine wm_aload_n X 0 rfl dX5_takeOffer_77 ?_
        refine wm_get X (by decide +kernel) 15 rfl rfl 5 (by decide) (by decide +kernel) rfl dX5_takeOffer_78 ?_
        refine wm_iload X 5 rfl dX5_takeOffer_81 ?_
        refine wm_bipush (v := 20) X (by decide) dX5_takeOffer_83 ?_
        refine wm_isub X dX5_takeOffer_85 ?_
        refine wm_callNi (n := 2) (As := [.int (gI σ 19), .int (x5 - 20)]) (rest := []) X (c_X6_bitOf l G tI tJ tZ ad hD (gI σ 19) (x5 - 20) σ _ h) gX5_takeOffer_X6_bitOf_n86 rfl ⟨rfl, rfl⟩ (List.mem_of_getElem? (i := 9) rfl) (by decide +kernel) (by decide +kernel) (by decide +kernel) ⟨Nat.le_of_ble_eq_true rfl, Nat.le_of_ble_eq_true rfl⟩ rfl rfl (Nat.le_of_ble_eq_true rfl) dX5_takeOffer_86 (fun r3 σ4 h => ?_)
        refine wm_iconst (v := 1) X (by decide) dX5_takeOffer_89 ?_
        refine wm_icmp_ne (tgt := 97) X (by decide) dX5_takeOffer_90 (fun c5 => ?_) (fun c5 => ?_)
        · replace h := h.1 c5
          refine wm_iconst (v := 0) X (by decide) dX5_takeOffer_97 ?_
          exact w_X5_takeOffer_98 hD X hr ih x1 x2 x3 x4 x5 0 σ4 h
        · replace h := h.2 c5
          refine wm_iconst (v := 1) X (by decide) dX5_takeOffer_93 ?_
          refine wm_goto (tgt := 98) X (by decide) dX5_takeOffer_94 ?_
          exact w_X5_takeOffer_98 hD X hr ih x1 x2 x3 x4 x5 1 σ4 h
      · replace h := h.2 c2
        refine wm_iload X 5 rfl dX5_takeOffer_60 ?_
        refine wm_bipush (v := 10) X (by decide) dX5_takeOffer_62 ?_
        refine wm_iload_n X 2 rfl dX5_takeOffer_64 ?_
        refine wm_iadd X dX5_takeOffer_65 ?_
        refine wm_icmp_ge (tgt := 73) X (by decide) dX5_takeOffer_66 (fun c6 => ?_) (fun c6 => ?_)
        · replace h := h.1 c6
          refine wm_iconst (v := 0) X (by decide) dX5_takeOffer_73 ?_
          refine wm_goto (tgt := 98) X (by decide) dX5_takeOffer_74 ?_
          exact w_X5_takeOffer_98 hD X hr ih x1 x2 x3 x4 x5 0 σ h
        · replace h := h.2 c6
          refine wm_iconst (v := 1) X (by decide) dX5_takeOffer_69 ?_
          refine wm_goto (tgt := 98) X (by decide) dX5_takeOffer_70 ?_
          exact w_X5_takeOffer_98 hD X hr ih x1 x2 x3 x4 x5 1 σ h
set_option maxRecDepth 100000 in
set_option maxHeartbeats 4000000 in
theorem w_X5_takeOffer_19 {p : Program} {l : Launch} {e : Env} {s : State} {m : MethodId} {args : Array Value} {below : List Frame} {meth : Method} {c : Code} {G : va_G} {tI tJ tZ : ClassId} {ad : Nat → Nat} (hD : ∀ σ, va_D (Ad 22 ad) (wdC tI tJ tZ ad σ)) (X : Cx p s m args meth c cX5_takeOffer 7 RX5 wsX5_takeOffer G (tyL tI tJ tZ) (wdC tI tJ tZ ad) (Ad 22 ad)) (hr : meth.sig.returnType = (some .boolean)) {post : Int32 → St → Prop}  (x1 : Int32) (x2 : Int32) (s0 : Int32) (σ : St) (h : jn_X5_takeOffer_19 post x1 x2 s0 σ) : wm p l e rm_X5_takeOffer s m args below meth c G (wdC tI tJ tZ ad) (Ad 22 ad) 7 (MQ below (Qi G (wdC tI tJ tZ ad) (Ad 22 ad) post) args s 0 0 (Ad 22 ad)) σ [(0, .ref (ad 15)), (1, .int x1), (2, .int x2)] 19 [.int s0] := by
  unfold jn_X5_takeOffer_19 at h
  refine wm_istore_n (lv' := [(3, .int s0), (0, .ref (ad 15)), (1, .int x1), (2, .int x2)]) X rfl (by decide) rfl dX5_takeOffer_19 ?_
  refine wm_iload_n X 0 rfl dX5_takeOffer_20 ?_
  refine wm_iconst (v := (-1)) X (by decide) dX5_takeOffer_21 ?_
  refine wm_icmp_ne (tgt := 27) X (by decide) dX5_takeOffer_22 (fun c1 => ?_) (fun c1 => ?_)
  · replace h := h.1 c1
    refine wm_iload_n X 2 rfl dX5_takeOffer_27 ?_
    refine wm_bipush (v := 10) X (by decide) dX5_takeOffer_28 ?_
    refine wm_iload_n X 3 rfl dX5_takeOffer_30 ?_
    refine wm_iadd X dX5_takeOffer_31 ?_
    refine wm_callSi (n := 2) (As := [.int x1, .int (10 + x2)]) (rest := []) X (c_X5_startOf l G tI tJ tZ ad hD x1 (10 + x2) σ _ h) gX5_takeOffer_X5_startOf rfl ⟨rfl, rfl⟩ (by decide +kernel) ⟨Nat.le_of_ble_eq_true rfl, Nat.le_of_ble_eq_true rfl⟩ rfl rfl (Nat.le_of_ble_eq_true rfl) dX5_takeOffer_32 (fun r2 σ3 h => ?_)
    refine wm_istore (lv' := [(4, .int r2), (3, .int s0), (0, .ref (ad 15)), (1, .int x1), (2, .int x2)]) X (by decide) rfl dX5_takeOffer_35 ?_
    refine wm_bipush (v := 10) X (by decide) dX5_takeOffer_37 ?_
    refine wm_istore (lv' := [(5, .int 10), (4, .int r2), (3, .int s0), (0, .ref (ad 15)), (1, .int x1), (2, .int x2)]) X (by decide) rfl dX5_takeOffer_39 ?_
    refine wm_sub [3, 4, 5, 2, 1, 0] (lv' := [(0, .ref (ad 15)), (1, .int x1), (2, .int x2), (3, .int s0), (4, .int r2), (5, .int 10)]) rfl ?_
    obtain ⟨n0, h⟩ := h
    exact w_X5_takeOffer_41 hD X hr n0 x1 x2 s0 r2 10 σ3 h
  · replace h := h.2 c1
    refine wm_iconst (v := 0) X (by decide) dX5_takeOffer_25 ?_
    exact wm_zret X hr bz_0 h dX5_takeOffer_26
set_option maxRecDepth 100000 in
set_option maxHeartbeats 4000000 in
theorem c_X5_takeOffer (l : Launch) (G : va_G) (tI tJ tZ : ClassId) (ad : Nat → Nat) (hD : ∀ σ, va_D (Ad 22 ad) (wdC tI tJ tZ ad σ)) (x1 : Int32) (x2 : Int32) (σ : St) (post : Int32 → St → Prop) (h : wp_X5_takeOffer x1 x2 σ post) : Ct l yX5_takeOffer wsX5_takeOffer rm_X5_takeOffer G (tyL tI tJ tZ) (wdC tI tJ tZ ad) (Ad 22 ad) [.ref (ad 15), .int x1, .int x2] σ (Qi G (wdC tI tJ tZ ad) (Ad 22 ad) post) := by
  refine wm_entry (cc := cX5_takeOffer) (maxL := 7) (ret := (some .boolean)) (own := RX5) (lv := [(0, .ref (ad 15)), (1, .int x1), (2, .int x2)]) (by decide +kernel) rfl rfl (Nat.le_of_ble_eq_true rfl) rfl hD ?_
  intro p e s m below meth c X hr
  unfold wp_X5_takeOffer at h
  refine wm_iload_n X 1 rfl dX5_takeOffer_0 ?_
  refine wm_bipush (v := 10) X (by decide) dX5_takeOffer_1 ?_
  refine wm_icmp_ge (tgt := 18) X (by decide) dX5_takeOffer_3 (fun c1 => ?_) (fun c1 => ?_)
  · replace h := h.1 c1
    refine wm_iconst (v := (-1)) X (by decide) dX5_takeOffer_18 ?_
    exact w_X5_takeOffer_19 hD X hr x1 x2 (-1) σ h
  · replace h := h.2 c1
    refine wm_aload_n X 0 rfl dX5_takeOffer_6 ?_
    refine wm_iload_n X 1 rfl dX5_takeOffer_7 ?_
    refine wm_bipush (v := 10) X (by decide) dX5_takeOffer_8 ?_
    refine wm_iload_n X 2 rfl dX5_takeOffer_10 ?_
    refine wm_iadd X dX5_takeOffer_11 ?_
    refine wm_callVi (n := 2) (As := [.int x1, .int (10 + x2)]) (rest := []) X (c_X5_firstFilledColumn l G tI tJ tZ ad hD x1 (10 + x2) σ _ h) gX5_takeOffer_X5_firstFilledColumn rfl ⟨rfl, rfl⟩ (by decide +kernel) ⟨Nat.le_of_ble_eq_true rfl, Nat.le_of_ble_eq_true rfl⟩ 15 rfl rfl rfl rfl rfl (Nat.le_of_ble_eq_true rfl) dX5_takeOffer_12 (fun r2 σ3 h => ?_)
    refine wm_goto (tgt := 19) X (by decide) dX5_takeOffer_15 ?_
    exact w_X5_takeOffer_19 hD X hr x1 x2 r2 σ3 h
/-! X5_allOffersDo -/
abbrev rm_X5_allOffersDo : Room := { frames := 3, cells := 0, slots := 0, locals := 71 }
def lp_X5_allOffersDo_21 (post : Int32 → St → Prop)  : Nat → Int32 → Int32 → St → Prop
  | 0, _, _, _ => False
  | n + 1, x2, x3, σ =>
  (x3 < 0 → wp_X5_allAskedAreEmpty x2 σ (fun r2 σ3 => bz r2 ∧ post r2 σ3)) ∧ (¬ x3 < 0 → wp_X5_takeOffer x2 x3 σ (fun r4 σ5 => (r4 = 0 → ∀ v7 : Int32, v7 = x3 + (-1) → lp_X5_allOffersDo_21 post n x2 v7 σ5) ∧ (¬ r4 = 0 → ∀ v9 : Int32, v9 = x2 + 1 → ∀ v11 : Int32, v11 = x3 + (-1) → lp_X5_allOffersDo_21 post n v9 v11 σ5)))
def wp_X5_allOffersDo (x1 : Int32) (σ : St) (post : Int32 → St → Prop) : Prop :=
  wp_J7_fill_53178_17 (-1) σ (fun σ2 => vp_in 0 11 ∧ (∀ σ3 : St, σ3 = sA σ2 10 (Int32.toNatClampNeg 0) 0 → ∀ v5 : Int32, v5 = x1 - 1 → ∃ fu : Nat, lp_X5_allOffersDo_21 post fu 0 v5 σ3))
set_option maxRecDepth 100000 in
set_option maxHeartbeats 4000000 in
theorem w_X5_allOffersDo_21 {p : Program} {l : Launch} {e : Env} {s : State} {m : MethodId} {args : Array Value} {below : List Frame} {meth : Method} {c : Code} {G : va_G} {tI tJ tZ : ClassId} {ad : Nat → Nat} (hD : ∀ σ, va_D (Ad 22 ad) (wdC tI tJ tZ ad σ)) (X : Cx p s m args meth c cX5_allOffersDo 4 RX5 wsX5_allOffersDo G (tyL tI tJ tZ) (wdC tI tJ tZ ad) (Ad 22 ad)) (hr : meth.sig.returnType = (some .boolean)) {post : Int32 → St → Prop}  : ∀ (n : Nat) (x2 : Int32) (x3 : Int32) (σ : St), lp_X5_allOffersDo_21 post n x2 x3 σ → wm p l e rm_X5_allOffersDo s m args below meth c G (wdC tI tJ tZ ad) (Ad 22 ad) 4 (MQ below (Qi G (wdC tI tJ tZ ad) (Ad 22 ad) post) args s 0 0 (Ad 22 ad)) σ [(0, .ref (ad 15)), (2, .int x2), (3, .int x3)] 21 [] := by
  intro n
  induction n with
  | zero => intro x2 x3 σ h; exact h.elim
  | succ n ih =>
    intro x2 x3 σ h
    unfold lp_X5_allOffersDo_21 at h
    refine wm_iload_n X 2 rfl dX5_allOffersDo_21 ?_
    refine wm_if_lt (tgt := 43) X (by decide) dX5_allOffersDo_22 (fun c1 => ?_) (fun c1 => ?_)
    · replace h := h.1 c1
      refine wm_aload_n X 0 rfl dX5_allOffersDo_43 ?_
      refine wm_iload_n X 1 rfl dX5_allOffersDo_44 ?_
      refine wm_callVi (n := 1) (As := [.int x2]) (rest := []) X (c_X5_allAskedAreEmpty l G tI tJ tZ ad hD x2 σ _ h) gX5_allOffersDo_X5_allAskedAreEmpty rfl ⟨rfl, rfl⟩ (by decide +kernel) ⟨Nat.le_of_ble_eq_true rfl, Nat.le_of_ble_eq_true rfl⟩ 15 rfl rfl rfl rfl rfl (Nat.le_of_ble_eq_true rfl) dX5_allOffersDo_45 (fun r2 σ3 h => ?_)
      exact wm_zret X hr h.1 h.2 dX5_allOffersDo_48
    · replace h := h.2 c1
      refine wm_aload_n X 0 rfl dX5_allOffersDo_25 ?_
      refine wm_iload_n X 1 rfl dX5_allOffersDo_26 ?_
      refine wm_iload_n X 2 rfl dX5_allOffersDo_27 ?_
      refine wm_callVi (n := 2) (As := [.int x2, .int x3]) (rest := []) X (c_X5_takeOffer l G tI tJ tZ ad hD x2 x3 σ _ h) gX5_allOffersDo_X5_takeOffer rfl ⟨rfl, rfl⟩ (by decide +kernel) ⟨Nat.le_of_ble_eq_true rfl, Nat.le_of_ble_eq_true rfl⟩ 15 rfl rfl rfl rfl rfl (Nat.le_of_ble_eq_true rfl) dX5_allOffersDo_28 (fun r4 σ5 h => ?_)
      refine wm_if_eq (tgt := 37) X (by decide) dX5_allOffersDo_31 (fun c6 => ?_) (fun c6 => ?_)
      · replace h := h.1 c6
        obtain ⟨v7, e8⟩ : ∃ y : Int32, y = x3 + (-1) := ⟨_, rfl⟩
        replace h := h v7 e8
        refine wm_iinc (v := v7) (lv' := [(3, .int v7), (0, .ref (ad 15)), (2, .int x2)]) X 2 rfl (by rw [e8]; rfl) (by decide) rfl dX5_allOffersDo_37 ?_
        clear e8
        refine wm_goto (tgt := 21) X (by decide) dX5_allOffersDo_40 ?_
        refine wm_sub [1, 2, 0] (lv' := [(0, .ref (ad 15)), (2, .int x2), (3, .int v7)]) rfl ?_
        exact ih x2 v7 σ5 h
      · replace h := h.2 c6
        obtain ⟨v9, e10⟩ : ∃ y : Int32, y = x2 + 1 := ⟨_, rfl⟩
        replace h := h v9 e10
        refine wm_iinc (v := v9) (lv' := [(2, .int v9), (0, .ref (ad 15)), (3, .int x3)]) X 1 rfl (by rw [e10]; rfl) (by decide) rfl dX5_allOffersDo_34 ?_
        clear e10
        obtain ⟨v11, e12⟩ : ∃ y : Int32, y = x3 + (-1) := ⟨_, rfl⟩
        replace h := h v11 e12
        refine wm_iinc (v := v11) (lv' := [(3, .int v11), (2, .int v9), (0, .ref (ad 15))]) X 2 rfl (by rw [e12]; rfl) (by decide) rfl dX5_allOffersDo_37 ?_
        clear e12
        refine wm_goto (tgt := 21) X (by decide) dX5_allOffersDo_40 ?_
        refine wm_sub [2, 1, 0] (lv' := [(0, .ref (ad 15)), (2, .int v9), (3, .int v11)]) rfl ?_
        exact ih v9 v11 σ5 h
set_option maxRecDepth 100000 in
set_option maxHeartbeats 4000000 in
theorem c_X5_allOffersDo (l : Launch) (G : va_G) (tI tJ tZ : ClassId) (ad : Nat → Nat) (hD : ∀ σ, va_D (Ad 22 ad) (wdC tI tJ tZ ad σ)) (x1 : Int32) (σ : St) (post : Int32 → St → Prop) (h : wp_X5_allOffersDo x1 σ post) : Ct l yX5_allOffersDo wsX5_allOffersDo rm_X5_allOffersDo G (tyL tI tJ tZ) (wdC tI tJ tZ ad) (Ad 22 ad) [.ref (ad 15), .int x1] σ (Qi G (wdC tI tJ tZ ad) (Ad 22 ad) post) := by
  refine wm_entry (cc := cX5_allOffersDo) (maxL := 4) (ret := (some .boolean)) (own := RX5) (lv := [(0, .ref (ad 15)), (1, .int x1)]) (by decide +kernel) rfl rfl (Nat.le_of_ble_eq_true rfl) rfl hD ?_
  intro p e s m below meth c X hr
  unfold wp_X5_allOffersDo at h
  refine wm_aload_n X 0 rfl dX5_allOffersDo_0 ?_
  refine wm_get X (by decide +kernel) 15 rfl rfl 1 (by decide) (by decide +kernel) rfl dX5_allOffersDo_1 ?_
  refine wm_iconst (v := (-1)) X (by decide) dX5_allOffersDo_4 ?_
  refine wm_callSv (n := 2) (As := [.ref (ad 17), .int (-1)]) (rest := []) X (c_J7_fill_53178_17 l G tI tJ tZ ad hD (-1) σ _ h) gX5_allOffersDo_J7_fill_53178 rfl ⟨rfl, rfl⟩ (by decide +kernel) ⟨Nat.le_of_ble_eq_true rfl, Nat.le_of_ble_eq_true rfl⟩ rfl rfl (Nat.le_of_ble_eq_true rfl) dX5_allOffersDo_5 (fun σ2 h => ?_)
  refine wm_aload_n X 0 rfl dX5_allOffersDo_8 ?_
  refine wm_get X (by decide +kernel) 15 rfl rfl 1 (by decide) (by decide +kernel) rfl dX5_allOffersDo_9 ?_
  refine wm_iconst (v := 0) X (by decide) dX5_allOffersDo_12 ?_
  refine wm_iconst (v := 0) X (by decide) dX5_allOffersDo_13 ?_
  refine wm_iast (σ' := sA σ2 10 (Int32.toNatClampNeg 0) 0) X 17 0 rfl rfl h.1 rfl dX5_allOffersDo_14 ?_
  replace h := h.2
  refine wm_nmS (fun σ3 e4 => ?_)
  replace h := h σ3 e4
  clear e4
  refine wm_iconst (v := 0) X (by decide) dX5_allOffersDo_15 ?_
  refine wm_istore_n (lv' := [(2, .int 0), (0, .ref (ad 15)), (1, .int x1)]) X rfl (by decide) rfl dX5_allOffersDo_16 ?_
  refine wm_iload_n X 2 rfl dX5_allOffersDo_17 ?_
  refine wm_iconst (v := 1) X (by decide) dX5_allOffersDo_18 ?_
  refine wm_isub X dX5_allOffersDo_19 ?_
  refine wm_nmI (fun v5 e6 => ?_)
  replace h := h v5 e6
  clear e6
  refine wm_istore_n (lv' := [(3, .int v5), (2, .int 0), (0, .ref (ad 15)), (1, .int x1)]) X rfl (by decide) rfl dX5_allOffersDo_20 ?_
  refine wm_sub [2, 1, 0] (lv' := [(0, .ref (ad 15)), (2, .int 0), (3, .int v5)]) rfl ?_
  obtain ⟨n0, h⟩ := h
  exact w_X5_allOffersDo_21 hD X hr n0 0 v5 σ3 h
/-! X5_takeSet -/
abbrev rm_X5_takeSet : Room := { frames := 3, cells := 0, slots := 0, locals := 71 }
def wp_X5_takeSet (x1 : Int32) (σ : St) (post : Int32 → St → Prop) : Prop :=
  (¬ x1 = 0 → wp_J6_bitCount_0f7a4 x1 σ (fun r2 σ3 => ∀ v4 : Int32, v4 = r2 - 1 → vp_in v4 11 ∧ (((gA σ3 10 (Int32.toNatClampNeg v4)) = (x1 &&& (x1 - 1)) → wp_J6_bitCount_0f7a4 ((x1 - 1) &&& (x1 ^^^ (-1))) σ3 (fun r7 σ8 => wp_X5_takeOffer v4 r7 σ8 (fun r9 σ10 => bz r9 ∧ post r9 σ10))) ∧ (¬ (gA σ3 10 (Int32.toNatClampNeg v4)) = (x1 &&& (x1 - 1)) → post 0 σ3)))) ∧ (x1 = 0 → post 1 σ)
set_option maxRecDepth 100000 in
set_option maxHeartbeats 4000000 in
theorem c_X5_takeSet (l : Launch) (G : va_G) (tI tJ tZ : ClassId) (ad : Nat → Nat) (hD : ∀ σ, va_D (Ad 22 ad) (wdC tI tJ tZ ad σ)) (x1 : Int32) (σ : St) (post : Int32 → St → Prop) (h : wp_X5_takeSet x1 σ post) : Ct l yX5_takeSet wsX5_takeSet rm_X5_takeSet G (tyL tI tJ tZ) (wdC tI tJ tZ ad) (Ad 22 ad) [.ref (ad 15), .int x1] σ (Qi G (wdC tI tJ tZ ad) (Ad 22 ad) post) := by
  refine wm_entry (cc := cX5_takeSet) (maxL := 4) (ret := (some .boolean)) (own := RX5) (lv := [(0, .ref (ad 15)), (1, .int x1)]) (by decide +kernel) rfl rfl (Nat.le_of_ble_eq_true rfl) rfl hD ?_
  intro p e s m below meth c X hr
  unfold wp_X5_takeSet at h
  refine wm_iload_n X 1 rfl dX5_takeSet_0 ?_
  refine wm_if_ne (tgt := 6) X (by decide) dX5_takeSet_1 (fun c1 => ?_) (fun c1 => ?_)
  · replace h := h.1 c1
    refine wm_iload_n X 1 rfl dX5_takeSet_6 ?_
    refine wm_callSi (n := 1) (As := [.int x1]) (rest := []) X (c_J6_bitCount_0f7a4 l G tI tJ tZ ad hD x1 σ _ h) gX5_takeSet_J6_bitCount_0f7a4 rfl ⟨rfl, rfl⟩ (by decide +kernel) ⟨Nat.le_of_ble_eq_true rfl, Nat.le_of_ble_eq_true rfl⟩ rfl rfl (Nat.le_of_ble_eq_true rfl) dX5_takeSet_7 (fun r2 σ3 h => ?_)
    refine wm_iconst (v := 1) X (by decide) dX5_takeSet_10 ?_
    refine wm_isub X dX5_takeSet_11 ?_
    refine wm_nmI (fun v4 e5 => ?_)
    replace h := h v4 e5
    clear e5
    refine wm_istore_n (lv' := [(2, .int v4), (0, .ref (ad 15)), (1, .int x1)]) X rfl (by decide) rfl dX5_takeSet_12 ?_
    refine wm_aload_n X 1 rfl dX5_takeSet_13 ?_
    refine wm_get X (by decide +kernel) 15 rfl rfl 1 (by decide) (by decide +kernel) rfl dX5_takeSet_14 ?_
    refine wm_iload_n X 0 rfl dX5_takeSet_17 ?_
    refine wm_iald X 17 0 rfl rfl h.1 dX5_takeSet_18 ?_
    replace h := h.2
    refine wm_iload_n X 2 rfl dX5_takeSet_19 ?_
    refine wm_iload_n X 2 rfl dX5_takeSet_20 ?_
    refine wm_iconst (v := 1) X (by decide) dX5_takeSet_21 ?_
    refine wm_isub X dX5_takeSet_22 ?_
    refine wm_iand X dX5_takeSet_23 ?_
    refine wm_icmp_eq (tgt := 29) X (by decide) dX5_takeSet_24 (fun c6 => ?_) (fun c6 => ?_)
    · replace h := h.1 c6
      refine wm_iload_n X 2 rfl dX5_takeSet_29 ?_
      refine wm_iconst (v := 1) X (by decide) dX5_takeSet_30 ?_
      refine wm_isub X dX5_takeSet_31 ?_
      refine wm_iload_n X 2 rfl dX5_takeSet_32 ?_
      refine wm_iconst (v := (-1)) X (by decide) dX5_takeSet_33 ?_
      refine wm_ixor X dX5_takeSet_34 ?_
      refine wm_iand X dX5_takeSet_35 ?_
      refine wm_callSi (n := 1) (As := [.int ((x1 - 1) &&& (x1 ^^^ (-1)))]) (rest := []) X (c_J6_bitCount_0f7a4 l G tI tJ tZ ad hD ((x1 - 1) &&& (x1 ^^^ (-1))) σ3 _ h) gX5_takeSet_J6_bitCount_0f7a4 rfl ⟨rfl, rfl⟩ (by decide +kernel) ⟨Nat.le_of_ble_eq_true rfl, Nat.le_of_ble_eq_true rfl⟩ rfl rfl (Nat.le_of_ble_eq_true rfl) dX5_takeSet_36 (fun r7 σ8 h => ?_)
      refine wm_istore_n (lv' := [(3, .int r7), (2, .int v4), (0, .ref (ad 15)), (1, .int x1)]) X rfl (by decide) rfl dX5_takeSet_39 ?_
      refine wm_aload_n X 2 rfl dX5_takeSet_40 ?_
      refine wm_iload_n X 1 rfl dX5_takeSet_41 ?_
      refine wm_iload_n X 0 rfl dX5_takeSet_42 ?_
      refine wm_callVi (n := 2) (As := [.int v4, .int r7]) (rest := []) X (c_X5_takeOffer l G tI tJ tZ ad hD v4 r7 σ8 _ h) gX5_takeSet_X5_takeOffer rfl ⟨rfl, rfl⟩ (by decide +kernel) ⟨Nat.le_of_ble_eq_true rfl, Nat.le_of_ble_eq_true rfl⟩ 15 rfl rfl rfl rfl rfl (Nat.le_of_ble_eq_true rfl) dX5_takeSet_43 (fun r9 σ10 h => ?_)
      exact wm_zret X hr h.1 h.2 dX5_takeSet_46
    · replace h := h.2 c6
      refine wm_iconst (v := 0) X (by decide) dX5_takeSet_27 ?_
      exact wm_zret X hr bz_0 h dX5_takeSet_28
  · replace h := h.2 c1
    refine wm_iconst (v := 1) X (by decide) dX5_takeSet_4 ?_
    exact wm_zret X hr bz_1 h dX5_takeSet_5
/-! X5_fewestOffers -/
abbrev rm_X5_fewestOffers : Room := { frames := 4, cells := 0, slots := 0, locals := 94 }
def lp_X5_fewestOffers_42 (post : Int32 → St → Prop)  : Nat → Int32 → Int32 → Int32 → Int32 → St → Prop
  | 0, _, _, _, _, _ => False
  | n + 1, x3, x4, x5, x6, σ =>
  (x5 ≤ x6 → post x3 σ) ∧ (¬ x5 ≤ x6 → wp_J6_bitCount_0f7a4 x6 σ (fun r2 σ3 => (x4 ≤ r2 → ∀ v5 : Int32, v5 = x6 + 1 → lp_X5_fewestOffers_42 post n x3 x4 x5 v5 σ3) ∧ (¬ x4 ≤ r2 → wp_X5_takeSet x6 σ3 (fun r7 σ8 => (r7 = 0 → ∀ v10 : Int32, v10 = x6 + 1 → lp_X5_fewestOffers_42 post n x3 x4 x5 v10 σ8) ∧ (¬ r7 = 0 → wp_X5_allAskedAreEmpty r2 σ8 (fun r12 σ13 => (r12 = 0 → ∀ v15 : Int32, v15 = x6 + 1 → lp_X5_fewestOffers_42 post n x3 x4 x5 v15 σ13) ∧ (¬ r12 = 0 → ∀ v17 : Int32, v17 = x6 + 1 → lp_X5_fewestOffers_42 post n x6 r2 x5 v17 σ13)))))))
def wp_X5_fewestOffers (x2 : Int32) (σ : St) (post : Int32 → St → Prop) : Prop :=
  wp_X5_takeWays σ (fun σ2 => ∀ σ3 : St, σ3 = sI σ2 19 x2 → wp_X5_allOffersDo (gI σ3 2) σ3 (fun r5 σ6 => (r5 = 0 → ∃ fu : Nat, lp_X5_fewestOffers_42 post fu (-1) 11 0 0 σ6) ∧ (¬ r5 = 0 → ∀ v8 : Int32, v8 = 1 <<< ((gI σ6 2) &&& 31) → ∃ fu : Nat, lp_X5_fewestOffers_42 post fu (-1) 11 v8 0 σ6)))
set_option maxRecDepth 100000 in
set_option maxHeartbeats 4000000 in
theorem w_X5_fewestOffers_42 {p : Program} {l : Launch} {e : Env} {s : State} {m : MethodId} {args : Array Value} {below : List Frame} {meth : Method} {c : Code} {G : va_G} {tI tJ tZ : ClassId} {ad : Nat → Nat} (hD : ∀ σ, va_D (Ad 22 ad) (wdC tI tJ tZ ad σ)) (X : Cx p s m args meth c cX5_fewestOffers 8 RX5 wsX5_fewestOffers G (tyL tI tJ tZ) (wdC tI tJ tZ ad) (Ad 22 ad)) (hr : meth.sig.returnType = (some .int)) {post : Int32 → St → Prop}  : ∀ (n : Nat) (x3 : Int32) (x4 : Int32) (x5 : Int32) (x6 : Int32) (σ : St), lp_X5_fewestOffers_42 post n x3 x4 x5 x6 σ → wm p l e rm_X5_fewestOffers s m args below meth c G (wdC tI tJ tZ ad) (Ad 22 ad) 8 (MQ below (Qi G (wdC tI tJ tZ ad) (Ad 22 ad) post) args s 0 0 (Ad 22 ad)) σ [(0, .ref (ad 15)), (3, .int x3), (4, .int x4), (5, .int x5), (6, .int x6)] 42 [] := by
  intro n
  induction n with
  | zero => intro x3 x4 x5 x6 σ h; exact h.elim
  | succ n ih =>
    intro x3 x4 x5 x6 σ h
    unfold lp_X5_fewestOffers_42 at h
    refine wm_iload X 4 rfl dX5_fewestOffers_42 ?_
    refine wm_iload X 3 rfl dX5_fewestOffers_44 ?_
    refine wm_icmp_ge (tgt := 94) X (by decide) dX5_fewestOffers_46 (fun c1 => ?_) (fun c1 => ?_)
    · replace h := h.1 c1
      refine wm_iload_n X 1 rfl dX5_fewestOffers_94 ?_
      exact wm_iret X hr h dX5_fewestOffers_95
    · replace h := h.2 c1
      refine wm_iload X 4 rfl dX5_fewestOffers_49 ?_
      refine wm_callSi (n := 1) (As := [.int x6]) (rest := []) X (c_J6_bitCount_0f7a4 l G tI tJ tZ ad hD x6 σ _ h) gX5_fewestOffers_J6_bitCount_0f7a4 rfl ⟨rfl, rfl⟩ (by decide +kernel) ⟨Nat.le_of_ble_eq_true rfl, Nat.le_of_ble_eq_true rfl⟩ rfl rfl (Nat.le_of_ble_eq_true rfl) dX5_fewestOffers_51 (fun r2 σ3 h => ?_)
      refine wm_istore (lv' := [(7, .int r2), (0, .ref (ad 15)), (3, .int x3), (4, .int x4), (5, .int x5), (6, .int x6)]) X (by decide) rfl dX5_fewestOffers_54 ?_
      refine wm_iload X 0 rfl dX5_fewestOffers_56 ?_
      refine wm_iload X 3 rfl dX5_fewestOffers_58 ?_
      refine wm_icmp_ge (tgt := 88) X (by decide) dX5_fewestOffers_60 (fun c4 => ?_) (fun c4 => ?_)
      · replace h := h.1 c4
        obtain ⟨v5, e6⟩ : ∃ y : Int32, y = x6 + 1 := ⟨_, rfl⟩
        replace h := h v5 e6
        refine wm_iinc (v := v5) (lv' := [(6, .int v5), (7, .int r2), (0, .ref (ad 15)), (3, .int x3), (4, .int x4), (5, .int x5)]) X 5 rfl (by rw [e6]; rfl) (by decide) rfl dX5_fewestOffers_88 ?_
        clear e6
        refine wm_goto (tgt := 42) X (by decide) dX5_fewestOffers_91 ?_
        refine wm_sub [2, 3, 4, 5, 0] (lv' := [(0, .ref (ad 15)), (3, .int x3), (4, .int x4), (5, .int x5), (6, .int v5)]) rfl ?_
        exact ih x3 x4 x5 v5 σ3 h
      · replace h := h.2 c4
        refine wm_aload_n X 1 rfl dX5_fewestOffers_63 ?_
        refine wm_iload X 5 rfl dX5_fewestOffers_64 ?_
        refine wm_callVi (n := 1) (As := [.int x6]) (rest := []) X (c_X5_takeSet l G tI tJ tZ ad hD x6 σ3 _ h) gX5_fewestOffers_X5_takeSet rfl ⟨rfl, rfl⟩ (by decide +kernel) ⟨Nat.le_of_ble_eq_true rfl, Nat.le_of_ble_eq_true rfl⟩ 15 rfl rfl rfl rfl rfl (Nat.le_of_ble_eq_true rfl) dX5_fewestOffers_66 (fun r7 σ8 h => ?_)
        refine wm_if_eq (tgt := 88) X (by decide) dX5_fewestOffers_69 (fun c9 => ?_) (fun c9 => ?_)
        · replace h := h.1 c9
          obtain ⟨v10, e11⟩ : ∃ y : Int32, y = x6 + 1 := ⟨_, rfl⟩
          replace h := h v10 e11
          refine wm_iinc (v := v10) (lv' := [(6, .int v10), (7, .int r2), (0, .ref (ad 15)), (3, .int x3), (4, .int x4), (5, .int x5)]) X 5 rfl (by rw [e11]; rfl) (by decide) rfl dX5_fewestOffers_88 ?_
          clear e11
          refine wm_goto (tgt := 42) X (by decide) dX5_fewestOffers_91 ?_
          refine wm_sub [2, 3, 4, 5, 0] (lv' := [(0, .ref (ad 15)), (3, .int x3), (4, .int x4), (5, .int x5), (6, .int v10)]) rfl ?_
          exact ih x3 x4 x5 v10 σ8 h
        · replace h := h.2 c9
          refine wm_aload_n X 1 rfl dX5_fewestOffers_72 ?_
          refine wm_iload X 0 rfl dX5_fewestOffers_73 ?_
          refine wm_callVi (n := 1) (As := [.int r2]) (rest := []) X (c_X5_allAskedAreEmpty l G tI tJ tZ ad hD r2 σ8 _ h) gX5_fewestOffers_X5_allAskedAreEmpty rfl ⟨rfl, rfl⟩ (by decide +kernel) ⟨Nat.le_of_ble_eq_true rfl, Nat.le_of_ble_eq_true rfl⟩ 15 rfl rfl rfl rfl rfl (Nat.le_of_ble_eq_true rfl) dX5_fewestOffers_75 (fun r12 σ13 h => ?_)
          refine wm_if_eq (tgt := 88) X (by decide) dX5_fewestOffers_78 (fun c14 => ?_) (fun c14 => ?_)
          · replace h := h.1 c14
            obtain ⟨v15, e16⟩ : ∃ y : Int32, y = x6 + 1 := ⟨_, rfl⟩
            replace h := h v15 e16
            refine wm_iinc (v := v15) (lv' := [(6, .int v15), (7, .int r2), (0, .ref (ad 15)), (3, .int x3), (4, .int x4), (5, .int x5)]) X 5 rfl (by rw [e16]; rfl) (by decide) rfl dX5_fewestOffers_88 ?_
            clear e16
            refine wm_goto (tgt := 42) X (by decide) dX5_fewestOffers_91 ?_
            refine wm_sub [2, 3, 4, 5, 0] (lv' := [(0, .ref (ad 15)), (3, .int x3), (4, .int x4), (5, .int x5), (6, .int v15)]) rfl ?_
            exact ih x3 x4 x5 v15 σ13 h
          · replace h := h.2 c14
            refine wm_iload X 5 rfl dX5_fewestOffers_81 ?_
            refine wm_istore_n (lv' := [(3, .int x6), (7, .int r2), (0, .ref (ad 15)), (4, .int x4), (5, .int x5), (6, .int x6)]) X rfl (by decide) rfl dX5_fewestOffers_83 ?_
            refine wm_iload X 1 rfl dX5_fewestOffers_84 ?_
            refine wm_istore (lv' := [(4, .int r2), (3, .int x6), (7, .int r2), (0, .ref (ad 15)), (5, .int x5), (6, .int x6)]) X (by decide) rfl dX5_fewestOffers_86 ?_
            obtain ⟨v17, e18⟩ : ∃ y : Int32, y = x6 + 1 := ⟨_, rfl⟩
            replace h := h v17 e18
            refine wm_iinc (v := v17) (lv' := [(6, .int v17), (4, .int r2), (3, .int x6), (7, .int r2), (0, .ref (ad 15)), (5, .int x5)]) X 5 rfl (by rw [e18]; rfl) (by decide) rfl dX5_fewestOffers_88 ?_
            clear e18
            refine wm_goto (tgt := 42) X (by decide) dX5_fewestOffers_91 ?_
            refine wm_sub [4, 2, 1, 5, 0] (lv' := [(0, .ref (ad 15)), (3, .int x6), (4, .int r2), (5, .int x5), (6, .int v17)]) rfl ?_
            exact ih x6 r2 x5 v17 σ13 h
set_option maxRecDepth 100000 in
set_option maxHeartbeats 4000000 in
theorem c_X5_fewestOffers (l : Launch) (G : va_G) (tI tJ tZ : ClassId) (ad : Nat → Nat) (hD : ∀ σ, va_D (Ad 22 ad) (wdC tI tJ tZ ad σ)) (x2 : Int32) (σ : St) (post : Int32 → St → Prop) (h : wp_X5_fewestOffers x2 σ post) : Ct l yX5_fewestOffers wsX5_fewestOffers rm_X5_fewestOffers G (tyL tI tJ tZ) (wdC tI tJ tZ ad) (Ad 22 ad) [.ref (ad 15), .ref (ad 1), .int x2] σ (Qi G (wdC tI tJ tZ ad) (Ad 22 ad) post) := by
  refine wm_entry (cc := cX5_fewestOffers) (maxL := 8) (ret := (some .int)) (own := RX5) (lv := [(0, .ref (ad 15)), (1, .ref (ad 1)), (2, .int x2)]) (by decide +kernel) rfl rfl (Nat.le_of_ble_eq_true rfl) rfl hD ?_
  intro p e s m below meth c X hr
  unfold wp_X5_fewestOffers at h
  refine wm_aload_n X 0 rfl dX5_fewestOffers_0 ?_
  refine wm_aload_n X 1 rfl dX5_fewestOffers_1 ?_
  refine wm_callVv (n := 1) (As := [.ref (ad 1)]) (rest := []) X (c_X5_takeWays l G tI tJ tZ ad hD σ _ h) gX5_fewestOffers_X5_takeWays rfl ⟨rfl, rfl⟩ (by decide +kernel) ⟨Nat.le_of_ble_eq_true rfl, Nat.le_of_ble_eq_true rfl⟩ 15 rfl rfl rfl rfl rfl (Nat.le_of_ble_eq_true rfl) dX5_fewestOffers_2 (fun σ2 h => ?_)
  refine wm_aload_n X 0 rfl dX5_fewestOffers_5 ?_
  refine wm_iload_n X 2 rfl dX5_fewestOffers_6 ?_
  refine wm_put (σ' := sI σ2 19 x2) X (by decide +kernel) tyX5 tyX5_ok nmX5 15 rfl rfl 5 (by decide) (by decide +kernel) rfl (tyX5_ok 5 (by decide)) rfl rfl (Nat.le_of_ble_eq_true rfl) rfl dX5_fewestOffers_7 ?_
  refine wm_nmS (fun σ3 e4 => ?_)
  replace h := h σ3 e4
  clear e4
  refine wm_iconst (v := (-1)) X (by decide) dX5_fewestOffers_10 ?_
  refine wm_istore_n (lv' := [(3, .int (-1)), (0, .ref (ad 15)), (1, .ref (ad 1)), (2, .int x2)]) X rfl (by decide) rfl dX5_fewestOffers_11 ?_
  refine wm_bipush (v := 11) X (by decide) dX5_fewestOffers_12 ?_
  refine wm_istore (lv' := [(4, .int 11), (3, .int (-1)), (0, .ref (ad 15)), (1, .ref (ad 1)), (2, .int x2)]) X (by decide) rfl dX5_fewestOffers_14 ?_
  refine wm_aload_n X 2 rfl dX5_fewestOffers_16 ?_
  refine wm_aload_n X 3 rfl dX5_fewestOffers_17 ?_
  refine wm_get X (by decide +kernel) 1 rfl rfl 5 (by decide) (by decide +kernel) rfl dX5_fewestOffers_18 ?_
  refine wm_callVi (n := 1) (As := [.int (gI σ3 2)]) (rest := []) X (c_X5_allOffersDo l G tI tJ tZ ad hD (gI σ3 2) σ3 _ h) gX5_fewestOffers_X5_allOffersDo rfl ⟨rfl, rfl⟩ (by decide +kernel) ⟨Nat.le_of_ble_eq_true rfl, Nat.le_of_ble_eq_true rfl⟩ 15 rfl rfl rfl rfl rfl (Nat.le_of_ble_eq_true rfl) dX5_fewestOffers_21 (fun r5 σ6 h => ?_)
  refine wm_if_eq (tgt := 36) X (by decide) dX5_fewestOffers_24 (fun c7 => ?_) (fun c7 => ?_)
  · replace h := h.1 c7
    refine wm_iconst (v := 0) X (by decide) dX5_fewestOffers_36 ?_
    refine wm_istore (lv' := [(5, .int 0), (4, .int 11), (3, .int (-1)), (0, .ref (ad 15)), (1, .ref (ad 1)), (2, .int x2)]) X (by decide) rfl dX5_fewestOffers_37 ?_
    refine wm_iconst (v := 0) X (by decide) dX5_fewestOffers_39 ?_
    refine wm_istore (lv' := [(6, .int 0), (5, .int 0), (4, .int 11), (3, .int (-1)), (0, .ref (ad 15)), (1, .ref (ad 1)), (2, .int x2)]) X (by decide) rfl dX5_fewestOffers_40 ?_
    refine wm_sub [4, 3, 2, 1, 0] (lv' := [(0, .ref (ad 15)), (3, .int (-1)), (4, .int 11), (5, .int 0), (6, .int 0)]) rfl ?_
    obtain ⟨n0, h⟩ := h
    exact w_X5_fewestOffers_42 hD X hr n0 (-1) 11 0 0 σ6 h
  · replace h := h.2 c7
    refine wm_iconst (v := 1) X (by decide) dX5_fewestOffers_27 ?_
    refine wm_aload_n X 3 rfl dX5_fewestOffers_28 ?_
    refine wm_get X (by decide +kernel) 1 rfl rfl 5 (by decide) (by decide +kernel) rfl dX5_fewestOffers_29 ?_
    refine wm_ishl X dX5_fewestOffers_32 ?_
    refine wm_goto (tgt := 37) X (by decide) dX5_fewestOffers_33 ?_
    refine wm_nmI (fun v8 e9 => ?_)
    replace h := h v8 e9
    clear e9
    refine wm_istore (lv' := [(5, .int v8), (4, .int 11), (3, .int (-1)), (0, .ref (ad 15)), (1, .ref (ad 1)), (2, .int x2)]) X (by decide) rfl dX5_fewestOffers_37 ?_
    refine wm_iconst (v := 0) X (by decide) dX5_fewestOffers_39 ?_
    refine wm_istore (lv' := [(6, .int 0), (5, .int v8), (4, .int 11), (3, .int (-1)), (0, .ref (ad 15)), (1, .ref (ad 1)), (2, .int x2)]) X (by decide) rfl dX5_fewestOffers_40 ?_
    refine wm_sub [4, 3, 2, 1, 0] (lv' := [(0, .ref (ad 15)), (3, .int (-1)), (4, .int 11), (5, .int v8), (6, .int 0)]) rfl ?_
    obtain ⟨n0, h⟩ := h
    exact w_X5_fewestOffers_42 hD X hr n0 (-1) 11 v8 0 σ6 h
/-! X6_advice -/
abbrev rm_X6_advice : Room := { frames := 5, cells := 0, slots := 0, locals := 121 }
def wp_X6_advice (x1 : Int32) (σ : St) (post : Int32 → St → Prop) : Prop :=
  wp_X2_isLineSet x1 σ (fun r1 σ2 => (¬ r1 = 0 → wp_X5_fewestOffers x1 σ2 (fun r4 σ5 => post r4 σ5)) ∧ (r1 = 0 → post (-102) σ2))
set_option maxRecDepth 100000 in
set_option maxHeartbeats 4000000 in
theorem c_X6_advice (l : Launch) (G : va_G) (tI tJ tZ : ClassId) (ad : Nat → Nat) (hD : ∀ σ, va_D (Ad 22 ad) (wdC tI tJ tZ ad σ)) (x1 : Int32) (σ : St) (post : Int32 → St → Prop) (h : wp_X6_advice x1 σ post) : Ct l yX6_advice wsX6_advice rm_X6_advice G (tyL tI tJ tZ) (wdC tI tJ tZ ad) (Ad 22 ad) [.ref (ad 0), .int x1] σ (Qi G (wdC tI tJ tZ ad) (Ad 22 ad) post) := by
  refine wm_entry (cc := cX6_advice) (maxL := 2) (ret := (some .int)) (own := RX6) (lv := [(0, .ref (ad 0)), (1, .int x1)]) (by decide +kernel) rfl rfl (Nat.le_of_ble_eq_true rfl) rfl hD ?_
  intro p e s m below meth c X hr
  unfold wp_X6_advice at h
  refine wm_aload_n X 0 rfl dX6_advice_0 ?_
  refine wm_get X (by decide +kernel) 0 rfl rfl 0 (by decide) (by decide +kernel) rfl dX6_advice_1 ?_
  refine wm_iload_n X 1 rfl dX6_advice_4 ?_
  refine wm_callVi (n := 1) (As := [.int x1]) (rest := []) X (c_X2_isLineSet l G tI tJ tZ ad hD x1 σ _ h) gX6_advice_X2_isLineSet rfl ⟨rfl, rfl⟩ (by decide +kernel) ⟨Nat.le_of_ble_eq_true rfl, Nat.le_of_ble_eq_true rfl⟩ 1 rfl rfl rfl rfl rfl (Nat.le_of_ble_eq_true rfl) dX6_advice_5 (fun r1 σ2 h => ?_)
  refine wm_if_ne (tgt := 14) X (by decide) dX6_advice_8 (fun c3 => ?_) (fun c3 => ?_)
  · replace h := h.1 c3
    refine wm_aload_n X 0 rfl dX6_advice_14 ?_
    refine wm_get X (by decide +kernel) 0 rfl rfl 3 (by decide) (by decide +kernel) rfl dX6_advice_15 ?_
    refine wm_aload_n X 0 rfl dX6_advice_18 ?_
    refine wm_get X (by decide +kernel) 0 rfl rfl 0 (by decide) (by decide +kernel) rfl dX6_advice_19 ?_
    refine wm_iload_n X 1 rfl dX6_advice_22 ?_
    refine wm_callVi (n := 2) (As := [.ref (ad 1), .int x1]) (rest := []) X (c_X5_fewestOffers l G tI tJ tZ ad hD x1 σ2 _ h) gX6_advice_X5_fewestOffers rfl ⟨rfl, rfl⟩ (by decide +kernel) ⟨Nat.le_of_ble_eq_true rfl, Nat.le_of_ble_eq_true rfl⟩ 15 rfl rfl rfl rfl rfl (Nat.le_of_ble_eq_true rfl) dX6_advice_23 (fun r4 σ5 h => ?_)
    exact wm_iret X hr h dX6_advice_26
  · replace h := h.2 c3
    refine wm_bipush (v := (-102)) X (by decide) dX6_advice_11 ?_
    exact wm_iret X hr h dX6_advice_13
/-! X3_empty_20 -/
abbrev rm_X3_empty_20 : Room := { frames := 0, cells := 0, slots := 0, locals := 0 }
def wp_X3_empty_20 (σ : St) (post : St → Prop) : Prop :=
  ∀ σ1 : St, σ1 = sI σ 16 0 → post σ1
set_option maxRecDepth 100000 in
set_option maxHeartbeats 4000000 in
theorem c_X3_empty_20 (l : Launch) (G : va_G) (tI tJ tZ : ClassId) (ad : Nat → Nat) (hD : ∀ σ, va_D (Ad 22 ad) (wdC tI tJ tZ ad σ))  (σ : St) (post : St → Prop) (h : wp_X3_empty_20  σ post) : Ct l yX3_empty wsX3_empty rm_X3_empty_20 G (tyL tI tJ tZ) (wdC tI tJ tZ ad) (Ad 22 ad) [.ref (ad 20)] σ (Qv G (wdC tI tJ tZ ad) (Ad 22 ad) post) := by
  refine wm_entry (cc := cX3_empty) (maxL := 1) (ret := none) (own := RX3) (lv := [(0, .ref (ad 20))]) (by decide +kernel) rfl rfl (Nat.le_of_ble_eq_true rfl) rfl hD ?_
  intro p e s m below meth c X hr
  unfold wp_X3_empty_20 at h
  refine wm_aload_n X 0 rfl dX3_empty_0 ?_
  refine wm_iconst (v := 0) X (by decide) dX3_empty_1 ?_
  refine wm_put (σ' := sI σ 16 0) X (by decide +kernel) tyX3 tyX3_ok nmX3 20 rfl rfl 1 (by decide) (by decide +kernel) rfl (tyX3_ok 1 (by decide)) rfl rfl (Nat.le_of_ble_eq_true rfl) rfl dX3_empty_2 ?_
  refine wm_nmS (fun σ1 e2 => ?_)
  replace h := h σ1 e2
  clear e2
  exact wm_vret X hr h dX3_empty_5
/-! X4_linesOfNoGoodWay -/
abbrev rm_X4_linesOfNoGoodWay : Room := { frames := 2, cells := 0, slots := 0, locals := 42 }
def lp_X4_linesOfNoGoodWay_11 (post : Int32 → St → Prop)  : Nat → Int32 → Int32 → St → Prop
  | 0, _, _, _ => False
  | n + 1, x1, x2, σ =>
  ((gI σ 1) ≤ x2 → post x1 σ) ∧ (¬ (gI σ 1) ≤ x2 → wp_X2_isOn x2 σ (fun r2 σ3 => (r2 = 0 → ∀ v5 : Int32, v5 = x2 + 1 → lp_X4_linesOfNoGoodWay_11 post n x1 v5 σ3) ∧ (¬ r2 = 0 → wp_X6_bitOf (gI σ3 4) x2 σ3 (fun r7 σ8 => (¬ r7 = 0 → ∀ v10 : Int32, v10 = x2 + 1 → lp_X4_linesOfNoGoodWay_11 post n x1 v10 σ8) ∧ (r7 = 0 → vp_in x2 10 ∧ (∀ v12 : Int32, v12 = x1 &&& ((gA σ8 0 (Int32.toNatClampNeg x2)) ^^^ (-1)) → ∀ v14 : Int32, v14 = x2 + 1 → lp_X4_linesOfNoGoodWay_11 post n v12 v14 σ8))))))
def wp_X4_linesOfNoGoodWay (σ : St) (post : Int32 → St → Prop) : Prop :=
  ∀ v1 : Int32, v1 = (1 <<< ((gI σ 0) &&& 31)) - 1 → ∃ fu : Nat, lp_X4_linesOfNoGoodWay_11 post fu v1 0 σ
set_option maxRecDepth 100000 in
set_option maxHeartbeats 4000000 in
theorem w_X4_linesOfNoGoodWay_11 {p : Program} {l : Launch} {e : Env} {s : State} {m : MethodId} {args : Array Value} {below : List Frame} {meth : Method} {c : Code} {G : va_G} {tI tJ tZ : ClassId} {ad : Nat → Nat} (hD : ∀ σ, va_D (Ad 22 ad) (wdC tI tJ tZ ad σ)) (X : Cx p s m args meth c cX4_linesOfNoGoodWay 3 RX4 wsX4_linesOfNoGoodWay G (tyL tI tJ tZ) (wdC tI tJ tZ ad) (Ad 22 ad)) (hr : meth.sig.returnType = (some .int)) {post : Int32 → St → Prop}  : ∀ (n : Nat) (x1 : Int32) (x2 : Int32) (σ : St), lp_X4_linesOfNoGoodWay_11 post n x1 x2 σ → wm p l e rm_X4_linesOfNoGoodWay s m args below meth c G (wdC tI tJ tZ ad) (Ad 22 ad) 3 (MQ below (Qi G (wdC tI tJ tZ ad) (Ad 22 ad) post) args s 0 0 (Ad 22 ad)) σ [(0, .ref (ad 1)), (1, .int x1), (2, .int x2)] 11 [] := by
  intro n
  induction n with
  | zero => intro x1 x2 σ h; exact h.elim
  | succ n ih =>
    intro x1 x2 σ h
    unfold lp_X4_linesOfNoGoodWay_11 at h
    refine wm_iload_n X 2 rfl dX4_linesOfNoGoodWay_11 ?_
    refine wm_aload_n X 0 rfl dX4_linesOfNoGoodWay_12 ?_
    refine wm_get X (by decide +kernel) 1 rfl rfl 4 (by decide) (by decide +kernel) rfl dX4_linesOfNoGoodWay_13 ?_
    refine wm_icmp_ge (tgt := 55) X (by decide) dX4_linesOfNoGoodWay_16 (fun c1 => ?_) (fun c1 => ?_)
    · replace h := h.1 c1
      refine wm_iload_n X 1 rfl dX4_linesOfNoGoodWay_55 ?_
      exact wm_iret X hr h dX4_linesOfNoGoodWay_56
    · replace h := h.2 c1
      refine wm_aload_n X 0 rfl dX4_linesOfNoGoodWay_19 ?_
      refine wm_iload_n X 2 rfl dX4_linesOfNoGoodWay_20 ?_
      refine wm_callVi (n := 1) (As := [.int x2]) (rest := []) X (c_X2_isOn l G tI tJ tZ ad hD x2 σ _ h) gX4_linesOfNoGoodWay_X2_isOn rfl ⟨rfl, rfl⟩ (by decide +kernel) ⟨Nat.le_of_ble_eq_true rfl, Nat.le_of_ble_eq_true rfl⟩ 1 rfl rfl rfl rfl rfl (Nat.le_of_ble_eq_true rfl) dX4_linesOfNoGoodWay_21 (fun r2 σ3 h => ?_)
      refine wm_if_eq (tgt := 49) X (by decide) dX4_linesOfNoGoodWay_24 (fun c4 => ?_) (fun c4 => ?_)
      · replace h := h.1 c4
        obtain ⟨v5, e6⟩ : ∃ y : Int32, y = x2 + 1 := ⟨_, rfl⟩
        replace h := h v5 e6
        refine wm_iinc (v := v5) (lv' := [(2, .int v5), (0, .ref (ad 1)), (1, .int x1)]) X 2 rfl (by rw [e6]; rfl) (by decide) rfl dX4_linesOfNoGoodWay_49 ?_
        clear e6
        refine wm_goto (tgt := 11) X (by decide) dX4_linesOfNoGoodWay_52 ?_
        refine wm_sub [1, 2, 0] (lv' := [(0, .ref (ad 1)), (1, .int x1), (2, .int v5)]) rfl ?_
        exact ih x1 v5 σ3 h
      · replace h := h.2 c4
        refine wm_aload_n X 0 rfl dX4_linesOfNoGoodWay_27 ?_
        refine wm_get X (by decide +kernel) 1 rfl rfl 7 (by decide) (by decide +kernel) rfl dX4_linesOfNoGoodWay_28 ?_
        refine wm_iload_n X 2 rfl dX4_linesOfNoGoodWay_31 ?_
        refine wm_callNi (n := 2) (As := [.int (gI σ3 4), .int x2]) (rest := []) X (c_X6_bitOf l G tI tJ tZ ad hD (gI σ3 4) x2 σ3 _ h) gX4_linesOfNoGoodWay_X6_bitOf_n55 rfl ⟨rfl, rfl⟩ (List.mem_of_getElem? (i := 12) rfl) (by decide +kernel) (by decide +kernel) (by decide +kernel) ⟨Nat.le_of_ble_eq_true rfl, Nat.le_of_ble_eq_true rfl⟩ rfl rfl (Nat.le_of_ble_eq_true rfl) dX4_linesOfNoGoodWay_32 (fun r7 σ8 h => ?_)
        refine wm_if_ne (tgt := 49) X (by decide) dX4_linesOfNoGoodWay_35 (fun c9 => ?_) (fun c9 => ?_)
        · replace h := h.1 c9
          obtain ⟨v10, e11⟩ : ∃ y : Int32, y = x2 + 1 := ⟨_, rfl⟩
          replace h := h v10 e11
          refine wm_iinc (v := v10) (lv' := [(2, .int v10), (0, .ref (ad 1)), (1, .int x1)]) X 2 rfl (by rw [e11]; rfl) (by decide) rfl dX4_linesOfNoGoodWay_49 ?_
          clear e11
          refine wm_goto (tgt := 11) X (by decide) dX4_linesOfNoGoodWay_52 ?_
          refine wm_sub [1, 2, 0] (lv' := [(0, .ref (ad 1)), (1, .int x1), (2, .int v10)]) rfl ?_
          exact ih x1 v10 σ8 h
        · replace h := h.2 c9
          refine wm_iload_n X 1 rfl dX4_linesOfNoGoodWay_38 ?_
          refine wm_aload_n X 0 rfl dX4_linesOfNoGoodWay_39 ?_
          refine wm_get X (by decide +kernel) 1 rfl rfl 0 (by decide) (by decide +kernel) rfl dX4_linesOfNoGoodWay_40 ?_
          refine wm_iload_n X 2 rfl dX4_linesOfNoGoodWay_43 ?_
          refine wm_iald X 2 0 rfl rfl h.1 dX4_linesOfNoGoodWay_44 ?_
          replace h := h.2
          refine wm_iconst (v := (-1)) X (by decide) dX4_linesOfNoGoodWay_45 ?_
          refine wm_ixor X dX4_linesOfNoGoodWay_46 ?_
          refine wm_iand X dX4_linesOfNoGoodWay_47 ?_
          refine wm_nmI (fun v12 e13 => ?_)
          replace h := h v12 e13
          clear e13
          refine wm_istore_n (lv' := [(1, .int v12), (0, .ref (ad 1)), (2, .int x2)]) X rfl (by decide) rfl dX4_linesOfNoGoodWay_48 ?_
          obtain ⟨v14, e15⟩ : ∃ y : Int32, y = x2 + 1 := ⟨_, rfl⟩
          replace h := h v14 e15
          refine wm_iinc (v := v14) (lv' := [(2, .int v14), (1, .int v12), (0, .ref (ad 1))]) X 2 rfl (by rw [e15]; rfl) (by decide) rfl dX4_linesOfNoGoodWay_49 ?_
          clear e15
          refine wm_goto (tgt := 11) X (by decide) dX4_linesOfNoGoodWay_52 ?_
          refine wm_sub [2, 1, 0] (lv' := [(0, .ref (ad 1)), (1, .int v12), (2, .int v14)]) rfl ?_
          exact ih v12 v14 σ8 h
set_option maxRecDepth 100000 in
set_option maxHeartbeats 4000000 in
theorem c_X4_linesOfNoGoodWay (l : Launch) (G : va_G) (tI tJ tZ : ClassId) (ad : Nat → Nat) (hD : ∀ σ, va_D (Ad 22 ad) (wdC tI tJ tZ ad σ))  (σ : St) (post : Int32 → St → Prop) (h : wp_X4_linesOfNoGoodWay  σ post) : Ct l yX4_linesOfNoGoodWay wsX4_linesOfNoGoodWay rm_X4_linesOfNoGoodWay G (tyL tI tJ tZ) (wdC tI tJ tZ ad) (Ad 22 ad) [.ref (ad 1)] σ (Qi G (wdC tI tJ tZ ad) (Ad 22 ad) post) := by
  refine wm_entry (cc := cX4_linesOfNoGoodWay) (maxL := 3) (ret := (some .int)) (own := RX4) (lv := [(0, .ref (ad 1))]) (by decide +kernel) rfl rfl (Nat.le_of_ble_eq_true rfl) rfl hD ?_
  intro p e s m below meth c X hr
  unfold wp_X4_linesOfNoGoodWay at h
  refine wm_iconst (v := 1) X (by decide) dX4_linesOfNoGoodWay_0 ?_
  refine wm_aload_n X 0 rfl dX4_linesOfNoGoodWay_1 ?_
  refine wm_get X (by decide +kernel) 1 rfl rfl 3 (by decide) (by decide +kernel) rfl dX4_linesOfNoGoodWay_2 ?_
  refine wm_ishl X dX4_linesOfNoGoodWay_5 ?_
  refine wm_iconst (v := 1) X (by decide) dX4_linesOfNoGoodWay_6 ?_
  refine wm_isub X dX4_linesOfNoGoodWay_7 ?_
  refine wm_nmI (fun v1 e2 => ?_)
  replace h := h v1 e2
  clear e2
  refine wm_istore_n (lv' := [(1, .int v1), (0, .ref (ad 1))]) X rfl (by decide) rfl dX4_linesOfNoGoodWay_8 ?_
  refine wm_iconst (v := 0) X (by decide) dX4_linesOfNoGoodWay_9 ?_
  refine wm_istore_n (lv' := [(2, .int 0), (1, .int v1), (0, .ref (ad 1))]) X rfl (by decide) rfl dX4_linesOfNoGoodWay_10 ?_
  refine wm_sub [2, 1, 0] (lv' := [(0, .ref (ad 1)), (1, .int v1), (2, .int 0)]) rfl ?_
  obtain ⟨n0, h⟩ := h
  exact w_X4_linesOfNoGoodWay_11 hD X hr n0 v1 0 σ h
/-! X4_meetsAllBadWays -/
abbrev rm_X4_meetsAllBadWays : Room := { frames := 2, cells := 0, slots := 0, locals := 42 }
def jn_X4_meetsAllBadWays_35 (post : Int32 → St → Prop) (K2 : Int32 → Int32 → St → Prop) (x1 : Int32) (x2 : Int32) (s0 : Int32) (σ : St) : Prop :=
  (s0 = 0 → ∀ v2 : Int32, v2 = x2 + 1 → K2 x1 v2 σ) ∧ (¬ s0 = 0 → vp_in x2 10 ∧ ((¬ ((gA σ 0 (Int32.toNatClampNeg x2)) &&& x1) = 0 → ∀ v5 : Int32, v5 = x2 + 1 → K2 x1 v5 σ) ∧ (((gA σ 0 (Int32.toNatClampNeg x2)) &&& x1) = 0 → post 0 σ)))
def jn_X4_meetsAllBadWays_34 (post : Int32 → St → Prop) (K2 : Int32 → Int32 → St → Prop) (x1 : Int32) (x2 : Int32) (σ : St) : Prop :=
  jn_X4_meetsAllBadWays_35 post K2 x1 x2 0 σ
def lp_X4_meetsAllBadWays_2 (post : Int32 → St → Prop)  : Nat → Int32 → Int32 → St → Prop
  | 0, _, _, _ => False
  | n + 1, x1, x2, σ =>
  ((gI σ 1) ≤ x2 → post 1 σ) ∧ (¬ (gI σ 1) ≤ x2 → wp_X2_isOn x2 σ (fun r2 σ3 => (r2 = 0 → jn_X4_meetsAllBadWays_34 post (lp_X4_meetsAllBadWays_2 post n) x1 x2 σ3) ∧ (¬ r2 = 0 → wp_X6_bitOf (gI σ3 4) x2 σ3 (fun r5 σ6 => (¬ r5 = 1 → jn_X4_meetsAllBadWays_34 post (lp_X4_meetsAllBadWays_2 post n) x1 x2 σ6) ∧ (r5 = 1 → jn_X4_meetsAllBadWays_35 post (lp_X4_meetsAllBadWays_2 post n) x1 x2 1 σ6)))))
def wp_X4_meetsAllBadWays (x1 : Int32) (σ : St) (post : Int32 → St → Prop) : Prop :=
  ∃ fu : Nat, lp_X4_meetsAllBadWays_2 post fu x1 0 σ
set_option maxRecDepth 100000 in
set_option maxHeartbeats 4000000 in
theorem w_X4_meetsAllBadWays_35 {p : Program} {l : Launch} {e : Env} {s : State} {m : MethodId} {args : Array Value} {below : List Frame} {meth : Method} {c : Code} {G : va_G} {tI tJ tZ : ClassId} {ad : Nat → Nat} (hD : ∀ σ, va_D (Ad 22 ad) (wdC tI tJ tZ ad σ)) (X : Cx p s m args meth c cX4_meetsAllBadWays 4 RX4 wsX4_meetsAllBadWays G (tyL tI tJ tZ) (wdC tI tJ tZ ad) (Ad 22 ad)) (hr : meth.sig.returnType = (some .boolean)) {post : Int32 → St → Prop} {K2 : Int32 → Int32 → St → Prop} (hK2 : ∀ (x1 : Int32) (x2 : Int32) (σ : St), K2 x1 x2 σ → wm p l e rm_X4_meetsAllBadWays s m args below meth c G (wdC tI tJ tZ ad) (Ad 22 ad) 4 (MQ below (Qi G (wdC tI tJ tZ ad) (Ad 22 ad) post) args s 0 0 (Ad 22 ad)) σ [(0, .ref (ad 1)), (1, .int x1), (2, .int x2)] 2 []) (x1 : Int32) (x2 : Int32) (s0 : Int32) (σ : St) (h : jn_X4_meetsAllBadWays_35 post K2 x1 x2 s0 σ) : wm p l e rm_X4_meetsAllBadWays s m args below meth c G (wdC tI tJ tZ ad) (Ad 22 ad) 4 (MQ below (Qi G (wdC tI tJ tZ ad) (Ad 22 ad) post) args s 0 0 (Ad 22 ad)) σ [(0, .ref (ad 1)), (1, .int x1), (2, .int x2)] 35 [.int s0] := by
  unfold jn_X4_meetsAllBadWays_35 at h
  refine wm_istore_n (lv' := [(3, .int s0), (0, .ref (ad 1)), (1, .int x1), (2, .int x2)]) X rfl (by decide) rfl dX4_meetsAllBadWays_35 ?_
  refine wm_iload_n X 0 rfl dX4_meetsAllBadWays_36 ?_
  refine wm_if_eq (tgt := 53) X (by decide) dX4_meetsAllBadWays_37 (fun c1 => ?_) (fun c1 => ?_)
  · replace h := h.1 c1
    obtain ⟨v2, e3⟩ : ∃ y : Int32, y = x2 + 1 := ⟨_, rfl⟩
    replace h := h v2 e3
    refine wm_iinc (v := v2) (lv' := [(2, .int v2), (3, .int s0), (0, .ref (ad 1)), (1, .int x1)]) X 3 rfl (by rw [e3]; rfl) (by decide) rfl dX4_meetsAllBadWays_53 ?_
    clear e3
    refine wm_goto (tgt := 2) X (by decide) dX4_meetsAllBadWays_56 ?_
    refine wm_sub [2, 3, 0] (lv' := [(0, .ref (ad 1)), (1, .int x1), (2, .int v2)]) rfl ?_
    exact hK2 x1 v2 σ h
  · replace h := h.2 c1
    refine wm_aload_n X 1 rfl dX4_meetsAllBadWays_40 ?_
    refine wm_get X (by decide +kernel) 1 rfl rfl 0 (by decide) (by decide +kernel) rfl dX4_meetsAllBadWays_41 ?_
    refine wm_iload_n X 3 rfl dX4_meetsAllBadWays_44 ?_
    refine wm_iald X 2 0 rfl rfl h.1 dX4_meetsAllBadWays_45 ?_
    replace h := h.2
    refine wm_iload_n X 2 rfl dX4_meetsAllBadWays_46 ?_
    refine wm_iand X dX4_meetsAllBadWays_47 ?_
    refine wm_if_ne (tgt := 53) X (by decide) dX4_meetsAllBadWays_48 (fun c4 => ?_) (fun c4 => ?_)
    · replace h := h.1 c4
      obtain ⟨v5, e6⟩ : ∃ y : Int32, y = x2 + 1 := ⟨_, rfl⟩
      replace h := h v5 e6
      refine wm_iinc (v := v5) (lv' := [(2, .int v5), (3, .int s0), (0, .ref (ad 1)), (1, .int x1)]) X 3 rfl (by rw [e6]; rfl) (by decide) rfl dX4_meetsAllBadWays_53 ?_
      clear e6
      refine wm_goto (tgt := 2) X (by decide) dX4_meetsAllBadWays_56 ?_
      refine wm_sub [2, 3, 0] (lv' := [(0, .ref (ad 1)), (1, .int x1), (2, .int v5)]) rfl ?_
      exact hK2 x1 v5 σ h
    · replace h := h.2 c4
      refine wm_iconst (v := 0) X (by decide) dX4_meetsAllBadWays_51 ?_
      exact wm_zret X hr bz_0 h dX4_meetsAllBadWays_52
set_option maxRecDepth 100000 in
set_option maxHeartbeats 4000000 in
theorem w_X4_meetsAllBadWays_34 {p : Program} {l : Launch} {e : Env} {s : State} {m : MethodId} {args : Array Value} {below : List Frame} {meth : Method} {c : Code} {G : va_G} {tI tJ tZ : ClassId} {ad : Nat → Nat} (hD : ∀ σ, va_D (Ad 22 ad) (wdC tI tJ tZ ad σ)) (X : Cx p s m args meth c cX4_meetsAllBadWays 4 RX4 wsX4_meetsAllBadWays G (tyL tI tJ tZ) (wdC tI tJ tZ ad) (Ad 22 ad)) (hr : meth.sig.returnType = (some .boolean)) {post : Int32 → St → Prop} {K2 : Int32 → Int32 → St → Prop} (hK2 : ∀ (x1 : Int32) (x2 : Int32) (σ : St), K2 x1 x2 σ → wm p l e rm_X4_meetsAllBadWays s m args below meth c G (wdC tI tJ tZ ad) (Ad 22 ad) 4 (MQ below (Qi G (wdC tI tJ tZ ad) (Ad 22 ad) post) args s 0 0 (Ad 22 ad)) σ [(0, .ref (ad 1)), (1, .int x1), (2, .int x2)] 2 []) (x1 : Int32) (x2 : Int32) (σ : St) (h : jn_X4_meetsAllBadWays_34 post K2 x1 x2 σ) : wm p l e rm_X4_meetsAllBadWays s m args below meth c G (wdC tI tJ tZ ad) (Ad 22 ad) 4 (MQ below (Qi G (wdC tI tJ tZ ad) (Ad 22 ad) post) args s 0 0 (Ad 22 ad)) σ [(0, .ref (ad 1)), (1, .int x1), (2, .int x2)] 34 [] := by
  unfold jn_X4_meetsAllBadWays_34 at h
  refine wm_iconst (v := 0) X (by decide) dX4_meetsAllBadWays_34 ?_
  exact w_X4_meetsAllBadWays_35 hD X hr hK2 x1 x2 0 σ h
set_option maxRecDepth 100000 in
set_option maxHeartbeats 4000000 in
theorem w_X4_meetsAllBadWays_2 {p : Program} {l : Launch} {e : Env} {s : State} {m : MethodId} {args : Array Value} {below : List Frame} {meth : Method} {c : Code} {G : va_G} {tI tJ tZ : ClassId} {ad : Nat → Nat} (hD : ∀ σ, va_D (Ad 22 ad) (wdC tI tJ tZ ad σ)) (X : Cx p s m args meth c cX4_meetsAllBadWays 4 RX4 wsX4_meetsAllBadWays G (tyL tI tJ tZ) (wdC tI tJ tZ ad) (Ad 22 ad)) (hr : meth.sig.returnType = (some .boolean)) {post : Int32 → St → Prop}  : ∀ (n : Nat) (x1 : Int32) (x2 : Int32) (σ : St), lp_X4_meetsAllBadWays_2 post n x1 x2 σ → wm p l e rm_X4_meetsAllBadWays s m args below meth c G (wdC tI tJ tZ ad) (Ad 22 ad) 4 (MQ below (Qi G (wdC tI tJ tZ ad) (Ad 22 ad) post) args s 0 0 (Ad 22 ad)) σ [(0, .ref (ad 1)), (1, .int x1), (2, .int x2)] 2 [] := by
  intro n
  induction n with
  | zero => intro x1 x2 σ h; exact h.elim
  | succ n ih =>
    intro x1 x2 σ h
    unfold lp_X4_meetsAllBadWays_2 at h
    refine wm_iload_n X 2 rfl dX4_meetsAllBadWays_2 ?_
    refine wm_aload_n X 0 rfl dX4_meetsAllBadWays_3 ?_
    refine wm_get X (by decide +kernel) 1 rfl rfl 4 (by decide) (by decide +kernel) rfl dX4_meetsAllBadWays_4 ?_
    refine wm_icmp_ge (tgt := 59) X (by decide) dX4_meetsAllBadWays_7 (fun c1 => ?_) (fun c1 => ?_)
    · replace h := h.1 c1
      refine wm_iconst (v := 1) X (by decide) dX4_meetsAllBadWays_59 ?_
      exact wm_zret X hr bz_1 h dX4_meetsAllBadWays_60
    · replace h := h.2 c1
      refine wm_aload_n X 0 rfl dX4_meetsAllBadWays_10 ?_
      refine wm_iload_n X 2 rfl dX4_meetsAllBadWays_11 ?_
      refine wm_callVi (n := 1) (As := [.int x2]) (rest := []) X (c_X2_isOn l G tI tJ tZ ad hD x2 σ _ h) gX4_meetsAllBadWays_X2_isOn rfl ⟨rfl, rfl⟩ (by decide +kernel) ⟨Nat.le_of_ble_eq_true rfl, Nat.le_of_ble_eq_true rfl⟩ 1 rfl rfl rfl rfl rfl (Nat.le_of_ble_eq_true rfl) dX4_meetsAllBadWays_12 (fun r2 σ3 h => ?_)
      refine wm_if_eq (tgt := 34) X (by decide) dX4_meetsAllBadWays_15 (fun c4 => ?_) (fun c4 => ?_)
      · replace h := h.1 c4
        exact w_X4_meetsAllBadWays_34 hD X hr ih x1 x2 σ3 h
      · replace h := h.2 c4
        refine wm_aload_n X 0 rfl dX4_meetsAllBadWays_18 ?_
        refine wm_get X (by decide +kernel) 1 rfl rfl 7 (by decide) (by decide +kernel) rfl dX4_meetsAllBadWays_19 ?_
        refine wm_iload_n X 2 rfl dX4_meetsAllBadWays_22 ?_
        refine wm_callNi (n := 2) (As := [.int (gI σ3 4), .int x2]) (rest := []) X (c_X6_bitOf l G tI tJ tZ ad hD (gI σ3 4) x2 σ3 _ h) gX4_meetsAllBadWays_X6_bitOf_n55 rfl ⟨rfl, rfl⟩ (List.mem_of_getElem? (i := 12) rfl) (by decide +kernel) (by decide +kernel) (by decide +kernel) ⟨Nat.le_of_ble_eq_true rfl, Nat.le_of_ble_eq_true rfl⟩ rfl rfl (Nat.le_of_ble_eq_true rfl) dX4_meetsAllBadWays_23 (fun r5 σ6 h => ?_)
        refine wm_iconst (v := 1) X (by decide) dX4_meetsAllBadWays_26 ?_
        refine wm_icmp_ne (tgt := 34) X (by decide) dX4_meetsAllBadWays_27 (fun c7 => ?_) (fun c7 => ?_)
        · replace h := h.1 c7
          exact w_X4_meetsAllBadWays_34 hD X hr ih x1 x2 σ6 h
        · replace h := h.2 c7
          refine wm_iconst (v := 1) X (by decide) dX4_meetsAllBadWays_30 ?_
          refine wm_goto (tgt := 35) X (by decide) dX4_meetsAllBadWays_31 ?_
          exact w_X4_meetsAllBadWays_35 hD X hr ih x1 x2 1 σ6 h
set_option maxRecDepth 100000 in
set_option maxHeartbeats 4000000 in
theorem c_X4_meetsAllBadWays (l : Launch) (G : va_G) (tI tJ tZ : ClassId) (ad : Nat → Nat) (hD : ∀ σ, va_D (Ad 22 ad) (wdC tI tJ tZ ad σ)) (x1 : Int32) (σ : St) (post : Int32 → St → Prop) (h : wp_X4_meetsAllBadWays x1 σ post) : Ct l yX4_meetsAllBadWays wsX4_meetsAllBadWays rm_X4_meetsAllBadWays G (tyL tI tJ tZ) (wdC tI tJ tZ ad) (Ad 22 ad) [.ref (ad 1), .int x1] σ (Qi G (wdC tI tJ tZ ad) (Ad 22 ad) post) := by
  refine wm_entry (cc := cX4_meetsAllBadWays) (maxL := 4) (ret := (some .boolean)) (own := RX4) (lv := [(0, .ref (ad 1)), (1, .int x1)]) (by decide +kernel) rfl rfl (Nat.le_of_ble_eq_true rfl) rfl hD ?_
  intro p e s m below meth c X hr
  unfold wp_X4_meetsAllBadWays at h
  refine wm_iconst (v := 0) X (by decide) dX4_meetsAllBadWays_0 ?_
  refine wm_istore_n (lv' := [(2, .int 0), (0, .ref (ad 1)), (1, .int x1)]) X rfl (by decide) rfl dX4_meetsAllBadWays_1 ?_
  refine wm_sub [1, 2, 0] (lv' := [(0, .ref (ad 1)), (1, .int x1), (2, .int 0)]) rfl ?_
  obtain ⟨n0, h⟩ := h
  exact w_X4_meetsAllBadWays_2 hD X hr n0 x1 0 σ h
/-! X3_add_20 -/
abbrev rm_X3_add_20 : Room := { frames := 0, cells := 0, slots := 0, locals := 0 }
def wp_X3_add_20 (x1 : Int32) (σ : St) (post : St → Prop) : Prop :=
  (252 ≤ (gI σ 16) → post σ) ∧ (¬ 252 ≤ (gI σ 16) → vp_in (gI σ 16) 252 ∧ (∀ σ2 : St, σ2 = sA σ 8 (Int32.toNatClampNeg (gI σ 16)) x1 → ∀ σ4 : St, σ4 = sI σ2 16 ((gI σ2 16) + 1) → post σ4))
set_option maxRecDepth 100000 in
set_option maxHeartbeats 4000000 in
theorem c_X3_add_20 (l : Launch) (G : va_G) (tI tJ tZ : ClassId) (ad : Nat → Nat) (hD : ∀ σ, va_D (Ad 22 ad) (wdC tI tJ tZ ad σ)) (x1 : Int32) (σ : St) (post : St → Prop) (h : wp_X3_add_20 x1 σ post) : Ct l yX3_add wsX3_add rm_X3_add_20 G (tyL tI tJ tZ) (wdC tI tJ tZ ad) (Ad 22 ad) [.ref (ad 20), .int x1] σ (Qv G (wdC tI tJ tZ ad) (Ad 22 ad) post) := by
  refine wm_entry (cc := cX3_add) (maxL := 2) (ret := none) (own := RX3) (lv := [(0, .ref (ad 20)), (1, .int x1)]) (by decide +kernel) rfl rfl (Nat.le_of_ble_eq_true rfl) rfl hD ?_
  intro p e s m below meth c X hr
  unfold wp_X3_add_20 at h
  refine wm_aload_n X 0 rfl dX3_add_0 ?_
  refine wm_get X (by decide +kernel) 20 rfl rfl 1 (by decide) (by decide +kernel) rfl dX3_add_1 ?_
  refine wm_sipush (v := 252) X (by decide) dX3_add_4 ?_
  refine wm_icmp_ge (tgt := 30) X (by decide) dX3_add_7 (fun c1 => ?_) (fun c1 => ?_)
  · replace h := h.1 c1
    exact wm_vret X hr h dX3_add_30
  · replace h := h.2 c1
    refine wm_aload_n X 0 rfl dX3_add_10 ?_
    refine wm_get X (by decide +kernel) 20 rfl rfl 0 (by decide) (by decide +kernel) rfl dX3_add_11 ?_
    refine wm_aload_n X 0 rfl dX3_add_14 ?_
    refine wm_get X (by decide +kernel) 20 rfl rfl 1 (by decide) (by decide +kernel) rfl dX3_add_15 ?_
    refine wm_iload_n X 1 rfl dX3_add_18 ?_
    refine wm_iast (σ' := sA σ 8 (Int32.toNatClampNeg (gI σ 16)) x1) X 21 0 rfl rfl h.1 rfl dX3_add_19 ?_
    replace h := h.2
    refine wm_nmS (fun σ2 e3 => ?_)
    replace h := h σ2 e3
    clear e3
    refine wm_aload_n X 0 rfl dX3_add_20 ?_
    refine wm_dup X rfl dX3_add_21 ?_
    refine wm_get X (by decide +kernel) 20 rfl rfl 1 (by decide) (by decide +kernel) rfl dX3_add_22 ?_
    refine wm_iconst (v := 1) X (by decide) dX3_add_25 ?_
    refine wm_iadd X dX3_add_26 ?_
    refine wm_put (σ' := sI σ2 16 ((gI σ2 16) + 1)) X (by decide +kernel) tyX3 tyX3_ok nmX3 20 rfl rfl 1 (by decide) (by decide +kernel) rfl (tyX3_ok 1 (by decide)) rfl rfl (Nat.le_of_ble_eq_true rfl) rfl dX3_add_27 ?_
    refine wm_nmS (fun σ4 e5 => ?_)
    replace h := h σ4 e5
    clear e5
    exact wm_vret X hr h dX3_add_30
/-! X4_leastSets -/
abbrev rm_X4_leastSets : Room := { frames := 3, cells := 0, slots := 0, locals := 65 }
def lp_X4_leastSets_18 (post : St → Prop)  : Nat → Int32 → Int32 → Int32 → St → Prop
  | 0, _, _, _, _ => False
  | n + 1, x2, x3, x4, σ =>
  (x2 < x4 → post σ) ∧ (¬ x2 < x4 → wp_J6_bitCount_0f7a4 x4 σ (fun r2 σ3 => (¬ (x4 &&& (x2 ^^^ (-1))) = 0 → ∀ v5 : Int32, v5 = x4 + 1 → lp_X4_leastSets_18 post n x2 x3 v5 σ3) ∧ ((x4 &&& (x2 ^^^ (-1))) = 0 → (x3 < r2 → ∀ v8 : Int32, v8 = x4 + 1 → lp_X4_leastSets_18 post n x2 x3 v8 σ3) ∧ (¬ x3 < r2 → wp_X4_meetsAllBadWays x4 σ3 (fun r10 σ11 => (r10 = 0 → ∀ v13 : Int32, v13 = x4 + 1 → lp_X4_leastSets_18 post n x2 x3 v13 σ11) ∧ (¬ r10 = 0 → (x3 ≤ r2 → wp_X3_add_20 x4 σ11 (fun σ17 => ∀ v18 : Int32, v18 = x4 + 1 → lp_X4_leastSets_18 post n x2 x3 v18 σ17)) ∧ (¬ x3 ≤ r2 → wp_X3_empty_20 σ11 (fun σ21 => wp_X3_add_20 x4 σ21 (fun σ23 => ∀ v24 : Int32, v24 = x4 + 1 → lp_X4_leastSets_18 post n x2 r2 v24 σ23)))))))))
def wp_X4_leastSets (σ : St) (post : St → Prop) : Prop :=
  wp_X3_empty_20 σ (fun σ2 => wp_X4_linesOfNoGoodWay σ2 (fun r3 σ4 => ∃ fu : Nat, lp_X4_leastSets_18 post fu r3 10 0 σ4))
set_option maxRecDepth 100000 in
set_option maxHeartbeats 4000000 in
theorem w_X4_leastSets_18 {p : Program} {l : Launch} {e : Env} {s : State} {m : MethodId} {args : Array Value} {below : List Frame} {meth : Method} {c : Code} {G : va_G} {tI tJ tZ : ClassId} {ad : Nat → Nat} (hD : ∀ σ, va_D (Ad 22 ad) (wdC tI tJ tZ ad σ)) (X : Cx p s m args meth c cX4_leastSets 6 RX4 wsX4_leastSets G (tyL tI tJ tZ) (wdC tI tJ tZ ad) (Ad 22 ad)) (hr : meth.sig.returnType = (some (.object "EndMeters$SetList"))) {post : St → Prop}  : ∀ (n : Nat) (x2 : Int32) (x3 : Int32) (x4 : Int32) (σ : St), lp_X4_leastSets_18 post n x2 x3 x4 σ → wm p l e rm_X4_leastSets s m args below meth c G (wdC tI tJ tZ ad) (Ad 22 ad) 6 (MQ below (Qr G (wdC tI tJ tZ ad) (Ad 22 ad) (ad 20) post) args s 0 0 (Ad 22 ad)) σ [(0, .ref (ad 19)), (1, .ref (ad 1)), (2, .int x2), (3, .int x3), (4, .int x4)] 18 [] := by
  intro n
  induction n with
  | zero => intro x2 x3 x4 σ h; exact h.elim
  | succ n ih =>
    intro x2 x3 x4 σ h
    unfold lp_X4_leastSets_18 at h
    refine wm_iload X 4 rfl dX4_leastSets_18 ?_
    refine wm_iload_n X 2 rfl dX4_leastSets_20 ?_
    refine wm_icmp_gt (tgt := 86) X (by decide) dX4_leastSets_21 (fun c1 => ?_) (fun c1 => ?_)
    · replace h := h.1 c1
      refine wm_aload_n X 0 rfl dX4_leastSets_86 ?_
      refine wm_get X (by decide +kernel) 19 rfl rfl 0 (by decide) (by decide +kernel) rfl dX4_leastSets_87 ?_
      exact wm_aret X hr (Or.inl ⟨_, rfl⟩) h dX4_leastSets_90
    · replace h := h.2 c1
      refine wm_iload X 4 rfl dX4_leastSets_24 ?_
      refine wm_callSi (n := 1) (As := [.int x4]) (rest := []) X (c_J6_bitCount_0f7a4 l G tI tJ tZ ad hD x4 σ _ h) gX4_leastSets_J6_bitCount_0f7a4 rfl ⟨rfl, rfl⟩ (by decide +kernel) ⟨Nat.le_of_ble_eq_true rfl, Nat.le_of_ble_eq_true rfl⟩ rfl rfl (Nat.le_of_ble_eq_true rfl) dX4_leastSets_26 (fun r2 σ3 h => ?_)
      refine wm_istore (lv' := [(5, .int r2), (0, .ref (ad 19)), (1, .ref (ad 1)), (2, .int x2), (3, .int x3), (4, .int x4)]) X (by decide) rfl dX4_leastSets_29 ?_
      refine wm_iload X 5 rfl dX4_leastSets_31 ?_
      refine wm_iload_n X 3 rfl dX4_leastSets_33 ?_
      refine wm_iconst (v := (-1)) X (by decide) dX4_leastSets_34 ?_
      refine wm_ixor X dX4_leastSets_35 ?_
      refine wm_iand X dX4_leastSets_36 ?_
      refine wm_if_ne (tgt := 80) X (by decide) dX4_leastSets_37 (fun c4 => ?_) (fun c4 => ?_)
      · replace h := h.1 c4
        obtain ⟨v5, e6⟩ : ∃ y : Int32, y = x4 + 1 := ⟨_, rfl⟩
        replace h := h v5 e6
        refine wm_iinc (v := v5) (lv' := [(4, .int v5), (5, .int r2), (0, .ref (ad 19)), (1, .ref (ad 1)), (2, .int x2), (3, .int x3)]) X 5 rfl (by rw [e6]; rfl) (by decide) rfl dX4_leastSets_80 ?_
        clear e6
        refine wm_goto (tgt := 18) X (by decide) dX4_leastSets_83 ?_
        refine wm_sub [2, 3, 4, 5, 0] (lv' := [(0, .ref (ad 19)), (1, .ref (ad 1)), (2, .int x2), (3, .int x3), (4, .int v5)]) rfl ?_
        exact ih x2 x3 v5 σ3 h
      · replace h := h.2 c4
        refine wm_iload X 0 rfl dX4_leastSets_40 ?_
        refine wm_iload_n X 4 rfl dX4_leastSets_42 ?_
        refine wm_icmp_gt (tgt := 80) X (by decide) dX4_leastSets_43 (fun c7 => ?_) (fun c7 => ?_)
        · replace h := h.1 c7
          obtain ⟨v8, e9⟩ : ∃ y : Int32, y = x4 + 1 := ⟨_, rfl⟩
          replace h := h v8 e9
          refine wm_iinc (v := v8) (lv' := [(4, .int v8), (5, .int r2), (0, .ref (ad 19)), (1, .ref (ad 1)), (2, .int x2), (3, .int x3)]) X 5 rfl (by rw [e9]; rfl) (by decide) rfl dX4_leastSets_80 ?_
          clear e9
          refine wm_goto (tgt := 18) X (by decide) dX4_leastSets_83 ?_
          refine wm_sub [2, 3, 4, 5, 0] (lv' := [(0, .ref (ad 19)), (1, .ref (ad 1)), (2, .int x2), (3, .int x3), (4, .int v8)]) rfl ?_
          exact ih x2 x3 v8 σ3 h
        · replace h := h.2 c7
          refine wm_aload_n X 2 rfl dX4_leastSets_46 ?_
          refine wm_iload X 5 rfl dX4_leastSets_47 ?_
          refine wm_callSi (n := 2) (As := [.ref (ad 1), .int x4]) (rest := []) X (c_X4_meetsAllBadWays l G tI tJ tZ ad hD x4 σ3 _ h) gX4_leastSets_X4_meetsAllBadWays rfl ⟨rfl, rfl⟩ (by decide +kernel) ⟨Nat.le_of_ble_eq_true rfl, Nat.le_of_ble_eq_true rfl⟩ rfl rfl (Nat.le_of_ble_eq_true rfl) dX4_leastSets_49 (fun r10 σ11 h => ?_)
          refine wm_if_eq (tgt := 80) X (by decide) dX4_leastSets_52 (fun c12 => ?_) (fun c12 => ?_)
          · replace h := h.1 c12
            obtain ⟨v13, e14⟩ : ∃ y : Int32, y = x4 + 1 := ⟨_, rfl⟩
            replace h := h v13 e14
            refine wm_iinc (v := v13) (lv' := [(4, .int v13), (5, .int r2), (0, .ref (ad 19)), (1, .ref (ad 1)), (2, .int x2), (3, .int x3)]) X 5 rfl (by rw [e14]; rfl) (by decide) rfl dX4_leastSets_80 ?_
            clear e14
            refine wm_goto (tgt := 18) X (by decide) dX4_leastSets_83 ?_
            refine wm_sub [2, 3, 4, 5, 0] (lv' := [(0, .ref (ad 19)), (1, .ref (ad 1)), (2, .int x2), (3, .int x3), (4, .int v13)]) rfl ?_
            exact ih x2 x3 v13 σ11 h
          · replace h := h.2 c12
            refine wm_iload X 0 rfl dX4_leastSets_55 ?_
            refine wm_iload_n X 4 rfl dX4_leastSets_57 ?_
            refine wm_icmp_ge (tgt := 71) X (by decide) dX4_leastSets_58 (fun c15 => ?_) (fun c15 => ?_)
            · replace h := h.1 c15
              refine wm_aload_n X 1 rfl dX4_leastSets_71 ?_
              refine wm_get X (by decide +kernel) 19 rfl rfl 0 (by decide) (by decide +kernel) rfl dX4_leastSets_72 ?_
              refine wm_iload X 5 rfl dX4_leastSets_75 ?_
              refine wm_callVv (n := 1) (As := [.int x4]) (rest := []) X (c_X3_add_20 l G tI tJ tZ ad hD x4 σ11 _ h) gX4_leastSets_X3_add rfl ⟨rfl, rfl⟩ (by decide +kernel) ⟨Nat.le_of_ble_eq_true rfl, Nat.le_of_ble_eq_true rfl⟩ 20 rfl rfl rfl rfl rfl (Nat.le_of_ble_eq_true rfl) dX4_leastSets_77 (fun σ17 h => ?_)
              obtain ⟨v18, e19⟩ : ∃ y : Int32, y = x4 + 1 := ⟨_, rfl⟩
              replace h := h v18 e19
              refine wm_iinc (v := v18) (lv' := [(4, .int v18), (5, .int r2), (0, .ref (ad 19)), (1, .ref (ad 1)), (2, .int x2), (3, .int x3)]) X 5 rfl (by rw [e19]; rfl) (by decide) rfl dX4_leastSets_80 ?_
              clear e19
              refine wm_goto (tgt := 18) X (by decide) dX4_leastSets_83 ?_
              refine wm_sub [2, 3, 4, 5, 0] (lv' := [(0, .ref (ad 19)), (1, .ref (ad 1)), (2, .int x2), (3, .int x3), (4, .int v18)]) rfl ?_
              exact ih x2 x3 v18 σ17 h
            · replace h := h.2 c15
              refine wm_aload_n X 1 rfl dX4_leastSets_61 ?_
              refine wm_get X (by decide +kernel) 19 rfl rfl 0 (by decide) (by decide +kernel) rfl dX4_leastSets_62 ?_
              refine wm_callVv (n := 0) (As := []) (rest := []) X (c_X3_empty_20 l G tI tJ tZ ad hD σ11 _ h) gX4_leastSets_X3_empty rfl ⟨rfl, rfl⟩ (by decide +kernel) ⟨Nat.le_of_ble_eq_true rfl, Nat.le_of_ble_eq_true rfl⟩ 20 rfl rfl rfl rfl rfl (Nat.le_of_ble_eq_true rfl) dX4_leastSets_65 (fun σ21 h => ?_)
              refine wm_iload X 0 rfl dX4_leastSets_68 ?_
              refine wm_istore_n (lv' := [(3, .int r2), (5, .int r2), (0, .ref (ad 19)), (1, .ref (ad 1)), (2, .int x2), (4, .int x4)]) X rfl (by decide) rfl dX4_leastSets_70 ?_
              refine wm_aload_n X 2 rfl dX4_leastSets_71 ?_
              refine wm_get X (by decide +kernel) 19 rfl rfl 0 (by decide) (by decide +kernel) rfl dX4_leastSets_72 ?_
              refine wm_iload X 5 rfl dX4_leastSets_75 ?_
              refine wm_callVv (n := 1) (As := [.int x4]) (rest := []) X (c_X3_add_20 l G tI tJ tZ ad hD x4 σ21 _ h) gX4_leastSets_X3_add rfl ⟨rfl, rfl⟩ (by decide +kernel) ⟨Nat.le_of_ble_eq_true rfl, Nat.le_of_ble_eq_true rfl⟩ 20 rfl rfl rfl rfl rfl (Nat.le_of_ble_eq_true rfl) dX4_leastSets_77 (fun σ23 h => ?_)
              obtain ⟨v24, e25⟩ : ∃ y : Int32, y = x4 + 1 := ⟨_, rfl⟩
              replace h := h v24 e25
              refine wm_iinc (v := v24) (lv' := [(4, .int v24), (3, .int r2), (5, .int r2), (0, .ref (ad 19)), (1, .ref (ad 1)), (2, .int x2)]) X 5 rfl (by rw [e25]; rfl) (by decide) rfl dX4_leastSets_80 ?_
              clear e25
              refine wm_goto (tgt := 18) X (by decide) dX4_leastSets_83 ?_
              refine wm_sub [3, 4, 5, 1, 0] (lv' := [(0, .ref (ad 19)), (1, .ref (ad 1)), (2, .int x2), (3, .int r2), (4, .int v24)]) rfl ?_
              exact ih x2 r2 v24 σ23 h
set_option maxRecDepth 100000 in
set_option maxHeartbeats 4000000 in
theorem c_X4_leastSets (l : Launch) (G : va_G) (tI tJ tZ : ClassId) (ad : Nat → Nat) (hD : ∀ σ, va_D (Ad 22 ad) (wdC tI tJ tZ ad σ))  (σ : St) (post : St → Prop) (h : wp_X4_leastSets  σ post) : Ct l yX4_leastSets wsX4_leastSets rm_X4_leastSets G (tyL tI tJ tZ) (wdC tI tJ tZ ad) (Ad 22 ad) [.ref (ad 19), .ref (ad 1)] σ (Qr G (wdC tI tJ tZ ad) (Ad 22 ad) (ad 20) post) := by
  refine wm_entry (cc := cX4_leastSets) (maxL := 6) (ret := (some (.object "EndMeters$SetList"))) (own := RX4) (lv := [(0, .ref (ad 19)), (1, .ref (ad 1))]) (by decide +kernel) rfl rfl (Nat.le_of_ble_eq_true rfl) rfl hD ?_
  intro p e s m below meth c X hr
  unfold wp_X4_leastSets at h
  refine wm_aload_n X 0 rfl dX4_leastSets_0 ?_
  refine wm_get X (by decide +kernel) 19 rfl rfl 0 (by decide) (by decide +kernel) rfl dX4_leastSets_1 ?_
  refine wm_callVv (n := 0) (As := []) (rest := []) X (c_X3_empty_20 l G tI tJ tZ ad hD σ _ h) gX4_leastSets_X3_empty rfl ⟨rfl, rfl⟩ (by decide +kernel) ⟨Nat.le_of_ble_eq_true rfl, Nat.le_of_ble_eq_true rfl⟩ 20 rfl rfl rfl rfl rfl (Nat.le_of_ble_eq_true rfl) dX4_leastSets_4 (fun σ2 h => ?_)
  refine wm_aload_n X 1 rfl dX4_leastSets_7 ?_
  refine wm_callSi (n := 1) (As := [.ref (ad 1)]) (rest := []) X (c_X4_linesOfNoGoodWay l G tI tJ tZ ad hD σ2 _ h) gX4_leastSets_X4_linesOfNoGoodWay rfl ⟨rfl, rfl⟩ (by decide +kernel) ⟨Nat.le_of_ble_eq_true rfl, Nat.le_of_ble_eq_true rfl⟩ rfl rfl (Nat.le_of_ble_eq_true rfl) dX4_leastSets_8 (fun r3 σ4 h => ?_)
  refine wm_istore_n (lv' := [(2, .int r3), (0, .ref (ad 19)), (1, .ref (ad 1))]) X rfl (by decide) rfl dX4_leastSets_11 ?_
  refine wm_bipush (v := 10) X (by decide) dX4_leastSets_12 ?_
  refine wm_istore_n (lv' := [(3, .int 10), (2, .int r3), (0, .ref (ad 19)), (1, .ref (ad 1))]) X rfl (by decide) rfl dX4_leastSets_14 ?_
  refine wm_iconst (v := 0) X (by decide) dX4_leastSets_15 ?_
  refine wm_istore (lv' := [(4, .int 0), (3, .int 10), (2, .int r3), (0, .ref (ad 19)), (1, .ref (ad 1))]) X (by decide) rfl dX4_leastSets_16 ?_
  refine wm_sub [3, 4, 2, 1, 0] (lv' := [(0, .ref (ad 19)), (1, .ref (ad 1)), (2, .int r3), (3, .int 10), (4, .int 0)]) rfl ?_
  obtain ⟨n0, h⟩ := h
  exact w_X4_leastSets_18 hD X hr n0 r3 10 0 σ4 h
/-! X3_answer_20 -/
abbrev rm_X3_answer_20 : Room := { frames := 0, cells := 0, slots := 0, locals := 0 }
def wp_X3_answer_20 (x1 : Int32) (σ : St) (post : Int32 → St → Prop) : Prop :=
  (¬ x1 = (-1) → (x1 < 0 → post (-102) σ) ∧ (¬ x1 < 0 → ((gI σ 16) ≤ x1 → post (-102) σ) ∧ (¬ (gI σ 16) ≤ x1 → vp_in x1 252 ∧ post (gA σ 8 (Int32.toNatClampNeg x1)) σ))) ∧ (x1 = (-1) → post (gI σ 16) σ)
set_option maxRecDepth 100000 in
set_option maxHeartbeats 4000000 in
theorem c_X3_answer_20 (l : Launch) (G : va_G) (tI tJ tZ : ClassId) (ad : Nat → Nat) (hD : ∀ σ, va_D (Ad 22 ad) (wdC tI tJ tZ ad σ)) (x1 : Int32) (σ : St) (post : Int32 → St → Prop) (h : wp_X3_answer_20 x1 σ post) : Ct l yX3_answer wsX3_answer rm_X3_answer_20 G (tyL tI tJ tZ) (wdC tI tJ tZ ad) (Ad 22 ad) [.ref (ad 20), .int x1] σ (Qi G (wdC tI tJ tZ ad) (Ad 22 ad) post) := by
  refine wm_entry (cc := cX3_answer) (maxL := 2) (ret := (some .int)) (own := RX3) (lv := [(0, .ref (ad 20)), (1, .int x1)]) (by decide +kernel) rfl rfl (Nat.le_of_ble_eq_true rfl) rfl hD ?_
  intro p e s m below meth c X hr
  unfold wp_X3_answer_20 at h
  refine wm_iload_n X 1 rfl dX3_answer_0 ?_
  refine wm_iconst (v := (-1)) X (by decide) dX3_answer_1 ?_
  refine wm_icmp_ne (tgt := 10) X (by decide) dX3_answer_2 (fun c1 => ?_) (fun c1 => ?_)
  · replace h := h.1 c1
    refine wm_iload_n X 1 rfl dX3_answer_10 ?_
    refine wm_if_lt (tgt := 31) X (by decide) dX3_answer_11 (fun c2 => ?_) (fun c2 => ?_)
    · replace h := h.1 c2
      refine wm_bipush (v := (-102)) X (by decide) dX3_answer_31 ?_
      exact wm_iret X hr h dX3_answer_33
    · replace h := h.2 c2
      refine wm_iload_n X 1 rfl dX3_answer_14 ?_
      refine wm_aload_n X 0 rfl dX3_answer_15 ?_
      refine wm_get X (by decide +kernel) 20 rfl rfl 1 (by decide) (by decide +kernel) rfl dX3_answer_16 ?_
      refine wm_icmp_ge (tgt := 31) X (by decide) dX3_answer_19 (fun c3 => ?_) (fun c3 => ?_)
      · replace h := h.1 c3
        refine wm_bipush (v := (-102)) X (by decide) dX3_answer_31 ?_
        exact wm_iret X hr h dX3_answer_33
      · replace h := h.2 c3
        refine wm_aload_n X 0 rfl dX3_answer_22 ?_
        refine wm_get X (by decide +kernel) 20 rfl rfl 0 (by decide) (by decide +kernel) rfl dX3_answer_23 ?_
        refine wm_iload_n X 1 rfl dX3_answer_26 ?_
        refine wm_iald X 21 0 rfl rfl h.1 dX3_answer_27 ?_
        replace h := h.2
        refine wm_goto (tgt := 33) X (by decide) dX3_answer_28 ?_
        exact wm_iret X hr h dX3_answer_33
  · replace h := h.2 c1
    refine wm_aload_n X 0 rfl dX3_answer_5 ?_
    refine wm_get X (by decide +kernel) 20 rfl rfl 1 (by decide) (by decide +kernel) rfl dX3_answer_6 ?_
    exact wm_iret X hr h dX3_answer_9
/-! X6_sick -/
abbrev rm_X6_sick : Room := { frames := 4, cells := 0, slots := 0, locals := 90 }
def wp_X6_sick (x1 : Int32) (σ : St) (post : Int32 → St → Prop) : Prop :=
  wp_X4_leastSets σ (fun σ2 => wp_X3_answer_20 x1 σ2 (fun r3 σ4 => post r3 σ4))
set_option maxRecDepth 100000 in
set_option maxHeartbeats 4000000 in
theorem c_X6_sick (l : Launch) (G : va_G) (tI tJ tZ : ClassId) (ad : Nat → Nat) (hD : ∀ σ, va_D (Ad 22 ad) (wdC tI tJ tZ ad σ)) (x1 : Int32) (σ : St) (post : Int32 → St → Prop) (h : wp_X6_sick x1 σ post) : Ct l yX6_sick wsX6_sick rm_X6_sick G (tyL tI tJ tZ) (wdC tI tJ tZ ad) (Ad 22 ad) [.ref (ad 0), .int x1] σ (Qi G (wdC tI tJ tZ ad) (Ad 22 ad) post) := by
  refine wm_entry (cc := cX6_sick) (maxL := 2) (ret := (some .int)) (own := RX6) (lv := [(0, .ref (ad 0)), (1, .int x1)]) (by decide +kernel) rfl rfl (Nat.le_of_ble_eq_true rfl) rfl hD ?_
  intro p e s m below meth c X hr
  unfold wp_X6_sick at h
  refine wm_aload_n X 0 rfl dX6_sick_0 ?_
  refine wm_get X (by decide +kernel) 0 rfl rfl 4 (by decide) (by decide +kernel) rfl dX6_sick_1 ?_
  refine wm_aload_n X 0 rfl dX6_sick_4 ?_
  refine wm_get X (by decide +kernel) 0 rfl rfl 0 (by decide) (by decide +kernel) rfl dX6_sick_5 ?_
  refine wm_callVr (n := 1) (As := [.ref (ad 1)]) (rest := []) X (c_X4_leastSets l G tI tJ tZ ad hD σ _ h) gX6_sick_X4_leastSets rfl ⟨rfl, rfl⟩ (by decide +kernel) ⟨Nat.le_of_ble_eq_true rfl, Nat.le_of_ble_eq_true rfl⟩ 19 rfl rfl rfl rfl rfl (Nat.le_of_ble_eq_true rfl) dX6_sick_8 (fun σ2 h => ?_)
  refine wm_iload_n X 1 rfl dX6_sick_11 ?_
  refine wm_callVi (n := 1) (As := [.int x1]) (rest := []) X (c_X3_answer_20 l G tI tJ tZ ad hD x1 σ2 _ h) gX6_sick_X3_answer rfl ⟨rfl, rfl⟩ (by decide +kernel) ⟨Nat.le_of_ble_eq_true rfl, Nat.le_of_ble_eq_true rfl⟩ 20 rfl rfl rfl rfl rfl (Nat.le_of_ble_eq_true rfl) dX6_sick_12 (fun r3 σ4 h => ?_)
  exact wm_iret X hr h dX6_sick_15
/-! X6_isPair -/
abbrev rm_X6_isPair : Room := { frames := 0, cells := 0, slots := 0, locals := 0 }
def wp_X6_isPair (x0 : Int32) (x1 : Int32) (x2 : Int32) (x3 : Int32) (σ : St) (post : Int32 → St → Prop) : Prop :=
  (1000000 < x0 → post 0 σ) ∧ (¬ 1000000 < x0 → (x0 < x1 → post 0 σ) ∧ (¬ x0 < x1 → (x0 < x2 → post 0 σ) ∧ (¬ x0 < x2 → (x1 < x3 → post 0 σ) ∧ (¬ x1 < x3 → (x2 < x3 → post 0 σ) ∧ (¬ x2 < x3 → (x3 < 0 → post 0 σ) ∧ (¬ x3 < 0 → post 1 σ))))))
set_option maxRecDepth 100000 in
set_option maxHeartbeats 4000000 in
theorem c_X6_isPair (l : Launch) (G : va_G) (tI tJ tZ : ClassId) (ad : Nat → Nat) (hD : ∀ σ, va_D (Ad 22 ad) (wdC tI tJ tZ ad σ)) (x0 : Int32) (x1 : Int32) (x2 : Int32) (x3 : Int32) (σ : St) (post : Int32 → St → Prop) (h : wp_X6_isPair x0 x1 x2 x3 σ post) : Ct l yX6_isPair wsX6_isPair rm_X6_isPair G (tyL tI tJ tZ) (wdC tI tJ tZ ad) (Ad 22 ad) [.int x0, .int x1, .int x2, .int x3] σ (Qi G (wdC tI tJ tZ ad) (Ad 22 ad) post) := by
  refine wm_entry (cc := cX6_isPair) (maxL := 4) (ret := (some .boolean)) (own := RX6) (lv := [(0, .int x0), (1, .int x1), (2, .int x2), (3, .int x3)]) (by decide +kernel) rfl rfl (Nat.le_of_ble_eq_true rfl) rfl hD ?_
  intro p e s m below meth c X hr
  unfold wp_X6_isPair at h
  refine wm_iload_n X 0 rfl dX6_isPair_0 ?_
  refine wm_ldc (v := 1000000) X (by decide +kernel) dX6_isPair_1 ?_
  refine wm_icmp_gt (tgt := 34) X (by decide) dX6_isPair_3 (fun c1 => ?_) (fun c1 => ?_)
  · replace h := h.1 c1
    refine wm_iconst (v := 0) X (by decide) dX6_isPair_34 ?_
    exact wm_zret X hr bz_0 h dX6_isPair_35
  · replace h := h.2 c1
    refine wm_iload_n X 1 rfl dX6_isPair_6 ?_
    refine wm_iload_n X 0 rfl dX6_isPair_7 ?_
    refine wm_icmp_gt (tgt := 34) X (by decide) dX6_isPair_8 (fun c2 => ?_) (fun c2 => ?_)
    · replace h := h.1 c2
      refine wm_iconst (v := 0) X (by decide) dX6_isPair_34 ?_
      exact wm_zret X hr bz_0 h dX6_isPair_35
    · replace h := h.2 c2
      refine wm_iload_n X 2 rfl dX6_isPair_11 ?_
      refine wm_iload_n X 0 rfl dX6_isPair_12 ?_
      refine wm_icmp_gt (tgt := 34) X (by decide) dX6_isPair_13 (fun c3 => ?_) (fun c3 => ?_)
      · replace h := h.1 c3
        refine wm_iconst (v := 0) X (by decide) dX6_isPair_34 ?_
        exact wm_zret X hr bz_0 h dX6_isPair_35
      · replace h := h.2 c3
        refine wm_iload_n X 3 rfl dX6_isPair_16 ?_
        refine wm_iload_n X 1 rfl dX6_isPair_17 ?_
        refine wm_icmp_gt (tgt := 34) X (by decide) dX6_isPair_18 (fun c4 => ?_) (fun c4 => ?_)
        · replace h := h.1 c4
          refine wm_iconst (v := 0) X (by decide) dX6_isPair_34 ?_
          exact wm_zret X hr bz_0 h dX6_isPair_35
        · replace h := h.2 c4
          refine wm_iload_n X 3 rfl dX6_isPair_21 ?_
          refine wm_iload_n X 2 rfl dX6_isPair_22 ?_
          refine wm_icmp_gt (tgt := 34) X (by decide) dX6_isPair_23 (fun c5 => ?_) (fun c5 => ?_)
          · replace h := h.1 c5
            refine wm_iconst (v := 0) X (by decide) dX6_isPair_34 ?_
            exact wm_zret X hr bz_0 h dX6_isPair_35
          · replace h := h.2 c5
            refine wm_iload_n X 3 rfl dX6_isPair_26 ?_
            refine wm_if_lt (tgt := 34) X (by decide) dX6_isPair_27 (fun c6 => ?_) (fun c6 => ?_)
            · replace h := h.1 c6
              refine wm_iconst (v := 0) X (by decide) dX6_isPair_34 ?_
              exact wm_zret X hr bz_0 h dX6_isPair_35
            · replace h := h.2 c6
              refine wm_iconst (v := 1) X (by decide) dX6_isPair_30 ?_
              refine wm_goto (tgt := 35) X (by decide) dX6_isPair_31 ?_
              exact wm_zret X hr bz_1 h dX6_isPair_35
