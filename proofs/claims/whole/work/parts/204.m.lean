/-! X7_count -/
abbrev rm_X7_count : Room := { frames := 4, cells := 0, slots := 0, locals := 109 }
def jn_X7_count_99 (post : Int32 → St → Prop) (K38 : Int32 → Int32 → Int32 → St → Prop) (x1 : Int32) (x2 : Int32) (x3 : Int32) (s0 : Int32) (σ : St) : Prop :=
  (s0 = 0 → ∀ v2 : Int32, v2 = x2 + 0 → ∀ v4 : Int32, v4 = x3 + 1 → K38 x1 v2 v4 σ) ∧ (¬ s0 = 0 → ∀ v6 : Int32, v6 = x2 + 1 → ∀ v8 : Int32, v8 = x3 + 1 → K38 x1 v6 v8 σ)
def jn_X7_count_98 (post : Int32 → St → Prop) (K38 : Int32 → Int32 → Int32 → St → Prop) (x1 : Int32) (x2 : Int32) (x3 : Int32) (σ : St) : Prop :=
  jn_X7_count_99 post K38 x1 x2 x3 0 σ
def jn_X7_count_120 (post : Int32 → St → Prop)  (x1 : Int32) (x2 : Int32) (σ : St) : Prop :=
  (x1 = 0 → post (gI σ 0) σ) ∧ (x1 = 1 → post (gI σ 1) σ) ∧ (x1 = 2 → wp_X7_onSet σ (fun r4 σ5 => wp_X7_bits r4 σ5 (fun r6 σ7 => post r6 σ7))) ∧ (x1 = 3 → wp_X7_onSet σ (fun r9 σ10 => wp_X7_rank r9 0 (-1) σ10 (fun r11 σ12 => post r11 σ12))) ∧ (x1 = 4 → wp_X7_seenSet σ (fun r14 σ15 => wp_X7_bits r14 σ15 (fun r16 σ17 => post r16 σ17))) ∧ (x1 = 5 → post x2 σ) ∧ (x1 = 6 → post x2 σ) ∧ (x1 = 7 → post x2 σ) ∧ (x1 = 8 → post (gI σ 2) σ) ∧ (¬ x1 = 0 → ¬ x1 = 1 → ¬ x1 = 2 → ¬ x1 = 3 → ¬ x1 = 4 → ¬ x1 = 5 → ¬ x1 = 6 → ¬ x1 = 7 → ¬ x1 = 8 → post x2 σ)
def lp_X7_count_38 (post : Int32 → St → Prop)  : Nat → Int32 → Int32 → Int32 → St → Prop
  | 0, _, _, _, _ => False
  | n + 1, x1, x2, x3, σ =>
  ((gI σ 0) ≤ x3 → jn_X7_count_120 post x1 x2 σ) ∧ (¬ (gI σ 0) ≤ x3 → (¬ x1 = 5 → (¬ x1 = 6 → (¬ x1 = 7 → jn_X7_count_98 post (lp_X7_count_38 post n) x1 x2 x3 σ) ∧ (x1 = 7 → wp_X7_groupOf x3 σ (fun r5 σ6 => (¬ (r5 &&& ((1 <<< (x3 &&& 31)) - 1)) = 0 → jn_X7_count_98 post (lp_X7_count_38 post n) x1 x2 x3 σ6) ∧ ((r5 &&& ((1 <<< (x3 &&& 31)) - 1)) = 0 → jn_X7_count_99 post (lp_X7_count_38 post n) x1 x2 x3 1 σ6)))) ∧ (x1 = 6 → wp_X7_isKnown x3 0 σ (fun r8 σ9 => jn_X7_count_99 post (lp_X7_count_38 post n) x1 x2 x3 r8 σ9))) ∧ (x1 = 5 → wp_X7_isSettled x3 σ (fun r10 σ11 => jn_X7_count_99 post (lp_X7_count_38 post n) x1 x2 x3 r10 σ11)))
def wp_X7_count (x1 : Int32) (σ : St) (post : Int32 → St → Prop) : Prop :=
  wp_X7_in (Int32.toInt64 x1) 0 8 σ (fun r1 σ2 => (¬ r1 = 0 → (¬ x1 = 5 → ∃ fu : Nat, lp_X7_count_38 post fu x1 0 0 σ2) ∧ (x1 = 5 → wp_X7_onSet σ2 (fun r5 σ6 => wp_X7_doFit r5 σ6 (fun r7 σ8 => (¬ r7 = 0 → ∃ fu : Nat, lp_X7_count_38 post fu x1 0 0 σ8) ∧ (r7 = 0 → post (-103) σ8))))) ∧ (r1 = 0 → post (-102) σ2))
set_option maxRecDepth 100000 in
set_option maxHeartbeats 4000000 in
theorem w_X7_count_99 {p : Program} {l : Launch} {e : Env} {s : State} {m : MethodId} {args : Array Value} {below : List Frame} {meth : Method} {c : Code} {G : va_G} {tI tJ tZ : ClassId} {ad : Nat → Nat} (hD : ∀ σ, va_D (Ad 11 ad) (wdM tI tJ tZ ad σ)) (X : Cx p s m args meth c cX7_count 5 RX7 wsX7_count G (tyL tI tJ tZ) (wdM tI tJ tZ ad) (Ad 11 ad)) (hr : meth.sig.returnType = (some .int)) {post : Int32 → St → Prop} {K38 : Int32 → Int32 → Int32 → St → Prop} (hK38 : ∀ (x1 : Int32) (x2 : Int32) (x3 : Int32) (σ : St), K38 x1 x2 x3 σ → wm p l e rm_X7_count s m args below meth c G (wdM tI tJ tZ ad) (Ad 11 ad) 5 (MQ below (Qi G (wdM tI tJ tZ ad) (Ad 11 ad) post) args s 0 0 (Ad 11 ad)) σ [(0, .ref (ad 0)), (1, .int x1), (2, .int x2), (3, .int x3)] 38 []) (x1 : Int32) (x2 : Int32) (x3 : Int32) (s0 : Int32) (σ : St) (h : jn_X7_count_99 post K38 x1 x2 x3 s0 σ) : wm p l e rm_X7_count s m args below meth c G (wdM tI tJ tZ ad) (Ad 11 ad) 5 (MQ below (Qi G (wdM tI tJ tZ ad) (Ad 11 ad) post) args s 0 0 (Ad 11 ad)) σ [(0, .ref (ad 0)), (1, .int x1), (2, .int x2), (3, .int x3)] 99 [.int s0] := by
  unfold jn_X7_count_99 at h
  refine wm_istore (lv' := [(4, .int s0), (0, .ref (ad 0)), (1, .int x1), (2, .int x2), (3, .int x3)]) X (by decide) rfl dX7_count_99 ?_
  refine wm_iload_n X 3 rfl dX7_count_101 ?_
  refine wm_iload X 0 rfl dX7_count_102 ?_
  refine wm_if_eq (tgt := 111) X (by decide) dX7_count_104 (fun c1 => ?_) (fun c1 => ?_)
  · replace h := h.1 c1
    refine wm_iconst (v := 0) X (by decide) dX7_count_111 ?_
    refine wm_iadd X dX7_count_112 ?_
    refine wm_nmI (fun v2 e3 => ?_)
    replace h := h v2 e3
    clear e3
    refine wm_istore_n (lv' := [(2, .int v2), (4, .int s0), (0, .ref (ad 0)), (1, .int x1), (3, .int x3)]) X rfl (by decide) rfl dX7_count_113 ?_
    obtain ⟨v4, e5⟩ : ∃ y : Int32, y = x3 + 1 := ⟨_, rfl⟩
    replace h := h v4 e5
    refine wm_iinc (v := v4) (lv' := [(3, .int v4), (2, .int v2), (4, .int s0), (0, .ref (ad 0)), (1, .int x1)]) X 4 rfl (by rw [e5]; rfl) (by decide) rfl dX7_count_114 ?_
    clear e5
    refine wm_goto (tgt := 38) X (by decide) dX7_count_117 ?_
    refine wm_sub [3, 4, 1, 0] (lv' := [(0, .ref (ad 0)), (1, .int x1), (2, .int v2), (3, .int v4)]) rfl ?_
    exact hK38 x1 v2 v4 σ h
  · replace h := h.2 c1
    refine wm_iconst (v := 1) X (by decide) dX7_count_107 ?_
    refine wm_goto (tgt := 112) X (by decide) dX7_count_108 ?_
    refine wm_iadd X dX7_count_112 ?_
    refine wm_nmI (fun v6 e7 => ?_)
    replace h := h v6 e7
    clear e7
    refine wm_istore_n (lv' := [(2, .int v6), (4, .int s0), (0, .ref (ad 0)), (1, .int x1), (3, .int x3)]) X rfl (by decide) rfl dX7_count_113 ?_
    obtain ⟨v8, e9⟩ : ∃ y : Int32, y = x3 + 1 := ⟨_, rfl⟩
    replace h := h v8 e9
    refine wm_iinc (v := v8) (lv' := [(3, .int v8), (2, .int v6), (4, .int s0), (0, .ref (ad 0)), (1, .int x1)]) X 4 rfl (by rw [e9]; rfl) (by decide) rfl dX7_count_114 ?_
    clear e9
    refine wm_goto (tgt := 38) X (by decide) dX7_count_117 ?_
    refine wm_sub [3, 4, 1, 0] (lv' := [(0, .ref (ad 0)), (1, .int x1), (2, .int v6), (3, .int v8)]) rfl ?_
    exact hK38 x1 v6 v8 σ h
set_option maxRecDepth 100000 in
set_option maxHeartbeats 4000000 in
theorem w_X7_count_98 {p : Program} {l : Launch} {e : Env} {s : State} {m : MethodId} {args : Array Value} {below : List Frame} {meth : Method} {c : Code} {G : va_G} {tI tJ tZ : ClassId} {ad : Nat → Nat} (hD : ∀ σ, va_D (Ad 11 ad) (wdM tI tJ tZ ad σ)) (X : Cx p s m args meth c cX7_count 5 RX7 wsX7_count G (tyL tI tJ tZ) (wdM tI tJ tZ ad) (Ad 11 ad)) (hr : meth.sig.returnType = (some .int)) {post : Int32 → St → Prop} {K38 : Int32 → Int32 → Int32 → St → Prop} (hK38 : ∀ (x1 : Int32) (x2 : Int32) (x3 : Int32) (σ : St), K38 x1 x2 x3 σ → wm p l e rm_X7_count s m args below meth c G (wdM tI tJ tZ ad) (Ad 11 ad) 5 (MQ below (Qi G (wdM tI tJ tZ ad) (Ad 11 ad) post) args s 0 0 (Ad 11 ad)) σ [(0, .ref (ad 0)), (1, .int x1), (2, .int x2), (3, .int x3)] 38 []) (x1 : Int32) (x2 : Int32) (x3 : Int32) (σ : St) (h : jn_X7_count_98 post K38 x1 x2 x3 σ) : wm p l e rm_X7_count s m args below meth c G (wdM tI tJ tZ ad) (Ad 11 ad) 5 (MQ below (Qi G (wdM tI tJ tZ ad) (Ad 11 ad) post) args s 0 0 (Ad 11 ad)) σ [(0, .ref (ad 0)), (1, .int x1), (2, .int x2), (3, .int x3)] 98 [] := by
  unfold jn_X7_count_98 at h
  refine wm_iconst (v := 0) X (by decide) dX7_count_98 ?_
  exact w_X7_count_99 hD X hr hK38 x1 x2 x3 0 σ h
set_option maxRecDepth 100000 in
set_option maxHeartbeats 4000000 in
theorem w_X7_count_120 {p : Program} {l : Launch} {e : Env} {s : State} {m : MethodId} {args : Array Value} {below : List Frame} {meth : Method} {c : Code} {G : va_G} {tI tJ tZ : ClassId} {ad : Nat → Nat} (hD : ∀ σ, va_D (Ad 11 ad) (wdM tI tJ tZ ad σ)) (X : Cx p s m args meth c cX7_count 5 RX7 wsX7_count G (tyL tI tJ tZ) (wdM tI tJ tZ ad) (Ad 11 ad)) (hr : meth.sig.returnType = (some .int)) {post : Int32 → St → Prop}  (x1 : Int32) (x2 : Int32) (σ : St) (h : jn_X7_count_120 post x1 x2 σ) : wm p l e rm_X7_count s m args below meth c G (wdM tI tJ tZ ad) (Ad 11 ad) 5 (MQ below (Qi G (wdM tI tJ tZ ad) (Ad 11 ad) post) args s 0 0 (Ad 11 ad)) σ [(0, .ref (ad 0)), (1, .int x1), (2, .int x2)] 120 [] := by
  unfold jn_X7_count_120 at h
  refine wm_iload_n X 1 rfl dX7_count_120 ?_
  by_cases c1 : x1 = 0
  · replace h := h.1 c1
    refine wm_tabIn (off := 51) (tgt := 172) X (by rw [c1]; decide) (by rw [c1]; decide) (by rw [c1]; rfl) (by decide) dX7_count_121 ?_
    refine wm_aload_n X 0 rfl dX7_count_172 ?_
    refine wm_get X (by decide +kernel) 0 rfl rfl 0 (by decide) (by decide +kernel) rfl dX7_count_173 ?_
    exact wm_iret X hr h dX7_count_176
  replace h := h.2
  by_cases c2 : x1 = 1
  · replace h := h.1 c2
    refine wm_tabIn (off := 56) (tgt := 177) X (by rw [c2]; decide) (by rw [c2]; decide) (by rw [c2]; rfl) (by decide) dX7_count_121 ?_
    refine wm_aload_n X 0 rfl dX7_count_177 ?_
    refine wm_get X (by decide +kernel) 0 rfl rfl 5 (by decide) (by decide +kernel) rfl dX7_count_178 ?_
    exact wm_iret X hr h dX7_count_181
  replace h := h.2
  by_cases c3 : x1 = 2
  · replace h := h.1 c3
    refine wm_tabIn (off := 61) (tgt := 182) X (by rw [c3]; decide) (by rw [c3]; decide) (by rw [c3]; rfl) (by decide) dX7_count_121 ?_
    refine wm_aload_n X 0 rfl dX7_count_182 ?_
    refine wm_callVi (n := 0) (As := []) (rest := []) X (c_X7_onSet l G tI tJ tZ ad hD σ _ h) gX7_count_X7_onSet rfl ⟨rfl, rfl⟩ (by decide +kernel) ⟨Nat.le_of_ble_eq_true rfl, Nat.le_of_ble_eq_true rfl⟩ 0 rfl rfl rfl rfl rfl (Nat.le_of_ble_eq_true rfl) dX7_count_183 (fun r4 σ5 h => ?_)
    refine wm_callSi (n := 1) (As := [.int r4]) (rest := []) X (c_X7_bits l G tI tJ tZ ad hD r4 σ5 _ h) gX7_count_X7_bits rfl ⟨rfl, rfl⟩ (by decide +kernel) ⟨Nat.le_of_ble_eq_true rfl, Nat.le_of_ble_eq_true rfl⟩ rfl rfl (Nat.le_of_ble_eq_true rfl) dX7_count_186 (fun r6 σ7 h => ?_)
    exact wm_iret X hr h dX7_count_189
  replace h := h.2
  by_cases c8 : x1 = 3
  · replace h := h.1 c8
    refine wm_tabIn (off := 69) (tgt := 190) X (by rw [c8]; decide) (by rw [c8]; decide) (by rw [c8]; rfl) (by decide) dX7_count_121 ?_
    refine wm_aload_n X 0 rfl dX7_count_190 ?_
    refine wm_aload_n X 0 rfl dX7_count_191 ?_
    refine wm_callVi (n := 0) (As := []) (rest := [.ref (ad 0)]) X (c_X7_onSet l G tI tJ tZ ad hD σ _ h) gX7_count_X7_onSet rfl ⟨rfl, rfl⟩ (by decide +kernel) ⟨Nat.le_of_ble_eq_true rfl, Nat.le_of_ble_eq_true rfl⟩ 0 rfl rfl rfl rfl rfl (Nat.le_of_ble_eq_true rfl) dX7_count_192 (fun r9 σ10 h => ?_)
    refine wm_iconst (v := 0) X (by decide) dX7_count_195 ?_
    refine wm_iconst (v := (-1)) X (by decide) dX7_count_196 ?_
    refine wm_callVi (n := 3) (As := [.int r9, .int 0, .int (-1)]) (rest := []) X (c_X7_rank l G tI tJ tZ ad hD r9 0 (-1) σ10 _ h) gX7_count_X7_rank rfl ⟨rfl, rfl⟩ (by decide +kernel) ⟨Nat.le_of_ble_eq_true rfl, Nat.le_of_ble_eq_true rfl⟩ 0 rfl rfl rfl rfl rfl (Nat.le_of_ble_eq_true rfl) dX7_count_197 (fun r11 σ12 h => ?_)
    exact wm_iret X hr h dX7_count_200
  replace h := h.2
  by_cases c13 : x1 = 4
  · replace h := h.1 c13
    refine wm_tabIn (off := 80) (tgt := 201) X (by rw [c13]; decide) (by rw [c13]; decide) (by rw [c13]; rfl) (by decide) dX7_count_121 ?_
    refine wm_aload_n X 0 rfl dX7_count_201 ?_
    refine wm_callVi (n := 0) (As := []) (rest := []) X (c_X7_seenSet l G tI tJ tZ ad hD σ _ h) gX7_count_X7_seenSet rfl ⟨rfl, rfl⟩ (by decide +kernel) ⟨Nat.le_of_ble_eq_true rfl, Nat.le_of_ble_eq_true rfl⟩ 0 rfl rfl rfl rfl rfl (Nat.le_of_ble_eq_true rfl) dX7_count_202 (fun r14 σ15 h => ?_)
    refine wm_callSi (n := 1) (As := [.int r14]) (rest := []) X (c_X7_bits l G tI tJ tZ ad hD r14 σ15 _ h) gX7_count_X7_bits rfl ⟨rfl, rfl⟩ (by decide +kernel) ⟨Nat.le_of_ble_eq_true rfl, Nat.le_of_ble_eq_true rfl⟩ rfl rfl (Nat.le_of_ble_eq_true rfl) dX7_count_205 (fun r16 σ17 h => ?_)
    exact wm_iret X hr h dX7_count_208
  replace h := h.2
  by_cases c18 : x1 = 5
  · replace h := h.1 c18
    refine wm_tabIn (off := 93) (tgt := 214) X (by rw [c18]; decide) (by rw [c18]; decide) (by rw [c18]; rfl) (by decide) dX7_count_121 ?_
    refine wm_iload_n X 2 rfl dX7_count_214 ?_
    exact wm_iret X hr h dX7_count_215
  replace h := h.2
  by_cases c19 : x1 = 6
  · replace h := h.1 c19
    refine wm_tabIn (off := 93) (tgt := 214) X (by rw [c19]; decide) (by rw [c19]; decide) (by rw [c19]; rfl) (by decide) dX7_count_121 ?_
    refine wm_iload_n X 2 rfl dX7_count_214 ?_
    exact wm_iret X hr h dX7_count_215
  replace h := h.2
  by_cases c20 : x1 = 7
  · replace h := h.1 c20
    refine wm_tabIn (off := 93) (tgt := 214) X (by rw [c20]; decide) (by rw [c20]; decide) (by rw [c20]; rfl) (by decide) dX7_count_121 ?_
    refine wm_iload_n X 2 rfl dX7_count_214 ?_
    exact wm_iret X hr h dX7_count_215
  replace h := h.2
  by_cases c21 : x1 = 8
  · replace h := h.1 c21
    refine wm_tabIn (off := 88) (tgt := 209) X (by rw [c21]; decide) (by rw [c21]; decide) (by rw [c21]; rfl) (by decide) dX7_count_121 ?_
    refine wm_aload_n X 0 rfl dX7_count_209 ?_
    refine wm_get X (by decide +kernel) 0 rfl rfl 7 (by decide) (by decide +kernel) rfl dX7_count_210 ?_
    exact wm_iret X hr h dX7_count_213
  replace h := h.2
  replace h := h c1 c2 c3 c8 c13 c18 c19 c20 c21
  refine wm_tabOut (tgt := 214) X (sw_out8 c1 c2 c3 c8 c13 c18 c19 c20 c21) (by decide) dX7_count_121 ?_
  refine wm_iload_n X 2 rfl dX7_count_214 ?_
  exact wm_iret X hr h dX7_count_215
set_option maxRecDepth 100000 in
set_option maxHeartbeats 4000000 in
theorem w_X7_count_38 {p : Program} {l : Launch} {e : Env} {s : State} {m : MethodId} {args : Array Value} {below : List Frame} {meth : Method} {c : Code} {G : va_G} {tI tJ tZ : ClassId} {ad : Nat → Nat} (hD : ∀ σ, va_D (Ad 11 ad) (wdM tI tJ tZ ad σ)) (X : Cx p s m args meth c cX7_count 5 RX7 wsX7_count G (tyL tI tJ tZ) (wdM tI tJ tZ ad) (Ad 11 ad)) (hr : meth.sig.returnType = (some .int)) {post : Int32 → St → Prop}  : ∀ (n : Nat) (x1 : Int32) (x2 : Int32) (x3 : Int32) (σ : St), lp_X7_count_38 post n x1 x2 x3 σ → wm p l e rm_X7_count s m args below meth c G (wdM tI tJ tZ ad) (Ad 11 ad) 5 (MQ below (Qi G (wdM tI tJ tZ ad) (Ad 11 ad) post) args s 0 0 (Ad 11 ad)) σ [(0, .ref (ad 0)), (1, .int x1), (2, .int x2), (3, .int x3)] 38 [] := by
  intro n
  induction n with
  | zero => intro x1 x2 x3 σ h; exact h.elim
  | succ n ih =>
    intro x1 x2 x3 σ h
    unfold lp_X7_count_38 at h
    refine wm_iload_n X 3 rfl dX7_count_38 ?_
    refine wm_aload_n X 0 rfl dX7_count_39 ?_
    refine wm_get X (by decide +kernel) 0 rfl rfl 0 (by decide) (by decide +kernel) rfl dX7_count_40 ?_
    refine wm_icmp_ge (tgt := 120) X (by decide) dX7_count_43 (fun c1 => ?_) (fun c1 => ?_)
    · replace h := h.1 c1
      refine wm_sub [0, 1, 2] (lv' := [(0, .ref (ad 0)), (1, .int x1), (2, .int x2)]) rfl ?_
      exact w_X7_count_120 hD X hr x1 x2 σ h
    · replace h := h.2 c1
      refine wm_iload_n X 1 rfl dX7_count_46 ?_
      refine wm_iconst (v := 5) X (by decide) dX7_count_47 ?_
      refine wm_icmp_ne (tgt := 59) X (by decide) dX7_count_48 (fun c2 => ?_) (fun c2 => ?_)
      · replace h := h.1 c2
        refine wm_iload_n X 1 rfl dX7_count_59 ?_
        refine wm_bipush (v := 6) X (by decide) dX7_count_60 ?_
        refine wm_icmp_ne (tgt := 74) X (by decide) dX7_count_62 (fun c3 => ?_) (fun c3 => ?_)
        · replace h := h.1 c3
          refine wm_iload_n X 1 rfl dX7_count_74 ?_
          refine wm_bipush (v := 7) X (by decide) dX7_count_75 ?_
          refine wm_icmp_ne (tgt := 98) X (by decide) dX7_count_77 (fun c4 => ?_) (fun c4 => ?_)
          · replace h := h.1 c4
            exact w_X7_count_98 hD X hr ih x1 x2 x3 σ h
          · replace h := h.2 c4
            refine wm_aload_n X 0 rfl dX7_count_80 ?_
            refine wm_iload_n X 3 rfl dX7_count_81 ?_
            refine wm_callVi (n := 1) (As := [.int x3]) (rest := []) X (c_X7_groupOf l G tI tJ tZ ad hD x3 σ _ h) gX7_count_X7_groupOf rfl ⟨rfl, rfl⟩ (by decide +kernel) ⟨Nat.le_of_ble_eq_true rfl, Nat.le_of_ble_eq_true rfl⟩ 0 rfl rfl rfl rfl rfl (Nat.le_of_ble_eq_true rfl) dX7_count_82 (fun r5 σ6 h => ?_)
            refine wm_iconst (v := 1) X (by decide) dX7_count_85 ?_
            refine wm_iload_n X 3 rfl dX7_count_86 ?_
            refine wm_ishl X dX7_count_87 ?_
            refine wm_iconst (v := 1) X (by decide) dX7_count_88 ?_
            refine wm_isub X dX7_count_89 ?_
            refine wm_iand X dX7_count_90 ?_
            refine wm_if_ne (tgt := 98) X (by decide) dX7_count_91 (fun c7 => ?_) (fun c7 => ?_)
            · replace h := h.1 c7
              exact w_X7_count_98 hD X hr ih x1 x2 x3 σ6 h
            · replace h := h.2 c7
              refine wm_iconst (v := 1) X (by decide) dX7_count_94 ?_
              refine wm_goto (tgt := 99) X (by decide) dX7_count_95 ?_
              exact w_X7_count_99 hD X hr ih x1 x2 x3 1 σ6 h
        · replace h := h.2 c3
          refine wm_aload_n X 0 rfl dX7_count_65 ?_
          refine wm_iload_n X 3 rfl dX7_count_66 ?_
          refine wm_iconst (v := 0) X (by decide) dX7_count_67 ?_
          refine wm_callVi (n := 2) (As := [.int x3, .int 0]) (rest := []) X (c_X7_isKnown l G tI tJ tZ ad hD x3 0 σ _ h) gX7_count_X7_isKnown rfl ⟨rfl, rfl⟩ (by decide +kernel) ⟨Nat.le_of_ble_eq_true rfl, Nat.le_of_ble_eq_true rfl⟩ 0 rfl rfl rfl rfl rfl (Nat.le_of_ble_eq_true rfl) dX7_count_68 (fun r8 σ9 h => ?_)
          refine wm_goto (tgt := 99) X (by decide) dX7_count_71 ?_
          exact w_X7_count_99 hD X hr ih x1 x2 x3 r8 σ9 h
      · replace h := h.2 c2
        refine wm_aload_n X 0 rfl dX7_count_51 ?_
        refine wm_iload_n X 3 rfl dX7_count_52 ?_
        refine wm_callVi (n := 1) (As := [.int x3]) (rest := []) X (c_X7_isSettled l G tI tJ tZ ad hD x3 σ _ h) gX7_count_X7_isSettled rfl ⟨rfl, rfl⟩ (by decide +kernel) ⟨Nat.le_of_ble_eq_true rfl, Nat.le_of_ble_eq_true rfl⟩ 0 rfl rfl rfl rfl rfl (Nat.le_of_ble_eq_true rfl) dX7_count_53 (fun r10 σ11 h => ?_)
        refine wm_goto (tgt := 99) X (by decide) dX7_count_56 ?_
        exact w_X7_count_99 hD X hr ih x1 x2 x3 r10 σ11 h
set_option maxRecDepth 100000 in
set_option maxHeartbeats 4000000 in
theorem c_X7_count (l : Launch) (G : va_G) (tI tJ tZ : ClassId) (ad : Nat → Nat) (hD : ∀ σ, va_D (Ad 11 ad) (wdM tI tJ tZ ad σ)) (x1 : Int32) (σ : St) (post : Int32 → St → Prop) (h : wp_X7_count x1 σ post) : Ct l yX7_count wsX7_count rm_X7_count G (tyL tI tJ tZ) (wdM tI tJ tZ ad) (Ad 11 ad) [.ref (ad 0), .int x1] σ (Qi G (wdM tI tJ tZ ad) (Ad 11 ad) post) := by
  refine wm_entry (cc := cX7_count) (maxL := 5) (ret := (some .int)) (own := RX7) (lv := [(0, .ref (ad 0)), (1, .int x1)]) (by decide +kernel) rfl rfl (Nat.le_of_ble_eq_true rfl) rfl hD ?_
  intro p e s m below meth c X hr
  unfold wp_X7_count at h
  refine wm_iload_n X 1 rfl dX7_count_0 ?_
  refine wm_i2l X dX7_count_1 ?_
  refine wm_lconst (v := 0) X (by decide) dX7_count_2 ?_
  refine wm_ldc2 (v := 8) X (by decide +kernel) dX7_count_3 ?_
  refine wm_callSi (n := 3) (As := [.long (Int32.toInt64 x1), .long 0, .long 8]) (rest := []) X (c_X7_in l G tI tJ tZ ad hD (Int32.toInt64 x1) 0 8 σ _ h) gX7_count_X7_in rfl ⟨rfl, rfl⟩ (by decide +kernel) ⟨Nat.le_of_ble_eq_true rfl, Nat.le_of_ble_eq_true rfl⟩ rfl rfl (Nat.le_of_ble_eq_true rfl) dX7_count_6 (fun r1 σ2 h => ?_)
  refine wm_if_ne (tgt := 15) X (by decide) dX7_count_9 (fun c3 => ?_) (fun c3 => ?_)
  · replace h := h.1 c3
    refine wm_iload_n X 1 rfl dX7_count_15 ?_
    refine wm_iconst (v := 5) X (by decide) dX7_count_16 ?_
    refine wm_icmp_ne (tgt := 34) X (by decide) dX7_count_17 (fun c4 => ?_) (fun c4 => ?_)
    · replace h := h.1 c4
      refine wm_iconst (v := 0) X (by decide) dX7_count_34 ?_
      refine wm_istore_n (lv' := [(2, .int 0), (0, .ref (ad 0)), (1, .int x1)]) X rfl (by decide) rfl dX7_count_35 ?_
      refine wm_iconst (v := 0) X (by decide) dX7_count_36 ?_
      refine wm_istore_n (lv' := [(3, .int 0), (2, .int 0), (0, .ref (ad 0)), (1, .int x1)]) X rfl (by decide) rfl dX7_count_37 ?_
      refine wm_sub [2, 3, 1, 0] (lv' := [(0, .ref (ad 0)), (1, .int x1), (2, .int 0), (3, .int 0)]) rfl ?_
      obtain ⟨n0, h⟩ := h
      exact w_X7_count_38 hD X hr n0 x1 0 0 σ2 h
    · replace h := h.2 c4
      refine wm_aload_n X 0 rfl dX7_count_20 ?_
      refine wm_aload_n X 0 rfl dX7_count_21 ?_
      refine wm_callVi (n := 0) (As := []) (rest := [.ref (ad 0)]) X (c_X7_onSet l G tI tJ tZ ad hD σ2 _ h) gX7_count_X7_onSet rfl ⟨rfl, rfl⟩ (by decide +kernel) ⟨Nat.le_of_ble_eq_true rfl, Nat.le_of_ble_eq_true rfl⟩ 0 rfl rfl rfl rfl rfl (Nat.le_of_ble_eq_true rfl) dX7_count_22 (fun r5 σ6 h => ?_)
      refine wm_callVi (n := 1) (As := [.int r5]) (rest := []) X (c_X7_doFit l G tI tJ tZ ad hD r5 σ6 _ h) gX7_count_X7_doFit rfl ⟨rfl, rfl⟩ (by decide +kernel) ⟨Nat.le_of_ble_eq_true rfl, Nat.le_of_ble_eq_true rfl⟩ 0 rfl rfl rfl rfl rfl (Nat.le_of_ble_eq_true rfl) dX7_count_25 (fun r7 σ8 h => ?_)
      refine wm_if_ne (tgt := 34) X (by decide) dX7_count_28 (fun c9 => ?_) (fun c9 => ?_)
      · replace h := h.1 c9
        refine wm_iconst (v := 0) X (by decide) dX7_count_34 ?_
        refine wm_istore_n (lv' := [(2, .int 0), (0, .ref (ad 0)), (1, .int x1)]) X rfl (by decide) rfl dX7_count_35 ?_
        refine wm_iconst (v := 0) X (by decide) dX7_count_36 ?_
        refine wm_istore_n (lv' := [(3, .int 0), (2, .int 0), (0, .ref (ad 0)), (1, .int x1)]) X rfl (by decide) rfl dX7_count_37 ?_
        refine wm_sub [2, 3, 1, 0] (lv' := [(0, .ref (ad 0)), (1, .int x1), (2, .int 0), (3, .int 0)]) rfl ?_
        obtain ⟨n0, h⟩ := h
        exact w_X7_count_38 hD X hr n0 x1 0 0 σ8 h
      · replace h := h.2 c9
        refine wm_bipush (v := (-103)) X (by decide) dX7_count_31 ?_
        exact wm_iret X hr h dX7_count_33
  · replace h := h.2 c3
    refine wm_bipush (v := (-102)) X (by decide) dX7_count_12 ?_
    exact wm_iret X hr h dX7_count_14
/-! X7_fits -/
abbrev rm_X7_fits : Room := { frames := 2, cells := 0, slots := 0, locals := 56 }
def wp_X7_fits (σ : St) (post : Int32 → St → Prop) : Prop :=
  wp_X7_onSet σ (fun r1 σ2 => wp_X7_doFit r1 σ2 (fun r3 σ4 => (r3 = 0 → post 0 σ4) ∧ (¬ r3 = 0 → post 1 σ4)))
set_option maxRecDepth 100000 in
set_option maxHeartbeats 4000000 in
theorem c_X7_fits (l : Launch) (G : va_G) (tI tJ tZ : ClassId) (ad : Nat → Nat) (hD : ∀ σ, va_D (Ad 11 ad) (wdM tI tJ tZ ad σ))  (σ : St) (post : Int32 → St → Prop) (h : wp_X7_fits  σ post) : Ct l yX7_fits wsX7_fits rm_X7_fits G (tyL tI tJ tZ) (wdM tI tJ tZ ad) (Ad 11 ad) [.ref (ad 0)] σ (Qi G (wdM tI tJ tZ ad) (Ad 11 ad) post) := by
  refine wm_entry (cc := cX7_fits) (maxL := 1) (ret := (some .int)) (own := RX7) (lv := [(0, .ref (ad 0))]) (by decide +kernel) rfl rfl (Nat.le_of_ble_eq_true rfl) rfl hD ?_
  intro p e s m below meth c X hr
  unfold wp_X7_fits at h
  refine wm_aload_n X 0 rfl dX7_fits_0 ?_
  refine wm_aload_n X 0 rfl dX7_fits_1 ?_
  refine wm_callVi (n := 0) (As := []) (rest := [.ref (ad 0)]) X (c_X7_onSet l G tI tJ tZ ad hD σ _ h) gX7_fits_X7_onSet rfl ⟨rfl, rfl⟩ (by decide +kernel) ⟨Nat.le_of_ble_eq_true rfl, Nat.le_of_ble_eq_true rfl⟩ 0 rfl rfl rfl rfl rfl (Nat.le_of_ble_eq_true rfl) dX7_fits_2 (fun r1 σ2 h => ?_)
  refine wm_callVi (n := 1) (As := [.int r1]) (rest := []) X (c_X7_doFit l G tI tJ tZ ad hD r1 σ2 _ h) gX7_fits_X7_doFit rfl ⟨rfl, rfl⟩ (by decide +kernel) ⟨Nat.le_of_ble_eq_true rfl, Nat.le_of_ble_eq_true rfl⟩ 0 rfl rfl rfl rfl rfl (Nat.le_of_ble_eq_true rfl) dX7_fits_5 (fun r3 σ4 h => ?_)
  refine wm_if_eq (tgt := 15) X (by decide) dX7_fits_8 (fun c5 => ?_) (fun c5 => ?_)
  · replace h := h.1 c5
    refine wm_iconst (v := 0) X (by decide) dX7_fits_15 ?_
    exact wm_iret X hr h dX7_fits_16
  · replace h := h.2 c5
    refine wm_iconst (v := 1) X (by decide) dX7_fits_11 ?_
    refine wm_goto (tgt := 16) X (by decide) dX7_fits_12 ?_
    exact wm_iret X hr h dX7_fits_16
/-! X7_isEndless -/
abbrev rm_X7_isEndless : Room := { frames := 1, cells := 0, slots := 0, locals := 22 }
def wp_X7_isEndless (x1 : Int32) (x2 : Int32) (σ : St) (post : Int32 → St → Prop) : Prop :=
  (¬ x2 = 1 → post 0 σ) ∧ (x2 = 1 → wp_X7_seenSet σ (fun r2 σ3 => ((x1 &&& (r2 ^^^ (-1))) = 0 → post 0 σ3) ∧ (¬ (x1 &&& (r2 ^^^ (-1))) = 0 → post 1 σ3)))
set_option maxRecDepth 100000 in
set_option maxHeartbeats 4000000 in
theorem c_X7_isEndless (l : Launch) (G : va_G) (tI tJ tZ : ClassId) (ad : Nat → Nat) (hD : ∀ σ, va_D (Ad 11 ad) (wdM tI tJ tZ ad σ)) (x1 : Int32) (x2 : Int32) (σ : St) (post : Int32 → St → Prop) (h : wp_X7_isEndless x1 x2 σ post) : Ct l yX7_isEndless wsX7_isEndless rm_X7_isEndless G (tyL tI tJ tZ) (wdM tI tJ tZ ad) (Ad 11 ad) [.ref (ad 0), .int x1, .int x2] σ (Qi G (wdM tI tJ tZ ad) (Ad 11 ad) post) := by
  refine wm_entry (cc := cX7_isEndless) (maxL := 3) (ret := (some .boolean)) (own := RX7) (lv := [(0, .ref (ad 0)), (1, .int x1), (2, .int x2)]) (by decide +kernel) rfl rfl (Nat.le_of_ble_eq_true rfl) rfl hD ?_
  intro p e s m below meth c X hr
  unfold wp_X7_isEndless at h
  refine wm_iload_n X 2 rfl dX7_isEndless_0 ?_
  refine wm_iconst (v := 1) X (by decide) dX7_isEndless_1 ?_
  refine wm_icmp_ne (tgt := 20) X (by decide) dX7_isEndless_2 (fun c1 => ?_) (fun c1 => ?_)
  · replace h := h.1 c1
    refine wm_iconst (v := 0) X (by decide) dX7_isEndless_20 ?_
    exact wm_zret X hr bz_0 h dX7_isEndless_21
  · replace h := h.2 c1
    refine wm_iload_n X 1 rfl dX7_isEndless_5 ?_
    refine wm_aload_n X 0 rfl dX7_isEndless_6 ?_
    refine wm_callVi (n := 0) (As := []) (rest := [.int x1]) X (c_X7_seenSet l G tI tJ tZ ad hD σ _ h) gX7_isEndless_X7_seenSet rfl ⟨rfl, rfl⟩ (by decide +kernel) ⟨Nat.le_of_ble_eq_true rfl, Nat.le_of_ble_eq_true rfl⟩ 0 rfl rfl rfl rfl rfl (Nat.le_of_ble_eq_true rfl) dX7_isEndless_7 (fun r2 σ3 h => ?_)
    refine wm_iconst (v := (-1)) X (by decide) dX7_isEndless_10 ?_
    refine wm_ixor X dX7_isEndless_11 ?_
    refine wm_iand X dX7_isEndless_12 ?_
    refine wm_if_eq (tgt := 20) X (by decide) dX7_isEndless_13 (fun c4 => ?_) (fun c4 => ?_)
    · replace h := h.1 c4
      refine wm_iconst (v := 0) X (by decide) dX7_isEndless_20 ?_
      exact wm_zret X hr bz_0 h dX7_isEndless_21
    · replace h := h.2 c4
      refine wm_iconst (v := 1) X (by decide) dX7_isEndless_16 ?_
      refine wm_goto (tgt := 21) X (by decide) dX7_isEndless_17 ?_
      exact wm_zret X hr bz_1 h dX7_isEndless_21
/-! X7_gcd -/
abbrev rm_X7_gcd : Room := { frames := 0, cells := 0, slots := 0, locals := 0 }
def lp_X7_gcd_6 (post : Int64 → St → Prop)  : Nat → Int64 → Int64 → St → Prop
  | 0, _, _, _ => False
  | n + 1, x4, x6, σ =>
  (x6 = 0 → post x4 σ) ∧ (¬ x6 = 0 → ¬ x6 = 0 ∧ (∀ v2 : Int64, v2 = x4 - x4 / x6 * x6 → lp_X7_gcd_6 post n x6 v2 σ))
def wp_X7_gcd (x0 : Int64) (x2 : Int64) (σ : St) (post : Int64 → St → Prop) : Prop :=
  ∃ fu : Nat, lp_X7_gcd_6 post fu x0 x2 σ
set_option maxRecDepth 100000 in
set_option maxHeartbeats 4000000 in
theorem w_X7_gcd_6 {p : Program} {l : Launch} {e : Env} {s : State} {m : MethodId} {args : Array Value} {below : List Frame} {meth : Method} {c : Code} {G : va_G} {tI tJ tZ : ClassId} {ad : Nat → Nat} (hD : ∀ σ, va_D (Ad 11 ad) (wdM tI tJ tZ ad σ)) (X : Cx p s m args meth c cX7_gcd 10 RX7 wsX7_gcd G (tyL tI tJ tZ) (wdM tI tJ tZ ad) (Ad 11 ad)) (hr : meth.sig.returnType = (some .long)) {post : Int64 → St → Prop}  : ∀ (n : Nat) (x4 : Int64) (x6 : Int64) (σ : St), lp_X7_gcd_6 post n x4 x6 σ → wm p l e rm_X7_gcd s m args below meth c G (wdM tI tJ tZ ad) (Ad 11 ad) 10 (MQ below (Ql G (wdM tI tJ tZ ad) (Ad 11 ad) post) args s 0 0 (Ad 11 ad)) σ [(4, .long x4), (6, .long x6)] 6 [] := by
  intro n
  induction n with
  | zero => intro x4 x6 σ h; exact h.elim
  | succ n ih =>
    intro x4 x6 σ h
    unfold lp_X7_gcd_6 at h
    refine wm_lload X 1 rfl dX7_gcd_6 ?_
    refine wm_lconst (v := 0) X (by decide) dX7_gcd_8 ?_
    refine wm_lcmp X dX7_gcd_9 ?_
    refine wm_if_eq (tgt := 31) X (by decide) dX7_gcd_10 (fun c1 => ?_) (fun c1 => ?_)
    · replace h := h.1 ((lc_eq _ _).mp c1)
      refine wm_lload X 0 rfl dX7_gcd_31 ?_
      exact wm_lret X hr h dX7_gcd_33
    · replace h := h.2 ((lc_neq _ _).mp c1)
      refine wm_lload X 0 rfl dX7_gcd_13 ?_
      refine wm_lload X 1 rfl dX7_gcd_15 ?_
      refine wm_lrem X h.1 dX7_gcd_17 ?_
      replace h := h.2
      refine wm_nmL (fun v2 e3 => ?_)
      replace h := h v2 e3
      clear e3
      refine wm_lstore (lv' := [(8, .long v2), (4, .long x4), (6, .long x6)]) X (by decide) rfl dX7_gcd_18 ?_
      refine wm_lload X 2 rfl dX7_gcd_20 ?_
      refine wm_lstore (lv' := [(4, .long x6), (8, .long v2), (6, .long x6)]) X (by decide) rfl dX7_gcd_22 ?_
      refine wm_lload X 1 rfl dX7_gcd_24 ?_
      refine wm_lstore (lv' := [(6, .long v2), (4, .long x6), (8, .long v2)]) X (by decide) rfl dX7_gcd_26 ?_
      refine wm_goto (tgt := 6) X (by decide) dX7_gcd_28 ?_
      refine wm_sub [1, 0] (lv' := [(4, .long x6), (6, .long v2)]) rfl ?_
      exact ih x6 v2 σ h
set_option maxRecDepth 100000 in
set_option maxHeartbeats 4000000 in
theorem c_X7_gcd (l : Launch) (G : va_G) (tI tJ tZ : ClassId) (ad : Nat → Nat) (hD : ∀ σ, va_D (Ad 11 ad) (wdM tI tJ tZ ad σ)) (x0 : Int64) (x2 : Int64) (σ : St) (post : Int64 → St → Prop) (h : wp_X7_gcd x0 x2 σ post) : Ct l yX7_gcd wsX7_gcd rm_X7_gcd G (tyL tI tJ tZ) (wdM tI tJ tZ ad) (Ad 11 ad) [.long x0, .long x2] σ (Ql G (wdM tI tJ tZ ad) (Ad 11 ad) post) := by
  refine wm_entry (cc := cX7_gcd) (maxL := 10) (ret := (some .long)) (own := RX7) (lv := [(0, .long x0), (2, .long x2)]) (by decide +kernel) rfl rfl (Nat.le_of_ble_eq_true rfl) rfl hD ?_
  intro p e s m below meth c X hr
  unfold wp_X7_gcd at h
  refine wm_lload_n X 0 rfl dX7_gcd_0 ?_
  refine wm_lstore (lv' := [(4, .long x0), (0, .long x0), (2, .long x2)]) X (by decide) rfl dX7_gcd_1 ?_
  refine wm_lload_n X 2 rfl dX7_gcd_3 ?_
  refine wm_lstore (lv' := [(6, .long x2), (4, .long x0), (0, .long x0), (2, .long x2)]) X (by decide) rfl dX7_gcd_4 ?_
  refine wm_sub [1, 0] (lv' := [(4, .long x0), (6, .long x2)]) rfl ?_
  obtain ⟨n0, h⟩ := h
  exact w_X7_gcd_6 hD X hr n0 x0 x2 σ h
/-! X7_part -/
abbrev rm_X7_part : Room := { frames := 1, cells := 0, slots := 0, locals := 29 }
def wp_X7_part (x0 : Int64) (x2 : Int64) (x4 : Int32) (σ : St) (post : Int64 → St → Prop) : Prop :=
  wp_X7_gcd x0 x2 σ (fun r1 σ2 => (¬ x4 = 0 → ¬ r1 = 0 ∧ post (x2 / r1) σ2) ∧ (x4 = 0 → ¬ r1 = 0 ∧ post (x0 / r1) σ2))
set_option maxRecDepth 100000 in
set_option maxHeartbeats 4000000 in
theorem c_X7_part (l : Launch) (G : va_G) (tI tJ tZ : ClassId) (ad : Nat → Nat) (hD : ∀ σ, va_D (Ad 11 ad) (wdM tI tJ tZ ad σ)) (x0 : Int64) (x2 : Int64) (x4 : Int32) (σ : St) (post : Int64 → St → Prop) (h : wp_X7_part x0 x2 x4 σ post) : Ct l yX7_part wsX7_part rm_X7_part G (tyL tI tJ tZ) (wdM tI tJ tZ ad) (Ad 11 ad) [.long x0, .long x2, .int x4] σ (Ql G (wdM tI tJ tZ ad) (Ad 11 ad) post) := by
  refine wm_entry (cc := cX7_part) (maxL := 7) (ret := (some .long)) (own := RX7) (lv := [(0, .long x0), (2, .long x2), (4, .int x4)]) (by decide +kernel) rfl rfl (Nat.le_of_ble_eq_true rfl) rfl hD ?_
  intro p e s m below meth c X hr
  unfold wp_X7_part at h
  refine wm_lload_n X 0 rfl dX7_part_0 ?_
  refine wm_lload_n X 1 rfl dX7_part_1 ?_
  refine wm_callSl (n := 2) (As := [.long x0, .long x2]) (rest := []) X (c_X7_gcd l G tI tJ tZ ad hD x0 x2 σ _ h) gX7_part_X7_gcd rfl ⟨rfl, rfl⟩ (by decide +kernel) ⟨Nat.le_of_ble_eq_true rfl, Nat.le_of_ble_eq_true rfl⟩ rfl rfl (Nat.le_of_ble_eq_true rfl) dX7_part_2 (fun r1 σ2 h => ?_)
  refine wm_lstore (lv' := [(5, .long r1), (0, .long x0), (2, .long x2), (4, .int x4)]) X (by decide) rfl dX7_part_5 ?_
  refine wm_iload X 3 rfl dX7_part_7 ?_
  refine wm_if_ne (tgt := 19) X (by decide) dX7_part_9 (fun c3 => ?_) (fun c3 => ?_)
  · replace h := h.1 c3
    refine wm_lload_n X 2 rfl dX7_part_19 ?_
    refine wm_lload X 0 rfl dX7_part_20 ?_
    refine wm_ldiv X h.1 dX7_part_22 ?_
    replace h := h.2
    exact wm_lret X hr h dX7_part_23
  · replace h := h.2 c3
    refine wm_lload_n X 1 rfl dX7_part_12 ?_
    refine wm_lload X 0 rfl dX7_part_13 ?_
    refine wm_ldiv X h.1 dX7_part_15 ?_
    replace h := h.2
    refine wm_goto (tgt := 23) X (by decide) dX7_part_16 ?_
    exact wm_lret X hr h dX7_part_23
/-! X7_bound -/
abbrev rm_X7_bound : Room := { frames := 3, cells := 0, slots := 0, locals := 83 }
def wp_X7_bound (x1 : Int32) (x2 : Int32) (x3 : Int32) (σ : St) (post : Int64 → St → Prop) : Prop :=
  wp_X7_noSet x1 0 σ (fun r1 σ2 => (¬ r1 = 0 → post (-102) σ2) ∧ (r1 = 0 → wp_X7_in (Int32.toInt64 x2) 0 1 σ2 (fun r4 σ5 => (r4 = 0 → post (-102) σ5) ∧ (¬ r4 = 0 → wp_X7_in (Int32.toInt64 x3) 0 1 σ5 (fun r7 σ8 => (¬ r7 = 0 → wp_X7_onSet σ8 (fun r10 σ11 => wp_X7_doFit r10 σ11 (fun r12 σ13 => (¬ r12 = 0 → wp_X7_isEndless x1 x2 σ13 (fun r15 σ16 => (r15 = 0 → wp_X7_find x1 x2 σ16 (fun r18 σ19 => wp_X7_of_9 x1 σ19 (fun r20 σ21 => wp_X7_part r20 (gL σ21 2) x3 σ21 (fun r22 σ23 => post r22 σ23)))) ∧ (¬ r15 = 0 → post (-105) σ16))) ∧ (r12 = 0 → post (-103) σ13)))) ∧ (r7 = 0 → post (-102) σ8))))))
set_option maxRecDepth 100000 in
set_option maxHeartbeats 4000000 in
theorem c_X7_bound (l : Launch) (G : va_G) (tI tJ tZ : ClassId) (ad : Nat → Nat) (hD : ∀ σ, va_D (Ad 11 ad) (wdM tI tJ tZ ad σ)) (x1 : Int32) (x2 : Int32) (x3 : Int32) (σ : St) (post : Int64 → St → Prop) (h : wp_X7_bound x1 x2 x3 σ post) : Ct l yX7_bound wsX7_bound rm_X7_bound G (tyL tI tJ tZ) (wdM tI tJ tZ ad) (Ad 11 ad) [.ref (ad 0), .int x1, .int x2, .int x3] σ (Ql G (wdM tI tJ tZ ad) (Ad 11 ad) post) := by
  refine wm_entry (cc := cX7_bound) (maxL := 5) (ret := (some .long)) (own := RX7) (lv := [(0, .ref (ad 0)), (1, .int x1), (2, .int x2), (3, .int x3)]) (by decide +kernel) rfl rfl (Nat.le_of_ble_eq_true rfl) rfl hD ?_
  intro p e s m below meth c X hr
  unfold wp_X7_bound at h
  refine wm_aload_n X 0 rfl dX7_bound_0 ?_
  refine wm_iload_n X 1 rfl dX7_bound_1 ?_
  refine wm_iconst (v := 0) X (by decide) dX7_bound_2 ?_
  refine wm_callVi (n := 2) (As := [.int x1, .int 0]) (rest := []) X (c_X7_noSet l G tI tJ tZ ad hD x1 0 σ _ h) gX7_bound_X7_noSet rfl ⟨rfl, rfl⟩ (by decide +kernel) ⟨Nat.le_of_ble_eq_true rfl, Nat.le_of_ble_eq_true rfl⟩ 0 rfl rfl rfl rfl rfl (Nat.le_of_ble_eq_true rfl) dX7_bound_3 (fun r1 σ2 h => ?_)
  refine wm_if_ne (tgt := 29) X (by decide) dX7_bound_6 (fun c3 => ?_) (fun c3 => ?_)
  · replace h := h.1 c3
    refine wm_ldc2 (v := (-102)) X (by decide +kernel) dX7_bound_29 ?_
    exact wm_lret X hr h dX7_bound_32
  · replace h := h.2 c3
    refine wm_iload_n X 2 rfl dX7_bound_9 ?_
    refine wm_i2l X dX7_bound_10 ?_
    refine wm_lconst (v := 0) X (by decide) dX7_bound_11 ?_
    refine wm_lconst (v := 1) X (by decide) dX7_bound_12 ?_
    refine wm_callSi (n := 3) (As := [.long (Int32.toInt64 x2), .long 0, .long 1]) (rest := []) X (c_X7_in l G tI tJ tZ ad hD (Int32.toInt64 x2) 0 1 σ2 _ h) gX7_bound_X7_in rfl ⟨rfl, rfl⟩ (by decide +kernel) ⟨Nat.le_of_ble_eq_true rfl, Nat.le_of_ble_eq_true rfl⟩ rfl rfl (Nat.le_of_ble_eq_true rfl) dX7_bound_13 (fun r4 σ5 h => ?_)
    refine wm_if_eq (tgt := 29) X (by decide) dX7_bound_16 (fun c6 => ?_) (fun c6 => ?_)
    · replace h := h.1 c6
      refine wm_ldc2 (v := (-102)) X (by decide +kernel) dX7_bound_29 ?_
      exact wm_lret X hr h dX7_bound_32
    · replace h := h.2 c6
      refine wm_iload_n X 3 rfl dX7_bound_19 ?_
      refine wm_i2l X dX7_bound_20 ?_
      refine wm_lconst (v := 0) X (by decide) dX7_bound_21 ?_
      refine wm_lconst (v := 1) X (by decide) dX7_bound_22 ?_
      refine wm_callSi (n := 3) (As := [.long (Int32.toInt64 x3), .long 0, .long 1]) (rest := []) X (c_X7_in l G tI tJ tZ ad hD (Int32.toInt64 x3) 0 1 σ5 _ h) gX7_bound_X7_in rfl ⟨rfl, rfl⟩ (by decide +kernel) ⟨Nat.le_of_ble_eq_true rfl, Nat.le_of_ble_eq_true rfl⟩ rfl rfl (Nat.le_of_ble_eq_true rfl) dX7_bound_23 (fun r7 σ8 h => ?_)
      refine wm_if_ne (tgt := 33) X (by decide) dX7_bound_26 (fun c9 => ?_) (fun c9 => ?_)
      · replace h := h.1 c9
        refine wm_aload_n X 0 rfl dX7_bound_33 ?_
        refine wm_aload_n X 0 rfl dX7_bound_34 ?_
        refine wm_callVi (n := 0) (As := []) (rest := [.ref (ad 0)]) X (c_X7_onSet l G tI tJ tZ ad hD σ8 _ h) gX7_bound_X7_onSet rfl ⟨rfl, rfl⟩ (by decide +kernel) ⟨Nat.le_of_ble_eq_true rfl, Nat.le_of_ble_eq_true rfl⟩ 0 rfl rfl rfl rfl rfl (Nat.le_of_ble_eq_true rfl) dX7_bound_35 (fun r10 σ11 h => ?_)
        refine wm_callVi (n := 1) (As := [.int r10]) (rest := []) X (c_X7_doFit l G tI tJ tZ ad hD r10 σ11 _ h) gX7_bound_X7_doFit rfl ⟨rfl, rfl⟩ (by decide +kernel) ⟨Nat.le_of_ble_eq_true rfl, Nat.le_of_ble_eq_true rfl⟩ 0 rfl rfl rfl rfl rfl (Nat.le_of_ble_eq_true rfl) dX7_bound_38 (fun r12 σ13 h => ?_)
        refine wm_if_ne (tgt := 48) X (by decide) dX7_bound_41 (fun c14 => ?_) (fun c14 => ?_)
        · replace h := h.1 c14
          refine wm_aload_n X 0 rfl dX7_bound_48 ?_
          refine wm_iload_n X 1 rfl dX7_bound_49 ?_
          refine wm_iload_n X 2 rfl dX7_bound_50 ?_
          refine wm_callVi (n := 2) (As := [.int x1, .int x2]) (rest := []) X (c_X7_isEndless l G tI tJ tZ ad hD x1 x2 σ13 _ h) gX7_bound_X7_isEndless rfl ⟨rfl, rfl⟩ (by decide +kernel) ⟨Nat.le_of_ble_eq_true rfl, Nat.le_of_ble_eq_true rfl⟩ 0 rfl rfl rfl rfl rfl (Nat.le_of_ble_eq_true rfl) dX7_bound_51 (fun r15 σ16 h => ?_)
          refine wm_if_eq (tgt := 61) X (by decide) dX7_bound_54 (fun c17 => ?_) (fun c17 => ?_)
          · replace h := h.1 c17
            refine wm_aload_n X 0 rfl dX7_bound_61 ?_
            refine wm_iload_n X 1 rfl dX7_bound_62 ?_
            refine wm_iload_n X 2 rfl dX7_bound_63 ?_
            refine wm_callVi (n := 2) (As := [.int x1, .int x2]) (rest := []) X (c_X7_find l G tI tJ tZ ad hD x1 x2 σ16 _ h) gX7_bound_X7_find rfl ⟨rfl, rfl⟩ (by decide +kernel) ⟨Nat.le_of_ble_eq_true rfl, Nat.le_of_ble_eq_true rfl⟩ 0 rfl rfl rfl rfl rfl (Nat.le_of_ble_eq_true rfl) dX7_bound_64 (fun r18 σ19 h => ?_)
            refine wm_istore (lv' := [(4, .int r18), (0, .ref (ad 0)), (1, .int x1), (2, .int x2), (3, .int x3)]) X (by decide) rfl dX7_bound_67 ?_
            refine wm_aload_n X 1 rfl dX7_bound_69 ?_
            refine wm_get X (by decide +kernel) 0 rfl rfl 14 (by decide) (by decide +kernel) rfl dX7_bound_70 ?_
            refine wm_iload_n X 2 rfl dX7_bound_73 ?_
            refine wm_callSl (n := 2) (As := [.ref (ad 9), .int x1]) (rest := []) X (c_X7_of_9 l G tI tJ tZ ad hD x1 σ19 _ h) gX7_bound_X7_of rfl ⟨rfl, rfl⟩ (by decide +kernel) ⟨Nat.le_of_ble_eq_true rfl, Nat.le_of_ble_eq_true rfl⟩ rfl rfl (Nat.le_of_ble_eq_true rfl) dX7_bound_74 (fun r20 σ21 h => ?_)
            refine wm_aload_n X 1 rfl dX7_bound_77 ?_
            refine wm_get X (by decide +kernel) 0 rfl rfl 15 (by decide) (by decide +kernel) rfl dX7_bound_78 ?_
            refine wm_iload_n X 4 rfl dX7_bound_81 ?_
            refine wm_callSl (n := 3) (As := [.long r20, .long (gL σ21 2), .int x3]) (rest := []) X (c_X7_part l G tI tJ tZ ad hD r20 (gL σ21 2) x3 σ21 _ h) gX7_bound_X7_part rfl ⟨rfl, rfl⟩ (by decide +kernel) ⟨Nat.le_of_ble_eq_true rfl, Nat.le_of_ble_eq_true rfl⟩ rfl rfl (Nat.le_of_ble_eq_true rfl) dX7_bound_82 (fun r22 σ23 h => ?_)
            exact wm_lret X hr h dX7_bound_85
          · replace h := h.2 c17
            refine wm_ldc2 (v := (-105)) X (by decide +kernel) dX7_bound_57 ?_
            exact wm_lret X hr h dX7_bound_60
        · replace h := h.2 c14
          refine wm_ldc2 (v := (-103)) X (by decide +kernel) dX7_bound_44 ?_
          exact wm_lret X hr h dX7_bound_47
      · replace h := h.2 c9
        refine wm_ldc2 (v := (-102)) X (by decide +kernel) dX7_bound_29 ?_
        exact wm_lret X hr h dX7_bound_32
/-! X7_noLine -/
abbrev rm_X7_noLine : Room := { frames := 1, cells := 0, slots := 0, locals := 25 }
def wp_X7_noLine (x1 : Int32) (σ : St) (post : Int32 → St → Prop) : Prop :=
  wp_X7_in (Int32.toInt64 x1) 0 (Int32.toInt64 ((gI σ 0) - 1)) σ (fun r1 σ2 => (¬ r1 = 0 → post 0 σ2) ∧ (r1 = 0 → post 1 σ2))
set_option maxRecDepth 100000 in
set_option maxHeartbeats 4000000 in
theorem c_X7_noLine (l : Launch) (G : va_G) (tI tJ tZ : ClassId) (ad : Nat → Nat) (hD : ∀ σ, va_D (Ad 11 ad) (wdM tI tJ tZ ad σ)) (x1 : Int32) (σ : St) (post : Int32 → St → Prop) (h : wp_X7_noLine x1 σ post) : Ct l yX7_noLine wsX7_noLine rm_X7_noLine G (tyL tI tJ tZ) (wdM tI tJ tZ ad) (Ad 11 ad) [.ref (ad 0), .int x1] σ (Qi G (wdM tI tJ tZ ad) (Ad 11 ad) post) := by
  refine wm_entry (cc := cX7_noLine) (maxL := 2) (ret := (some .boolean)) (own := RX7) (lv := [(0, .ref (ad 0)), (1, .int x1)]) (by decide +kernel) rfl rfl (Nat.le_of_ble_eq_true rfl) rfl hD ?_
  intro p e s m below meth c X hr
  unfold wp_X7_noLine at h
  refine wm_iload_n X 1 rfl dX7_noLine_0 ?_
  refine wm_i2l X dX7_noLine_1 ?_
  refine wm_lconst (v := 0) X (by decide) dX7_noLine_2 ?_
  refine wm_aload_n X 0 rfl dX7_noLine_3 ?_
  refine wm_get X (by decide +kernel) 0 rfl rfl 0 (by decide) (by decide +kernel) rfl dX7_noLine_4 ?_
  refine wm_iconst (v := 1) X (by decide) dX7_noLine_7 ?_
  refine wm_isub X dX7_noLine_8 ?_
  refine wm_i2l X dX7_noLine_9 ?_
  refine wm_callSi (n := 3) (As := [.long (Int32.toInt64 x1), .long 0, .long (Int32.toInt64 ((gI σ 0) - 1))]) (rest := []) X (c_X7_in l G tI tJ tZ ad hD (Int32.toInt64 x1) 0 (Int32.toInt64 ((gI σ 0) - 1)) σ _ h) gX7_noLine_X7_in rfl ⟨rfl, rfl⟩ (by decide +kernel) ⟨Nat.le_of_ble_eq_true rfl, Nat.le_of_ble_eq_true rfl⟩ rfl rfl (Nat.le_of_ble_eq_true rfl) dX7_noLine_10 (fun r1 σ2 h => ?_)
  refine wm_if_ne (tgt := 20) X (by decide) dX7_noLine_13 (fun c3 => ?_) (fun c3 => ?_)
  · replace h := h.1 c3
    refine wm_iconst (v := 0) X (by decide) dX7_noLine_20 ?_
    exact wm_zret X hr bz_0 h dX7_noLine_21
  · replace h := h.2 c3
    refine wm_iconst (v := 1) X (by decide) dX7_noLine_16 ?_
    refine wm_goto (tgt := 21) X (by decide) dX7_noLine_17 ?_
    exact wm_zret X hr bz_1 h dX7_noLine_21
/-! X7_shown -/
abbrev rm_X7_shown : Room := { frames := 3, cells := 0, slots := 0, locals := 83 }
def wp_X7_shown (x1 : Int32) (x2 : Int32) (x3 : Int32) (x4 : Int32) (σ : St) (post : Int64 → St → Prop) : Prop :=
  wp_X7_noLine x3 σ (fun r1 σ2 => (r1 = 0 → wp_X7_noSet x1 0 σ2 (fun r4 σ5 => (¬ r4 = 0 → post (-102) σ5) ∧ (r4 = 0 → wp_X7_in (Int32.toInt64 x2) 0 1 σ5 (fun r7 σ8 => (r7 = 0 → post (-102) σ8) ∧ (¬ r7 = 0 → wp_X7_in (Int32.toInt64 x4) 0 1 σ8 (fun r10 σ11 => (¬ r10 = 0 → wp_X7_onSet σ11 (fun r13 σ14 => wp_X7_doFit r13 σ14 (fun r15 σ16 => (¬ r15 = 0 → wp_X7_isEndless x1 x2 σ16 (fun r18 σ19 => (r18 = 0 → wp_X7_find x1 x2 σ19 (fun r21 σ22 => vp_in x3 10 ∧ wp_X7_part (gB σ22 2 (Int32.toNatClampNeg x3)) (gL σ22 2) x4 σ22 (fun r23 σ24 => post r23 σ24))) ∧ (¬ r18 = 0 → post (-105) σ19))) ∧ (r15 = 0 → post (-103) σ16)))) ∧ (r10 = 0 → post (-102) σ11))))))) ∧ (¬ r1 = 0 → post (-101) σ2))
set_option maxRecDepth 100000 in
set_option maxHeartbeats 4000000 in
theorem c_X7_shown (l : Launch) (G : va_G) (tI tJ tZ : ClassId) (ad : Nat → Nat) (hD : ∀ σ, va_D (Ad 11 ad) (wdM tI tJ tZ ad σ)) (x1 : Int32) (x2 : Int32) (x3 : Int32) (x4 : Int32) (σ : St) (post : Int64 → St → Prop) (h : wp_X7_shown x1 x2 x3 x4 σ post) : Ct l yX7_shown wsX7_shown rm_X7_shown G (tyL tI tJ tZ) (wdM tI tJ tZ ad) (Ad 11 ad) [.ref (ad 0), .int x1, .int x2, .int x3, .int x4] σ (Ql G (wdM tI tJ tZ ad) (Ad 11 ad) post) := by
  refine wm_entry (cc := cX7_shown) (maxL := 6) (ret := (some .long)) (own := RX7) (lv := [(0, .ref (ad 0)), (1, .int x1), (2, .int x2), (3, .int x3), (4, .int x4)]) (by decide +kernel) rfl rfl (Nat.le_of_ble_eq_true rfl) rfl hD ?_
  intro p e s m below meth c X hr
  unfold wp_X7_shown at h
  refine wm_aload_n X 0 rfl dX7_shown_0 ?_
  refine wm_iload_n X 3 rfl dX7_shown_1 ?_
  refine wm_callVi (n := 1) (As := [.int x3]) (rest := []) X (c_X7_noLine l G tI tJ tZ ad hD x3 σ _ h) gX7_shown_X7_noLine rfl ⟨rfl, rfl⟩ (by decide +kernel) ⟨Nat.le_of_ble_eq_true rfl, Nat.le_of_ble_eq_true rfl⟩ 0 rfl rfl rfl rfl rfl (Nat.le_of_ble_eq_true rfl) dX7_shown_2 (fun r1 σ2 h => ?_)
  refine wm_if_eq (tgt := 12) X (by decide) dX7_shown_5 (fun c3 => ?_) (fun c3 => ?_)
  · replace h := h.1 c3
    refine wm_aload_n X 0 rfl dX7_shown_12 ?_
    refine wm_iload_n X 1 rfl dX7_shown_13 ?_
    refine wm_iconst (v := 0) X (by decide) dX7_shown_14 ?_
    refine wm_callVi (n := 2) (As := [.int x1, .int 0]) (rest := []) X (c_X7_noSet l G tI tJ tZ ad hD x1 0 σ2 _ h) gX7_shown_X7_noSet rfl ⟨rfl, rfl⟩ (by decide +kernel) ⟨Nat.le_of_ble_eq_true rfl, Nat.le_of_ble_eq_true rfl⟩ 0 rfl rfl rfl rfl rfl (Nat.le_of_ble_eq_true rfl) dX7_shown_15 (fun r4 σ5 h => ?_)
    refine wm_if_ne (tgt := 42) X (by decide) dX7_shown_18 (fun c6 => ?_) (fun c6 => ?_)
    · replace h := h.1 c6
      refine wm_ldc2 (v := (-102)) X (by decide +kernel) dX7_shown_42 ?_
      exact wm_lret X hr h dX7_shown_45
    · replace h := h.2 c6
      refine wm_iload_n X 2 rfl dX7_shown_21 ?_
      refine wm_i2l X dX7_shown_22 ?_
      refine wm_lconst (v := 0) X (by decide) dX7_shown_23 ?_
      refine wm_lconst (v := 1) X (by decide) dX7_shown_24 ?_
      refine wm_callSi (n := 3) (As := [.long (Int32.toInt64 x2), .long 0, .long 1]) (rest := []) X (c_X7_in l G tI tJ tZ ad hD (Int32.toInt64 x2) 0 1 σ5 _ h) gX7_shown_X7_in rfl ⟨rfl, rfl⟩ (by decide +kernel) ⟨Nat.le_of_ble_eq_true rfl, Nat.le_of_ble_eq_true rfl⟩ rfl rfl (Nat.le_of_ble_eq_true rfl) dX7_shown_25 (fun r7 σ8 h => ?_)
      refine wm_if_eq (tgt := 42) X (by decide) dX7_shown_28 (fun c9 => ?_) (fun c9 => ?_)
      · replace h := h.1 c9
        refine wm_ldc2 (v := (-102)) X (by decide +kernel) dX7_shown_42 ?_
        exact wm_lret X hr h dX7_shown_45
      · replace h := h.2 c9
        refine wm_iload X 4 rfl dX7_shown_31 ?_
        refine wm_i2l X dX7_shown_33 ?_
        refine wm_lconst (v := 0) X (by decide) dX7_shown_34 ?_
        refine wm_lconst (v := 1) X (by decide) dX7_shown_35 ?_
        refine wm_callSi (n := 3) (As := [.long (Int32.toInt64 x4), .long 0, .long 1]) (rest := []) X (c_X7_in l G tI tJ tZ ad hD (Int32.toInt64 x4) 0 1 σ8 _ h) gX7_shown_X7_in rfl ⟨rfl, rfl⟩ (by decide +kernel) ⟨Nat.le_of_ble_eq_true rfl, Nat.le_of_ble_eq_true rfl⟩ rfl rfl (Nat.le_of_ble_eq_true rfl) dX7_shown_36 (fun r10 σ11 h => ?_)
        refine wm_if_ne (tgt := 46) X (by decide) dX7_shown_39 (fun c12 => ?_) (fun c12 => ?_)
        · replace h := h.1 c12
          refine wm_aload_n X 0 rfl dX7_shown_46 ?_
          refine wm_aload_n X 0 rfl dX7_shown_47 ?_
          refine wm_callVi (n := 0) (As := []) (rest := [.ref (ad 0)]) X (c_X7_onSet l G tI tJ tZ ad hD σ11 _ h) gX7_shown_X7_onSet rfl ⟨rfl, rfl⟩ (by decide +kernel) ⟨Nat.le_of_ble_eq_true rfl, Nat.le_of_ble_eq_true rfl⟩ 0 rfl rfl rfl rfl rfl (Nat.le_of_ble_eq_true rfl) dX7_shown_48 (fun r13 σ14 h => ?_)
          refine wm_callVi (n := 1) (As := [.int r13]) (rest := []) X (c_X7_doFit l G tI tJ tZ ad hD r13 σ14 _ h) gX7_shown_X7_doFit rfl ⟨rfl, rfl⟩ (by decide +kernel) ⟨Nat.le_of_ble_eq_true rfl, Nat.le_of_ble_eq_true rfl⟩ 0 rfl rfl rfl rfl rfl (Nat.le_of_ble_eq_true rfl) dX7_shown_51 (fun r15 σ16 h => ?_)
          refine wm_if_ne (tgt := 61) X (by decide) dX7_shown_54 (fun c17 => ?_) (fun c17 => ?_)
          · replace h := h.1 c17
            refine wm_aload_n X 0 rfl dX7_shown_61 ?_
            refine wm_iload_n X 1 rfl dX7_shown_62 ?_
            refine wm_iload_n X 2 rfl dX7_shown_63 ?_
            refine wm_callVi (n := 2) (As := [.int x1, .int x2]) (rest := []) X (c_X7_isEndless l G tI tJ tZ ad hD x1 x2 σ16 _ h) gX7_shown_X7_isEndless rfl ⟨rfl, rfl⟩ (by decide +kernel) ⟨Nat.le_of_ble_eq_true rfl, Nat.le_of_ble_eq_true rfl⟩ 0 rfl rfl rfl rfl rfl (Nat.le_of_ble_eq_true rfl) dX7_shown_64 (fun r18 σ19 h => ?_)
            refine wm_if_eq (tgt := 74) X (by decide) dX7_shown_67 (fun c20 => ?_) (fun c20 => ?_)
            · replace h := h.1 c20
              refine wm_aload_n X 0 rfl dX7_shown_74 ?_
              refine wm_iload_n X 1 rfl dX7_shown_75 ?_
              refine wm_iload_n X 2 rfl dX7_shown_76 ?_
              refine wm_callVi (n := 2) (As := [.int x1, .int x2]) (rest := []) X (c_X7_find l G tI tJ tZ ad hD x1 x2 σ19 _ h) gX7_shown_X7_find rfl ⟨rfl, rfl⟩ (by decide +kernel) ⟨Nat.le_of_ble_eq_true rfl, Nat.le_of_ble_eq_true rfl⟩ 0 rfl rfl rfl rfl rfl (Nat.le_of_ble_eq_true rfl) dX7_shown_77 (fun r21 σ22 h => ?_)
              refine wm_istore (lv' := [(5, .int r21), (0, .ref (ad 0)), (1, .int x1), (2, .int x2), (3, .int x3), (4, .int x4)]) X (by decide) rfl dX7_shown_80 ?_
              refine wm_aload_n X 1 rfl dX7_shown_82 ?_
              refine wm_get X (by decide +kernel) 0 rfl rfl 14 (by decide) (by decide +kernel) rfl dX7_shown_83 ?_
              refine wm_iload_n X 4 rfl dX7_shown_86 ?_
              refine wm_lald X 9 1 rfl rfl h.1 dX7_shown_87 ?_
              replace h := h.2
              refine wm_aload_n X 1 rfl dX7_shown_88 ?_
              refine wm_get X (by decide +kernel) 0 rfl rfl 15 (by decide) (by decide +kernel) rfl dX7_shown_89 ?_
              refine wm_iload X 5 rfl dX7_shown_92 ?_
              refine wm_callSl (n := 3) (As := [.long (gB σ22 2 (Int32.toNatClampNeg x3)), .long (gL σ22 2), .int x4]) (rest := []) X (c_X7_part l G tI tJ tZ ad hD (gB σ22 2 (Int32.toNatClampNeg x3)) (gL σ22 2) x4 σ22 _ h) gX7_shown_X7_part rfl ⟨rfl, rfl⟩ (by decide +kernel) ⟨Nat.le_of_ble_eq_true rfl, Nat.le_of_ble_eq_true rfl⟩ rfl rfl (Nat.le_of_ble_eq_true rfl) dX7_shown_94 (fun r23 σ24 h => ?_)
              exact wm_lret X hr h dX7_shown_97
            · replace h := h.2 c20
              refine wm_ldc2 (v := (-105)) X (by decide +kernel) dX7_shown_70 ?_
              exact wm_lret X hr h dX7_shown_73
          · replace h := h.2 c17
            refine wm_ldc2 (v := (-103)) X (by decide +kernel) dX7_shown_57 ?_
            exact wm_lret X hr h dX7_shown_60
        · replace h := h.2 c12
          refine wm_ldc2 (v := (-102)) X (by decide +kernel) dX7_shown_42 ?_
          exact wm_lret X hr h dX7_shown_45
  · replace h := h.2 c3
    refine wm_ldc2 (v := (-101)) X (by decide +kernel) dX7_shown_8 ?_
    exact wm_lret X hr h dX7_shown_11
/-! X7_settled -/
abbrev rm_X7_settled : Room := { frames := 4, cells := 0, slots := 0, locals := 109 }
def wp_X7_settled (x1 : Int32) (σ : St) (post : Int32 → St → Prop) : Prop :=
  wp_X7_noLine x1 σ (fun r1 σ2 => (r1 = 0 → wp_X7_onSet σ2 (fun r4 σ5 => wp_X7_doFit r4 σ5 (fun r6 σ7 => (¬ r6 = 0 → wp_X7_isSettled x1 σ7 (fun r9 σ10 => (r9 = 0 → post 0 σ10) ∧ (¬ r9 = 0 → post 1 σ10))) ∧ (r6 = 0 → post (-103) σ7)))) ∧ (¬ r1 = 0 → post (-101) σ2))
set_option maxRecDepth 100000 in
set_option maxHeartbeats 4000000 in
theorem c_X7_settled (l : Launch) (G : va_G) (tI tJ tZ : ClassId) (ad : Nat → Nat) (hD : ∀ σ, va_D (Ad 11 ad) (wdM tI tJ tZ ad σ)) (x1 : Int32) (σ : St) (post : Int32 → St → Prop) (h : wp_X7_settled x1 σ post) : Ct l yX7_settled wsX7_settled rm_X7_settled G (tyL tI tJ tZ) (wdM tI tJ tZ ad) (Ad 11 ad) [.ref (ad 0), .int x1] σ (Qi G (wdM tI tJ tZ ad) (Ad 11 ad) post) := by
  refine wm_entry (cc := cX7_settled) (maxL := 2) (ret := (some .int)) (own := RX7) (lv := [(0, .ref (ad 0)), (1, .int x1)]) (by decide +kernel) rfl rfl (Nat.le_of_ble_eq_true rfl) rfl hD ?_
  intro p e s m below meth c X hr
  unfold wp_X7_settled at h
  refine wm_aload_n X 0 rfl dX7_settled_0 ?_
  refine wm_iload_n X 1 rfl dX7_settled_1 ?_
  refine wm_callVi (n := 1) (As := [.int x1]) (rest := []) X (c_X7_noLine l G tI tJ tZ ad hD x1 σ _ h) gX7_settled_X7_noLine rfl ⟨rfl, rfl⟩ (by decide +kernel) ⟨Nat.le_of_ble_eq_true rfl, Nat.le_of_ble_eq_true rfl⟩ 0 rfl rfl rfl rfl rfl (Nat.le_of_ble_eq_true rfl) dX7_settled_2 (fun r1 σ2 h => ?_)
  refine wm_if_eq (tgt := 11) X (by decide) dX7_settled_5 (fun c3 => ?_) (fun c3 => ?_)
  · replace h := h.1 c3
    refine wm_aload_n X 0 rfl dX7_settled_11 ?_
    refine wm_aload_n X 0 rfl dX7_settled_12 ?_
    refine wm_callVi (n := 0) (As := []) (rest := [.ref (ad 0)]) X (c_X7_onSet l G tI tJ tZ ad hD σ2 _ h) gX7_settled_X7_onSet rfl ⟨rfl, rfl⟩ (by decide +kernel) ⟨Nat.le_of_ble_eq_true rfl, Nat.le_of_ble_eq_true rfl⟩ 0 rfl rfl rfl rfl rfl (Nat.le_of_ble_eq_true rfl) dX7_settled_13 (fun r4 σ5 h => ?_)
    refine wm_callVi (n := 1) (As := [.int r4]) (rest := []) X (c_X7_doFit l G tI tJ tZ ad hD r4 σ5 _ h) gX7_settled_X7_doFit rfl ⟨rfl, rfl⟩ (by decide +kernel) ⟨Nat.le_of_ble_eq_true rfl, Nat.le_of_ble_eq_true rfl⟩ 0 rfl rfl rfl rfl rfl (Nat.le_of_ble_eq_true rfl) dX7_settled_16 (fun r6 σ7 h => ?_)
    refine wm_if_ne (tgt := 27) X (by decide) dX7_settled_19 (fun c8 => ?_) (fun c8 => ?_)
    · replace h := h.1 c8
      refine wm_aload_n X 0 rfl dX7_settled_27 ?_
      refine wm_iload_n X 1 rfl dX7_settled_28 ?_
      refine wm_callVi (n := 1) (As := [.int x1]) (rest := []) X (c_X7_isSettled l G tI tJ tZ ad hD x1 σ7 _ h) gX7_settled_X7_isSettled rfl ⟨rfl, rfl⟩ (by decide +kernel) ⟨Nat.le_of_ble_eq_true rfl, Nat.le_of_ble_eq_true rfl⟩ 0 rfl rfl rfl rfl rfl (Nat.le_of_ble_eq_true rfl) dX7_settled_29 (fun r9 σ10 h => ?_)
      refine wm_if_eq (tgt := 39) X (by decide) dX7_settled_32 (fun c11 => ?_) (fun c11 => ?_)
      · replace h := h.1 c11
        refine wm_iconst (v := 0) X (by decide) dX7_settled_39 ?_
        exact wm_iret X hr h dX7_settled_40
      · replace h := h.2 c11
        refine wm_iconst (v := 1) X (by decide) dX7_settled_35 ?_
        refine wm_goto (tgt := 40) X (by decide) dX7_settled_36 ?_
        exact wm_iret X hr h dX7_settled_40
    · replace h := h.2 c8
      refine wm_bipush (v := (-103)) X (by decide) dX7_settled_22 ?_
      refine wm_goto (tgt := 40) X (by decide) dX7_settled_24 ?_
      exact wm_iret X hr h dX7_settled_40
  · replace h := h.2 c3
    refine wm_bipush (v := (-101)) X (by decide) dX7_settled_8 ?_
    exact wm_iret X hr h dX7_settled_10
/-! X7_known -/
abbrev rm_X7_known : Room := { frames := 3, cells := 0, slots := 0, locals := 77 }
def wp_X7_known (x1 : Int32) (σ : St) (post : Int32 → St → Prop) : Prop :=
  wp_X7_noLine x1 σ (fun r1 σ2 => (r1 = 0 → wp_X7_isKnown x1 0 σ2 (fun r4 σ5 => (r4 = 0 → post 0 σ5) ∧ (¬ r4 = 0 → post 1 σ5))) ∧ (¬ r1 = 0 → post (-101) σ2))
set_option maxRecDepth 100000 in
set_option maxHeartbeats 4000000 in
theorem c_X7_known (l : Launch) (G : va_G) (tI tJ tZ : ClassId) (ad : Nat → Nat) (hD : ∀ σ, va_D (Ad 11 ad) (wdM tI tJ tZ ad σ)) (x1 : Int32) (σ : St) (post : Int32 → St → Prop) (h : wp_X7_known x1 σ post) : Ct l yX7_known wsX7_known rm_X7_known G (tyL tI tJ tZ) (wdM tI tJ tZ ad) (Ad 11 ad) [.ref (ad 0), .int x1] σ (Qi G (wdM tI tJ tZ ad) (Ad 11 ad) post) := by
  refine wm_entry (cc := cX7_known) (maxL := 2) (ret := (some .int)) (own := RX7) (lv := [(0, .ref (ad 0)), (1, .int x1)]) (by decide +kernel) rfl rfl (Nat.le_of_ble_eq_true rfl) rfl hD ?_
  intro p e s m below meth c X hr
  unfold wp_X7_known at h
  refine wm_aload_n X 0 rfl dX7_known_0 ?_
  refine wm_iload_n X 1 rfl dX7_known_1 ?_
  refine wm_callVi (n := 1) (As := [.int x1]) (rest := []) X (c_X7_noLine l G tI tJ tZ ad hD x1 σ _ h) gX7_known_X7_noLine rfl ⟨rfl, rfl⟩ (by decide +kernel) ⟨Nat.le_of_ble_eq_true rfl, Nat.le_of_ble_eq_true rfl⟩ 0 rfl rfl rfl rfl rfl (Nat.le_of_ble_eq_true rfl) dX7_known_2 (fun r1 σ2 h => ?_)
  refine wm_if_eq (tgt := 13) X (by decide) dX7_known_5 (fun c3 => ?_) (fun c3 => ?_)
  · replace h := h.1 c3
    refine wm_aload_n X 0 rfl dX7_known_13 ?_
    refine wm_iload_n X 1 rfl dX7_known_14 ?_
    refine wm_iconst (v := 0) X (by decide) dX7_known_15 ?_
    refine wm_callVi (n := 2) (As := [.int x1, .int 0]) (rest := []) X (c_X7_isKnown l G tI tJ tZ ad hD x1 0 σ2 _ h) gX7_known_X7_isKnown rfl ⟨rfl, rfl⟩ (by decide +kernel) ⟨Nat.le_of_ble_eq_true rfl, Nat.le_of_ble_eq_true rfl⟩ 0 rfl rfl rfl rfl rfl (Nat.le_of_ble_eq_true rfl) dX7_known_16 (fun r4 σ5 h => ?_)
    refine wm_if_eq (tgt := 26) X (by decide) dX7_known_19 (fun c6 => ?_) (fun c6 => ?_)
    · replace h := h.1 c6
      refine wm_iconst (v := 0) X (by decide) dX7_known_26 ?_
      exact wm_iret X hr h dX7_known_27
    · replace h := h.2 c6
      refine wm_iconst (v := 1) X (by decide) dX7_known_22 ?_
      refine wm_goto (tgt := 27) X (by decide) dX7_known_23 ?_
      exact wm_iret X hr h dX7_known_27
  · replace h := h.2 c3
    refine wm_bipush (v := (-101)) X (by decide) dX7_known_8 ?_
    refine wm_goto (tgt := 27) X (by decide) dX7_known_10 ?_
    exact wm_iret X hr h dX7_known_27
/-! X7_group -/
abbrev rm_X7_group : Room := { frames := 2, cells := 0, slots := 0, locals := 46 }
def wp_X7_group (x1 : Int32) (σ : St) (post : Int32 → St → Prop) : Prop :=
  wp_X7_noLine x1 σ (fun r1 σ2 => (r1 = 0 → wp_X7_groupOf x1 σ2 (fun r4 σ5 => post r4 σ5)) ∧ (¬ r1 = 0 → post (-101) σ2))
set_option maxRecDepth 100000 in
set_option maxHeartbeats 4000000 in
theorem c_X7_group (l : Launch) (G : va_G) (tI tJ tZ : ClassId) (ad : Nat → Nat) (hD : ∀ σ, va_D (Ad 11 ad) (wdM tI tJ tZ ad σ)) (x1 : Int32) (σ : St) (post : Int32 → St → Prop) (h : wp_X7_group x1 σ post) : Ct l yX7_group wsX7_group rm_X7_group G (tyL tI tJ tZ) (wdM tI tJ tZ ad) (Ad 11 ad) [.ref (ad 0), .int x1] σ (Qi G (wdM tI tJ tZ ad) (Ad 11 ad) post) := by
  refine wm_entry (cc := cX7_group) (maxL := 2) (ret := (some .int)) (own := RX7) (lv := [(0, .ref (ad 0)), (1, .int x1)]) (by decide +kernel) rfl rfl (Nat.le_of_ble_eq_true rfl) rfl hD ?_
  intro p e s m below meth c X hr
  unfold wp_X7_group at h
  refine wm_aload_n X 0 rfl dX7_group_0 ?_
  refine wm_iload_n X 1 rfl dX7_group_1 ?_
  refine wm_callVi (n := 1) (As := [.int x1]) (rest := []) X (c_X7_noLine l G tI tJ tZ ad hD x1 σ _ h) gX7_group_X7_noLine rfl ⟨rfl, rfl⟩ (by decide +kernel) ⟨Nat.le_of_ble_eq_true rfl, Nat.le_of_ble_eq_true rfl⟩ 0 rfl rfl rfl rfl rfl (Nat.le_of_ble_eq_true rfl) dX7_group_2 (fun r1 σ2 h => ?_)
  refine wm_if_eq (tgt := 13) X (by decide) dX7_group_5 (fun c3 => ?_) (fun c3 => ?_)
  · replace h := h.1 c3
    refine wm_aload_n X 0 rfl dX7_group_13 ?_
    refine wm_iload_n X 1 rfl dX7_group_14 ?_
    refine wm_callVi (n := 1) (As := [.int x1]) (rest := []) X (c_X7_groupOf l G tI tJ tZ ad hD x1 σ2 _ h) gX7_group_X7_groupOf rfl ⟨rfl, rfl⟩ (by decide +kernel) ⟨Nat.le_of_ble_eq_true rfl, Nat.le_of_ble_eq_true rfl⟩ 0 rfl rfl rfl rfl rfl (Nat.le_of_ble_eq_true rfl) dX7_group_15 (fun r4 σ5 h => ?_)
    exact wm_iret X hr h dX7_group_18
  · replace h := h.2 c3
    refine wm_bipush (v := (-101)) X (by decide) dX7_group_8 ?_
    refine wm_goto (tgt := 18) X (by decide) dX7_group_10 ?_
    exact wm_iret X hr h dX7_group_18
/-! X7_foundAt -/
abbrev rm_X7_foundAt : Room := { frames := 1, cells := 0, slots := 0, locals := 25 }
def wp_X7_foundAt (x1 : Int32) (σ : St) (post : Int32 → St → Prop) : Prop :=
  (¬ x1 = (-1) → wp_X7_in (Int32.toInt64 x1) 0 (Int32.toInt64 ((gI σ 4) - 1)) σ (fun r2 σ3 => (r2 = 0 → post (-102) σ3) ∧ (¬ r2 = 0 → vp_in x1 1024 ∧ post (gA σ3 6 (Int32.toNatClampNeg x1)) σ3))) ∧ (x1 = (-1) → post (gI σ 4) σ)
set_option maxRecDepth 100000 in
set_option maxHeartbeats 4000000 in
theorem c_X7_foundAt (l : Launch) (G : va_G) (tI tJ tZ : ClassId) (ad : Nat → Nat) (hD : ∀ σ, va_D (Ad 11 ad) (wdM tI tJ tZ ad σ)) (x1 : Int32) (σ : St) (post : Int32 → St → Prop) (h : wp_X7_foundAt x1 σ post) : Ct l yX7_foundAt wsX7_foundAt rm_X7_foundAt G (tyL tI tJ tZ) (wdM tI tJ tZ ad) (Ad 11 ad) [.ref (ad 0), .int x1] σ (Qi G (wdM tI tJ tZ ad) (Ad 11 ad) post) := by
  refine wm_entry (cc := cX7_foundAt) (maxL := 2) (ret := (some .int)) (own := RX7) (lv := [(0, .ref (ad 0)), (1, .int x1)]) (by decide +kernel) rfl rfl (Nat.le_of_ble_eq_true rfl) rfl hD ?_
  intro p e s m below meth c X hr
  unfold wp_X7_foundAt at h
  refine wm_iload_n X 1 rfl dX7_foundAt_0 ?_
  refine wm_iconst (v := (-1)) X (by decide) dX7_foundAt_1 ?_
  refine wm_icmp_ne (tgt := 12) X (by decide) dX7_foundAt_2 (fun c1 => ?_) (fun c1 => ?_)
  · replace h := h.1 c1
    refine wm_iload_n X 1 rfl dX7_foundAt_12 ?_
    refine wm_i2l X dX7_foundAt_13 ?_
    refine wm_lconst (v := 0) X (by decide) dX7_foundAt_14 ?_
    refine wm_aload_n X 0 rfl dX7_foundAt_15 ?_
    refine wm_get X (by decide +kernel) 0 rfl rfl 17 (by decide) (by decide +kernel) rfl dX7_foundAt_16 ?_
    refine wm_iconst (v := 1) X (by decide) dX7_foundAt_19 ?_
    refine wm_isub X dX7_foundAt_20 ?_
    refine wm_i2l X dX7_foundAt_21 ?_
    refine wm_callSi (n := 3) (As := [.long (Int32.toInt64 x1), .long 0, .long (Int32.toInt64 ((gI σ 4) - 1))]) (rest := []) X (c_X7_in l G tI tJ tZ ad hD (Int32.toInt64 x1) 0 (Int32.toInt64 ((gI σ 4) - 1)) σ _ h) gX7_foundAt_X7_in rfl ⟨rfl, rfl⟩ (by decide +kernel) ⟨Nat.le_of_ble_eq_true rfl, Nat.le_of_ble_eq_true rfl⟩ rfl rfl (Nat.le_of_ble_eq_true rfl) dX7_foundAt_22 (fun r2 σ3 h => ?_)
    refine wm_if_eq (tgt := 37) X (by decide) dX7_foundAt_25 (fun c4 => ?_) (fun c4 => ?_)
    · replace h := h.1 c4
      refine wm_bipush (v := (-102)) X (by decide) dX7_foundAt_37 ?_
      exact wm_iret X hr h dX7_foundAt_39
    · replace h := h.2 c4
      refine wm_aload_n X 0 rfl dX7_foundAt_28 ?_
      refine wm_get X (by decide +kernel) 0 rfl rfl 16 (by decide) (by decide +kernel) rfl dX7_foundAt_29 ?_
      refine wm_iload_n X 1 rfl dX7_foundAt_32 ?_
      refine wm_iald X 10 0 rfl rfl h.1 dX7_foundAt_33 ?_
      replace h := h.2
      refine wm_goto (tgt := 39) X (by decide) dX7_foundAt_34 ?_
      exact wm_iret X hr h dX7_foundAt_39
  · replace h := h.2 c1
    refine wm_aload_n X 0 rfl dX7_foundAt_5 ?_
    refine wm_get X (by decide +kernel) 0 rfl rfl 17 (by decide) (by decide +kernel) rfl dX7_foundAt_6 ?_
    refine wm_goto (tgt := 39) X (by decide) dX7_foundAt_9 ?_
    exact wm_iret X hr h dX7_foundAt_39
/-! X7_lying -/
abbrev rm_X7_lying : Room := { frames := 2, cells := 0, slots := 0, locals := 56 }
def lp_X7_lying_28 (post : Int32 → St → Prop) (K12 : Int32 → Int32 → Int32 → St → Prop) : Nat → Int32 → Int32 → Int32 → Int32 → St → Prop
  | 0, _, _, _, _, _ => False
  | n + 1, x1, x2, x3, x4, σ =>
  ((1 <<< ((gI σ 1) &&& 31)) ≤ x4 → ∀ v2 : Int32, v2 = x3 + 1 → K12 x1 x2 v2 σ) ∧ (¬ (1 <<< ((gI σ 1) &&& 31)) ≤ x4 → (¬ (x4 &&& (x2 ^^^ (-1))) = 0 → ∀ v5 : Int32, v5 = x4 + 1 → lp_X7_lying_28 post K12 n x1 x2 x3 v5 σ) ∧ ((x4 &&& (x2 ^^^ (-1))) = 0 → wp_X7_bits x4 σ (fun r7 σ8 => (¬ r7 = x3 → ∀ v10 : Int32, v10 = x4 + 1 → lp_X7_lying_28 post K12 n x1 x2 x3 v10 σ8) ∧ (r7 = x3 → wp_X7_doFit (x2 &&& (x4 ^^^ (-1))) σ8 (fun r12 σ13 => (r12 = 0 → ∀ v15 : Int32, v15 = x4 + 1 → lp_X7_lying_28 post K12 n x1 x2 x3 v15 σ13) ∧ (¬ r12 = 0 → vp_in (gI σ13 4) 1024 ∧ (∀ σ17 : St, σ17 = sA σ13 6 (Int32.toNatClampNeg (gI σ13 4)) x4 → ∀ σ19 : St, σ19 = sI σ17 4 ((gI σ17 4) + 1) → ∀ v21 : Int32, v21 = x4 + 1 → lp_X7_lying_28 post K12 n x1 x2 x3 v21 σ19)))))))
def lp_X7_lying_12 (post : Int32 → St → Prop)  : Nat → Int32 → Int32 → Int32 → St → Prop
  | 0, _, _, _, _ => False
  | n + 1, x1, x2, x3, σ =>
  (10 < x3 → wp_X7_foundAt x1 σ (fun r2 σ3 => post r2 σ3)) ∧ (¬ 10 < x3 → (¬ (gI σ 4) = 0 → wp_X7_foundAt x1 σ (fun r5 σ6 => post r5 σ6)) ∧ ((gI σ 4) = 0 → ∃ fu : Nat, lp_X7_lying_28 post (lp_X7_lying_12 post n) fu x1 x2 x3 0 σ))
def wp_X7_lying (x1 : Int32) (σ : St) (post : Int32 → St → Prop) : Prop :=
  wp_X7_onSet σ (fun r1 σ2 => ∀ σ3 : St, σ3 = sI σ2 4 0 → ∃ fu : Nat, lp_X7_lying_12 post fu x1 r1 0 σ3)
set_option maxRecDepth 100000 in
set_option maxHeartbeats 4000000 in
theorem w_X7_lying_28 {p : Program} {l : Launch} {e : Env} {s : State} {m : MethodId} {args : Array Value} {below : List Frame} {meth : Method} {c : Code} {G : va_G} {tI tJ tZ : ClassId} {ad : Nat → Nat} (hD : ∀ σ, va_D (Ad 11 ad) (wdM tI tJ tZ ad σ)) (X : Cx p s m args meth c cX7_lying 5 RX7 wsX7_lying G (tyL tI tJ tZ) (wdM tI tJ tZ ad) (Ad 11 ad)) (hr : meth.sig.returnType = (some .int)) {post : Int32 → St → Prop} {K12 : Int32 → Int32 → Int32 → St → Prop} (hK12 : ∀ (x1 : Int32) (x2 : Int32) (x3 : Int32) (σ : St), K12 x1 x2 x3 σ → wm p l e rm_X7_lying s m args below meth c G (wdM tI tJ tZ ad) (Ad 11 ad) 5 (MQ below (Qi G (wdM tI tJ tZ ad) (Ad 11 ad) post) args s 0 0 (Ad 11 ad)) σ [(0, .ref (ad 0)), (1, .int x1), (2, .int x2), (3, .int x3)] 12 []) : ∀ (n : Nat) (x1 : Int32) (x2 : Int32) (x3 : Int32) (x4 : Int32) (σ : St), lp_X7_lying_28 post K12 n x1 x2 x3 x4 σ → wm p l e rm_X7_lying s m args below meth c G (wdM tI tJ tZ ad) (Ad 11 ad) 5 (MQ below (Qi G (wdM tI tJ tZ ad) (Ad 11 ad) post) args s 0 0 (Ad 11 ad)) σ [(0, .ref (ad 0)), (1, .int x1), (2, .int x2), (3, .int x3), (4, .int x4)] 28 [] := by
  intro n
  induction n with
  | zero => intro x1 x2 x3 x4 σ h; exact h.elim
  | succ n ih =>
    intro x1 x2 x3 x4 σ h
    unfold lp_X7_lying_28 at h
    refine wm_iload X 4 rfl dX7_lying_28 ?_
    refine wm_iconst (v := 1) X (by decide) dX7_lying_30 ?_
    refine wm_aload_n X 0 rfl dX7_lying_31 ?_
    refine wm_get X (by decide +kernel) 0 rfl rfl 5 (by decide) (by decide +kernel) rfl dX7_lying_32 ?_
    refine wm_ishl X dX7_lying_35 ?_
    refine wm_icmp_ge (tgt := 97) X (by decide) dX7_lying_36 (fun c1 => ?_) (fun c1 => ?_)
    · replace h := h.1 c1
      obtain ⟨v2, e3⟩ : ∃ y : Int32, y = x3 + 1 := ⟨_, rfl⟩
      replace h := h v2 e3
      refine wm_iinc (v := v2) (lv' := [(3, .int v2), (0, .ref (ad 0)), (1, .int x1), (2, .int x2), (4, .int x4)]) X 3 rfl (by rw [e3]; rfl) (by decide) rfl dX7_lying_97 ?_
      clear e3
      refine wm_goto (tgt := 12) X (by decide) dX7_lying_100 ?_
      refine wm_sub [1, 2, 3, 0] (lv' := [(0, .ref (ad 0)), (1, .int x1), (2, .int x2), (3, .int v2)]) rfl ?_
      exact hK12 x1 x2 v2 σ h
    · replace h := h.2 c1
      refine wm_iload X 4 rfl dX7_lying_39 ?_
      refine wm_iload_n X 2 rfl dX7_lying_41 ?_
      refine wm_iconst (v := (-1)) X (by decide) dX7_lying_42 ?_
      refine wm_ixor X dX7_lying_43 ?_
      refine wm_iand X dX7_lying_44 ?_
      refine wm_if_ne (tgt := 91) X (by decide) dX7_lying_45 (fun c4 => ?_) (fun c4 => ?_)
      · replace h := h.1 c4
        obtain ⟨v5, e6⟩ : ∃ y : Int32, y = x4 + 1 := ⟨_, rfl⟩
        replace h := h v5 e6
        refine wm_iinc (v := v5) (lv' := [(4, .int v5), (0, .ref (ad 0)), (1, .int x1), (2, .int x2), (3, .int x3)]) X 4 rfl (by rw [e6]; rfl) (by decide) rfl dX7_lying_91 ?_
        clear e6
        refine wm_goto (tgt := 28) X (by decide) dX7_lying_94 ?_
        refine wm_sub [1, 2, 3, 4, 0] (lv' := [(0, .ref (ad 0)), (1, .int x1), (2, .int x2), (3, .int x3), (4, .int v5)]) rfl ?_
        exact ih x1 x2 x3 v5 σ h
      · replace h := h.2 c4
        refine wm_iload X 4 rfl dX7_lying_48 ?_
        refine wm_callSi (n := 1) (As := [.int x4]) (rest := []) X (c_X7_bits l G tI tJ tZ ad hD x4 σ _ h) gX7_lying_X7_bits rfl ⟨rfl, rfl⟩ (by decide +kernel) ⟨Nat.le_of_ble_eq_true rfl, Nat.le_of_ble_eq_true rfl⟩ rfl rfl (Nat.le_of_ble_eq_true rfl) dX7_lying_50 (fun r7 σ8 h => ?_)
        refine wm_iload_n X 3 rfl dX7_lying_53 ?_
        refine wm_icmp_ne (tgt := 91) X (by decide) dX7_lying_54 (fun c9 => ?_) (fun c9 => ?_)
        · replace h := h.1 c9
          obtain ⟨v10, e11⟩ : ∃ y : Int32, y = x4 + 1 := ⟨_, rfl⟩
          replace h := h v10 e11
          refine wm_iinc (v := v10) (lv' := [(4, .int v10), (0, .ref (ad 0)), (1, .int x1), (2, .int x2), (3, .int x3)]) X 4 rfl (by rw [e11]; rfl) (by decide) rfl dX7_lying_91 ?_
          clear e11
          refine wm_goto (tgt := 28) X (by decide) dX7_lying_94 ?_
          refine wm_sub [1, 2, 3, 4, 0] (lv' := [(0, .ref (ad 0)), (1, .int x1), (2, .int x2), (3, .int x3), (4, .int v10)]) rfl ?_
          exact ih x1 x2 x3 v10 σ8 h
        · replace h := h.2 c9
          refine wm_aload_n X 0 rfl dX7_lying_57 ?_
          refine wm_iload_n X 2 rfl dX7_lying_58 ?_
          refine wm_iload X 4 rfl dX7_lying_59 ?_
          refine wm_iconst (v := (-1)) X (by decide) dX7_lying_61 ?_
          refine wm_ixor X dX7_lying_62 ?_
          refine wm_iand X dX7_lying_63 ?_
          refine wm_callVi (n := 1) (As := [.int (x2 &&& (x4 ^^^ (-1)))]) (rest := []) X (c_X7_doFit l G tI tJ tZ ad hD (x2 &&& (x4 ^^^ (-1))) σ8 _ h) gX7_lying_X7_doFit rfl ⟨rfl, rfl⟩ (by decide +kernel) ⟨Nat.le_of_ble_eq_true rfl, Nat.le_of_ble_eq_true rfl⟩ 0 rfl rfl rfl rfl rfl (Nat.le_of_ble_eq_true rfl) dX7_lying_64 (fun r12 σ13 h => ?_)
          refine wm_if_eq (tgt := 91) X (by decide) dX7_lying_67 (fun c14 => ?_) (fun c14 => ?_)
          · replace h := h.1 c14
            obtain ⟨v15, e16⟩ : ∃ y : Int32, y = x4 + 1 := ⟨_, rfl⟩
            replace h := h v15 e16
            refine wm_iinc (v := v15) (lv' := [(4, .int v15), (0, .ref (ad 0)), (1, .int x1), (2, .int x2), (3, .int x3)]) X 4 rfl (by rw [e16]; rfl) (by decide) rfl dX7_lying_91 ?_
            clear e16
            refine wm_goto (tgt := 28) X (by decide) dX7_lying_94 ?_
            refine wm_sub [1, 2, 3, 4, 0] (lv' := [(0, .ref (ad 0)), (1, .int x1), (2, .int x2), (3, .int x3), (4, .int v15)]) rfl ?_
            exact ih x1 x2 x3 v15 σ13 h
          · replace h := h.2 c14
            refine wm_aload_n X 0 rfl dX7_lying_70 ?_
            refine wm_get X (by decide +kernel) 0 rfl rfl 16 (by decide) (by decide +kernel) rfl dX7_lying_71 ?_
            refine wm_aload_n X 0 rfl dX7_lying_74 ?_
            refine wm_get X (by decide +kernel) 0 rfl rfl 17 (by decide) (by decide +kernel) rfl dX7_lying_75 ?_
            refine wm_iload X 4 rfl dX7_lying_78 ?_
            refine wm_iast (σ' := sA σ13 6 (Int32.toNatClampNeg (gI σ13 4)) x4) X 10 0 rfl rfl h.1 rfl dX7_lying_80 ?_
            replace h := h.2
            refine wm_nmS (fun σ17 e18 => ?_)
            replace h := h σ17 e18
            clear e18
            refine wm_aload_n X 0 rfl dX7_lying_81 ?_
            refine wm_dup X rfl dX7_lying_82 ?_
            refine wm_get X (by decide +kernel) 0 rfl rfl 17 (by decide) (by decide +kernel) rfl dX7_lying_83 ?_
            refine wm_iconst (v := 1) X (by decide) dX7_lying_86 ?_
            refine wm_iadd X dX7_lying_87 ?_
            refine wm_put (σ' := sI σ17 4 ((gI σ17 4) + 1)) X (by decide +kernel) tyX7 tyX7_ok nmX7 0 rfl rfl 17 (by decide) (by decide +kernel) rfl (tyX7_ok 17 (by decide)) rfl rfl (Nat.le_of_ble_eq_true rfl) rfl dX7_lying_88 ?_
            refine wm_nmS (fun σ19 e20 => ?_)
            replace h := h σ19 e20
            clear e20
            obtain ⟨v21, e22⟩ : ∃ y : Int32, y = x4 + 1 := ⟨_, rfl⟩
            replace h := h v21 e22
            refine wm_iinc (v := v21) (lv' := [(4, .int v21), (0, .ref (ad 0)), (1, .int x1), (2, .int x2), (3, .int x3)]) X 4 rfl (by rw [e22]; rfl) (by decide) rfl dX7_lying_91 ?_
            clear e22
            refine wm_goto (tgt := 28) X (by decide) dX7_lying_94 ?_
            refine wm_sub [1, 2, 3, 4, 0] (lv' := [(0, .ref (ad 0)), (1, .int x1), (2, .int x2), (3, .int x3), (4, .int v21)]) rfl ?_
            exact ih x1 x2 x3 v21 σ19 h
set_option maxRecDepth 100000 in
set_option maxHeartbeats 4000000 in
theorem w_X7_lying_12 {p : Program} {l : Launch} {e : Env} {s : State} {m : MethodId} {args : Array Value} {below : List Frame} {meth : Method} {c : Code} {G : va_G} {tI tJ tZ : ClassId} {ad : Nat → Nat} (hD : ∀ σ, va_D (Ad 11 ad) (wdM tI tJ tZ ad σ)) (X : Cx p s m args meth c cX7_lying 5 RX7 wsX7_lying G (tyL tI tJ tZ) (wdM tI tJ tZ ad) (Ad 11 ad)) (hr : meth.sig.returnType = (some .int)) {post : Int32 → St → Prop}  : ∀ (n : Nat) (x1 : Int32) (x2 : Int32) (x3 : Int32) (σ : St), lp_X7_lying_12 post n x1 x2 x3 σ → wm p l e rm_X7_lying s m args below meth c G (wdM tI tJ tZ ad) (Ad 11 ad) 5 (MQ below (Qi G (wdM tI tJ tZ ad) (Ad 11 ad) post) args s 0 0 (Ad 11 ad)) σ [(0, .ref (ad 0)), (1, .int x1), (2, .int x2), (3, .int x3)] 12 [] := by
  intro n
  induction n with
  | zero => intro x1 x2 x3 σ h; exact h.elim
  | succ n ih =>
    intro x1 x2 x3 σ h
    unfold lp_X7_lying_12 at h
    refine wm_iload_n X 3 rfl dX7_lying_12 ?_
    refine wm_bipush (v := 10) X (by decide) dX7_lying_13 ?_
    refine wm_icmp_gt (tgt := 103) X (by decide) dX7_lying_15 (fun c1 => ?_) (fun c1 => ?_)
    · replace h := h.1 c1
      refine wm_aload_n X 0 rfl dX7_lying_103 ?_
      refine wm_iload_n X 1 rfl dX7_lying_104 ?_
      refine wm_callVi (n := 1) (As := [.int x1]) (rest := []) X (c_X7_foundAt l G tI tJ tZ ad hD x1 σ _ h) gX7_lying_X7_foundAt rfl ⟨rfl, rfl⟩ (by decide +kernel) ⟨Nat.le_of_ble_eq_true rfl, Nat.le_of_ble_eq_true rfl⟩ 0 rfl rfl rfl rfl rfl (Nat.le_of_ble_eq_true rfl) dX7_lying_105 (fun r2 σ3 h => ?_)
      exact wm_iret X hr h dX7_lying_108
    · replace h := h.2 c1
      refine wm_aload_n X 0 rfl dX7_lying_18 ?_
      refine wm_get X (by decide +kernel) 0 rfl rfl 17 (by decide) (by decide +kernel) rfl dX7_lying_19 ?_
      refine wm_if_ne (tgt := 103) X (by decide) dX7_lying_22 (fun c4 => ?_) (fun c4 => ?_)
      · replace h := h.1 c4
        refine wm_aload_n X 0 rfl dX7_lying_103 ?_
        refine wm_iload_n X 1 rfl dX7_lying_104 ?_
        refine wm_callVi (n := 1) (As := [.int x1]) (rest := []) X (c_X7_foundAt l G tI tJ tZ ad hD x1 σ _ h) gX7_lying_X7_foundAt rfl ⟨rfl, rfl⟩ (by decide +kernel) ⟨Nat.le_of_ble_eq_true rfl, Nat.le_of_ble_eq_true rfl⟩ 0 rfl rfl rfl rfl rfl (Nat.le_of_ble_eq_true rfl) dX7_lying_105 (fun r5 σ6 h => ?_)
        exact wm_iret X hr h dX7_lying_108
      · replace h := h.2 c4
        refine wm_iconst (v := 0) X (by decide) dX7_lying_25 ?_
        refine wm_istore (lv' := [(4, .int 0), (0, .ref (ad 0)), (1, .int x1), (2, .int x2), (3, .int x3)]) X (by decide) rfl dX7_lying_26 ?_
        refine wm_sub [1, 2, 3, 4, 0] (lv' := [(0, .ref (ad 0)), (1, .int x1), (2, .int x2), (3, .int x3), (4, .int 0)]) rfl ?_
        obtain ⟨n0, h⟩ := h
        exact w_X7_lying_28 hD X hr ih n0 x1 x2 x3 0 σ h
set_option maxRecDepth 100000 in
set_option maxHeartbeats 4000000 in
theorem c_X7_lying (l : Launch) (G : va_G) (tI tJ tZ : ClassId) (ad : Nat → Nat) (hD : ∀ σ, va_D (Ad 11 ad) (wdM tI tJ tZ ad σ)) (x1 : Int32) (σ : St) (post : Int32 → St → Prop) (h : wp_X7_lying x1 σ post) : Ct l yX7_lying wsX7_lying rm_X7_lying G (tyL tI tJ tZ) (wdM tI tJ tZ ad) (Ad 11 ad) [.ref (ad 0), .int x1] σ (Qi G (wdM tI tJ tZ ad) (Ad 11 ad) post) := by
  refine wm_entry (cc := cX7_lying) (maxL := 5) (ret := (some .int)) (own := RX7) (lv := [(0, .ref (ad 0)), (1, .int x1)]) (by decide +kernel) rfl rfl (Nat.le_of_ble_eq_true rfl) rfl hD ?_
  intro p e s m below meth c X hr
  unfold wp_X7_lying at h
  refine wm_aload_n X 0 rfl dX7_lying_0 ?_
  refine wm_callVi (n := 0) (As := []) (rest := []) X (c_X7_onSet l G tI tJ tZ ad hD σ _ h) gX7_lying_X7_onSet rfl ⟨rfl, rfl⟩ (by decide +kernel) ⟨Nat.le_of_ble_eq_true rfl, Nat.le_of_ble_eq_true rfl⟩ 0 rfl rfl rfl rfl rfl (Nat.le_of_ble_eq_true rfl) dX7_lying_1 (fun r1 σ2 h => ?_)
  refine wm_istore_n (lv' := [(2, .int r1), (0, .ref (ad 0)), (1, .int x1)]) X rfl (by decide) rfl dX7_lying_4 ?_
  refine wm_aload_n X 1 rfl dX7_lying_5 ?_
  refine wm_iconst (v := 0) X (by decide) dX7_lying_6 ?_
  refine wm_put (σ' := sI σ2 4 0) X (by decide +kernel) tyX7 tyX7_ok nmX7 0 rfl rfl 17 (by decide) (by decide +kernel) rfl (tyX7_ok 17 (by decide)) rfl rfl (Nat.le_of_ble_eq_true rfl) rfl dX7_lying_7 ?_
  refine wm_nmS (fun σ3 e4 => ?_)
  replace h := h σ3 e4
  clear e4
  refine wm_iconst (v := 0) X (by decide) dX7_lying_10 ?_
  refine wm_istore_n (lv' := [(3, .int 0), (2, .int r1), (0, .ref (ad 0)), (1, .int x1)]) X rfl (by decide) rfl dX7_lying_11 ?_
  refine wm_sub [2, 3, 1, 0] (lv' := [(0, .ref (ad 0)), (1, .int x1), (2, .int r1), (3, .int 0)]) rfl ?_
  obtain ⟨n0, h⟩ := h
  exact w_X7_lying_12 hD X hr n0 x1 r1 0 σ3 h
/-! X7_offer -/
abbrev rm_X7_offer : Room := { frames := 2, cells := 0, slots := 0, locals := 47 }
def wp_X7_offer (x1 : Int32) (σ : St) (post : Int32 → St → Prop) : Prop :=
  wp_X7_noSet x1 1 σ (fun r1 σ2 => (r1 = 0 → (¬ (gI σ2 2) = 10 → vp_in (gI σ2 2) 10 ∧ (∀ σ5 : St, σ5 = sA σ2 4 (Int32.toNatClampNeg (gI σ2 2)) x1 → ∀ σ7 : St, σ7 = sI σ5 2 ((gI σ5 2) + 1) → post ((gI σ7 2) - 1) σ7)) ∧ ((gI σ2 2) = 10 → post (-104) σ2)) ∧ (¬ r1 = 0 → post (-102) σ2))
set_option maxRecDepth 100000 in
set_option maxHeartbeats 4000000 in
theorem c_X7_offer (l : Launch) (G : va_G) (tI tJ tZ : ClassId) (ad : Nat → Nat) (hD : ∀ σ, va_D (Ad 11 ad) (wdM tI tJ tZ ad σ)) (x1 : Int32) (σ : St) (post : Int32 → St → Prop) (h : wp_X7_offer x1 σ post) : Ct l yX7_offer wsX7_offer rm_X7_offer G (tyL tI tJ tZ) (wdM tI tJ tZ ad) (Ad 11 ad) [.ref (ad 0), .int x1] σ (Qi G (wdM tI tJ tZ ad) (Ad 11 ad) post) := by
  refine wm_entry (cc := cX7_offer) (maxL := 2) (ret := (some .int)) (own := RX7) (lv := [(0, .ref (ad 0)), (1, .int x1)]) (by decide +kernel) rfl rfl (Nat.le_of_ble_eq_true rfl) rfl hD ?_
  intro p e s m below meth c X hr
  unfold wp_X7_offer at h
  refine wm_aload_n X 0 rfl dX7_offer_0 ?_
  refine wm_iload_n X 1 rfl dX7_offer_1 ?_
  refine wm_iconst (v := 1) X (by decide) dX7_offer_2 ?_
  refine wm_callVi (n := 2) (As := [.int x1, .int 1]) (rest := []) X (c_X7_noSet l G tI tJ tZ ad hD x1 1 σ _ h) gX7_offer_X7_noSet rfl ⟨rfl, rfl⟩ (by decide +kernel) ⟨Nat.le_of_ble_eq_true rfl, Nat.le_of_ble_eq_true rfl⟩ 0 rfl rfl rfl rfl rfl (Nat.le_of_ble_eq_true rfl) dX7_offer_3 (fun r1 σ2 h => ?_)
  refine wm_if_eq (tgt := 12) X (by decide) dX7_offer_6 (fun c3 => ?_) (fun c3 => ?_)
  · replace h := h.1 c3
    refine wm_aload_n X 0 rfl dX7_offer_12 ?_
    refine wm_get X (by decide +kernel) 0 rfl rfl 7 (by decide) (by decide +kernel) rfl dX7_offer_13 ?_
    refine wm_bipush (v := 10) X (by decide) dX7_offer_16 ?_
    refine wm_icmp_ne (tgt := 24) X (by decide) dX7_offer_18 (fun c4 => ?_) (fun c4 => ?_)
    · replace h := h.1 c4
      refine wm_aload_n X 0 rfl dX7_offer_24 ?_
      refine wm_get X (by decide +kernel) 0 rfl rfl 6 (by decide) (by decide +kernel) rfl dX7_offer_25 ?_
      refine wm_aload_n X 0 rfl dX7_offer_28 ?_
      refine wm_get X (by decide +kernel) 0 rfl rfl 7 (by decide) (by decide +kernel) rfl dX7_offer_29 ?_
      refine wm_iload_n X 1 rfl dX7_offer_32 ?_
      refine wm_iast (σ' := sA σ2 4 (Int32.toNatClampNeg (gI σ2 2)) x1) X 5 0 rfl rfl h.1 rfl dX7_offer_33 ?_
      replace h := h.2
      refine wm_nmS (fun σ5 e6 => ?_)
      replace h := h σ5 e6
      clear e6
      refine wm_aload_n X 0 rfl dX7_offer_34 ?_
      refine wm_dup X rfl dX7_offer_35 ?_
      refine wm_get X (by decide +kernel) 0 rfl rfl 7 (by decide) (by decide +kernel) rfl dX7_offer_36 ?_
      refine wm_iconst (v := 1) X (by decide) dX7_offer_39 ?_
      refine wm_iadd X dX7_offer_40 ?_
      refine wm_put (σ' := sI σ5 2 ((gI σ5 2) + 1)) X (by decide +kernel) tyX7 tyX7_ok nmX7 0 rfl rfl 7 (by decide) (by decide +kernel) rfl (tyX7_ok 7 (by decide)) rfl rfl (Nat.le_of_ble_eq_true rfl) rfl dX7_offer_41 ?_
      refine wm_nmS (fun σ7 e8 => ?_)
      replace h := h σ7 e8
      clear e8
      refine wm_aload_n X 0 rfl dX7_offer_44 ?_
      refine wm_get X (by decide +kernel) 0 rfl rfl 7 (by decide) (by decide +kernel) rfl dX7_offer_45 ?_
      refine wm_iconst (v := 1) X (by decide) dX7_offer_48 ?_
      refine wm_isub X dX7_offer_49 ?_
      exact wm_iret X hr h dX7_offer_50
    · replace h := h.2 c4
      refine wm_bipush (v := (-104)) X (by decide) dX7_offer_21 ?_
      exact wm_iret X hr h dX7_offer_23
  · replace h := h.2 c3
    refine wm_bipush (v := (-102)) X (by decide) dX7_offer_9 ?_
    exact wm_iret X hr h dX7_offer_11
