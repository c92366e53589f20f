/-! THE CLAIM OUT OF ONE WALK OF THE LAW'S BODY. Your part is whole_start (and what it stands on); all else here is the same for every law, but numbers. -/
def R_law : String := "EndMetersLaw"
def lw_P (b : Addr) (xs : List Int32) (args : Array Value) (s : State) : Prop := args = #[.ref b] ∧ s.IntsAt b xs ∧ xs.length ≤ 3584 ∧ (Jvm.Cond.and given_1 narrow_1).before args s = true
def lw_Q (_ : Array Value) (s : State) (o : Outcome) (t : State) : Prop := o = .returned (some (.int 1)) ∧ Framed s o t [] 33 6312
def lw_Z (below : List Frame) (a : Array Value) (s : State) : State → Prop := fun t => ∃ o, t.status = .running ∧ Ended t below o ∧ lw_Q a s o t
/-- the law's own end, with 1 on the stack, nothing written that was there before, its room as the claim has it -/
theorem lw_ret {p : Program} {l : Launch} {e : Env} {s : State} {m : MethodId} {below : List Frame} {meth : Method} {c : Code} {b : Nat} (hx : p.tables.exec = Jvm.exec) (hb : c.code = code) (hr : meth.sig.returnType = ret) (hlocks : meth.locks = false) {pc : Nat} {H : Heap} {ls : Array Slot} (hdg : decode code pc = .ok (.ireturn, 1)) : W p l e room_1 s m #[Value.ref b] below meth c H [] 33 6312 (lw_Z below #[Value.ref b] s) (F0 m pc ls [.int 1]) := by
  intro T hT X
  obtain ⟨fs, hret, hrun, hended, hW, hframe⟩ := X.leave (v := some (.int 1)) (hlocks := hlocks) (fun h => by rw [hr] at h; cases h)
  have hmeth' : T.vm.method? m = some meth := X.method'
  refine ⟨T.setFrames fs, ?_, .returned (some (.int 1)), hrun, hended, rfl, ⟨_, rfl⟩, hW, hframe⟩
  jvm_step X.here [X.here.top, hx, hb, hdg, hmeth', hr, ret, narrow_b1]
  (try refine ⟨rfl, ?_⟩); (try refine ⟨rfl, ?_⟩)
  first | (intro acts; rw [hret _ acts rfl rfl rfl]) | rw [hret _ _ rfl rfl rfl]
  exact Steps.refl _
/-- what holds at the law's entry: the machine, the code, the tables' words (any of lw_tbl by 'hts w (by decide +kernel)'), the script of L ints xs at the cell b, what the Statement gives of the start (any of its parts by flat_of_before) -/
def lw_At (p : Program) (s : State) (m : MethodId) (meth : Method) (c : Code) (b L : Nat) (xs : Nat → Int32) : Prop :=
  p.tables.exec = Jvm.exec ∧ c.code = code ∧ meth.sig.returnType = ret ∧ c.maxLocals = 4 ∧ s.vm.findClass R_law = some m.cls ∧ (∀ w ∈ lw_tbl, w.before #[Value.ref b] s = true) ∧ va_X b L xs s s.heap ∧ b < s.heap.size ∧ meth.locks = false ∧ (Jvm.Cond.and given_1 narrow_1).before #[Value.ref b] s = true

/-- what a call asks of the two states: the answers agree, and 'next' holds behind it -/
def StepOk (k a1 a2 a3 a4 a5 a6 : Int32) (σ τ : St) (next : St → St → Prop) : Prop :=
  (k = 0 → wp_X6_lines a1 σ (fun r1 σ1 => wp_X7_lines a1 τ (fun r2 τ1 => r1 = r2 ∧ next σ1 τ1))) ∧
  (k = 1 → wp_X6_way a1 a2 σ (fun r1 σ1 => wp_X7_way a1 a2 τ (fun r2 τ1 => r1 = r2 ∧ next σ1 τ1))) ∧
  (k = 2 → wp_X6_sum a1 a2 σ (fun r1 σ1 => wp_X7_sum a1 a2 τ (fun r2 τ1 => r1 = r2 ∧ next σ1 τ1))) ∧
  (k = 3 → wp_X6_over a1 a2 σ (fun r1 σ1 => wp_X7_over a1 a2 τ (fun r2 τ1 => r1 = r2 ∧ next σ1 τ1))) ∧
  (k = 4 → ∀ z : Int32, bz z → wp_X6_on a1 z σ (fun r1 σ1 => wp_X7_on a1 z τ (fun r2 τ1 => r1 = r2 ∧ next σ1 τ1))) ∧
  (k = 5 → ∀ z : Int32, bz z → wp_X6_bad a1 z σ (fun r1 σ1 => wp_X7_bad a1 z τ (fun r2 τ1 => r1 = r2 ∧ next σ1 τ1))) ∧
  (k = 6 → wp_X6_back σ (fun r1 σ1 => wp_X7_back τ (fun r2 τ1 => r1 = r2 ∧ next σ1 τ1))) ∧
  (k = 7 → wp_X6_told a1 a2 σ (fun r1 σ1 => wp_X7_told a1 a2 τ (fun r2 τ1 => r1 = r2 ∧ next σ1 τ1))) ∧
  (k = 8 → wp_X6_count a1 σ (fun r1 σ1 => wp_X7_count a1 τ (fun r2 τ1 => r1 = r2 ∧ next σ1 τ1))) ∧
  (k = 9 → wp_X6_fits σ (fun r1 σ1 => wp_X7_fits τ (fun r2 τ1 => r1 = r2 ∧ next σ1 τ1))) ∧
  (k = 10 → wp_X6_bound a1 a2 a3 σ (fun r1 σ1 => wp_X7_bound a1 a2 a3 τ (fun r2 τ1 => r1 = r2 ∧ next σ1 τ1))) ∧
  (k = 11 → wp_X6_shown a1 a2 a3 a4 σ (fun r1 σ1 => wp_X7_shown a1 a2 a3 a4 τ (fun r2 τ1 => r1 = r2 ∧ next σ1 τ1))) ∧
  (k = 12 → wp_X6_settled a1 σ (fun r1 σ1 => wp_X7_settled a1 τ (fun r2 τ1 => r1 = r2 ∧ next σ1 τ1))) ∧
  (k = 13 → wp_X6_known a1 σ (fun r1 σ1 => wp_X7_known a1 τ (fun r2 τ1 => r1 = r2 ∧ next σ1 τ1))) ∧
  (k = 14 → wp_X6_group a1 σ (fun r1 σ1 => wp_X7_group a1 τ (fun r2 τ1 => r1 = r2 ∧ next σ1 τ1))) ∧
  (k = 15 → wp_X6_lying a1 σ (fun r1 σ1 => wp_X7_lying a1 τ (fun r2 τ1 => r1 = r2 ∧ next σ1 τ1))) ∧
  (k = 16 → wp_X6_offer a1 σ (fun r1 σ1 => wp_X7_offer a1 τ (fun r2 τ1 => r1 = r2 ∧ next σ1 τ1))) ∧
  (k = 17 → wp_X6_offered a1 a2 σ (fun r1 σ1 => wp_X7_offered a1 a2 τ (fun r2 τ1 => r1 = r2 ∧ next σ1 τ1))) ∧
  (k = 18 → wp_X6_advice a1 σ (fun r1 σ1 => wp_X7_advice a1 τ (fun r2 τ1 => r1 = r2 ∧ next σ1 τ1))) ∧
  (k = 19 → wp_X6_sick a1 σ (fun r1 σ1 => wp_X7_sick a1 τ (fun r2 τ1 => r1 = r2 ∧ next σ1 τ1))) ∧
  (k = 20 → wp_X6_pair a1 a2 a3 a4 a5 a6 σ (fun r1 σ1 => wp_X7_pair a1 a2 a3 a4 a5 a6 τ (fun r2 τ1 => r1 = r2 ∧ next σ1 τ1)))
def A0 (s : State) : Nat → Prop := fun q => s.heap.size ≤ q
/-- the law's fixed things -/
def Lx (p : Program) (s : State) (m : MethodId) (meth : Method) (c : Code) (b L : Nat) (xs : Nat → Int32) (G : va_G) (tI tJ tZ : ClassId) (aC aM : Nat → Nat) : Prop :=
  p.tables.exec = Jvm.exec ∧ c.code = code ∧ c.maxLocals = 4 ∧ s.vm.findClass RL = some m.cls ∧ (∀ w ∈ wsL_law, w.before #[Value.ref b] s = true) ∧ meth.sig.returnType = ret ∧ meth.locks = false ∧ va_X b L xs s s.heap ∧ b < s.heap.size ∧ va_K G vwCl (tyL tI tJ tZ) s ∧ Nst s ∧ (∀ σ, va_D (Ad 22 aC) (wdC tI tJ tZ aC σ)) ∧ (∀ σ, va_D (Ad 11 aM) (wdM tI tJ tZ aM σ)) ∧ (∀ q, Ad 22 aC q → A0 s q) ∧ (∀ q, Ad 11 aM q → A0 s q) ∧ (∀ q, Ad 22 aC q → ¬ Ad 11 aM q)
def lm (p : Program) (l : Launch) (e : Env) (s : State) (m : MethodId) (b : Nat) (below : List Frame) (meth : Method) (c : Code) (G : va_G) (tI tJ tZ : ClassId) (aC aM : Nat → Nat) (σ τ : St) (lv : List (Nat × Value)) (pc : Nat) (st : List Value) : Prop :=
  ∀ (H : Heap) (locs : List Loc) (ls : Array Slot), va_P G vwCl (wdC tI tJ tZ aC σ) H → va_P G vwCl (wdM tI tJ tZ aM τ) H → va_S (A0 s) s.heap H locs → lv_has ls 4 lv → W p l e room_1 s m #[Value.ref b] below meth c H locs 33 6312 (lw_Z below #[Value.ref b] s) (F0 m pc ls st)
theorem adC_at {tI tJ tZ : ClassId} {ad : Nat → Nat} {σ : St} {k : Nat} {q : Nat × va_E} (h : (wdC tI tJ tZ ad σ)[k]? = some q) : k < 22 ∧ ad k = q.1 := by
  have hk : k < 22 := (List.getElem?_eq_some_iff.mp h).1
  refine ⟨hk, ?_⟩
  match k, hk, h with
  | 0, _, h => exact congrArg Prod.fst (Option.some.inj h)
  | 1, _, h => exact congrArg Prod.fst (Option.some.inj h)
  | 2, _, h => exact congrArg Prod.fst (Option.some.inj h)
  | 3, _, h => exact congrArg Prod.fst (Option.some.inj h)
  | 4, _, h => exact congrArg Prod.fst (Option.some.inj h)
  | 5, _, h => exact congrArg Prod.fst (Option.some.inj h)
  | 6, _, h => exact congrArg Prod.fst (Option.some.inj h)
  | 7, _, h => exact congrArg Prod.fst (Option.some.inj h)
  | 8, _, h => exact congrArg Prod.fst (Option.some.inj h)
  | 9, _, h => exact congrArg Prod.fst (Option.some.inj h)
  | 10, _, h => exact congrArg Prod.fst (Option.some.inj h)
  | 11, _, h => exact congrArg Prod.fst (Option.some.inj h)
  | 12, _, h => exact congrArg Prod.fst (Option.some.inj h)
  | 13, _, h => exact congrArg Prod.fst (Option.some.inj h)
  | 14, _, h => exact congrArg Prod.fst (Option.some.inj h)
  | 15, _, h => exact congrArg Prod.fst (Option.some.inj h)
  | 16, _, h => exact congrArg Prod.fst (Option.some.inj h)
  | 17, _, h => exact congrArg Prod.fst (Option.some.inj h)
  | 18, _, h => exact congrArg Prod.fst (Option.some.inj h)
  | 19, _, h => exact congrArg Prod.fst (Option.some.inj h)
  | 20, _, h => exact congrArg Prod.fst (Option.some.inj h)
  | 21, _, h => exact congrArg Prod.fst (Option.some.inj h)
theorem adM_at {tI tJ tZ : ClassId} {ad : Nat → Nat} {σ : St} {k : Nat} {q : Nat × va_E} (h : (wdM tI tJ tZ ad σ)[k]? = some q) : k < 11 ∧ ad k = q.1 := by
  have hk : k < 11 := (List.getElem?_eq_some_iff.mp h).1
  refine ⟨hk, ?_⟩
  match k, hk, h with
  | 0, _, h => exact congrArg Prod.fst (Option.some.inj h)
  | 1, _, h => exact congrArg Prod.fst (Option.some.inj h)
  | 2, _, h => exact congrArg Prod.fst (Option.some.inj h)
  | 3, _, h => exact congrArg Prod.fst (Option.some.inj h)
  | 4, _, h => exact congrArg Prod.fst (Option.some.inj h)
  | 5, _, h => exact congrArg Prod.fst (Option.some.inj h)
  | 6, _, h => exact congrArg Prod.fst (Option.some.inj h)
  | 7, _, h => exact congrArg Prod.fst (Option.some.inj h)
  | 8, _, h => exact congrArg Prod.fst (Option.some.inj h)
  | 9, _, h => exact congrArg Prod.fst (Option.some.inj h)
  | 10, _, h => exact congrArg Prod.fst (Option.some.inj h)
section LAW
variable {p : Program} {l : Launch} {e : Env} {s : State} {m : MethodId} {b : Nat} {below : List Frame} {meth : Method} {c : Code} {G : va_G} {tI tJ tZ : ClassId} {aC aM : Nat → Nat} {σ τ σ1 τ1 : St} {lv lv' : List (Nat × Value)} {pc L : Nat} {xs : Nat → Int32} {st rest : List Value}
theorem lm_iload_n (X : Lx p s m meth c b L xs G tI tJ tZ aC aM) {k : Fin 4} {x : Int32} (j : Nat) (hj : lv[j]? = some ((k : Nat), .int x)) (d : decode code pc = .ok (.iload_n k, 1)) (h : lm p l e s m b below meth c G tI tJ tZ aC aM σ τ lv (pc + 1) (.int x :: st)) : lm p l e s m b below meth c G tI tJ tZ aC aM σ τ lv pc st := fun H locs ls hC hM hS hl => lv_iload_n X.1 X.2.1 d rfl (lv_at hl j hj) (h H locs ls hC hM hS hl)
theorem lm_aload_n (X : Lx p s m meth c b L xs G tI tJ tZ aC aM) {k : Fin 4} {x : Nat} (j : Nat) (hj : lv[j]? = some ((k : Nat), .ref x)) (d : decode code pc = .ok (.aload_n k, 1)) (h : lm p l e s m b below meth c G tI tJ tZ aC aM σ τ lv (pc + 1) (.ref x :: st)) : lm p l e s m b below meth c G tI tJ tZ aC aM σ τ lv pc st := fun H locs ls hC hM hS hl => lv_aload_n X.1 X.2.1 d rfl (lv_at hl j hj) (h H locs ls hC hM hS hl)
theorem lm_iconst (X : Lx p s m meth c b L xs G tI tJ tZ aC aM) {n : Int} {v : Int32} (hv : Int32.ofInt n = v) (d : decode code pc = .ok (.iconst n, 1)) (h : lm p l e s m b below meth c G tI tJ tZ aC aM σ τ lv (pc + 1) (.int v :: st)) : lm p l e s m b below meth c G tI tJ tZ aC aM σ τ lv pc st := fun H locs ls hC hM hS hl => lv_iconst X.1 X.2.1 d hv (h H locs ls hC hM hS hl)
theorem lm_bipush (X : Lx p s m meth c b L xs G tI tJ tZ aC aM) {n : Int} {v : Int32} (hv : (Int8.ofInt n).toInt32 = v) (d : decode code pc = .ok (.bipush n, 2)) (h : lm p l e s m b below meth c G tI tJ tZ aC aM σ τ lv (pc + 2) (.int v :: st)) : lm p l e s m b below meth c G tI tJ tZ aC aM σ τ lv pc st := fun H locs ls hC hM hS hl => lv_bipush X.1 X.2.1 d hv (h H locs ls hC hM hS hl)
theorem lm_iadd (X : Lx p s m meth c b L xs G tI tJ tZ aC aM) {x y : Int32} (d : decode code pc = .ok (.iadd, 1)) (h : lm p l e s m b below meth c G tI tJ tZ aC aM σ τ lv (pc + 1) (.int (x + y) :: st)) : lm p l e s m b below meth c G tI tJ tZ aC aM σ τ lv pc (.int y :: .int x :: st) := fun H locs ls hC hM hS hl => lv_iadd X.1 X.2.1 d (h H locs ls hC hM hS hl)
theorem lm_isub (X : Lx p s m meth c b L xs G tI tJ tZ aC aM) {x y : Int32} (d : decode code pc = .ok (.isub, 1)) (h : lm p l e s m b below meth c G tI tJ tZ aC aM σ τ lv (pc + 1) (.int (x - y) :: st)) : lm p l e s m b below meth c G tI tJ tZ aC aM σ τ lv pc (.int y :: .int x :: st) := fun H locs ls hC hM hS hl => lv_isub X.1 X.2.1 d (h H locs ls hC hM hS hl)
theorem lm_iand (X : Lx p s m meth c b L xs G tI tJ tZ aC aM) {x y : Int32} (d : decode code pc = .ok (.iand, 1)) (h : lm p l e s m b below meth c G tI tJ tZ aC aM σ τ lv (pc + 1) (.int (x &&& y) :: st)) : lm p l e s m b below meth c G tI tJ tZ aC aM σ τ lv pc (.int y :: .int x :: st) := fun H locs ls hC hM hS hl => lv_iand X.1 X.2.1 d (h H locs ls hC hM hS hl)
theorem lm_lcmp (X : Lx p s m meth c b L xs G tI tJ tZ aC aM) {x y : Int64} (d : decode code pc = .ok (.lcmp, 1)) (h : lm p l e s m b below meth c G tI tJ tZ aC aM σ τ lv (pc + 1) (.int (lg_cmp x y) :: st)) : lm p l e s m b below meth c G tI tJ tZ aC aM σ τ lv pc (.long y :: .long x :: st) := fun H locs ls hC hM hS hl => W.lcmp X.1 X.2.1 d (h H locs ls hC hM hS hl)
theorem lm_goto (X : Lx p s m meth c b L xs G tI tJ tZ aC aM) {off : Int} {tgt : Nat} (ht : (pc : Int) + off = (tgt : Int)) (d : decode code pc = .ok (.goto off, 3)) (h : lm p l e s m b below meth c G tI tJ tZ aC aM σ τ lv tgt st) : lm p l e s m b below meth c G tI tJ tZ aC aM σ τ lv pc st := fun H locs ls hC hM hS hl => lv_goto X.1 X.2.1 d ht (h H locs ls hC hM hS hl)
theorem lm_if_eq (X : Lx p s m meth c b L xs G tI tJ tZ aC aM) {x : Int32} {off : Int} {tgt : Nat} (ht : (pc : Int) + off = (tgt : Int)) (d : decode code pc = .ok (.ifCond .eq off, 3)) (h1 : x = 0 → lm p l e s m b below meth c G tI tJ tZ aC aM σ τ lv tgt st) (h2 : ¬ x = 0 → lm p l e s m b below meth c G tI tJ tZ aC aM σ τ lv (pc + 3) st) : lm p l e s m b below meth c G tI tJ tZ aC aM σ τ lv pc (.int x :: st) := fun H locs ls hC hM hS hl => lv_if_eq X.1 X.2.1 d ht (fun q => h1 q H locs ls hC hM hS hl) (fun q => h2 q H locs ls hC hM hS hl)
theorem lm_icmp_eq (X : Lx p s m meth c b L xs G tI tJ tZ aC aM) {x y : Int32} {off : Int} {tgt : Nat} (ht : (pc : Int) + off = (tgt : Int)) (d : decode code pc = .ok (.if_icmp .eq off, 3)) (h1 : x = y → lm p l e s m b below meth c G tI tJ tZ aC aM σ τ lv tgt st) (h2 : ¬ x = y → lm p l e s m b below meth c G tI tJ tZ aC aM σ τ lv (pc + 3) st) : lm p l e s m b below meth c G tI tJ tZ aC aM σ τ lv pc (.int y :: .int x :: st) := fun H locs ls hC hM hS hl => lv_icmp_eq X.1 X.2.1 d ht (fun q => h1 q H locs ls hC hM hS hl) (fun q => h2 q H locs ls hC hM hS hl)
theorem lm_icmp_gt (X : Lx p s m meth c b L xs G tI tJ tZ aC aM) {x y : Int32} {off : Int} {tgt : Nat} (ht : (pc : Int) + off = (tgt : Int)) (d : decode code pc = .ok (.if_icmp .gt off, 3)) (h1 : y < x → lm p l e s m b below meth c G tI tJ tZ aC aM σ τ lv tgt st) (h2 : ¬ y < x → lm p l e s m b below meth c G tI tJ tZ aC aM σ τ lv (pc + 3) st) : lm p l e s m b below meth c G tI tJ tZ aC aM σ τ lv pc (.int y :: .int x :: st) := fun H locs ls hC hM hS hl => lv_icmp_gt X.1 X.2.1 d ht (fun q => h1 q H locs ls hC hM hS hl) (fun q => h2 q H locs ls hC hM hS hl)
theorem lm_tabOut (X : Lx p s m meth c b L xs G tI tJ tZ aC aM) {dflt lo hi : Int} {offs : Array Int} {len : Nat} {x : Int32} {tgt : Nat} (hc : x.toInt < lo ∨ hi < x.toInt) (ht : (pc : Int) + dflt = (tgt : Int)) (d : decode code pc = .ok (.tableswitch dflt lo hi offs, len)) (h : lm p l e s m b below meth c G tI tJ tZ aC aM σ τ lv tgt st) : lm p l e s m b below meth c G tI tJ tZ aC aM σ τ lv pc (.int x :: st) := fun H locs ls hC hM hS hl => lv_tableOut X.1 X.2.1 d hc ht (h H locs ls hC hM hS hl)
theorem lm_tabIn (X : Lx p s m meth c b L xs G tI tJ tZ aC aM) {dflt lo hi : Int} {offs : Array Int} {len : Nat} {x : Int32} {off : Int} {tgt : Nat} (h1 : ¬ x.toInt < lo) (h2 : ¬ hi < x.toInt) (ho : offs[(x.toInt - lo).toNat]? = some off) (ht : (pc : Int) + off = (tgt : Int)) (d : decode code pc = .ok (.tableswitch dflt lo hi offs, len)) (h : lm p l e s m b below meth c G tI tJ tZ aC aM σ τ lv tgt st) : lm p l e s m b below meth c G tI tJ tZ aC aM σ τ lv pc (.int x :: st) := fun H locs ls hC hM hS hl => lv_tableIn X.1 X.2.1 d h1 h2 ho ht (h H locs ls hC hM hS hl)
theorem lm_iinc (X : Lx p s m meth c b L xs G tI tJ tZ aC aM) {i : Nat} {n : Int} {x v : Int32} (j : Nat) (hj : lv[j]? = some (i, .int x)) (hv : x + Int32.ofInt n = v) (hn : i < 4) (hl0 : (i, Value.int v) :: lv.filter (fun q => !(q.1 == i) && !(q.1 + 1 == i && q.2.category == 2)) = lv') (d : decode code pc = .ok (.iinc i n, 3)) (h : lm p l e s m b below meth c G tI tJ tZ aC aM σ τ lv' (pc + 3) st) : lm p l e s m b below meth c G tI tJ tZ aC aM σ τ lv pc st := fun H locs ls hC hM hS hl => lv_iinc X.1 X.2.1 d hl hj hv hn hl0 (fun ls2 hl2 => h H locs ls2 hC hM hS hl2)
theorem lm_sub (ks : List Nat) (hl : lv_pick lv ks = lv') (h : lm p l e s m b below meth c G tI tJ tZ aC aM σ τ lv' pc st) : lm p l e s m b below meth c G tI tJ tZ aC aM σ τ lv pc st := fun H locs ls hC hM hS hl0 => h H locs ls hC hM hS (lv_sub hl0 ks hl)
theorem lm_sld (X : Lx p s m meth c b L xs G tI tJ tZ aC aM) {i : Int32} (hi : vp_in i L) (d : decode code pc = .ok (.iaload, 1)) (h : lm p l e s m b below meth c G tI tJ tZ aC aM σ τ lv (pc + 1) (.int (xs i.toNatClampNeg) :: st)) : lm p l e s m b below meth c G tI tJ tZ aC aM σ τ lv pc (.int i :: .ref b :: st) := fun H locs ls hC hM hS hl => va_sld X.1 X.2.1 X.2.2.2.2.2.2.2.1 X.2.2.2.2.2.2.2.2.1 (Nat.not_le.mpr X.2.2.2.2.2.2.2.2.1) hS hi d (h H locs ls hC hM hS hl)
theorem lm_slen (X : Lx p s m meth c b L xs G tI tJ tZ aC aM) (d : decode code pc = .ok (.arraylength, 1)) (h : lm p l e s m b below meth c G tI tJ tZ aC aM σ τ lv (pc + 1) (.int (Int32.ofNat L) :: st)) : lm p l e s m b below meth c G tI tJ tZ aC aM σ τ lv pc (.ref b :: st) := fun H locs ls hC hM hS hl => va_slen X.1 X.2.1 X.2.2.2.2.2.2.2.1 X.2.2.2.2.2.2.2.2.1 (Nat.not_le.mpr X.2.2.2.2.2.2.2.2.1) hS d (h H locs ls hC hM hS hl)
theorem lm_end (X : Lx p s m meth c b L xs G tI tJ tZ aC aM) (d : decode code pc = .ok (.ireturn, 1)) : lm p l e s m b below meth c G tI tJ tZ aC aM σ τ lv pc [.int 1] := fun H locs ls hC hM hS hl => va_forget (fun q hq => hS.2.2 q hq) (lw_ret X.1 X.2.1 X.2.2.2.2.2.1 X.2.2.2.2.2.2.1 d)
theorem lm_callCi (X : Lx p s m meth c b L xs G tI tJ tZ aC aM) {y : MethodName} {wy wy2 : List Cond} {rm : Room} {bytes : ByteArray} {maxL n index : Nat} {ret2 : Option FieldType} {As : List Value} {C : String} {post : Int32 → St → Prop} (hMt : Ct l y wy rm G (tyL tI tJ tZ) (wdC tI tJ tZ aC) (Ad 22 aC) (.ref (aC 0) :: As) σ (Qi G (wdC tI tJ tZ aC) (Ad 22 aC) post)) (hg : GoodIn wsL_law (wsV RL index C y wy)) (hwy : wy = Cond.code y bytes maxL ret2 :: wy2) (hrc : rm.cells = 0 ∧ rm.slots = 0) (hd : y.cls = C ∧ y.cls ≠ "java/lang/invoke/MethodHandle" ∧ y.cls ≠ "java/lang/invoke/VarHandle" ∧ (parseMethodDescriptor y.desc).map (fun d => d.parameters.length) = some n) (hR : rm.frames + 1 ≤ room_1.frames ∧ 8 + (maxL + 11) + rm.locals ≤ room_1.locals) (hq : RX6 = C) (hn : As.length = n) (hst : st = As.reverse ++ .ref (aC 0) :: rest) (hcat : (rest.map fun v => v.category).sum ≤ 8) (d : decode code pc = .ok (.invokevirtual index, 3)) (k : ∀ (r : Int32) (ρ : St), post r ρ → lm p l e s m b below meth c G tI tJ tZ aC aM ρ τ lv (pc + 3) (.int r :: rest)) : lm p l e s m b below meth c G tI tJ tZ aC aM σ τ lv pc st := fun H locs ls hC hM hS hl => by
  subst hst; subst hq
  refine va_calli (va_runV (As := As) (rest := rest) ⟨X.1, X.2.1, X.2.2.1, X.2.2.2.1, X.2.2.2.2.1⟩ hMt (cwV n X.2.2.2.2.1 hg hwy hrc.1 hrc.2 hd hR) ⟨Pre.blind, va_recv (ci := 6) (q0 := 0) X.2.2.2.2.2.2.2.2.2.1 hC rfl rfl, fun U hU hW => ⟨rfl, by rw [hU]; exact hC, va_K.moved hW.alike X.2.2.2.2.2.2.2.2.2.1, X.2.2.2.2.2.2.2.2.2.2.1.warm hW⟩⟩ rfl hn hl.1 rfl (lv_room hcat) d ⟨Nat.le_of_ble_eq_true rfl, Nat.le_of_ble_eq_true rfl⟩) hS (fun q _ h => X.2.2.2.2.2.2.2.2.2.2.2.2.2.1 q h) (fun q h => X.2.2.2.2.2.2.2.2.2.2.2.2.2.1 q h) (fun r u t H1 locs1 ht hvm hw1 hB hz1 hk1 hS1 => ?_)
  have hO := hM.kept (H1 := H1) (fun i q hq => hk1 q.1 ((hM i q hq).lt) (fun hq1 => X.2.2.2.2.2.2.2.2.2.2.2.2.2.2.2 q.1 hq1 ⟨i, (adM_at hq).1, (adM_at hq).2⟩))
  exact k r u hw1 H1 locs1 ls (ht ▸ hB) hO hS1 hl
theorem lm_callCl (X : Lx p s m meth c b L xs G tI tJ tZ aC aM) {y : MethodName} {wy wy2 : List Cond} {rm : Room} {bytes : ByteArray} {maxL n index : Nat} {ret2 : Option FieldType} {As : List Value} {C : String} {post : Int64 → St → Prop} (hMt : Ct l y wy rm G (tyL tI tJ tZ) (wdC tI tJ tZ aC) (Ad 22 aC) (.ref (aC 0) :: As) σ (Ql G (wdC tI tJ tZ aC) (Ad 22 aC) post)) (hg : GoodIn wsL_law (wsV RL index C y wy)) (hwy : wy = Cond.code y bytes maxL ret2 :: wy2) (hrc : rm.cells = 0 ∧ rm.slots = 0) (hd : y.cls = C ∧ y.cls ≠ "java/lang/invoke/MethodHandle" ∧ y.cls ≠ "java/lang/invoke/VarHandle" ∧ (parseMethodDescriptor y.desc).map (fun d => d.parameters.length) = some n) (hR : rm.frames + 1 ≤ room_1.frames ∧ 8 + (maxL + 11) + rm.locals ≤ room_1.locals) (hq : RX6 = C) (hn : As.length = n) (hst : st = As.reverse ++ .ref (aC 0) :: rest) (hcat : (rest.map fun v => v.category).sum ≤ 8) (d : decode code pc = .ok (.invokevirtual index, 3)) (k : ∀ (r : Int64) (ρ : St), post r ρ → lm p l e s m b below meth c G tI tJ tZ aC aM ρ τ lv (pc + 3) (.long r :: rest)) : lm p l e s m b below meth c G tI tJ tZ aC aM σ τ lv pc st := fun H locs ls hC hM hS hl => by
  subst hst; subst hq
  refine va_calll (va_runV (As := As) (rest := rest) ⟨X.1, X.2.1, X.2.2.1, X.2.2.2.1, X.2.2.2.2.1⟩ hMt (cwV n X.2.2.2.2.1 hg hwy hrc.1 hrc.2 hd hR) ⟨Pre.blind, va_recv (ci := 6) (q0 := 0) X.2.2.2.2.2.2.2.2.2.1 hC rfl rfl, fun U hU hW => ⟨rfl, by rw [hU]; exact hC, va_K.moved hW.alike X.2.2.2.2.2.2.2.2.2.1, X.2.2.2.2.2.2.2.2.2.2.1.warm hW⟩⟩ rfl hn hl.1 rfl (lv_room hcat) d ⟨Nat.le_of_ble_eq_true rfl, Nat.le_of_ble_eq_true rfl⟩) hS (fun q _ h => X.2.2.2.2.2.2.2.2.2.2.2.2.2.1 q h) (fun q h => X.2.2.2.2.2.2.2.2.2.2.2.2.2.1 q h) (fun r u t H1 locs1 ht hvm hw1 hB hz1 hk1 hS1 => ?_)
  have hO := hM.kept (H1 := H1) (fun i q hq => hk1 q.1 ((hM i q hq).lt) (fun hq1 => X.2.2.2.2.2.2.2.2.2.2.2.2.2.2.2 q.1 hq1 ⟨i, (adM_at hq).1, (adM_at hq).2⟩))
  exact k r u hw1 H1 locs1 ls (ht ▸ hB) hO hS1 hl
theorem lm_callMi (X : Lx p s m meth c b L xs G tI tJ tZ aC aM) {y : MethodName} {wy wy2 : List Cond} {rm : Room} {bytes : ByteArray} {maxL n index : Nat} {ret2 : Option FieldType} {As : List Value} {C : String} {post : Int32 → St → Prop} (hMt : Ct l y wy rm G (tyL tI tJ tZ) (wdM tI tJ tZ aM) (Ad 11 aM) (.ref (aM 0) :: As) τ (Qi G (wdM tI tJ tZ aM) (Ad 11 aM) post)) (hg : GoodIn wsL_law (wsV RL index C y wy)) (hwy : wy = Cond.code y bytes maxL ret2 :: wy2) (hrc : rm.cells = 0 ∧ rm.slots = 0) (hd : y.cls = C ∧ y.cls ≠ "java/lang/invoke/MethodHandle" ∧ y.cls ≠ "java/lang/invoke/VarHandle" ∧ (parseMethodDescriptor y.desc).map (fun d => d.parameters.length) = some n) (hR : rm.frames + 1 ≤ room_1.frames ∧ 8 + (maxL + 11) + rm.locals ≤ room_1.locals) (hq : RX7 = C) (hn : As.length = n) (hst : st = As.reverse ++ .ref (aM 0) :: rest) (hcat : (rest.map fun v => v.category).sum ≤ 8) (d : decode code pc = .ok (.invokevirtual index, 3)) (k : ∀ (r : Int32) (ρ : St), post r ρ → lm p l e s m b below meth c G tI tJ tZ aC aM σ ρ lv (pc + 3) (.int r :: rest)) : lm p l e s m b below meth c G tI tJ tZ aC aM σ τ lv pc st := fun H locs ls hC hM hS hl => by
  subst hst; subst hq
  refine va_calli (va_runV (As := As) (rest := rest) ⟨X.1, X.2.1, X.2.2.1, X.2.2.2.1, X.2.2.2.2.1⟩ hMt (cwV n X.2.2.2.2.1 hg hwy hrc.1 hrc.2 hd hR) ⟨Pre.blind, va_recv (ci := 7) (q0 := 0) X.2.2.2.2.2.2.2.2.2.1 hM rfl rfl, fun U hU hW => ⟨rfl, by rw [hU]; exact hM, va_K.moved hW.alike X.2.2.2.2.2.2.2.2.2.1, X.2.2.2.2.2.2.2.2.2.2.1.warm hW⟩⟩ rfl hn hl.1 rfl (lv_room hcat) d ⟨Nat.le_of_ble_eq_true rfl, Nat.le_of_ble_eq_true rfl⟩) hS (fun q _ h => X.2.2.2.2.2.2.2.2.2.2.2.2.2.2.1 q h) (fun q h => X.2.2.2.2.2.2.2.2.2.2.2.2.2.2.1 q h) (fun r u t H1 locs1 ht hvm hw1 hB hz1 hk1 hS1 => ?_)
  have hO := hC.kept (H1 := H1) (fun i q hq => hk1 q.1 ((hC i q hq).lt) (fun hq1 => X.2.2.2.2.2.2.2.2.2.2.2.2.2.2.2 q.1 ⟨i, (adC_at hq).1, (adC_at hq).2⟩ hq1))
  exact k r u hw1 H1 locs1 ls hO (ht ▸ hB) hS1 hl
theorem lm_callMl (X : Lx p s m meth c b L xs G tI tJ tZ aC aM) {y : MethodName} {wy wy2 : List Cond} {rm : Room} {bytes : ByteArray} {maxL n index : Nat} {ret2 : Option FieldType} {As : List Value} {C : String} {post : Int64 → St → Prop} (hMt : Ct l y wy rm G (tyL tI tJ tZ) (wdM tI tJ tZ aM) (Ad 11 aM) (.ref (aM 0) :: As) τ (Ql G (wdM tI tJ tZ aM) (Ad 11 aM) post)) (hg : GoodIn wsL_law (wsV RL index C y wy)) (hwy : wy = Cond.code y bytes maxL ret2 :: wy2) (hrc : rm.cells = 0 ∧ rm.slots = 0) (hd : y.cls = C ∧ y.cls ≠ "java/lang/invoke/MethodHandle" ∧ y.cls ≠ "java/lang/invoke/VarHandle" ∧ (parseMethodDescriptor y.desc).map (fun d => d.parameters.length) = some n) (hR : rm.frames + 1 ≤ room_1.frames ∧ 8 + (maxL + 11) + rm.locals ≤ room_1.locals) (hq : RX7 = C) (hn : As.length = n) (hst : st = As.reverse ++ .ref (aM 0) :: rest) (hcat : (rest.map fun v => v.category).sum ≤ 8) (d : decode code pc = .ok (.invokevirtual index, 3)) (k : ∀ (r : Int64) (ρ : St), post r ρ → lm p l e s m b below meth c G tI tJ tZ aC aM σ ρ lv (pc + 3) (.long r :: rest)) : lm p l e s m b below meth c G tI tJ tZ aC aM σ τ lv pc st := fun H locs ls hC hM hS hl => by
  subst hst; subst hq
  refine va_calll (va_runV (As := As) (rest := rest) ⟨X.1, X.2.1, X.2.2.1, X.2.2.2.1, X.2.2.2.2.1⟩ hMt (cwV n X.2.2.2.2.1 hg hwy hrc.1 hrc.2 hd hR) ⟨Pre.blind, va_recv (ci := 7) (q0 := 0) X.2.2.2.2.2.2.2.2.2.1 hM rfl rfl, fun U hU hW => ⟨rfl, by rw [hU]; exact hM, va_K.moved hW.alike X.2.2.2.2.2.2.2.2.2.1, X.2.2.2.2.2.2.2.2.2.2.1.warm hW⟩⟩ rfl hn hl.1 rfl (lv_room hcat) d ⟨Nat.le_of_ble_eq_true rfl, Nat.le_of_ble_eq_true rfl⟩) hS (fun q _ h => X.2.2.2.2.2.2.2.2.2.2.2.2.2.2.1 q h) (fun q h => X.2.2.2.2.2.2.2.2.2.2.2.2.2.2.1 q h) (fun r u t H1 locs1 ht hvm hw1 hB hz1 hk1 hS1 => ?_)
  have hO := hC.kept (H1 := H1) (fun i q hq => hk1 q.1 ((hC i q hq).lt) (fun hq1 => X.2.2.2.2.2.2.2.2.2.2.2.2.2.2.2 q.1 ⟨i, (adC_at hq).1, (adC_at hq).2⟩ hq1))
  exact k r u hw1 H1 locs1 ls hO (ht ▸ hB) hS1 hl
end LAW
set_option maxRecDepth 100000 in
set_option maxHeartbeats 4000000 in
theorem law_case_0 {p : Program} {l : Launch} {e : Env} {s : State} {m : MethodId} {b : Nat} {below : List Frame} {meth : Method} {c : Code} {G : va_G} {tI tJ tZ : ClassId} {aC aM : Nat → Nat} {σ τ : St} {L : Nat} {xs : Nat → Int32} (X : Lx p s m meth c b L xs G tI tJ tZ aC aM) {x3 : Int32} (hi : ∀ k : Int32, 0 ≤ k → k < 7 → vp_in (x3 + k) L) {next : St → St → Prop} (h : wp_X6_lines (xs (x3 + 1).toNatClampNeg) σ (fun r1 σ1 => wp_X7_lines (xs (x3 + 1).toNatClampNeg) τ (fun r2 τ1 => r1 = r2 ∧ next σ1 τ1))) (hnext : ∀ σ τ, next σ τ → lm p l e s m b below meth c G tI tJ tZ aC aM σ τ [(0, .ref b), (1, .ref (aC 0)), (2, .ref (aM 0)), (3, .int x3)] 802 []) : lm p l e s m b below meth c G tI tJ tZ aC aM σ τ [(0, .ref b), (1, .ref (aC 0)), (2, .ref (aM 0)), (3, .int x3)] 132 [] := by
  refine lm_aload_n X 1 rfl dL_law_132 ?_
  refine lm_aload_n X 0 rfl dL_law_133 ?_
  refine lm_iload_n X 3 rfl dL_law_134 ?_
  refine lm_iconst (v := 1) X (by decide) dL_law_135 ?_
  refine lm_iadd X dL_law_136 ?_
  refine lm_sld X (hi 1 (by decide) (by decide)) dL_law_137 ?_
  refine lm_callCi (n := 1) (As := [.int (xs (x3 + 1).toNatClampNeg)]) (rest := []) X (c_X6_lines l G tI tJ tZ aC X.2.2.2.2.2.2.2.2.2.2.2.1 (xs (x3 + 1).toNatClampNeg) σ _ h) gL_law_X6_lines rfl ⟨rfl, rfl⟩ (by decide +kernel) ⟨Nat.le_of_ble_eq_true rfl, Nat.le_of_ble_eq_true rfl⟩ rfl rfl rfl (Nat.le_of_ble_eq_true rfl) dL_law_138 (fun r1 σ1 h => ?_)
  refine lm_aload_n X 2 rfl dL_law_141 ?_
  refine lm_aload_n X 0 rfl dL_law_142 ?_
  refine lm_iload_n X 3 rfl dL_law_143 ?_
  refine lm_iconst (v := 1) X (by decide) dL_law_144 ?_
  refine lm_iadd X dL_law_145 ?_
  refine lm_sld X (hi 1 (by decide) (by decide)) dL_law_146 ?_
  refine lm_callMi (n := 1) (As := [.int (xs (x3 + 1).toNatClampNeg)]) (rest := [.int r1]) X (c_X7_lines l G tI tJ tZ aM X.2.2.2.2.2.2.2.2.2.2.2.2.1 (xs (x3 + 1).toNatClampNeg) τ _ h) gL_law_X7_lines rfl ⟨rfl, rfl⟩ (by decide +kernel) ⟨Nat.le_of_ble_eq_true rfl, Nat.le_of_ble_eq_true rfl⟩ rfl rfl rfl (Nat.le_of_ble_eq_true rfl) dL_law_147 (fun r2 τ1 h => ?_)
  refine lm_icmp_eq (tgt := 802) X (by decide) dL_law_150 (fun _ => ?_) (fun q => absurd h.1 q)
  exact hnext σ1 τ1 h.2
set_option maxRecDepth 100000 in
set_option maxHeartbeats 4000000 in
theorem law_case_1 {p : Program} {l : Launch} {e : Env} {s : State} {m : MethodId} {b : Nat} {below : List Frame} {meth : Method} {c : Code} {G : va_G} {tI tJ tZ : ClassId} {aC aM : Nat → Nat} {σ τ : St} {L : Nat} {xs : Nat → Int32} (X : Lx p s m meth c b L xs G tI tJ tZ aC aM) {x3 : Int32} (hi : ∀ k : Int32, 0 ≤ k → k < 7 → vp_in (x3 + k) L) {next : St → St → Prop} (h : wp_X6_way (xs (x3 + 1).toNatClampNeg) (xs (x3 + 2).toNatClampNeg) σ (fun r1 σ1 => wp_X7_way (xs (x3 + 1).toNatClampNeg) (xs (x3 + 2).toNatClampNeg) τ (fun r2 τ1 => r1 = r2 ∧ next σ1 τ1))) (hnext : ∀ σ τ, next σ τ → lm p l e s m b below meth c G tI tJ tZ aC aM σ τ [(0, .ref b), (1, .ref (aC 0)), (2, .ref (aM 0)), (3, .int x3)] 802 []) : lm p l e s m b below meth c G tI tJ tZ aC aM σ τ [(0, .ref b), (1, .ref (aC 0)), (2, .ref (aM 0)), (3, .int x3)] 155 [] := by
  refine lm_aload_n X 1 rfl dL_law_155 ?_
  refine lm_aload_n X 0 rfl dL_law_156 ?_
  refine lm_iload_n X 3 rfl dL_law_157 ?_
  refine lm_iconst (v := 1) X (by decide) dL_law_158 ?_
  refine lm_iadd X dL_law_159 ?_
  refine lm_sld X (hi 1 (by decide) (by decide)) dL_law_160 ?_
  refine lm_aload_n X 0 rfl dL_law_161 ?_
  refine lm_iload_n X 3 rfl dL_law_162 ?_
  refine lm_iconst (v := 2) X (by decide) dL_law_163 ?_
  refine lm_iadd X dL_law_164 ?_
  refine lm_sld X (hi 2 (by decide) (by decide)) dL_law_165 ?_
  refine lm_callCi (n := 2) (As := [.int (xs (x3 + 1).toNatClampNeg), .int (xs (x3 + 2).toNatClampNeg)]) (rest := []) X (c_X6_way l G tI tJ tZ aC X.2.2.2.2.2.2.2.2.2.2.2.1 (xs (x3 + 1).toNatClampNeg) (xs (x3 + 2).toNatClampNeg) σ _ h) gL_law_X6_way rfl ⟨rfl, rfl⟩ (by decide +kernel) ⟨Nat.le_of_ble_eq_true rfl, Nat.le_of_ble_eq_true rfl⟩ rfl rfl rfl (Nat.le_of_ble_eq_true rfl) dL_law_166 (fun r1 σ1 h => ?_)
  refine lm_aload_n X 2 rfl dL_law_169 ?_
  refine lm_aload_n X 0 rfl dL_law_170 ?_
  refine lm_iload_n X 3 rfl dL_law_171 ?_
  refine lm_iconst (v := 1) X (by decide) dL_law_172 ?_
  refine lm_iadd X dL_law_173 ?_
  refine lm_sld X (hi 1 (by decide) (by decide)) dL_law_174 ?_
  refine lm_aload_n X 0 rfl dL_law_175 ?_
  refine lm_iload_n X 3 rfl dL_law_176 ?_
  refine lm_iconst (v := 2) X (by decide) dL_law_177 ?_
  refine lm_iadd X dL_law_178 ?_
  refine lm_sld X (hi 2 (by decide) (by decide)) dL_law_179 ?_
  refine lm_callMi (n := 2) (As := [.int (xs (x3 + 1).toNatClampNeg), .int (xs (x3 + 2).toNatClampNeg)]) (rest := [.int r1]) X (c_X7_way l G tI tJ tZ aM X.2.2.2.2.2.2.2.2.2.2.2.2.1 (xs (x3 + 1).toNatClampNeg) (xs (x3 + 2).toNatClampNeg) τ _ h) gL_law_X7_way rfl ⟨rfl, rfl⟩ (by decide +kernel) ⟨Nat.le_of_ble_eq_true rfl, Nat.le_of_ble_eq_true rfl⟩ rfl rfl rfl (Nat.le_of_ble_eq_true rfl) dL_law_180 (fun r2 τ1 h => ?_)
  refine lm_icmp_eq (tgt := 802) X (by decide) dL_law_183 (fun _ => ?_) (fun q => absurd h.1 q)
  exact hnext σ1 τ1 h.2
set_option maxRecDepth 100000 in
set_option maxHeartbeats 4000000 in
theorem law_case_2 {p : Program} {l : Launch} {e : Env} {s : State} {m : MethodId} {b : Nat} {below : List Frame} {meth : Method} {c : Code} {G : va_G} {tI tJ tZ : ClassId} {aC aM : Nat → Nat} {σ τ : St} {L : Nat} {xs : Nat → Int32} (X : Lx p s m meth c b L xs G tI tJ tZ aC aM) {x3 : Int32} (hi : ∀ k : Int32, 0 ≤ k → k < 7 → vp_in (x3 + k) L) {next : St → St → Prop} (h : wp_X6_sum (xs (x3 + 1).toNatClampNeg) (xs (x3 + 2).toNatClampNeg) σ (fun r1 σ1 => wp_X7_sum (xs (x3 + 1).toNatClampNeg) (xs (x3 + 2).toNatClampNeg) τ (fun r2 τ1 => r1 = r2 ∧ next σ1 τ1))) (hnext : ∀ σ τ, next σ τ → lm p l e s m b below meth c G tI tJ tZ aC aM σ τ [(0, .ref b), (1, .ref (aC 0)), (2, .ref (aM 0)), (3, .int x3)] 802 []) : lm p l e s m b below meth c G tI tJ tZ aC aM σ τ [(0, .ref b), (1, .ref (aC 0)), (2, .ref (aM 0)), (3, .int x3)] 188 [] := by
  refine lm_aload_n X 1 rfl dL_law_188 ?_
  refine lm_aload_n X 0 rfl dL_law_189 ?_
  refine lm_iload_n X 3 rfl dL_law_190 ?_
  refine lm_iconst (v := 1) X (by decide) dL_law_191 ?_
  refine lm_iadd X dL_law_192 ?_
  refine lm_sld X (hi 1 (by decide) (by decide)) dL_law_193 ?_
  refine lm_aload_n X 0 rfl dL_law_194 ?_
  refine lm_iload_n X 3 rfl dL_law_195 ?_
  refine lm_iconst (v := 2) X (by decide) dL_law_196 ?_
  refine lm_iadd X dL_law_197 ?_
  refine lm_sld X (hi 2 (by decide) (by decide)) dL_law_198 ?_
  refine lm_callCi (n := 2) (As := [.int (xs (x3 + 1).toNatClampNeg), .int (xs (x3 + 2).toNatClampNeg)]) (rest := []) X (c_X6_sum l G tI tJ tZ aC X.2.2.2.2.2.2.2.2.2.2.2.1 (xs (x3 + 1).toNatClampNeg) (xs (x3 + 2).toNatClampNeg) σ _ h) gL_law_X6_sum rfl ⟨rfl, rfl⟩ (by decide +kernel) ⟨Nat.le_of_ble_eq_true rfl, Nat.le_of_ble_eq_true rfl⟩ rfl rfl rfl (Nat.le_of_ble_eq_true rfl) dL_law_199 (fun r1 σ1 h => ?_)
  refine lm_aload_n X 2 rfl dL_law_202 ?_
  refine lm_aload_n X 0 rfl dL_law_203 ?_
  refine lm_iload_n X 3 rfl dL_law_204 ?_
  refine lm_iconst (v := 1) X (by decide) dL_law_205 ?_
  refine lm_iadd X dL_law_206 ?_
  refine lm_sld X (hi 1 (by decide) (by decide)) dL_law_207 ?_
  refine lm_aload_n X 0 rfl dL_law_208 ?_
  refine lm_iload_n X 3 rfl dL_law_209 ?_
  refine lm_iconst (v := 2) X (by decide) dL_law_210 ?_
  refine lm_iadd X dL_law_211 ?_
  refine lm_sld X (hi 2 (by decide) (by decide)) dL_law_212 ?_
  refine lm_callMi (n := 2) (As := [.int (xs (x3 + 1).toNatClampNeg), .int (xs (x3 + 2).toNatClampNeg)]) (rest := [.int r1]) X (c_X7_sum l G tI tJ tZ aM X.2.2.2.2.2.2.2.2.2.2.2.2.1 (xs (x3 + 1).toNatClampNeg) (xs (x3 + 2).toNatClampNeg) τ _ h) gL_law_X7_sum rfl ⟨rfl, rfl⟩ (by decide +kernel) ⟨Nat.le_of_ble_eq_true rfl, Nat.le_of_ble_eq_true rfl⟩ rfl rfl rfl (Nat.le_of_ble_eq_true rfl) dL_law_213 (fun r2 τ1 h => ?_)
  refine lm_icmp_eq (tgt := 802) X (by decide) dL_law_216 (fun _ => ?_) (fun q => absurd h.1 q)
  exact hnext σ1 τ1 h.2
set_option maxRecDepth 100000 in
set_option maxHeartbeats 4000000 in
theorem law_case_3 {p : Program} {l : Launch} {e : Env} {s : State} {m : MethodId} {b : Nat} {below : List Frame} {meth : Method} {c : Code} {G : va_G} {tI tJ tZ : ClassId} {aC aM : Nat → Nat} {σ τ : St} {L : Nat} {xs : Nat → Int32} (X : Lx p s m meth c b L xs G tI tJ tZ aC aM) {x3 : Int32} (hi : ∀ k : Int32, 0 ≤ k → k < 7 → vp_in (x3 + k) L) {next : St → St → Prop} (h : wp_X6_over (xs (x3 + 1).toNatClampNeg) (xs (x3 + 2).toNatClampNeg) σ (fun r1 σ1 => wp_X7_over (xs (x3 + 1).toNatClampNeg) (xs (x3 + 2).toNatClampNeg) τ (fun r2 τ1 => r1 = r2 ∧ next σ1 τ1))) (hnext : ∀ σ τ, next σ τ → lm p l e s m b below meth c G tI tJ tZ aC aM σ τ [(0, .ref b), (1, .ref (aC 0)), (2, .ref (aM 0)), (3, .int x3)] 802 []) : lm p l e s m b below meth c G tI tJ tZ aC aM σ τ [(0, .ref b), (1, .ref (aC 0)), (2, .ref (aM 0)), (3, .int x3)] 221 [] := by
  refine lm_aload_n X 1 rfl dL_law_221 ?_
  refine lm_aload_n X 0 rfl dL_law_222 ?_
  refine lm_iload_n X 3 rfl dL_law_223 ?_
  refine lm_iconst (v := 1) X (by decide) dL_law_224 ?_
  refine lm_iadd X dL_law_225 ?_
  refine lm_sld X (hi 1 (by decide) (by decide)) dL_law_226 ?_
  refine lm_aload_n X 0 rfl dL_law_227 ?_
  refine lm_iload_n X 3 rfl dL_law_228 ?_
  refine lm_iconst (v := 2) X (by decide) dL_law_229 ?_
  refine lm_iadd X dL_law_230 ?_
  refine lm_sld X (hi 2 (by decide) (by decide)) dL_law_231 ?_
  refine lm_callCi (n := 2) (As := [.int (xs (x3 + 1).toNatClampNeg), .int (xs (x3 + 2).toNatClampNeg)]) (rest := []) X (c_X6_over l G tI tJ tZ aC X.2.2.2.2.2.2.2.2.2.2.2.1 (xs (x3 + 1).toNatClampNeg) (xs (x3 + 2).toNatClampNeg) σ _ h) gL_law_X6_over rfl ⟨rfl, rfl⟩ (by decide +kernel) ⟨Nat.le_of_ble_eq_true rfl, Nat.le_of_ble_eq_true rfl⟩ rfl rfl rfl (Nat.le_of_ble_eq_true rfl) dL_law_232 (fun r1 σ1 h => ?_)
  refine lm_aload_n X 2 rfl dL_law_235 ?_
  refine lm_aload_n X 0 rfl dL_law_236 ?_
  refine lm_iload_n X 3 rfl dL_law_237 ?_
  refine lm_iconst (v := 1) X (by decide) dL_law_238 ?_
  refine lm_iadd X dL_law_239 ?_
  refine lm_sld X (hi 1 (by decide) (by decide)) dL_law_240 ?_
  refine lm_aload_n X 0 rfl dL_law_241 ?_
  refine lm_iload_n X 3 rfl dL_law_242 ?_
  refine lm_iconst (v := 2) X (by decide) dL_law_243 ?_
  refine lm_iadd X dL_law_244 ?_
  refine lm_sld X (hi 2 (by decide) (by decide)) dL_law_245 ?_
  refine lm_callMi (n := 2) (As := [.int (xs (x3 + 1).toNatClampNeg), .int (xs (x3 + 2).toNatClampNeg)]) (rest := [.int r1]) X (c_X7_over l G tI tJ tZ aM X.2.2.2.2.2.2.2.2.2.2.2.2.1 (xs (x3 + 1).toNatClampNeg) (xs (x3 + 2).toNatClampNeg) τ _ h) gL_law_X7_over rfl ⟨rfl, rfl⟩ (by decide +kernel) ⟨Nat.le_of_ble_eq_true rfl, Nat.le_of_ble_eq_true rfl⟩ rfl rfl rfl (Nat.le_of_ble_eq_true rfl) dL_law_246 (fun r2 τ1 h => ?_)
  refine lm_icmp_eq (tgt := 802) X (by decide) dL_law_249 (fun _ => ?_) (fun q => absurd h.1 q)
  exact hnext σ1 τ1 h.2
set_option maxRecDepth 100000 in
set_option maxHeartbeats 4000000 in
theorem law_case_4 {p : Program} {l : Launch} {e : Env} {s : State} {m : MethodId} {b : Nat} {below : List Frame} {meth : Method} {c : Code} {G : va_G} {tI tJ tZ : ClassId} {aC aM : Nat → Nat} {σ τ : St} {L : Nat} {xs : Nat → Int32} (X : Lx p s m meth c b L xs G tI tJ tZ aC aM) {x3 : Int32} (hi : ∀ k : Int32, 0 ≤ k → k < 7 → vp_in (x3 + k) L) {next : St → St → Prop} (h : ∀ z : Int32, bz z → wp_X6_on (xs (x3 + 1).toNatClampNeg) z σ (fun r1 σ1 => wp_X7_on (xs (x3 + 1).toNatClampNeg) z τ (fun r2 τ1 => r1 = r2 ∧ next σ1 τ1))) (hnext : ∀ σ τ, next σ τ → lm p l e s m b below meth c G tI tJ tZ aC aM σ τ [(0, .ref b), (1, .ref (aC 0)), (2, .ref (aM 0)), (3, .int x3)] 802 []) : lm p l e s m b below meth c G tI tJ tZ aC aM σ τ [(0, .ref b), (1, .ref (aC 0)), (2, .ref (aM 0)), (3, .int x3)] 254 [] := by
  refine lm_aload_n X 1 rfl dL_law_254 ?_
  refine lm_aload_n X 0 rfl dL_law_255 ?_
  refine lm_iload_n X 3 rfl dL_law_256 ?_
  refine lm_iconst (v := 1) X (by decide) dL_law_257 ?_
  refine lm_iadd X dL_law_258 ?_
  refine lm_sld X (hi 1 (by decide) (by decide)) dL_law_259 ?_
  refine lm_aload_n X 0 rfl dL_law_260 ?_
  refine lm_iload_n X 3 rfl dL_law_261 ?_
  refine lm_iconst (v := 2) X (by decide) dL_law_262 ?_
  refine lm_iadd X dL_law_263 ?_
  refine lm_sld X (hi 2 (by decide) (by decide)) dL_law_264 ?_
  refine lm_if_eq (tgt := 272) X (by decide) dL_law_265 (fun c0 => ?_) (fun c0 => ?_)
  · replace h := h 0 bz_0
    refine lm_iconst (v := 0) X (by decide) dL_law_272 ?_
    refine lm_callCi (n := 2) (As := [.int (xs (x3 + 1).toNatClampNeg), .int 0]) (rest := []) X (c_X6_on l G tI tJ tZ aC X.2.2.2.2.2.2.2.2.2.2.2.1 (xs (x3 + 1).toNatClampNeg) 0 σ _ h) gL_law_X6_on rfl ⟨rfl, rfl⟩ (by decide +kernel) ⟨Nat.le_of_ble_eq_true rfl, Nat.le_of_ble_eq_true rfl⟩ rfl rfl rfl (Nat.le_of_ble_eq_true rfl) dL_law_273 (fun r1 σ1 h => ?_)
    refine lm_aload_n X 2 rfl dL_law_276 ?_
    refine lm_aload_n X 0 rfl dL_law_277 ?_
    refine lm_iload_n X 3 rfl dL_law_278 ?_
    refine lm_iconst (v := 1) X (by decide) dL_law_279 ?_
    refine lm_iadd X dL_law_280 ?_
    refine lm_sld X (hi 1 (by decide) (by decide)) dL_law_281 ?_
    refine lm_aload_n X 0 rfl dL_law_282 ?_
    refine lm_iload_n X 3 rfl dL_law_283 ?_
    refine lm_iconst (v := 2) X (by decide) dL_law_284 ?_
    refine lm_iadd X dL_law_285 ?_
    refine lm_sld X (hi 2 (by decide) (by decide)) dL_law_286 ?_
    refine lm_if_eq (tgt := 294) X (by decide) dL_law_287 (fun _ => ?_) (fun q => absurd c0 q)
    refine lm_iconst (v := 0) X (by decide) dL_law_294 ?_
    refine lm_callMi (n := 2) (As := [.int (xs (x3 + 1).toNatClampNeg), .int 0]) (rest := [.int r1]) X (c_X7_on l G tI tJ tZ aM X.2.2.2.2.2.2.2.2.2.2.2.2.1 (xs (x3 + 1).toNatClampNeg) 0 τ _ h) gL_law_X7_on rfl ⟨rfl, rfl⟩ (by decide +kernel) ⟨Nat.le_of_ble_eq_true rfl, Nat.le_of_ble_eq_true rfl⟩ rfl rfl rfl (Nat.le_of_ble_eq_true rfl) dL_law_295 (fun r2 τ1 h => ?_)
    refine lm_icmp_eq (tgt := 802) X (by decide) dL_law_298 (fun _ => ?_) (fun q => absurd h.1 q)
    exact hnext σ1 τ1 h.2
  · replace h := h 1 bz_1
    refine lm_iconst (v := 1) X (by decide) dL_law_268 ?_
    refine lm_goto (tgt := 273) X (by decide) dL_law_269 ?_
    refine lm_callCi (n := 2) (As := [.int (xs (x3 + 1).toNatClampNeg), .int 1]) (rest := []) X (c_X6_on l G tI tJ tZ aC X.2.2.2.2.2.2.2.2.2.2.2.1 (xs (x3 + 1).toNatClampNeg) 1 σ _ h) gL_law_X6_on rfl ⟨rfl, rfl⟩ (by decide +kernel) ⟨Nat.le_of_ble_eq_true rfl, Nat.le_of_ble_eq_true rfl⟩ rfl rfl rfl (Nat.le_of_ble_eq_true rfl) dL_law_273 (fun r1 σ1 h => ?_)
    refine lm_aload_n X 2 rfl dL_law_276 ?_
    refine lm_aload_n X 0 rfl dL_law_277 ?_
    refine lm_iload_n X 3 rfl dL_law_278 ?_
    refine lm_iconst (v := 1) X (by decide) dL_law_279 ?_
    refine lm_iadd X dL_law_280 ?_
    refine lm_sld X (hi 1 (by decide) (by decide)) dL_law_281 ?_
    refine lm_aload_n X 0 rfl dL_law_282 ?_
    refine lm_iload_n X 3 rfl dL_law_283 ?_
    refine lm_iconst (v := 2) X (by decide) dL_law_284 ?_
    refine lm_iadd X dL_law_285 ?_
    refine lm_sld X (hi 2 (by decide) (by decide)) dL_law_286 ?_
    refine lm_if_eq (tgt := 294) X (by decide) dL_law_287 (fun q => absurd q c0) (fun _ => ?_)
    refine lm_iconst (v := 1) X (by decide) dL_law_290 ?_
    refine lm_goto (tgt := 295) X (by decide) dL_law_291 ?_
    refine lm_callMi (n := 2) (As := [.int (xs (x3 + 1).toNatClampNeg), .int 1]) (rest := [.int r1]) X (c_X7_on l G tI tJ tZ aM X.2.2.2.2.2.2.2.2.2.2.2.2.1 (xs (x3 + 1).toNatClampNeg) 1 τ _ h) gL_law_X7_on rfl ⟨rfl, rfl⟩ (by decide +kernel) ⟨Nat.le_of_ble_eq_true rfl, Nat.le_of_ble_eq_true rfl⟩ rfl rfl rfl (Nat.le_of_ble_eq_true rfl) dL_law_295 (fun r2 τ1 h => ?_)
    refine lm_icmp_eq (tgt := 802) X (by decide) dL_law_298 (fun _ => ?_) (fun q => absurd h.1 q)
    exact hnext σ1 τ1 h.2
set_option maxRecDepth 100000 in
set_option maxHeartbeats 4000000 in
theorem law_case_5 {p : Program} {l : Launch} {e : Env} {s : State} {m : MethodId} {b : Nat} {below : List Frame} {meth : Method} {c : Code} {G : va_G} {tI tJ tZ : ClassId} {aC aM : Nat → Nat} {σ τ : St} {L : Nat} {xs : Nat → Int32} (X : Lx p s m meth c b L xs G tI tJ tZ aC aM) {x3 : Int32} (hi : ∀ k : Int32, 0 ≤ k → k < 7 → vp_in (x3 + k) L) {next : St → St → Prop} (h : ∀ z : Int32, bz z → wp_X6_bad (xs (x3 + 1).toNatClampNeg) z σ (fun r1 σ1 => wp_X7_bad (xs (x3 + 1).toNatClampNeg) z τ (fun r2 τ1 => r1 = r2 ∧ next σ1 τ1))) (hnext : ∀ σ τ, next σ τ → lm p l e s m b below meth c G tI tJ tZ aC aM σ τ [(0, .ref b), (1, .ref (aC 0)), (2, .ref (aM 0)), (3, .int x3)] 802 []) : lm p l e s m b below meth c G tI tJ tZ aC aM σ τ [(0, .ref b), (1, .ref (aC 0)), (2, .ref (aM 0)), (3, .int x3)] 303 [] := by
  refine lm_aload_n X 1 rfl dL_law_303 ?_
  refine lm_aload_n X 0 rfl dL_law_304 ?_
  refine lm_iload_n X 3 rfl dL_law_305 ?_
  refine lm_iconst (v := 1) X (by decide) dL_law_306 ?_
  refine lm_iadd X dL_law_307 ?_
  refine lm_sld X (hi 1 (by decide) (by decide)) dL_law_308 ?_
  refine lm_aload_n X 0 rfl dL_law_309 ?_
  refine lm_iload_n X 3 rfl dL_law_310 ?_
  refine lm_iconst (v := 2) X (by decide) dL_law_311 ?_
  refine lm_iadd X dL_law_312 ?_
  refine lm_sld X (hi 2 (by decide) (by decide)) dL_law_313 ?_
  refine lm_if_eq (tgt := 321) X (by decide) dL_law_314 (fun c0 => ?_) (fun c0 => ?_)
  · replace h := h 0 bz_0
    refine lm_iconst (v := 0) X (by decide) dL_law_321 ?_
    refine lm_callCi (n := 2) (As := [.int (xs (x3 + 1).toNatClampNeg), .int 0]) (rest := []) X (c_X6_bad l G tI tJ tZ aC X.2.2.2.2.2.2.2.2.2.2.2.1 (xs (x3 + 1).toNatClampNeg) 0 σ _ h) gL_law_X6_bad rfl ⟨rfl, rfl⟩ (by decide +kernel) ⟨Nat.le_of_ble_eq_true rfl, Nat.le_of_ble_eq_true rfl⟩ rfl rfl rfl (Nat.le_of_ble_eq_true rfl) dL_law_322 (fun r1 σ1 h => ?_)
    refine lm_aload_n X 2 rfl dL_law_325 ?_
    refine lm_aload_n X 0 rfl dL_law_326 ?_
    refine lm_iload_n X 3 rfl dL_law_327 ?_
    refine lm_iconst (v := 1) X (by decide) dL_law_328 ?_
    refine lm_iadd X dL_law_329 ?_
    refine lm_sld X (hi 1 (by decide) (by decide)) dL_law_330 ?_
    refine lm_aload_n X 0 rfl dL_law_331 ?_
    refine lm_iload_n X 3 rfl dL_law_332 ?_
    refine lm_iconst (v := 2) X (by decide) dL_law_333 ?_
    refine lm_iadd X dL_law_334 ?_
    refine lm_sld X (hi 2 (by decide) (by decide)) dL_law_335 ?_
    refine lm_if_eq (tgt := 343) X (by decide) dL_law_336 (fun _ => ?_) (fun q => absurd c0 q)
    refine lm_iconst (v := 0) X (by decide) dL_law_343 ?_
    refine lm_callMi (n := 2) (As := [.int (xs (x3 + 1).toNatClampNeg), .int 0]) (rest := [.int r1]) X (c_X7_bad l G tI tJ tZ aM X.2.2.2.2.2.2.2.2.2.2.2.2.1 (xs (x3 + 1).toNatClampNeg) 0 τ _ h) gL_law_X7_bad rfl ⟨rfl, rfl⟩ (by decide +kernel) ⟨Nat.le_of_ble_eq_true rfl, Nat.le_of_ble_eq_true rfl⟩ rfl rfl rfl (Nat.le_of_ble_eq_true rfl) dL_law_344 (fun r2 τ1 h => ?_)
    refine lm_icmp_eq (tgt := 802) X (by decide) dL_law_347 (fun _ => ?_) (fun q => absurd h.1 q)
    exact hnext σ1 τ1 h.2
  · replace h := h 1 bz_1
    refine lm_iconst (v := 1) X (by decide) dL_law_317 ?_
    refine lm_goto (tgt := 322) X (by decide) dL_law_318 ?_
    refine lm_callCi (n := 2) (As := [.int (xs (x3 + 1).toNatClampNeg), .int 1]) (rest := []) X (c_X6_bad l G tI tJ tZ aC X.2.2.2.2.2.2.2.2.2.2.2.1 (xs (x3 + 1).toNatClampNeg) 1 σ _ h) gL_law_X6_bad rfl ⟨rfl, rfl⟩ (by decide +kernel) ⟨Nat.le_of_ble_eq_true rfl, Nat.le_of_ble_eq_true rfl⟩ rfl rfl rfl (Nat.le_of_ble_eq_true rfl) dL_law_322 (fun r1 σ1 h => ?_)
    refine lm_aload_n X 2 rfl dL_law_325 ?_
    refine lm_aload_n X 0 rfl dL_law_326 ?_
    refine lm_iload_n X 3 rfl dL_law_327 ?_
    refine lm_iconst (v := 1) X (by decide) dL_law_328 ?_
    refine lm_iadd X dL_law_329 ?_
    refine lm_sld X (hi 1 (by decide) (by decide)) dL_law_330 ?_
    refine lm_aload_n X 0 rfl dL_law_331 ?_
    refine lm_iload_n X 3 rfl dL_law_332 ?_
    refine lm_iconst (v := 2) X (by decide) dL_law_333 ?_
    refine lm_iadd X dL_law_334 ?_
    refine lm_sld X (hi 2 (by decide) (by decide)) dL_law_335 ?_
    refine lm_if_eq (tgt := 343) X (by decide) dL_law_336 (fun q => absurd q c0) (fun _ => ?_)
    refine lm_iconst (v := 1) X (by decide) dL_law_339 ?_
    refine lm_goto (tgt := 344) X (by decide) dL_law_340 ?_
    refine lm_callMi (n := 2) (As := [.int (xs (x3 + 1).toNatClampNeg), .int 1]) (rest := [.int r1]) X (c_X7_bad l G tI tJ tZ aM X.2.2.2.2.2.2.2.2.2.2.2.2.1 (xs (x3 + 1).toNatClampNeg) 1 τ _ h) gL_law_X7_bad rfl ⟨rfl, rfl⟩ (by decide +kernel) ⟨Nat.le_of_ble_eq_true rfl, Nat.le_of_ble_eq_true rfl⟩ rfl rfl rfl (Nat.le_of_ble_eq_true rfl) dL_law_344 (fun r2 τ1 h => ?_)
    refine lm_icmp_eq (tgt := 802) X (by decide) dL_law_347 (fun _ => ?_) (fun q => absurd h.1 q)
    exact hnext σ1 τ1 h.2
set_option maxRecDepth 100000 in
set_option maxHeartbeats 4000000 in
theorem law_case_6 {p : Program} {l : Launch} {e : Env} {s : State} {m : MethodId} {b : Nat} {below : List Frame} {meth : Method} {c : Code} {G : va_G} {tI tJ tZ : ClassId} {aC aM : Nat → Nat} {σ τ : St} {L : Nat} {xs : Nat → Int32} (X : Lx p s m meth c b L xs G tI tJ tZ aC aM) {x3 : Int32} (hi : ∀ k : Int32, 0 ≤ k → k < 7 → vp_in (x3 + k) L) {next : St → St → Prop} (h : wp_X6_back σ (fun r1 σ1 => wp_X7_back τ (fun r2 τ1 => r1 = r2 ∧ next σ1 τ1))) (hnext : ∀ σ τ, next σ τ → lm p l e s m b below meth c G tI tJ tZ aC aM σ τ [(0, .ref b), (1, .ref (aC 0)), (2, .ref (aM 0)), (3, .int x3)] 802 []) : lm p l e s m b below meth c G tI tJ tZ aC aM σ τ [(0, .ref b), (1, .ref (aC 0)), (2, .ref (aM 0)), (3, .int x3)] 352 [] := by
  refine lm_aload_n X 1 rfl dL_law_352 ?_
  refine lm_callCi (n := 0) (As := []) (rest := []) X (c_X6_back l G tI tJ tZ aC X.2.2.2.2.2.2.2.2.2.2.2.1 σ _ h) gL_law_X6_back rfl ⟨rfl, rfl⟩ (by decide +kernel) ⟨Nat.le_of_ble_eq_true rfl, Nat.le_of_ble_eq_true rfl⟩ rfl rfl rfl (Nat.le_of_ble_eq_true rfl) dL_law_353 (fun r1 σ1 h => ?_)
  refine lm_aload_n X 2 rfl dL_law_356 ?_
  refine lm_callMi (n := 0) (As := []) (rest := [.int r1]) X (c_X7_back l G tI tJ tZ aM X.2.2.2.2.2.2.2.2.2.2.2.2.1 τ _ h) gL_law_X7_back rfl ⟨rfl, rfl⟩ (by decide +kernel) ⟨Nat.le_of_ble_eq_true rfl, Nat.le_of_ble_eq_true rfl⟩ rfl rfl rfl (Nat.le_of_ble_eq_true rfl) dL_law_357 (fun r2 τ1 h => ?_)
  refine lm_icmp_eq (tgt := 802) X (by decide) dL_law_360 (fun _ => ?_) (fun q => absurd h.1 q)
  exact hnext σ1 τ1 h.2
set_option maxRecDepth 100000 in
set_option maxHeartbeats 4000000 in
theorem law_case_7 {p : Program} {l : Launch} {e : Env} {s : State} {m : MethodId} {b : Nat} {below : List Frame} {meth : Method} {c : Code} {G : va_G} {tI tJ tZ : ClassId} {aC aM : Nat → Nat} {σ τ : St} {L : Nat} {xs : Nat → Int32} (X : Lx p s m meth c b L xs G tI tJ tZ aC aM) {x3 : Int32} (hi : ∀ k : Int32, 0 ≤ k → k < 7 → vp_in (x3 + k) L) {next : St → St → Prop} (h : wp_X6_told (xs (x3 + 1).toNatClampNeg) (xs (x3 + 2).toNatClampNeg) σ (fun r1 σ1 => wp_X7_told (xs (x3 + 1).toNatClampNeg) (xs (x3 + 2).toNatClampNeg) τ (fun r2 τ1 => r1 = r2 ∧ next σ1 τ1))) (hnext : ∀ σ τ, next σ τ → lm p l e s m b below meth c G tI tJ tZ aC aM σ τ [(0, .ref b), (1, .ref (aC 0)), (2, .ref (aM 0)), (3, .int x3)] 802 []) : lm p l e s m b below meth c G tI tJ tZ aC aM σ τ [(0, .ref b), (1, .ref (aC 0)), (2, .ref (aM 0)), (3, .int x3)] 365 [] := by
  refine lm_aload_n X 1 rfl dL_law_365 ?_
  refine lm_aload_n X 0 rfl dL_law_366 ?_
  refine lm_iload_n X 3 rfl dL_law_367 ?_
  refine lm_iconst (v := 1) X (by decide) dL_law_368 ?_
  refine lm_iadd X dL_law_369 ?_
  refine lm_sld X (hi 1 (by decide) (by decide)) dL_law_370 ?_
  refine lm_aload_n X 0 rfl dL_law_371 ?_
  refine lm_iload_n X 3 rfl dL_law_372 ?_
  refine lm_iconst (v := 2) X (by decide) dL_law_373 ?_
  refine lm_iadd X dL_law_374 ?_
  refine lm_sld X (hi 2 (by decide) (by decide)) dL_law_375 ?_
  refine lm_callCi (n := 2) (As := [.int (xs (x3 + 1).toNatClampNeg), .int (xs (x3 + 2).toNatClampNeg)]) (rest := []) X (c_X6_told l G tI tJ tZ aC X.2.2.2.2.2.2.2.2.2.2.2.1 (xs (x3 + 1).toNatClampNeg) (xs (x3 + 2).toNatClampNeg) σ _ h) gL_law_X6_told rfl ⟨rfl, rfl⟩ (by decide +kernel) ⟨Nat.le_of_ble_eq_true rfl, Nat.le_of_ble_eq_true rfl⟩ rfl rfl rfl (Nat.le_of_ble_eq_true rfl) dL_law_376 (fun r1 σ1 h => ?_)
  refine lm_aload_n X 2 rfl dL_law_379 ?_
  refine lm_aload_n X 0 rfl dL_law_380 ?_
  refine lm_iload_n X 3 rfl dL_law_381 ?_
  refine lm_iconst (v := 1) X (by decide) dL_law_382 ?_
  refine lm_iadd X dL_law_383 ?_
  refine lm_sld X (hi 1 (by decide) (by decide)) dL_law_384 ?_
  refine lm_aload_n X 0 rfl dL_law_385 ?_
  refine lm_iload_n X 3 rfl dL_law_386 ?_
  refine lm_iconst (v := 2) X (by decide) dL_law_387 ?_
  refine lm_iadd X dL_law_388 ?_
  refine lm_sld X (hi 2 (by decide) (by decide)) dL_law_389 ?_
  refine lm_callMi (n := 2) (As := [.int (xs (x3 + 1).toNatClampNeg), .int (xs (x3 + 2).toNatClampNeg)]) (rest := [.int r1]) X (c_X7_told l G tI tJ tZ aM X.2.2.2.2.2.2.2.2.2.2.2.2.1 (xs (x3 + 1).toNatClampNeg) (xs (x3 + 2).toNatClampNeg) τ _ h) gL_law_X7_told rfl ⟨rfl, rfl⟩ (by decide +kernel) ⟨Nat.le_of_ble_eq_true rfl, Nat.le_of_ble_eq_true rfl⟩ rfl rfl rfl (Nat.le_of_ble_eq_true rfl) dL_law_390 (fun r2 τ1 h => ?_)
  refine lm_icmp_eq (tgt := 802) X (by decide) dL_law_393 (fun _ => ?_) (fun q => absurd h.1 q)
  exact hnext σ1 τ1 h.2
set_option maxRecDepth 100000 in
set_option maxHeartbeats 4000000 in
theorem law_case_8 {p : Program} {l : Launch} {e : Env} {s : State} {m : MethodId} {b : Nat} {below : List Frame} {meth : Method} {c : Code} {G : va_G} {tI tJ tZ : ClassId} {aC aM : Nat → Nat} {σ τ : St} {L : Nat} {xs : Nat → Int32} (X : Lx p s m meth c b L xs G tI tJ tZ aC aM) {x3 : Int32} (hi : ∀ k : Int32, 0 ≤ k → k < 7 → vp_in (x3 + k) L) {next : St → St → Prop} (h : wp_X6_count (xs (x3 + 1).toNatClampNeg) σ (fun r1 σ1 => wp_X7_count (xs (x3 + 1).toNatClampNeg) τ (fun r2 τ1 => r1 = r2 ∧ next σ1 τ1))) (hnext : ∀ σ τ, next σ τ → lm p l e s m b below meth c G tI tJ tZ aC aM σ τ [(0, .ref b), (1, .ref (aC 0)), (2, .ref (aM 0)), (3, .int x3)] 802 []) : lm p l e s m b below meth c G tI tJ tZ aC aM σ τ [(0, .ref b), (1, .ref (aC 0)), (2, .ref (aM 0)), (3, .int x3)] 398 [] := by
  refine lm_aload_n X 1 rfl dL_law_398 ?_
  refine lm_aload_n X 0 rfl dL_law_399 ?_
  refine lm_iload_n X 3 rfl dL_law_400 ?_
  refine lm_iconst (v := 1) X (by decide) dL_law_401 ?_
  refine lm_iadd X dL_law_402 ?_
  refine lm_sld X (hi 1 (by decide) (by decide)) dL_law_403 ?_
  refine lm_callCi (n := 1) (As := [.int (xs (x3 + 1).toNatClampNeg)]) (rest := []) X (c_X6_count l G tI tJ tZ aC X.2.2.2.2.2.2.2.2.2.2.2.1 (xs (x3 + 1).toNatClampNeg) σ _ h) gL_law_X6_count rfl ⟨rfl, rfl⟩ (by decide +kernel) ⟨Nat.le_of_ble_eq_true rfl, Nat.le_of_ble_eq_true rfl⟩ rfl rfl rfl (Nat.le_of_ble_eq_true rfl) dL_law_404 (fun r1 σ1 h => ?_)
  refine lm_aload_n X 2 rfl dL_law_407 ?_
  refine lm_aload_n X 0 rfl dL_law_408 ?_
  refine lm_iload_n X 3 rfl dL_law_409 ?_
  refine lm_iconst (v := 1) X (by decide) dL_law_410 ?_
  refine lm_iadd X dL_law_411 ?_
  refine lm_sld X (hi 1 (by decide) (by decide)) dL_law_412 ?_
  refine lm_callMi (n := 1) (As := [.int (xs (x3 + 1).toNatClampNeg)]) (rest := [.int r1]) X (c_X7_count l G tI tJ tZ aM X.2.2.2.2.2.2.2.2.2.2.2.2.1 (xs (x3 + 1).toNatClampNeg) τ _ h) gL_law_X7_count rfl ⟨rfl, rfl⟩ (by decide +kernel) ⟨Nat.le_of_ble_eq_true rfl, Nat.le_of_ble_eq_true rfl⟩ rfl rfl rfl (Nat.le_of_ble_eq_true rfl) dL_law_413 (fun r2 τ1 h => ?_)
  refine lm_icmp_eq (tgt := 802) X (by decide) dL_law_416 (fun _ => ?_) (fun q => absurd h.1 q)
  exact hnext σ1 τ1 h.2
set_option maxRecDepth 100000 in
set_option maxHeartbeats 4000000 in
theorem law_case_9 {p : Program} {l : Launch} {e : Env} {s : State} {m : MethodId} {b : Nat} {below : List Frame} {meth : Method} {c : Code} {G : va_G} {tI tJ tZ : ClassId} {aC aM : Nat → Nat} {σ τ : St} {L : Nat} {xs : Nat → Int32} (X : Lx p s m meth c b L xs G tI tJ tZ aC aM) {x3 : Int32} (hi : ∀ k : Int32, 0 ≤ k → k < 7 → vp_in (x3 + k) L) {next : St → St → Prop} (h : wp_X6_fits σ (fun r1 σ1 => wp_X7_fits τ (fun r2 τ1 => r1 = r2 ∧ next σ1 τ1))) (hnext : ∀ σ τ, next σ τ → lm p l e s m b below meth c G tI tJ tZ aC aM σ τ [(0, .ref b), (1, .ref (aC 0)), (2, .ref (aM 0)), (3, .int x3)] 802 []) : lm p l e s m b below meth c G tI tJ tZ aC aM σ τ [(0, .ref b), (1, .ref (aC 0)), (2, .ref (aM 0)), (3, .int x3)] 421 [] := by
  refine lm_aload_n X 1 rfl dL_law_421 ?_
  refine lm_callCi (n := 0) (As := []) (rest := []) X (c_X6_fits l G tI tJ tZ aC X.2.2.2.2.2.2.2.2.2.2.2.1 σ _ h) gL_law_X6_fits rfl ⟨rfl, rfl⟩ (by decide +kernel) ⟨Nat.le_of_ble_eq_true rfl, Nat.le_of_ble_eq_true rfl⟩ rfl rfl rfl (Nat.le_of_ble_eq_true rfl) dL_law_422 (fun r1 σ1 h => ?_)
  refine lm_aload_n X 2 rfl dL_law_425 ?_
  refine lm_callMi (n := 0) (As := []) (rest := [.int r1]) X (c_X7_fits l G tI tJ tZ aM X.2.2.2.2.2.2.2.2.2.2.2.2.1 τ _ h) gL_law_X7_fits rfl ⟨rfl, rfl⟩ (by decide +kernel) ⟨Nat.le_of_ble_eq_true rfl, Nat.le_of_ble_eq_true rfl⟩ rfl rfl rfl (Nat.le_of_ble_eq_true rfl) dL_law_426 (fun r2 τ1 h => ?_)
  refine lm_icmp_eq (tgt := 802) X (by decide) dL_law_429 (fun _ => ?_) (fun q => absurd h.1 q)
  exact hnext σ1 τ1 h.2
set_option maxRecDepth 100000 in
set_option maxHeartbeats 4000000 in
theorem law_case_10 {p : Program} {l : Launch} {e : Env} {s : State} {m : MethodId} {b : Nat} {below : List Frame} {meth : Method} {c : Code} {G : va_G} {tI tJ tZ : ClassId} {aC aM : Nat → Nat} {σ τ : St} {L : Nat} {xs : Nat → Int32} (X : Lx p s m meth c b L xs G tI tJ tZ aC aM) {x3 : Int32} (hi : ∀ k : Int32, 0 ≤ k → k < 7 → vp_in (x3 + k) L) {next : St → St → Prop} (h : wp_X6_bound (xs (x3 + 1).toNatClampNeg) (xs (x3 + 2).toNatClampNeg) (xs (x3 + 3).toNatClampNeg) σ (fun r1 σ1 => wp_X7_bound (xs (x3 + 1).toNatClampNeg) (xs (x3 + 2).toNatClampNeg) (xs (x3 + 3).toNatClampNeg) τ (fun r2 τ1 => r1 = r2 ∧ next σ1 τ1))) (hnext : ∀ σ τ, next σ τ → lm p l e s m b below meth c G tI tJ tZ aC aM σ τ [(0, .ref b), (1, .ref (aC 0)), (2, .ref (aM 0)), (3, .int x3)] 802 []) : lm p l e s m b below meth c G tI tJ tZ aC aM σ τ [(0, .ref b), (1, .ref (aC 0)), (2, .ref (aM 0)), (3, .int x3)] 434 [] := by
  refine lm_aload_n X 1 rfl dL_law_434 ?_
  refine lm_aload_n X 0 rfl dL_law_435 ?_
  refine lm_iload_n X 3 rfl dL_law_436 ?_
  refine lm_iconst (v := 1) X (by decide) dL_law_437 ?_
  refine lm_iadd X dL_law_438 ?_
  refine lm_sld X (hi 1 (by decide) (by decide)) dL_law_439 ?_
  refine lm_aload_n X 0 rfl dL_law_440 ?_
  refine lm_iload_n X 3 rfl dL_law_441 ?_
  refine lm_iconst (v := 2) X (by decide) dL_law_442 ?_
  refine lm_iadd X dL_law_443 ?_
  refine lm_sld X (hi 2 (by decide) (by decide)) dL_law_444 ?_
  refine lm_aload_n X 0 rfl dL_law_445 ?_
  refine lm_iload_n X 3 rfl dL_law_446 ?_
  refine lm_iconst (v := 3) X (by decide) dL_law_447 ?_
  refine lm_iadd X dL_law_448 ?_
  refine lm_sld X (hi 3 (by decide) (by decide)) dL_law_449 ?_
  refine lm_callCl (n := 3) (As := [.int (xs (x3 + 1).toNatClampNeg), .int (xs (x3 + 2).toNatClampNeg), .int (xs (x3 + 3).toNatClampNeg)]) (rest := []) X (c_X6_bound l G tI tJ tZ aC X.2.2.2.2.2.2.2.2.2.2.2.1 (xs (x3 + 1).toNatClampNeg) (xs (x3 + 2).toNatClampNeg) (xs (x3 + 3).toNatClampNeg) σ _ h) gL_law_X6_bound rfl ⟨rfl, rfl⟩ (by decide +kernel) ⟨Nat.le_of_ble_eq_true rfl, Nat.le_of_ble_eq_true rfl⟩ rfl rfl rfl (Nat.le_of_ble_eq_true rfl) dL_law_450 (fun r1 σ1 h => ?_)
  refine lm_aload_n X 2 rfl dL_law_453 ?_
  refine lm_aload_n X 0 rfl dL_law_454 ?_
  refine lm_iload_n X 3 rfl dL_law_455 ?_
  refine lm_iconst (v := 1) X (by decide) dL_law_456 ?_
  refine lm_iadd X dL_law_457 ?_
  refine lm_sld X (hi 1 (by decide) (by decide)) dL_law_458 ?_
  refine lm_aload_n X 0 rfl dL_law_459 ?_
  refine lm_iload_n X 3 rfl dL_law_460 ?_
  refine lm_iconst (v := 2) X (by decide) dL_law_461 ?_
  refine lm_iadd X dL_law_462 ?_
  refine lm_sld X (hi 2 (by decide) (by decide)) dL_law_463 ?_
  refine lm_aload_n X 0 rfl dL_law_464 ?_
  refine lm_iload_n X 3 rfl dL_law_465 ?_
  refine lm_iconst (v := 3) X (by decide) dL_law_466 ?_
  refine lm_iadd X dL_law_467 ?_
  refine lm_sld X (hi 3 (by decide) (by decide)) dL_law_468 ?_
  refine lm_callMl (n := 3) (As := [.int (xs (x3 + 1).toNatClampNeg), .int (xs (x3 + 2).toNatClampNeg), .int (xs (x3 + 3).toNatClampNeg)]) (rest := [.long r1]) X (c_X7_bound l G tI tJ tZ aM X.2.2.2.2.2.2.2.2.2.2.2.2.1 (xs (x3 + 1).toNatClampNeg) (xs (x3 + 2).toNatClampNeg) (xs (x3 + 3).toNatClampNeg) τ _ h) gL_law_X7_bound rfl ⟨rfl, rfl⟩ (by decide +kernel) ⟨Nat.le_of_ble_eq_true rfl, Nat.le_of_ble_eq_true rfl⟩ rfl rfl rfl (Nat.le_of_ble_eq_true rfl) dL_law_469 (fun r2 τ1 h => ?_)
  refine lm_lcmp X dL_law_472 ?_
  refine lm_if_eq (tgt := 802) X (by decide) dL_law_473 (fun _ => ?_) (fun q => absurd ((lc_eq _ _).mpr h.1) q)
  exact hnext σ1 τ1 h.2
set_option maxRecDepth 100000 in
set_option maxHeartbeats 4000000 in
theorem law_case_11 {p : Program} {l : Launch} {e : Env} {s : State} {m : MethodId} {b : Nat} {below : List Frame} {meth : Method} {c : Code} {G : va_G} {tI tJ tZ : ClassId} {aC aM : Nat → Nat} {σ τ : St} {L : Nat} {xs : Nat → Int32} (X : Lx p s m meth c b L xs G tI tJ tZ aC aM) {x3 : Int32} (hi : ∀ k : Int32, 0 ≤ k → k < 7 → vp_in (x3 + k) L) {next : St → St → Prop} (h : wp_X6_shown (xs (x3 + 1).toNatClampNeg) (xs (x3 + 2).toNatClampNeg) (xs (x3 + 3).toNatClampNeg) (xs (x3 + 4).toNatClampNeg) σ (fun r1 σ1 => wp_X7_shown (xs (x3 + 1).toNatClampNeg) (xs (x3 + 2).toNatClampNeg) (xs (x3 + 3).toNatClampNeg) (xs (x3 + 4).toNatClampNeg) τ (fun r2 τ1 => r1 = r2 ∧ next σ1 τ1))) (hnext : ∀ σ τ, next σ τ → lm p l e s m b below meth c G tI tJ tZ aC aM σ τ [(0, .ref b), (1, .ref (aC 0)), (2, .ref (aM 0)), (3, .int x3)] 802 []) : lm p l e s m b below meth c G tI tJ tZ aC aM σ τ [(0, .ref b), (1, .ref (aC 0)), (2, .ref (aM 0)), (3, .int x3)] 478 [] := by
  refine lm_aload_n X 1 rfl dL_law_478 ?_
  refine lm_aload_n X 0 rfl dL_law_479 ?_
  refine lm_iload_n X 3 rfl dL_law_480 ?_
  refine lm_iconst (v := 1) X (by decide) dL_law_481 ?_
  refine lm_iadd X dL_law_482 ?_
  refine lm_sld X (hi 1 (by decide) (by decide)) dL_law_483 ?_
  refine lm_aload_n X 0 rfl dL_law_484 ?_
  refine lm_iload_n X 3 rfl dL_law_485 ?_
  refine lm_iconst (v := 2) X (by decide) dL_law_486 ?_
  refine lm_iadd X dL_law_487 ?_
  refine lm_sld X (hi 2 (by decide) (by decide)) dL_law_488 ?_
  refine lm_aload_n X 0 rfl dL_law_489 ?_
  refine lm_iload_n X 3 rfl dL_law_490 ?_
  refine lm_iconst (v := 3) X (by decide) dL_law_491 ?_
  refine lm_iadd X dL_law_492 ?_
  refine lm_sld X (hi 3 (by decide) (by decide)) dL_law_493 ?_
  refine lm_aload_n X 0 rfl dL_law_494 ?_
  refine lm_iload_n X 3 rfl dL_law_495 ?_
  refine lm_iconst (v := 4) X (by decide) dL_law_496 ?_
  refine lm_iadd X dL_law_497 ?_
  refine lm_sld X (hi 4 (by decide) (by decide)) dL_law_498 ?_
  refine lm_callCl (n := 4) (As := [.int (xs (x3 + 1).toNatClampNeg), .int (xs (x3 + 2).toNatClampNeg), .int (xs (x3 + 3).toNatClampNeg), .int (xs (x3 + 4).toNatClampNeg)]) (rest := []) X (c_X6_shown l G tI tJ tZ aC X.2.2.2.2.2.2.2.2.2.2.2.1 (xs (x3 + 1).toNatClampNeg) (xs (x3 + 2).toNatClampNeg) (xs (x3 + 3).toNatClampNeg) (xs (x3 + 4).toNatClampNeg) σ _ h) gL_law_X6_shown rfl ⟨rfl, rfl⟩ (by decide +kernel) ⟨Nat.le_of_ble_eq_true rfl, Nat.le_of_ble_eq_true rfl⟩ rfl rfl rfl (Nat.le_of_ble_eq_true rfl) dL_law_499 (fun r1 σ1 h => ?_)
  refine lm_aload_n X 2 rfl dL_law_502 ?_
  refine lm_aload_n X 0 rfl dL_law_503 ?_
  refine lm_iload_n X 3 rfl dL_law_504 ?_
  refine lm_iconst (v := 1) X (by decide) dL_law_505 ?_
  refine lm_iadd X dL_law_506 ?_
  refine lm_sld X (hi 1 (by decide) (by decide)) dL_law_507 ?_
  refine lm_aload_n X 0 rfl dL_law_508 ?_
  refine lm_iload_n X 3 rfl dL_law_509 ?_
  refine lm_iconst (v := 2) X (by decide) dL_law_510 ?_
  refine lm_iadd X dL_law_511 ?_
  refine lm_sld X (hi 2 (by decide) (by decide)) dL_law_512 ?_
  refine lm_aload_n X 0 rfl dL_law_513 ?_
  refine lm_iload_n X 3 rfl dL_law_514 ?_
  refine lm_iconst (v := 3) X (by decide) dL_law_515 ?_
  refine lm_iadd X dL_law_516 ?_
  refine lm_sld X (hi 3 (by decide) (by decide)) dL_law_517 ?_
  refine lm_aload_n X 0 rfl dL_law_518 ?_
  refine lm_iload_n X 3 rfl dL_law_519 ?_
  refine lm_iconst (v := 4) X (by decide) dL_law_520 ?_
  refine lm_iadd X dL_law_521 ?_
  refine lm_sld X (hi 4 (by decide) (by decide)) dL_law_522 ?_
  refine lm_callMl (n := 4) (As := [.int (xs (x3 + 1).toNatClampNeg), .int (xs (x3 + 2).toNatClampNeg), .int (xs (x3 + 3).toNatClampNeg), .int (xs (x3 + 4).toNatClampNeg)]) (rest := [.long r1]) X (c_X7_shown l G tI tJ tZ aM X.2.2.2.2.2.2.2.2.2.2.2.2.1 (xs (x3 + 1).toNatClampNeg) (xs (x3 + 2).toNatClampNeg) (xs (x3 + 3).toNatClampNeg) (xs (x3 + 4).toNatClampNeg) τ _ h) gL_law_X7_shown rfl ⟨rfl, rfl⟩ (by decide +kernel) ⟨Nat.le_of_ble_eq_true rfl, Nat.le_of_ble_eq_true rfl⟩ rfl rfl rfl (Nat.le_of_ble_eq_true rfl) dL_law_523 (fun r2 τ1 h => ?_)
  refine lm_lcmp X dL_law_526 ?_
  refine lm_if_eq (tgt := 802) X (by decide) dL_law_527 (fun _ => ?_) (fun q => absurd ((lc_eq _ _).mpr h.1) q)
  exact hnext σ1 τ1 h.2
set_option maxRecDepth 100000 in
set_option maxHeartbeats 4000000 in
theorem law_case_12 {p : Program} {l : Launch} {e : Env} {s : State} {m : MethodId} {b : Nat} {below : List Frame} {meth : Method} {c : Code} {G : va_G} {tI tJ tZ : ClassId} {aC aM : Nat → Nat} {σ τ : St} {L : Nat} {xs : Nat → Int32} (X : Lx p s m meth c b L xs G tI tJ tZ aC aM) {x3 : Int32} (hi : ∀ k : Int32, 0 ≤ k → k < 7 → vp_in (x3 + k) L) {next : St → St → Prop} (h : wp_X6_settled (xs (x3 + 1).toNatClampNeg) σ (fun r1 σ1 => wp_X7_settled (xs (x3 + 1).toNatClampNeg) τ (fun r2 τ1 => r1 = r2 ∧ next σ1 τ1))) (hnext : ∀ σ τ, next σ τ → lm p l e s m b below meth c G tI tJ tZ aC aM σ τ [(0, .ref b), (1, .ref (aC 0)), (2, .ref (aM 0)), (3, .int x3)] 802 []) : lm p l e s m b below meth c G tI tJ tZ aC aM σ τ [(0, .ref b), (1, .ref (aC 0)), (2, .ref (aM 0)), (3, .int x3)] 532 [] := by
  refine lm_aload_n X 1 rfl dL_law_532 ?_
  refine lm_aload_n X 0 rfl dL_law_533 ?_
  refine lm_iload_n X 3 rfl dL_law_534 ?_
  refine lm_iconst (v := 1) X (by decide) dL_law_535 ?_
  refine lm_iadd X dL_law_536 ?_
  refine lm_sld X (hi 1 (by decide) (by decide)) dL_law_537 ?_
  refine lm_callCi (n := 1) (As := [.int (xs (x3 + 1).toNatClampNeg)]) (rest := []) X (c_X6_settled l G tI tJ tZ aC X.2.2.2.2.2.2.2.2.2.2.2.1 (xs (x3 + 1).toNatClampNeg) σ _ h) gL_law_X6_settled rfl ⟨rfl, rfl⟩ (by decide +kernel) ⟨Nat.le_of_ble_eq_true rfl, Nat.le_of_ble_eq_true rfl⟩ rfl rfl rfl (Nat.le_of_ble_eq_true rfl) dL_law_538 (fun r1 σ1 h => ?_)
  refine lm_aload_n X 2 rfl dL_law_541 ?_
  refine lm_aload_n X 0 rfl dL_law_542 ?_
  refine lm_iload_n X 3 rfl dL_law_543 ?_
  refine lm_iconst (v := 1) X (by decide) dL_law_544 ?_
  refine lm_iadd X dL_law_545 ?_
  refine lm_sld X (hi 1 (by decide) (by decide)) dL_law_546 ?_
  refine lm_callMi (n := 1) (As := [.int (xs (x3 + 1).toNatClampNeg)]) (rest := [.int r1]) X (c_X7_settled l G tI tJ tZ aM X.2.2.2.2.2.2.2.2.2.2.2.2.1 (xs (x3 + 1).toNatClampNeg) τ _ h) gL_law_X7_settled rfl ⟨rfl, rfl⟩ (by decide +kernel) ⟨Nat.le_of_ble_eq_true rfl, Nat.le_of_ble_eq_true rfl⟩ rfl rfl rfl (Nat.le_of_ble_eq_true rfl) dL_law_547 (fun r2 τ1 h => ?_)
  refine lm_icmp_eq (tgt := 802) X (by decide) dL_law_550 (fun _ => ?_) (fun q => absurd h.1 q)
  exact hnext σ1 τ1 h.2
set_option maxRecDepth 100000 in
set_option maxHeartbeats 4000000 in
theorem law_case_13 {p : Program} {l : Launch} {e : Env} {s : State} {m : MethodId} {b : Nat} {below : List Frame} {meth : Method} {c : Code} {G : va_G} {tI tJ tZ : ClassId} {aC aM : Nat → Nat} {σ τ : St} {L : Nat} {xs : Nat → Int32} (X : Lx p s m meth c b L xs G tI tJ tZ aC aM) {x3 : Int32} (hi : ∀ k : Int32, 0 ≤ k → k < 7 → vp_in (x3 + k) L) {next : St → St → Prop} (h : wp_X6_known (xs (x3 + 1).toNatClampNeg) σ (fun r1 σ1 => wp_X7_known (xs (x3 + 1).toNatClampNeg) τ (fun r2 τ1 => r1 = r2 ∧ next σ1 τ1))) (hnext : ∀ σ τ, next σ τ → lm p l e s m b below meth c G tI tJ tZ aC aM σ τ [(0, .ref b), (1, .ref (aC 0)), (2, .ref (aM 0)), (3, .int x3)] 802 []) : lm p l e s m b below meth c G tI tJ tZ aC aM σ τ [(0, .ref b), (1, .ref (aC 0)), (2, .ref (aM 0)), (3, .int x3)] 555 [] := by
  refine lm_aload_n X 1 rfl dL_law_555 ?_
  refine lm_aload_n X 0 rfl dL_law_556 ?_
  refine lm_iload_n X 3 rfl dL_law_557 ?_
  refine lm_iconst (v := 1) X (by decide) dL_law_558 ?_
  refine lm_iadd X dL_law_559 ?_
  refine lm_sld X (hi 1 (by decide) (by decide)) dL_law_560 ?_
  refine lm_callCi (n := 1) (As := [.int (xs (x3 + 1).toNatClampNeg)]) (rest := []) X (c_X6_known l G tI tJ tZ aC X.2.2.2.2.2.2.2.2.2.2.2.1 (xs (x3 + 1).toNatClampNeg) σ _ h) gL_law_X6_known rfl ⟨rfl, rfl⟩ (by decide +kernel) ⟨Nat.le_of_ble_eq_true rfl, Nat.le_of_ble_eq_true rfl⟩ rfl rfl rfl (Nat.le_of_ble_eq_true rfl) dL_law_561 (fun r1 σ1 h => ?_)
  refine lm_aload_n X 2 rfl dL_law_564 ?_
  refine lm_aload_n X 0 rfl dL_law_565 ?_
  refine lm_iload_n X 3 rfl dL_law_566 ?_
  refine lm_iconst (v := 1) X (by decide) dL_law_567 ?_
  refine lm_iadd X dL_law_568 ?_
  refine lm_sld X (hi 1 (by decide) (by decide)) dL_law_569 ?_
  refine lm_callMi (n := 1) (As := [.int (xs (x3 + 1).toNatClampNeg)]) (rest := [.int r1]) X (c_X7_known l G tI tJ tZ aM X.2.2.2.2.2.2.2.2.2.2.2.2.1 (xs (x3 + 1).toNatClampNeg) τ _ h) gL_law_X7_known rfl ⟨rfl, rfl⟩ (by decide +kernel) ⟨Nat.le_of_ble_eq_true rfl, Nat.le_of_ble_eq_true rfl⟩ rfl rfl rfl (Nat.le_of_ble_eq_true rfl) dL_law_570 (fun r2 τ1 h => ?_)
  refine lm_icmp_eq (tgt := 802) X (by decide) dL_law_573 (fun _ => ?_) (fun q => absurd h.1 q)
  exact hnext σ1 τ1 h.2
set_option maxRecDepth 100000 in
set_option maxHeartbeats 4000000 in
theorem law_case_14 {p : Program} {l : Launch} {e : Env} {s : State} {m : MethodId} {b : Nat} {below : List Frame} {meth : Method} {c : Code} {G : va_G} {tI tJ tZ : ClassId} {aC aM : Nat → Nat} {σ τ : St} {L : Nat} {xs : Nat → Int32} (X : Lx p s m meth c b L xs G tI tJ tZ aC aM) {x3 : Int32} (hi : ∀ k : Int32, 0 ≤ k → k < 7 → vp_in (x3 + k) L) {next : St → St → Prop} (h : wp_X6_group (xs (x3 + 1).toNatClampNeg) σ (fun r1 σ1 => wp_X7_group (xs (x3 + 1).toNatClampNeg) τ (fun r2 τ1 => r1 = r2 ∧ next σ1 τ1))) (hnext : ∀ σ τ, next σ τ → lm p l e s m b below meth c G tI tJ tZ aC aM σ τ [(0, .ref b), (1, .ref (aC 0)), (2, .ref (aM 0)), (3, .int x3)] 802 []) : lm p l e s m b below meth c G tI tJ tZ aC aM σ τ [(0, .ref b), (1, .ref (aC 0)), (2, .ref (aM 0)), (3, .int x3)] 578 [] := by
  refine lm_aload_n X 1 rfl dL_law_578 ?_
  refine lm_aload_n X 0 rfl dL_law_579 ?_
  refine lm_iload_n X 3 rfl dL_law_580 ?_
  refine lm_iconst (v := 1) X (by decide) dL_law_581 ?_
  refine lm_iadd X dL_law_582 ?_
  refine lm_sld X (hi 1 (by decide) (by decide)) dL_law_583 ?_
  refine lm_callCi (n := 1) (As := [.int (xs (x3 + 1).toNatClampNeg)]) (rest := []) X (c_X6_group l G tI tJ tZ aC X.2.2.2.2.2.2.2.2.2.2.2.1 (xs (x3 + 1).toNatClampNeg) σ _ h) gL_law_X6_group rfl ⟨rfl, rfl⟩ (by decide +kernel) ⟨Nat.le_of_ble_eq_true rfl, Nat.le_of_ble_eq_true rfl⟩ rfl rfl rfl (Nat.le_of_ble_eq_true rfl) dL_law_584 (fun r1 σ1 h => ?_)
  refine lm_aload_n X 2 rfl dL_law_587 ?_
  refine lm_aload_n X 0 rfl dL_law_588 ?_
  refine lm_iload_n X 3 rfl dL_law_589 ?_
  refine lm_iconst (v := 1) X (by decide) dL_law_590 ?_
  refine lm_iadd X dL_law_591 ?_
  refine lm_sld X (hi 1 (by decide) (by decide)) dL_law_592 ?_
  refine lm_callMi (n := 1) (As := [.int (xs (x3 + 1).toNatClampNeg)]) (rest := [.int r1]) X (c_X7_group l G tI tJ tZ aM X.2.2.2.2.2.2.2.2.2.2.2.2.1 (xs (x3 + 1).toNatClampNeg) τ _ h) gL_law_X7_group rfl ⟨rfl, rfl⟩ (by decide +kernel) ⟨Nat.le_of_ble_eq_true rfl, Nat.le_of_ble_eq_true rfl⟩ rfl rfl rfl (Nat.le_of_ble_eq_true rfl) dL_law_593 (fun r2 τ1 h => ?_)
  refine lm_icmp_eq (tgt := 802) X (by decide) dL_law_596 (fun _ => ?_) (fun q => absurd h.1 q)
  exact hnext σ1 τ1 h.2
set_option maxRecDepth 100000 in
set_option maxHeartbeats 4000000 in
theorem law_case_15 {p : Program} {l : Launch} {e : Env} {s : State} {m : MethodId} {b : Nat} {below : List Frame} {meth : Method} {c : Code} {G : va_G} {tI tJ tZ : ClassId} {aC aM : Nat → Nat} {σ τ : St} {L : Nat} {xs : Nat → Int32} (X : Lx p s m meth c b L xs G tI tJ tZ aC aM) {x3 : Int32} (hi : ∀ k : Int32, 0 ≤ k → k < 7 → vp_in (x3 + k) L) {next : St → St → Prop} (h : wp_X6_lying (xs (x3 + 1).toNatClampNeg) σ (fun r1 σ1 => wp_X7_lying (xs (x3 + 1).toNatClampNeg) τ (fun r2 τ1 => r1 = r2 ∧ next σ1 τ1))) (hnext : ∀ σ τ, next σ τ → lm p l e s m b below meth c G tI tJ tZ aC aM σ τ [(0, .ref b), (1, .ref (aC 0)), (2, .ref (aM 0)), (3, .int x3)] 802 []) : lm p l e s m b below meth c G tI tJ tZ aC aM σ τ [(0, .ref b), (1, .ref (aC 0)), (2, .ref (aM 0)), (3, .int x3)] 601 [] := by
  refine lm_aload_n X 1 rfl dL_law_601 ?_
  refine lm_aload_n X 0 rfl dL_law_602 ?_
  refine lm_iload_n X 3 rfl dL_law_603 ?_
  refine lm_iconst (v := 1) X (by decide) dL_law_604 ?_
  refine lm_iadd X dL_law_605 ?_
  refine lm_sld X (hi 1 (by decide) (by decide)) dL_law_606 ?_
  refine lm_callCi (n := 1) (As := [.int (xs (x3 + 1).toNatClampNeg)]) (rest := []) X (c_X6_lying l G tI tJ tZ aC X.2.2.2.2.2.2.2.2.2.2.2.1 (xs (x3 + 1).toNatClampNeg) σ _ h) gL_law_X6_lying rfl ⟨rfl, rfl⟩ (by decide +kernel) ⟨Nat.le_of_ble_eq_true rfl, Nat.le_of_ble_eq_true rfl⟩ rfl rfl rfl (Nat.le_of_ble_eq_true rfl) dL_law_607 (fun r1 σ1 h => ?_)
  refine lm_aload_n X 2 rfl dL_law_610 ?_
  refine lm_aload_n X 0 rfl dL_law_611 ?_
  refine lm_iload_n X 3 rfl dL_law_612 ?_
  refine lm_iconst (v := 1) X (by decide) dL_law_613 ?_
  refine lm_iadd X dL_law_614 ?_
  refine lm_sld X (hi 1 (by decide) (by decide)) dL_law_615 ?_
  refine lm_callMi (n := 1) (As := [.int (xs (x3 + 1).toNatClampNeg)]) (rest := [.int r1]) X (c_X7_lying l G tI tJ tZ aM X.2.2.2.2.2.2.2.2.2.2.2.2.1 (xs (x3 + 1).toNatClampNeg) τ _ h) gL_law_X7_lying rfl ⟨rfl, rfl⟩ (by decide +kernel) ⟨Nat.le_of_ble_eq_true rfl, Nat.le_of_ble_eq_true rfl⟩ rfl rfl rfl (Nat.le_of_ble_eq_true rfl) dL_law_616 (fun r2 τ1 h => ?_)
  refine lm_icmp_eq (tgt := 802) X (by decide) dL_law_619 (fun _ => ?_) (fun q => absurd h.1 q)
  exact hnext σ1 τ1 h.2
set_option maxRecDepth 100000 in
set_option maxHeartbeats 4000000 in
theorem law_case_16 {p : Program} {l : Launch} {e : Env} {s : State} {m : MethodId} {b : Nat} {below : List Frame} {meth : Method} {c : Code} {G : va_G} {tI tJ tZ : ClassId} {aC aM : Nat → Nat} {σ τ : St} {L : Nat} {xs : Nat → Int32} (X : Lx p s m meth c b L xs G tI tJ tZ aC aM) {x3 : Int32} (hi : ∀ k : Int32, 0 ≤ k → k < 7 → vp_in (x3 + k) L) {next : St → St → Prop} (h : wp_X6_offer (xs (x3 + 1).toNatClampNeg) σ (fun r1 σ1 => wp_X7_offer (xs (x3 + 1).toNatClampNeg) τ (fun r2 τ1 => r1 = r2 ∧ next σ1 τ1))) (hnext : ∀ σ τ, next σ τ → lm p l e s m b below meth c G tI tJ tZ aC aM σ τ [(0, .ref b), (1, .ref (aC 0)), (2, .ref (aM 0)), (3, .int x3)] 802 []) : lm p l e s m b below meth c G tI tJ tZ aC aM σ τ [(0, .ref b), (1, .ref (aC 0)), (2, .ref (aM 0)), (3, .int x3)] 624 [] := by
  refine lm_aload_n X 1 rfl dL_law_624 ?_
  refine lm_aload_n X 0 rfl dL_law_625 ?_
  refine lm_iload_n X 3 rfl dL_law_626 ?_
  refine lm_iconst (v := 1) X (by decide) dL_law_627 ?_
  refine lm_iadd X dL_law_628 ?_
  refine lm_sld X (hi 1 (by decide) (by decide)) dL_law_629 ?_
  refine lm_callCi (n := 1) (As := [.int (xs (x3 + 1).toNatClampNeg)]) (rest := []) X (c_X6_offer l G tI tJ tZ aC X.2.2.2.2.2.2.2.2.2.2.2.1 (xs (x3 + 1).toNatClampNeg) σ _ h) gL_law_X6_offer rfl ⟨rfl, rfl⟩ (by decide +kernel) ⟨Nat.le_of_ble_eq_true rfl, Nat.le_of_ble_eq_true rfl⟩ rfl rfl rfl (Nat.le_of_ble_eq_true rfl) dL_law_630 (fun r1 σ1 h => ?_)
  refine lm_aload_n X 2 rfl dL_law_633 ?_
  refine lm_aload_n X 0 rfl dL_law_634 ?_
  refine lm_iload_n X 3 rfl dL_law_635 ?_
  refine lm_iconst (v := 1) X (by decide) dL_law_636 ?_
  refine lm_iadd X dL_law_637 ?_
  refine lm_sld X (hi 1 (by decide) (by decide)) dL_law_638 ?_
  refine lm_callMi (n := 1) (As := [.int (xs (x3 + 1).toNatClampNeg)]) (rest := [.int r1]) X (c_X7_offer l G tI tJ tZ aM X.2.2.2.2.2.2.2.2.2.2.2.2.1 (xs (x3 + 1).toNatClampNeg) τ _ h) gL_law_X7_offer rfl ⟨rfl, rfl⟩ (by decide +kernel) ⟨Nat.le_of_ble_eq_true rfl, Nat.le_of_ble_eq_true rfl⟩ rfl rfl rfl (Nat.le_of_ble_eq_true rfl) dL_law_639 (fun r2 τ1 h => ?_)
  refine lm_icmp_eq (tgt := 802) X (by decide) dL_law_642 (fun _ => ?_) (fun q => absurd h.1 q)
  exact hnext σ1 τ1 h.2
set_option maxRecDepth 100000 in
set_option maxHeartbeats 4000000 in
theorem law_case_17 {p : Program} {l : Launch} {e : Env} {s : State} {m : MethodId} {b : Nat} {below : List Frame} {meth : Method} {c : Code} {G : va_G} {tI tJ tZ : ClassId} {aC aM : Nat → Nat} {σ τ : St} {L : Nat} {xs : Nat → Int32} (X : Lx p s m meth c b L xs G tI tJ tZ aC aM) {x3 : Int32} (hi : ∀ k : Int32, 0 ≤ k → k < 7 → vp_in (x3 + k) L) {next : St → St → Prop} (h : wp_X6_offered (xs (x3 + 1).toNatClampNeg) (xs (x3 + 2).toNatClampNeg) σ (fun r1 σ1 => wp_X7_offered (xs (x3 + 1).toNatClampNeg) (xs (x3 + 2).toNatClampNeg) τ (fun r2 τ1 => r1 = r2 ∧ next σ1 τ1))) (hnext : ∀ σ τ, next σ τ → lm p l e s m b below meth c G tI tJ tZ aC aM σ τ [(0, .ref b), (1, .ref (aC 0)), (2, .ref (aM 0)), (3, .int x3)] 802 []) : lm p l e s m b below meth c G tI tJ tZ aC aM σ τ [(0, .ref b), (1, .ref (aC 0)), (2, .ref (aM 0)), (3, .int x3)] 647 [] := by
  refine lm_aload_n X 1 rfl dL_law_647 ?_
  refine lm_aload_n X 0 rfl dL_law_648 ?_
  refine lm_iload_n X 3 rfl dL_law_649 ?_
  refine lm_iconst (v := 1) X (by decide) dL_law_650 ?_
  refine lm_iadd X dL_law_651 ?_
  refine lm_sld X (hi 1 (by decide) (by decide)) dL_law_652 ?_
  refine lm_aload_n X 0 rfl dL_law_653 ?_
  refine lm_iload_n X 3 rfl dL_law_654 ?_
  refine lm_iconst (v := 2) X (by decide) dL_law_655 ?_
  refine lm_iadd X dL_law_656 ?_
  refine lm_sld X (hi 2 (by decide) (by decide)) dL_law_657 ?_
  refine lm_callCi (n := 2) (As := [.int (xs (x3 + 1).toNatClampNeg), .int (xs (x3 + 2).toNatClampNeg)]) (rest := []) X (c_X6_offered l G tI tJ tZ aC X.2.2.2.2.2.2.2.2.2.2.2.1 (xs (x3 + 1).toNatClampNeg) (xs (x3 + 2).toNatClampNeg) σ _ h) gL_law_X6_offered rfl ⟨rfl, rfl⟩ (by decide +kernel) ⟨Nat.le_of_ble_eq_true rfl, Nat.le_of_ble_eq_true rfl⟩ rfl rfl rfl (Nat.le_of_ble_eq_true rfl) dL_law_658 (fun r1 σ1 h => ?_)
  refine lm_aload_n X 2 rfl dL_law_661 ?_
  refine lm_aload_n X 0 rfl dL_law_662 ?_
  refine lm_iload_n X 3 rfl dL_law_663 ?_
  refine lm_iconst (v := 1) X (by decide) dL_law_664 ?_
  refine lm_iadd X dL_law_665 ?_
  refine lm_sld X (hi 1 (by decide) (by decide)) dL_law_666 ?_
  refine lm_aload_n X 0 rfl dL_law_667 ?_
  refine lm_iload_n X 3 rfl dL_law_668 ?_
  refine lm_iconst (v := 2) X (by decide) dL_law_669 ?_
  refine lm_iadd X dL_law_670 ?_
  refine lm_sld X (hi 2 (by decide) (by decide)) dL_law_671 ?_
  refine lm_callMi (n := 2) (As := [.int (xs (x3 + 1).toNatClampNeg), .int (xs (x3 + 2).toNatClampNeg)]) (rest := [.int r1]) X (c_X7_offered l G tI tJ tZ aM X.2.2.2.2.2.2.2.2.2.2.2.2.1 (xs (x3 + 1).toNatClampNeg) (xs (x3 + 2).toNatClampNeg) τ _ h) gL_law_X7_offered rfl ⟨rfl, rfl⟩ (by decide +kernel) ⟨Nat.le_of_ble_eq_true rfl, Nat.le_of_ble_eq_true rfl⟩ rfl rfl rfl (Nat.le_of_ble_eq_true rfl) dL_law_672 (fun r2 τ1 h => ?_)
  refine lm_icmp_eq (tgt := 802) X (by decide) dL_law_675 (fun _ => ?_) (fun q => absurd h.1 q)
  exact hnext σ1 τ1 h.2
set_option maxRecDepth 100000 in
set_option maxHeartbeats 4000000 in
theorem law_case_18 {p : Program} {l : Launch} {e : Env} {s : State} {m : MethodId} {b : Nat} {below : List Frame} {meth : Method} {c : Code} {G : va_G} {tI tJ tZ : ClassId} {aC aM : Nat → Nat} {σ τ : St} {L : Nat} {xs : Nat → Int32} (X : Lx p s m meth c b L xs G tI tJ tZ aC aM) {x3 : Int32} (hi : ∀ k : Int32, 0 ≤ k → k < 7 → vp_in (x3 + k) L) {next : St → St → Prop} (h : wp_X6_advice (xs (x3 + 1).toNatClampNeg) σ (fun r1 σ1 => wp_X7_advice (xs (x3 + 1).toNatClampNeg) τ (fun r2 τ1 => r1 = r2 ∧ next σ1 τ1))) (hnext : ∀ σ τ, next σ τ → lm p l e s m b below meth c G tI tJ tZ aC aM σ τ [(0, .ref b), (1, .ref (aC 0)), (2, .ref (aM 0)), (3, .int x3)] 802 []) : lm p l e s m b below meth c G tI tJ tZ aC aM σ τ [(0, .ref b), (1, .ref (aC 0)), (2, .ref (aM 0)), (3, .int x3)] 680 [] := by
  refine lm_aload_n X 1 rfl dL_law_680 ?_
  refine lm_aload_n X 0 rfl dL_law_681 ?_
  refine lm_iload_n X 3 rfl dL_law_682 ?_
  refine lm_iconst (v := 1) X (by decide) dL_law_683 ?_
  refine lm_iadd X dL_law_684 ?_
  refine lm_sld X (hi 1 (by decide) (by decide)) dL_law_685 ?_
  refine lm_callCi (n := 1) (As := [.int (xs (x3 + 1).toNatClampNeg)]) (rest := []) X (c_X6_advice l G tI tJ tZ aC X.2.2.2.2.2.2.2.2.2.2.2.1 (xs (x3 + 1).toNatClampNeg) σ _ h) gL_law_X6_advice rfl ⟨rfl, rfl⟩ (by decide +kernel) ⟨Nat.le_of_ble_eq_true rfl, Nat.le_of_ble_eq_true rfl⟩ rfl rfl rfl (Nat.le_of_ble_eq_true rfl) dL_law_686 (fun r1 σ1 h => ?_)
  refine lm_aload_n X 2 rfl dL_law_689 ?_
  refine lm_aload_n X 0 rfl dL_law_690 ?_
  refine lm_iload_n X 3 rfl dL_law_691 ?_
  refine lm_iconst (v := 1) X (by decide) dL_law_692 ?_
  refine lm_iadd X dL_law_693 ?_
  refine lm_sld X (hi 1 (by decide) (by decide)) dL_law_694 ?_
  refine lm_callMi (n := 1) (As := [.int (xs (x3 + 1).toNatClampNeg)]) (rest := [.int r1]) X (c_X7_advice l G tI tJ tZ aM X.2.2.2.2.2.2.2.2.2.2.2.2.1 (xs (x3 + 1).toNatClampNeg) τ _ h) gL_law_X7_advice rfl ⟨rfl, rfl⟩ (by decide +kernel) ⟨Nat.le_of_ble_eq_true rfl, Nat.le_of_ble_eq_true rfl⟩ rfl rfl rfl (Nat.le_of_ble_eq_true rfl) dL_law_695 (fun r2 τ1 h => ?_)
  refine lm_icmp_eq (tgt := 802) X (by decide) dL_law_698 (fun _ => ?_) (fun q => absurd h.1 q)
  exact hnext σ1 τ1 h.2
set_option maxRecDepth 100000 in
set_option maxHeartbeats 4000000 in
theorem law_case_19 {p : Program} {l : Launch} {e : Env} {s : State} {m : MethodId} {b : Nat} {below : List Frame} {meth : Method} {c : Code} {G : va_G} {tI tJ tZ : ClassId} {aC aM : Nat → Nat} {σ τ : St} {L : Nat} {xs : Nat → Int32} (X : Lx p s m meth c b L xs G tI tJ tZ aC aM) {x3 : Int32} (hi : ∀ k : Int32, 0 ≤ k → k < 7 → vp_in (x3 + k) L) {next : St → St → Prop} (h : wp_X6_sick (xs (x3 + 1).toNatClampNeg) σ (fun r1 σ1 => wp_X7_sick (xs (x3 + 1).toNatClampNeg) τ (fun r2 τ1 => r1 = r2 ∧ next σ1 τ1))) (hnext : ∀ σ τ, next σ τ → lm p l e s m b below meth c G tI tJ tZ aC aM σ τ [(0, .ref b), (1, .ref (aC 0)), (2, .ref (aM 0)), (3, .int x3)] 802 []) : lm p l e s m b below meth c G tI tJ tZ aC aM σ τ [(0, .ref b), (1, .ref (aC 0)), (2, .ref (aM 0)), (3, .int x3)] 703 [] := by
  refine lm_aload_n X 1 rfl dL_law_703 ?_
  refine lm_aload_n X 0 rfl dL_law_704 ?_
  refine lm_iload_n X 3 rfl dL_law_705 ?_
  refine lm_iconst (v := 1) X (by decide) dL_law_706 ?_
  refine lm_iadd X dL_law_707 ?_
  refine lm_sld X (hi 1 (by decide) (by decide)) dL_law_708 ?_
  refine lm_callCi (n := 1) (As := [.int (xs (x3 + 1).toNatClampNeg)]) (rest := []) X (c_X6_sick l G tI tJ tZ aC X.2.2.2.2.2.2.2.2.2.2.2.1 (xs (x3 + 1).toNatClampNeg) σ _ h) gL_law_X6_sick rfl ⟨rfl, rfl⟩ (by decide +kernel) ⟨Nat.le_of_ble_eq_true rfl, Nat.le_of_ble_eq_true rfl⟩ rfl rfl rfl (Nat.le_of_ble_eq_true rfl) dL_law_709 (fun r1 σ1 h => ?_)
  refine lm_aload_n X 2 rfl dL_law_712 ?_
  refine lm_aload_n X 0 rfl dL_law_713 ?_
  refine lm_iload_n X 3 rfl dL_law_714 ?_
  refine lm_iconst (v := 1) X (by decide) dL_law_715 ?_
  refine lm_iadd X dL_law_716 ?_
  refine lm_sld X (hi 1 (by decide) (by decide)) dL_law_717 ?_
  refine lm_callMi (n := 1) (As := [.int (xs (x3 + 1).toNatClampNeg)]) (rest := [.int r1]) X (c_X7_sick l G tI tJ tZ aM X.2.2.2.2.2.2.2.2.2.2.2.2.1 (xs (x3 + 1).toNatClampNeg) τ _ h) gL_law_X7_sick rfl ⟨rfl, rfl⟩ (by decide +kernel) ⟨Nat.le_of_ble_eq_true rfl, Nat.le_of_ble_eq_true rfl⟩ rfl rfl rfl (Nat.le_of_ble_eq_true rfl) dL_law_718 (fun r2 τ1 h => ?_)
  refine lm_icmp_eq (tgt := 802) X (by decide) dL_law_721 (fun _ => ?_) (fun q => absurd h.1 q)
  exact hnext σ1 τ1 h.2
set_option maxRecDepth 100000 in
set_option maxHeartbeats 4000000 in
theorem law_case_20 {p : Program} {l : Launch} {e : Env} {s : State} {m : MethodId} {b : Nat} {below : List Frame} {meth : Method} {c : Code} {G : va_G} {tI tJ tZ : ClassId} {aC aM : Nat → Nat} {σ τ : St} {L : Nat} {xs : Nat → Int32} (X : Lx p s m meth c b L xs G tI tJ tZ aC aM) {x3 : Int32} (hi : ∀ k : Int32, 0 ≤ k → k < 7 → vp_in (x3 + k) L) {next : St → St → Prop} (h : wp_X6_pair (xs (x3 + 1).toNatClampNeg) (xs (x3 + 2).toNatClampNeg) (xs (x3 + 3).toNatClampNeg) (xs (x3 + 4).toNatClampNeg) (xs (x3 + 5).toNatClampNeg) (xs (x3 + 6).toNatClampNeg) σ (fun r1 σ1 => wp_X7_pair (xs (x3 + 1).toNatClampNeg) (xs (x3 + 2).toNatClampNeg) (xs (x3 + 3).toNatClampNeg) (xs (x3 + 4).toNatClampNeg) (xs (x3 + 5).toNatClampNeg) (xs (x3 + 6).toNatClampNeg) τ (fun r2 τ1 => r1 = r2 ∧ next σ1 τ1))) (hnext : ∀ σ τ, next σ τ → lm p l e s m b below meth c G tI tJ tZ aC aM σ τ [(0, .ref b), (1, .ref (aC 0)), (2, .ref (aM 0)), (3, .int x3)] 802 []) : lm p l e s m b below meth c G tI tJ tZ aC aM σ τ [(0, .ref b), (1, .ref (aC 0)), (2, .ref (aM 0)), (3, .int x3)] 726 [] := by
  refine lm_aload_n X 1 rfl dL_law_726 ?_
  refine lm_aload_n X 0 rfl dL_law_727 ?_
  refine lm_iload_n X 3 rfl dL_law_728 ?_
  refine lm_iconst (v := 1) X (by decide) dL_law_729 ?_
  refine lm_iadd X dL_law_730 ?_
  refine lm_sld X (hi 1 (by decide) (by decide)) dL_law_731 ?_
  refine lm_aload_n X 0 rfl dL_law_732 ?_
  refine lm_iload_n X 3 rfl dL_law_733 ?_
  refine lm_iconst (v := 2) X (by decide) dL_law_734 ?_
  refine lm_iadd X dL_law_735 ?_
  refine lm_sld X (hi 2 (by decide) (by decide)) dL_law_736 ?_
  refine lm_aload_n X 0 rfl dL_law_737 ?_
  refine lm_iload_n X 3 rfl dL_law_738 ?_
  refine lm_iconst (v := 3) X (by decide) dL_law_739 ?_
  refine lm_iadd X dL_law_740 ?_
  refine lm_sld X (hi 3 (by decide) (by decide)) dL_law_741 ?_
  refine lm_aload_n X 0 rfl dL_law_742 ?_
  refine lm_iload_n X 3 rfl dL_law_743 ?_
  refine lm_iconst (v := 4) X (by decide) dL_law_744 ?_
  refine lm_iadd X dL_law_745 ?_
  refine lm_sld X (hi 4 (by decide) (by decide)) dL_law_746 ?_
  refine lm_aload_n X 0 rfl dL_law_747 ?_
  refine lm_iload_n X 3 rfl dL_law_748 ?_
  refine lm_iconst (v := 5) X (by decide) dL_law_749 ?_
  refine lm_iadd X dL_law_750 ?_
  refine lm_sld X (hi 5 (by decide) (by decide)) dL_law_751 ?_
  refine lm_aload_n X 0 rfl dL_law_752 ?_
  refine lm_iload_n X 3 rfl dL_law_753 ?_
  refine lm_bipush (v := 6) X (by decide) dL_law_754 ?_
  refine lm_iadd X dL_law_756 ?_
  refine lm_sld X (hi 6 (by decide) (by decide)) dL_law_757 ?_
  refine lm_callCl (n := 6) (As := [.int (xs (x3 + 1).toNatClampNeg), .int (xs (x3 + 2).toNatClampNeg), .int (xs (x3 + 3).toNatClampNeg), .int (xs (x3 + 4).toNatClampNeg), .int (xs (x3 + 5).toNatClampNeg), .int (xs (x3 + 6).toNatClampNeg)]) (rest := []) X (c_X6_pair l G tI tJ tZ aC X.2.2.2.2.2.2.2.2.2.2.2.1 (xs (x3 + 1).toNatClampNeg) (xs (x3 + 2).toNatClampNeg) (xs (x3 + 3).toNatClampNeg) (xs (x3 + 4).toNatClampNeg) (xs (x3 + 5).toNatClampNeg) (xs (x3 + 6).toNatClampNeg) σ _ h) gL_law_X6_pair rfl ⟨rfl, rfl⟩ (by decide +kernel) ⟨Nat.le_of_ble_eq_true rfl, Nat.le_of_ble_eq_true rfl⟩ rfl rfl rfl (Nat.le_of_ble_eq_true rfl) dL_law_758 (fun r1 σ1 h => ?_)
  refine lm_aload_n X 2 rfl dL_law_761 ?_
  refine lm_aload_n X 0 rfl dL_law_762 ?_
  refine lm_iload_n X 3 rfl dL_law_763 ?_
  refine lm_iconst (v := 1) X (by decide) dL_law_764 ?_
  refine lm_iadd X dL_law_765 ?_
  refine lm_sld X (hi 1 (by decide) (by decide)) dL_law_766 ?_
  refine lm_aload_n X 0 rfl dL_law_767 ?_
  refine lm_iload_n X 3 rfl dL_law_768 ?_
  refine lm_iconst (v := 2) X (by decide) dL_law_769 ?_
  refine lm_iadd X dL_law_770 ?_
  refine lm_sld X (hi 2 (by decide) (by decide)) dL_law_771 ?_
  refine lm_aload_n X 0 rfl dL_law_772 ?_
  refine lm_iload_n X 3 rfl dL_law_773 ?_
  refine lm_iconst (v := 3) X (by decide) dL_law_774 ?_
  refine lm_iadd X dL_law_775 ?_
  refine lm_sld X (hi 3 (by decide) (by decide)) dL_law_776 ?_
  refine lm_aload_n X 0 rfl dL_law_777 ?_
  refine lm_iload_n X 3 rfl dL_law_778 ?_
  refine lm_iconst (v := 4) X (by decide) dL_law_779 ?_
  refine lm_iadd X dL_law_780 ?_
  refine lm_sld X (hi 4 (by decide) (by decide)) dL_law_781 ?_
  refine lm_aload_n X 0 rfl dL_law_782 ?_
  refine lm_iload_n X 3 rfl dL_law_783 ?_
  refine lm_iconst (v := 5) X (by decide) dL_law_784 ?_
  refine lm_iadd X dL_law_785 ?_
  refine lm_sld X (hi 5 (by decide) (by decide)) dL_law_786 ?_
  refine lm_aload_n X 0 rfl dL_law_787 ?_
  refine lm_iload_n X 3 rfl dL_law_788 ?_
  refine lm_bipush (v := 6) X (by decide) dL_law_789 ?_
  refine lm_iadd X dL_law_791 ?_
  refine lm_sld X (hi 6 (by decide) (by decide)) dL_law_792 ?_
  refine lm_callMl (n := 6) (As := [.int (xs (x3 + 1).toNatClampNeg), .int (xs (x3 + 2).toNatClampNeg), .int (xs (x3 + 3).toNatClampNeg), .int (xs (x3 + 4).toNatClampNeg), .int (xs (x3 + 5).toNatClampNeg), .int (xs (x3 + 6).toNatClampNeg)]) (rest := [.long r1]) X (c_X7_pair l G tI tJ tZ aM X.2.2.2.2.2.2.2.2.2.2.2.2.1 (xs (x3 + 1).toNatClampNeg) (xs (x3 + 2).toNatClampNeg) (xs (x3 + 3).toNatClampNeg) (xs (x3 + 4).toNatClampNeg) (xs (x3 + 5).toNatClampNeg) (xs (x3 + 6).toNatClampNeg) τ _ h) gL_law_X7_pair rfl ⟨rfl, rfl⟩ (by decide +kernel) ⟨Nat.le_of_ble_eq_true rfl, Nat.le_of_ble_eq_true rfl⟩ rfl rfl rfl (Nat.le_of_ble_eq_true rfl) dL_law_793 (fun r2 τ1 h => ?_)
  refine lm_lcmp X dL_law_796 ?_
  refine lm_if_eq (tgt := 802) X (by decide) dL_law_797 (fun _ => ?_) (fun q => absurd ((lc_eq _ _).mpr h.1) q)
  exact hnext σ1 τ1 h.2
theorem law_idx {L j : Nat} (hL : L ≤ 3584) (h : j + 7 ≤ L) : ∀ k : Int32, 0 ≤ k → k < 7 → vp_in (nI j + k) L := by
  intro k h0 h7
  rw [vp_in_iff]
  have e1 : (0 : Int32).toInt = 0 := by decide
  have e2 : (7 : Int32).toInt = 7 := by decide
  rw [Int32.le_iff_toInt_le, e1] at h0
  rw [Int32.lt_iff_toInt_lt, e2] at h7
  have hj : (nI j).toInt = j := nI_toInt (by omega)
  rw [Int32.toInt_add, hj, Int.bmod_eq_of_le (by omega) (by omega)]
  omega
theorem law_go {L j : Nat} (hL : L ≤ 3584) (hj : j ≤ L) (h : ¬ (Int32.ofNat L - 7 < nI j)) : j + 7 ≤ L := by
  rw [Int32.lt_iff_toInt_lt, Int32.toInt_sub] at h
  have e1 : (Int32.ofNat L).toInt = L := nI_toInt (n := L) (by omega)
  have e2 : (7 : Int32).toInt = 7 := by decide
  rw [e1, e2, nI_toInt (by omega), Int.bmod_eq_of_le (by omega) (by omega)] at h
  omega

theorem sw_out20 {x : Int32} (h0 : ¬ x = 0) (h1 : ¬ x = 1) (h2 : ¬ x = 2) (h3 : ¬ x = 3) (h4 : ¬ x = 4) (h5 : ¬ x = 5) (h6 : ¬ x = 6) (h7 : ¬ x = 7) (h8 : ¬ x = 8) (h9 : ¬ x = 9) (h10 : ¬ x = 10) (h11 : ¬ x = 11) (h12 : ¬ x = 12) (h13 : ¬ x = 13) (h14 : ¬ x = 14) (h15 : ¬ x = 15) (h16 : ¬ x = 16) (h17 : ¬ x = 17) (h18 : ¬ x = 18) (h19 : ¬ x = 19) (h20 : ¬ x = 20) : x.toInt < 0 ∨ 20 < x.toInt := by
  have := sw_ne (a := 0) h0 (by decide)
  have := sw_ne (a := 1) h1 (by decide)
  have := sw_ne (a := 2) h2 (by decide)
  have := sw_ne (a := 3) h3 (by decide)
  have := sw_ne (a := 4) h4 (by decide)
  have := sw_ne (a := 5) h5 (by decide)
  have := sw_ne (a := 6) h6 (by decide)
  have := sw_ne (a := 7) h7 (by decide)
  have := sw_ne (a := 8) h8 (by decide)
  have := sw_ne (a := 9) h9 (by decide)
  have := sw_ne (a := 10) h10 (by decide)
  have := sw_ne (a := 11) h11 (by decide)
  have := sw_ne (a := 12) h12 (by decide)
  have := sw_ne (a := 13) h13 (by decide)
  have := sw_ne (a := 14) h14 (by decide)
  have := sw_ne (a := 15) h15 (by decide)
  have := sw_ne (a := 16) h16 (by decide)
  have := sw_ne (a := 17) h17 (by decide)
  have := sw_ne (a := 18) h18 (by decide)
  have := sw_ne (a := 19) h19 (by decide)
  have := sw_ne (a := 20) h20 (by decide)
  omega
set_option maxRecDepth 100000 in
set_option maxHeartbeats 4000000 in
theorem law_loop {p : Program} {l : Launch} {e : Env} {s : State} {m : MethodId} {b : Nat} {below : List Frame} {meth : Method} {c : Code} {G : va_G} {tI tJ tZ : ClassId} {aC aM : Nat → Nat} {L : Nat} {xs : Nat → Int32} (hL : L ≤ 3584) (X : Lx p s m meth c b L xs G tI tJ tZ aC aM) {Inv : St → St → Prop} (hInv : ∀ k a1 a2 a3 a4 a5 a6 σ τ, Inv σ τ → StepOk k a1 a2 a3 a4 a5 a6 σ τ Inv) : ∀ (n j : Nat) (x3 : Int32) (σ τ : St), x3 = nI j → j ≤ L → L < j + n → Inv σ τ → lm p l e s m b below meth c G tI tJ tZ aC aM σ τ [(0, .ref b), (1, .ref (aC 0)), (2, .ref (aM 0)), (3, .int x3)] 18 [] := by
  intro n
  induction n with
  | zero => intro j x3 σ τ _ h1 h2; exact absurd h2 (by omega)
  | succ n ih =>
    intro j x3 σ τ ex hj hn hI
    refine lm_iload_n X 3 rfl dL_law_18 ?_
    refine lm_aload_n X 0 rfl dL_law_19 ?_
    refine lm_slen X dL_law_20 ?_
    refine lm_bipush (v := 7) X (by decide) dL_law_21 ?_
    refine lm_isub X dL_law_23 ?_
    refine lm_icmp_gt (tgt := 808) X (by decide) dL_law_24 (fun _ => ?_) (fun c1 => ?_)
    · refine lm_iconst (v := 1) X (by decide) dL_law_808 ?_
      exact lm_end X dL_law_809
    have h7 : j + 7 ≤ L := law_go hL hj (by rw [← ex]; exact c1)
    have hi0 : ∀ k : Int32, 0 ≤ k → k < 7 → vp_in (x3 + k) L := by rw [ex]; exact law_idx hL h7
    have hi := hi0
    refine lm_aload_n X 0 rfl dL_law_27 ?_
    refine lm_iload_n X 3 rfl dL_law_28 ?_
    refine lm_sld X (by have := hi 0 (by decide) (by decide); rwa [Int32.add_zero] at this) dL_law_29 ?_
    refine lm_bipush (v := 31) X (by decide) dL_law_30 ?_
    refine lm_iand X dL_law_32 ?_
    have hnext : ∀ σ τ, Inv σ τ → lm p l e s m b below meth c G tI tJ tZ aC aM σ τ [(0, .ref b), (1, .ref (aC 0)), (2, .ref (aM 0)), (3, .int x3)] 802 [] := by
      intro σ τ hI
      refine lm_iinc (v := nI (j + 7)) (lv' := [(3, .int (nI (j + 7))), (0, .ref b), (1, .ref (aC 0)), (2, .ref (aM 0))]) X 3 rfl (by rw [ex, ← nI_add]; rfl) (by decide) rfl dL_law_802 ?_
      refine lm_goto (tgt := 18) X (by decide) dL_law_805 ?_
      refine lm_sub [1, 2, 3, 0] (lv' := [(0, .ref b), (1, .ref (aC 0)), (2, .ref (aM 0)), (3, .int (nI (j + 7)))]) rfl ?_
      exact ih (j + 7) (nI (j + 7)) σ τ rfl h7 (by omega) hI
    have hst := hInv (xs x3.toNatClampNeg &&& 31) (xs (x3 + 1).toNatClampNeg) (xs (x3 + 2).toNatClampNeg) (xs (x3 + 3).toNatClampNeg) (xs (x3 + 4).toNatClampNeg) (xs (x3 + 5).toNatClampNeg) (xs (x3 + 6).toNatClampNeg) σ τ hI
    by_cases k0 : (xs x3.toNatClampNeg &&& 31) = 0
    · refine lm_tabIn (off := 99) (tgt := 132) X (by rw [k0]; decide) (by rw [k0]; decide) (by rw [k0]; rfl) (by decide) dL_law_33 ?_
      exact law_case_0 X hi (hst.1 k0) hnext
    by_cases k1 : (xs x3.toNatClampNeg &&& 31) = 1
    · refine lm_tabIn (off := 122) (tgt := 155) X (by rw [k1]; decide) (by rw [k1]; decide) (by rw [k1]; rfl) (by decide) dL_law_33 ?_
      exact law_case_1 X hi (hst.2.1 k1) hnext
    by_cases k2 : (xs x3.toNatClampNeg &&& 31) = 2
    · refine lm_tabIn (off := 155) (tgt := 188) X (by rw [k2]; decide) (by rw [k2]; decide) (by rw [k2]; rfl) (by decide) dL_law_33 ?_
      exact law_case_2 X hi (hst.2.2.1 k2) hnext
    by_cases k3 : (xs x3.toNatClampNeg &&& 31) = 3
    · refine lm_tabIn (off := 188) (tgt := 221) X (by rw [k3]; decide) (by rw [k3]; decide) (by rw [k3]; rfl) (by decide) dL_law_33 ?_
      exact law_case_3 X hi (hst.2.2.2.1 k3) hnext
    by_cases k4 : (xs x3.toNatClampNeg &&& 31) = 4
    · refine lm_tabIn (off := 221) (tgt := 254) X (by rw [k4]; decide) (by rw [k4]; decide) (by rw [k4]; rfl) (by decide) dL_law_33 ?_
      exact law_case_4 X hi (hst.2.2.2.2.1 k4) hnext
    by_cases k5 : (xs x3.toNatClampNeg &&& 31) = 5
    · refine lm_tabIn (off := 270) (tgt := 303) X (by rw [k5]; decide) (by rw [k5]; decide) (by rw [k5]; rfl) (by decide) dL_law_33 ?_
      exact law_case_5 X hi (hst.2.2.2.2.2.1 k5) hnext
    by_cases k6 : (xs x3.toNatClampNeg &&& 31) = 6
    · refine lm_tabIn (off := 319) (tgt := 352) X (by rw [k6]; decide) (by rw [k6]; decide) (by rw [k6]; rfl) (by decide) dL_law_33 ?_
      exact law_case_6 X hi (hst.2.2.2.2.2.2.1 k6) hnext
    by_cases k7 : (xs x3.toNatClampNeg &&& 31) = 7
    · refine lm_tabIn (off := 332) (tgt := 365) X (by rw [k7]; decide) (by rw [k7]; decide) (by rw [k7]; rfl) (by decide) dL_law_33 ?_
      exact law_case_7 X hi (hst.2.2.2.2.2.2.2.1 k7) hnext
    by_cases k8 : (xs x3.toNatClampNeg &&& 31) = 8
    · refine lm_tabIn (off := 365) (tgt := 398) X (by rw [k8]; decide) (by rw [k8]; decide) (by rw [k8]; rfl) (by decide) dL_law_33 ?_
      exact law_case_8 X hi (hst.2.2.2.2.2.2.2.2.1 k8) hnext
    by_cases k9 : (xs x3.toNatClampNeg &&& 31) = 9
    · refine lm_tabIn (off := 388) (tgt := 421) X (by rw [k9]; decide) (by rw [k9]; decide) (by rw [k9]; rfl) (by decide) dL_law_33 ?_
      exact law_case_9 X hi (hst.2.2.2.2.2.2.2.2.2.1 k9) hnext
    by_cases k10 : (xs x3.toNatClampNeg &&& 31) = 10
    · refine lm_tabIn (off := 401) (tgt := 434) X (by rw [k10]; decide) (by rw [k10]; decide) (by rw [k10]; rfl) (by decide) dL_law_33 ?_
      exact law_case_10 X hi (hst.2.2.2.2.2.2.2.2.2.2.1 k10) hnext
    by_cases k11 : (xs x3.toNatClampNeg &&& 31) = 11
    · refine lm_tabIn (off := 445) (tgt := 478) X (by rw [k11]; decide) (by rw [k11]; decide) (by rw [k11]; rfl) (by decide) dL_law_33 ?_
      exact law_case_11 X hi (hst.2.2.2.2.2.2.2.2.2.2.2.1 k11) hnext
    by_cases k12 : (xs x3.toNatClampNeg &&& 31) = 12
    · refine lm_tabIn (off := 499) (tgt := 532) X (by rw [k12]; decide) (by rw [k12]; decide) (by rw [k12]; rfl) (by decide) dL_law_33 ?_
      exact law_case_12 X hi (hst.2.2.2.2.2.2.2.2.2.2.2.2.1 k12) hnext
    by_cases k13 : (xs x3.toNatClampNeg &&& 31) = 13
    · refine lm_tabIn (off := 522) (tgt := 555) X (by rw [k13]; decide) (by rw [k13]; decide) (by rw [k13]; rfl) (by decide) dL_law_33 ?_
      exact law_case_13 X hi (hst.2.2.2.2.2.2.2.2.2.2.2.2.2.1 k13) hnext
    by_cases k14 : (xs x3.toNatClampNeg &&& 31) = 14
    · refine lm_tabIn (off := 545) (tgt := 578) X (by rw [k14]; decide) (by rw [k14]; decide) (by rw [k14]; rfl) (by decide) dL_law_33 ?_
      exact law_case_14 X hi (hst.2.2.2.2.2.2.2.2.2.2.2.2.2.2.1 k14) hnext
    by_cases k15 : (xs x3.toNatClampNeg &&& 31) = 15
    · refine lm_tabIn (off := 568) (tgt := 601) X (by rw [k15]; decide) (by rw [k15]; decide) (by rw [k15]; rfl) (by decide) dL_law_33 ?_
      exact law_case_15 X hi (hst.2.2.2.2.2.2.2.2.2.2.2.2.2.2.2.1 k15) hnext
    by_cases k16 : (xs x3.toNatClampNeg &&& 31) = 16
    · refine lm_tabIn (off := 591) (tgt := 624) X (by rw [k16]; decide) (by rw [k16]; decide) (by rw [k16]; rfl) (by decide) dL_law_33 ?_
      exact law_case_16 X hi (hst.2.2.2.2.2.2.2.2.2.2.2.2.2.2.2.2.1 k16) hnext
    by_cases k17 : (xs x3.toNatClampNeg &&& 31) = 17
    · refine lm_tabIn (off := 614) (tgt := 647) X (by rw [k17]; decide) (by rw [k17]; decide) (by rw [k17]; rfl) (by decide) dL_law_33 ?_
      exact law_case_17 X hi (hst.2.2.2.2.2.2.2.2.2.2.2.2.2.2.2.2.2.1 k17) hnext
    by_cases k18 : (xs x3.toNatClampNeg &&& 31) = 18
    · refine lm_tabIn (off := 647) (tgt := 680) X (by rw [k18]; decide) (by rw [k18]; decide) (by rw [k18]; rfl) (by decide) dL_law_33 ?_
      exact law_case_18 X hi (hst.2.2.2.2.2.2.2.2.2.2.2.2.2.2.2.2.2.2.1 k18) hnext
    by_cases k19 : (xs x3.toNatClampNeg &&& 31) = 19
    · refine lm_tabIn (off := 670) (tgt := 703) X (by rw [k19]; decide) (by rw [k19]; decide) (by rw [k19]; rfl) (by decide) dL_law_33 ?_
      exact law_case_19 X hi (hst.2.2.2.2.2.2.2.2.2.2.2.2.2.2.2.2.2.2.2.1 k19) hnext
    by_cases k20 : (xs x3.toNatClampNeg &&& 31) = 20
    · refine lm_tabIn (off := 693) (tgt := 726) X (by rw [k20]; decide) (by rw [k20]; decide) (by rw [k20]; rfl) (by decide) dL_law_33 ?_
      exact law_case_20 X hi (hst.2.2.2.2.2.2.2.2.2.2.2.2.2.2.2.2.2.2.2.2 k20) hnext
    refine lm_tabOut (tgt := 802) X (sw_out20 k0 k1 k2 k3 k4 k5 k6 k7 k8 k9 k10 k11 k12 k13 k14 k15 k16 k17 k18 k19 k20) (by decide) dL_law_33 ?_
    exact hnext σ τ hI
def sC0 : St := (fun k => if k = 0 then 4 else if k = 10 then -1 else 0, fun k => if k = 0 then 1 else 0, fun _ _ => 0, fun _ _ => 0)
def sM0 : St := (fun k => if k = 0 then 4 else 0, fun _ => 0, fun _ _ => 0, fun _ _ => 0)
set_option maxRecDepth 100000 in
set_option maxHeartbeats 8000000 in
theorem whole_of_inv {Inv : St → St → Prop} (hInv0 : Inv sC0 sM0) (hInv : ∀ k a1 a2 a3 a4 a5 a6 σ τ, Inv σ τ → StepOk k a1 a2 a3 a4 a5 a6 σ τ Inv) {p : Program} {e : Env} {s : State} {m : MethodId} {below : List Frame} {meth : Method} {c : Code} (l : Launch) {b L : Nat} {xs : Nat → Int32} (hL : L ≤ 3584) (C0 : lw_At p s m meth c b L xs) : W p l e room_1 s m #[Value.ref b] below meth c s.heap [] 0 0 (lw_Z below #[Value.ref b] s) (entryFrame m ([Value.ref b] : List Value).toArray 4) := by
  obtain ⟨hx, hb, hr, hml, hown, hts0, hX, hbl, hlocks, hgv⟩ := C0
  have hts : ∀ w ∈ wsL_law, w.before #[Value.ref b] s = true := fun w h => hts0 w (wsL_law_in w h)
  obtain ⟨k0, i0, hKn0⟩ := u_known (C := RX0) (T := TX0) (N := 13) (n := 13) hts0 inX0 (hts0 (.instantiable RX0 13) (by decide +kernel))
  obtain ⟨k1, i1, hKn1⟩ := u_known (C := RX1) (T := TX1) (N := 3) (n := 3) hts0 inX1 (hts0 (.instantiable RX1 3) (by decide +kernel))
  obtain ⟨k2, i2, hKn2⟩ := u_known (C := RX2) (T := TX2) (N := 8) (n := 8) hts0 inX2 (hts0 (.instantiable RX2 8) (by decide +kernel))
  obtain ⟨k3, i3, hKn3⟩ := u_known (C := RX3) (T := TX3) (N := 2) (n := 2) hts0 inX3 (hts0 (.instantiable RX3 2) (by decide +kernel))
  obtain ⟨k4, i4, hKn4⟩ := u_known (C := RX4) (T := TX4) (N := 1) (n := 1) hts0 inX4 (hts0 (.instantiable RX4 1) (by decide +kernel))
  obtain ⟨k5, i5, hKn5⟩ := u_known (C := RX5) (T := TX5) (N := 6) (n := 6) hts0 inX5 (hts0 (.instantiable RX5 6) (by decide +kernel))
  obtain ⟨k6, i6, hKn6⟩ := u_known (C := RX6) (T := TX6) (N := 5) (n := 5) hts0 inX6 (hts0 (.instantiable RX6 5) (by decide +kernel))
  obtain ⟨k7, i7, hKn7⟩ := u_known (C := RX7) (T := TX7) (N := 18) (n := 18) hts0 inX7 (hts0 (.instantiable RX7 18) (by decide +kernel))
  obtain ⟨tI, kI, cI, nI1, nI2, nI3⟩ := Cond.arrayClass_spec (hts (.arrayClass .int) (by decide +kernel))
  obtain ⟨tJ, kJ, cJ, nJ1, nJ2, nJ3⟩ := Cond.arrayClass_spec (hts (.arrayClass .long) (by decide +kernel))
  obtain ⟨tZ, kZ, cZ, nZ1, nZ2, nZ3⟩ := Cond.arrayClass_spec (hts (.arrayClass .boolean) (by decide +kernel))
  obtain ⟨G, hKc⟩ : ∃ G : va_G, ∀ (k : Nat) (q : vw_C), vwCl[k]? = some q → u_Kn s q.1 q.2.1 q.2.2 (G.1 k) (G.2 k) := by
    refine ⟨(fun k => match k with | 0 => k0 | 1 => k1 | 2 => k2 | 3 => k3 | 4 => k4 | 5 => k5 | 6 => k6 | _ => k7, fun k => match k with | 0 => i0 | 1 => i1 | 2 => i2 | 3 => i3 | 4 => i4 | 5 => i5 | 6 => i6 | _ => i7), ?_⟩
    intro k q hq
    match k, hq with
    | 0, hq => cases hq; exact hKn0
    | 1, hq => cases hq; exact hKn1
    | 2, hq => cases hq; exact hKn2
    | 3, hq => cases hq; exact hKn3
    | 4, hq => cases hq; exact hKn4
    | 5, hq => cases hq; exact hKn5
    | 6, hq => cases hq; exact hKn6
    | 7, hq => cases hq; exact hKn7
    | k + 8, hq => simp [vwCl] at hq
  have hK : va_K G vwCl (tyL tI tJ tZ) s := by
    refine ⟨hKc, fun k q h => ?_⟩
    match k, h with
    | 0, h => cases h; exact ⟨fun n z => ⟨fun k h => (by cases h), kI, nI2, cI, nI3⟩, nI1⟩
    | 1, h => cases h; exact ⟨fun n z => ⟨fun k h => (by cases h), kJ, nJ2, cJ, nJ3⟩, nJ1⟩
    | 2, h => cases h; exact ⟨fun n z => ⟨fun k h => (by cases h), kZ, nZ2, cZ, nZ3⟩, nZ1⟩
    | k + 3, h => simp [tyL] at h
  have hN : Nst s := by
    intro q hq
    have : q ∈ NstL → (Cond.methodLinkNest q.1 q.2.1 q.2.2 "EndMeters") ∈ lw_tbl := by
      revert q; decide +kernel
    exact va_Nw.of rfl (hts0 _ (this hq))
  have X : Ix p s m #[Value.ref b] meth c code 4 RL wsL_law G (tyL tI tJ tZ) (A0 s) := ⟨hx, hb, hml, hown, hts, hlocks, hK, hN, fun q h => h⟩
  have hl := lv_entry ([.ref b]) (n := 4) (Nat.le_of_ble_eq_true rfl)
  rw [lg_entry_eq]
  have hP : va_P G vwCl [] s.heap := fun k q h => by simp at h
  have hD : va_D (A0 s) [] := ⟨fun i j p q h => by simp at h, fun k q h => by simp at h⟩
  refine (show im p l e room_1 s m #[Value.ref b] below meth c G (A0 s) 4 (lw_Z below #[Value.ref b] s) 0 0 [] [(0, .ref b)] 0 [] from ?_) s.heap [] _ hP hD va_S.rf hl
  refine im_new (ci := 6) (fs := [.null, .null, .null, .null, .null]) X inlX6 tyX6 tyX6_ok (by decide +kernel) (by decide +kernel) (by decide +kernel) rfl (fun j hj => by rcases (show j = 0 ∨ j = 1 ∨ j = 2 ∨ j = 3 ∨ j = 4 by omega) with rfl | rfl | rfl | rfl | rfl <;> rfl) (Nat.le_of_ble_eq_true rfl) (Nat.le_of_ble_eq_true rfl) dL_law_0 (fun q1 => ?_)
  refine im_dup X rfl dL_law_3 ?_
  refine im_callI (rest := [.ref q1]) (wr := []) X 0 [] rfl rfl (by decide) (by decide) (fun sz => c_X6_init l G tI tJ tZ q1 sz) gL_law_X6_init rfl ⟨rfl, rfl⟩ (by decide +kernel) (by decide +kernel) (by decide +kernel) rfl (by decide +kernel) ⟨Nat.le_of_ble_eq_true rfl, Nat.le_of_ble_eq_true rfl⟩ (Nat.le_of_ble_eq_true rfl) ⟨Nat.le_of_ble_eq_true rfl, Nat.le_of_ble_eq_true rfl⟩ dL_law_4 (fun a1 => ?_)
  refine im_astore_n (lv' := [(1, .ref q1), (0, .ref b)]) X rfl (by decide) rfl dL_law_7 ?_
  refine im_new (ci := 7) (fs := [.int 0, .null, .null, .null, .null, .int 0, .null, .int 0, .null, .int 0, .long 0, .null, .null, .long 0, .null, .long 0, .null, .int 0]) X inlX7 tyX7 tyX7_ok (by decide +kernel) (by decide +kernel) (by decide +kernel) rfl (fun j hj => by rcases (show j = 0 ∨ j = 1 ∨ j = 2 ∨ j = 3 ∨ j = 4 ∨ j = 5 ∨ j = 6 ∨ j = 7 ∨ j = 8 ∨ j = 9 ∨ j = 10 ∨ j = 11 ∨ j = 12 ∨ j = 13 ∨ j = 14 ∨ j = 15 ∨ j = 16 ∨ j = 17 by omega) with rfl | rfl | rfl | rfl | rfl | rfl | rfl | rfl | rfl | rfl | rfl | rfl | rfl | rfl | rfl | rfl | rfl | rfl <;> rfl) (Nat.le_of_ble_eq_true rfl) (Nat.le_of_ble_eq_true rfl) dL_law_8 (fun q2 => ?_)
  refine im_dup X rfl dL_law_11 ?_
  refine im_callI (rest := [.ref q2]) (wr := Wf_X6 tI tJ tZ q1 a1) X 22 [0, 1, 2, 3, 4, 5, 6, 7, 8, 9, 10, 11, 12, 13, 14, 15, 16, 17, 18, 19, 20, 21] rfl rfl (by decide) (by decide) (fun sz => c_X7_init l G tI tJ tZ q2 sz) gL_law_X7_init rfl ⟨rfl, rfl⟩ (by decide +kernel) (by decide +kernel) (by decide +kernel) rfl (by decide +kernel) ⟨Nat.le_of_ble_eq_true rfl, Nat.le_of_ble_eq_true rfl⟩ (Nat.le_of_ble_eq_true rfl) ⟨Nat.le_of_ble_eq_true rfl, Nat.le_of_ble_eq_true rfl⟩ dL_law_12 (fun a2 => ?_)
  refine im_astore_n (lv' := [(2, .ref q2), (1, .ref q1), (0, .ref b)]) X rfl (by decide) rfl dL_law_15 ?_
  intro H locs ls hP hD hS hl
  refine lv_iconst (v := 0) hx hb dL_law_16 (by decide) ?_
  refine lv_istore_n (lv' := [(3, .int 0), (2, .ref q2), (1, .ref q1), (0, .ref b)]) hx hb dL_law_17 rfl hl (by decide) rfl (fun ls hl => ?_)
  have eC : wdC tI tJ tZ (fun k => ([q1, a1 0, a1 1, a1 2, a1 3, a1 4, a1 5, a1 6, a1 7, a1 8, a1 9, a1 10, a1 11, a1 12, a1 13, a1 14, a1 15, a1 16, a1 17, a1 18, a1 19, a1 20] : List Nat).getD k 0) sC0 = Wf_X6 tI tJ tZ q1 a1 := rfl
  have eM : wdM tI tJ tZ (fun k => ([q2, a2 0, a2 1, a2 2, a2 3, a2 4, a2 5, a2 6, a2 7, a2 8, a2 9] : List Nat).getD k 0) sM0 = Wf_X7 tI tJ tZ q2 a2 := rfl
  have hlen : (Wf_X6 tI tJ tZ q1 a1).length = 22 := rfl
  have hcell : ∀ (k : Nat) (q : Nat × va_E), (Wf_X6 tI tJ tZ q1 a1)[k]? = some q → (Wf_X6 tI tJ tZ q1 a1 ++ Wf_X7 tI tJ tZ q2 a2)[k]? = some q := fun k q h => by
    rw [List.getElem?_append_left (List.getElem?_eq_some_iff.mp h).1]; exact h
  have hcell2 : ∀ (k : Nat) (q : Nat × va_E), (Wf_X7 tI tJ tZ q2 a2)[k]? = some q → (Wf_X6 tI tJ tZ q1 a1 ++ Wf_X7 tI tJ tZ q2 a2)[22 + k]? = some q := fun k q h => by
    rw [List.getElem?_append_right (by rw [hlen]; omega), hlen, Nat.add_sub_cancel_left]; exact h
  have hPC : va_P G vwCl (wdC tI tJ tZ (fun k => ([q1, a1 0, a1 1, a1 2, a1 3, a1 4, a1 5, a1 6, a1 7, a1 8, a1 9, a1 10, a1 11, a1 12, a1 13, a1 14, a1 15, a1 16, a1 17, a1 18, a1 19, a1 20] : List Nat).getD k 0) sC0) H := by rw [eC]; exact fun k q h => hP k q (hcell k q h)
  have hPM : va_P G vwCl (wdM tI tJ tZ (fun k => ([q2, a2 0, a2 1, a2 2, a2 3, a2 4, a2 5, a2 6, a2 7, a2 8, a2 9] : List Nat).getD k 0) sM0) H := by rw [eM]; exact fun k q h => hP _ q (hcell2 k q h)
  generalize hgC : (fun k => ([q1, a1 0, a1 1, a1 2, a1 3, a1 4, a1 5, a1 6, a1 7, a1 8, a1 9, a1 10, a1 11, a1 12, a1 13, a1 14, a1 15, a1 16, a1 17, a1 18, a1 19, a1 20] : List Nat).getD k 0) = aC at eC hPC
  generalize hgM : (fun k => ([q2, a2 0, a2 1, a2 2, a2 3, a2 4, a2 5, a2 6, a2 7, a2 8, a2 9] : List Nat).getD k 0) = aM at eM hPM
  have e1 : q1 = aC 0 := by rw [← hgC]; rfl
  have e2 : q2 = aM 0 := by rw [← hgM]; rfl
  have atC : ∀ i, i < 22 → ∃ q : Nat × va_E, (wdC tI tJ tZ aC sC0)[i]? = some q ∧ q.1 = aC i := fun i hi => by
    obtain ⟨q, hq⟩ : ∃ q, (wdC tI tJ tZ aC sC0)[i]? = some q := ⟨_, List.getElem?_eq_getElem (by exact hi)⟩
    exact ⟨q, hq, (adC_at hq).2.symm⟩
  have atM : ∀ i, i < 11 → ∃ q : Nat × va_E, (wdM tI tJ tZ aM sM0)[i]? = some q ∧ q.1 = aM i := fun i hi => by
    obtain ⟨q, hq⟩ : ∃ q, (wdM tI tJ tZ aM sM0)[i]? = some q := ⟨_, List.getElem?_eq_getElem (by exact hi)⟩
    exact ⟨q, hq, (adM_at hq).2.symm⟩
  have inC : ∀ i j, i < 22 → j < 22 → aC i = aC j → i = j := fun i j hi hj hij => by
    obtain ⟨x, h1, h2⟩ := atC i hi
    obtain ⟨y, h3, h4⟩ := atC j hj
    rw [eC] at h1 h3
    exact hD.1 i j x y (hcell _ _ h1) (hcell _ _ h3) (by rw [h2, h4]; exact hij)
  have inM : ∀ i j, i < 11 → j < 11 → aM i = aM j → i = j := fun i j hi hj hij => by
    obtain ⟨x, h1, h2⟩ := atM i hi
    obtain ⟨y, h3, h4⟩ := atM j hj
    rw [eM] at h1 h3
    have := hD.1 _ _ x y (hcell2 _ _ h1) (hcell2 _ _ h3) (by rw [h2, h4]; exact hij)
    omega
  have hDC : ∀ σ, va_D (Ad 22 aC) (wdC tI tJ tZ aC σ) := fun σ => ⟨fun i j x y hi hj hxy => inC i j (adC_at hi).1 (adC_at hj).1 (by rw [(adC_at hi).2, (adC_at hj).2]; exact hxy), fun k q hq => ⟨k, (adC_at hq).1, (adC_at hq).2⟩⟩
  have hDM : ∀ σ, va_D (Ad 11 aM) (wdM tI tJ tZ aM σ) := fun σ => ⟨fun i j x y hi hj hxy => inM i j (adM_at hi).1 (adM_at hj).1 (by rw [(adM_at hi).2, (adM_at hj).2]; exact hxy), fun k q hq => ⟨k, (adM_at hq).1, (adM_at hq).2⟩⟩
  have hAC : ∀ q, Ad 22 aC q → A0 s q := fun q ⟨i, hi, hq⟩ => by
    obtain ⟨x, h1, h2⟩ := atC i hi
    rw [eC] at h1
    rw [← hq, ← h2]
    exact hD.2 _ x (hcell _ _ h1)
  have hAM : ∀ q, Ad 11 aM q → A0 s q := fun q ⟨i, hi, hq⟩ => by
    obtain ⟨x, h1, h2⟩ := atM i hi
    rw [eM] at h1
    rw [← hq, ← h2]
    exact hD.2 _ x (hcell2 _ _ h1)
  have hdj : ∀ q, Ad 22 aC q → ¬ Ad 11 aM q := fun q ⟨i, hi, hq⟩ ⟨j, hj, hq2⟩ => by
    obtain ⟨x, h1, h2⟩ := atC i hi
    obtain ⟨y, h3, h4⟩ := atM j hj
    rw [eC] at h1
    rw [eM] at h3
    have := hD.1 _ _ x y (hcell _ _ h1) (hcell2 _ _ h3) (by rw [h2, h4, hq, hq2])
    omega
  have X2 : Lx p s m meth c b L xs G tI tJ tZ aC aM := ⟨hx, hb, hml, hown, hts, hr, hlocks, hX, hbl, hK, hN, hDC, hDM, hAC, hAM, hdj⟩
  rw [e1, e2] at hl
  exact law_loop hL X2 hInv (L + 1) 0 0 sC0 sM0 nI_0.symm (Nat.zero_le _) (by omega) hInv0 H locs ls hPC hPM hS (lv_sub hl [3, 2, 1, 0] rfl)
