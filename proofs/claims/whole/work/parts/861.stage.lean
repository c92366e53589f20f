/-! ===== Delays: goToEnd, leastInTurnUpTo ===== -/
/-- the table stands at an end: the solutions of EndF i are those that are 0 at the barred lines and where a line costs -/
def Stg (σ : St) (n : Nat) (ws ss : Nat → Nat) (W s : Nat) (g : Int) (i : Nat) : Prop :=
  ∃ (S : Sx) (lc : Nat → Int) (br : Nat), SysB n (pc W) (Aw ws W) (bw ss W) lc 0 br ∧ Std n (pc W) (vrow n (pc W) (Aw ws W) (bw ss W)) S ∧ DrI n (pc W) S (pc W) ∧ DelC σ n (pc W) S lc 0 br ∧ (∀ j, j < n → br.testBit j = true → ¬ Inb (pc W) S j) ∧ (∀ j, j < n → br.testBit j = false → ¬ Hlp (pc W) S.1 S.2.1 S.2.2 (cst n (pc W) lc 0) j) ∧
  ∀ Y υ, SolW n ws ss W Y υ → (EndF n ws ss W s g i Y υ ↔ (∀ j, j < n → br.testBit j = true → Y j = 0) ∧ ∀ j, j < n → Kc (pc W) S.1 S.2.2 (cst n (pc W) lc 0) j < S.2.1 * lc j → Y j = 0)
section STG
variable {n k : Nat} {ws ss : Nat → Nat}
theorem lsum_set (n s : Nat) (g : Int) (Y : Nat → Int) : lsum n (fun j => if s.testBit j then g else 0) Y = g * osum n s Y := by
  unfold lsum osum
  rw [← sg_mul]
  refine sg_congr (fun j _ => ?_)
  show (if s.testBit j = true then g else 0) * Y j = g * (if s.testBit j = true then Y j else 0)
  by_cases q : s.testBit j = true
  · rw [if_pos q, if_pos q]
  · rw [if_neg q, if_neg q, Int.zero_mul, Int.mul_zero]
theorem lsum_one {n i : Nat} (hi : i < n) (Y : Nat → Int) : lsum n (fun j => if (2 ^ i).testBit j then 1 else 0) Y = Y i := by
  unfold lsum
  rw [sg_one hi (fun j _ hne => by
    show (if (2 ^ i).testBit j = true then (1 : Int) else 0) * Y j = 0
    rw [Nat.testBit_two_pow, decide_eq_false (fun e => hne e.symm)]; exact Int.zero_mul _)]
  show (if (2 ^ i).testBit i = true then (1 : Int) else 0) * Y i = Y i
  rw [Nat.testBit_two_pow, decide_eq_true rfl]; exact Int.one_mul _
/-- the corner of a stage is one of its solutions -/
theorem stg_corner {σ : St} {W s : Nat} {g : Int} {i : Nat} (hk : k ≤ 10) (hW : W < 2 ^ k) (h : Stg σ n ws ss W s g i) : ∃ (S : Sx) (lc : Nat → Int) (br : Nat), SysB n (pc W) (Aw ws W) (bw ss W) lc 0 br ∧ Std n (pc W) (vrow n (pc W) (Aw ws W) (bw ss W)) S ∧ DelC σ n (pc W) S lc 0 br ∧ EndF n ws ss W s g i (Xl n (pc W) S) S.2.1 := by
  obtain ⟨S, lc, br, Y, hS, hI, H, hb, hno, hE⟩ := h
  refine ⟨S, lc, br, Y, hS, H, (hE _ _ ((solW_iff hk hW _ _).mpr (xl_sol hS hI.1))).mpr ⟨fun j hj q => xl_out hS (by omega) (hb j hj q), fun j hj q => xl_out hS (by omega) (fun z => ?_)⟩⟩
  have := kc_inb (c := cst n (pc W) lc 0) hS z
  rw [show cst n (pc W) lc 0 j = lc j from if_pos hj] at this
  omega
/-- a walk with a goal, from a corner of a face to the best of it -/
theorem face_wp {σ : St} {W : Nat} (N : NetB n k ws ss) (hW : W < 2 ^ k) {S : Sx} {lc : Nat → Int} {br : Nat} (Y : SysB n (pc W) (Aw ws W) (bw ss W) lc 0 br) (hS : Std n (pc W) (vrow n (pc W) (Aw ws W) (bw ss W)) S) (hI : DrI n (pc W) S (pc W)) (H : DelC σ n (pc W) S lc 0 br) (hb : ∀ j, j < n → br.testBit j = true → ¬ Inb (pc W) S j) (hl : ∀ j, j < n → lc j < 0 → ∃ t, t < pc W ∧ Aw ws W t j = 1) {s : Nat} {g : Int} {i : Nat}
    (hE : ∀ X τ, SolW n ws ss W X τ → (EndF n ws ss W s g i X τ ↔ (∀ j, j < n → br.testBit j = true → X j = 0) ∧ ∀ Z ζ, SolW n ws ss W Z ζ → (∀ j, j < n → br.testBit j = true → Z j = 0) → lsum n lc X * ζ ≤ lsum n lc Z * τ)) {post : St → Prop}
    (hp : ∀ τ, Stg τ n ws ss W s g i → FrW σ τ → post τ) : wp_X0_walkToLeast σ post := by
  have n3 := N.2.2.1
  refine walk_wp (J := fun S => DrI n (pc W) S (pc W) ∧ ∀ j, br.testBit j = true → ¬ Inb (pc W) S j) Y hS ⟨hI, fun j q => ?_⟩ H (fun S1 S2 e r hJ hst => ⟨dr_bstp hJ.1 hst, bar_bstp hJ.2 hst⟩) (fun S1 e h1 hJ he _ hh => hU_gen Y.2.2.2.2.2.2.1 h1 hl he hh) (fun τ S1 h1 hJ H1 F1 hno => hp τ ⟨S1, lc, br, Y, h1, hJ.1, H1, fun j _ q => hJ.2 j q, hno, fun X ξ hX => ?_⟩ (FrW.ex F1))
  · by_cases z : j < n
    · exact hb j z q
    · rw [bits_of_lt Y.2.2.2.1 (by omega)] at q; cases q
  · rw [hE X ξ hX]
    constructor
    · rintro ⟨a1, a2⟩
      refine ⟨a1, (opt_face h1 hJ.1 (fun j _ q => hJ.2 j q) hno ((solW_iff n3 hW _ _).mp hX) a1).mp (fun Z ζ hZ hZb => a2 Z ζ ((solW_iff n3 hW _ _).mpr hZ) hZb)⟩
    · rintro ⟨a1, a2⟩
      refine ⟨a1, fun Z ζ hZ hZb => (opt_face h1 hJ.1 (fun j _ q => hJ.2 j q) hno ((solW_iff n3 hW _ _).mp hX) a1).mpr a2 Z ζ ((solW_iff n3 hW _ _).mp hZ) hZb⟩
theorem toEnd_wp {σ : St} {W : Nat} (N : NetB n k ws ss) (hW : W < 2 ^ k) {S : Sx} {lc : Nat → Int} {sc : Int} {br : Nat} (hS : Std n (pc W) (vrow n (pc W) (Aw ws W) (bw ss W)) S) (hI : DrI n (pc W) S (pc W)) (H : DelC σ n (pc W) S lc sc br) {s : Nat} (hs : s < 2 ^ n) {e : Int32} (he : bz e) (hl : e = 1 → ∀ j, j < n → s.testBit j = true → ∃ t, t < pc W ∧ Aw ws W t j = 1) {post : St → Prop}
    (hp : ∀ τ, Stg τ n ws ss W s (if e = 0 then 1 else -1) 0 → FrW σ τ → post τ) : wp_X0_goToEnd (nI s) e σ post := by
  have n2 := N.2.1
  have hs31 : s < 2 ^ 31 := Nat.lt_of_lt_of_le hs (Nat.pow_le_pow_right (by decide) (by omega))
  unfold wp_X0_goToEnd
  intro σ1 e1
  have H1 : DelC σ1 n (pc W) S lc sc 0 := by
    obtain ⟨h6, h7, h8, h9, h5, hd, hho, hlc, hT⟩ := H
    rw [e1]
    exact ⟨h6, h7, h8, by rw [gI_sI, if_pos rfl, nI_0], h5, hd, hho, hlc, hT⟩
  have F1 : FrW σ σ1 := by
    rw [e1]; exact ⟨fun i _ c => by rw [gI_sI, if_neg c], fun _ _ _ => rfl⟩
  have go : ∀ (ci : Int32) (g : Int), ci.toInt = g → (g = 1 ∨ g = -1) → (g = -1 → ∀ j, j < n → s.testBit j = true → ∃ t, t < pc W ∧ Aw ws W t j = 1) → (∀ τ, Stg τ n ws ss W s g 0 → FrW σ τ → post τ) → wp_X0_setGoal (nI s) ci 0 σ1 (fun σ5 => wp_X0_walkToLeast σ5 (fun σ7 => post σ7)) := by
    intro ci g hci hg hl2 hp2
    refine goal_wp n2 hs31 H1 (fun σ5 H5 F5 => ?_)
    rw [hci, show (0 : Int32).toInt = 0 from rfl] at H5
    have Y : SysB n (pc W) (Aw ws W) (bw ss W) (fun j => if s.testBit j then g else 0) 0 0 := sys_of N hW (Nat.two_pow_pos n) (by decide) (fun j _ => by
      show -1 ≤ (if s.testBit j = true then g else 0) ∧ (if s.testBit j = true then g else 0) ≤ 1
      by_cases q : s.testBit j = true
      · rw [if_pos q]; omega
      · rw [if_neg q]; omega)
    refine face_wp N hW Y hS hI H5 (fun j _ q => absurd q (by rw [Nat.zero_testBit]; decide)) (fun j hj q => ?_) (s := s) (g := g) (i := 0) (fun X τ hX => ?_) (fun τ hst F => hp2 τ hst ((F1.tr F5).tr F))
    · have q2 : (if s.testBit j = true then g else 0) < 0 := q
      by_cases z : s.testBit j = true
      · rw [if_pos z] at q2
        exact hl2 (by omega) j hj z
      · rw [if_neg z] at q2; omega
    · show (SolW n ws ss W X τ ∧ _) ↔ _
      constructor
      · rintro ⟨_, a⟩
        refine ⟨fun j _ q => absurd q (by rw [Nat.zero_testBit]; decide), fun Z ζ hZ _ => ?_⟩
        rw [lsum_set, lsum_set]; exact a Z ζ hZ
      · rintro ⟨_, a⟩
        refine ⟨hX, fun Z ζ hZ => ?_⟩
        have := a Z ζ hZ (fun j _ q => absurd q (by rw [Nat.zero_testBit]; decide))
        rw [lsum_set, lsum_set] at this
        exact this
  refine ⟨fun q => ?_, fun q => ?_⟩
  · have e1' : e = 1 := he.elim (fun z => absurd z q) id
    exact go (-1) (-1) rfl (Or.inr rfl) (fun _ => hl e1') (fun τ a b => hp τ (by rw [if_neg q]; exact a) b)
  · exact go 1 1 rfl (Or.inl rfl) (fun z => absurd z (by decide)) (fun τ a b => hp τ (by rw [if_pos q]; exact a) b)
theorem turn_wp {σ : St} {W : Nat} (N : NetB n k ws ss) (hW : W < 2 ^ k) {s : Nat} {g : Int} {i : Nat} (hi : i < n) (h : Stg σ n ws ss W s g i) {post : St → Prop} (hp : ∀ τ, Stg τ n ws ss W s g (i + 1) → FrW σ τ → post τ) : wp_X0_barWhatCosts σ (fun σ4 => wp_X0_setGoal (1 <<< (nI i &&& 31)) 1 0 σ4 (fun σ6 => wp_X0_walkToLeast σ6 post)) := by
  have n2 := N.2.1
  obtain ⟨S, lc, br, Y, hS, hI, H, hb, hno, hE⟩ := h
  refine bar_wp n2 H (std_B Y hS) (fun σ4 br' H4 hbr F4 hx => ?_)
  rw [one_shl (by omega)]
  have hp2 : 2 ^ i < 2 ^ 31 := Nat.pow_lt_pow_right (by decide) (by omega)
  refine goal_wp n2 hp2 H4 (fun σ6 H6 F6 => ?_)
  rw [show (1 : Int32).toInt = 1 from rfl, show (0 : Int32).toInt = 0 from rfl] at H6
  have Y2 : SysB n (pc W) (Aw ws W) (bw ss W) (fun j => if (2 ^ i).testBit j then 1 else 0) 0 br' := sys_of N hW hbr (by decide) (fun j _ => by
    show -1 ≤ (if (2 ^ i).testBit j = true then (1 : Int) else 0) ∧ (if (2 ^ i).testBit j = true then (1 : Int) else 0) ≤ 1
    by_cases q : (2 ^ i).testBit j = true
    · rw [if_pos q]; omega
    · rw [if_neg q]; omega)
  have hEi : ∀ X τ, SolW n ws ss W X τ → (EndF n ws ss W s g i X τ ↔ ∀ j, j < n → br'.testBit j = true → X j = 0) := fun X τ hX => by
    rw [hE X τ hX]
    constructor
    · rintro ⟨a1, a2⟩ j hj q
      rcases (hx j hj).mp q with z | z
      · exact a1 j hj z
      · exact a2 j hj z
    · exact fun a => ⟨fun j hj q => a j hj ((hx j hj).mpr (Or.inl q)), fun j hj q => a j hj ((hx j hj).mpr (Or.inr q))⟩
  refine face_wp N hW Y2 hS hI H6 (fun j hj q z => ?_) (fun j hj q => ?_) (s := s) (g := g) (i := i + 1) (fun X τ hX => ?_) (fun τ hst F => hp τ hst ((F4.tr F6).tr F))
  · rcases (hx j hj).mp q with w | w
    · exact hb j hj w z
    · have := kc_inb (c := cst n (pc W) lc 0) hS z
      rw [show cst n (pc W) lc 0 j = lc j from if_pos hj] at this
      omega
  · have q2 : (if (2 ^ i).testBit j = true then (1 : Int) else 0) < 0 := q
    by_cases z : (2 ^ i).testBit j = true
    · rw [if_pos z] at q2; omega
    · rw [if_neg z] at q2; omega
  · show (EndF n ws ss W s g i X τ ∧ _) ↔ _
    rw [hEi X τ hX]
    refine and_congr_right fun _ => ⟨fun a Z ζ hZ hZb => ?_, fun a Z ζ hZ => ?_⟩
    · rw [lsum_one hi, lsum_one hi]
      exact a Z ζ ((hEi Z ζ hZ).mpr hZb)
    · have := a Z ζ (endF_sol hZ) ((hEi Z ζ (endF_sol hZ)).mp hZ)
      rw [lsum_one hi, lsum_one hi] at this
      exact this
theorem least_wp {σ : St} {W : Nat} (N : NetB n k ws ss) (hW : W < 2 ^ k) {s : Nat} {g : Int} {l : Nat} (hl : l < n) (h : Stg σ n ws ss W s g 0) {post : St → Prop} (hp : ∀ τ, Stg τ n ws ss W s g (l + 1) → FrW σ τ → post τ) : wp_X0_leastInTurnUpTo (nI l) σ post := by
  have n2 := N.2.1
  have key : ∀ (d i : Nat) (τ : St), i + d = l + 1 → Stg τ n ws ss W s g i → FrW σ τ → lp_X0_leastInTurnUpTo_2 post (d + 1) (nI l) (nI i) τ := by
    intro d
    induction d with
    | zero =>
      intro i τ hd hst F
      have : i = l + 1 := by omega
      subst this
      unfold lp_X0_leastInTurnUpTo_2
      exact ⟨fun _ => hp τ hst F, fun q => absurd (nI_lt (Nat.lt_succ_self l) (by omega)) q⟩
    | succ d ih =>
      intro i τ hd hst F
      have h6 : gI τ 6 = nI n := by obtain ⟨_, _, _, _, _, _, H, _⟩ := hst; exact H.1
      unfold lp_X0_leastInTurnUpTo_2
      rw [h6]
      refine ⟨fun q => absurd q (nI_nlt (show i ≤ l by omega) (by omega)), fun _ => ⟨fun q => absurd q (nI_ge (show i < n by omega) (by omega)), fun _ => turn_wp N hW (show i < n by omega) hst (fun τ2 h2 F2 v hv => ?_)⟩⟩
      rw [hv, nI_1]
      exact ih (i + 1) τ2 (by omega) h2 (F.tr F2)
  refine ⟨l + 1 + 1, ?_⟩
  have := key (l + 1) 0 σ (by omega) h (FrW.rf σ)
  rw [nI_0] at this
  exact this
end STG
