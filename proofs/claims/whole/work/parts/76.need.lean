/-! PURE PART: needless scans -/
theorem cf_point {P Q : Nat → Bool} {c : Nat} (hP : ∀ k, k ≠ c → Q k = P k) (hc : Q c = false) : ∀ m i, i ≤ c → c < i + m → cf P i m = cf Q i m + (if P c then 1 else 0) := by
  intro m
  induction m with
  | zero => intro i h1 h2; omega
  | succ m ih =>
    intro i h1 h2
    rw [cf, cf]
    by_cases h : i = c
    · subst h
      rw [hc, cf_congr (P := P) (Q := Q) m (i + 1) (fun k g1 g2 => (hP k (by omega)).symm)]
      simp only [Bool.false_eq_true, if_false]; omega
    · rw [ih (i + 1) (by omega) (by omega), hP i h]; omega
theorem ff_cf (P : Nat → Bool) (d : Nat) : (ff P 0 d).isSome = decide (0 < cf P 0 d) := by
  cases h : ff P 0 d with
  | none =>
    rw [cf_zero (fun k h1 h2 => ff_none _ _ h k h1 h2)]; rfl
  | some q =>
    have := ff_some _ _ h
    have h2 := cf_pos this.2.2.1 d 0 this.1 (by omega)
    rw [Option.isSome_some]; exact (decide_eq_true h2).symm
def alv (F : Nat → Int32) (L : List En) (u : Nat → Bool) (p c : Nat) : Bool := !u c && shB F L p c
def E1 (F : Nat → Int32) (L : List En) (u : Nat → Bool) (d p : Nat) : Bool := decide (1 < cf (alv F L u p) 0 d)
def ndB (E : Nat → Bool) (o : Option Nat) : Bool := match o with | none => true | some p => E p
theorem else_eq {F : Nat → Int32} {L : List En} {u : Nat → Bool} {d c p : Nat} (hc : c < d) (huc : u c = false) (hs : shB F L p c = true) : (ff (fun e => !decide (e = c) && alv F L u p e) 0 d).isSome = E1 F L u d p := by
  rw [ff_cf]
  unfold E1
  have h := cf_point (P := alv F L u p) (Q := fun e => !decide (e = c) && alv F L u p e) (c := c) (fun k hk => by simp [hk]) (by simp) d 0 (by omega) (by omega)
  have hPc : alv F L u p c = true := by unfold alv; rw [huc, hs]; rfl
  rw [hPc, if_pos rfl] at h
  rw [h]
  exact decide_eq_decide.mpr (by omega)
def U17 (τ : Mem) (u : Nat → Bool) : Prop := ∀ c, c < 60 → τ 17 c = if u c then ι 1 else ι 0
theorem U17_12 {τ υ : Mem} {u : Nat → Bool} (h : U17 τ u) (hf : fr12 τ υ) : U17 υ u := fun c hc => by rw [hf 17 c (by omega)]; exact h c hc
theorem r_el {F : Nat → Int32} {L : List En} {n a d p c : Nat} {u : Nat → Bool} (hp : p < 2147483648) (hc : c < 60) : ∀ m n' e (τ : Mem), e + m = d → m < n' → SX τ F L n a d → U17 τ u → ∃ υ, (fX12_isElsewhere_l2 (ι p) (ι c) n' (ι e) τ).bind (fun q2 => match q2 with | .inl r => some r | .inr q2 => some ((0 : Int32), q2.2)) = some (if (ff (fun e => !decide (e = c) && alv F L u p e) e m).isSome then ι 1 else ι 0, υ) ∧ fr12 τ υ := by
  intro m
  induction m with
  | zero =>
    intro n' e τ h hn' hX hU
    obtain ⟨n', rfl⟩ : ∃ k, n' = k + 1 := ⟨n' - 1, by omega⟩
    have hd := hX.2.2.1
    have h2 : τ 3 2 = ι d := by rw [hX.2.2.2.2.2.2.1]; exact hX.2.2.2.2.2.2.2.2.2
    refine ⟨τ, ?_, fr12_refl τ⟩
    rw [fX12_isElsewhere_l2]
    simp (disch := omega) only [l_0, l_1, l_2, l_3, l_4, l_5, l_6, l_7, l_8, l_9, l_10, l_12, l_13, l_24, l_31, l_32, l_40, l_41, l_42, l_44, l_45, l_48, l_49, l_50, l_57, l_59, l_60, l_65, l_88, l_89, l_97, l_98, l_99, l_100, l_105, l_108, l_109, l_114, l_118, l_120, l_122, l_144, l_255, l_269, l_279, l_339, l_400, l_600, l_999, l_1000, l_2373, l_2712, ι_lt, ι_le, ι_eq, ι_add, ι_mul, ι_sub, ι_div, ι_n, ι_m1, m1_ι, m1_lt, m1_le, lt_m1, le_m1, m1_lt_m1, m1_le_m1, m1_add1, neg_ι1, ι_addm, ι_addn, Bool.false_eq_true, Nat.not_lt_zero, Nat.add_zero, Nat.zero_add, Nat.mul_zero, Nat.reduceMul, Nat.reduceAdd, Nat.reduceSub, Nat.reduceLT, Nat.reduceLeDiff, Nat.reduceEqDiff, Nat.reduceDiv, Nat.reduceBEq, Nat.reduceBNe, false_or, or_false, true_or, or_true, and_true, true_and, false_and, and_false, not_false_eq_true, not_true_eq_false, if_true, if_false, if_pos, if_neg, Option.bind_some, ite_false, ite_true, eq_self, reduceIte, lm_0, lm_1, lm_2, lm_3, lm_4, lm_5, lm_6, lm_7, lm_8, lm_9, lm_10, lm_11, lm_12, lm_13, lm_14, lm_15, lm_16, lm_17, h2, ff, Option.isSome_none]
  | succ m ih =>
    intro n' e τ h hn' hX hU
    obtain ⟨n', rfl⟩ : ∃ k, n' = k + 1 := ⟨n' - 1, by omega⟩
    have hd := hX.2.2.1
    have h2 : τ 3 2 = ι d := by rw [hX.2.2.2.2.2.2.1]; exact hX.2.2.2.2.2.2.2.2.2
    have h17 := hU e (by omega)
    rw [fX12_isElsewhere_l2, ff]
    by_cases hec : e = c
    · obtain ⟨υ, a1, a2⟩ := ih n' (e + 1) τ (by omega) (by omega) hX hU
      refine ⟨υ, ?_, a2⟩
      simp (disch := omega) only [l_0, l_1, l_2, l_3, l_4, l_5, l_6, l_7, l_8, l_9, l_10, l_12, l_13, l_24, l_31, l_32, l_40, l_41, l_42, l_44, l_45, l_48, l_49, l_50, l_57, l_59, l_60, l_65, l_88, l_89, l_97, l_98, l_99, l_100, l_105, l_108, l_109, l_114, l_118, l_120, l_122, l_144, l_255, l_269, l_279, l_339, l_400, l_600, l_999, l_1000, l_2373, l_2712, ι_lt, ι_le, ι_eq, ι_add, ι_mul, ι_sub, ι_div, ι_n, ι_m1, m1_ι, m1_lt, m1_le, lt_m1, le_m1, m1_lt_m1, m1_le_m1, m1_add1, neg_ι1, ι_addm, ι_addn, Bool.false_eq_true, Nat.not_lt_zero, Nat.add_zero, Nat.zero_add, Nat.mul_zero, Nat.reduceMul, Nat.reduceAdd, Nat.reduceSub, Nat.reduceLT, Nat.reduceLeDiff, Nat.reduceEqDiff, Nat.reduceDiv, Nat.reduceBEq, Nat.reduceBNe, false_or, or_false, true_or, or_true, and_true, true_and, false_and, and_false, not_false_eq_true, not_true_eq_false, if_true, if_false, if_pos, if_neg, Option.bind_some, ite_false, ite_true, eq_self, reduceIte, lm_0, lm_1, lm_2, lm_3, lm_4, lm_5, lm_6, lm_7, lm_8, lm_9, lm_10, lm_11, lm_12, lm_13, lm_14, lm_15, lm_16, lm_17, h2, hec, decide_true, Bool.not_true, Bool.false_and]
      rw [hec] at a1
      exact a1
    · by_cases hu : u e = true
      · obtain ⟨υ, a1, a2⟩ := ih n' (e + 1) τ (by omega) (by omega) hX hU
        refine ⟨υ, ?_, a2⟩
        unfold alv
        rw [if_pos hu] at h17
        simp (disch := omega) only [l_0, l_1, l_2, l_3, l_4, l_5, l_6, l_7, l_8, l_9, l_10, l_12, l_13, l_24, l_31, l_32, l_40, l_41, l_42, l_44, l_45, l_48, l_49, l_50, l_57, l_59, l_60, l_65, l_88, l_89, l_97, l_98, l_99, l_100, l_105, l_108, l_109, l_114, l_118, l_120, l_122, l_144, l_255, l_269, l_279, l_339, l_400, l_600, l_999, l_1000, l_2373, l_2712, ι_lt, ι_le, ι_eq, ι_add, ι_mul, ι_sub, ι_div, ι_n, ι_m1, m1_ι, m1_lt, m1_le, lt_m1, le_m1, m1_lt_m1, m1_le_m1, m1_add1, neg_ι1, ι_addm, ι_addn, Bool.false_eq_true, Nat.not_lt_zero, Nat.add_zero, Nat.zero_add, Nat.mul_zero, Nat.reduceMul, Nat.reduceAdd, Nat.reduceSub, Nat.reduceLT, Nat.reduceLeDiff, Nat.reduceEqDiff, Nat.reduceDiv, Nat.reduceBEq, Nat.reduceBNe, false_or, or_false, true_or, or_true, and_true, true_and, false_and, and_false, not_false_eq_true, not_true_eq_false, if_true, if_false, if_pos, if_neg, Option.bind_some, ite_false, ite_true, eq_self, reduceIte, lm_0, lm_1, lm_2, lm_3, lm_4, lm_5, lm_6, lm_7, lm_8, lm_9, lm_10, lm_11, lm_12, lm_13, lm_14, lm_15, lm_16, lm_17, h2, hec, h17, hu, decide_false, Bool.not_true, Bool.not_false, Bool.false_and, Bool.and_false]
        exact a1
      · obtain ⟨τ1, b1, b2⟩ := r_isShown (p := p) hX (show e < d by omega) hp
        have hu' : u e = false := by simpa using hu
        rw [if_neg hu] at h17
        by_cases hs : shB F L p e = true
        · refine ⟨τ1, ?_, b2⟩
          unfold alv
          rw [hs, if_pos rfl] at b1
          simp (disch := omega) only [l_0, l_1, l_2, l_3, l_4, l_5, l_6, l_7, l_8, l_9, l_10, l_12, l_13, l_24, l_31, l_32, l_40, l_41, l_42, l_44, l_45, l_48, l_49, l_50, l_57, l_59, l_60, l_65, l_88, l_89, l_97, l_98, l_99, l_100, l_105, l_108, l_109, l_114, l_118, l_120, l_122, l_144, l_255, l_269, l_279, l_339, l_400, l_600, l_999, l_1000, l_2373, l_2712, ι_lt, ι_le, ι_eq, ι_add, ι_mul, ι_sub, ι_div, ι_n, ι_m1, m1_ι, m1_lt, m1_le, lt_m1, le_m1, m1_lt_m1, m1_le_m1, m1_add1, neg_ι1, ι_addm, ι_addn, Bool.false_eq_true, Nat.not_lt_zero, Nat.add_zero, Nat.zero_add, Nat.mul_zero, Nat.reduceMul, Nat.reduceAdd, Nat.reduceSub, Nat.reduceLT, Nat.reduceLeDiff, Nat.reduceEqDiff, Nat.reduceDiv, Nat.reduceBEq, Nat.reduceBNe, false_or, or_false, true_or, or_true, and_true, true_and, false_and, and_false, not_false_eq_true, not_true_eq_false, if_true, if_false, if_pos, if_neg, Option.bind_some, ite_false, ite_true, eq_self, reduceIte, lm_0, lm_1, lm_2, lm_3, lm_4, lm_5, lm_6, lm_7, lm_8, lm_9, lm_10, lm_11, lm_12, lm_13, lm_14, lm_15, lm_16, lm_17, h2, hec, h17, hu', hs, b1, decide_false, Bool.not_true, Bool.not_false, Bool.and_self, Option.isSome_some]
        · obtain ⟨υ, a1, a2⟩ := ih n' (e + 1) τ1 (by omega) (by omega) (SX_12 hX b2) (U17_12 hU b2)
          refine ⟨υ, ?_, fr12_trans b2 a2⟩
          have hs' : shB F L p e = false := by simpa using hs
          unfold alv
          rw [if_neg hs] at b1
          simp (disch := omega) only [l_0, l_1, l_2, l_3, l_4, l_5, l_6, l_7, l_8, l_9, l_10, l_12, l_13, l_24, l_31, l_32, l_40, l_41, l_42, l_44, l_45, l_48, l_49, l_50, l_57, l_59, l_60, l_65, l_88, l_89, l_97, l_98, l_99, l_100, l_105, l_108, l_109, l_114, l_118, l_120, l_122, l_144, l_255, l_269, l_279, l_339, l_400, l_600, l_999, l_1000, l_2373, l_2712, ι_lt, ι_le, ι_eq, ι_add, ι_mul, ι_sub, ι_div, ι_n, ι_m1, m1_ι, m1_lt, m1_le, lt_m1, le_m1, m1_lt_m1, m1_le_m1, m1_add1, neg_ι1, ι_addm, ι_addn, Bool.false_eq_true, Nat.not_lt_zero, Nat.add_zero, Nat.zero_add, Nat.mul_zero, Nat.reduceMul, Nat.reduceAdd, Nat.reduceSub, Nat.reduceLT, Nat.reduceLeDiff, Nat.reduceEqDiff, Nat.reduceDiv, Nat.reduceBEq, Nat.reduceBNe, false_or, or_false, true_or, or_true, and_true, true_and, false_and, and_false, not_false_eq_true, not_true_eq_false, if_true, if_false, if_pos, if_neg, Option.bind_some, ite_false, ite_true, eq_self, reduceIte, lm_0, lm_1, lm_2, lm_3, lm_4, lm_5, lm_6, lm_7, lm_8, lm_9, lm_10, lm_11, lm_12, lm_13, lm_14, lm_15, lm_16, lm_17, h2, hec, h17, hu', hs', b1, decide_false, Bool.not_true, Bool.not_false, Bool.and_false]
          exact a1
theorem r_elsewhere {τ : Mem} {F : Nat → Int32} {L : List En} {n a d p c : Nat} {u : Nat → Bool} (hp : p < 2147483648) (hc : c < d) (huc : u c = false) (hs : shB F L p c = true) (hX : SX τ F L n a d) (hU : U17 τ u) : ∃ υ, fX12_isElsewhere (ι p) (ι c) τ = some (if E1 F L u d p then ι 1 else ι 0, υ) ∧ fr12 τ υ := by
  have hd := hX.2.2.1
  obtain ⟨υ, a1, a2⟩ := r_el (u := u) (p := p) (c := c) hp (by omega) d FU 0 τ (by omega) (by unfold FU; omega) hX hU
  rw [else_eq hc huc hs] at a1
  exact ⟨υ, by unfold fX12_isElsewhere; rw [l_0]; exact a1, a2⟩
theorem shB_0 {F : Nat → Int32} {L : List En} {p c : Nat} (h : sh0 F L c = some p) : shB F L p c = true := decide_eq_true (Or.inl h)
theorem shB_1 {F : Nat → Int32} {L : List En} {p c : Nat} (h : sh1 F L c = some p) : shB F L p c = true := decide_eq_true (Or.inr h)
theorem r_isNeedless {τ : Mem} {F : Nat → Int32} {L : List En} {n a d c : Nat} {u : Nat → Bool} (hX : SX τ F L n a d) (hU : U17 τ u) (hc : c < d) (huc : u c = false) : ∃ υ, fX12_isNeedless (ι c) τ = some (if ndB (E1 F L u d) (sh0 F L c) && ndB (E1 F L u d) (sh1 F L c) then ι 1 else ι 0, υ) ∧ fr12 τ υ := by
  have hX' := hX
  obtain ⟨hn, ha, hd, hL, hE, hLe, h3, hO, hS, h2⟩ := hX'
  obtain ⟨τ1, a1, a2, a3, a4⟩ := r_shown hn ha hd hL hE hO hc (by rw [h3]; exact hS c hc)
  rw [h3] at a2 a3
  have hX1 := SX_12 hX a4
  have hU1 := U17_12 hU a4
  have b0 : ∀ i, sh0 F L c = some i → i < 144 := fun i hi => by have := sh0_lt hL hi; omega
  have b1 : ∀ i, sh1 F L c = some i → i < 144 := fun i hi => by have := sh1_lt hL hi; omega
  have ez0 : ¬ ((0 : Int32) < 0 ∨ lm 12 ≤ (0 : Int32).toNatClampNeg) := by decide
  have ez1 : ¬ ((1 : Int32) < 0 ∨ lm 12 ≤ (1 : Int32).toNatClampNeg) := by decide
  have en0 : (0 : Int32).toNatClampNeg = 0 := rfl
  have en1 : (1 : Int32).toNatClampNeg = 1 := rfl
  have e10 : ¬ (ι 1 = (0 : Int32)) := by decide
  have e00 : ι 0 = (0 : Int32) := rfl
  have em : oi none = (-1 : Int32) := rfl
  unfold fX12_isNeedless
  rw [a1, Option.bind_some, if_neg ez0, if_neg ez1, en0, en1, a2, a3]
  cases h0 : sh0 F L c with
  | none =>
    rw [if_pos em]
    cases h1 : sh1 F L c with
    | none =>
      rw [if_pos em]
      exact ⟨τ1, rfl, a4⟩
    | some p =>
      have hp := b1 p h1
      have ep : ¬ oi (some p) = (-1 : Int32) := fun z => by
        have z : ι p = μ := z
        rw [ι_m1 (by omega)] at z; exact z
      obtain ⟨τ2, c1, c2⟩ := r_elsewhere (p := p) (by omega) hc huc (shB_1 h1) hX1 hU1
      have c1 : fX12_isElsewhere (oi (some p)) (ι c) τ1 = _ := c1
      rw [if_neg ep, c1, Option.bind_some]
      refine ⟨τ2, ?_, fr12_trans a4 c2⟩
      unfold ndB
      by_cases hE : E1 F L u d p = true
      · simp only [hE, if_true, if_neg e10, Bool.and_self]; rfl
      · simp only [hE, if_false, Bool.false_eq_true, if_pos e00, Bool.and_false]; rfl
  | some p0 =>
    have hp0 := b0 p0 h0
    have ep0 : ¬ oi (some p0) = (-1 : Int32) := fun z => by
      have z : ι p0 = μ := z
      rw [ι_m1 (by omega)] at z; exact z
    obtain ⟨τ2, c1, c2⟩ := r_elsewhere (p := p0) (by omega) hc huc (shB_0 h0) hX1 hU1
    have c1 : fX12_isElsewhere (oi (some p0)) (ι c) τ1 = _ := c1
    rw [if_neg ep0, c1, Option.bind_some]
    by_cases hE : E1 F L u d p0 = true
    · simp only [hE, if_true, if_neg e10]
      cases h1 : sh1 F L c with
      | none =>
        rw [if_pos em]
        refine ⟨τ2, ?_, fr12_trans a4 c2⟩
        unfold ndB
        simp only [hE, Bool.and_self, if_true]; rfl
      | some p =>
        have hp := b1 p h1
        have ep : ¬ oi (some p) = (-1 : Int32) := fun z => by
          have z : ι p = μ := z
          rw [ι_m1 (by omega)] at z; exact z
        obtain ⟨τ3, d1, d2⟩ := r_elsewhere (p := p) (by omega) hc huc (shB_1 h1) (SX_12 hX1 c2) (U17_12 hU1 c2)
        have d1 : fX12_isElsewhere (oi (some p)) (ι c) τ2 = _ := d1
        rw [if_neg ep, d1, Option.bind_some]
        refine ⟨τ3, ?_, fr12_trans a4 (fr12_trans c2 d2)⟩
        unfold ndB
        by_cases hE' : E1 F L u d p = true
        · simp only [hE, hE', if_true, if_neg e10, Bool.and_self]; rfl
        · simp only [hE, hE', if_false, Bool.false_eq_true, if_pos e00, Bool.and_false]; rfl
    · refine ⟨τ2, ?_, fr12_trans a4 c2⟩
      unfold ndB
      simp only [hE, if_false, Bool.false_eq_true, if_pos e00, Bool.false_and]; rfl
theorem ln379 : ln (378 + 1) = 144 := by decide
def CVn (σ : Mem) (F : Nat → Int32) (L : List En) (u : Nat → Bool) (d : Nat) : Prop := ∀ p, p < 144 → σ 379 p = ι (cf (alv F L u p) 0 d)
theorem c_twice {σ : Mem} {F : Nat → Int32} {L : List En} {u : Nat → Bool} {d : Nat} (hd : d ≤ 60) (hC : CVn σ F L u d) {o : Option Nat} (ho : ∀ p, o = some p → p < 144) : fX4_isCoveredTwice 373 (oi o) σ = some (if ndB (E1 F L u d) o then ι 1 else ι 0) := by
  unfold fX4_isCoveredTwice ndB
  cases o with
  | none => rw [if_pos (show oi none = -1 from rfl)]; rfl
  | some p =>
    have hp := ho p rfl
    have hcf := cf_le (alv F L u p) d 0
    rw [if_neg (fun z => by
      have z : ι p = μ := z
      rw [ι_m1 (by omega)] at z; exact z), show oi (some p) = ι p from rfl, c_at ln379 (by omega) hp, Option.bind_some, hC p hp]
    unfold E1
    by_cases h : 1 < cf (alv F L u p) 0 d
    · simp (disch := omega) only [l_0, l_1, l_2, l_3, l_4, l_5, l_6, l_7, l_8, l_9, l_10, l_12, l_13, l_24, l_31, l_32, l_40, l_41, l_42, l_44, l_45, l_48, l_49, l_50, l_57, l_59, l_60, l_65, l_88, l_89, l_97, l_98, l_99, l_100, l_105, l_108, l_109, l_114, l_118, l_120, l_122, l_144, l_255, l_269, l_279, l_339, l_400, l_600, l_999, l_1000, l_2373, l_2712, ι_lt, ι_le, ι_eq, ι_add, ι_mul, ι_sub, ι_div, ι_n, ι_m1, m1_ι, m1_lt, m1_le, lt_m1, le_m1, m1_lt_m1, m1_le_m1, m1_add1, neg_ι1, ι_addm, ι_addn, Bool.false_eq_true, Nat.not_lt_zero, Nat.add_zero, Nat.zero_add, Nat.mul_zero, Nat.reduceMul, Nat.reduceAdd, Nat.reduceSub, Nat.reduceLT, Nat.reduceLeDiff, Nat.reduceEqDiff, Nat.reduceDiv, Nat.reduceBEq, Nat.reduceBNe, false_or, or_false, true_or, or_true, and_true, true_and, false_and, and_false, not_false_eq_true, not_true_eq_false, if_true, if_false, if_pos, if_neg, Option.bind_some, ite_false, ite_true, eq_self, reduceIte, h, decide_true]
    · simp (disch := omega) only [l_0, l_1, l_2, l_3, l_4, l_5, l_6, l_7, l_8, l_9, l_10, l_12, l_13, l_24, l_31, l_32, l_40, l_41, l_42, l_44, l_45, l_48, l_49, l_50, l_57, l_59, l_60, l_65, l_88, l_89, l_97, l_98, l_99, l_100, l_105, l_108, l_109, l_114, l_118, l_120, l_122, l_144, l_255, l_269, l_279, l_339, l_400, l_600, l_999, l_1000, l_2373, l_2712, ι_lt, ι_le, ι_eq, ι_add, ι_mul, ι_sub, ι_div, ι_n, ι_m1, m1_ι, m1_lt, m1_le, lt_m1, le_m1, m1_lt_m1, m1_le_m1, m1_add1, neg_ι1, ι_addm, ι_addn, Bool.false_eq_true, Nat.not_lt_zero, Nat.add_zero, Nat.zero_add, Nat.mul_zero, Nat.reduceMul, Nat.reduceAdd, Nat.reduceSub, Nat.reduceLT, Nat.reduceLeDiff, Nat.reduceEqDiff, Nat.reduceDiv, Nat.reduceBEq, Nat.reduceBNe, false_or, or_false, true_or, or_true, and_true, true_and, false_and, and_false, not_false_eq_true, not_true_eq_false, if_true, if_false, if_pos, if_neg, Option.bind_some, ite_false, ite_true, eq_self, reduceIte, h, decide_false]
def cv1 (o : Option Nat) (x : Int32) (σ : Mem) : Mem := match o with | none => σ | some p => up σ 379 p (σ 379 p + x)
theorem c_cov1 {o : Option Nat} (ho : ∀ p, o = some p → p < 144) (x : Int32) (σ : Mem) : ∃ v, fX3_at 378 (oi o) σ = some v ∧ fX3_put 378 (oi o) (v + x) σ = some (cv1 o x σ) := by
  cases o with
  | none =>
    refine ⟨0, ?_, ?_⟩
    · unfold fX3_at; rw [if_pos (by decide)]
    · unfold fX3_put; rw [if_pos (by decide)]; rfl
  | some p => exact ⟨σ 379 p, c_at ln379 (by omega) (ho p rfl), c_put ln379 (by omega) (ho p rfl)⟩
theorem c_addCover {σ : Mem} {F : Nat → Int32} {L : List En} {d c : Nat} (hd : d ≤ 60) (hL : L.length ≤ 144) (hP : PC σ F L d) (hc : c < d) (hne : ∀ p, fs F L c = some p → sc F L c = some p → False) (x : Int32) : ∃ ρ, fX4_addCover 373 (ι c) x σ = some ρ ∧ (∀ p, p < 144 → ρ 379 p = if shB F L p c then σ 379 p + x else σ 379 p) ∧ ∀ j, j ≠ 379 → ρ j = σ j := by
  have b0 : ∀ i, fs F L c = some i → i < 144 := fun i hi => by have := fs_lt hL hi; omega
  have b1 : ∀ i, sc F L c = some i → i < 144 := fun i hi => by have := sc_lt hL hi; omega
  obtain ⟨v, a1, a2⟩ := c_cov1 b0 x σ
  obtain ⟨w, c1, c2⟩ := c_cov1 b1 x (cv1 (fs F L c) x σ)
  refine ⟨_, (by
    unfold fX4_addCover
    rw [c_first hd hP hc, Option.bind_some, c_second hd hP hc, Option.bind_some, show 373 + 5 = 378 from rfl, a1, Option.bind_some, a2, Option.bind_some, c1, Option.bind_some, c2, Option.bind_some]), fun p hp => ?_, fun j hj => ?_⟩
  · have hs : (shB F L p c = true) = (fs F L c = some p ∨ sc F L c = some p) := by unfold shB; rw [decide_eq_true_eq, fs_sc]
    have key : ∀ o0 o1 : Option Nat, (∀ q, o0 = some q → o1 = some q → False) → (cv1 o1 x (cv1 o0 x σ)) 379 p = (if o0 = some p ∨ o1 = some p then σ 379 p + x else σ 379 p) := by
      intro o0 o1 hn
      cases o0 with
      | none =>
        cases o1 with
        | none => simp [cv1]
        | some p1 =>
          by_cases hp1 : p = p1
          · subst hp1; simp [cv1, up_e]
          · rw [if_neg (by simp; exact fun z => hp1 z.symm)]
            show up σ 379 p1 (σ 379 p1 + x) 379 p = _
            exact up_j _ _ _ _ _ hp1
      | some p0 =>
        cases o1 with
        | none =>
          by_cases hp0 : p = p0
          · subst hp0; simp [cv1, up_e]
          · rw [if_neg (by simp; exact fun z => hp0 z.symm)]
            show up σ 379 p0 (σ 379 p0 + x) 379 p = _
            exact up_j _ _ _ _ _ hp0
        | some p1 =>
          have hn : p0 ≠ p1 := fun z => hn p0 rfl (by rw [z])
          by_cases hp1 : p = p1
          · subst hp1
            rw [if_pos (Or.inr rfl)]
            show up (up σ 379 p0 (σ 379 p0 + x)) 379 p (up σ 379 p0 (σ 379 p0 + x) 379 p + x) 379 p = _
            rw [up_e, up_j _ _ _ _ _ (Ne.symm hn)]
          · by_cases hp0 : p = p0
            · subst hp0
              rw [if_pos (Or.inl rfl)]
              show up (up σ 379 p (σ 379 p + x)) 379 p1 (up σ 379 p (σ 379 p + x) 379 p1 + x) 379 p = _
              rw [up_j _ _ _ _ _ hn, up_e]
            · rw [if_neg (by simp; exact ⟨fun z => hp0 z.symm, fun z => hp1 z.symm⟩)]
              show up (up σ 379 p0 (σ 379 p0 + x)) 379 p1 (up σ 379 p0 (σ 379 p0 + x) 379 p1 + x) 379 p = _
              rw [up_j _ _ _ _ _ hp1, up_j _ _ _ _ _ hp0]
    rw [key _ _ hne]
    by_cases hb : fs F L c = some p ∨ sc F L c = some p
    · rw [if_pos hb, if_pos (by rw [hs]; exact hb)]
    · rw [if_neg hb, if_neg (by rw [hs]; exact hb)]
  · cases h0 : fs F L c with
    | none =>
      cases h1 : sc F L c with
      | none => rfl
      | some p1 => exact up_k _ _ _ _ _ hj
    | some p0 =>
      cases h1 : sc F L c with
      | none => exact up_k _ _ _ _ _ hj
      | some p1 => exact (up_k _ _ _ _ _ hj).trans (up_k _ _ _ _ _ hj)
theorem PC_379 {σ ρ : Mem} {F : Nat → Int32} {L : List En} {d : Nat} (h : PC σ F L d) (hj : ∀ j, j ≠ 379 → ρ j = σ j) : PC ρ F L d := ⟨by rw [hj 373 (by omega)]; exact h.1, by rw [hj 375 (by omega), hj 377 (by omega)]; exact h.2⟩
theorem c_nl10 {F : Nat → Int32} {L : List En} {d : Nat} (hd : d ≤ 60) (hL : L.length ≤ 144) (hne : ∀ c, c < d → ∀ p, fs F L c = some p → sc F L c = some p → False) : ∀ m n c (σ : Mem), c + m = d → m < n → PC σ F L d → (∀ p, p < 144 → σ 379 p = ι (cf (shB F L p) 0 c)) → ∃ z ρ, fX4_countNeedless_l10 373 n (ι c) σ = some (z, ρ) ∧ (∀ p, p < 144 → ρ 379 p = ι (cf (shB F L p) 0 d)) ∧ ∀ j, j ≠ 379 → ρ j = σ j := by
  intro m
  induction m with
  | zero =>
    intro n c σ h hn hP hv
    obtain ⟨n, rfl⟩ : ∃ k, n = k + 1 := ⟨n - 1, by omega⟩
    have e : c = d := by omega
    subst e
    rw [fX4_countNeedless_l10, hP.1, if_pos (by rw [ι_le (by omega) (by omega)]; omega)]
    exact ⟨_, _, rfl, hv, fun _ _ => rfl⟩
  | succ m ih =>
    intro n c σ h hn hP hv
    obtain ⟨n, rfl⟩ : ∃ k, n = k + 1 := ⟨n - 1, by omega⟩
    obtain ⟨σ1, a1, a2, a3⟩ := c_addCover hd hL hP (show c < d by omega) (hne c (by omega)) 1
    obtain ⟨z, ρ, b1, b2, b3⟩ := ih n (c + 1) σ1 (by omega) (by omega) (PC_379 hP a3) (fun p hp => by
      rw [a2 p hp, hv p hp, cf_last, Nat.zero_add]
      by_cases hs : shB F L p c = true
      · rw [if_pos hs, if_pos hs, l_1, ι_add]
      · rw [if_neg hs, if_neg hs, Nat.add_zero])
    refine ⟨z, ρ, ?_, b2, fun j hj => (b3 j hj).trans (a3 j hj)⟩
    rw [fX4_countNeedless_l10, hP.1, if_neg (by rw [ι_le (by omega) (by omega)]; omega), a1, Option.bind_some, l_1, ι_add]
    exact b1
def ps (m : Nat) : Int32 := if m = 0 then μ else ι (m - 1)
theorem ps_dec (m : Nat) : ι m + (-1 : Int32) = ps m := by
  unfold ps
  by_cases h : m = 0
  · rw [if_pos h, h]; rfl
  · rw [if_neg h]
    show ι m + μ = _
    rw [ι_addm (by omega)]
theorem ps_sub (m : Nat) : ι m - (1 : Int32) = ps m := by
  unfold ps
  by_cases h : m = 0
  · rw [if_pos h, h]; rfl
  · rw [if_neg h, l_1, ι_sub (by omega)]
theorem ps_succ (m : Nat) : ps (m + 1) = ι m := by unfold ps; rw [if_neg (by omega)]; rfl
theorem nd_eq (E : Nat → Bool) (F : Nat → Int32) (L : List En) (c : Nat) : (ndB E (fs F L c) && ndB E (sc F L c)) = (ndB E (sh0 F L c) && ndB E (sh1 F L c)) := by
  unfold fs sc oA oB
  cases h0 : sh0 F L c with
  | none => show (ndB E (sh1 F L c) && true) = (true && ndB E (sh1 F L c)); rw [Bool.and_true, Bool.true_and]
  | some x => rfl
theorem nar_b1 : vp_nar .boolean (ι 1) = ι 1 := by decide +kernel
theorem nar_b0 : vp_nar .boolean (ι 0) = ι 0 := by decide +kernel
theorem need_sim {F : Nat → Int32} {L : List En} {n a d : Nat} (hd : d ≤ 60) (hL : L.length ≤ 144) (hne : ∀ c, c < d → ∀ p, fs F L c = some p → sc F L c = some p → False) : ∀ m n1 n2 (x : Int32) (u : Nat → Bool) (σ τ : Mem), m ≤ d → m < n1 → m < n2 → PC σ F L d → CVn σ F L u d → SX τ F L n a d → U17 τ u → (∀ c, c < m → u c = false) → ∃ v z ρ z' υ, fX4_countNeedless_l39 373 n1 x (ps m) σ = some (v, z, ρ) ∧ fX12_needless_l41 n2 x (ps m) τ = some (v, z', υ) ∧ (∀ j, j ≠ 379 → ρ j = σ j) ∧ (∀ k j, k ≠ 12 → k ≠ 17 → υ k j = τ k j) := by
  intro m
  induction m with
  | zero =>
    intro n1 n2 x u σ τ hm h1 h2 hP hC hX hU hu
    obtain ⟨n1, rfl⟩ : ∃ k, n1 = k + 1 := ⟨n1 - 1, by omega⟩
    obtain ⟨n2, rfl⟩ : ∃ k, n2 = k + 1 := ⟨n2 - 1, by omega⟩
    rw [fX4_countNeedless_l39, fX12_needless_l41, if_pos (by decide), if_pos (by decide)]
    exact ⟨_, _, _, _, _, rfl, rfl, fun _ _ => rfl, fun _ _ _ _ => rfl⟩
  | succ m ih =>
    intro n1 n2 x u σ τ hm h1 h2 hP hC hX hU hu
    obtain ⟨n1, rfl⟩ : ∃ k, n1 = k + 1 := ⟨n1 - 1, by omega⟩
    obtain ⟨n2, rfl⟩ : ∃ k, n2 = k + 1 := ⟨n2 - 1, by omega⟩
    have hum := hu m (by omega)
    have e0 : ¬ ι m < 0 := by simp (disch := omega) only [l_0, l_1, l_2, l_3, l_4, l_5, l_6, l_7, l_8, l_9, l_10, l_12, l_13, l_24, l_31, l_32, l_40, l_41, l_42, l_44, l_45, l_48, l_49, l_50, l_57, l_59, l_60, l_65, l_88, l_89, l_97, l_98, l_99, l_100, l_105, l_108, l_109, l_114, l_118, l_120, l_122, l_144, l_255, l_269, l_279, l_339, l_400, l_600, l_999, l_1000, l_2373, l_2712, ι_lt, ι_le, ι_eq, ι_add, ι_mul, ι_sub, ι_div, ι_n, ι_m1, m1_ι, m1_lt, m1_le, lt_m1, le_m1, m1_lt_m1, m1_le_m1, m1_add1, neg_ι1, ι_addm, ι_addn, Bool.false_eq_true, Nat.not_lt_zero, Nat.add_zero, Nat.zero_add, Nat.mul_zero, Nat.reduceMul, Nat.reduceAdd, Nat.reduceSub, Nat.reduceLT, Nat.reduceLeDiff, Nat.reduceEqDiff, Nat.reduceDiv, Nat.reduceBEq, Nat.reduceBNe, false_or, or_false, true_or, or_true, and_true, true_and, false_and, and_false, not_false_eq_true, not_true_eq_false, if_true, if_false, if_pos, if_neg, Option.bind_some, ite_false, ite_true, eq_self, reduceIte]
    have e10 : ¬ (ι 1 = (0 : Int32)) := by decide
    have e00 : ι 0 = (0 : Int32) := rfl
    have b0 : ∀ i, fs F L m = some i → i < 144 := fun i hi => by have := fs_lt hL hi; omega
    have b1 : ∀ i, sc F L m = some i → i < 144 := fun i hi => by have := sc_lt hL hi; omega
    obtain ⟨τ1, a1, a2⟩ := r_isNeedless hX hU (show m < d by omega) hum
    rw [← nd_eq] at a1
    have em : ¬ (ι m < 0 ∨ lm 17 ≤ (ι m).toNatClampNeg) := by
      simp (disch := omega) only [l_0, l_1, l_2, l_3, l_4, l_5, l_6, l_7, l_8, l_9, l_10, l_12, l_13, l_24, l_31, l_32, l_40, l_41, l_42, l_44, l_45, l_48, l_49, l_50, l_57, l_59, l_60, l_65, l_88, l_89, l_97, l_98, l_99, l_100, l_105, l_108, l_109, l_114, l_118, l_120, l_122, l_144, l_255, l_269, l_279, l_339, l_400, l_600, l_999, l_1000, l_2373, l_2712, ι_lt, ι_le, ι_eq, ι_add, ι_mul, ι_sub, ι_div, ι_n, ι_m1, m1_ι, m1_lt, m1_le, lt_m1, le_m1, m1_lt_m1, m1_le_m1, m1_add1, neg_ι1, ι_addm, ι_addn, Bool.false_eq_true, Nat.not_lt_zero, Nat.add_zero, Nat.zero_add, Nat.mul_zero, Nat.reduceMul, Nat.reduceAdd, Nat.reduceSub, Nat.reduceLT, Nat.reduceLeDiff, Nat.reduceEqDiff, Nat.reduceDiv, Nat.reduceBEq, Nat.reduceBNe, false_or, or_false, true_or, or_true, and_true, true_and, false_and, and_false, not_false_eq_true, not_true_eq_false, if_true, if_false, if_pos, if_neg, Option.bind_some, ite_false, ite_true, eq_self, reduceIte, lm_0, lm_1, lm_2, lm_3, lm_4, lm_5, lm_6, lm_7, lm_8, lm_9, lm_10, lm_11, lm_12, lm_13, lm_14, lm_15, lm_16, lm_17]; omega
    have en : (ι m).toNatClampNeg = m := ι_n (by omega)
    rw [fX4_countNeedless_l39, fX12_needless_l41, ps_succ, if_neg e0, if_neg e0, a1, Option.bind_some, if_neg em, if_neg em, en, c_first hd hP (show m < d by omega), Option.bind_some, c_twice hd hC b0, Option.bind_some, ps_dec]
    have hw : ∀ (v : Int32) k j, k ≠ 12 → k ≠ 17 → up τ1 17 m v k j = τ k j := fun v k j g1 g2 => by rw [up_k _ _ _ _ _ g2, a2 k j g1]
    have hX1 : ∀ v : Int32, SX (up τ1 17 m v) F L n a d := fun v => SX_c hX (funext fun j => hw v 3 j (by omega) (by omega)) (funext fun j => hw v 8 j (by omega) (by omega)) (hw v 0 17 (by omega) (by omega))
    by_cases hb : (ndB (E1 F L u d) (fs F L m) && ndB (E1 F L u d) (sc F L m)) = true
    · have hb1 : ndB (E1 F L u d) (fs F L m) = true := (Bool.and_eq_true _ _ ▸ hb).1
      have hb2 : ndB (E1 F L u d) (sc F L m) = true := (Bool.and_eq_true _ _ ▸ hb).2
      obtain ⟨σ1, c1, c2, c3⟩ := c_addCover hd hL hP (show m < d by omega) (hne m (by omega)) (-1)
      rw [if_pos hb1, if_neg e10, c_second hd hP (show m < d by omega), Option.bind_some, c_twice hd hC b1, Option.bind_some, if_pos hb2, if_neg e10, c1, Option.bind_some]
      rw [if_pos hb]
      show ∃ v z ρ z' υ, _ ∧ (if up τ1 17 m (vp_nar .boolean (ι 1)) 17 m = 0 then _ else fX12_needless_l41 n2 (x + 1) (ps m) (up τ1 17 m (vp_nar .boolean (ι 1)))) = _ ∧ _ ∧ _
      rw [nar_b1, up_e, if_neg e10]
      obtain ⟨v, z, ρ, z', υ, d1, d2, d3, d4⟩ := ih n1 n2 (x + 1) (fun k => if k = m then true else u k) σ1 (up τ1 17 m (ι 1)) (by omega) (by omega) (by omega) (PC_379 hP c3) (fun p hp => by
        have hpt := cf_point (P := alv F L u p) (Q := alv F L (fun k => if k = m then true else u k) p) (c := m) (fun k hk => by unfold alv; simp only [hk, if_false]) (by unfold alv; simp) d 0 (by omega) (by omega)
        rw [c2 p hp, hC p hp]
        by_cases hs : shB F L p m = true
        · have hal : alv F L u p m = true := by unfold alv; rw [hum, hs]; rfl
          rw [hal, if_pos rfl] at hpt
          rw [if_pos hs, hpt]
          show ι _ + μ = _
          rw [ι_addm (by omega)]; rfl
        · have hal : ¬ alv F L u p m = true := by unfold alv; simp [hs]
          rw [if_neg hal] at hpt
          rw [if_neg hs, hpt]; rfl) (hX1 _) (fun c hc => by
        by_cases hcm : c = m
        · rw [hcm, up_e]; simp
        · rw [up_j _ _ _ _ _ hcm, a2 17 c (by omega), hU c hc]; simp only [hcm, if_false]) (fun c hc => by
        have : c ≠ m := by omega
        simp only [this, if_false]; exact hu c (by omega))
      exact ⟨v, z, ρ, z', υ, d1, d2, fun j hj => (d3 j hj).trans (c3 j hj), fun k j g1 g2 => (d4 k j g1 g2).trans (hw _ k j g1 g2)⟩
    · rw [if_neg hb]
      obtain ⟨v, z, ρ, z', υ, d1, d2, d3, d4⟩ := ih n1 n2 x u σ (up τ1 17 m (ι 0)) (by omega) (by omega) (by omega) hP hC (hX1 _) (fun c hc => by
        by_cases hcm : c = m
        · rw [hcm, up_e, hum]; rfl
        · rw [up_j _ _ _ _ _ hcm, a2 17 c (by omega), hU c hc]) (fun c hc => hu c (by omega))
      refine ⟨v, z, ρ, z', υ, ?_, ?_, d3, fun k j g1 g2 => (d4 k j g1 g2).trans (hw _ k j g1 g2)⟩
      · by_cases hb1 : ndB (E1 F L u d) (fs F L m) = true
        · have hb2 : ¬ ndB (E1 F L u d) (sc F L m) = true := fun z => hb (by rw [hb1, z]; rfl)
          rw [if_pos hb1, if_neg e10, c_second hd hP (show m < d by omega), Option.bind_some, c_twice hd hC b1, Option.bind_some, if_neg hb2, if_pos e00]
          exact d1
        · rw [if_neg hb1, if_pos e00]
          exact d1
      · show (if up τ1 17 m (vp_nar .boolean (ι 0)) 17 m = 0 then fX12_needless_l41 n2 (x + 0) (ps m) (up τ1 17 m (vp_nar .boolean (ι 0))) else _) = _
        rw [nar_b0, up_e, if_pos e00, Int32.add_zero]
        exact d2
theorem r_nl11 : ∀ m n c (τ : Mem), c + m = 60 → m < n → (∀ j, j < c → τ 17 j = ι 0) → ∃ z υ, fX12_needless_l11 n (ι c) τ = some (z, υ) ∧ (∀ j, j < 60 → υ 17 j = ι 0) ∧ ∀ k j, k ≠ 17 → υ k j = τ k j := by
  intro m
  induction m with
  | zero =>
    intro n c τ h hn hr
    obtain ⟨n, rfl⟩ : ∃ k, n = k + 1 := ⟨n - 1, by omega⟩
    rw [fX12_needless_l11, l_60, if_pos (by rw [ι_le (by omega) (by omega)]; omega)]
    exact ⟨_, _, rfl, fun j hj => hr j (by omega), fun _ _ _ => rfl⟩
  | succ m ih =>
    intro n c τ h hn hr
    obtain ⟨n, rfl⟩ : ∃ k, n = k + 1 := ⟨n - 1, by omega⟩
    obtain ⟨z, υ, a1, a2, a3⟩ := ih n (c + 1) (up τ 17 c (vp_nar .boolean (0 : Int32))) (by omega) (by omega) (fun j hj => by
      by_cases hji : j = c
      · rw [hji, up_e]; exact nar_b0
      · rw [up_j _ _ _ _ _ hji]; exact hr j (by omega))
    refine ⟨z, υ, ?_, a2, fun k j hk => (a3 k j hk).trans (congrFun (up_k _ _ _ _ _ hk) j)⟩
    have em : ¬ (ι c < 0 ∨ lm 17 ≤ (ι c).toNatClampNeg) := by
      simp (disch := omega) only [l_0, l_1, l_2, l_3, l_4, l_5, l_6, l_7, l_8, l_9, l_10, l_12, l_13, l_24, l_31, l_32, l_40, l_41, l_42, l_44, l_45, l_48, l_49, l_50, l_57, l_59, l_60, l_65, l_88, l_89, l_97, l_98, l_99, l_100, l_105, l_108, l_109, l_114, l_118, l_120, l_122, l_144, l_255, l_269, l_279, l_339, l_400, l_600, l_999, l_1000, l_2373, l_2712, ι_lt, ι_le, ι_eq, ι_add, ι_mul, ι_sub, ι_div, ι_n, ι_m1, m1_ι, m1_lt, m1_le, lt_m1, le_m1, m1_lt_m1, m1_le_m1, m1_add1, neg_ι1, ι_addm, ι_addn, Bool.false_eq_true, Nat.not_lt_zero, Nat.add_zero, Nat.zero_add, Nat.mul_zero, Nat.reduceMul, Nat.reduceAdd, Nat.reduceSub, Nat.reduceLT, Nat.reduceLeDiff, Nat.reduceEqDiff, Nat.reduceDiv, Nat.reduceBEq, Nat.reduceBNe, false_or, or_false, true_or, or_true, and_true, true_and, false_and, and_false, not_false_eq_true, not_true_eq_false, if_true, if_false, if_pos, if_neg, Option.bind_some, ite_false, ite_true, eq_self, reduceIte, lm_0, lm_1, lm_2, lm_3, lm_4, lm_5, lm_6, lm_7, lm_8, lm_9, lm_10, lm_11, lm_12, lm_13, lm_14, lm_15, lm_16, lm_17]; omega
    rw [fX12_needless_l11, l_60, if_neg (by rw [ι_le (by omega) (by omega)]; omega), if_neg em, ι_n (by omega), l_1, ι_add]
    exact a1
theorem sim39 : Sim39 Rel := by
  intro σ τ hR
  replace hR := Rel_0 hR 0
  unfold fX12_needless fX11_needless
  generalize up τ 0 0 (0 : Int32) = τ at *
  obtain ⟨k, n, a, b, d, t, hO⟩ := RO_of hR
  obtain ⟨ρ, υ, e1, e2, hO2, oc, pc, sx, f1, f2⟩ := scans_RO hO
  have hd := sx.2.2.1
  have hL := sx.2.2.2.1
  have hS := sx.2.2.2.2.2.2.2.2.1
  have hne : ∀ c, c < d → ∀ p, fs (τ 3) (ordE (τ 3) n a) c = some p → sc (τ 3) (ordE (τ 3) n a) c = some p → False := fun c hc p h1 h2 => by
    unfold fs oA at h1
    unfold sc oB at h2
    cases h0 : sh0 (τ 3) (ordE (τ 3) n a) c with
    | none => rw [h0] at h2; cases h2
    | some x =>
      rw [h0] at h1 h2
      have h1 : some x = some p := h1
      have h2 : sh1 (τ 3) (ordE (τ 3) n a) c = some p := h2
      cases h1
      have := sh_lt sx.1 (hS c hc) h0 h2
      omega
  have hfill := c_fill (o := 378) (x := (0 : Int32)) (σ := ρ) ln379 (by omega)
  have hfj : ∀ j, j ≠ 379 → (fun k j => if k = 378 + 1 ∧ j < 144 then (0 : Int32) else ρ k j : Mem) j = ρ j := fun j hj => funext fun i => by
    show (if j = 378 + 1 ∧ i < 144 then (0 : Int32) else ρ j i) = ρ j i
    rw [if_neg (by omega)]
  obtain ⟨z, ρ1, a1, a2, a3⟩ := c_nl10 hd hL hne d FU 0 (fun k j => if k = 378 + 1 ∧ j < 144 then (0 : Int32) else ρ k j) (by omega) (by unfold FU; omega) (PC_379 pc hfj) (fun p hp => by
    show (if 379 = 378 + 1 ∧ p < 144 then (0 : Int32) else _) = _
    rw [if_pos (by omega)]; rfl)
  have hj1 : ∀ j, j ≠ 379 → ρ1 j = ρ j := fun j hj => (a3 j hj).trans (hfj j hj)
  obtain ⟨z', υ1, b1, b2, b3⟩ := r_nl11 60 FU 0 υ (by omega) (by unfold FU; omega) (fun j hj => by omega)
  have hsx : SX υ1 (τ 3) (ordE (τ 3) n a) n a d := SX_c sx (funext fun j => b3 3 j (by omega)) (funext fun j => b3 8 j (by omega)) (b3 0 17 (by omega))
  have h32 : υ1 3 2 = ι d := by rw [hsx.2.2.2.2.2.2.1]; exact hsx.2.2.2.2.2.2.2.2.2
  obtain ⟨v, w, ρ2, w', υ2, c1, c2, c3, c4⟩ := need_sim hd hL hne d FU FU 0 (fun _ => false) ρ1 υ1 (Nat.le_refl d) (by unfold FU; omega) (by unfold FU; omega) (PC_379 pc hj1) (fun p hp => a2 p hp) hsx (fun c hc => b2 c hc) (fun _ _ => rfl)
  refine ⟨v, ρ2, υ2, ?_, ?_, Rel_c (RO_rel hO2) (fun j hj => (c3 j (by unfold KK RK at hj; omega)).trans (hj1 j (by unfold KK RK at hj; omega))) (fun k j hk => ?_)⟩
  · have a1 : fX4_countNeedless_l10 373 FU 0 _ = _ := a1
    unfold fX4_countNeedless
    rw [e1, Option.bind_some, Nat.zero_add, hfill, Option.bind_some, a1, Option.bind_some]
    show ((fX4_countNeedless_l39 373 FU 0 (ρ1 373 5 - 1) ρ1).bind _).bind _ = _
    rw [hj1 373 (by omega), pc.1, ps_sub, c1]; rfl
  · have b1 : fX12_needless_l11 FU 0 υ = _ := b1
    have ez : ¬ ((2 : Int32) < 0 ∨ lm 3 ≤ (2 : Int32).toNatClampNeg) := by decide
    rw [e2, Option.bind_some, b1, Option.bind_some, if_neg ez]
    show (fX12_needless_l41 FU 0 (υ1 3 2 - 1) υ1).bind _ = _
    rw [h32, ps_sub, c2]; rfl
  · rw [c4 k j (by unfold KT RT at hk; omega) (by unfold KT RT at hk; omega), b3 k j (by unfold KT RT at hk; omega)]
