/-! PURE PART: statements of the setup text, missing leaves -/
def rS (F : Nat → Int32) (v s : Nat) : Bool := decide (F (5 + 3 * s) = ι v)
theorem ff_is_some {P : Nat → Bool} {a : Nat} : (ff P 0 a).isSome = true ↔ ∃ s, s < a ∧ P s = true := by
  constructor
  · intro h
    cases hf : ff P 0 a with
    | none => rw [hf] at h; cases h
    | some s => exact ⟨s, by have := (ff_some _ _ hf).2.1; omega, (ff_some _ _ hf).2.2.1⟩
  · intro ⟨s, h1, h2⟩
    cases hf : ff P 0 a with
    | none => have := ff_none _ _ hf s (by omega) (by omega); rw [h2] at this; cases this
    | some s => rfl
theorem r_hs_l {τ : Mem} {a v : Nat} (h0 : τ 4 0 = ι a) (ha : a ≤ 12) : ∀ d f i, i + d = a → d < f → (fX12_hasSlipRead_l2 (ι v) f (ι i) τ).bind (fun q2 => match q2 with | .inl r => some r | .inr q2 => some (0 : Int32)) = some (if (ff (rS (τ 4) v) i d).isSome then ι 1 else ι 0) := by
  intro d
  induction d with
  | zero =>
    intro f i hi hf
    obtain ⟨f, rfl⟩ : ∃ k, f = k + 1 := ⟨f - 1, by omega⟩
    rw [fX12_hasSlipRead_l2, if_neg (show ¬ ((0 : Int32) < 0 ∨ lm 4 ≤ (0 : Int32).toNatClampNeg) by decide), show τ 4 (0 : Int32).toNatClampNeg = ι a from h0, if_pos (by rw [ι_le (by omega) (by omega)]; omega)]
    rfl
  | succ d ih =>
    intro f i hi hf
    obtain ⟨f, rfl⟩ : ∃ k, f = k + 1 := ⟨f - 1, by omega⟩
    have hfn : ¬ ((5 : Int32) + (3 : Int32) * ι i < 0 ∨ lm 4 ≤ ((5 : Int32) + (3 : Int32) * ι i).toNatClampNeg) := by simp (disch := omega) only [l_0, l_1, l_2, l_3, l_4, l_5, l_6, l_7, l_8, l_9, l_10, l_12, l_13, l_24, l_31, l_32, l_40, l_41, l_42, l_44, l_45, l_48, l_49, l_50, l_57, l_59, l_60, l_65, l_88, l_89, l_97, l_98, l_99, l_100, l_105, l_108, l_109, l_114, l_118, l_120, l_122, l_144, l_255, l_269, l_279, l_339, l_400, l_600, l_999, l_1000, l_2373, l_2712, ι_lt, ι_le, ι_eq, ι_add, ι_mul, ι_sub, ι_div, ι_n, ι_m1, m1_ι, m1_lt, m1_le, lt_m1, le_m1, m1_lt_m1, m1_le_m1, m1_add1, neg_ι1, ι_addm, ι_addn, Bool.false_eq_true, Nat.not_lt_zero, Nat.add_zero, Nat.zero_add, Nat.mul_zero, Nat.reduceMul, Nat.reduceAdd, Nat.reduceSub, Nat.reduceLT, Nat.reduceLeDiff, Nat.reduceEqDiff, Nat.reduceDiv, Nat.reduceBEq, Nat.reduceBNe, false_or, or_false, true_or, or_true, and_true, true_and, false_and, and_false, not_false_eq_true, not_true_eq_false, if_true, if_false, if_pos, if_neg, Option.bind_some, ite_false, ite_true, eq_self, reduceIte, lm_0, lm_1, lm_2, lm_3, lm_4, lm_5, lm_6, lm_7, lm_8, lm_9, lm_10, lm_11, lm_12, lm_13, lm_14, lm_15, lm_16, lm_17]; omega
    have hnn : ((5 : Int32) + (3 : Int32) * ι i).toNatClampNeg = 5 + 3 * i := by simp (disch := omega) only [l_0, l_1, l_2, l_3, l_4, l_5, l_6, l_7, l_8, l_9, l_10, l_12, l_13, l_24, l_31, l_32, l_40, l_41, l_42, l_44, l_45, l_48, l_49, l_50, l_57, l_59, l_60, l_65, l_88, l_89, l_97, l_98, l_99, l_100, l_105, l_108, l_109, l_114, l_118, l_120, l_122, l_144, l_255, l_269, l_279, l_339, l_400, l_600, l_999, l_1000, l_2373, l_2712, ι_lt, ι_le, ι_eq, ι_add, ι_mul, ι_sub, ι_div, ι_n, ι_m1, m1_ι, m1_lt, m1_le, lt_m1, le_m1, m1_lt_m1, m1_le_m1, m1_add1, neg_ι1, ι_addm, ι_addn, Bool.false_eq_true, Nat.not_lt_zero, Nat.add_zero, Nat.zero_add, Nat.mul_zero, Nat.reduceMul, Nat.reduceAdd, Nat.reduceSub, Nat.reduceLT, Nat.reduceLeDiff, Nat.reduceEqDiff, Nat.reduceDiv, Nat.reduceBEq, Nat.reduceBNe, false_or, or_false, true_or, or_true, and_true, true_and, false_and, and_false, not_false_eq_true, not_true_eq_false, if_true, if_false, if_pos, if_neg, Option.bind_some, ite_false, ite_true, eq_self, reduceIte]
    rw [fX12_hasSlipRead_l2, if_neg (show ¬ ((0 : Int32) < 0 ∨ lm 4 ≤ (0 : Int32).toNatClampNeg) by decide), show τ 4 (0 : Int32).toNatClampNeg = ι a from h0, if_neg (by rw [ι_le (by omega) (by omega)]; omega), if_neg hfn, hnn, ff, l_1, ι_add]
    by_cases e : τ 4 (5 + 3 * i) = ι v
    · have hq : rS (τ 4) v i = true := by unfold rS; rw [decide_eq_true_eq]; exact e
      rw [if_pos e, if_pos hq]; rfl
    · have hq : ¬ rS (τ 4) v i = true := by unfold rS; rw [decide_eq_true_eq]; exact e
      rw [if_neg e, if_neg hq]
      exact ih f (i + 1) (by omega) (by omega)
theorem r_hasSlipRead {τ : Mem} {a v : Nat} (h0 : τ 4 0 = ι a) (ha : a ≤ 12) : fX12_hasSlipRead (ι v) τ = some (if (ff (rS (τ 4) v) 0 a).isSome then ι 1 else ι 0) := r_hs_l h0 ha a FU 0 (by omega) (by unfold FU; omega)
def hsl (F : Nat → Int32) (a v : Nat) : Bool := (ff (rS F v) 0 a).isSome
theorem hsl_c {F G : Nat → Int32} {a v : Nat} (ha : a ≤ 12) (h : ∀ j, 5 ≤ j → j < 41 → G j = F j) : hsl G a v = hsl F a v := by
  unfold hsl
  rw [ff_congr (P := rS G v) (Q := rS F v) a 0 (fun s _ hs => by unfold rS; rw [h _ (by omega) (by omega)])]
theorem hs_range {F : Nat → Int32} {n a x y : Nat} (hn : n ≤ 60) (hx : x < 60) (hy : y < n) (hS : ∀ s, s < a → SlI n F s) : (ff (hsB F (ι x) (ι y)) 0 a).isSome = true ↔ ∃ v, x ≤ v ∧ v ≤ y ∧ hsl F a v = true := by
  rw [ff_is_some]
  constructor
  · intro ⟨s, h1, h2⟩
    unfold hsB at h2
    rw [decide_eq_true_eq] at h2
    rcases (hS s h1).1 with z | ⟨p, q, p1, p2, p3, p4⟩
    · exact absurd z.1 h2.1
    · rw [p3, ι_lt (by omega) (by omega), ι_lt (by omega) (by omega)] at h2
      exact ⟨p, by omega, by omega, by unfold hsl; rw [ff_is_some]; exact ⟨s, h1, by unfold rS; rw [decide_eq_true_eq]; exact p3⟩⟩
  · intro ⟨v, h1, h2, h3⟩
    unfold hsl at h3
    rw [ff_is_some] at h3
    obtain ⟨s, s1, s2⟩ := h3
    unfold rS at s2
    rw [decide_eq_true_eq] at s2
    refine ⟨s, s1, ?_⟩
    unfold hsB
    rw [decide_eq_true_eq, s2]
    exact ⟨fun z => by rw [ι_m1 (by omega)] at z; exact z, by rw [ι_lt (by omega) (by omega)]; omega, by rw [ι_lt (by omega) (by omega)]; omega⟩
theorem r_tm_yes {τ : Mem} {a v : Nat} (h15 : τ 0 15 = μ) (h0 : τ 4 0 = ι a) (ha : a ≤ 12) (hv : v < 60) (hs : hsl (τ 4) a v = true) {s : Nat} (hs6 : s ≤ 600) (h14 : τ 0 14 = ι s) : fX12_tellsMissing (ι v) τ = some (up τ 0 15 (ι s)) := by
  unfold fX12_tellsMissing
  have h1 := r_hasSlipRead (v := v) h0 ha
  unfold hsl at hs
  rw [if_pos hs] at h1
  rw [r_fine h15, Option.bind_some, if_neg (by decide), h1, Option.bind_some, if_neg (by decide), r_wrong h15, Option.bind_some, h14, r_notf (s := s) (up_e _ _ _ _) hs6, Option.bind_some, if_pos (show ι 0 = (0 : Int32) from rfl)]
theorem r_tm_no {τ : Mem} {a v : Nat} (h15 : τ 0 15 = μ) (h0 : τ 4 0 = ι a) (ha : a ≤ 12) (hv : v < 60) (hs : ¬ hsl (τ 4) a v = true) : fX12_tellsMissing (ι v) τ = some (up τ 4 (279 + v) (ι 1)) := by
  unfold fX12_tellsMissing
  have h1 := r_hasSlipRead (v := v) h0 ha
  unfold hsl at hs
  rw [if_neg hs] at h1
  have hfn : ¬ ((279 : Int32) + ι v < 0 ∨ lm 4 ≤ ((279 : Int32) + ι v).toNatClampNeg) := by simp (disch := omega) only [l_0, l_1, l_2, l_3, l_4, l_5, l_6, l_7, l_8, l_9, l_10, l_12, l_13, l_24, l_31, l_32, l_40, l_41, l_42, l_44, l_45, l_48, l_49, l_50, l_57, l_59, l_60, l_65, l_88, l_89, l_97, l_98, l_99, l_100, l_105, l_108, l_109, l_114, l_118, l_120, l_122, l_144, l_255, l_269, l_279, l_339, l_400, l_600, l_999, l_1000, l_2373, l_2712, ι_lt, ι_le, ι_eq, ι_add, ι_mul, ι_sub, ι_div, ι_n, ι_m1, m1_ι, m1_lt, m1_le, lt_m1, le_m1, m1_lt_m1, m1_le_m1, m1_add1, neg_ι1, ι_addm, ι_addn, Bool.false_eq_true, Nat.not_lt_zero, Nat.add_zero, Nat.zero_add, Nat.mul_zero, Nat.reduceMul, Nat.reduceAdd, Nat.reduceSub, Nat.reduceLT, Nat.reduceLeDiff, Nat.reduceEqDiff, Nat.reduceDiv, Nat.reduceBEq, Nat.reduceBNe, false_or, or_false, true_or, or_true, and_true, true_and, false_and, and_false, not_false_eq_true, not_true_eq_false, if_true, if_false, if_pos, if_neg, Option.bind_some, ite_false, ite_true, eq_self, reduceIte, lm_0, lm_1, lm_2, lm_3, lm_4, lm_5, lm_6, lm_7, lm_8, lm_9, lm_10, lm_11, lm_12, lm_13, lm_14, lm_15, lm_16, lm_17]; omega
  have hnn : ((279 : Int32) + ι v).toNatClampNeg = 279 + v := by simp (disch := omega) only [l_0, l_1, l_2, l_3, l_4, l_5, l_6, l_7, l_8, l_9, l_10, l_12, l_13, l_24, l_31, l_32, l_40, l_41, l_42, l_44, l_45, l_48, l_49, l_50, l_57, l_59, l_60, l_65, l_88, l_89, l_97, l_98, l_99, l_100, l_105, l_108, l_109, l_114, l_118, l_120, l_122, l_144, l_255, l_269, l_279, l_339, l_400, l_600, l_999, l_1000, l_2373, l_2712, ι_lt, ι_le, ι_eq, ι_add, ι_mul, ι_sub, ι_div, ι_n, ι_m1, m1_ι, m1_lt, m1_le, lt_m1, le_m1, m1_lt_m1, m1_le_m1, m1_add1, neg_ι1, ι_addm, ι_addn, Bool.false_eq_true, Nat.not_lt_zero, Nat.add_zero, Nat.zero_add, Nat.mul_zero, Nat.reduceMul, Nat.reduceAdd, Nat.reduceSub, Nat.reduceLT, Nat.reduceLeDiff, Nat.reduceEqDiff, Nat.reduceDiv, Nat.reduceBEq, Nat.reduceBNe, false_or, or_false, true_or, or_true, and_true, true_and, false_and, and_false, not_false_eq_true, not_true_eq_false, if_true, if_false, if_pos, if_neg, Option.bind_some, ite_false, ite_true, eq_self, reduceIte]
  rw [r_fine h15, Option.bind_some, if_neg (by decide), h1, Option.bind_some, if_pos (show ι 0 = (0 : Int32) from rfl), Option.bind_some, if_neg (by decide), if_neg hfn, hnn]
  rfl
theorem bad_tm {B : Nat → Nat} {m e : Nat} {τ : Mem} (h : BD B m τ e) (x : Int32) : fX12_tellsMissing x τ = some τ := by
  unfold fX12_tellsMissing
  rw [r_notf h.2.2.1 h.2.1, Option.bind_some, if_pos (show ι 0 = (0 : Int32) from rfl), Option.bind_some, if_pos (show ι 0 = (0 : Int32) from rfl)]
theorem r_l39_ok {a y : Nat} (ha : a ≤ 12) (hy : y < 60) : ∀ d f i (τ : Mem), i + d = y + 1 → d < f → τ 0 15 = μ → τ 4 0 = ι a → (∀ v, i ≤ v → v ≤ y → ¬ hsl (τ 4) a v = true) → ∃ z υ, fX12_readsMissing_l39 (ι y) f (ι i) τ = some (z, υ) ∧ (∀ j, i ≤ j → j ≤ y → υ 4 (279 + j) = ι 1) ∧ ∀ k j, ¬ (k = 4 ∧ 279 + i ≤ j ∧ j ≤ 279 + y) → υ k j = τ k j := by
  intro d
  induction d with
  | zero =>
    intro f i τ hi hf h15 h0 hno
    obtain ⟨f, rfl⟩ : ∃ k, f = k + 1 := ⟨f - 1, by omega⟩
    rw [fX12_readsMissing_l39, if_pos (by rw [ι_lt (by omega) (by omega)]; omega)]
    exact ⟨_, _, rfl, fun j h1 h2 => by omega, fun _ _ _ => rfl⟩
  | succ d ih =>
    intro f i τ hi hf h15 h0 hno
    obtain ⟨f, rfl⟩ : ∃ k, f = k + 1 := ⟨f - 1, by omega⟩
    rw [fX12_readsMissing_l39, if_neg (by rw [ι_lt (by omega) (by omega)]; omega), r_fine h15, Option.bind_some, if_neg (by decide), r_tm_no h15 h0 ha (by omega) (hno i (by omega) (by omega)), Option.bind_some, l_1, ι_add]
    obtain ⟨z, υ, b1, b2, b3⟩ := ih f (i + 1) (up τ 4 (279 + i) (ι 1)) (by omega) (by omega) (by rw [up_k _ _ _ _ _ (by omega)]; exact h15) (by rw [up_j _ _ _ _ _ (by omega)]; exact h0) (fun v h1 h2 => by
      rw [hsl_c (F := τ 4) ha (fun j g1 g2 => by rw [up_j _ _ _ _ _ (by omega)])]; exact hno v (by omega) h2)
    refine ⟨z, υ, b1, fun j h1 h2 => ?_, fun k j hk => ?_⟩
    · by_cases e : j = i
      · rw [b3 4 (279 + j) (by omega), e, up_e]
      · exact b2 j (by omega) h2
    · rw [b3 k j (by omega), up_g, if_neg (by omega)]
theorem r_l39_no {a y s : Nat} (ha : a ≤ 12) (hy : y < 60) (hs6 : s ≤ 600) : ∀ d f i (τ : Mem), i + d = y + 1 → d < f → τ 0 15 = μ → τ 0 14 = ι s → τ 4 0 = ι a → (∃ v, i ≤ v ∧ v ≤ y ∧ hsl (τ 4) a v = true) → ∃ z υ, fX12_readsMissing_l39 (ι y) f (ι i) τ = some (z, υ) ∧ υ 0 15 = ι s ∧ frP τ υ := by
  intro d
  induction d with
  | zero =>
    intro f i τ hi hf h15 h14 h0 ⟨v, h1, h2, h3⟩
    omega
  | succ d ih =>
    intro f i τ hi hf h15 h14 h0 ⟨v, h1, h2, h3⟩
    obtain ⟨f, rfl⟩ : ∃ k, f = k + 1 := ⟨f - 1, by omega⟩
    rw [fX12_readsMissing_l39, if_neg (by rw [ι_lt (by omega) (by omega)]; omega), r_fine h15, Option.bind_some, if_neg (by decide), l_1, ι_add]
    by_cases hi' : hsl (τ 4) a i = true
    · rw [r_tm_yes h15 h0 ha (by omega) hi' hs6 h14, Option.bind_some]
      obtain ⟨f, rfl⟩ : ∃ k, f = k + 1 := ⟨f - 1, by omega⟩
      rw [fX12_readsMissing_l39]
      have fr : frP τ (up τ 0 15 (ι s)) := fun k j hk => by rw [up_g, if_neg (by omega)]
      by_cases c : ι y < ι (i + 1)
      · rw [if_pos c]
        exact ⟨_, _, rfl, up_e _ _ _ _, fr⟩
      · rw [if_neg c, r_notf (s := s) (up_e _ _ _ _) hs6, Option.bind_some, if_pos (show ι 0 = (0 : Int32) from rfl)]
        exact ⟨_, _, rfl, up_e _ _ _ _, fr⟩
    · rw [r_tm_no h15 h0 ha (by omega) hi', Option.bind_some]
      have hvi : v ≠ i := fun z => hi' (by rw [← z]; exact h3)
      obtain ⟨z, υ, b1, b2, b3⟩ := ih f (i + 1) (up τ 4 (279 + i) (ι 1)) (by omega) (by omega) (by rw [up_k _ _ _ _ _ (by omega)]; exact h15) (by rw [up_k _ _ _ _ _ (by omega)]; exact h14) (by rw [up_j _ _ _ _ _ (by omega)]; exact h0) ⟨v, by omega, h2, by
        rw [hsl_c (F := τ 4) ha (fun j g1 g2 => by rw [up_j _ _ _ _ _ (by omega)])]; exact h3⟩
      exact ⟨z, υ, b1, b2, frP_trans (frP_4 _ _ _) b3⟩
theorem c_sm {σ : Mem} {i : Nat} (hl : ln (3 + 3 + 1) = 60) (hi : i < 60) : fX10_setMissing 3 (ι i) (1 : Int32) σ = some (up σ 7 i (ι 1)) := by
  unfold fX10_setMissing
  rw [if_neg (by decide), c_put hl (by omega) hi, Option.bind_some]; rfl
theorem c_l101 {y : Nat} (hl : ln (3 + 3 + 1) = 60) (hy : y < 60) : ∀ d f i (σ : Mem), i + d = y + 1 → d < f → ∃ z ρ, fX6_readMissing_l101 1 (ι y) f (ι i) σ = some (z, ρ) ∧ (∀ j, i ≤ j → j ≤ y → ρ 7 j = ι 1) ∧ ∀ k j, ¬ (k = 7 ∧ i ≤ j ∧ j ≤ y) → ρ k j = σ k j := by
  intro d
  induction d with
  | zero =>
    intro f i σ hi hf
    obtain ⟨f, rfl⟩ : ∃ k, f = k + 1 := ⟨f - 1, by omega⟩
    rw [fX6_readMissing_l101, if_pos (by rw [ι_lt (by omega) (by omega)]; omega)]
    exact ⟨_, _, rfl, fun j h1 h2 => by omega, fun _ _ _ => rfl⟩
  | succ d ih =>
    intro f i σ hi hf
    obtain ⟨f, rfl⟩ : ∃ k, f = k + 1 := ⟨f - 1, by omega⟩
    rw [fX6_readMissing_l101, if_neg (by rw [ι_lt (by omega) (by omega)]; omega), show (1 + 1) + 1 = 3 from rfl, c_sm hl (by omega), Option.bind_some, l_1, ι_add]
    obtain ⟨z, ρ, b1, b2, b3⟩ := ih f (i + 1) (up σ 7 i (ι 1)) (by omega) (by omega)
    refine ⟨z, ρ, b1, fun j h1 h2 => ?_, fun k j hk => ?_⟩
    · by_cases e : j = i
      · rw [b3 7 j (by omega), e, up_e]
      · exact b2 j (by omega) h2
    · rw [b3 k j (by omega), up_g, if_neg (by omega)]
theorem c_j99 {σ : Mem} {x y : Nat} (hl : ln (3 + 3 + 1) = 60) (hx : x ≤ y) (hy : y < 60) : ∃ ρ, fX6_readMissing_j99 1 (ι x) (ι y) σ = some (1, ρ) ∧ (∀ j, x ≤ j → j ≤ y → ρ 7 j = ι 1) ∧ ∀ k j, ¬ (k = 7 ∧ x ≤ j ∧ j ≤ y) → ρ k j = σ k j := by
  obtain ⟨z, ρ, b1, b2, b3⟩ := c_l101 hl hy (y + 1 - x) FU x σ (by omega) (by unfold FU; omega)
  refine ⟨ρ, ?_, b2, b3⟩
  unfold fX6_readMissing_j99
  rw [b1, Option.bind_some]
theorem miss_sim2 {B : Nat → Nat} {m s k n a b : Nat} {σ τ : Mem} (hB : BC B m σ) (hT : CT B m σ s) (hD : DR σ τ k n a b) (hk1 : 1 ≤ k) (hP : RP B m τ (Tk B m s)) : Out B m σ τ s (fX6_readMissing 1 σ) (fX12_readsMissing τ) := by
  have hm := hB.1
  have hs := hT.1
  obtain ⟨t1, t2, t3, t4⟩ := Tk_spec (B := B) hs
  obtain ⟨u1, u2, u3, u4⟩ := Skp_spec (B := B) t2
  have hQ := hD.1
  have hn := hQ.2.2.2
  have hn1 := QP_pos hQ hk1
  have hF := hD.2.2.1
  have ha := hF.2.1
  have hS := hF.2.2.1
  have h40 : τ 4 0 = ι a := hF.1
  have hV := hD.2.2.2.1
  have hl := hV.1.2.1
  unfold fX6_readMissing fX12_readsMissing
  rw [show (1 + 1) + 1 = 3 from rfl]
  obtain ⟨ρ1, a1, a2, a3, a4⟩ := c_nextT hB hT
  obtain ⟨g1, g2⟩ := r_leafRead (x := 0) hP rfl (by omega) hQ hD.2.1 hn1
  rw [a1, Option.bind_some, a2.2.2.2.2]
  have V1 : VR ρ1 3 (τ 2) k n a (τ 4) := VR_c hn ha hV (fun j hj => a4 _ (by omega)) (fun _ _ => rfl)
  have f1 : frQ σ ρ1 := frQ_1 a4
  generalize hs1 : Skp B m (Tk B m s) = s1 at *
  by_cases hok : ∃ v, nv B m s1 = some v ∧ v < n
  · obtain ⟨v, hv, hvn⟩ := hok
    obtain ⟨υ, b1, b2, b3, b4⟩ := g1 v hv (by omega) hvn
    have b1 : fX12_leafRead (0 : Int32) τ = some (ι v, υ) := b1
    have e4 : υ 4 = τ 4 := funext fun j => b4 4 j (by omega)
    have h40' : υ 4 0 = ι a := by rw [e4]; exact h40
    rw [b1, Option.bind_some, hv]
    show Out B m σ τ s ((fX10_hasLeaf 3 (ι v) ρ1).bind _) ((fX12_tellsMissing (ι v) υ).bind _)
    rw [c_hasLeaf hn V1 (by omega), Option.bind_some, if_pos hvn, if_neg (by decide), show oi (some v) = ι v from rfl, c_hasSlips ha V1, Option.bind_some]
    have hr := hs_range (F := τ 4) (x := v) (y := v) hn (by omega) hvn hS
    by_cases hsv : hsl (τ 4) a v = true
    · rw [if_pos (hr.mpr ⟨v, by omega, by omega, hsv⟩), if_neg (by decide), r_tm_yes b2.2.2.2 h40' ha (by omega) (by rw [e4]; exact hsv) (show s1 ≤ 600 by omega) b3, Option.bind_some, r_notf (s := s1) (up_e _ _ _ _) (by omega), Option.bind_some, if_pos (show ι 0 = (0 : Int32) from rfl)]
      refine out_no (s' := s1) f1 (frP_trans (frP_M (frL_M b4)) (fun k j hk => ?_)) (by omega) a2.2.2.1 (up_e _ _ _ _)
      rw [up_g, if_neg (by omega)]
    · rw [if_neg (show ¬ (ff (hsB (τ 4) (ι v) (ι v)) 0 a).isSome = true from fun z => by
        obtain ⟨w, w1, w2, w3⟩ := hr.mp z
        have : w = v := by omega
        rw [this] at w3; exact hsv w3), if_pos (show ι 0 = (0 : Int32) from rfl), r_tm_no b2.2.2.2 h40' ha (by omega) (by rw [e4]; exact hsv), Option.bind_some]
      have P1 : RP B m (up υ 4 (279 + v) (ι 1)) (Tk B m s1) := RP_4 b2
      have fr1 : frP τ (up υ 4 (279 + v) (ι 1)) := frP_trans (frP_M (frL_M b4)) (frP_4 _ _ _)
      obtain ⟨tt1, tt2, tt3, tt4⟩ := Tk_spec (B := B) u2
      obtain ⟨uu1, uu2, uu3, uu4⟩ := Skp_spec (B := B) tt2
      obtain ⟨ρ2, c1, c2, c3, c4⟩ := c_nextT a3 a2
      have V2 : VR ρ2 3 (τ 2) k n a (τ 4) := VR_c hn ha V1 (fun j hj => c4 _ (by omega)) (fun _ _ => rfl)
      have f2 : frQ σ ρ2 := frQ_trans f1 (frQ_1 c4)
      have hD2 : DR ρ2 τ k n a b := DR_c hD (fun j h1 h2 => by rw [c4 j (by omega), a4 j (by omega)]) rfl rfl rfl
      obtain ⟨υ2, d1, d2, d3, d4⟩ := r_look P1.1 P1.2.1 P1.2.2.1
      rw [c1, Option.bind_some, r_fine P1.2.2.2, Option.bind_some, if_neg (show ¬ ι 1 = (0 : Int32) by decide), d1, Option.bind_some, c2.2.1, c2.2.2.2.2]
      have hkl := Kd_lt B m (Skp B m (Tk B m s1))
      have hss : Skp B m (Skp B m (Tk B m s1)) = Skp B m (Tk B m s1) := Skp_idem tt2
      generalize hs2 : Skp B m (Tk B m s1) = s2 at *
      have P2 : RP B m υ2 s2 := ⟨frM_BR (frL_M d4) P1.1, uu2, d2, (d4 0 15 (by omega)).trans P1.2.2.2⟩
      have fr2 : frP τ υ2 := frP_trans fr1 (frP_M (frL_M d4))
      have E2 : υ2 2 = τ 2 := funext fun j => by rw [d4 2 j (by omega), up_k _ _ _ _ _ (by omega), b4 2 j (by omega)]
      have E04 : υ2 0 4 = τ 0 4 := by rw [d4 0 4 (by omega), up_k _ _ _ _ _ (by omega), b4 0 4 (by omega)]
      have E4 : ∀ j, υ2 4 j = if j = 279 + v then ι 1 else τ 4 j := fun j => by
        rw [d4 4 j (by omega)]
        by_cases e : j = 279 + v
        · rw [if_pos e, e, up_e]
        · rw [if_neg e, up_j _ _ _ _ _ e, e4]
      show Out B m σ τ s _ ((fX12_isDigit (bv B m s2) υ2).bind fun v22 => if v22 = 0 then (some υ2) else ((fX12_leafRead (ι v) υ2).bind fun v31 => (fX12_readsMissing_l39 v31.1 FU (ι v + (1 : Int32)) v31.2).bind fun q39 => some q39.2))
      rw [r_isDigit (fun z => (P2.1.2.2 s2 z).1), Option.bind_some]
      by_cases k2 : Kd B m s2 = 2
      · rw [if_pos k2, if_neg (show ¬ ι 1 = (0 : Int32) by decide), if_pos (show ι (Kd B m s2) = (2 : Int32) by rw [k2]; rfl)]
        obtain ⟨j1, j2⟩ := r_leafRead (x := v) P2 hss (by omega) (k := k) (n := n) (by rw [E2]; exact hQ) (by rw [E04]; exact hD.2.1) hn1
        by_cases hok2 : ∃ w, nv B m s2 = some w ∧ v ≤ w ∧ w < n
        · obtain ⟨w, hw, hvw, hwn⟩ := hok2
          have wlt := nv_lt uu2 hw
          have vl := nv_lt u2 hv
          obtain ⟨υ3, o1, o2, o3, o4⟩ := j1 w hw hvw hwn
          have F4 : υ3 4 = υ2 4 := funext fun j => o4 4 j (by omega)
          have h403 : υ3 4 0 = ι a := by rw [F4, E4, if_neg (by omega)]; exact h40
          have hslc : ∀ x, hsl (υ3 4) a x = hsl (τ 4) a x := fun x => hsl_c ha (fun j q1 q2 => by rw [F4, E4, if_neg (by omega)])
          rw [o1, Option.bind_some, hw]
          show Out B m σ τ s ((fX10_hasLeaf 3 (ι w) ρ2).bind _) ((fX12_readsMissing_l39 (ι w) FU (ι v + (1 : Int32)) υ3).bind fun q39 => some q39.2)
          rw [c_hasLeaf hn V2 (by omega), Option.bind_some, if_pos hwn, if_neg (by decide), show oi (some w) = ι w from rfl, if_neg (show ¬ ι w < ι v by rw [ι_lt (by omega) (by omega)]; omega), c_hasSlips ha V2, Option.bind_some, l_1, ι_add]
          have hr2 := hs_range (F := τ 4) (x := v) (y := w) hn (by omega) hwn hS
          by_cases hsw : ∃ x, v ≤ x ∧ x ≤ w ∧ hsl (τ 4) a x = true
          · rw [if_pos (hr2.mpr hsw), if_neg (by decide)]
            obtain ⟨x, x1, x2, x3⟩ := hsw
            have hxv : x ≠ v := fun z => hsv (by rw [← z]; exact x3)
            obtain ⟨z, ω, q1, q2, q3⟩ := r_l39_no (s := s2) ha (show w < 60 by omega) (by omega) (w + 1 - (v + 1)) FU (v + 1) υ3 (by omega) (by unfold FU; omega) o2.2.2.2 o3 h403 ⟨x, by omega, x2, by rw [hslc]; exact x3⟩
            rw [q1, Option.bind_some]
            exact out_no (s' := s2) f2 (frP_trans fr2 (frP_trans (frP_M (frL_M o4)) q3)) (by omega) c2.2.2.1 q2
          · rw [if_neg (fun z => hsw (hr2.mp z)), if_pos (show ι 0 = (0 : Int32) from rfl)]
            obtain ⟨z, ω, q1, q2, q3⟩ := r_l39_ok ha (show w < 60 by omega) (w + 1 - (v + 1)) FU (v + 1) υ3 (by omega) (by unfold FU; omega) o2.2.2.2 h403 (fun x x1 x2 x3 => hsw ⟨x, by omega, x2, by rw [← hslc]; exact x3⟩)
            obtain ⟨ρ3, m1, m2, m3, m4⟩ := c_nextT c3 c2
            obtain ⟨ρ4, n1, n2, n3⟩ := c_j99 (σ := ρ3) hl hvw (show w < 60 by omega)
            rw [q1, Option.bind_some, m1, Option.bind_some, n1]
            have f4 : frQ σ ρ4 := frQ_trans f2 (frQ_trans (frQ_1 m4) (fun j hj => funext fun i => n3 j i (by omega)))
            have hw' := Tk_spec (B := B) uu2
            have hx' := Skp_spec (B := B) hw'.2.1
            have hDD : DR ρ4 ω k n a b := by
              refine gone_DR (x := v) (y := w) hD2 hwn ?_ ?_ (fun j h1 h2 => ?_) (fun j hj => ?_) n2 (fun j hj => ?_) (fun j h1 h2 h3 => ?_)
              · refine funext fun j => ?_
                rw [q3 2 j (by omega), o4 2 j (by omega), E2]
              · rw [q3 0 4 (by omega), o4 0 4 (by omega), E04]
              · by_cases e : j = v
                · rw [q3 4 (279 + j) (by omega), F4, E4, if_pos (by omega)]
                · exact q2 j (by omega) h2
              · rw [q3 4 j (by omega), F4, E4, if_neg (by omega)]
              · rw [n3 7 j (by omega), m4 7 (by omega)]
              · rw [← m4 j (by omega)]; exact funext fun i => n3 j i (by omega)
            refine out_yes (s' := Skp B m (Tk B m s2)) (p' := Tk B m s2) f4 (frP_trans fr2 (frP_trans (frP_M (frL_M o4)) (fun k j hk => q3 k j (by omega)))) hk1 hDD (CT_c m2 (funext fun i => n3 1 i (by omega))) ⟨BR_c o2.1 (q3 0 12 (by omega)) (funext fun j => q3 7 j (by omega)), hw'.2.1, (q3 0 13 (by omega)).trans o2.2.2.1, (q3 0 15 (by omega)).trans o2.2.2.2⟩ rfl (by omega)
        · have hno2 : ∀ w, nv B m s2 = some w → ¬ (v ≤ w ∧ w < n) := fun w hw z => hok2 ⟨w, hw, z.1, z.2⟩
          obtain ⟨υ3, o1, o2, o3⟩ := j2 hno2
          have vl := nv_lt u2 hv
          rw [o1, Option.bind_some]
          have hl39 : ∃ z, fX12_readsMissing_l39 (ι v) FU (ι v + (1 : Int32)) υ3 = some (z, υ3) := by
            rw [show FU = 4095 + 1 from rfl, fX12_readsMissing_l39, if_pos (by rw [l_1, ι_add, ι_lt (by omega) (by omega)]; omega)]
            exact ⟨_, rfl⟩
          obtain ⟨z, hz⟩ := hl39
          show Out B m σ τ s _ ((fX12_readsMissing_l39 (ι v) FU (ι v + (1 : Int32)) υ3).bind fun q39 => some q39.2)
          rw [hz, Option.bind_some]
          have hend := out_no (B := B) (m := m) (σ := σ) (τ := τ) (s := s) (s' := s2) f2 (frP_trans fr2 (frP_M o3)) (by omega) c2.2.2.1 o2.2.2.1
          cases hw : nv B m s2 with
          | none =>
            show Out B m σ τ s ((fX10_hasLeaf 3 μ ρ2).bind _) _
            rw [c_hasLeaf_neg (by decide), Option.bind_some, if_pos (show ι 0 = (0 : Int32) from rfl)]
            exact hend
          | some w =>
            have wlt := nv_lt uu2 hw
            show Out B m σ τ s ((fX10_hasLeaf 3 (ι w) ρ2).bind _) _
            rw [c_hasLeaf hn V2 (by omega), Option.bind_some]
            by_cases hwn : w < n
            · rw [if_pos hwn, if_neg (by decide), show oi (some w) = ι w from rfl, if_pos (show ι w < ι v by rw [ι_lt (by omega) (by omega)]; exact Nat.lt_of_not_le fun z => hno2 w hw ⟨z, hwn⟩)]
              exact hend
            · rw [if_neg hwn, if_pos (show ι 0 = (0 : Int32) from rfl)]
              exact hend
      · rw [if_neg k2, if_pos (show ι 0 = (0 : Int32) from rfl), if_neg (show ¬ ι (Kd B m s2) = (2 : Int32) by rw [l_2, ι_eq (by omega) (by omega)]; exact k2)]
        obtain ⟨ρ3, n1, n2, n3⟩ := c_j99 (σ := ρ2) hl (Nat.le_refl v) (show v < 60 by omega)
        rw [n1]
        have hDD : DR ρ3 υ2 k n a b := by
          refine gone_DR (x := v) (y := v) hD2 hvn E2 E04 (fun j h1 h2 => ?_) (fun j hj => ?_) n2 (fun j hj => n3 7 j (by omega)) (fun j h1 h2 h3 => funext fun i => n3 j i (by omega))
          · rw [E4, if_pos (by omega)]
          · rw [E4, if_neg (by omega)]
        exact out_yes (s' := s2) (p' := s2) (frQ_trans f2 (fun j hj => funext fun i => n3 j i (by omega))) fr2 hk1 hDD (CT_c c2 (funext fun i => n3 1 i (by omega))) P2 hss (by omega)
  · have hno : ∀ v, nv B m s1 = some v → ¬ (0 ≤ v ∧ v < n) := fun v hv z => hok ⟨v, hv, z.2⟩
    obtain ⟨υ, b1, b2, b3⟩ := g2 hno
    have b1 : fX12_leafRead (0 : Int32) τ = some (ι 0, υ) := b1
    rw [c_hlN u2 hn V1 (fun v hv z => hok ⟨v, hv, z⟩), b1, Option.bind_some, Option.bind_some, if_pos (show ι 0 = (0 : Int32) from rfl)]
    show Out B m σ τ s _ ((fX12_tellsMissing (ι 0) υ).bind _)
    rw [bad_tm b2, Option.bind_some, r_notf b2.2.2.1 b2.2.1, Option.bind_some, if_pos (show ι 0 = (0 : Int32) from rfl)]
    exact out_no (s' := s1) f1 (frP_M b3) (by omega) a2.2.2.1 b2.2.2.1
