/-! PURE PART: the history -/
theorem ref_shift_l : ∀ m n i (τ : Mem), i + m = 2373 → m < n → fX12_remembers_l11 n (ι i) τ = some (ι 2373, fun k j => if k = 6 ∧ i ≤ j ∧ j < 2373 then τ 6 (j + 339) else τ k j) := by
  intro m
  induction m with
  | zero =>
    intro n i τ h hn
    obtain ⟨n, rfl⟩ : ∃ k, n = k + 1 := ⟨n - 1, by omega⟩
    rw [fX12_remembers_l11]
    have e : i = 2373 := by omega
    subst e
    simp (disch := omega) only [l_0, l_1, l_2, l_3, l_4, l_5, l_6, l_7, l_8, l_9, l_10, l_12, l_13, l_24, l_31, l_32, l_40, l_41, l_42, l_44, l_45, l_48, l_49, l_50, l_57, l_59, l_60, l_65, l_88, l_89, l_97, l_98, l_99, l_100, l_105, l_108, l_109, l_114, l_118, l_120, l_122, l_144, l_255, l_269, l_279, l_339, l_400, l_600, l_999, l_1000, l_2373, l_2712, ι_lt, ι_le, ι_eq, ι_add, ι_mul, ι_sub, ι_div, ι_n, ι_m1, m1_ι, m1_lt, m1_le, lt_m1, le_m1, m1_lt_m1, m1_le_m1, m1_add1, neg_ι1, ι_addm, ι_addn, Bool.false_eq_true, Nat.not_lt_zero, Nat.add_zero, Nat.zero_add, Nat.mul_zero, Nat.reduceMul, Nat.reduceAdd, Nat.reduceSub, Nat.reduceLT, Nat.reduceLeDiff, Nat.reduceEqDiff, Nat.reduceDiv, Nat.reduceBEq, Nat.reduceBNe, false_or, or_false, true_or, or_true, and_true, true_and, false_and, and_false, not_false_eq_true, not_true_eq_false, if_true, if_false, if_pos, if_neg, Option.bind_some, ite_false, ite_true, eq_self, reduceIte, lm_0, lm_1, lm_2, lm_3, lm_4, lm_5, lm_6, lm_7, lm_8, lm_9, lm_10, lm_11, lm_12, lm_13, lm_14, lm_15, lm_16, lm_17, Nat.le_refl]
  | succ m ih =>
    intro n i τ h hn
    obtain ⟨n, rfl⟩ : ∃ k, n = k + 1 := ⟨n - 1, by omega⟩
    rw [fX12_remembers_l11]
    simp (disch := omega) only [l_0, l_1, l_2, l_3, l_4, l_5, l_6, l_7, l_8, l_9, l_10, l_12, l_13, l_24, l_31, l_32, l_40, l_41, l_42, l_44, l_45, l_48, l_49, l_50, l_57, l_59, l_60, l_65, l_88, l_89, l_97, l_98, l_99, l_100, l_105, l_108, l_109, l_114, l_118, l_120, l_122, l_144, l_255, l_269, l_279, l_339, l_400, l_600, l_999, l_1000, l_2373, l_2712, ι_lt, ι_le, ι_eq, ι_add, ι_mul, ι_sub, ι_div, ι_n, ι_m1, m1_ι, m1_lt, m1_le, lt_m1, le_m1, m1_lt_m1, m1_le_m1, m1_add1, neg_ι1, ι_addm, ι_addn, Bool.false_eq_true, Nat.not_lt_zero, Nat.add_zero, Nat.zero_add, Nat.mul_zero, Nat.reduceMul, Nat.reduceAdd, Nat.reduceSub, Nat.reduceLT, Nat.reduceLeDiff, Nat.reduceEqDiff, Nat.reduceDiv, Nat.reduceBEq, Nat.reduceBNe, false_or, or_false, true_or, or_true, and_true, true_and, false_and, and_false, not_false_eq_true, not_true_eq_false, if_true, if_false, if_pos, if_neg, Option.bind_some, ite_false, ite_true, eq_self, reduceIte, lm_0, lm_1, lm_2, lm_3, lm_4, lm_5, lm_6, lm_7, lm_8, lm_9, lm_10, lm_11, lm_12, lm_13, lm_14, lm_15, lm_16, lm_17]
    rw [ih _ _ _ (by omega) (by omega)]
    congr 2
    funext k j
    simp only [up_g]
    by_cases hk : k = 6
    · subst hk
      by_cases h1 : j = i
      · subst h1
        rw [if_neg (by omega), if_pos ⟨rfl, rfl⟩, if_pos (by omega)]
      · by_cases h2 : i ≤ j ∧ j < 2373
        · rw [if_pos (by omega), if_neg (by omega), if_pos (by omega)]
        · rw [if_neg (by omega), if_neg (by omega), if_neg (by omega)]
    · rw [if_neg (by omega), if_neg (by omega), if_neg (by omega)]
theorem c_slot {σ : Mem} {x : Nat} (h : x < 8) : fX0_slotAt 79 (ι x) σ = some (80 + (1 + 31 * x)) := by
  unfold fX0_slotAt
  simp (disch := omega) only [l_0, l_1, l_2, l_3, l_4, l_5, l_6, l_7, l_8, l_9, l_10, l_12, l_13, l_24, l_31, l_32, l_40, l_41, l_42, l_44, l_45, l_48, l_49, l_50, l_57, l_59, l_60, l_65, l_88, l_89, l_97, l_98, l_99, l_100, l_105, l_108, l_109, l_114, l_118, l_120, l_122, l_144, l_255, l_269, l_279, l_339, l_400, l_600, l_999, l_1000, l_2373, l_2712, ι_lt, ι_le, ι_eq, ι_add, ι_mul, ι_sub, ι_div, ι_n, ι_m1, m1_ι, m1_lt, m1_le, lt_m1, le_m1, m1_lt_m1, m1_le_m1, m1_add1, neg_ι1, ι_addm, ι_addn, Bool.false_eq_true, Nat.not_lt_zero, Nat.add_zero, Nat.zero_add, Nat.mul_zero, Nat.reduceMul, Nat.reduceAdd, Nat.reduceSub, Nat.reduceLT, Nat.reduceLeDiff, Nat.reduceEqDiff, Nat.reduceDiv, Nat.reduceBEq, Nat.reduceBNe, false_or, or_false, true_or, or_true, and_true, true_and, false_and, and_false, not_false_eq_true, not_true_eq_false, if_true, if_false, if_pos, if_neg, Option.bind_some, ite_false, ite_true, eq_self, reduceIte]
theorem ref_rem {τ : Mem} {nh : Nat} (h : τ 0 9 = ι nh) (hn : nh ≤ 8) : ∃ υ, fX12_remembers τ = some υ ∧ υ 0 9 = ι (if nh = 8 then 8 else nh + 1) ∧
    (∀ j, j < 339 → υ 6 (339 * (if nh = 8 then 7 else nh) + j) = τ 3 j) ∧
    (∀ i j, i < (if nh = 8 then 7 else nh) → j < 339 → υ 6 (339 * i + j) = τ 6 (339 * (if nh = 8 then i + 1 else i) + j)) ∧
    (∀ k j, ¬ (k = 6 ∨ (k = 0 ∧ j = 9)) → υ k j = τ k j) := by
  by_cases h8 : nh = 8
  · subst h8
    simp only [if_true]
    refine ⟨_, (by
      unfold fX12_remembers fX12_remembers_j50
      rw [l_0, ref_shift_l 2373 FU 0 τ (by omega) (by decide)]
      simp (disch := omega) only [h, l_0, l_1, l_2, l_3, l_4, l_5, l_6, l_7, l_8, l_9, l_10, l_12, l_13, l_24, l_31, l_32, l_40, l_41, l_42, l_44, l_45, l_48, l_49, l_50, l_57, l_59, l_60, l_65, l_88, l_89, l_97, l_98, l_99, l_100, l_105, l_108, l_109, l_114, l_118, l_120, l_122, l_144, l_255, l_269, l_279, l_339, l_400, l_600, l_999, l_1000, l_2373, l_2712, ι_lt, ι_le, ι_eq, ι_add, ι_mul, ι_sub, ι_div, ι_n, ι_m1, m1_ι, m1_lt, m1_le, lt_m1, le_m1, m1_lt_m1, m1_le_m1, m1_add1, neg_ι1, ι_addm, ι_addn, Bool.false_eq_true, Nat.not_lt_zero, Nat.add_zero, Nat.zero_add, Nat.mul_zero, Nat.reduceMul, Nat.reduceAdd, Nat.reduceSub, Nat.reduceLT, Nat.reduceLeDiff, Nat.reduceEqDiff, Nat.reduceDiv, Nat.reduceBEq, Nat.reduceBNe, false_or, or_false, true_or, or_true, and_true, true_and, false_and, and_false, not_false_eq_true, not_true_eq_false, if_true, if_false, if_pos, if_neg, Option.bind_some, ite_false, ite_true, eq_self, reduceIte, up_e, up_j, false_and, if_false, Nat.reduceEqDiff]
      rw [show ι 2373 = ι 2373 from rfl, ref_copies (by decide) (by decide) (by decide) (by omega) (by omega)]
      rfl), ?_⟩
    refine ⟨?_, fun j hj => ?_, fun i j hi hj => ?_, fun k j hk => ?_⟩
    · simp (disch := omega) only [up_g, if_pos, if_neg, true_and, and_true, false_and, and_false, if_true, if_false, reduceIte, h, l_0, l_1, l_2, l_3, l_4, l_5, l_6, l_7, l_8, l_9, l_10, l_12, l_13, l_24, l_31, l_32, l_40, l_41, l_42, l_44, l_45, l_48, l_49, l_50, l_57, l_59, l_60, l_65, l_88, l_89, l_97, l_98, l_99, l_100, l_105, l_108, l_109, l_114, l_118, l_120, l_122, l_144, l_255, l_269, l_279, l_339, l_400, l_600, l_999, l_1000, l_2373, l_2712, ι_lt, ι_le, ι_eq, ι_add, ι_mul, ι_sub, ι_div, ι_n, ι_m1, m1_ι, m1_lt, m1_le, lt_m1, le_m1, m1_lt_m1, m1_le_m1, m1_add1, neg_ι1, ι_addm, ι_addn, Bool.false_eq_true, Nat.not_lt_zero, Nat.add_zero, Nat.zero_add, Nat.mul_zero, Nat.reduceMul, Nat.reduceAdd, Nat.reduceSub, Nat.reduceLT, Nat.reduceLeDiff, Nat.reduceEqDiff, Nat.reduceDiv, Nat.reduceBEq, Nat.reduceBNe, false_or, or_false, true_or, or_true, and_true, true_and, false_and, and_false, not_false_eq_true, not_true_eq_false, if_true, if_false, if_pos, if_neg, Option.bind_some, ite_false, ite_true, eq_self, reduceIte]
    · simp (disch := omega) only [up_g, if_pos, if_neg, true_and, and_true, false_and, and_false, if_true, if_false, reduceIte]
      exact congrArg _ (by omega)
    · simp (disch := omega) only [up_g, if_pos, if_neg, true_and, and_true, false_and, and_false, if_true, if_false, reduceIte]
      exact congrArg _ (by omega)
    · simp (disch := omega) only [up_g, if_pos, if_neg, true_and, and_true, false_and, and_false, if_true, if_false, reduceIte]
  · simp only [h8, if_false]
    refine ⟨_, (by
      unfold fX12_remembers fX12_remembers_j50
      simp (disch := omega) only [h, l_0, l_1, l_2, l_3, l_4, l_5, l_6, l_7, l_8, l_9, l_10, l_12, l_13, l_24, l_31, l_32, l_40, l_41, l_42, l_44, l_45, l_48, l_49, l_50, l_57, l_59, l_60, l_65, l_88, l_89, l_97, l_98, l_99, l_100, l_105, l_108, l_109, l_114, l_118, l_120, l_122, l_144, l_255, l_269, l_279, l_339, l_400, l_600, l_999, l_1000, l_2373, l_2712, ι_lt, ι_le, ι_eq, ι_add, ι_mul, ι_sub, ι_div, ι_n, ι_m1, m1_ι, m1_lt, m1_le, lt_m1, le_m1, m1_lt_m1, m1_le_m1, m1_add1, neg_ι1, ι_addm, ι_addn, Bool.false_eq_true, Nat.not_lt_zero, Nat.add_zero, Nat.zero_add, Nat.mul_zero, Nat.reduceMul, Nat.reduceAdd, Nat.reduceSub, Nat.reduceLT, Nat.reduceLeDiff, Nat.reduceEqDiff, Nat.reduceDiv, Nat.reduceBEq, Nat.reduceBNe, false_or, or_false, true_or, or_true, and_true, true_and, false_and, and_false, not_false_eq_true, not_true_eq_false, if_true, if_false, if_pos, if_neg, Option.bind_some, ite_false, ite_true, eq_self, reduceIte]
      rw [ref_copies (by decide) (by decide) (by rw [lm_6]; omega) (by omega) (by omega)]
      rfl), ?_⟩
    refine ⟨?_, fun j hj => ?_, fun i j hi hj => ?_, fun k j hk => ?_⟩
    · simp (disch := omega) only [up_g, if_pos, if_neg, true_and, and_true, false_and, and_false, if_true, if_false, reduceIte, h, l_0, l_1, l_2, l_3, l_4, l_5, l_6, l_7, l_8, l_9, l_10, l_12, l_13, l_24, l_31, l_32, l_40, l_41, l_42, l_44, l_45, l_48, l_49, l_50, l_57, l_59, l_60, l_65, l_88, l_89, l_97, l_98, l_99, l_100, l_105, l_108, l_109, l_114, l_118, l_120, l_122, l_144, l_255, l_269, l_279, l_339, l_400, l_600, l_999, l_1000, l_2373, l_2712, ι_lt, ι_le, ι_eq, ι_add, ι_mul, ι_sub, ι_div, ι_n, ι_m1, m1_ι, m1_lt, m1_le, lt_m1, le_m1, m1_lt_m1, m1_le_m1, m1_add1, neg_ι1, ι_addm, ι_addn, Bool.false_eq_true, Nat.not_lt_zero, Nat.add_zero, Nat.zero_add, Nat.mul_zero, Nat.reduceMul, Nat.reduceAdd, Nat.reduceSub, Nat.reduceLT, Nat.reduceLeDiff, Nat.reduceEqDiff, Nat.reduceDiv, Nat.reduceBEq, Nat.reduceBNe, false_or, or_false, true_or, or_true, and_true, true_and, false_and, and_false, not_false_eq_true, not_true_eq_false, if_true, if_false, if_pos, if_neg, Option.bind_some, ite_false, ite_true, eq_self, reduceIte]
    · simp (disch := omega) only [up_g, if_pos, if_neg, true_and, and_true, false_and, and_false, if_true, if_false, reduceIte]
      exact congrArg _ (by omega)
    · simp (disch := omega) only [up_g, if_pos, if_neg, true_and, and_true, false_and, and_false, if_true, if_false, reduceIte]
    · simp (disch := omega) only [up_g, if_pos, if_neg, true_and, and_true, false_and, and_false, if_true, if_false, reduceIte]
theorem c_keep {σ : Mem} {nx nh k n : Nat} {q F : Nat → Int32} (hQ : QI q k n) (h1 : nx < 8) (h2 : nh ≤ 8) (h3 : σ 79 1 = ι nx) (h4 : σ 79 2 = ι nh) (hC : CS σ 41 q k n F) : ∃ ρ, fX0_keep 79 41 σ = some ρ ∧ ρ 79 1 = ι (if nx = 7 then 0 else nx + 1) ∧ ρ 79 2 = ι (if nh = 8 then 8 else nh + 1) ∧ CS ρ (80 + (1 + 31 * nx)) q k n F ∧
    (∀ j, j ≠ 79 → (j < 80 + (1 + 31 * nx) ∨ 80 + (1 + 31 * nx) + 31 ≤ j) → ρ j = σ j) := by
  obtain ⟨ρ, e, r, u⟩ := CS_copy (s := 80 + (1 + 31 * nx)) (s' := 41) hQ (SL_r nx h1) hC (by omega)
  have u79 : ρ 79 = σ 79 := u 79 (by omega)
  have hn : n ≤ 60 := hQ.2.2.2.2
  unfold fX0_keep
  rw [h3, c_slot h1, Option.bind_some, e, Option.bind_some, u79, h3]
  by_cases h7 : nx = 7
  · subst h7
    by_cases h8 : nh = 8
    · subst h8
      simp (disch := omega) only [up_g, if_pos, if_neg, true_and, and_true, false_and, and_false, if_true, if_false, reduceIte, h4, u79, l_0, l_1, l_2, l_3, l_4, l_5, l_6, l_7, l_8, l_9, l_10, l_12, l_13, l_24, l_31, l_32, l_40, l_41, l_42, l_44, l_45, l_48, l_49, l_50, l_57, l_59, l_60, l_65, l_88, l_89, l_97, l_98, l_99, l_100, l_105, l_108, l_109, l_114, l_118, l_120, l_122, l_144, l_255, l_269, l_279, l_339, l_400, l_600, l_999, l_1000, l_2373, l_2712, ι_lt, ι_le, ι_eq, ι_add, ι_mul, ι_sub, ι_div, ι_n, ι_m1, m1_ι, m1_lt, m1_le, lt_m1, le_m1, m1_lt_m1, m1_le_m1, m1_add1, neg_ι1, ι_addm, ι_addn, Bool.false_eq_true, Nat.not_lt_zero, Nat.add_zero, Nat.zero_add, Nat.mul_zero, Nat.reduceMul, Nat.reduceAdd, Nat.reduceSub, Nat.reduceLT, Nat.reduceLeDiff, Nat.reduceEqDiff, Nat.reduceDiv, Nat.reduceBEq, Nat.reduceBNe, false_or, or_false, true_or, or_true, and_true, true_and, false_and, and_false, not_false_eq_true, not_true_eq_false, if_true, if_false, if_pos, if_neg, Option.bind_some, ite_false, ite_true, eq_self, reduceIte]
      refine ⟨_, rfl, ?_, ?_, CS_c hn r (fun j h1 h2 => ?_) (fun _ _ => rfl), fun j hj1 hj2 => ?_⟩
      · simp (disch := omega) only [up_g, if_pos, if_neg, true_and, and_true, false_and, and_false, if_true, if_false, reduceIte]
      · simp (disch := omega) only [up_g, if_pos, if_neg, true_and, and_true, false_and, and_false, if_true, if_false, reduceIte]
      · rw [up_k _ _ _ _ _ (by omega), up_k _ _ _ _ _ (by omega)]
      · rw [up_k _ _ _ _ _ (by omega), up_k _ _ _ _ _ (by omega), u j hj2]
    · simp (disch := omega) only [up_g, if_pos, if_neg, true_and, and_true, false_and, and_false, if_true, if_false, reduceIte, h4, u79, l_0, l_1, l_2, l_3, l_4, l_5, l_6, l_7, l_8, l_9, l_10, l_12, l_13, l_24, l_31, l_32, l_40, l_41, l_42, l_44, l_45, l_48, l_49, l_50, l_57, l_59, l_60, l_65, l_88, l_89, l_97, l_98, l_99, l_100, l_105, l_108, l_109, l_114, l_118, l_120, l_122, l_144, l_255, l_269, l_279, l_339, l_400, l_600, l_999, l_1000, l_2373, l_2712, ι_lt, ι_le, ι_eq, ι_add, ι_mul, ι_sub, ι_div, ι_n, ι_m1, m1_ι, m1_lt, m1_le, lt_m1, le_m1, m1_lt_m1, m1_le_m1, m1_add1, neg_ι1, ι_addm, ι_addn, Bool.false_eq_true, Nat.not_lt_zero, Nat.add_zero, Nat.zero_add, Nat.mul_zero, Nat.reduceMul, Nat.reduceAdd, Nat.reduceSub, Nat.reduceLT, Nat.reduceLeDiff, Nat.reduceEqDiff, Nat.reduceDiv, Nat.reduceBEq, Nat.reduceBNe, false_or, or_false, true_or, or_true, and_true, true_and, false_and, and_false, not_false_eq_true, not_true_eq_false, if_true, if_false, if_pos, if_neg, Option.bind_some, ite_false, ite_true, eq_self, reduceIte]
      refine ⟨_, rfl, ?_, ?_, CS_c hn r (fun j h1 h2 => ?_) (fun _ _ => rfl), fun j hj1 hj2 => ?_⟩
      · simp (disch := omega) only [up_g, if_pos, if_neg, true_and, and_true, false_and, and_false, if_true, if_false, reduceIte]
      · simp (disch := omega) only [up_g, if_pos, if_neg, true_and, and_true, false_and, and_false, if_true, if_false, reduceIte]
      · rw [up_k _ _ _ _ _ (by omega), up_k _ _ _ _ _ (by omega)]
      · rw [up_k _ _ _ _ _ (by omega), up_k _ _ _ _ _ (by omega), u j hj2]
  · by_cases h8 : nh = 8
    · subst h8
      simp (disch := omega) only [up_g, if_pos, if_neg, true_and, and_true, false_and, and_false, if_true, if_false, reduceIte, h4, u79, l_0, l_1, l_2, l_3, l_4, l_5, l_6, l_7, l_8, l_9, l_10, l_12, l_13, l_24, l_31, l_32, l_40, l_41, l_42, l_44, l_45, l_48, l_49, l_50, l_57, l_59, l_60, l_65, l_88, l_89, l_97, l_98, l_99, l_100, l_105, l_108, l_109, l_114, l_118, l_120, l_122, l_144, l_255, l_269, l_279, l_339, l_400, l_600, l_999, l_1000, l_2373, l_2712, ι_lt, ι_le, ι_eq, ι_add, ι_mul, ι_sub, ι_div, ι_n, ι_m1, m1_ι, m1_lt, m1_le, lt_m1, le_m1, m1_lt_m1, m1_le_m1, m1_add1, neg_ι1, ι_addm, ι_addn, Bool.false_eq_true, Nat.not_lt_zero, Nat.add_zero, Nat.zero_add, Nat.mul_zero, Nat.reduceMul, Nat.reduceAdd, Nat.reduceSub, Nat.reduceLT, Nat.reduceLeDiff, Nat.reduceEqDiff, Nat.reduceDiv, Nat.reduceBEq, Nat.reduceBNe, false_or, or_false, true_or, or_true, and_true, true_and, false_and, and_false, not_false_eq_true, not_true_eq_false, if_true, if_false, if_pos, if_neg, Option.bind_some, ite_false, ite_true, eq_self, reduceIte]
      refine ⟨_, rfl, ?_, ?_, CS_c hn r (fun j h1 h2 => ?_) (fun _ _ => rfl), fun j hj1 hj2 => ?_⟩
      · simp (disch := omega) only [up_g, if_pos, if_neg, true_and, and_true, false_and, and_false, if_true, if_false, reduceIte]
      · simp (disch := omega) only [up_g, if_pos, if_neg, true_and, and_true, false_and, and_false, if_true, if_false, reduceIte]
      · rw [up_k _ _ _ _ _ (by omega), up_k _ _ _ _ _ (by omega)]
      · rw [up_k _ _ _ _ _ (by omega), up_k _ _ _ _ _ (by omega), u j hj2]
    · simp (disch := omega) only [up_g, if_pos, if_neg, true_and, and_true, false_and, and_false, if_true, if_false, reduceIte, h4, u79, l_0, l_1, l_2, l_3, l_4, l_5, l_6, l_7, l_8, l_9, l_10, l_12, l_13, l_24, l_31, l_32, l_40, l_41, l_42, l_44, l_45, l_48, l_49, l_50, l_57, l_59, l_60, l_65, l_88, l_89, l_97, l_98, l_99, l_100, l_105, l_108, l_109, l_114, l_118, l_120, l_122, l_144, l_255, l_269, l_279, l_339, l_400, l_600, l_999, l_1000, l_2373, l_2712, ι_lt, ι_le, ι_eq, ι_add, ι_mul, ι_sub, ι_div, ι_n, ι_m1, m1_ι, m1_lt, m1_le, lt_m1, le_m1, m1_lt_m1, m1_le_m1, m1_add1, neg_ι1, ι_addm, ι_addn, Bool.false_eq_true, Nat.not_lt_zero, Nat.add_zero, Nat.zero_add, Nat.mul_zero, Nat.reduceMul, Nat.reduceAdd, Nat.reduceSub, Nat.reduceLT, Nat.reduceLeDiff, Nat.reduceEqDiff, Nat.reduceDiv, Nat.reduceBEq, Nat.reduceBNe, false_or, or_false, true_or, or_true, and_true, true_and, false_and, and_false, not_false_eq_true, not_true_eq_false, if_true, if_false, if_pos, if_neg, Option.bind_some, ite_false, ite_true, eq_self, reduceIte]
      refine ⟨_, rfl, ?_, ?_, CS_c hn r (fun j h1 h2 => ?_) (fun _ _ => rfl), fun j hj1 hj2 => ?_⟩
      · simp (disch := omega) only [up_g, if_pos, if_neg, true_and, and_true, false_and, and_false, if_true, if_false, reduceIte]
      · simp (disch := omega) only [up_g, if_pos, if_neg, true_and, and_true, false_and, and_false, if_true, if_false, reduceIte]
      · rw [up_k _ _ _ _ _ (by omega), up_k _ _ _ _ _ (by omega)]
      · rw [up_k _ _ _ _ _ (by omega), up_k _ _ _ _ _ (by omega), u j hj2]
theorem keep_sim {σ τ : Mem} {k n : Nat} (hR : Rest σ τ k n) (hC : CS σ 41 (τ 1) k n (τ 3)) : ∃ ρ υ, fX0_keep 79 41 σ = some ρ ∧ fX12_remembers τ = some υ ∧ Rest ρ υ k n ∧ CS ρ 41 (υ 1) k n (υ 3) ∧
    (∀ j, j < 79 ∨ 329 ≤ j → ρ j = σ j) ∧ (∀ k j, ¬ (k = 6 ∨ (k = 0 ∧ j = 9)) → υ k j = τ k j) := by
  obtain ⟨hQ, r2, ⟨nx, nh, g1, g2, g3, g4, g5, g6⟩, r4, r5, r6, r7, r8, r9⟩ := hR
  have hn : n ≤ 60 := hQ.2.2.2.2
  obtain ⟨ρ, a1, a2, a3, a4, a5⟩ := c_keep hQ g1 g2 g3 g4 hC
  obtain ⟨υ, b1, b2, b3, b4, b5⟩ := ref_rem g5 g2
  have u1 : υ 1 = τ 1 := funext fun j => b5 1 j (by omega)
  have u3 : υ 3 = τ 3 := funext fun j => b5 3 j (by omega)
  have u5 : υ 5 = τ 5 := funext fun j => b5 5 j (by omega)
  have u7 : υ 7 = τ 7 := funext fun j => b5 7 j (by omega)
  have u9 : υ 9 = τ 9 := funext fun j => b5 9 j (by omega)
  have u11 : υ 11 = τ 11 := funext fun j => b5 11 j (by omega)
  refine ⟨ρ, υ, a1, b1, ⟨by rw [u1]; exact hQ, by rw [b5 0 3 (by omega)]; exact r2, ⟨if nx = 7 then 0 else nx + 1, if nh = 8 then 8 else nh + 1, by split <;> omega, by split <;> omega, a2, a3, b2, fun i hi => ?_⟩, ?_, ?_, ?_, ?_, ?_, ?_⟩, ?_, fun j hj => a5 j (by omega) (by omega), b5⟩
  · rw [u1]
    by_cases hl : i = (if nh = 8 then 7 else nh)
    · have e : rgi (if nx = 7 then 0 else nx + 1) (if nh = 8 then 8 else nh + 1) i = 80 + (1 + 31 * nx) := by
        subst hl; unfold rgi; congr 2; congr 1; split <;> split <;> omega
      rw [e]
      refine CS_c hn a4 (fun _ _ _ => rfl) (fun j hj => ?_)
      subst hl
      exact b3 j hj
    · have hi' : i < (if nh = 8 then 7 else nh) := by
        revert hi hl; split <;> omega
      have e : rgi (if nx = 7 then 0 else nx + 1) (if nh = 8 then 8 else nh + 1) i = rgi nx nh (if nh = 8 then i + 1 else i) := by
        unfold rgi; congr 2; congr 1; revert hi'; split <;> split <;> intro _ <;> omega
      rw [e]
      refine CS_c hn (g6 (if nh = 8 then i + 1 else i) (by revert hi'; split <;> omega)) (fun j h1 h2 => ?_) (fun j hj => b4 i j hi' hj)
      refine a5 j ?_ ?_
      · have := rgi_in nx nh (if nh = 8 then i + 1 else i)
        omega
      · have hm : (nx + 8 - nh + (if nh = 8 then i + 1 else i)) % 8 ≠ nx := by
          revert hi'; split <;> intro _ <;> omega
        unfold rgi at h1 h2
        revert hm h1 h2
        generalize (nx + 8 - nh + (if nh = 8 then i + 1 else i)) % 8 = r
        intro hm h1 h2
        omega
  · unfold Sv; rw [b5 0 10 (by omega), u1, u5, a5 0 (by omega) (by omega)]
    rcases r4 with h | ⟨h1, h2, h3⟩
    · exact Or.inl h
    · exact Or.inr ⟨h1, h2, CS_c hn h3 (fun j h1 h2 => a5 j (by omega) (by omega)) (fun _ _ => rfl)⟩
  · unfold IR; rw [a5 33 (by omega) (by omega), a5 34 (by omega) (by omega), b5 0 12 (by omega), u7]; exact r5
  · unfold FR; rw [a5 35 (by omega) (by omega), a5 36 (by omega) (by omega), b5 0 20 (by omega), u9]; exact r6
  · unfold Tx; rw [a5 37 (by omega) (by omega)]; exact r7
  · unfold Tx; rw [a5 39 (by omega) (by omega)]; exact r8
  · unfold Ro; rw [u11]; exact r9
  · rw [u1, u3]; exact CS_c hn hC (fun j h1 h2 => a5 j (by omega) (by omega)) (fun _ _ => rfl)
