/-! PURE PART: the reference lays the order -/
def OT (τ : Mem) (l : List En) : Prop := τ 0 17 = ι l.length ∧ ∀ p e, l[p]? = some e → τ 8 (4 * p) = eL e ∧ τ 8 (4 * p + 1) = eS e ∧ τ 8 (4 * p + 2) = eP e ∧ τ 8 (4 * p + 3) = eW e
def fr8 (τ υ : Mem) : Prop := ∀ k j, ¬ (k = 8 ∨ (k = 0 ∧ j = 17)) → υ k j = τ k j
theorem fr8_trans {τ υ ω : Mem} (h1 : fr8 τ υ) (h2 : fr8 υ ω) : fr8 τ ω := fun k j h => (h2 k j h).trans (h1 k j h)
theorem fr8_refl (τ : Mem) : fr8 τ τ := fun _ _ _ => rfl
theorem fr8_3 {τ υ : Mem} (h : fr8 τ υ) : υ 3 = τ 3 := funext fun j => h 3 j (by omega)
theorem fr8_1 {τ υ : Mem} (h : fr8 τ υ) : υ 1 = τ 1 := funext fun j => h 1 j (by omega)
theorem get_app {l : List En} {e e' : En} {p : Nat} (h : (l ++ [e])[p]? = some e') : (p < l.length ∧ l[p]? = some e') ∨ (p = l.length ∧ e' = e) := by
  rw [List.getElem?_append] at h
  by_cases hp : p < l.length
  · rw [if_pos hp] at h; exact Or.inl ⟨hp, h⟩
  · rw [if_neg hp] at h
    by_cases h0 : p - l.length = 0
    · rw [h0] at h
      exact Or.inr ⟨by omega, by simpa using h.symm⟩
    · rw [List.getElem?_eq_none (by simp; omega)] at h; cases h
theorem r_comes {τ : Mem} {l : List En} (e : En) (h : OT τ l) (hl : l.length < 144) {x1 x2 x3 x4 : Int32} (e1 : x1 = eL e) (e2 : x2 = eS e) (e3 : x3 = eP e) (e4 : x4 = eW e) : ∃ υ, fX12_comes x1 x2 x3 x4 τ = some υ ∧ OT υ (l ++ [e]) ∧ fr8 τ υ := by
  subst e1 e2 e3 e4
  obtain ⟨h1, h2⟩ := h
  unfold fX12_comes
  simp (disch := omega) only [l_0, l_1, l_2, l_3, l_4, l_5, l_6, l_7, l_8, l_9, l_10, l_12, l_13, l_24, l_31, l_32, l_40, l_41, l_42, l_44, l_45, l_48, l_49, l_50, l_57, l_59, l_60, l_65, l_88, l_89, l_97, l_98, l_99, l_100, l_105, l_108, l_109, l_114, l_118, l_120, l_122, l_144, l_255, l_269, l_279, l_339, l_400, l_600, l_999, l_1000, l_2373, l_2712, ι_lt, ι_le, ι_eq, ι_add, ι_mul, ι_sub, ι_div, ι_n, ι_m1, m1_ι, m1_lt, m1_le, lt_m1, le_m1, m1_lt_m1, m1_le_m1, m1_add1, neg_ι1, ι_addm, ι_addn, Bool.false_eq_true, Nat.not_lt_zero, Nat.add_zero, Nat.zero_add, Nat.mul_zero, Nat.reduceMul, Nat.reduceAdd, Nat.reduceSub, Nat.reduceLT, Nat.reduceLeDiff, Nat.reduceEqDiff, Nat.reduceDiv, Nat.reduceBEq, Nat.reduceBNe, false_or, or_false, true_or, or_true, and_true, true_and, false_and, and_false, not_false_eq_true, not_true_eq_false, if_true, if_false, if_pos, if_neg, Option.bind_some, ite_false, ite_true, eq_self, reduceIte, lm_0, lm_1, lm_2, lm_3, lm_4, lm_5, lm_6, lm_7, lm_8, lm_9, lm_10, lm_11, lm_12, lm_13, lm_14, lm_15, lm_16, lm_17, up_e, up_j, up_k, Nat.reduceAdd, Nat.add_zero, h1]
  refine ⟨_, rfl, ⟨?_, fun p e' hp => ?_⟩, fun k j hk => ?_⟩
  · rw [up_e, List.length_append]; rfl
  · rcases get_app hp with ⟨q1, q2⟩ | ⟨q1, q2⟩
    · obtain ⟨z1, z2, z3, z4⟩ := h2 p e' q2
      refine ⟨?_, ?_, ?_, ?_⟩
      · rw [← z1]; simp (disch := omega) only [up_e, up_j, up_k, Nat.reduceAdd, Nat.add_zero]
      · rw [← z2]; simp (disch := omega) only [up_e, up_j, up_k, Nat.reduceAdd, Nat.add_zero]
      · rw [← z3]; simp (disch := omega) only [up_e, up_j, up_k, Nat.reduceAdd, Nat.add_zero]
      · rw [← z4]; simp (disch := omega) only [up_e, up_j, up_k, Nat.reduceAdd, Nat.add_zero]
    · subst q1 q2
      refine ⟨?_, ?_, ?_, ?_⟩
      · simp (disch := omega) only [up_e, up_j, up_k, Nat.reduceAdd, Nat.add_zero]
      · simp (disch := omega) only [up_e, up_j, up_k, Nat.reduceAdd, Nat.add_zero]
      · simp (disch := omega) only [up_e, up_j, up_k, Nat.reduceAdd, Nat.add_zero]
      · simp (disch := omega) only [up_e, up_j, up_k, Nat.reduceAdd, Nat.add_zero]
  · simp (disch := omega) only [up_g, if_pos, if_neg, true_and, and_true, false_and, and_false, if_true, if_false, reduceIte]
theorem mod2 (k : Nat) : k - k / 2 * 2 = k % 2 := by omega
theorem r_l56 {F : Nat → Int32} {k s ws : Nat} (hk : k < 120) (hs : s < 12) (hw : F (5 + 3 * s + 2) = ι ws) (hw2 : ws ≤ 2) (ho : onK F k s = true) : ∀ m n' w (τ : Mem) l, w + m = ws → m < n' → τ 3 = F → OT τ l → l.length + m ≤ 144 → ∃ z υ, fX12_laysOrder_l56 (ι k) (ι s) n' (ι w) τ = some (z, υ) ∧ OT υ (l ++ fl (fun w => [(k, some (s, w))]) w m) ∧ fr8 τ υ := by
  intro m
  induction m with
  | zero =>
    intro n' w τ l h hn' hF hO hl
    obtain ⟨n', rfl⟩ : ∃ k, n' = k + 1 := ⟨n' - 1, by omega⟩
    refine ⟨ι w, τ, ?_, ?_, fr8_refl τ⟩
    · rw [fX12_laysOrder_l56, l_2, r_ofSlip hs (by omega), hF, hw]
      simp (disch := omega) only [l_0, l_1, l_2, l_3, l_4, l_5, l_6, l_7, l_8, l_9, l_10, l_12, l_13, l_24, l_31, l_32, l_40, l_41, l_42, l_44, l_45, l_48, l_49, l_50, l_57, l_59, l_60, l_65, l_88, l_89, l_97, l_98, l_99, l_100, l_105, l_108, l_109, l_114, l_118, l_120, l_122, l_144, l_255, l_269, l_279, l_339, l_400, l_600, l_999, l_1000, l_2373, l_2712, ι_lt, ι_le, ι_eq, ι_add, ι_mul, ι_sub, ι_div, ι_n, ι_m1, m1_ι, m1_lt, m1_le, lt_m1, le_m1, m1_lt_m1, m1_le_m1, m1_add1, neg_ι1, ι_addm, ι_addn, Bool.false_eq_true, Nat.not_lt_zero, Nat.add_zero, Nat.zero_add, Nat.mul_zero, Nat.reduceMul, Nat.reduceAdd, Nat.reduceSub, Nat.reduceLT, Nat.reduceLeDiff, Nat.reduceEqDiff, Nat.reduceDiv, Nat.reduceBEq, Nat.reduceBNe, false_or, or_false, true_or, or_true, and_true, true_and, false_and, and_false, not_false_eq_true, not_true_eq_false, if_true, if_false, if_pos, if_neg, Option.bind_some, ite_false, ite_true, eq_self, reduceIte]
    · rw [fl, List.append_nil]; exact hO
  | succ m ih =>
    intro n' w τ l h hn' hF hO hl
    obtain ⟨n', rfl⟩ : ∃ k, n' = k + 1 := ⟨n' - 1, by omega⟩
    obtain ⟨υ, a1, a2, a3⟩ := r_comes (x1 := ι (k / 2)) (x2 := ι (k % 2)) (x3 := ι s) (x4 := ι w) (k, some (s, w)) hO (by omega) rfl rfl rfl rfl
    obtain ⟨z, ω, b1, b2, b3⟩ := ih n' (w + 1) υ (l ++ [(k, some (s, w))]) (by omega) (by omega) ((fr8_3 a3).trans hF) a2 (by rw [List.length_append]; simp; omega)
    refine ⟨z, ω, ?_, ?_, fr8_trans a3 b3⟩
    · rw [fX12_laysOrder_l56, l_2, r_ofSlip hs (by omega), hF, hw]
      have ho' : onB (τ 3) (ι (k / 2)) (ι (k % 2)) s = true := by rw [hF]; exact ho
      simp (disch := omega) only [l_0, l_1, l_2, l_3, l_4, l_5, l_6, l_7, l_8, l_9, l_10, l_12, l_13, l_24, l_31, l_32, l_40, l_41, l_42, l_44, l_45, l_48, l_49, l_50, l_57, l_59, l_60, l_65, l_88, l_89, l_97, l_98, l_99, l_100, l_105, l_108, l_109, l_114, l_118, l_120, l_122, l_144, l_255, l_269, l_279, l_339, l_400, l_600, l_999, l_1000, l_2373, l_2712, ι_lt, ι_le, ι_eq, ι_add, ι_mul, ι_sub, ι_div, ι_n, ι_m1, m1_ι, m1_lt, m1_le, lt_m1, le_m1, m1_lt_m1, m1_le_m1, m1_add1, neg_ι1, ι_addm, ι_addn, Bool.false_eq_true, Nat.not_lt_zero, Nat.add_zero, Nat.zero_add, Nat.mul_zero, Nat.reduceMul, Nat.reduceAdd, Nat.reduceSub, Nat.reduceLT, Nat.reduceLeDiff, Nat.reduceEqDiff, Nat.reduceDiv, Nat.reduceBEq, Nat.reduceBNe, false_or, or_false, true_or, or_true, and_true, true_and, false_and, and_false, not_false_eq_true, not_true_eq_false, if_true, if_false, if_pos, if_neg, Option.bind_some, ite_false, ite_true, eq_self, reduceIte, mod2, r_isOn hs, ho', a1]
      exact b1
    · rw [fl]
      rw [List.append_assoc] at b2
      exact b2
theorem r_l56_no {F : Nat → Int32} {k s ws : Nat} (hk : k < 120) (hs : s < 12) (hw : F (5 + 3 * s + 2) = ι ws) (hw2 : ws ≤ 2) (ho : ¬ onK F k s = true) (τ : Mem) (hF : τ 3 = F) : ∃ z, fX12_laysOrder_l56 (ι k) (ι s) FU (ι 0) τ = some (z, τ) := by
  have hf : FU = 4095 + 1 := rfl
  rw [hf, fX12_laysOrder_l56, l_2, r_ofSlip hs (by omega), hF, hw]
  have ho' : ¬ onB (τ 3) (ι (k / 2)) (ι (k % 2)) s = true := by rw [hF]; exact ho
  simp (disch := omega) only [l_0, l_1, l_2, l_3, l_4, l_5, l_6, l_7, l_8, l_9, l_10, l_12, l_13, l_24, l_31, l_32, l_40, l_41, l_42, l_44, l_45, l_48, l_49, l_50, l_57, l_59, l_60, l_65, l_88, l_89, l_97, l_98, l_99, l_100, l_105, l_108, l_109, l_114, l_118, l_120, l_122, l_144, l_255, l_269, l_279, l_339, l_400, l_600, l_999, l_1000, l_2373, l_2712, ι_lt, ι_le, ι_eq, ι_add, ι_mul, ι_sub, ι_div, ι_n, ι_m1, m1_ι, m1_lt, m1_le, lt_m1, le_m1, m1_lt_m1, m1_le_m1, m1_add1, neg_ι1, ι_addm, ι_addn, Bool.false_eq_true, Nat.not_lt_zero, Nat.add_zero, Nat.zero_add, Nat.mul_zero, Nat.reduceMul, Nat.reduceAdd, Nat.reduceSub, Nat.reduceLT, Nat.reduceLeDiff, Nat.reduceEqDiff, Nat.reduceDiv, Nat.reduceBEq, Nat.reduceBNe, false_or, or_false, true_or, or_true, and_true, true_and, false_and, and_false, not_false_eq_true, not_true_eq_false, if_true, if_false, if_pos, if_neg, Option.bind_some, ite_false, ite_true, eq_self, reduceIte, mod2, r_isOn hs, ho']
  by_cases h0 : ws = 0
  · rw [h0]; exact ⟨_, rfl⟩
  · rw [if_neg (by omega)]; exact ⟨_, rfl⟩
theorem r_l44 {F : Nat → Int32} {n a k : Nat} (hk : k < 120) (ha : a ≤ 12) (h0 : F 0 = ι a) (hS : ∀ s, s < a → SlI n F s) : ∀ m n' s (τ : Mem) l, s + m = a → m < n' → τ 3 = F → OT τ l → l.length + (fl (slE F k) s m).length ≤ 144 → ∃ z υ, fX12_laysOrder_l44 (ι k) n' (ι s) τ = some (z, υ) ∧ OT υ (l ++ fl (slE F k) s m) ∧ fr8 τ υ := by
  intro m
  induction m with
  | zero =>
    intro n' s τ l h hn' hF hO hl
    obtain ⟨n', rfl⟩ : ∃ k, n' = k + 1 := ⟨n' - 1, by omega⟩
    refine ⟨ι s, τ, ?_, ?_, fr8_refl τ⟩
    · rw [fX12_laysOrder_l44]
      have : τ 3 0 = ι a := by rw [hF]; exact h0
      simp (disch := omega) only [l_0, l_1, l_2, l_3, l_4, l_5, l_6, l_7, l_8, l_9, l_10, l_12, l_13, l_24, l_31, l_32, l_40, l_41, l_42, l_44, l_45, l_48, l_49, l_50, l_57, l_59, l_60, l_65, l_88, l_89, l_97, l_98, l_99, l_100, l_105, l_108, l_109, l_114, l_118, l_120, l_122, l_144, l_255, l_269, l_279, l_339, l_400, l_600, l_999, l_1000, l_2373, l_2712, ι_lt, ι_le, ι_eq, ι_add, ι_mul, ι_sub, ι_div, ι_n, ι_m1, m1_ι, m1_lt, m1_le, lt_m1, le_m1, m1_lt_m1, m1_le_m1, m1_add1, neg_ι1, ι_addm, ι_addn, Bool.false_eq_true, Nat.not_lt_zero, Nat.add_zero, Nat.zero_add, Nat.mul_zero, Nat.reduceMul, Nat.reduceAdd, Nat.reduceSub, Nat.reduceLT, Nat.reduceLeDiff, Nat.reduceEqDiff, Nat.reduceDiv, Nat.reduceBEq, Nat.reduceBNe, false_or, or_false, true_or, or_true, and_true, true_and, false_and, and_false, not_false_eq_true, not_true_eq_false, if_true, if_false, if_pos, if_neg, Option.bind_some, ite_false, ite_true, eq_self, reduceIte, lm_0, lm_1, lm_2, lm_3, lm_4, lm_5, lm_6, lm_7, lm_8, lm_9, lm_10, lm_11, lm_12, lm_13, lm_14, lm_15, lm_16, lm_17, this]
    · rw [fl, List.append_nil]; exact hO
  | succ m ih =>
    intro n' s τ l h hn' hF hO hl
    obtain ⟨n', rfl⟩ : ∃ k, n' = k + 1 := ⟨n' - 1, by omega⟩
    obtain ⟨ws, w1, w2⟩ : ∃ ws, F (5 + 3 * s + 2) = ι ws ∧ ws ≤ 2 := by
      rcases (hS s (by omega)).2 with z | z
      · exact ⟨1, z, by omega⟩
      · exact ⟨2, z, by omega⟩
    have hnn : nn (F (5 + 3 * s + 2)) = ws := by rw [w1, nn_ι (by omega)]
    rw [fl, List.length_append] at hl
    have key : ∃ z υ, fX12_laysOrder_l56 (ι k) (ι s) FU (ι 0) τ = some (z, υ) ∧ OT υ (l ++ slE F k s) ∧ fr8 τ υ := by
      unfold slE at hl ⊢
      by_cases ho : onK F k s = true
      · rw [if_pos ho] at hl ⊢
        rw [hnn] at hl ⊢
        have hlen : (fl (fun w => [((k, some (s, w)) : En)]) 0 ws).length = ws := by
          rw [fl_len]
          have : sm (fun w => [((k, some (s, w)) : En)].length) 0 ws = 1 * ws := sm_const 1 _ _
          omega
        exact r_l56 hk (by omega) w1 w2 ho ws FU 0 τ l (by omega) (by unfold FU; omega) hF hO (by omega)
      · obtain ⟨z, hz⟩ := r_l56_no hk (show s < 12 by omega) w1 w2 ho τ hF
        rw [if_neg ho, List.append_nil]
        exact ⟨z, τ, hz, hO, fr8_refl τ⟩
    obtain ⟨z, υ, a1, a2, a3⟩ := key
    obtain ⟨z', ω, b1, b2, b3⟩ := ih n' (s + 1) υ (l ++ slE F k s) (by omega) (by omega) ((fr8_3 a3).trans hF) a2 (by rw [List.length_append]; omega)
    refine ⟨z', ω, ?_, ?_, fr8_trans a3 b3⟩
    · rw [fX12_laysOrder_l44]
      have : τ 3 0 = ι a := by rw [hF]; exact h0
      simp (disch := omega) only [l_0, l_1, l_2, l_3, l_4, l_5, l_6, l_7, l_8, l_9, l_10, l_12, l_13, l_24, l_31, l_32, l_40, l_41, l_42, l_44, l_45, l_48, l_49, l_50, l_57, l_59, l_60, l_65, l_88, l_89, l_97, l_98, l_99, l_100, l_105, l_108, l_109, l_114, l_118, l_120, l_122, l_144, l_255, l_269, l_279, l_339, l_400, l_600, l_999, l_1000, l_2373, l_2712, ι_lt, ι_le, ι_eq, ι_add, ι_mul, ι_sub, ι_div, ι_n, ι_m1, m1_ι, m1_lt, m1_le, lt_m1, le_m1, m1_lt_m1, m1_le_m1, m1_add1, neg_ι1, ι_addm, ι_addn, Bool.false_eq_true, Nat.not_lt_zero, Nat.add_zero, Nat.zero_add, Nat.mul_zero, Nat.reduceMul, Nat.reduceAdd, Nat.reduceSub, Nat.reduceLT, Nat.reduceLeDiff, Nat.reduceEqDiff, Nat.reduceDiv, Nat.reduceBEq, Nat.reduceBNe, false_or, or_false, true_or, or_true, and_true, true_and, false_and, and_false, not_false_eq_true, not_true_eq_false, if_true, if_false, if_pos, if_neg, Option.bind_some, ite_false, ite_true, eq_self, reduceIte, lm_0, lm_1, lm_2, lm_3, lm_4, lm_5, lm_6, lm_7, lm_8, lm_9, lm_10, lm_11, lm_12, lm_13, lm_14, lm_15, lm_16, lm_17, this, a1]
      exact b1
    · rw [fl, ← List.append_assoc]; exact b2
theorem r_l7 {F q : Nat → Int32} {k₀ n a : Nat} (hQ : QI q k₀ n) (ha : a ≤ 12) (h0 : F 0 = ι a) (hS : ∀ s, s < a → SlI n F s) : ∀ m n' k (τ : Mem) l, k + m = 2 * n → m < n' → τ 3 = F → τ 1 = q → τ 0 3 = ι k₀ → OT τ l → l.length + (fl (kE F a) k m).length ≤ 144 → ∃ z υ, fX12_laysOrder_l7 n' (ι k) τ = some (z, υ) ∧ OT υ (l ++ fl (kE F a) k m) ∧ fr8 τ υ := by
  have hn := hQ.2.2.2.2
  intro m
  induction m with
  | zero =>
    intro n' k τ l h hn' hF hq h3 hO hl
    obtain ⟨n', rfl⟩ : ∃ k, n' = k + 1 := ⟨n' - 1, by omega⟩
    refine ⟨ι k, τ, ?_, ?_, fr8_refl τ⟩
    · rw [fX12_laysOrder_l7, r_leaves (by rw [hq]; exact hQ) h3]
      simp (disch := omega) only [l_0, l_1, l_2, l_3, l_4, l_5, l_6, l_7, l_8, l_9, l_10, l_12, l_13, l_24, l_31, l_32, l_40, l_41, l_42, l_44, l_45, l_48, l_49, l_50, l_57, l_59, l_60, l_65, l_88, l_89, l_97, l_98, l_99, l_100, l_105, l_108, l_109, l_114, l_118, l_120, l_122, l_144, l_255, l_269, l_279, l_339, l_400, l_600, l_999, l_1000, l_2373, l_2712, ι_lt, ι_le, ι_eq, ι_add, ι_mul, ι_sub, ι_div, ι_n, ι_m1, m1_ι, m1_lt, m1_le, lt_m1, le_m1, m1_lt_m1, m1_le_m1, m1_add1, neg_ι1, ι_addm, ι_addn, Bool.false_eq_true, Nat.not_lt_zero, Nat.add_zero, Nat.zero_add, Nat.mul_zero, Nat.reduceMul, Nat.reduceAdd, Nat.reduceSub, Nat.reduceLT, Nat.reduceLeDiff, Nat.reduceEqDiff, Nat.reduceDiv, Nat.reduceBEq, Nat.reduceBNe, false_or, or_false, true_or, or_true, and_true, true_and, false_and, and_false, not_false_eq_true, not_true_eq_false, if_true, if_false, if_pos, if_neg, Option.bind_some, ite_false, ite_true, eq_self, reduceIte]
    · rw [fl, List.append_nil]; exact hO
  | succ m ih =>
    intro n' k τ l h hn' hF hq h3 hO hl
    obtain ⟨n', rfl⟩ : ∃ k, n' = k + 1 := ⟨n' - 1, by omega⟩
    rw [fl, List.length_append] at hl
    by_cases hp : pB F (k / 2) = true
    · have hkE : kE F a k = sdE F a k := by unfold kE; rw [if_pos hp]
      rw [hkE] at hl
      unfold sdE at hl
      rw [List.length_cons] at hl
      obtain ⟨υ, a1, a2, a3⟩ := r_comes (x1 := ι (k / 2)) (x2 := ι (k % 2)) (x3 := μ) (x4 := μ) (k, none) hO (by omega) rfl rfl rfl rfl
      obtain ⟨z, ω, b1, b2, b3⟩ := r_l44 (k := k) (by omega) ha h0 hS a FU 0 υ (l ++ [(k, none)]) (by omega) (by unfold FU; omega) ((fr8_3 a3).trans hF) a2 (by rw [List.length_append]; simp only [List.length_cons, List.length_nil]; omega)
      have f13 := fr8_trans a3 b3
      obtain ⟨z', ψ, c1, c2, c3⟩ := ih n' (k + 1) ω (l ++ [(k, none)] ++ fl (slE F k) 0 a) (by omega) (by omega) ((fr8_3 f13).trans hF) ((fr8_1 f13).trans hq) ((f13 0 3 (by omega)).trans h3) b2 (by rw [List.length_append, List.length_append]; simp only [List.length_cons, List.length_nil]; omega)
      refine ⟨z', ψ, ?_, ?_, fr8_trans f13 c3⟩
      · rw [fX12_laysOrder_l7, r_leaves (by rw [hq]; exact hQ) h3]
        have hp' : pB (τ 3) (k / 2) = true := by rw [hF]; exact hp
        simp (disch := omega) only [l_0, l_1, l_2, l_3, l_4, l_5, l_6, l_7, l_8, l_9, l_10, l_12, l_13, l_24, l_31, l_32, l_40, l_41, l_42, l_44, l_45, l_48, l_49, l_50, l_57, l_59, l_60, l_65, l_88, l_89, l_97, l_98, l_99, l_100, l_105, l_108, l_109, l_114, l_118, l_120, l_122, l_144, l_255, l_269, l_279, l_339, l_400, l_600, l_999, l_1000, l_2373, l_2712, ι_lt, ι_le, ι_eq, ι_add, ι_mul, ι_sub, ι_div, ι_n, ι_m1, m1_ι, m1_lt, m1_le, lt_m1, le_m1, m1_lt_m1, m1_le_m1, m1_add1, neg_ι1, ι_addm, ι_addn, Bool.false_eq_true, Nat.not_lt_zero, Nat.add_zero, Nat.zero_add, Nat.mul_zero, Nat.reduceMul, Nat.reduceAdd, Nat.reduceSub, Nat.reduceLT, Nat.reduceLeDiff, Nat.reduceEqDiff, Nat.reduceDiv, Nat.reduceBEq, Nat.reduceBNe, false_or, or_false, true_or, or_true, and_true, true_and, false_and, and_false, not_false_eq_true, not_true_eq_false, if_true, if_false, if_pos, if_neg, Option.bind_some, ite_false, ite_true, eq_self, reduceIte, mod2, r_isPresent (show k / 2 < 60 by omega), hp', a1, b1]
        exact c1
      · rw [fl, hkE]
        unfold sdE
        rw [List.append_assoc, List.append_assoc] at c2
        exact c2
    · have hkE : kE F a k = [] := by unfold kE; rw [if_neg hp]
      rw [hkE] at hl
      obtain ⟨z', ψ, c1, c2, c3⟩ := ih n' (k + 1) τ l (by omega) (by omega) hF hq h3 hO (by simpa using hl)
      refine ⟨z', ψ, ?_, ?_, c3⟩
      · rw [fX12_laysOrder_l7, r_leaves (by rw [hq]; exact hQ) h3]
        have hp' : ¬ pB (τ 3) (k / 2) = true := by rw [hF]; exact hp
        simp (disch := omega) only [l_0, l_1, l_2, l_3, l_4, l_5, l_6, l_7, l_8, l_9, l_10, l_12, l_13, l_24, l_31, l_32, l_40, l_41, l_42, l_44, l_45, l_48, l_49, l_50, l_57, l_59, l_60, l_65, l_88, l_89, l_97, l_98, l_99, l_100, l_105, l_108, l_109, l_114, l_118, l_120, l_122, l_144, l_255, l_269, l_279, l_339, l_400, l_600, l_999, l_1000, l_2373, l_2712, ι_lt, ι_le, ι_eq, ι_add, ι_mul, ι_sub, ι_div, ι_n, ι_m1, m1_ι, m1_lt, m1_le, lt_m1, le_m1, m1_lt_m1, m1_le_m1, m1_add1, neg_ι1, ι_addm, ι_addn, Bool.false_eq_true, Nat.not_lt_zero, Nat.add_zero, Nat.zero_add, Nat.mul_zero, Nat.reduceMul, Nat.reduceAdd, Nat.reduceSub, Nat.reduceLT, Nat.reduceLeDiff, Nat.reduceEqDiff, Nat.reduceDiv, Nat.reduceBEq, Nat.reduceBNe, false_or, or_false, true_or, or_true, and_true, true_and, false_and, and_false, not_false_eq_true, not_true_eq_false, if_true, if_false, if_pos, if_neg, Option.bind_some, ite_false, ite_true, eq_self, reduceIte, r_isPresent (show k / 2 < 60 by omega), hp']
        exact c1
      · rw [fl, hkE, List.nil_append]; exact c2
theorem r_order {τ : Mem} {k n a : Nat} (hQ : QI (τ 1) k n) (h3 : τ 0 3 = ι k) (ha : a ≤ 12) (h0 : τ 3 0 = ι a) (hS : ∀ s, s < a → SlI n (τ 3) s) : ∃ υ, fX12_laysOrder τ = some υ ∧ OT υ (ordE (τ 3) n a) ∧ fr8 τ υ := by
  have hn := hQ.2.2.2.2
  have hO : OT (up τ 0 17 (ι 0)) [] := ⟨up_e _ _ _ _, fun p e h => by simp at h⟩
  have hf : fr8 τ (up τ 0 17 (ι 0)) := fun k j hk => by simp (disch := omega) only [up_g, if_pos, if_neg, true_and, and_true, false_and, and_false, if_true, if_false, reduceIte]
  obtain ⟨z, υ, a1, a2, a3⟩ := r_l7 hQ ha h0 hS (2 * n) FU 0 (up τ 0 17 (ι 0)) [] (by omega) (by unfold FU; omega) (fr8_3 hf) (fr8_1 hf) ((hf 0 3 (by omega)).trans h3) hO (by have := ordE_len (F := τ 3) hn ha hS; unfold ordE at this; simpa using this)
  refine ⟨υ, ?_, ?_, fr8_trans hf a3⟩
  · unfold fX12_laysOrder
    rw [l_0, a1]; rfl
  · exact a2
theorem ent_lt {F : Nat → Int32} {n a : Nat} (hn : n ≤ 60) {p : Nat} {e : En} (h : (ordE F n a)[p]? = some e) : e.1 < 120 ∧ e.1 < 2 * n ∧ pB F (e.1 / 2) = true ∧ (e.2 = none ∨ ∃ s w, s < a ∧ onK F e.1 s = true ∧ w < nn (F (5 + 3 * s + 2)) ∧ e.2 = some (s, w)) := by
  have := ordE_mem (List.mem_of_getElem? h)
  exact ⟨by omega, this.1, this.2⟩
/-- where something stands in a list -/
def ix (P : En → Bool) : List En → Nat → Option Nat
  | [], _ => none
  | e :: l, i => if P e then some i else ix P l (i + 1)
theorem r_pl_l {P : En → Bool} {f : Nat → Int32 → Mem → Option (Int32 ⊕ Int32)} {τ : Mem} {L : List En} (hL : L.length ≤ 144)
    (hs : ∀ n i, i ≤ L.length → f (n + 1) (ι i) τ = if L.length ≤ i then some (.inr (ι i)) else (match L[i]? with | some e => if P e then some (.inl (ι i)) else f n (ι (i + 1)) τ | none => none)) : ∀ l n i, L.drop i = l → l.length < n → i ≤ L.length → (f n (ι i) τ).bind (fun q2 => match q2 with | .inl r => some r | .inr q2 => some (-1 : Int32)) = some (oi (ix P l i)) := by
  intro l
  induction l with
  | nil =>
    intro n i h hn hi
    obtain ⟨n, rfl⟩ : ∃ k, n = k + 1 := ⟨n - 1, by simp at hn; omega⟩
    rw [hs n i hi, if_pos (List.drop_eq_nil_iff.mp h)]; rfl
  | cons e l ih =>
    intro n i h hn hi
    obtain ⟨n, rfl⟩ : ∃ k, n = k + 1 := ⟨n - 1, by omega⟩
    have hlt : i < L.length := by
      have := congrArg List.length h
      rw [List.length_drop, List.length_cons] at this; omega
    have hg : L[i]? = some e := by
      have := congrArg (fun l => l[0]?) h
      simpa using this
    have hd : L.drop (i + 1) = l := by
      have := congrArg List.tail h
      simpa [List.tail_drop] using this
    rw [hs n i hi, if_neg (by omega), hg]
    simp only [ix]
    by_cases hp : P e = true
    · rw [if_pos hp, if_pos hp]; rfl
    · rw [if_neg hp, if_neg hp]
      exact ih n (i + 1) hd (by rw [List.length_cons] at hn; omega) (by omega)
theorem get_lt {L : List En} {i : Nat} (h : i < L.length) : ∃ e, L[i]? = some e := ⟨L[i], List.getElem?_eq_getElem h⟩
def isL (k : Nat) (e : En) : Bool := decide (e = (k, none))
def isS (s w : Nat) (e : En) : Bool := decide (e.2 = some (s, w))
theorem r_placeOfLeaf {τ : Mem} {L : List En} (hL : L.length ≤ 144) (hO : OT τ L) (hE : ∀ (p : Nat) e, L[p]? = some e → e.1 < 120 ∧ ∀ s w, e.2 = some (s, w) → s < 12) {x y : Nat} (hx : x < 60) (hy : y < 2) : fX12_placeOfLeaf (ι x) (ι y) τ = some (oi (ix (isL (2 * x + y)) L 0)) := by
  unfold fX12_placeOfLeaf
  rw [l_0]
  refine r_pl_l (P := isL (2 * x + y)) (f := fX12_placeOfLeaf_l2 (ι x) (ι y)) hL (fun n i hi => ?_) L FU 0 rfl (by unfold FU; omega) (by omega)
  rw [fX12_placeOfLeaf_l2, hO.1]
  rcases Nat.lt_or_ge i L.length with h | h
  · obtain ⟨e, he⟩ := get_lt h
    obtain ⟨o1, o2, o3, o4⟩ := hO.2 i e he
    obtain ⟨g1, g2⟩ := hE i e he
    simp (disch := omega) only [l_0, l_1, l_2, l_3, l_4, l_5, l_6, l_7, l_8, l_9, l_10, l_12, l_13, l_24, l_31, l_32, l_40, l_41, l_42, l_44, l_45, l_48, l_49, l_50, l_57, l_59, l_60, l_65, l_88, l_89, l_97, l_98, l_99, l_100, l_105, l_108, l_109, l_114, l_118, l_120, l_122, l_144, l_255, l_269, l_279, l_339, l_400, l_600, l_999, l_1000, l_2373, l_2712, ι_lt, ι_le, ι_eq, ι_add, ι_mul, ι_sub, ι_div, ι_n, ι_m1, m1_ι, m1_lt, m1_le, lt_m1, le_m1, m1_lt_m1, m1_le_m1, m1_add1, neg_ι1, ι_addm, ι_addn, Bool.false_eq_true, Nat.not_lt_zero, Nat.add_zero, Nat.zero_add, Nat.mul_zero, Nat.reduceMul, Nat.reduceAdd, Nat.reduceSub, Nat.reduceLT, Nat.reduceLeDiff, Nat.reduceEqDiff, Nat.reduceDiv, Nat.reduceBEq, Nat.reduceBNe, false_or, or_false, true_or, or_true, and_true, true_and, false_and, and_false, not_false_eq_true, not_true_eq_false, if_true, if_false, if_pos, if_neg, Option.bind_some, ite_false, ite_true, eq_self, reduceIte, lm_0, lm_1, lm_2, lm_3, lm_4, lm_5, lm_6, lm_7, lm_8, lm_9, lm_10, lm_11, lm_12, lm_13, lm_14, lm_15, lm_16, lm_17, he, o1, o2, o3]
    obtain ⟨k, o⟩ := e
    simp only at g1 g2
    unfold isL
    cases o with
    | none =>
      simp (disch := omega) only [eL, eS, eP, l_0, l_1, l_2, l_3, l_4, l_5, l_6, l_7, l_8, l_9, l_10, l_12, l_13, l_24, l_31, l_32, l_40, l_41, l_42, l_44, l_45, l_48, l_49, l_50, l_57, l_59, l_60, l_65, l_88, l_89, l_97, l_98, l_99, l_100, l_105, l_108, l_109, l_114, l_118, l_120, l_122, l_144, l_255, l_269, l_279, l_339, l_400, l_600, l_999, l_1000, l_2373, l_2712, ι_lt, ι_le, ι_eq, ι_add, ι_mul, ι_sub, ι_div, ι_n, ι_m1, m1_ι, m1_lt, m1_le, lt_m1, le_m1, m1_lt_m1, m1_le_m1, m1_add1, neg_ι1, ι_addm, ι_addn, Bool.false_eq_true, Nat.not_lt_zero, Nat.add_zero, Nat.zero_add, Nat.mul_zero, Nat.reduceMul, Nat.reduceAdd, Nat.reduceSub, Nat.reduceLT, Nat.reduceLeDiff, Nat.reduceEqDiff, Nat.reduceDiv, Nat.reduceBEq, Nat.reduceBNe, false_or, or_false, true_or, or_true, and_true, true_and, false_and, and_false, not_false_eq_true, not_true_eq_false, if_true, if_false, if_pos, if_neg, Option.bind_some, ite_false, ite_true, eq_self, reduceIte, decide_eq_true_eq, Prod.mk.injEq]
      by_cases h1 : k / 2 = x
      · by_cases h2 : k % 2 = y
        · simp (disch := omega) only [l_0, l_1, l_2, l_3, l_4, l_5, l_6, l_7, l_8, l_9, l_10, l_12, l_13, l_24, l_31, l_32, l_40, l_41, l_42, l_44, l_45, l_48, l_49, l_50, l_57, l_59, l_60, l_65, l_88, l_89, l_97, l_98, l_99, l_100, l_105, l_108, l_109, l_114, l_118, l_120, l_122, l_144, l_255, l_269, l_279, l_339, l_400, l_600, l_999, l_1000, l_2373, l_2712, ι_lt, ι_le, ι_eq, ι_add, ι_mul, ι_sub, ι_div, ι_n, ι_m1, m1_ι, m1_lt, m1_le, lt_m1, le_m1, m1_lt_m1, m1_le_m1, m1_add1, neg_ι1, ι_addm, ι_addn, Bool.false_eq_true, Nat.not_lt_zero, Nat.add_zero, Nat.zero_add, Nat.mul_zero, Nat.reduceMul, Nat.reduceAdd, Nat.reduceSub, Nat.reduceLT, Nat.reduceLeDiff, Nat.reduceEqDiff, Nat.reduceDiv, Nat.reduceBEq, Nat.reduceBNe, false_or, or_false, true_or, or_true, and_true, true_and, false_and, and_false, not_false_eq_true, not_true_eq_false, if_true, if_false, if_pos, if_neg, Option.bind_some, ite_false, ite_true, eq_self, reduceIte]
        · simp (disch := omega) only [l_0, l_1, l_2, l_3, l_4, l_5, l_6, l_7, l_8, l_9, l_10, l_12, l_13, l_24, l_31, l_32, l_40, l_41, l_42, l_44, l_45, l_48, l_49, l_50, l_57, l_59, l_60, l_65, l_88, l_89, l_97, l_98, l_99, l_100, l_105, l_108, l_109, l_114, l_118, l_120, l_122, l_144, l_255, l_269, l_279, l_339, l_400, l_600, l_999, l_1000, l_2373, l_2712, ι_lt, ι_le, ι_eq, ι_add, ι_mul, ι_sub, ι_div, ι_n, ι_m1, m1_ι, m1_lt, m1_le, lt_m1, le_m1, m1_lt_m1, m1_le_m1, m1_add1, neg_ι1, ι_addm, ι_addn, Bool.false_eq_true, Nat.not_lt_zero, Nat.add_zero, Nat.zero_add, Nat.mul_zero, Nat.reduceMul, Nat.reduceAdd, Nat.reduceSub, Nat.reduceLT, Nat.reduceLeDiff, Nat.reduceEqDiff, Nat.reduceDiv, Nat.reduceBEq, Nat.reduceBNe, false_or, or_false, true_or, or_true, and_true, true_and, false_and, and_false, not_false_eq_true, not_true_eq_false, if_true, if_false, if_pos, if_neg, Option.bind_some, ite_false, ite_true, eq_self, reduceIte]
      · simp (disch := omega) only [l_0, l_1, l_2, l_3, l_4, l_5, l_6, l_7, l_8, l_9, l_10, l_12, l_13, l_24, l_31, l_32, l_40, l_41, l_42, l_44, l_45, l_48, l_49, l_50, l_57, l_59, l_60, l_65, l_88, l_89, l_97, l_98, l_99, l_100, l_105, l_108, l_109, l_114, l_118, l_120, l_122, l_144, l_255, l_269, l_279, l_339, l_400, l_600, l_999, l_1000, l_2373, l_2712, ι_lt, ι_le, ι_eq, ι_add, ι_mul, ι_sub, ι_div, ι_n, ι_m1, m1_ι, m1_lt, m1_le, lt_m1, le_m1, m1_lt_m1, m1_le_m1, m1_add1, neg_ι1, ι_addm, ι_addn, Bool.false_eq_true, Nat.not_lt_zero, Nat.add_zero, Nat.zero_add, Nat.mul_zero, Nat.reduceMul, Nat.reduceAdd, Nat.reduceSub, Nat.reduceLT, Nat.reduceLeDiff, Nat.reduceEqDiff, Nat.reduceDiv, Nat.reduceBEq, Nat.reduceBNe, false_or, or_false, true_or, or_true, and_true, true_and, false_and, and_false, not_false_eq_true, not_true_eq_false, if_true, if_false, if_pos, if_neg, Option.bind_some, ite_false, ite_true, eq_self, reduceIte]
    | some p =>
      have := g2 p.1 p.2 rfl
      simp (disch := omega) only [eL, eS, eP, l_0, l_1, l_2, l_3, l_4, l_5, l_6, l_7, l_8, l_9, l_10, l_12, l_13, l_24, l_31, l_32, l_40, l_41, l_42, l_44, l_45, l_48, l_49, l_50, l_57, l_59, l_60, l_65, l_88, l_89, l_97, l_98, l_99, l_100, l_105, l_108, l_109, l_114, l_118, l_120, l_122, l_144, l_255, l_269, l_279, l_339, l_400, l_600, l_999, l_1000, l_2373, l_2712, ι_lt, ι_le, ι_eq, ι_add, ι_mul, ι_sub, ι_div, ι_n, ι_m1, m1_ι, m1_lt, m1_le, lt_m1, le_m1, m1_lt_m1, m1_le_m1, m1_add1, neg_ι1, ι_addm, ι_addn, Bool.false_eq_true, Nat.not_lt_zero, Nat.add_zero, Nat.zero_add, Nat.mul_zero, Nat.reduceMul, Nat.reduceAdd, Nat.reduceSub, Nat.reduceLT, Nat.reduceLeDiff, Nat.reduceEqDiff, Nat.reduceDiv, Nat.reduceBEq, Nat.reduceBNe, false_or, or_false, true_or, or_true, and_true, true_and, false_and, and_false, not_false_eq_true, not_true_eq_false, if_true, if_false, if_pos, if_neg, Option.bind_some, ite_false, ite_true, eq_self, reduceIte, decide_eq_true_eq, Prod.mk.injEq, reduceCtorEq, ite_self]
  · simp (disch := omega) only [l_0, l_1, l_2, l_3, l_4, l_5, l_6, l_7, l_8, l_9, l_10, l_12, l_13, l_24, l_31, l_32, l_40, l_41, l_42, l_44, l_45, l_48, l_49, l_50, l_57, l_59, l_60, l_65, l_88, l_89, l_97, l_98, l_99, l_100, l_105, l_108, l_109, l_114, l_118, l_120, l_122, l_144, l_255, l_269, l_279, l_339, l_400, l_600, l_999, l_1000, l_2373, l_2712, ι_lt, ι_le, ι_eq, ι_add, ι_mul, ι_sub, ι_div, ι_n, ι_m1, m1_ι, m1_lt, m1_le, lt_m1, le_m1, m1_lt_m1, m1_le_m1, m1_add1, neg_ι1, ι_addm, ι_addn, Bool.false_eq_true, Nat.not_lt_zero, Nat.add_zero, Nat.zero_add, Nat.mul_zero, Nat.reduceMul, Nat.reduceAdd, Nat.reduceSub, Nat.reduceLT, Nat.reduceLeDiff, Nat.reduceEqDiff, Nat.reduceDiv, Nat.reduceBEq, Nat.reduceBNe, false_or, or_false, true_or, or_true, and_true, true_and, false_and, and_false, not_false_eq_true, not_true_eq_false, if_true, if_false, if_pos, if_neg, Option.bind_some, ite_false, ite_true, eq_self, reduceIte]
theorem r_placeOfSlip {τ : Mem} {L : List En} (hL : L.length ≤ 144) (hO : OT τ L) (hE : ∀ (p : Nat) e, L[p]? = some e → e.1 < 120 ∧ ∀ s w, e.2 = some (s, w) → s < 12 ∧ w < 2) {x y : Nat} (hx : x < 12) (hy : y < 2) : fX12_placeOfSlip (ι x) (ι y) τ = some (oi (ix (isS x y) L 0)) := by
  unfold fX12_placeOfSlip
  rw [l_0]
  refine r_pl_l (P := isS x y) (f := fX12_placeOfSlip_l2 (ι x) (ι y)) hL (fun n i hi => ?_) L FU 0 rfl (by unfold FU; omega) (by omega)
  rw [fX12_placeOfSlip_l2, hO.1]
  rcases Nat.lt_or_ge i L.length with h | h
  · obtain ⟨e, he⟩ := get_lt h
    obtain ⟨o1, o2, o3, o4⟩ := hO.2 i e he
    obtain ⟨g1, g2⟩ := hE i e he
    simp (disch := omega) only [l_0, l_1, l_2, l_3, l_4, l_5, l_6, l_7, l_8, l_9, l_10, l_12, l_13, l_24, l_31, l_32, l_40, l_41, l_42, l_44, l_45, l_48, l_49, l_50, l_57, l_59, l_60, l_65, l_88, l_89, l_97, l_98, l_99, l_100, l_105, l_108, l_109, l_114, l_118, l_120, l_122, l_144, l_255, l_269, l_279, l_339, l_400, l_600, l_999, l_1000, l_2373, l_2712, ι_lt, ι_le, ι_eq, ι_add, ι_mul, ι_sub, ι_div, ι_n, ι_m1, m1_ι, m1_lt, m1_le, lt_m1, le_m1, m1_lt_m1, m1_le_m1, m1_add1, neg_ι1, ι_addm, ι_addn, Bool.false_eq_true, Nat.not_lt_zero, Nat.add_zero, Nat.zero_add, Nat.mul_zero, Nat.reduceMul, Nat.reduceAdd, Nat.reduceSub, Nat.reduceLT, Nat.reduceLeDiff, Nat.reduceEqDiff, Nat.reduceDiv, Nat.reduceBEq, Nat.reduceBNe, false_or, or_false, true_or, or_true, and_true, true_and, false_and, and_false, not_false_eq_true, not_true_eq_false, if_true, if_false, if_pos, if_neg, Option.bind_some, ite_false, ite_true, eq_self, reduceIte, lm_0, lm_1, lm_2, lm_3, lm_4, lm_5, lm_6, lm_7, lm_8, lm_9, lm_10, lm_11, lm_12, lm_13, lm_14, lm_15, lm_16, lm_17, he, o3, o4]
    obtain ⟨k, o⟩ := e
    simp only at g1 g2
    unfold isS
    cases o with
    | none =>
      simp (disch := omega) only [eP, eW, l_0, l_1, l_2, l_3, l_4, l_5, l_6, l_7, l_8, l_9, l_10, l_12, l_13, l_24, l_31, l_32, l_40, l_41, l_42, l_44, l_45, l_48, l_49, l_50, l_57, l_59, l_60, l_65, l_88, l_89, l_97, l_98, l_99, l_100, l_105, l_108, l_109, l_114, l_118, l_120, l_122, l_144, l_255, l_269, l_279, l_339, l_400, l_600, l_999, l_1000, l_2373, l_2712, ι_lt, ι_le, ι_eq, ι_add, ι_mul, ι_sub, ι_div, ι_n, ι_m1, m1_ι, m1_lt, m1_le, lt_m1, le_m1, m1_lt_m1, m1_le_m1, m1_add1, neg_ι1, ι_addm, ι_addn, Bool.false_eq_true, Nat.not_lt_zero, Nat.add_zero, Nat.zero_add, Nat.mul_zero, Nat.reduceMul, Nat.reduceAdd, Nat.reduceSub, Nat.reduceLT, Nat.reduceLeDiff, Nat.reduceEqDiff, Nat.reduceDiv, Nat.reduceBEq, Nat.reduceBNe, false_or, or_false, true_or, or_true, and_true, true_and, false_and, and_false, not_false_eq_true, not_true_eq_false, if_true, if_false, if_pos, if_neg, Option.bind_some, ite_false, ite_true, eq_self, reduceIte, decide_eq_true_eq, Prod.mk.injEq, reduceCtorEq, ite_self]
    | some p =>
      obtain ⟨s, w⟩ := p
      have := g2 s w rfl
      simp (disch := omega) only [eP, eW, l_0, l_1, l_2, l_3, l_4, l_5, l_6, l_7, l_8, l_9, l_10, l_12, l_13, l_24, l_31, l_32, l_40, l_41, l_42, l_44, l_45, l_48, l_49, l_50, l_57, l_59, l_60, l_65, l_88, l_89, l_97, l_98, l_99, l_100, l_105, l_108, l_109, l_114, l_118, l_120, l_122, l_144, l_255, l_269, l_279, l_339, l_400, l_600, l_999, l_1000, l_2373, l_2712, ι_lt, ι_le, ι_eq, ι_add, ι_mul, ι_sub, ι_div, ι_n, ι_m1, m1_ι, m1_lt, m1_le, lt_m1, le_m1, m1_lt_m1, m1_le_m1, m1_add1, neg_ι1, ι_addm, ι_addn, Bool.false_eq_true, Nat.not_lt_zero, Nat.add_zero, Nat.zero_add, Nat.mul_zero, Nat.reduceMul, Nat.reduceAdd, Nat.reduceSub, Nat.reduceLT, Nat.reduceLeDiff, Nat.reduceEqDiff, Nat.reduceDiv, Nat.reduceBEq, Nat.reduceBNe, false_or, or_false, true_or, or_true, and_true, true_and, false_and, and_false, not_false_eq_true, not_true_eq_false, if_true, if_false, if_pos, if_neg, Option.bind_some, ite_false, ite_true, eq_self, reduceIte, decide_eq_true_eq, Option.some.injEq, Prod.mk.injEq]
      by_cases h1 : s = x
      · by_cases h2 : w = y
        · simp (disch := omega) only [l_0, l_1, l_2, l_3, l_4, l_5, l_6, l_7, l_8, l_9, l_10, l_12, l_13, l_24, l_31, l_32, l_40, l_41, l_42, l_44, l_45, l_48, l_49, l_50, l_57, l_59, l_60, l_65, l_88, l_89, l_97, l_98, l_99, l_100, l_105, l_108, l_109, l_114, l_118, l_120, l_122, l_144, l_255, l_269, l_279, l_339, l_400, l_600, l_999, l_1000, l_2373, l_2712, ι_lt, ι_le, ι_eq, ι_add, ι_mul, ι_sub, ι_div, ι_n, ι_m1, m1_ι, m1_lt, m1_le, lt_m1, le_m1, m1_lt_m1, m1_le_m1, m1_add1, neg_ι1, ι_addm, ι_addn, Bool.false_eq_true, Nat.not_lt_zero, Nat.add_zero, Nat.zero_add, Nat.mul_zero, Nat.reduceMul, Nat.reduceAdd, Nat.reduceSub, Nat.reduceLT, Nat.reduceLeDiff, Nat.reduceEqDiff, Nat.reduceDiv, Nat.reduceBEq, Nat.reduceBNe, false_or, or_false, true_or, or_true, and_true, true_and, false_and, and_false, not_false_eq_true, not_true_eq_false, if_true, if_false, if_pos, if_neg, Option.bind_some, ite_false, ite_true, eq_self, reduceIte]
        · simp (disch := omega) only [l_0, l_1, l_2, l_3, l_4, l_5, l_6, l_7, l_8, l_9, l_10, l_12, l_13, l_24, l_31, l_32, l_40, l_41, l_42, l_44, l_45, l_48, l_49, l_50, l_57, l_59, l_60, l_65, l_88, l_89, l_97, l_98, l_99, l_100, l_105, l_108, l_109, l_114, l_118, l_120, l_122, l_144, l_255, l_269, l_279, l_339, l_400, l_600, l_999, l_1000, l_2373, l_2712, ι_lt, ι_le, ι_eq, ι_add, ι_mul, ι_sub, ι_div, ι_n, ι_m1, m1_ι, m1_lt, m1_le, lt_m1, le_m1, m1_lt_m1, m1_le_m1, m1_add1, neg_ι1, ι_addm, ι_addn, Bool.false_eq_true, Nat.not_lt_zero, Nat.add_zero, Nat.zero_add, Nat.mul_zero, Nat.reduceMul, Nat.reduceAdd, Nat.reduceSub, Nat.reduceLT, Nat.reduceLeDiff, Nat.reduceEqDiff, Nat.reduceDiv, Nat.reduceBEq, Nat.reduceBNe, false_or, or_false, true_or, or_true, and_true, true_and, false_and, and_false, not_false_eq_true, not_true_eq_false, if_true, if_false, if_pos, if_neg, Option.bind_some, ite_false, ite_true, eq_self, reduceIte]
      · simp (disch := omega) only [l_0, l_1, l_2, l_3, l_4, l_5, l_6, l_7, l_8, l_9, l_10, l_12, l_13, l_24, l_31, l_32, l_40, l_41, l_42, l_44, l_45, l_48, l_49, l_50, l_57, l_59, l_60, l_65, l_88, l_89, l_97, l_98, l_99, l_100, l_105, l_108, l_109, l_114, l_118, l_120, l_122, l_144, l_255, l_269, l_279, l_339, l_400, l_600, l_999, l_1000, l_2373, l_2712, ι_lt, ι_le, ι_eq, ι_add, ι_mul, ι_sub, ι_div, ι_n, ι_m1, m1_ι, m1_lt, m1_le, lt_m1, le_m1, m1_lt_m1, m1_le_m1, m1_add1, neg_ι1, ι_addm, ι_addn, Bool.false_eq_true, Nat.not_lt_zero, Nat.add_zero, Nat.zero_add, Nat.mul_zero, Nat.reduceMul, Nat.reduceAdd, Nat.reduceSub, Nat.reduceLT, Nat.reduceLeDiff, Nat.reduceEqDiff, Nat.reduceDiv, Nat.reduceBEq, Nat.reduceBNe, false_or, or_false, true_or, or_true, and_true, true_and, false_and, and_false, not_false_eq_true, not_true_eq_false, if_true, if_false, if_pos, if_neg, Option.bind_some, ite_false, ite_true, eq_self, reduceIte]
  · simp (disch := omega) only [l_0, l_1, l_2, l_3, l_4, l_5, l_6, l_7, l_8, l_9, l_10, l_12, l_13, l_24, l_31, l_32, l_40, l_41, l_42, l_44, l_45, l_48, l_49, l_50, l_57, l_59, l_60, l_65, l_88, l_89, l_97, l_98, l_99, l_100, l_105, l_108, l_109, l_114, l_118, l_120, l_122, l_144, l_255, l_269, l_279, l_339, l_400, l_600, l_999, l_1000, l_2373, l_2712, ι_lt, ι_le, ι_eq, ι_add, ι_mul, ι_sub, ι_div, ι_n, ι_m1, m1_ι, m1_lt, m1_le, lt_m1, le_m1, m1_lt_m1, m1_le_m1, m1_add1, neg_ι1, ι_addm, ι_addn, Bool.false_eq_true, Nat.not_lt_zero, Nat.add_zero, Nat.zero_add, Nat.mul_zero, Nat.reduceMul, Nat.reduceAdd, Nat.reduceSub, Nat.reduceLT, Nat.reduceLeDiff, Nat.reduceEqDiff, Nat.reduceDiv, Nat.reduceBEq, Nat.reduceBNe, false_or, or_false, true_or, or_true, and_true, true_and, false_and, and_false, not_false_eq_true, not_true_eq_false, if_true, if_false, if_pos, if_neg, Option.bind_some, ite_false, ite_true, eq_self, reduceIte]
theorem ordE_ent {F : Nat → Int32} {n a : Nat} (hn : n ≤ 60) (ha : a ≤ 12) (hS : ∀ s, s < a → SlI n F s) (p : Nat) (e : En) (h : (ordE F n a)[p]? = some e) : e.1 < 120 ∧ ∀ s w, e.2 = some (s, w) → s < 12 ∧ w < 2 := by
  obtain ⟨h1, h2, h3, h4⟩ := ent_lt hn h
  refine ⟨h1, fun s w hsw => ?_⟩
  rcases h4 with h4 | ⟨s', w', h5, h6, h7, h8⟩
  · rw [h4] at hsw; cases hsw
  · rw [h8] at hsw
    cases hsw
    rcases (hS s h5).2 with z | z
    · rw [z, nn_ι (by omega)] at h7; omega
    · rw [z, nn_ι (by omega)] at h7; omega
