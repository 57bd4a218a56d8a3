/-! PURE PART: plain questions -/
theorem Rel_open {σ τ : Mem} (h : Rel σ τ) : ∃ k n a b d t, Rest σ τ k n ∧ FI n a b d t (τ 3) ∧ VR σ 42 (τ 1) k n a (τ 3) ∧ LR σ 53 b (τ 3) ∧ CR σ 62 d (τ 3) ∧ WR σ 69 t (τ 3) := by
  obtain ⟨k, n, h1, a, b, d, t, h2, h3, h4, h5, h6⟩ := h
  exact ⟨k, n, a, b, d, t, h1, h2, h3, h4, h5, h6⟩
theorem Rel_close {σ τ : Mem} {k n a b d t : Nat} (h1 : Rest σ τ k n) (h2 : FI n a b d t (τ 3)) (h3 : VR σ 42 (τ 1) k n a (τ 3)) (h4 : LR σ 53 b (τ 3)) (h5 : CR σ 62 d (τ 3)) (h6 : WR σ 69 t (τ 3)) : Rel σ τ :=
  ⟨k, n, h1, a, b, d, t, h2, h3, h4, h5, h6⟩
theorem sim30 : Sim30 Rel := by
  intro σ τ hR
  replace hR := Rel_0 hR 0
  unfold fX12_openingCount
  generalize up τ 0 0 (0 : Int32) = τ at *
  obtain ⟨k, n, a, b, d, t, hr, hF, hV, hL, hC, hW⟩ := Rel_open hR
  refine ⟨ι (cf (pB (τ 3)) 0 n + 1), τ, ?_, ?_, hR⟩
  · unfold fX11_openingCount
    simp only [Nat.zero_add, c_openings hr.1.2.2.2.2 hV, Option.bind_some]
  · rw [r_openings hr.1 hr.2.1]; rfl
theorem sim32 : Sim32 Rel := by
  intro σ τ hR
  replace hR := Rel_0 hR 0
  unfold fX12_view
  generalize up τ 0 0 (0 : Int32) = τ at *
  obtain ⟨k, n, a, b, d, t, hr, hF, hV, hL, hC, hW⟩ := Rel_open hR
  refine ⟨τ 3 3, τ, ?_, ?_, hR⟩
  · unfold fX11_view fX9_current
    simp only [Nat.zero_add, hW.2.2.1, Option.bind_some]
  · simp (disch := omega) only [l_0, l_1, l_2, l_3, l_4, l_5, l_6, l_7, l_8, l_9, l_10, l_12, l_13, l_24, l_31, l_32, l_40, l_41, l_42, l_44, l_45, l_48, l_49, l_50, l_57, l_59, l_60, l_65, l_88, l_89, l_97, l_98, l_99, l_100, l_105, l_108, l_109, l_114, l_118, l_120, l_122, l_144, l_255, l_269, l_279, l_339, l_400, l_600, l_999, l_1000, l_2373, l_2712, ι_lt, ι_le, ι_eq, ι_add, ι_mul, ι_sub, ι_div, ι_n, ι_m1, m1_ι, m1_lt, m1_le, lt_m1, le_m1, m1_lt_m1, m1_le_m1, m1_add1, neg_ι1, ι_addm, ι_addn, Bool.false_eq_true, Nat.not_lt_zero, Nat.add_zero, Nat.zero_add, Nat.mul_zero, Nat.reduceMul, Nat.reduceAdd, Nat.reduceSub, Nat.reduceLT, Nat.reduceLeDiff, Nat.reduceEqDiff, Nat.reduceDiv, Nat.reduceBEq, Nat.reduceBNe, false_or, or_false, true_or, or_true, and_true, true_and, false_and, and_false, not_false_eq_true, not_true_eq_false, if_true, if_false, if_pos, if_neg, Option.bind_some, ite_false, ite_true, eq_self, reduceIte, lm_0, lm_1, lm_2, lm_3, lm_4, lm_5, lm_6, lm_7, lm_8, lm_9, lm_10, lm_11, lm_12, lm_13, lm_14, lm_15, lm_16, lm_17]
theorem sim33 : Sim33 Rel := by
  intro σ τ hR
  replace hR := Rel_0 hR 0
  unfold fX12_trailLength
  generalize up τ 0 0 (0 : Int32) = τ at *
  obtain ⟨k, n, a, b, d, t, hr, hF, hV, hL, hC, hW⟩ := Rel_open hR
  refine ⟨ι t, τ, ?_, ?_, hR⟩
  · unfold fX11_trailLength fX9_trailSize
    simp only [Nat.zero_add, hW.2.1, Option.bind_some]
  · simp (disch := omega) only [l_0, l_1, l_2, l_3, l_4, l_5, l_6, l_7, l_8, l_9, l_10, l_12, l_13, l_24, l_31, l_32, l_40, l_41, l_42, l_44, l_45, l_48, l_49, l_50, l_57, l_59, l_60, l_65, l_88, l_89, l_97, l_98, l_99, l_100, l_105, l_108, l_109, l_114, l_118, l_120, l_122, l_144, l_255, l_269, l_279, l_339, l_400, l_600, l_999, l_1000, l_2373, l_2712, ι_lt, ι_le, ι_eq, ι_add, ι_mul, ι_sub, ι_div, ι_n, ι_m1, m1_ι, m1_lt, m1_le, lt_m1, le_m1, m1_lt_m1, m1_le_m1, m1_add1, neg_ι1, ι_addm, ι_addn, Bool.false_eq_true, Nat.not_lt_zero, Nat.add_zero, Nat.zero_add, Nat.mul_zero, Nat.reduceMul, Nat.reduceAdd, Nat.reduceSub, Nat.reduceLT, Nat.reduceLeDiff, Nat.reduceEqDiff, Nat.reduceDiv, Nat.reduceBEq, Nat.reduceBNe, false_or, or_false, true_or, or_true, and_true, true_and, false_and, and_false, not_false_eq_true, not_true_eq_false, if_true, if_false, if_pos, if_neg, Option.bind_some, ite_false, ite_true, eq_self, reduceIte, lm_0, lm_1, lm_2, lm_3, lm_4, lm_5, lm_6, lm_7, lm_8, lm_9, lm_10, lm_11, lm_12, lm_13, lm_14, lm_15, lm_16, lm_17, hF.2.2.2.2.2.2.2.2.2.1]
theorem sim34 : Sim34 Rel := by
  intro σ τ hR
  replace hR := Rel_0 hR 0
  unfold fX12_scanCount
  generalize up τ 0 0 (0 : Int32) = τ at *
  obtain ⟨k, n, a, b, d, t, hr, hF, hV, hL, hC, hW⟩ := Rel_open hR
  refine ⟨ι d, τ, ?_, ?_, hR⟩
  · unfold fX11_scanCount fX5_size
    simp only [Nat.zero_add, hC.2.1, Option.bind_some]
  · simp (disch := omega) only [l_0, l_1, l_2, l_3, l_4, l_5, l_6, l_7, l_8, l_9, l_10, l_12, l_13, l_24, l_31, l_32, l_40, l_41, l_42, l_44, l_45, l_48, l_49, l_50, l_57, l_59, l_60, l_65, l_88, l_89, l_97, l_98, l_99, l_100, l_105, l_108, l_109, l_114, l_118, l_120, l_122, l_144, l_255, l_269, l_279, l_339, l_400, l_600, l_999, l_1000, l_2373, l_2712, ι_lt, ι_le, ι_eq, ι_add, ι_mul, ι_sub, ι_div, ι_n, ι_m1, m1_ι, m1_lt, m1_le, lt_m1, le_m1, m1_lt_m1, m1_le_m1, m1_add1, neg_ι1, ι_addm, ι_addn, Bool.false_eq_true, Nat.not_lt_zero, Nat.add_zero, Nat.zero_add, Nat.mul_zero, Nat.reduceMul, Nat.reduceAdd, Nat.reduceSub, Nat.reduceLT, Nat.reduceLeDiff, Nat.reduceEqDiff, Nat.reduceDiv, Nat.reduceBEq, Nat.reduceBNe, false_or, or_false, true_or, or_true, and_true, true_and, false_and, and_false, not_false_eq_true, not_true_eq_false, if_true, if_false, if_pos, if_neg, Option.bind_some, ite_false, ite_true, eq_self, reduceIte, lm_0, lm_1, lm_2, lm_3, lm_4, lm_5, lm_6, lm_7, lm_8, lm_9, lm_10, lm_11, lm_12, lm_13, lm_14, lm_15, lm_16, lm_17, hF.2.2.2.2.2.2.1]
theorem sim18 : Sim18 Rel := by
  intro σ τ x1 hR
  replace hR := Rel_0 hR 0
  unfold fX12_volume
  have h00 : up τ 0 0 0 0 0 = 0 := up_e _ _ _ _
  generalize up τ 0 0 (0 : Int32) = τ at *
  obtain ⟨k, n, a, b, d, t, hr, hF, hV, hL, hC, hW⟩ := Rel_open hR
  have hn := hr.1.2.2.2.2
  unfold fX11_volume fX10_quireCount fX10_leafCount fX10_slipCount fX1_size
  simp only [Nat.zero_add, c_presentCount hn hV, c_attached hF.2.1 hV, r_leaves hr.1 hr.2.1, r_present hr.1 hr.2.1, r_attached hF.1 hF.2.1, Option.bind_some, hV.2.1, hV.2.2.1, hV.2.2.2.1, hL.2.1, hr.2.1, ref_fails]
  have e0 : ¬ ((0 : Int32) < 0 ∨ lm 3 ≤ (0 : Int32).toNatClampNeg) := by decide
  have e1 : ¬ ((1 : Int32) < 0 ∨ lm 3 ≤ (1 : Int32).toNatClampNeg) := by decide
  have f0 : τ 3 (0 : Int32).toNatClampNeg = ι a := hF.1
  have f1 : τ 3 (1 : Int32).toNatClampNeg = ι b := hF.2.2.2.1
  rw [if_neg e0, if_neg e1, f0, f1]
  by_cases h0 : x1 = 0
  · rw [if_pos h0, if_pos h0]
    exact ⟨_, _, 0, rfl, rfl, Or.inl ⟨_, rfl, rfl⟩, fun v hv => (by cases hv; rfl), h00, hR⟩
  rw [if_neg h0, if_neg h0]
  by_cases h0 : x1 = 1
  · rw [if_pos h0, if_pos h0]
    exact ⟨_, _, 0, rfl, rfl, Or.inl ⟨_, rfl, rfl⟩, fun v hv => (by cases hv; rfl), h00, hR⟩
  rw [if_neg h0, if_neg h0]
  by_cases h0 : x1 = 2
  · rw [if_pos h0, if_pos h0]
    exact ⟨_, _, 0, rfl, rfl, Or.inl ⟨_, rfl, rfl⟩, fun v hv => (by cases hv; rfl), h00, hR⟩
  rw [if_neg h0, if_neg h0]
  by_cases h0 : x1 = 3
  · rw [if_pos h0, if_pos h0]
    exact ⟨_, _, 0, rfl, rfl, Or.inl ⟨_, rfl, rfl⟩, fun v hv => (by cases hv; rfl), h00, hR⟩
  rw [if_neg h0, if_neg h0]
  by_cases h0 : x1 = 4
  · rw [if_pos h0, if_pos h0]
    exact ⟨_, _, 0, rfl, rfl, Or.inl ⟨_, rfl, rfl⟩, fun v hv => (by cases hv; rfl), h00, hR⟩
  rw [if_neg h0, if_neg h0]
  by_cases h0 : x1 = 5
  · rw [if_pos h0, if_pos h0]
    exact ⟨_, _, 0, rfl, rfl, Or.inl ⟨_, rfl, rfl⟩, fun v hv => (by cases hv; rfl), h00, hR⟩
  rw [if_neg h0, if_neg h0]
  exact ⟨_, _, 1, rfl, rfl, Or.inr ⟨rfl, rfl⟩, fun v hv => (by cases hv), z_bad, Rel_0 hR _⟩
theorem c_reqLeaf {σ : Mem} {k n a : Nat} {q F : Nat → Int32} (hn : n ≤ 60) (hV : VR σ 42 q k n a F) {i : Nat} (hi : i < n) : fX11_requireLeaf 0 (ι i) σ = some (.inr 0, σ) := by
  unfold fX11_requireLeaf
  rw [Nat.zero_add, c_hasLeaf hn hV (by omega), if_pos hi, Option.bind_some, l_0]
  simp (disch := omega) only [l_0, l_1, l_2, l_3, l_4, l_5, l_6, l_7, l_8, l_9, l_10, l_12, l_13, l_24, l_31, l_32, l_40, l_41, l_42, l_44, l_45, l_48, l_49, l_50, l_57, l_59, l_60, l_65, l_88, l_89, l_97, l_98, l_99, l_100, l_105, l_108, l_109, l_114, l_118, l_120, l_122, l_144, l_255, l_269, l_279, l_339, l_400, l_600, l_999, l_1000, l_2373, l_2712, ι_lt, ι_le, ι_eq, ι_add, ι_mul, ι_sub, ι_div, ι_n, ι_m1, m1_ι, m1_lt, m1_le, lt_m1, le_m1, m1_lt_m1, m1_le_m1, m1_add1, neg_ι1, ι_addm, ι_addn, Bool.false_eq_true, Nat.not_lt_zero, Nat.add_zero, Nat.zero_add, Nat.mul_zero, Nat.reduceMul, Nat.reduceAdd, Nat.reduceSub, Nat.reduceLT, Nat.reduceLeDiff, Nat.reduceEqDiff, Nat.reduceDiv, Nat.reduceBEq, Nat.reduceBNe, false_or, or_false, true_or, or_true, and_true, true_and, false_and, and_false, not_false_eq_true, not_true_eq_false, if_true, if_false, if_pos, if_neg, Option.bind_some, ite_false, ite_true, eq_self, reduceIte]
theorem c_reqLeaf_no {σ : Mem} {k n a : Nat} {q F : Nat → Int32} (hn : n ≤ 60) (hV : VR σ 42 q k n a F) {x : Int32} (hx : ∀ i, i < n → x ≠ ι i) : fX11_requireLeaf 0 x σ = some (.inl 2, σ) := by
  unfold fX11_requireLeaf
  rw [Nat.zero_add]
  rcases ι_cases x with h | ⟨i, h1, h2⟩
  · rw [c_hasLeaf_neg h, Option.bind_some, l_0, if_pos rfl]
  · subst h2
    rw [c_hasLeaf hn hV h1, if_neg (fun z => hx i z rfl), Option.bind_some, l_0, if_pos rfl]
theorem leaf_cases (x : Int32) (n : Nat) : (∃ i, i < n ∧ x = ι i) ∨ (∀ i, i < n → x ≠ ι i) := by
  by_cases h : ∃ i, i < n ∧ x = ι i
  · exact Or.inl h
  · exact Or.inr fun i hi z => h ⟨i, hi, z⟩
theorem r_isLeaf_no {τ : Mem} {k n : Nat} (hQ : QI (τ 1) k n) (h3 : τ 0 3 = ι k) {x : Int32} (hx : ∀ i, i < n → x ≠ ι i) : fX12_isLeaf x τ = some (ι 0) := by
  rcases ι_cases x with h | ⟨i, h1, h2⟩
  · exact r_isLeaf_neg hQ h3 h
  · subst h2
    rw [r_isLeaf hQ h3 h1, if_neg (fun z => hx i z rfl)]
def qP (q : Nat → Int32) (x j : Nat) : Bool := decide (x < sm (qN q) 0 (j + 1))
theorem c_qo_l {σ : Mem} {v k n a : Nat} {q F : Nat → Int32} (hQ : QI q k n) (hV : VR σ v q k n a F) {x : Nat} (hx : x < 60) : ∀ m n' i, i + m = k → m < n' → (fX10_quireOf_l4 v (ι x) n' (ι (sm (qN q) 0 i)) (ι i) σ).bind (fun q4 => match q4 with | .inl r => some r | .inr q4 => some (-1 : Int32)) = some (oi (ff (qP q x) i m)) := by
  obtain ⟨q1, q2, q3, q4, q5⟩ := hQ
  intro m
  induction m with
  | zero =>
    intro n' i h hn'
    obtain ⟨n', rfl⟩ : ∃ k, n' = k + 1 := ⟨n' - 1, by omega⟩
    rw [fX10_quireOf_l4]
    simp (disch := omega) only [l_0, l_1, l_2, l_3, l_4, l_5, l_6, l_7, l_8, l_9, l_10, l_12, l_13, l_24, l_31, l_32, l_40, l_41, l_42, l_44, l_45, l_48, l_49, l_50, l_57, l_59, l_60, l_65, l_88, l_89, l_97, l_98, l_99, l_100, l_105, l_108, l_109, l_114, l_118, l_120, l_122, l_144, l_255, l_269, l_279, l_339, l_400, l_600, l_999, l_1000, l_2373, l_2712, ι_lt, ι_le, ι_eq, ι_add, ι_mul, ι_sub, ι_div, ι_n, ι_m1, m1_ι, m1_lt, m1_le, lt_m1, le_m1, m1_lt_m1, m1_le_m1, m1_add1, neg_ι1, ι_addm, ι_addn, Bool.false_eq_true, Nat.not_lt_zero, Nat.add_zero, Nat.zero_add, Nat.mul_zero, Nat.reduceMul, Nat.reduceAdd, Nat.reduceSub, Nat.reduceLT, Nat.reduceLeDiff, Nat.reduceEqDiff, Nat.reduceDiv, Nat.reduceBEq, Nat.reduceBNe, false_or, or_false, true_or, or_true, and_true, true_and, false_and, and_false, not_false_eq_true, not_true_eq_false, if_true, if_false, if_pos, if_neg, Option.bind_some, ite_false, ite_true, eq_self, reduceIte, ff, oi, hV.2.1]
  | succ m ih =>
    intro n' i h hn'
    obtain ⟨n', rfl⟩ : ∃ k, n' = k + 1 := ⟨n' - 1, by omega⟩
    have hl := sm_last (qN q) i 0
    rw [Nat.zero_add] at hl
    have hq := q3 i (by omega)
    have hb : sm (qN q) 0 i ≤ 12 * i := by
      have : ∀ j, j ≤ k → sm (qN q) 0 j ≤ 12 * j := fun j => by
        induction j with
        | zero => intro _; simp [sm]
        | succ j ihj =>
          intro hj
          have := sm_last (qN q) j 0
          rw [Nat.zero_add] at this
          have h1 := ihj (by omega)
          have h2 := (q3 j (by omega)).2.2
          omega
      exact this i (by omega)
    rw [fX10_quireOf_l4, c_at hV.1.1 (by omega) (by omega), hV.2.2.2.2.1 i (by omega), hq.1]
    by_cases hp : x < sm (qN q) 0 (i + 1)
    · simp (disch := omega) only [l_0, l_1, l_2, l_3, l_4, l_5, l_6, l_7, l_8, l_9, l_10, l_12, l_13, l_24, l_31, l_32, l_40, l_41, l_42, l_44, l_45, l_48, l_49, l_50, l_57, l_59, l_60, l_65, l_88, l_89, l_97, l_98, l_99, l_100, l_105, l_108, l_109, l_114, l_118, l_120, l_122, l_144, l_255, l_269, l_279, l_339, l_400, l_600, l_999, l_1000, l_2373, l_2712, ι_lt, ι_le, ι_eq, ι_add, ι_mul, ι_sub, ι_div, ι_n, ι_m1, m1_ι, m1_lt, m1_le, lt_m1, le_m1, m1_lt_m1, m1_le_m1, m1_add1, neg_ι1, ι_addm, ι_addn, Bool.false_eq_true, Nat.not_lt_zero, Nat.add_zero, Nat.zero_add, Nat.mul_zero, Nat.reduceMul, Nat.reduceAdd, Nat.reduceSub, Nat.reduceLT, Nat.reduceLeDiff, Nat.reduceEqDiff, Nat.reduceDiv, Nat.reduceBEq, Nat.reduceBNe, false_or, or_false, true_or, or_true, and_true, true_and, false_and, and_false, not_false_eq_true, not_true_eq_false, if_true, if_false, if_pos, if_neg, Option.bind_some, ite_false, ite_true, eq_self, reduceIte, hV.2.1, ff, qP, hp, decide_true, oi]
    · simp (disch := omega) only [l_0, l_1, l_2, l_3, l_4, l_5, l_6, l_7, l_8, l_9, l_10, l_12, l_13, l_24, l_31, l_32, l_40, l_41, l_42, l_44, l_45, l_48, l_49, l_50, l_57, l_59, l_60, l_65, l_88, l_89, l_97, l_98, l_99, l_100, l_105, l_108, l_109, l_114, l_118, l_120, l_122, l_144, l_255, l_269, l_279, l_339, l_400, l_600, l_999, l_1000, l_2373, l_2712, ι_lt, ι_le, ι_eq, ι_add, ι_mul, ι_sub, ι_div, ι_n, ι_m1, m1_ι, m1_lt, m1_le, lt_m1, le_m1, m1_lt_m1, m1_le_m1, m1_add1, neg_ι1, ι_addm, ι_addn, Bool.false_eq_true, Nat.not_lt_zero, Nat.add_zero, Nat.zero_add, Nat.mul_zero, Nat.reduceMul, Nat.reduceAdd, Nat.reduceSub, Nat.reduceLT, Nat.reduceLeDiff, Nat.reduceEqDiff, Nat.reduceDiv, Nat.reduceBEq, Nat.reduceBNe, false_or, or_false, true_or, or_true, and_true, true_and, false_and, and_false, not_false_eq_true, not_true_eq_false, if_true, if_false, if_pos, if_neg, Option.bind_some, ite_false, ite_true, eq_self, reduceIte, hV.2.1, ff, qP, hp, decide_false]
      rw [← hl]
      exact ih _ _ (by omega) (by omega)
theorem c_quireOf {σ : Mem} {v k n a : Nat} {q F : Nat → Int32} (hQ : QI q k n) (hV : VR σ v q k n a F) {x : Nat} (hx : x < 60) : fX10_quireOf v (ι x) σ = some (oi (ff (qP q x) 0 k)) := by
  unfold fX10_quireOf
  have q2 := hQ.2.1
  rw [l_0]
  exact c_qo_l hQ hV hx k FU 0 (by omega) (by unfold FU; omega)
theorem r_qo_l {τ : Mem} {k n : Nat} (hQ : QI (τ 1) k n) {x : Nat} (hx : x < n) : ∀ m n' i, i + m = k → 0 < m → m < n' → ∃ j z, ff (qP (τ 1) x) i m = some j ∧ fX12_quireOf_l9 (ι x) n' (ι i) (ι (sm (qN (τ 1)) 0 (i + 1))) τ = some (ι j, z) := by
  obtain ⟨q1, q2, q3, q4, q5⟩ := hQ
  have hb : ∀ j, j ≤ k → sm (qN (τ 1)) 0 j ≤ 12 * j := fun j => by
    induction j with
    | zero => intro _; simp [sm]
    | succ j ihj =>
      intro hj
      have := sm_last (qN (τ 1)) j 0
      rw [Nat.zero_add] at this
      have h1 := ihj (by omega)
      have h2 := (q3 j (by omega)).2.2
      omega
  intro m
  induction m with
  | zero => intro n' i h h0; omega
  | succ m ih =>
    intro n' i h h0 hn'
    obtain ⟨n', rfl⟩ : ∃ k, n' = k + 1 := ⟨n' - 1, by omega⟩
    have hb1 := hb (i + 1) (by omega)
    rw [fX12_quireOf_l9]
    by_cases hp : x < sm (qN (τ 1)) 0 (i + 1)
    · refine ⟨i, ι (sm (qN (τ 1)) 0 (i + 1)), ?_, ?_⟩
      · simp only [ff, qP, hp, decide_true, if_true]
      · simp (disch := omega) only [l_0, l_1, l_2, l_3, l_4, l_5, l_6, l_7, l_8, l_9, l_10, l_12, l_13, l_24, l_31, l_32, l_40, l_41, l_42, l_44, l_45, l_48, l_49, l_50, l_57, l_59, l_60, l_65, l_88, l_89, l_97, l_98, l_99, l_100, l_105, l_108, l_109, l_114, l_118, l_120, l_122, l_144, l_255, l_269, l_279, l_339, l_400, l_600, l_999, l_1000, l_2373, l_2712, ι_lt, ι_le, ι_eq, ι_add, ι_mul, ι_sub, ι_div, ι_n, ι_m1, m1_ι, m1_lt, m1_le, lt_m1, le_m1, m1_lt_m1, m1_le_m1, m1_add1, neg_ι1, ι_addm, ι_addn, Bool.false_eq_true, Nat.not_lt_zero, Nat.add_zero, Nat.zero_add, Nat.mul_zero, Nat.reduceMul, Nat.reduceAdd, Nat.reduceSub, Nat.reduceLT, Nat.reduceLeDiff, Nat.reduceEqDiff, Nat.reduceDiv, Nat.reduceBEq, Nat.reduceBNe, false_or, or_false, true_or, or_true, and_true, true_and, false_and, and_false, not_false_eq_true, not_true_eq_false, if_true, if_false, if_pos, if_neg, Option.bind_some, ite_false, ite_true, eq_self, reduceIte]
    · have hm : 0 < m := by
        rcases Nat.eq_zero_or_pos m with z | z
        · subst z
          have : i + 1 = k := by omega
          rw [this, q4] at hp
          omega
        · exact z
      obtain ⟨j, z, e1, e2⟩ := ih n' (i + 1) (by omega) hm (by omega)
      refine ⟨j, z, ?_, ?_⟩
      · simp only [ff, qP, hp, decide_false, Bool.false_eq_true, if_false]; exact e1
      · have hl := sm_last (qN (τ 1)) (i + 1) 0
        rw [Nat.zero_add] at hl
        simp (disch := omega) only [l_0, l_1, l_2, l_3, l_4, l_5, l_6, l_7, l_8, l_9, l_10, l_12, l_13, l_24, l_31, l_32, l_40, l_41, l_42, l_44, l_45, l_48, l_49, l_50, l_57, l_59, l_60, l_65, l_88, l_89, l_97, l_98, l_99, l_100, l_105, l_108, l_109, l_114, l_118, l_120, l_122, l_144, l_255, l_269, l_279, l_339, l_400, l_600, l_999, l_1000, l_2373, l_2712, ι_lt, ι_le, ι_eq, ι_add, ι_mul, ι_sub, ι_div, ι_n, ι_m1, m1_ι, m1_lt, m1_le, lt_m1, le_m1, m1_lt_m1, m1_le_m1, m1_add1, neg_ι1, ι_addm, ι_addn, Bool.false_eq_true, Nat.not_lt_zero, Nat.add_zero, Nat.zero_add, Nat.mul_zero, Nat.reduceMul, Nat.reduceAdd, Nat.reduceSub, Nat.reduceLT, Nat.reduceLeDiff, Nat.reduceEqDiff, Nat.reduceDiv, Nat.reduceBEq, Nat.reduceBNe, false_or, or_false, true_or, or_true, and_true, true_and, false_and, and_false, not_false_eq_true, not_true_eq_false, if_true, if_false, if_pos, if_neg, Option.bind_some, ite_false, ite_true, eq_self, reduceIte, lm_0, lm_1, lm_2, lm_3, lm_4, lm_5, lm_6, lm_7, lm_8, lm_9, lm_10, lm_11, lm_12, lm_13, lm_14, lm_15, lm_16, lm_17, (q3 (i + 1) (by omega)).1]
        rw [← hl]; exact e2
theorem r_quireOf {τ : Mem} {k n : Nat} (hQ : QI (τ 1) k n) {x : Nat} (hx : x < n) : ∃ j, ff (qP (τ 1) x) 0 k = some j ∧ fX12_quireOf (ι x) τ = some (ι j) := by
  have q2 := hQ.2.1
  have q1 := hQ.1
  obtain ⟨j, z, e1, e2⟩ := r_qo_l hQ hx k FU 0 (by omega) (by omega) (by unfold FU; omega)
  refine ⟨j, e1, ?_⟩
  unfold fX12_quireOf
  have ez : ¬ ((0 : Int32) < 0 ∨ lm 1 ≤ (0 : Int32).toNatClampNeg) := by decide
  have e3 : τ 1 (0 : Int32).toNatClampNeg = ι (sm (qN (τ 1)) 0 (0 + 1)) := by
    have := (hQ.2.2.1 0 (by omega)).1
    show τ 1 0 = _
    simp only [sm, Nat.add_zero]
    exact this
  rw [if_neg ez, e3, l_0, e2]; rfl
theorem r_fo_l {τ : Mem} {k n : Nat} (hQ : QI (τ 1) k n) {e : Nat} (he : e ≤ k) : ∀ m n i c, i + m = e → m < n → fX12_firstOf_l4 (ι e) n (ι c) (ι i) τ = some (ι (c + sm (qN (τ 1)) i m), ι e) := by
  obtain ⟨q1, q2, q3, q4, q5⟩ := hQ
  intro m
  induction m with
  | zero =>
    intro n i c h hn
    obtain ⟨n, rfl⟩ : ∃ k, n = k + 1 := ⟨n - 1, by omega⟩
    rw [fX12_firstOf_l4]
    simp (disch := omega) only [l_0, l_1, l_2, l_3, l_4, l_5, l_6, l_7, l_8, l_9, l_10, l_12, l_13, l_24, l_31, l_32, l_40, l_41, l_42, l_44, l_45, l_48, l_49, l_50, l_57, l_59, l_60, l_65, l_88, l_89, l_97, l_98, l_99, l_100, l_105, l_108, l_109, l_114, l_118, l_120, l_122, l_144, l_255, l_269, l_279, l_339, l_400, l_600, l_999, l_1000, l_2373, l_2712, ι_lt, ι_le, ι_eq, ι_add, ι_mul, ι_sub, ι_div, ι_n, ι_m1, m1_ι, m1_lt, m1_le, lt_m1, le_m1, m1_lt_m1, m1_le_m1, m1_add1, neg_ι1, ι_addm, ι_addn, Bool.false_eq_true, Nat.not_lt_zero, Nat.add_zero, Nat.zero_add, Nat.mul_zero, Nat.reduceMul, Nat.reduceAdd, Nat.reduceSub, Nat.reduceLT, Nat.reduceLeDiff, Nat.reduceEqDiff, Nat.reduceDiv, Nat.reduceBEq, Nat.reduceBNe, false_or, or_false, true_or, or_true, and_true, true_and, false_and, and_false, not_false_eq_true, not_true_eq_false, if_true, if_false, if_pos, if_neg, Option.bind_some, ite_false, ite_true, eq_self, reduceIte, sm]
    have e : i = e := by omega
    rw [e]
  | succ m ih =>
    intro n i c h hn
    obtain ⟨n, rfl⟩ : ∃ k, n = k + 1 := ⟨n - 1, by omega⟩
    rw [fX12_firstOf_l4]
    simp (disch := omega) only [l_0, l_1, l_2, l_3, l_4, l_5, l_6, l_7, l_8, l_9, l_10, l_12, l_13, l_24, l_31, l_32, l_40, l_41, l_42, l_44, l_45, l_48, l_49, l_50, l_57, l_59, l_60, l_65, l_88, l_89, l_97, l_98, l_99, l_100, l_105, l_108, l_109, l_114, l_118, l_120, l_122, l_144, l_255, l_269, l_279, l_339, l_400, l_600, l_999, l_1000, l_2373, l_2712, ι_lt, ι_le, ι_eq, ι_add, ι_mul, ι_sub, ι_div, ι_n, ι_m1, m1_ι, m1_lt, m1_le, lt_m1, le_m1, m1_lt_m1, m1_le_m1, m1_add1, neg_ι1, ι_addm, ι_addn, Bool.false_eq_true, Nat.not_lt_zero, Nat.add_zero, Nat.zero_add, Nat.mul_zero, Nat.reduceMul, Nat.reduceAdd, Nat.reduceSub, Nat.reduceLT, Nat.reduceLeDiff, Nat.reduceEqDiff, Nat.reduceDiv, Nat.reduceBEq, Nat.reduceBNe, false_or, or_false, true_or, or_true, and_true, true_and, false_and, and_false, not_false_eq_true, not_true_eq_false, if_true, if_false, if_pos, if_neg, Option.bind_some, ite_false, ite_true, eq_self, reduceIte, lm_0, lm_1, lm_2, lm_3, lm_4, lm_5, lm_6, lm_7, lm_8, lm_9, lm_10, lm_11, lm_12, lm_13, lm_14, lm_15, lm_16, lm_17, sm, (q3 i (by omega)).1]
    rw [ih _ _ _ (by omega) (by omega)]
    congr 3; omega
theorem r_firstOf {τ : Mem} {k n : Nat} (hQ : QI (τ 1) k n) {e : Nat} (he : e ≤ k) : fX12_firstOf (ι e) τ = some (ι (sm (qN (τ 1)) 0 e)) := by
  have q2 := hQ.2.1
  unfold fX12_firstOf
  rw [l_0, r_fo_l hQ he e FU 0 0 (by omega) (by unfold FU; omega), Option.bind_some, Nat.zero_add]
theorem c_fo_l {σ : Mem} {v k n a : Nat} {q F : Nat → Int32} (hQ : QI q k n) (hV : VR σ v q k n a F) {e : Nat} (he : e ≤ k) : ∀ m n i c, i + m = e → m < n → fX10_firstLeafOf_l4 v (ι e) n (ι c) (ι i) σ = some (ι (c + sm (qN q) i m), ι e) := by
  obtain ⟨q1, q2, q3, q4, q5⟩ := hQ
  intro m
  induction m with
  | zero =>
    intro n i c h hn
    obtain ⟨n, rfl⟩ : ∃ k, n = k + 1 := ⟨n - 1, by omega⟩
    rw [fX10_firstLeafOf_l4]
    simp (disch := omega) only [l_0, l_1, l_2, l_3, l_4, l_5, l_6, l_7, l_8, l_9, l_10, l_12, l_13, l_24, l_31, l_32, l_40, l_41, l_42, l_44, l_45, l_48, l_49, l_50, l_57, l_59, l_60, l_65, l_88, l_89, l_97, l_98, l_99, l_100, l_105, l_108, l_109, l_114, l_118, l_120, l_122, l_144, l_255, l_269, l_279, l_339, l_400, l_600, l_999, l_1000, l_2373, l_2712, ι_lt, ι_le, ι_eq, ι_add, ι_mul, ι_sub, ι_div, ι_n, ι_m1, m1_ι, m1_lt, m1_le, lt_m1, le_m1, m1_lt_m1, m1_le_m1, m1_add1, neg_ι1, ι_addm, ι_addn, Bool.false_eq_true, Nat.not_lt_zero, Nat.add_zero, Nat.zero_add, Nat.mul_zero, Nat.reduceMul, Nat.reduceAdd, Nat.reduceSub, Nat.reduceLT, Nat.reduceLeDiff, Nat.reduceEqDiff, Nat.reduceDiv, Nat.reduceBEq, Nat.reduceBNe, false_or, or_false, true_or, or_true, and_true, true_and, false_and, and_false, not_false_eq_true, not_true_eq_false, if_true, if_false, if_pos, if_neg, Option.bind_some, ite_false, ite_true, eq_self, reduceIte, sm]
    have e : i = e := by omega
    rw [e]
  | succ m ih =>
    intro n i c h hn
    obtain ⟨n, rfl⟩ : ∃ k, n = k + 1 := ⟨n - 1, by omega⟩
    rw [fX10_firstLeafOf_l4]
    rw [c_at hV.1.1 (by omega) (by omega), hV.2.2.2.2.1 i (by omega), (q3 i (by omega)).1]
    simp (disch := omega) only [l_0, l_1, l_2, l_3, l_4, l_5, l_6, l_7, l_8, l_9, l_10, l_12, l_13, l_24, l_31, l_32, l_40, l_41, l_42, l_44, l_45, l_48, l_49, l_50, l_57, l_59, l_60, l_65, l_88, l_89, l_97, l_98, l_99, l_100, l_105, l_108, l_109, l_114, l_118, l_120, l_122, l_144, l_255, l_269, l_279, l_339, l_400, l_600, l_999, l_1000, l_2373, l_2712, ι_lt, ι_le, ι_eq, ι_add, ι_mul, ι_sub, ι_div, ι_n, ι_m1, m1_ι, m1_lt, m1_le, lt_m1, le_m1, m1_lt_m1, m1_le_m1, m1_add1, neg_ι1, ι_addm, ι_addn, Bool.false_eq_true, Nat.not_lt_zero, Nat.add_zero, Nat.zero_add, Nat.mul_zero, Nat.reduceMul, Nat.reduceAdd, Nat.reduceSub, Nat.reduceLT, Nat.reduceLeDiff, Nat.reduceEqDiff, Nat.reduceDiv, Nat.reduceBEq, Nat.reduceBNe, false_or, or_false, true_or, or_true, and_true, true_and, false_and, and_false, not_false_eq_true, not_true_eq_false, if_true, if_false, if_pos, if_neg, Option.bind_some, ite_false, ite_true, eq_self, reduceIte, sm]
    rw [ih _ _ _ (by omega) (by omega)]
    congr 3; omega
theorem c_firstLeafOf {σ : Mem} {v k n a : Nat} {q F : Nat → Int32} (hQ : QI q k n) (hV : VR σ v q k n a F) {e : Nat} (he : e ≤ k) : fX10_firstLeafOf v (ι e) σ = some (ι (sm (qN q) 0 e)) := by
  have q2 := hQ.2.1
  unfold fX10_firstLeafOf
  rw [l_0, c_fo_l hQ hV he e FU 0 0 (by omega) (by unfold FU; omega), Option.bind_some, Nat.zero_add]
theorem sim19 : Sim19 Rel := by
  intro σ τ x1 x2 hR
  replace hR := Rel_0 hR 0
  unfold fX12_leaf fX11_leaf
  have h00 : up τ 0 0 0 0 0 = 0 := up_e _ _ _ _
  generalize up τ 0 0 (0 : Int32) = τ at *
  obtain ⟨k, n, a, b, d, t, hr, hF, hV, hL, hC, hW⟩ := Rel_open hR
  have hn := hr.1.2.2.2.2
  rcases leaf_cases x1 n with ⟨i, hi, rfl⟩ | hx
  · obtain ⟨j, j1, j2⟩ := r_quireOf hr.1 hi
    have j3 := ff_some _ _ j1
    have jq := hr.1.2.2.1 j (by omega)
    have hi' : ι i ≠ μ := fun z => by rw [ι_m1 (by omega)] at z; exact z
    have e3 : fX3_at (42 + 1) (ι j) σ = some (τ 1 j) := by
      rw [c_at hV.1.1 (by omega) (by have := hr.1.2.1; omega), hV.2.2.2.2.1 j (by omega)]
    have ej : ¬ (ι j < 0 ∨ lm 1 ≤ j) := by
      have := hr.1.2.1
      simp (disch := omega) only [l_0, l_1, l_2, l_3, l_4, l_5, l_6, l_7, l_8, l_9, l_10, l_12, l_13, l_24, l_31, l_32, l_40, l_41, l_42, l_44, l_45, l_48, l_49, l_50, l_57, l_59, l_60, l_65, l_88, l_89, l_97, l_98, l_99, l_100, l_105, l_108, l_109, l_114, l_118, l_120, l_122, l_144, l_255, l_269, l_279, l_339, l_400, l_600, l_999, l_1000, l_2373, l_2712, ι_lt, ι_le, ι_eq, ι_add, ι_mul, ι_sub, ι_div, ι_n, ι_m1, m1_ι, m1_lt, m1_le, lt_m1, le_m1, m1_lt_m1, m1_le_m1, m1_add1, neg_ι1, ι_addm, ι_addn, Bool.false_eq_true, Nat.not_lt_zero, Nat.add_zero, Nat.zero_add, Nat.mul_zero, Nat.reduceMul, Nat.reduceAdd, Nat.reduceSub, Nat.reduceLT, Nat.reduceLeDiff, Nat.reduceEqDiff, Nat.reduceDiv, Nat.reduceBEq, Nat.reduceBNe, false_or, or_false, true_or, or_true, and_true, true_and, false_and, and_false, not_false_eq_true, not_true_eq_false, if_true, if_false, if_pos, if_neg, Option.bind_some, ite_false, ite_true, eq_self, reduceIte, lm_0, lm_1, lm_2, lm_3, lm_4, lm_5, lm_6, lm_7, lm_8, lm_9, lm_10, lm_11, lm_12, lm_13, lm_14, lm_15, lm_16, lm_17]; omega
    have ej2 : (ι j).toNatClampNeg = j := ι_n (by have := hr.1.2.1; omega)
    unfold fX10_conjugateOf fX10_indexInQuire
    simp only [c_reqLeaf hn hV hi, r_isLeaf hr.1 hr.2.1 (show i < 2147483648 by omega), if_pos hi, Option.bind_some, j2, r_firstOf hr.1 (show j ≤ k by omega), Nat.zero_add, c_isPresent hn hV hi, r_isPresent (show i < 60 by omega), c_quireOf hr.1 hV (show i < 60 by omega), j1, oi, c_firstLeafOf hr.1 hV (show j ≤ k by omega), c_slipsOn hF.2.1 hV hi', r_allOn hF.1 hF.2.1, ref_fails, e3, if_neg ej, ej2]
    have e10 : ¬ (ι 1 = (0 : Int32)) := by decide
    rw [if_neg e10]
    by_cases h0 : x2 = 0
    · rw [if_pos h0, if_pos h0]
      by_cases hp : pB (τ 3) i = true
      · simp only [if_pos hp, if_neg e10]
        exact ⟨_, _, 0, rfl, rfl, Or.inl ⟨_, rfl, rfl⟩, fun v hv => (by cases hv; rfl), h00, hR⟩
      · simp only [if_neg hp, l_0, if_true]
        exact ⟨_, _, 0, rfl, rfl, Or.inl ⟨_, rfl, rfl⟩, fun v hv => (by cases hv; rfl), h00, hR⟩
    rw [if_neg h0, if_neg h0]
    by_cases h0 : x2 = 1
    · rw [if_pos h0, if_pos h0]
      exact ⟨_, _, 0, rfl, rfl, Or.inl ⟨_, rfl, rfl⟩, fun v hv => (by cases hv; rfl), h00, hR⟩
    rw [if_neg h0, if_neg h0]
    by_cases h0 : x2 = 2
    · rw [if_pos h0, if_pos h0]
      exact ⟨_, _, 0, rfl, rfl, Or.inl ⟨_, rfl, rfl⟩, fun v hv => (by cases hv; rfl), h00, hR⟩
    rw [if_neg h0, if_neg h0]
    by_cases h0 : x2 = 3
    · rw [if_pos h0, if_pos h0]
      exact ⟨_, _, 0, rfl, rfl, Or.inl ⟨_, rfl, rfl⟩, fun v hv => (by cases hv; rfl), h00, hR⟩
    rw [if_neg h0, if_neg h0]
    by_cases h0 : x2 = 4
    · rw [if_pos h0, if_pos h0]
      exact ⟨_, _, 0, rfl, rfl, Or.inl ⟨_, rfl, rfl⟩, fun v hv => (by cases hv; rfl), h00, hR⟩
    rw [if_neg h0, if_neg h0]
    by_cases h0 : x2 = 5
    · rw [if_pos h0, if_pos h0]
      exact ⟨_, _, 0, rfl, rfl, Or.inl ⟨_, rfl, rfl⟩, fun v hv => (by cases hv; rfl), h00, hR⟩
    rw [if_neg h0, if_neg h0]
    exact ⟨_, _, 2, rfl, rfl, Or.inr (Or.inr ⟨rfl, rfl⟩), fun v hv => (by cases hv), z_bad, Rel_0 hR _⟩
  · rw [c_reqLeaf_no hn hV hx, r_isLeaf_no hr.1 hr.2.1 hx]
    simp only [Option.bind_some, l_0, if_true, ref_fails]
    exact ⟨_, _, 1, rfl, rfl, Or.inr (Or.inl ⟨rfl, rfl⟩), fun v hv => (by cases hv), z_bad, Rel_0 hR _⟩
theorem c_reqSlip {σ : Mem} {k n a : Nat} {q F : Nat → Int32} (ha : a ≤ 12) (hV : VR σ 42 q k n a F) {i : Nat} (hi : i < a) : fX11_requireSlip 0 (ι i) σ = some (.inr 0, σ) := by
  unfold fX11_requireSlip fX10_slipCount
  rw [Nat.zero_add, hV.2.2.2.1]
  simp (disch := omega) only [l_0, l_1, l_2, l_3, l_4, l_5, l_6, l_7, l_8, l_9, l_10, l_12, l_13, l_24, l_31, l_32, l_40, l_41, l_42, l_44, l_45, l_48, l_49, l_50, l_57, l_59, l_60, l_65, l_88, l_89, l_97, l_98, l_99, l_100, l_105, l_108, l_109, l_114, l_118, l_120, l_122, l_144, l_255, l_269, l_279, l_339, l_400, l_600, l_999, l_1000, l_2373, l_2712, ι_lt, ι_le, ι_eq, ι_add, ι_mul, ι_sub, ι_div, ι_n, ι_m1, m1_ι, m1_lt, m1_le, lt_m1, le_m1, m1_lt_m1, m1_le_m1, m1_add1, neg_ι1, ι_addm, ι_addn, Bool.false_eq_true, Nat.not_lt_zero, Nat.add_zero, Nat.zero_add, Nat.mul_zero, Nat.reduceMul, Nat.reduceAdd, Nat.reduceSub, Nat.reduceLT, Nat.reduceLeDiff, Nat.reduceEqDiff, Nat.reduceDiv, Nat.reduceBEq, Nat.reduceBNe, false_or, or_false, true_or, or_true, and_true, true_and, false_and, and_false, not_false_eq_true, not_true_eq_false, if_true, if_false, if_pos, if_neg, Option.bind_some, ite_false, ite_true, eq_self, reduceIte]
theorem c_reqSlip_no {σ : Mem} {k n a : Nat} {q F : Nat → Int32} (ha : a ≤ 12) (hV : VR σ 42 q k n a F) {x : Int32} (hx : ∀ i, i < a → x ≠ ι i) : fX11_requireSlip 0 x σ = some (.inl 2, σ) := by
  unfold fX11_requireSlip fX10_slipCount
  rw [Nat.zero_add, hV.2.2.2.1]
  rcases ι_cases x with h | ⟨i, h1, h2⟩
  · simp only [l_0, h, if_true]
  · subst h2
    have : ¬ i < a := fun z => hx i z rfl
    simp (disch := omega) only [l_0, l_1, l_2, l_3, l_4, l_5, l_6, l_7, l_8, l_9, l_10, l_12, l_13, l_24, l_31, l_32, l_40, l_41, l_42, l_44, l_45, l_48, l_49, l_50, l_57, l_59, l_60, l_65, l_88, l_89, l_97, l_98, l_99, l_100, l_105, l_108, l_109, l_114, l_118, l_120, l_122, l_144, l_255, l_269, l_279, l_339, l_400, l_600, l_999, l_1000, l_2373, l_2712, ι_lt, ι_le, ι_eq, ι_add, ι_mul, ι_sub, ι_div, ι_n, ι_m1, m1_ι, m1_lt, m1_le, lt_m1, le_m1, m1_lt_m1, m1_le_m1, m1_add1, neg_ι1, ι_addm, ι_addn, Bool.false_eq_true, Nat.not_lt_zero, Nat.add_zero, Nat.zero_add, Nat.mul_zero, Nat.reduceMul, Nat.reduceAdd, Nat.reduceSub, Nat.reduceLT, Nat.reduceLeDiff, Nat.reduceEqDiff, Nat.reduceDiv, Nat.reduceBEq, Nat.reduceBNe, false_or, or_false, true_or, or_true, and_true, true_and, false_and, and_false, not_false_eq_true, not_true_eq_false, if_true, if_false, if_pos, if_neg, Option.bind_some, ite_false, ite_true, eq_self, reduceIte]
theorem r_isSlip_no {τ : Mem} {a : Nat} (h0 : τ 3 0 = ι a) (ha : a ≤ 12) {x : Int32} (hx : ∀ i, i < a → x ≠ ι i) : fX12_isSlip x τ = some (ι 0) := by
  rcases ι_cases x with h | ⟨i, h1, h2⟩
  · exact r_isSlip_neg h
  · subst h2
    rw [r_isSlip h0 ha h1, if_neg (fun z => hx i z rfl)]
theorem r_inC {τ : Mem} {i c : Nat} (hi : i ≤ c) (hc : c < 2147483648) : fX12_isIn (ι i).toInt64 (0 : Int64) (ι c).toInt64 τ = some (ι 1) := by
  rw [j_0, r_isIn]
  simp (disch := omega) only [l_0, l_1, l_2, l_3, l_4, l_5, l_6, l_7, l_8, l_9, l_10, l_12, l_13, l_24, l_31, l_32, l_40, l_41, l_42, l_44, l_45, l_48, l_49, l_50, l_57, l_59, l_60, l_65, l_88, l_89, l_97, l_98, l_99, l_100, l_105, l_108, l_109, l_114, l_118, l_120, l_122, l_144, l_255, l_269, l_279, l_339, l_400, l_600, l_999, l_1000, l_2373, l_2712, ι_lt, ι_le, ι_eq, ι_add, ι_mul, ι_sub, ι_div, ι_n, ι_m1, m1_ι, m1_lt, m1_le, lt_m1, le_m1, m1_lt_m1, m1_le_m1, m1_add1, neg_ι1, ι_addm, ι_addn, Bool.false_eq_true, Nat.not_lt_zero, Nat.add_zero, Nat.zero_add, Nat.mul_zero, Nat.reduceMul, Nat.reduceAdd, Nat.reduceSub, Nat.reduceLT, Nat.reduceLeDiff, Nat.reduceEqDiff, Nat.reduceDiv, Nat.reduceBEq, Nat.reduceBNe, false_or, or_false, true_or, or_true, and_true, true_and, false_and, and_false, not_false_eq_true, not_true_eq_false, if_true, if_false, if_pos, if_neg, Option.bind_some, ite_false, ite_true, eq_self, reduceIte]
theorem r_inC_no {x : Int32} {τ : Mem} {c : Nat} (hc : c < 2147483648) (hx : ∀ i, i < c + 1 → x ≠ ι i) : fX12_isIn x.toInt64 (0 : Int64) (ι c).toInt64 τ = some (ι 0) := by
  rw [j_0, r_isIn]
  rcases ι_cases x with h | ⟨i, h1, h2⟩
  · rw [if_neg (fun z => by rw [(neg0 h (by omega)).1] at z; exact z.1)]
  · subst h2
    have : ¬ i < c + 1 := fun z => hx i z rfl
    simp (disch := omega) only [l_0, l_1, l_2, l_3, l_4, l_5, l_6, l_7, l_8, l_9, l_10, l_12, l_13, l_24, l_31, l_32, l_40, l_41, l_42, l_44, l_45, l_48, l_49, l_50, l_57, l_59, l_60, l_65, l_88, l_89, l_97, l_98, l_99, l_100, l_105, l_108, l_109, l_114, l_118, l_120, l_122, l_144, l_255, l_269, l_279, l_339, l_400, l_600, l_999, l_1000, l_2373, l_2712, ι_lt, ι_le, ι_eq, ι_add, ι_mul, ι_sub, ι_div, ι_n, ι_m1, m1_ι, m1_lt, m1_le, lt_m1, le_m1, m1_lt_m1, m1_le_m1, m1_add1, neg_ι1, ι_addm, ι_addn, Bool.false_eq_true, Nat.not_lt_zero, Nat.add_zero, Nat.zero_add, Nat.mul_zero, Nat.reduceMul, Nat.reduceAdd, Nat.reduceSub, Nat.reduceLT, Nat.reduceLeDiff, Nat.reduceEqDiff, Nat.reduceDiv, Nat.reduceBEq, Nat.reduceBNe, false_or, or_false, true_or, or_true, and_true, true_and, false_and, and_false, not_false_eq_true, not_true_eq_false, if_true, if_false, if_pos, if_neg, Option.bind_some, ite_false, ite_true, eq_self, reduceIte]
theorem sim20 : Sim20 Rel := by
  intro σ τ x1 x2 hR
  replace hR := Rel_0 hR 0
  unfold fX12_slip fX11_slip
  have h00 : up τ 0 0 0 0 0 = 0 := up_e _ _ _ _
  generalize up τ 0 0 (0 : Int32) = τ at *
  obtain ⟨k, n, a, b, d, t, hr, hF, hV, hL, hC, hW⟩ := Rel_open hR
  have hn := hr.1.2.2.2.2
  have ha := hF.2.1
  rcases leaf_cases x1 a with ⟨i, hi, rfl⟩ | hx
  · unfold fX10_leafOfSlip fX10_sideOfSlip fX10_sidesOfSlip
    have e10 : ¬ (ι 1 = (0 : Int32)) := by decide
    have j2 : (2 : Int64) = (ι 2).toInt64 := rfl
    simp only [c_reqSlip ha hV hi, r_isSlip hF.1 ha (show i < 2147483648 by omega), if_pos hi, Option.bind_some, Nat.zero_add, c_at hV.1.2.2.1 (by omega) (show i < 12 by omega), c_at hV.1.2.2.2.1 (by omega) (show i < 12 by omega), c_at hV.1.2.2.2.2 (by omega) (show i < 12 by omega), hV.2.2.2.2.2.2.1 i hi, hV.2.2.2.2.2.2.2.1 i hi, hV.2.2.2.2.2.2.2.2 i hi, if_neg e10, j2]
    by_cases h0 : x2 = 0
    · rw [if_pos h0, h0, l_0, r_inC (by omega) (by omega), Option.bind_some, if_neg (show ¬ ι 1 = ι 0 from e10), r_ofSlip (by omega) (by omega)]
      exact ⟨_, _, 0, rfl, rfl, Or.inl ⟨_, rfl, rfl⟩, fun v hv => (by cases hv; rfl), h00, hR⟩
    rw [if_neg h0]
    by_cases h1 : x2 = 1
    · rw [if_pos h1, h1, l_1, r_inC (by omega) (by omega), Option.bind_some, if_neg e10, r_ofSlip (by omega) (by omega)]
      exact ⟨_, _, 0, rfl, rfl, Or.inl ⟨_, rfl, rfl⟩, fun v hv => (by cases hv; rfl), h00, hR⟩
    rw [if_neg h1]
    by_cases h2 : x2 = 2
    · rw [if_pos h2, h2, l_2, r_inC (by omega) (by omega), Option.bind_some, if_neg e10, r_ofSlip (by omega) (by omega)]
      exact ⟨_, _, 0, rfl, rfl, Or.inl ⟨_, rfl, rfl⟩, fun v hv => (by cases hv; rfl), h00, hR⟩
    rw [if_neg h2, r_inC_no (by omega)]
    · simp only [l_0, if_true, ref_fails, Option.bind_some]
      exact ⟨_, _, 2, rfl, rfl, Or.inr (Or.inr ⟨rfl, rfl⟩), fun v hv => (by cases hv), z_bad, Rel_0 hR _⟩
    · intro c c1 c2
      have : c = 0 ∨ c = 1 ∨ c = 2 := by omega
      rcases this with z | z | z <;> subst z
      · exact h0 c2
      · exact h1 c2
      · exact h2 c2
  · rw [c_reqSlip_no ha hV hx, r_isSlip_no hF.1 ha hx]
    simp only [Option.bind_some, l_0, if_true, ref_fails]
    exact ⟨_, _, 1, rfl, rfl, Or.inr (Or.inl ⟨rfl, rfl⟩), fun v hv => (by cases hv), z_bad, Rel_0 hR _⟩
