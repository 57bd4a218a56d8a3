/-! PURE PART: the input buffer, formatted bytes -/
theorem IR_c {σ ρ τ υ : Mem} (h : IR σ τ) (a1 : ρ 33 = σ 33) (a2 : ρ 34 = σ 34) (a3 : υ 0 12 = τ 0 12) (a4 : υ 7 = τ 7) : IR ρ υ := by
  unfold IR at *; rw [a1, a2, a3, a4]; exact h
theorem FR_c {σ ρ τ υ : Mem} (h : FR σ τ) (a1 : ρ 35 = σ 35) (a2 : ρ 36 = σ 36) (a3 : υ 0 20 = τ 0 20) (a4 : υ 9 = τ 9) : FR ρ υ := by
  unfold FR at *; rw [a1, a2, a3, a4]; exact h
theorem Tx_c {σ ρ : Mem} {o : Nat} (h : Tx σ o) (a1 : ρ o = σ o) : Tx ρ o := by
  unfold Tx at *; rw [a1]; exact h
theorem Rest_parts {σ ρ τ υ : Mem} {k n : Nat} (h : Rest σ τ k n) (hσ : ∀ j, (j = 0 ∨ (79 ≤ j ∧ j < 360)) → ρ j = σ j) (hτ : ∀ k j, (k = 1 ∨ k = 5 ∨ k = 6 ∨ k = 11 ∨ (k = 0 ∧ (j = 3 ∨ j = 9 ∨ j = 10))) → υ k j = τ k j) (hI : IR ρ υ) (hF : FR ρ υ) (h7 : Tx ρ 37) (h8 : Tx ρ 39) : Rest ρ υ k n := by
  obtain ⟨hQ, r2, ⟨nx, nh, g1, g2, g3, g4, g5, g6⟩, r4, -, -, -, -, r9⟩ := h
  have hn : n ≤ 60 := hQ.2.2.2.2
  have u1 : υ 1 = τ 1 := funext fun j => hτ 1 j (by omega)
  have u6 : υ 6 = τ 6 := funext fun j => hτ 6 j (by omega)
  have u5 : υ 5 = τ 5 := funext fun j => hτ 5 j (by omega)
  have u11 : υ 11 = τ 11 := funext fun j => hτ 11 j (by omega)
  refine ⟨by rw [u1]; exact hQ, by rw [hτ 0 3 (by omega)]; exact r2, ⟨nx, nh, g1, g2, by rw [hσ 79 (by omega)]; exact g3, by rw [hσ 79 (by omega)]; exact g4, by rw [hτ 0 9 (by omega)]; exact g5, fun i hi => ?_⟩, ?_, hI, hF, h7, h8, by unfold Ro; rw [u11]; exact r9⟩
  · rw [u1, u6]
    have := rgi_in nx nh i
    exact CS_c hn (g6 i hi) (fun j h1 h2 => hσ j (by omega)) (fun _ _ => rfl)
  · unfold Sv; rw [hτ 0 10 (by omega), u1, u5, hσ 0 (by omega)]
    rcases r4 with h | ⟨h1, h2, h3⟩
    · exact Or.inl h
    · exact Or.inr ⟨h1, h2, CS_c hn h3 (fun j h1 h2 => hσ j (by omega)) (fun _ _ => rfl)⟩
theorem Rel_parts {σ ρ τ υ : Mem} (h : Rel σ τ) (hσ : ∀ j, (j = 0 ∨ (41 ≤ j ∧ j < 72) ∨ (79 ≤ j ∧ j < 360)) → ρ j = σ j) (hτ : ∀ k j, (k = 1 ∨ k = 3 ∨ k = 5 ∨ k = 6 ∨ k = 11 ∨ (k = 0 ∧ (j = 3 ∨ j = 9 ∨ j = 10))) → υ k j = τ k j) (hI : IR ρ υ) (hF : FR ρ υ) (h7 : Tx ρ 37) (h8 : Tx ρ 39) : Rel ρ υ := by
  obtain ⟨k, n, hr, hC⟩ := h
  have hn : n ≤ 60 := hr.1.2.2.2.2
  have u1 : υ 1 = τ 1 := funext fun j => hτ 1 j (by omega)
  have u3 : υ 3 = τ 3 := funext fun j => hτ 3 j (by omega)
  refine ⟨k, n, Rest_parts hr (fun j hj => hσ j (by omega)) (fun k j hk => hτ k j (by omega)) hI hF h7 h8, ?_⟩
  rw [u1, u3]
  exact CS_c hn hC (fun j h1 h2 => hσ j (by omega)) (fun _ _ => rfl)
theorem ln34 : ln (33 + 1) = 600 := by decide
theorem ln36 : ln (35 + 1) = 236 := by decide
theorem ln38 : ln (37 + 1) = 32 := by decide
theorem ln40 : ln (39 + 1) = 32 := by decide
theorem c_byteAt {σ : Mem} {o L m i : Nat} (hl : ln (o + 1) = L) (hL : L ≤ 600) (hm : m ≤ L) (h1 : σ o 1 = ι m) (hi : i < m) : fX8_byteAt o (ι i) σ = some (σ (o + 1) i) := by
  unfold fX8_byteAt
  rw [hl, h1]
  have e : (Int32.ofNat L) = ι L := rfl
  simp (disch := omega) only [e, l_0, l_1, l_2, l_3, l_4, l_5, l_6, l_7, l_8, l_9, l_10, l_12, l_13, l_24, l_31, l_32, l_40, l_41, l_42, l_44, l_45, l_48, l_49, l_50, l_57, l_59, l_60, l_65, l_88, l_89, l_97, l_98, l_99, l_100, l_105, l_108, l_109, l_114, l_118, l_120, l_122, l_144, l_255, l_269, l_279, l_339, l_400, l_600, l_999, l_1000, l_2373, l_2712, ι_lt, ι_le, ι_eq, ι_add, ι_mul, ι_sub, ι_div, ι_n, ι_m1, m1_ι, m1_lt, m1_le, lt_m1, le_m1, m1_lt_m1, m1_le_m1, m1_add1, neg_ι1, ι_addm, ι_addn, Bool.false_eq_true, Nat.not_lt_zero, Nat.add_zero, Nat.zero_add, Nat.mul_zero, Nat.reduceMul, Nat.reduceAdd, Nat.reduceSub, Nat.reduceLT, Nat.reduceLeDiff, Nat.reduceEqDiff, Nat.reduceDiv, Nat.reduceBEq, Nat.reduceBNe, false_or, or_false, true_or, or_true, and_true, true_and, false_and, and_false, not_false_eq_true, not_true_eq_false, if_true, if_false, if_pos, if_neg, Option.bind_some, ite_false, ite_true, eq_self, reduceIte]
theorem c_byteAt_no {σ : Mem} {o m i : Nat} (hm : m ≤ 600) (h1 : σ o 1 = ι m) (hi : m ≤ i) (hi' : i < 2147483648) : fX8_byteAt o (ι i) σ = some μ := by
  unfold fX8_byteAt
  rw [h1]
  simp (disch := omega) only [l_0, l_1, l_2, l_3, l_4, l_5, l_6, l_7, l_8, l_9, l_10, l_12, l_13, l_24, l_31, l_32, l_40, l_41, l_42, l_44, l_45, l_48, l_49, l_50, l_57, l_59, l_60, l_65, l_88, l_89, l_97, l_98, l_99, l_100, l_105, l_108, l_109, l_114, l_118, l_120, l_122, l_144, l_255, l_269, l_279, l_339, l_400, l_600, l_999, l_1000, l_2373, l_2712, ι_lt, ι_le, ι_eq, ι_add, ι_mul, ι_sub, ι_div, ι_n, ι_m1, m1_ι, m1_lt, m1_le, lt_m1, le_m1, m1_lt_m1, m1_le_m1, m1_add1, neg_ι1, ι_addm, ι_addn, Bool.false_eq_true, Nat.not_lt_zero, Nat.add_zero, Nat.zero_add, Nat.mul_zero, Nat.reduceMul, Nat.reduceAdd, Nat.reduceSub, Nat.reduceLT, Nat.reduceLeDiff, Nat.reduceEqDiff, Nat.reduceDiv, Nat.reduceBEq, Nat.reduceBNe, false_or, or_false, true_or, or_true, and_true, true_and, false_and, and_false, not_false_eq_true, not_true_eq_false, if_true, if_false, if_pos, if_neg, Option.bind_some, ite_false, ite_true, eq_self, reduceIte]
theorem c_tadd {σ : Mem} {o L m : Nat} (hl : ln (o + 1) = L) (hL : L ≤ 600) (hm : m < L) (h1 : σ o 1 = ι m) (x : Int32) : fX8_add o x σ = some (up (up σ (o + 1) m x) o 1 (ι (m + 1))) := by
  unfold fX8_add
  rw [hl, up_k _ _ _ _ _ (show o ≠ o + 1 by omega), h1]
  have e : (Int32.ofNat L) = ι L := rfl
  simp (disch := omega) only [e, l_0, l_1, l_2, l_3, l_4, l_5, l_6, l_7, l_8, l_9, l_10, l_12, l_13, l_24, l_31, l_32, l_40, l_41, l_42, l_44, l_45, l_48, l_49, l_50, l_57, l_59, l_60, l_65, l_88, l_89, l_97, l_98, l_99, l_100, l_105, l_108, l_109, l_114, l_118, l_120, l_122, l_144, l_255, l_269, l_279, l_339, l_400, l_600, l_999, l_1000, l_2373, l_2712, ι_lt, ι_le, ι_eq, ι_add, ι_mul, ι_sub, ι_div, ι_n, ι_m1, m1_ι, m1_lt, m1_le, lt_m1, le_m1, m1_lt_m1, m1_le_m1, m1_add1, neg_ι1, ι_addm, ι_addn, Bool.false_eq_true, Nat.not_lt_zero, Nat.add_zero, Nat.zero_add, Nat.mul_zero, Nat.reduceMul, Nat.reduceAdd, Nat.reduceSub, Nat.reduceLT, Nat.reduceLeDiff, Nat.reduceEqDiff, Nat.reduceDiv, Nat.reduceBEq, Nat.reduceBNe, false_or, or_false, true_or, or_true, and_true, true_and, false_and, and_false, not_false_eq_true, not_true_eq_false, if_true, if_false, if_pos, if_neg, Option.bind_some, ite_false, ite_true, eq_self, reduceIte]
theorem c_short {σ : Mem} {o m i : Nat} (hm : m ≤ 600) (h1 : σ o 1 = ι m) (hi : i ≤ m) : fX8_shortenTo o (ι i) σ = some (up σ o 1 (ι i)) := by
  unfold fX8_shortenTo
  rw [h1]
  by_cases h : m ≤ i
  · have e : i = m := by omega
    subst e
    simp (disch := omega) only [l_0, l_1, l_2, l_3, l_4, l_5, l_6, l_7, l_8, l_9, l_10, l_12, l_13, l_24, l_31, l_32, l_40, l_41, l_42, l_44, l_45, l_48, l_49, l_50, l_57, l_59, l_60, l_65, l_88, l_89, l_97, l_98, l_99, l_100, l_105, l_108, l_109, l_114, l_118, l_120, l_122, l_144, l_255, l_269, l_279, l_339, l_400, l_600, l_999, l_1000, l_2373, l_2712, ι_lt, ι_le, ι_eq, ι_add, ι_mul, ι_sub, ι_div, ι_n, ι_m1, m1_ι, m1_lt, m1_le, lt_m1, le_m1, m1_lt_m1, m1_le_m1, m1_add1, neg_ι1, ι_addm, ι_addn, Bool.false_eq_true, Nat.not_lt_zero, Nat.add_zero, Nat.zero_add, Nat.mul_zero, Nat.reduceMul, Nat.reduceAdd, Nat.reduceSub, Nat.reduceLT, Nat.reduceLeDiff, Nat.reduceEqDiff, Nat.reduceDiv, Nat.reduceBEq, Nat.reduceBNe, false_or, or_false, true_or, or_true, and_true, true_and, false_and, and_false, not_false_eq_true, not_true_eq_false, if_true, if_false, if_pos, if_neg, Option.bind_some, ite_false, ite_true, eq_self, reduceIte, Nat.le_refl]
    rw [← h1, up_self]
  · simp (disch := omega) only [l_0, l_1, l_2, l_3, l_4, l_5, l_6, l_7, l_8, l_9, l_10, l_12, l_13, l_24, l_31, l_32, l_40, l_41, l_42, l_44, l_45, l_48, l_49, l_50, l_57, l_59, l_60, l_65, l_88, l_89, l_97, l_98, l_99, l_100, l_105, l_108, l_109, l_114, l_118, l_120, l_122, l_144, l_255, l_269, l_279, l_339, l_400, l_600, l_999, l_1000, l_2373, l_2712, ι_lt, ι_le, ι_eq, ι_add, ι_mul, ι_sub, ι_div, ι_n, ι_m1, m1_ι, m1_lt, m1_le, lt_m1, le_m1, m1_lt_m1, m1_le_m1, m1_add1, neg_ι1, ι_addm, ι_addn, Bool.false_eq_true, Nat.not_lt_zero, Nat.add_zero, Nat.zero_add, Nat.mul_zero, Nat.reduceMul, Nat.reduceAdd, Nat.reduceSub, Nat.reduceLT, Nat.reduceLeDiff, Nat.reduceEqDiff, Nat.reduceDiv, Nat.reduceBEq, Nat.reduceBNe, false_or, or_false, true_or, or_true, and_true, true_and, false_and, and_false, not_false_eq_true, not_true_eq_false, if_true, if_false, if_pos, if_neg, Option.bind_some, ite_false, ite_true, eq_self, reduceIte]
theorem sim22 : Sim22 Rel := by
  intro σ τ x1 hR
  replace hR := Rel_0 hR 0
  unfold fX12_formattedByte fX11_formattedByte
  have h00 : up τ 0 0 0 0 0 = 0 := up_e _ _ _ _
  generalize up τ 0 0 (0 : Int32) = τ at *
  have hR' := hR
  obtain ⟨k, n, hr, hC⟩ := hR'
  obtain ⟨mf, f1, f2, f3, f4⟩ := hr.2.2.2.2.2.1
  have e10 : ¬ (ι 1 = (0 : Int32)) := by decide
  unfold fX8_size
  simp only [Nat.zero_add, Option.bind_some, f2, f3]
  rcases leaf_cases x1 mf with ⟨i, hi, rfl⟩ | hx
  · rw [r_in0 (by omega) (by omega), if_pos hi, c_byteAt ln36 (by omega) f1 f2 hi, Option.bind_some, Option.bind_some, if_neg e10]
    simp (disch := omega) only [l_0, l_1, l_2, l_3, l_4, l_5, l_6, l_7, l_8, l_9, l_10, l_12, l_13, l_24, l_31, l_32, l_40, l_41, l_42, l_44, l_45, l_48, l_49, l_50, l_57, l_59, l_60, l_65, l_88, l_89, l_97, l_98, l_99, l_100, l_105, l_108, l_109, l_114, l_118, l_120, l_122, l_144, l_255, l_269, l_279, l_339, l_400, l_600, l_999, l_1000, l_2373, l_2712, ι_lt, ι_le, ι_eq, ι_add, ι_mul, ι_sub, ι_div, ι_n, ι_m1, m1_ι, m1_lt, m1_le, lt_m1, le_m1, m1_lt_m1, m1_le_m1, m1_add1, neg_ι1, ι_addm, ι_addn, Bool.false_eq_true, Nat.not_lt_zero, Nat.add_zero, Nat.zero_add, Nat.mul_zero, Nat.reduceMul, Nat.reduceAdd, Nat.reduceSub, Nat.reduceLT, Nat.reduceLeDiff, Nat.reduceEqDiff, Nat.reduceDiv, Nat.reduceBEq, Nat.reduceBNe, false_or, or_false, true_or, or_true, and_true, true_and, false_and, and_false, not_false_eq_true, not_true_eq_false, if_true, if_false, if_pos, if_neg, Option.bind_some, ite_false, ite_true, eq_self, reduceIte, lm_0, lm_1, lm_2, lm_3, lm_4, lm_5, lm_6, lm_7, lm_8, lm_9, lm_10, lm_11, lm_12, lm_13, lm_14, lm_15, lm_16, lm_17]
    exact ⟨_, _, 0, rfl, rfl, Or.inl ⟨_, rfl, rfl⟩, fun v hv => (by cases hv; exact (f4 i hi).symm), h00, hR⟩
  · rcases ι_cases x1 with h | ⟨i, h1, h2⟩
    · rw [r_in0_neg h _ ⟨_, rfl⟩]
      simp only [Option.bind_some, l_0, h, if_true, ref_fails]
      exact ⟨_, _, 1, rfl, rfl, Or.inr ⟨rfl, rfl⟩, fun v hv => (by cases hv), z_bad, Rel_0 hR _⟩
    · subst h2
      have : ¬ i < mf := fun z => hx i z rfl
      rw [r_in0 h1 (by omega), if_neg this]
      simp (disch := omega) only [l_0, l_1, l_2, l_3, l_4, l_5, l_6, l_7, l_8, l_9, l_10, l_12, l_13, l_24, l_31, l_32, l_40, l_41, l_42, l_44, l_45, l_48, l_49, l_50, l_57, l_59, l_60, l_65, l_88, l_89, l_97, l_98, l_99, l_100, l_105, l_108, l_109, l_114, l_118, l_120, l_122, l_144, l_255, l_269, l_279, l_339, l_400, l_600, l_999, l_1000, l_2373, l_2712, ι_lt, ι_le, ι_eq, ι_add, ι_mul, ι_sub, ι_div, ι_n, ι_m1, m1_ι, m1_lt, m1_le, lt_m1, le_m1, m1_lt_m1, m1_le_m1, m1_add1, neg_ι1, ι_addm, ι_addn, Bool.false_eq_true, Nat.not_lt_zero, Nat.add_zero, Nat.zero_add, Nat.mul_zero, Nat.reduceMul, Nat.reduceAdd, Nat.reduceSub, Nat.reduceLT, Nat.reduceLeDiff, Nat.reduceEqDiff, Nat.reduceDiv, Nat.reduceBEq, Nat.reduceBNe, false_or, or_false, true_or, or_true, and_true, true_and, false_and, and_false, not_false_eq_true, not_true_eq_false, if_true, if_false, if_pos, if_neg, Option.bind_some, ite_false, ite_true, eq_self, reduceIte, ref_fails]
      exact ⟨_, _, 1, rfl, rfl, Or.inr ⟨rfl, rfl⟩, fun v hv => (by cases hv), z_bad, Rel_0 hR _⟩
theorem sim1 : Sim1 Rel := by
  intro σ τ x1 hR
  replace hR := Rel_0 hR 0
  unfold fX12_truncate fX11_truncate
  have h00 : up τ 0 0 0 0 0 = 0 := up_e _ _ _ _
  generalize up τ 0 0 (0 : Int32) = τ at *
  have hR' := hR
  obtain ⟨k, n, hr, hC⟩ := hR'
  obtain ⟨mi, i1, i2, i3, i4⟩ := hr.2.2.2.2.1
  have e10 : ¬ (ι 1 = (0 : Int32)) := by decide
  unfold fX8_size
  simp only [Nat.zero_add, Option.bind_some, i2, i3]
  rcases leaf_cases x1 (mi + 1) with ⟨i, hi, rfl⟩ | hx
  · rw [r_inC (show i ≤ mi by omega) (by omega), c_short (by omega) i2 (show i ≤ mi by omega), Option.bind_some, Option.bind_some, if_neg e10]
    simp (disch := omega) only [l_0, l_1, l_2, l_3, l_4, l_5, l_6, l_7, l_8, l_9, l_10, l_12, l_13, l_24, l_31, l_32, l_40, l_41, l_42, l_44, l_45, l_48, l_49, l_50, l_57, l_59, l_60, l_65, l_88, l_89, l_97, l_98, l_99, l_100, l_105, l_108, l_109, l_114, l_118, l_120, l_122, l_144, l_255, l_269, l_279, l_339, l_400, l_600, l_999, l_1000, l_2373, l_2712, ι_lt, ι_le, ι_eq, ι_add, ι_mul, ι_sub, ι_div, ι_n, ι_m1, m1_ι, m1_lt, m1_le, lt_m1, le_m1, m1_lt_m1, m1_le_m1, m1_add1, neg_ι1, ι_addm, ι_addn, Bool.false_eq_true, Nat.not_lt_zero, Nat.add_zero, Nat.zero_add, Nat.mul_zero, Nat.reduceMul, Nat.reduceAdd, Nat.reduceSub, Nat.reduceLT, Nat.reduceLeDiff, Nat.reduceEqDiff, Nat.reduceDiv, Nat.reduceBEq, Nat.reduceBNe, false_or, or_false, true_or, or_true, and_true, true_and, false_and, and_false, not_false_eq_true, not_true_eq_false, if_true, if_false, if_pos, if_neg, Option.bind_some, ite_false, ite_true, eq_self, reduceIte]
    refine ⟨_, _, 0, rfl, rfl, Or.inl ⟨_, rfl, rfl⟩, fun v hv => (by cases hv; rfl), ?_, ?_⟩
    · show up τ 0 12 (ι i) 0 0 = 0
      rw [up_j _ _ _ _ _ (by omega)]; exact h00
    · show Rel (up σ 33 1 (ι i)) (up τ 0 12 (ι i))
      refine Rel_parts hR (fun j hj => up_k _ _ _ _ _ (by omega)) (fun k j hk => by rw [up_g, if_neg (by omega)]) ⟨i, by omega, up_e _ _ _ _, up_e _ _ _ _, fun j hj => ?_⟩ ?_ ?_ ?_
      · rw [up_k _ _ _ _ _ (by omega), up_k _ _ _ _ _ (by omega)]; exact i4 j (by omega)
      · exact FR_c hr.2.2.2.2.2.1 (up_k _ _ _ _ _ (by omega)) (up_k _ _ _ _ _ (by omega)) (up_j _ _ _ _ _ (by omega)) (up_k _ _ _ _ _ (by omega))
      · exact Tx_c hr.2.2.2.2.2.2.1 (up_k _ _ _ _ _ (by omega))
      · exact Tx_c hr.2.2.2.2.2.2.2.1 (up_k _ _ _ _ _ (by omega))
  · rw [r_inC_no (by omega) hx]
    rcases ι_cases x1 with h | ⟨i, h1, h2⟩
    · simp only [Option.bind_some, l_0, h, if_true, ref_fails]
      exact ⟨_, _, 1, rfl, rfl, Or.inr ⟨rfl, rfl⟩, fun v hv => (by cases hv), z_bad, Rel_0 hR _⟩
    · subst h2
      have : ¬ i < mi + 1 := fun z => hx i z rfl
      simp (disch := omega) only [l_0, l_1, l_2, l_3, l_4, l_5, l_6, l_7, l_8, l_9, l_10, l_12, l_13, l_24, l_31, l_32, l_40, l_41, l_42, l_44, l_45, l_48, l_49, l_50, l_57, l_59, l_60, l_65, l_88, l_89, l_97, l_98, l_99, l_100, l_105, l_108, l_109, l_114, l_118, l_120, l_122, l_144, l_255, l_269, l_279, l_339, l_400, l_600, l_999, l_1000, l_2373, l_2712, ι_lt, ι_le, ι_eq, ι_add, ι_mul, ι_sub, ι_div, ι_n, ι_m1, m1_ι, m1_lt, m1_le, lt_m1, le_m1, m1_lt_m1, m1_le_m1, m1_add1, neg_ι1, ι_addm, ι_addn, Bool.false_eq_true, Nat.not_lt_zero, Nat.add_zero, Nat.zero_add, Nat.mul_zero, Nat.reduceMul, Nat.reduceAdd, Nat.reduceSub, Nat.reduceLT, Nat.reduceLeDiff, Nat.reduceEqDiff, Nat.reduceDiv, Nat.reduceBEq, Nat.reduceBNe, false_or, or_false, true_or, or_true, and_true, true_and, false_and, and_false, not_false_eq_true, not_true_eq_false, if_true, if_false, if_pos, if_neg, Option.bind_some, ite_false, ite_true, eq_self, reduceIte, ref_fails]
      exact ⟨_, _, 1, rfl, rfl, Or.inr ⟨rfl, rfl⟩, fun v hv => (by cases hv), z_bad, Rel_0 hR _⟩
def ub (x s : Int32) : Int32 := ((x.toUInt32 >>> (s.toUInt32 &&& Int32.toUInt32 31)).toInt32) &&& (255 : Int32)
def sb (x s : Int32) : Int32 := (x >>> (s &&& 31)) &&& (255 : Int32)
def kbt (x : Int32) (i : Nat) : Bool := x.toBitVec.getLsbD i
theorem kb_ext {x y : Int32} (h : ∀ i, i < 32 → kbt x i = kbt y i) : x = y := Int32.toBitVec_inj.mp (BitVec.eq_of_getLsbD_eq (fun i hi => h i hi))
theorem kb_and (x y : Int32) (i : Nat) : kbt (x &&& y) i = (kbt x i && kbt y i) := by unfold kbt; rw [Int32.toBitVec_and, BitVec.getLsbD_and]
theorem kb_255 : ∀ i, i < 32 → kbt 255 i = decide (i < 8) := by decide +kernel
theorem ks_l : ∀ n, n < 32 → ((ι n &&& 31).toBitVec.smod 32).toNat = n := by decide +kernel
theorem ks_u : ∀ n, n < 32 → (((ι n).toUInt32 &&& Int32.toUInt32 31).toBitVec % 32).toNat = n := by decide +kernel
theorem kb_ushr (n : Nat) (hn : n < 32) (x : Int32) (i : Nat) : kbt ((x.toUInt32 >>> ((ι n).toUInt32 &&& Int32.toUInt32 31)).toInt32) i = kbt x (n + i) := by
  show (x.toUInt32 >>> ((ι n).toUInt32 &&& Int32.toUInt32 31)).toBitVec.getLsbD i = x.toUInt32.toBitVec.getLsbD (n + i)
  rw [UInt32.toBitVec_shiftRight]
  show (x.toUInt32.toBitVec >>> (((ι n).toUInt32 &&& Int32.toUInt32 31).toBitVec % 32).toNat).getLsbD i = _
  rw [ks_u n hn, BitVec.getLsbD_ushiftRight]
theorem kb_sshr (n : Nat) (hn : n < 32) (x : Int32) {i : Nat} (hi : i < 32) : kbt (x >>> (ι n &&& 31)) i = if n + i < 32 then kbt x (n + i) else kbt x 31 := by
  unfold kbt
  rw [Int32.toBitVec_shiftRight]
  show (x.toBitVec.sshiftRight ((ι n &&& 31).toBitVec.smod 32).toNat).getLsbD i = _
  rw [ks_l n hn, BitVec.getLsbD_sshiftRight, BitVec.msb_eq_getLsbD_last]
  simp [hi]
theorem ub_sb (x : Int32) {s : Nat} (hs : s ≤ 24) : ub x (ι s) = sb x (ι s) := by
  apply kb_ext
  intro i hi
  unfold ub sb
  rw [kb_and, kb_and, kb_ushr s (by omega), kb_sshr s (by omega) x hi, kb_255 i hi]
  by_cases h : i < 8
  · rw [if_pos (by omega)]
  · rw [decide_eq_false h, Bool.and_false, Bool.and_false]
theorem and255 (y : Int32) : ∃ n, n < 256 ∧ y &&& (255 : Int32) = ι n := by
  refine ⟨(y.toBitVec &&& 255#32).toNat, ?_, ?_⟩
  · rw [BitVec.toNat_and]
    exact Nat.lt_of_le_of_lt Nat.and_le_right (by decide)
  · apply Int32.toBitVec_inj.mp
    rw [Int32.toBitVec_and]
    show _ = BitVec.ofNat 32 _
    rw [BitVec.ofNat_toNat, BitVec.setWidth_eq]; rfl
theorem ub_r (x s : Int32) : ∃ n, n < 256 ∧ ub x s = ι n := and255 _
def bz (b : Int32) : Nat := if b = 0 then 0 else 1
def bc (x : Int32) : Nat := bz (ub x (ι 24)) + bz (ub x (ι 16)) + bz (ub x (ι 8)) + bz (ub x (ι 0))
theorem bc_le (x : Int32) : bc x ≤ 4 := by
  have : ∀ b, bz b ≤ 1 := fun b => by unfold bz; split <;> omega
  unfold bc
  have h1 := this (ub x (ι 24)); have h2 := this (ub x (ι 16)); have h3 := this (ub x (ι 8)); have h4 := this (ub x (ι 0))
  omega
theorem cb_step (x : Int32) (n c : Nat) {s : Int32} (hs : ¬ s < 0) (σ : Mem) : fX11_countBytes_l5 x (n + 1) (ι c) s σ = fX11_countBytes_l5 x n (ι (c + bz (ub x s))) (s + (-8 : Int32)) σ := by
  rw [fX11_countBytes_l5, if_neg hs]
  unfold bz ub
  by_cases h : (((x.toUInt32 >>> (s.toUInt32 &&& Int32.toUInt32 31)).toInt32) &&& (255 : Int32)) = 0
  · rw [if_pos h, if_pos h, Nat.add_zero]
  · rw [if_neg h, if_neg h, l_1, ι_add]
theorem c_countBytes (x : Int32) (σ : Mem) : fX11_countBytes x σ = some (ι (bc x)) := by
  unfold fX11_countBytes
  rw [show FU = 4091 + 1 + 1 + 1 + 1 + 1 from rfl, l_0, cb_step x _ _ (by decide), cb_step x _ _ (by decide), cb_step x _ _ (by decide), cb_step x _ _ (by decide), fX11_countBytes_l5, if_pos (by decide), Option.bind_some, Nat.zero_add]
  rfl
theorem rb_step (x : Int32) (n c : Nat) {s : Int32} (hs : ¬ (4 : Int32) ≤ s) (σ : Mem) : fX12_bytesOf_l4 x (n + 1) (ι c) s σ = fX12_bytesOf_l4 x n (ι (c + bz (sb x ((8 : Int32) * s)))) (s + (1 : Int32)) σ := by
  rw [fX12_bytesOf_l4, if_neg hs]
  unfold bz sb
  by_cases h : ((x >>> (((8 : Int32) * s) &&& 31)) &&& (255 : Int32)) = 0
  · rw [if_pos h, if_pos h, l_0, ι_add]
  · rw [if_neg h, if_neg h, l_1, ι_add]
theorem r_bytesOf (x : Int32) (σ : Mem) : fX12_bytesOf x σ = some (ι (bc x)) := by
  unfold fX12_bytesOf
  rw [show FU = 4091 + 1 + 1 + 1 + 1 + 1 from rfl, l_0, rb_step x _ _ (by decide), rb_step x _ _ (by decide), rb_step x _ _ (by decide), rb_step x _ _ (by decide), fX12_bytesOf_l4, if_pos (by decide), Option.bind_some, Nat.zero_add]
  show some (ι (bz (sb x (ι 0)) + bz (sb x (ι 8)) + bz (sb x (ι 16)) + bz (sb x (ι 24)))) = _
  rw [← ub_sb x (by omega), ← ub_sb x (by omega), ← ub_sb x (by omega), ← ub_sb x (by omega)]
  unfold bc
  congr 2; omega
def IRm (σ τ : Mem) (m : Nat) : Prop := m ≤ 600 ∧ σ 33 1 = ι m ∧ τ 0 12 = ι m ∧ ∀ i, i < m → ∃ b, 1 ≤ b ∧ b < 256 ∧ σ 34 i = ι b ∧ τ 7 i = sx b
def frI (σ ρ : Mem) : Prop := ∀ j, j ≠ 33 → j ≠ 34 → ρ j = σ j
def frJ (τ υ : Mem) : Prop := ∀ k j, ¬ (k = 7 ∨ (k = 0 ∧ j = 12)) → υ k j = τ k j
theorem ab_step (x : Int32) (n : Nat) {s : Nat} (hs : s ≤ 24) (σ τ : Mem) {m : Nat} (h : IRm σ τ m) (hm : m + bz (ub x (ι s)) ≤ 600) : ∃ ρ υ, fX11_addBytes_l3 0 x (n + 1) (ι s) σ = fX11_addBytes_l3 0 x n (ι s + (-8 : Int32)) ρ ∧ fX12_brings_l3 x (n + 1) (ι s) τ = fX12_brings_l3 x n (ι s + (-8 : Int32)) υ ∧ IRm ρ υ (m + bz (ub x (ι s))) ∧ frI σ ρ ∧ frJ τ υ := by
  have hs' : ¬ ι s < 0 := by simp (disch := omega) only [l_0, l_1, l_2, l_3, l_4, l_5, l_6, l_7, l_8, l_9, l_10, l_12, l_13, l_24, l_31, l_32, l_40, l_41, l_42, l_44, l_45, l_48, l_49, l_50, l_57, l_59, l_60, l_65, l_88, l_89, l_97, l_98, l_99, l_100, l_105, l_108, l_109, l_114, l_118, l_120, l_122, l_144, l_255, l_269, l_279, l_339, l_400, l_600, l_999, l_1000, l_2373, l_2712, ι_lt, ι_le, ι_eq, ι_add, ι_mul, ι_sub, ι_div, ι_n, ι_m1, m1_ι, m1_lt, m1_le, lt_m1, le_m1, m1_lt_m1, m1_le_m1, m1_add1, neg_ι1, ι_addm, ι_addn, Bool.false_eq_true, Nat.not_lt_zero, Nat.add_zero, Nat.zero_add, Nat.mul_zero, Nat.reduceMul, Nat.reduceAdd, Nat.reduceSub, Nat.reduceLT, Nat.reduceLeDiff, Nat.reduceEqDiff, Nat.reduceDiv, Nat.reduceBEq, Nat.reduceBNe, false_or, or_false, true_or, or_true, and_true, true_and, false_and, and_false, not_false_eq_true, not_true_eq_false, if_true, if_false, if_pos, if_neg, Option.bind_some, ite_false, ite_true, eq_self, reduceIte]
  rw [fX11_addBytes_l3, fX12_brings_l3, if_neg hs', if_neg hs', Nat.zero_add]
  have e1 : (((x.toUInt32 >>> ((ι s).toUInt32 &&& Int32.toUInt32 31)).toInt32) &&& (255 : Int32)) = ub x (ι s) := rfl
  have e2 : ((x >>> (ι s &&& 31)) &&& (255 : Int32)) = ub x (ι s) := (ub_sb x hs).symm
  rw [e1, e2]
  revert hm
  obtain ⟨b, b1, b2⟩ := ub_r x (ι s)
  rw [b2]
  unfold bz
  by_cases h0 : ι b = 0
  · rw [if_pos h0, if_pos h0, if_pos h0]
    intro _
    exact ⟨σ, τ, rfl, rfl, h, fun _ _ _ => rfl, fun _ _ _ => rfl⟩
  · rw [if_neg h0, if_neg h0, if_neg h0]
    intro hm
    have hb : 1 ≤ b := by
      rcases Nat.eq_zero_or_pos b with z | z
      · exact absurd (by rw [z]; rfl) h0
      · exact z
    obtain ⟨i1, i2, i3, i4⟩ := h
    rw [c_tadd ln34 (by omega) (show m < 600 by omega) i2, show (33 + 1 : Nat) = 34 from rfl, Option.bind_some, i3]
    simp (disch := omega) only [l_0, l_1, l_2, l_3, l_4, l_5, l_6, l_7, l_8, l_9, l_10, l_12, l_13, l_24, l_31, l_32, l_40, l_41, l_42, l_44, l_45, l_48, l_49, l_50, l_57, l_59, l_60, l_65, l_88, l_89, l_97, l_98, l_99, l_100, l_105, l_108, l_109, l_114, l_118, l_120, l_122, l_144, l_255, l_269, l_279, l_339, l_400, l_600, l_999, l_1000, l_2373, l_2712, ι_lt, ι_le, ι_eq, ι_add, ι_mul, ι_sub, ι_div, ι_n, ι_m1, m1_ι, m1_lt, m1_le, lt_m1, le_m1, m1_lt_m1, m1_le_m1, m1_add1, neg_ι1, ι_addm, ι_addn, Bool.false_eq_true, Nat.not_lt_zero, Nat.add_zero, Nat.zero_add, Nat.mul_zero, Nat.reduceMul, Nat.reduceAdd, Nat.reduceSub, Nat.reduceLT, Nat.reduceLeDiff, Nat.reduceEqDiff, Nat.reduceDiv, Nat.reduceBEq, Nat.reduceBNe, false_or, or_false, true_or, or_true, and_true, true_and, false_and, and_false, not_false_eq_true, not_true_eq_false, if_true, if_false, if_pos, if_neg, Option.bind_some, ite_false, ite_true, eq_self, reduceIte, lm_0, lm_1, lm_2, lm_3, lm_4, lm_5, lm_6, lm_7, lm_8, lm_9, lm_10, lm_11, lm_12, lm_13, lm_14, lm_15, lm_16, lm_17, up_k, i3]
    refine ⟨_, _, rfl, rfl, ⟨by omega, up_e _ _ _ _, up_e _ _ _ _, fun i hi => ?_⟩, fun j h1 h2 => ?_, fun k j hk => ?_⟩
    · rw [up_k _ 33 1 _ 34 (by omega), up_k _ 0 12 _ 7 (by omega)]
      by_cases him : i = m
      · subst him
        exact ⟨b, hb, b1, up_e _ _ _ _, (up_e _ _ _ _).trans (pk_vb _)⟩
      · rw [up_j _ _ _ _ _ him, up_j _ _ _ _ _ him]
        exact i4 i (by omega)
    · rw [up_k _ _ _ _ _ (by omega), up_k _ _ _ _ _ (by omega)]
    · rw [up_g, if_neg (by omega), up_g, if_neg (by omega)]
theorem addBytes_sim (x : Int32) (σ τ : Mem) {m : Nat} (h : IRm σ τ m) (hm : m + bc x ≤ 600) : ∃ ρ υ, fX11_addBytes 0 x σ = some ρ ∧ fX12_brings x τ = some υ ∧ IRm ρ υ (m + bc x) ∧ frI σ ρ ∧ frJ τ υ := by
  unfold bc at *
  obtain ⟨ρ1, υ1, a1, a2, a3, a4, a5⟩ := ab_step x (4091 + 1 + 1 + 1 + 1) (s := 24) (by omega) σ τ h (by omega)
  obtain ⟨ρ2, υ2, b1, b2, b3, b4, b5⟩ := ab_step x (4091 + 1 + 1 + 1) (s := 16) (by omega) ρ1 υ1 a3 (by omega)
  obtain ⟨ρ3, υ3, c1, c2, c3, c4, c5⟩ := ab_step x (4091 + 1 + 1) (s := 8) (by omega) ρ2 υ2 b3 (by omega)
  obtain ⟨ρ4, υ4, d1, d2, d3, d4, d5⟩ := ab_step x (4091 + 1) (s := 0) (by omega) ρ3 υ3 c3 (by omega)
  have e1 : ι 24 + (-8 : Int32) = ι 16 := by decide
  have e2 : ι 16 + (-8 : Int32) = ι 8 := by decide
  have e3 : ι 8 + (-8 : Int32) = ι 0 := by decide
  have e4 : ι 0 + (-8 : Int32) < 0 := by decide
  rw [e1] at a1 a2
  rw [e2] at b1 b2
  rw [e3] at c1 c2
  refine ⟨ρ4, υ4, ?_, ?_, by rw [show m + (bz (ub x (ι 24)) + bz (ub x (ι 16)) + bz (ub x (ι 8)) + bz (ub x (ι 0))) = m + bz (ub x (ι 24)) + bz (ub x (ι 16)) + bz (ub x (ι 8)) + bz (ub x (ι 0)) by omega]; exact d3, fun j h1 h2 => (d4 j h1 h2).trans ((c4 j h1 h2).trans ((b4 j h1 h2).trans (a4 j h1 h2))), fun k j h1 => (d5 k j h1).trans ((c5 k j h1).trans ((b5 k j h1).trans (a5 k j h1)))⟩
  · unfold fX11_addBytes
    rw [show FU = 4091 + 1 + 1 + 1 + 1 + 1 from rfl, l_24, a1, b1, c1, d1, fX11_addBytes_l3, if_pos e4, Option.bind_some]
  · unfold fX12_brings
    rw [show FU = 4091 + 1 + 1 + 1 + 1 + 1 from rfl, l_24, a2, b2, c2, d2, fX12_brings_l3, if_pos e4, Option.bind_some]
theorem sim0 : Sim0 Rel := by
  intro σ τ x1 x2 x3 x4 x5 hR
  replace hR := Rel_0 hR 0
  unfold fX12_append fX11_append
  have h00 : up τ 0 0 0 0 0 = 0 := up_e _ _ _ _
  generalize up τ 0 0 (0 : Int32) = τ at *
  have hR' := hR
  obtain ⟨k, n, hr, hC⟩ := hR'
  obtain ⟨mi, i1, i2, i3, i4⟩ := hr.2.2.2.2.1
  have q1 := bc_le x1
  have q2 := bc_le x2
  have q3 := bc_le x3
  have q4 := bc_le x4
  have q5 := bc_le x5
  unfold fX8_size
  simp only [c_countBytes, r_bytesOf, Option.bind_some, Nat.zero_add, i2, i3, ι_add, ref_fails]
  rw [show mi + (bc x1 + bc x2 + bc x3 + bc x4 + bc x5) = mi + bc x1 + bc x2 + bc x3 + bc x4 + bc x5 by omega]
  by_cases hm : mi + bc x1 + bc x2 + bc x3 + bc x4 + bc x5 ≤ 600
  · have hm' : ι (mi + bc x1 + bc x2 + bc x3 + bc x4 + bc x5) ≤ (600 : Int32) := by
      rw [l_600, ι_le (by omega) (by omega)]; exact hm
    rw [if_pos hm', if_pos hm']
    obtain ⟨ρ1, υ1, a1, a2, a3, a4, a5⟩ := addBytes_sim x1 σ τ ⟨i1, i2, i3, i4⟩ (by omega)
    obtain ⟨ρ2, υ2, b1, b2, b3, b4, b5⟩ := addBytes_sim x2 ρ1 υ1 a3 (by omega)
    obtain ⟨ρ3, υ3, c1, c2, c3, c4, c5⟩ := addBytes_sim x3 ρ2 υ2 b3 (by omega)
    obtain ⟨ρ4, υ4, d1, d2, d3, d4, d5⟩ := addBytes_sim x4 ρ3 υ3 c3 (by omega)
    obtain ⟨ρ5, υ5, g1, g2, g3, g4, g5⟩ := addBytes_sim x5 ρ4 υ4 d3 (by omega)
    have f1 : frI σ ρ5 := fun j h1 h2 => (g4 j h1 h2).trans ((d4 j h1 h2).trans ((c4 j h1 h2).trans ((b4 j h1 h2).trans (a4 j h1 h2))))
    have f2 : frJ τ υ5 := fun k j h1 => (g5 k j h1).trans ((d5 k j h1).trans ((c5 k j h1).trans ((b5 k j h1).trans (a5 k j h1))))
    rw [a1, a2, Option.bind_some, Option.bind_some, b1, b2, Option.bind_some, Option.bind_some, c1, c2, Option.bind_some, Option.bind_some, d1, d2, Option.bind_some, Option.bind_some, g1, g2, Option.bind_some, Option.bind_some]
    refine ⟨_, _, 0, rfl, rfl, Or.inl ⟨_, rfl, rfl⟩, fun v hv => ?_, ?_, ?_⟩
    · cases hv
      show υ5 0 12 = ρ5 33 1
      rw [g3.2.1, g3.2.2.1]
    · show υ5 0 0 = 0
      rw [f2 0 0 (by omega)]; exact h00
    · show Rel ρ5 υ5
      exact Rel_parts hR (fun j hj => f1 j (by omega) (by omega)) (fun k j hk => f2 k j (by omega)) ⟨_, g3⟩ (FR_c hr.2.2.2.2.2.1 (f1 35 (by omega) (by omega)) (f1 36 (by omega) (by omega)) (f2 0 20 (by omega)) (funext fun j => f2 9 j (by omega))) (Tx_c hr.2.2.2.2.2.2.1 (f1 37 (by omega) (by omega))) (Tx_c hr.2.2.2.2.2.2.2.1 (f1 39 (by omega) (by omega)))
  · have hm' : ¬ ι (mi + bc x1 + bc x2 + bc x3 + bc x4 + bc x5) ≤ (600 : Int32) := by
      rw [l_600, ι_le (by omega) (by omega)]; exact hm
    rw [if_neg hm', if_neg hm']
    exact ⟨_, _, 1, rfl, rfl, Or.inr ⟨rfl, rfl⟩, fun v hv => (by cases hv), z_bad, Rel_0 hR _⟩
