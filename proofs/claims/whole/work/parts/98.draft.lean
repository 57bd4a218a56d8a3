/-! PURE PART: the input buffer, formatted bytes -/
theorem IR_c {σ ρ τ υ : Mem} (h : IR σ τ) (a1 : ρ 33 = σ 33) (a2 : ρ 34 = σ 34) (a3 : υ 0 12 = τ 0 12) (a4 : υ 7 = τ 7) : IR ρ υ := by
  unfold IR at *; rw [a1, a2, a3, a4]; exact h
theorem FR_c {σ ρ τ υ : Mem} (h : FR σ τ) (a1 : ρ 35 = σ 35) (a2 : ρ 36 = σ 36) (a3 : υ 0 20 = τ 0 20) (a4 : υ 9 = τ 9) : FR ρ υ := by
  unfold FR at *; rw [a1, a2, a3, a4]; exact h
theorem Tx_c {σ ρ : Mem} {o : Nat} (h : Tx σ o) (a1 : ρ o = σ o) : Tx ρ o := by
  unfold Tx at *; rw [a1]; exact h
theorem Rest_parts {σ ρ τ υ : Mem} {k n : Nat} (h : Rest σ τ k n) (hσ : ∀ j, (j = 0 ∨ (79 ≤ j ∧ j < 360)) → ρ j = σ j) (hτ : ∀ k j, (k = 1 ∨ k = 5 ∨ k = 6 ∨ k = 11 ∨ (k = 0 ∧ (j = 3 ∨ j = 9 ∨ j = 10))) → υ k j = τ k j) (hI : IR ρ υ) (hF : FR ρ υ) (h7 : Tx ρ 37) (h8 : Tx ρ 39) : Rest ρ υ k n := by
  obtain ⟨hQ, r2, ⟨nx, nh, g1, g2, g3, g4, g5, g6⟩, r4, -, -, -, -, r9⟩ := h
  have hn : n ≤ 60 := hQ.2.2.2.2
  have u1 : υ 1 = τ 1 := funext fun j => hτ 1 j (by omega)
  have u6 : υ 6 = τ 6 := funext fun j => hτ 6 j (by omega)
  have u5 : υ 5 = τ 5 := funext fun j => hτ 5 j (by omega)
  have u11 : υ 11 = τ 11 := funext fun j => hτ 11 j (by omega)
  refine ⟨by rw [u1]; exact hQ, by rw [hτ 0 3 (by omega)]; exact r2, ⟨nx, nh, g1, g2, by rw [hσ 79 (by omega)]; exact g3, by rw [hσ 79 (by omega)]; exact g4, by rw [hτ 0 9 (by omega)]; exact g5, fun i hi => ?_⟩, ?_, hI, hF, h7, h8, by unfold Ro; rw [u11]; exact r9⟩
  · rw [u1, u6]
    have := rgi_in nx nh i
    exact CS_c hn (g6 i hi) (fun j h1 h2 => hσ j (by omega)) (fun _ _ => rfl)
  · unfold Sv; rw [hτ 0 10 (by omega), u1, u5, hσ 0 (by omega)]
    rcases r4 with h | ⟨h1, h2, h3⟩
    · exact Or.inl h
    · exact Or.inr ⟨h1, h2, CS_c hn h3 (fun j h1 h2 => hσ j (by omega)) (fun _ _ => rfl)⟩
theorem Rel_parts {σ ρ τ υ : Mem} (h : Rel σ τ) (hσ : ∀ j, (j = 0 ∨ (41 ≤ j ∧ j < 72) ∨ (79 ≤ j ∧ j < 360)) → ρ j = σ j) (hτ : ∀ k j, (k = 1 ∨ k = 3 ∨ k = 5 ∨ k = 6 ∨ k = 11 ∨ (k = 0 ∧ (j = 3 ∨ j = 9 ∨ j = 10))) → υ k j = τ k j) (hI : IR ρ υ) (hF : FR ρ υ) (h7 : Tx ρ 37) (h8 : Tx ρ 39) : Rel ρ υ := by
  obtain ⟨k, n, hr, hC⟩ := h
  have hn : n ≤ 60 := hr.1.2.2.2.2
  have u1 : υ 1 = τ 1 := funext fun j => hτ 1 j (by omega)
  have u3 : υ 3 = τ 3 := funext fun j => hτ 3 j (by omega)
  refine ⟨k, n, Rest_parts hr (fun j hj => hσ j (by omega)) (fun k j hk => hτ k j (by omega)) hI hF h7 h8, ?_⟩
  rw [u1, u3]
  exact CS_c hn hC (fun j h1 h2 => hσ j (by omega)) (fun _ _ => rfl)
theorem ln34 : ln (33 + 1) = 600 := by decide
theorem ln36 : ln (35 + 1) = 236 := by decide
theorem ln38 : ln (37 + 1) = 32 := by decide
theorem ln40 : ln (39 + 1) = 32 := by decide
theorem c_byteAt {σ : Mem} {o L m i : Nat} (hl : ln (o + 1) = L) (hL : L ≤ 600) (hm : m ≤ L) (h1 : σ o 1 = ι m) (hi : i < m) : fX8_byteAt o (ι i) σ = some (σ (o + 1) i) := by
  unfold fX8_byteAt
  rw [hl, h1]
  have e : (Int32.ofNat L) = ι L := rfl
  simp (disch := omega) only [e, l_0, l_1, l_2, l_3, l_4, l_5, l_6, l_7, l_8, l_9, l_10, l_12, l_13, l_24, l_31, l_32, l_40, l_41, l_42, l_44, l_45, l_48, l_49, l_50, l_57, l_59, l_60, l_65, l_88, l_89, l_97, l_98, l_99, l_100, l_105, l_108, l_109, l_114, l_118, l_120, l_122, l_144, l_255, l_269, l_279, l_339, l_400, l_600, l_999, l_1000, l_2373, l_2712, ι_lt, ι_le, ι_eq, ι_add, ι_mul, ι_sub, ι_div, ι_n, ι_m1, m1_ι, m1_lt, m1_le, lt_m1, le_m1, m1_lt_m1, m1_le_m1, m1_add1, neg_ι1, ι_addm, ι_addn, Bool.false_eq_true, Nat.not_lt_zero, Nat.add_zero, Nat.zero_add, Nat.mul_zero, Nat.reduceMul, Nat.reduceAdd, Nat.reduceSub, Nat.reduceLT, Nat.reduceLeDiff, Nat.reduceEqDiff, Nat.reduceDiv, Nat.reduceBEq, Nat.reduceBNe, false_or, or_false, true_or, or_true, and_true, true_and, false_and, and_false, not_false_eq_true, not_true_eq_false, if_true, if_false, if_pos, if_neg, Option.bind_some, ite_false, ite_true, eq_self, reduceIte]
theorem c_byteAt_no {σ : Mem} {o m i : Nat} (hm : m ≤ 600) (h1 : σ o 1 = ι m) (hi : m ≤ i) (hi' : i < 2147483648) : fX8_byteAt o (ι i) σ = some μ := by
  unfold fX8_byteAt
  rw [h1]
  simp (disch := omega) only [l_0, l_1, l_2, l_3, l_4, l_5, l_6, l_7, l_8, l_9, l_10, l_12, l_13, l_24, l_31, l_32, l_40, l_41, l_42, l_44, l_45, l_48, l_49, l_50, l_57, l_59, l_60, l_65, l_88, l_89, l_97, l_98, l_99, l_100, l_105, l_108, l_109, l_114, l_118, l_120, l_122, l_144, l_255, l_269, l_279, l_339, l_400, l_600, l_999, l_1000, l_2373, l_2712, ι_lt, ι_le, ι_eq, ι_add, ι_mul, ι_sub, ι_div, ι_n, ι_m1, m1_ι, m1_lt, m1_le, lt_m1, le_m1, m1_lt_m1, m1_le_m1, m1_add1, neg_ι1, ι_addm, ι_addn, Bool.false_eq_true, Nat.not_lt_zero, Nat.add_zero, Nat.zero_add, Nat.mul_zero, Nat.reduceMul, Nat.reduceAdd, Nat.reduceSub, Nat.reduceLT, Nat.reduceLeDiff, Nat.reduceEqDiff, Nat.reduceDiv, Nat.reduceBEq, Nat.reduceBNe, false_or, or_false, true_or, or_true, and_true, true_and, false_and, and_false, not_false_eq_true, not_true_eq_false, if_true, if_false, if_pos, if_neg, Option.bind_some, ite_false, ite_true, eq_self, reduceIte]
theorem c_tadd {σ : Mem} {o L m : Nat} (hl : ln (o + 1) = L) (hL : L ≤ 600) (hm : m < L) (h1 : σ o 1 = ι m) (x : Int32) : fX8_add o x σ = some (up (up σ (o + 1) m x) o 1 (ι (m + 1))) := by
  unfold fX8_add
  rw [hl, up_k _ _ _ _ _ (show o ≠ o + 1 by omega), h1]
  have e : (Int32.ofNat L) = ι L := rfl
  simp (disch := omega) only [e, l_0, l_1, l_2, l_3, l_4, l_5, l_6, l_7, l_8, l_9, l_10, l_12, l_13, l_24, l_31, l_32, l_40, l_41, l_42, l_44, l_45, l_48, l_49, l_50, l_57, l_59, l_60, l_65, l_88, l_89, l_97, l_98, l_99, l_100, l_105, l_108, l_109, l_114, l_118, l_120, l_122, l_144, l_255, l_269, l_279, l_339, l_400, l_600, l_999, l_1000, l_2373, l_2712, ι_lt, ι_le, ι_eq, ι_add, ι_mul, ι_sub, ι_div, ι_n, ι_m1, m1_ι, m1_lt, m1_le, lt_m1, le_m1, m1_lt_m1, m1_le_m1, m1_add1, neg_ι1, ι_addm, ι_addn, Bool.false_eq_true, Nat.not_lt_zero, Nat.add_zero, Nat.zero_add, Nat.mul_zero, Nat.reduceMul, Nat.reduceAdd, Nat.reduceSub, Nat.reduceLT, Nat.reduceLeDiff, Nat.reduceEqDiff, Nat.reduceDiv, Nat.reduceBEq, Nat.reduceBNe, false_or, or_false, true_or, or_true, and_true, true_and, false_and, and_false, not_false_eq_true, not_true_eq_false, if_true, if_false, if_pos, if_neg, Option.bind_some, ite_false, ite_true, eq_self, reduceIte]
theorem c_short {σ : Mem} {o m i : Nat} (hm : m ≤ 600) (h1 : σ o 1 = ι m) (hi : i ≤ m) : fX8_shortenTo o (ι i) σ = some (up σ o 1 (ι i)) := by
  unfold fX8_shortenTo
  rw [h1]
  by_cases h : m ≤ i
  · have e : i = m := by omega
    subst e
    simp (disch := omega) only [l_0, l_1, l_2, l_3, l_4, l_5, l_6, l_7, l_8, l_9, l_10, l_12, l_13, l_24, l_31, l_32, l_40, l_41, l_42, l_44, l_45, l_48, l_49, l_50, l_57, l_59, l_60, l_65, l_88, l_89, l_97, l_98, l_99, l_100, l_105, l_108, l_109, l_114, l_118, l_120, l_122, l_144, l_255, l_269, l_279, l_339, l_400, l_600, l_999, l_1000, l_2373, l_2712, ι_lt, ι_le, ι_eq, ι_add, ι_mul, ι_sub, ι_div, ι_n, ι_m1, m1_ι, m1_lt, m1_le, lt_m1, le_m1, m1_lt_m1, m1_le_m1, m1_add1, neg_ι1, ι_addm, ι_addn, Bool.false_eq_true, Nat.not_lt_zero, Nat.add_zero, Nat.zero_add, Nat.mul_zero, Nat.reduceMul, Nat.reduceAdd, Nat.reduceSub, Nat.reduceLT, Nat.reduceLeDiff, Nat.reduceEqDiff, Nat.reduceDiv, Nat.reduceBEq, Nat.reduceBNe, false_or, or_false, true_or, or_true, and_true, true_and, false_and, and_false, not_false_eq_true, not_true_eq_false, if_true, if_false, if_pos, if_neg, Option.bind_some, ite_false, ite_true, eq_self, reduceIte, Nat.le_refl]
    rw [← h1, up_self]
  · simp (disch := omega) only [l_0, l_1, l_2, l_3, l_4, l_5, l_6, l_7, l_8, l_9, l_10, l_12, l_13, l_24, l_31, l_32, l_40, l_41, l_42, l_44, l_45, l_48, l_49, l_50, l_57, l_59, l_60, l_65, l_88, l_89, l_97, l_98, l_99, l_100, l_105, l_108, l_109, l_114, l_118, l_120, l_122, l_144, l_255, l_269, l_279, l_339, l_400, l_600, l_999, l_1000, l_2373, l_2712, ι_lt, ι_le, ι_eq, ι_add, ι_mul, ι_sub, ι_div, ι_n, ι_m1, m1_ι, m1_lt, m1_le, lt_m1, le_m1, m1_lt_m1, m1_le_m1, m1_add1, neg_ι1, ι_addm, ι_addn, Bool.false_eq_true, Nat.not_lt_zero, Nat.add_zero, Nat.zero_add, Nat.mul_zero, Nat.reduceMul, Nat.reduceAdd, Nat.reduceSub, Nat.reduceLT, Nat.reduceLeDiff, Nat.reduceEqDiff, Nat.reduceDiv, Nat.reduceBEq, Nat.reduceBNe, false_or, or_false, true_or, or_true, and_true, true_and, false_and, and_false, not_false_eq_true, not_true_eq_false, if_true, if_false, if_pos, if_neg, Option.bind_some, ite_false, ite_true, eq_self, reduceIte]
theorem sim22 : Sim22 Rel := by
  intro σ τ x1 hR
  replace hR := Rel_0 hR 0
  unfold fX12_formattedByte fX11_formattedByte
  have h00 : up τ 0 0 0 0 0 = 0 := up_e _ _ _ _
  generalize up τ 0 0 (0 : Int32) = τ at *
  have hR' := hR
  obtain ⟨k, n, hr, hC⟩ := hR'
  obtain ⟨mf, f1, f2, f3, f4⟩ := hr.2.2.2.2.2.1
  have e10 : ¬ (ι 1 = (0 : Int32)) := by decide
  unfold fX8_size
  simp only [Nat.zero_add, Option.bind_some, f2, f3]
  rcases leaf_cases x1 mf with ⟨i, hi, rfl⟩ | hx
  · rw [r_in0 (by omega) (by omega), if_pos hi, c_byteAt ln36 (by omega) f1 f2 hi, Option.bind_some, Option.bind_some, if_neg e10]
    simp (disch := omega) only [l_0, l_1, l_2, l_3, l_4, l_5, l_6, l_7, l_8, l_9, l_10, l_12, l_13, l_24, l_31, l_32, l_40, l_41, l_42, l_44, l_45, l_48, l_49, l_50, l_57, l_59, l_60, l_65, l_88, l_89, l_97, l_98, l_99, l_100, l_105, l_108, l_109, l_114, l_118, l_120, l_122, l_144, l_255, l_269, l_279, l_339, l_400, l_600, l_999, l_1000, l_2373, l_2712, ι_lt, ι_le, ι_eq, ι_add, ι_mul, ι_sub, ι_div, ι_n, ι_m1, m1_ι, m1_lt, m1_le, lt_m1, le_m1, m1_lt_m1, m1_le_m1, m1_add1, neg_ι1, ι_addm, ι_addn, Bool.false_eq_true, Nat.not_lt_zero, Nat.add_zero, Nat.zero_add, Nat.mul_zero, Nat.reduceMul, Nat.reduceAdd, Nat.reduceSub, Nat.reduceLT, Nat.reduceLeDiff, Nat.reduceEqDiff, Nat.reduceDiv, Nat.reduceBEq, Nat.reduceBNe, false_or, or_false, true_or, or_true, and_true, true_and, false_and, and_false, not_false_eq_true, not_true_eq_false, if_true, if_false, if_pos, if_neg, Option.bind_some, ite_false, ite_true, eq_self, reduceIte, lm_0, lm_1, lm_2, lm_3, lm_4, lm_5, lm_6, lm_7, lm_8, lm_9, lm_10, lm_11, lm_12, lm_13, lm_14, lm_15, lm_16, lm_17]
    exact ⟨_, _, 0, rfl, rfl, Or.inl ⟨_, rfl, rfl⟩, fun v hv => (by cases hv; exact (f4 i hi).symm), h00, hR⟩
  · rcases ι_cases x1 with h | ⟨i, h1, h2⟩
    · rw [r_in0_neg h _ ⟨_, rfl⟩]
      simp only [Option.bind_some, l_0, h, if_true, ref_fails]
      exact ⟨_, _, 1, rfl, rfl, Or.inr ⟨rfl, rfl⟩, fun v hv => (by cases hv), z_bad, Rel_0 hR _⟩
    · subst h2
      have : ¬ i < mf := fun z => hx i z rfl
      rw [r_in0 h1 (by omega), if_neg this]
      simp (disch := omega) only [l_0, l_1, l_2, l_3, l_4, l_5, l_6, l_7, l_8, l_9, l_10, l_12, l_13, l_24, l_31, l_32, l_40, l_41, l_42, l_44, l_45, l_48, l_49, l_50, l_57, l_59, l_60, l_65, l_88, l_89, l_97, l_98, l_99, l_100, l_105, l_108, l_109, l_114, l_118, l_120, l_122, l_144, l_255, l_269, l_279, l_339, l_400, l_600, l_999, l_1000, l_2373, l_2712, ι_lt, ι_le, ι_eq, ι_add, ι_mul, ι_sub, ι_div, ι_n, ι_m1, m1_ι, m1_lt, m1_le, lt_m1, le_m1, m1_lt_m1, m1_le_m1, m1_add1, neg_ι1, ι_addm, ι_addn, Bool.false_eq_true, Nat.not_lt_zero, Nat.add_zero, Nat.zero_add, Nat.mul_zero, Nat.reduceMul, Nat.reduceAdd, Nat.reduceSub, Nat.reduceLT, Nat.reduceLeDiff, Nat.reduceEqDiff, Nat.reduceDiv, Nat.reduceBEq, Nat.reduceBNe, false_or, or_false, true_or, or_true, and_true, true_and, false_and, and_false, not_false_eq_true, not_true_eq_false, if_true, if_false, if_pos, if_neg, Option.bind_some, ite_false, ite_true, eq_self, reduceIte, ref_fails]
      exact ⟨_, _, 1, rfl, rfl, Or.inr ⟨rfl, rfl⟩, fun v hv => (by cases hv), z_bad, Rel_0 hR _⟩
theorem sim1 : Sim1 Rel := by
  intro σ τ x1 hR
  replace hR := Rel_0 hR 0
  unfold fX12_truncate fX11_truncate
  have h00 : up τ 0 0 0 0 0 = 0 := up_e _ _ _ _
  generalize up τ 0 0 (0 : Int32) = τ at *
  have hR' := hR
  obtain ⟨k, n, hr, hC⟩ := hR'
  obtain ⟨mi, i1, i2, i3, i4⟩ := hr.2.2.2.2.1
  have e10 : ¬ (ι 1 = (0 : Int32)) := by decide
  unfold fX8_size
  simp only [Nat.zero_add, Option.bind_some, i2, i3]
  rcases leaf_cases x1 (mi + 1) with ⟨i, hi, rfl⟩ | hx
  · rw [r_inC (show i ≤ mi by omega) (by omega), c_short (by omega) i2 (show i ≤ mi by omega), Option.bind_some, Option.bind_some, if_neg e10]
    simp (disch := omega) only [l_0, l_1, l_2, l_3, l_4, l_5, l_6, l_7, l_8, l_9, l_10, l_12, l_13, l_24, l_31, l_32, l_40, l_41, l_42, l_44, l_45, l_48, l_49, l_50, l_57, l_59, l_60, l_65, l_88, l_89, l_97, l_98, l_99, l_100, l_105, l_108, l_109, l_114, l_118, l_120, l_122, l_144, l_255, l_269, l_279, l_339, l_400, l_600, l_999, l_1000, l_2373, l_2712, ι_lt, ι_le, ι_eq, ι_add, ι_mul, ι_sub, ι_div, ι_n, ι_m1, m1_ι, m1_lt, m1_le, lt_m1, le_m1, m1_lt_m1, m1_le_m1, m1_add1, neg_ι1, ι_addm, ι_addn, Bool.false_eq_true, Nat.not_lt_zero, Nat.add_zero, Nat.zero_add, Nat.mul_zero, Nat.reduceMul, Nat.reduceAdd, Nat.reduceSub, Nat.reduceLT, Nat.reduceLeDiff, Nat.reduceEqDiff, Nat.reduceDiv, Nat.reduceBEq, Nat.reduceBNe, false_or, or_false, true_or, or_true, and_true, true_and, false_and, and_false, not_false_eq_true, not_true_eq_false, if_true, if_false, if_pos, if_neg, Option.bind_some, ite_false, ite_true, eq_self, reduceIte]
    refine ⟨_, _, 0, rfl, rfl, Or.inl ⟨_, rfl, rfl⟩, fun v hv => (by cases hv; rfl), ?_, ?_⟩
    · show up τ 0 12 (ι i) 0 0 = 0
      rw [up_j _ _ _ _ _ (by omega)]; exact h00
    · show Rel (up σ 33 1 (ι i)) (up τ 0 12 (ι i))
      refine Rel_parts hR (fun j hj => up_k _ _ _ _ _ (by omega)) (fun k j hk => by rw [up_g, if_neg (by omega)]) ⟨i, by omega, up_e _ _ _ _, up_e _ _ _ _, fun j hj => ?_⟩ ?_ ?_ ?_
      · rw [up_k _ _ _ _ _ (by omega), up_k _ _ _ _ _ (by omega)]; exact i4 j (by omega)
      · exact FR_c hr.2.2.2.2.2.1 (up_k _ _ _ _ _ (by omega)) (up_k _ _ _ _ _ (by omega)) (up_j _ _ _ _ _ (by omega)) (up_k _ _ _ _ _ (by omega))
      · exact Tx_c hr.2.2.2.2.2.2.1 (up_k _ _ _ _ _ (by omega))
      · exact Tx_c hr.2.2.2.2.2.2.2.1 (up_k _ _ _ _ _ (by omega))
  · rw [r_inC_no (by omega) hx]
    rcases ι_cases x1 with h | ⟨i, h1, h2⟩
    · simp only [Option.bind_some, l_0, h, if_true, ref_fails]
      exact ⟨_, _, 1, rfl, rfl, Or.inr ⟨rfl, rfl⟩, fun v hv => (by cases hv), z_bad, Rel_0 hR _⟩
    · subst h2
      have : ¬ i < mi + 1 := fun z => hx i z rfl
      simp (disch := omega) only [l_0, l_1, l_2, l_3, l_4, l_5, l_6, l_7, l_8, l_9, l_10, l_12, l_13, l_24, l_31, l_32, l_40, l_41, l_42, l_44, l_45, l_48, l_49, l_50, l_57, l_59, l_60, l_65, l_88, l_89, l_97, l_98, l_99, l_100, l_105, l_108, l_109, l_114, l_118, l_120, l_122, l_144, l_255, l_269, l_279, l_339, l_400, l_600, l_999, l_1000, l_2373, l_2712, ι_lt, ι_le, ι_eq, ι_add, ι_mul, ι_sub, ι_div, ι_n, ι_m1, m1_ι, m1_lt, m1_le, lt_m1, le_m1, m1_lt_m1, m1_le_m1, m1_add1, neg_ι1, ι_addm, ι_addn, Bool.false_eq_true, Nat.not_lt_zero, Nat.add_zero, Nat.zero_add, Nat.mul_zero, Nat.reduceMul, Nat.reduceAdd, Nat.reduceSub, Nat.reduceLT, Nat.reduceLeDiff, Nat.reduceEqDiff, Nat.reduceDiv, Nat.reduceBEq, Nat.reduceBNe, false_or, or_false, true_or, or_true, and_true, true_and, false_and, and_false, not_false_eq_true, not_true_eq_false, if_true, if_false, if_pos, if_neg, Option.bind_some, ite_false, ite_true, eq_self, reduceIte, ref_fails]
      exact ⟨_, _, 1, rfl, rfl, Or.inr ⟨rfl, rfl⟩, fun v hv => (by cases hv), z_bad, Rel_0 hR _⟩
def ub (x s : Int32) : Int32 := ((x.toUInt32 >>> (s.toUInt32 &&& Int32.toUInt32 31)).toInt32) &&& (255 : Int32)
def sb (x s : Int32) : Int32 := (x >>> (s &&& 31)) &&& (255 : Int32)
def kbt (x : Int32) (i : Nat) : Bool := x.toBitVec.getLsbD i
theorem kb_ext {x y : Int32} (h : ∀ i, i < 32 → kbt x i = kbt y i) : x = y := Int32.toBitVec_inj.mp (BitVec.eq_of_getLsbD_eq (fun i hi => h i hi))
theorem kb_and (x y : Int32) (i : Nat) : kbt (x &&& y) i = (kbt x i && kbt y i) := by unfold kbt; rw [Int32.toBitVec_and, BitVec.getLsbD_and]
theorem kb_255 : ∀ i, i < 32 → kbt 255 i = decide (i < 8) := by decide +kernel
theorem ks_l : ∀ n, n < 32 → ((ι n &&& 31).toBitVec.smod 32).toNat = n := by decide +kernel
theorem ks_u : ∀ n, n < 32 → (((ι n).toUInt32 &&& Int32.toUInt32 31).toBitVec % 32).toNat = n := by decide +kernel
theorem kb_ushr (n : Nat) (hn : n < 32) (x : Int32) (i : Nat) : kbt ((x.toUInt32 >>> ((ι n).toUInt32 &&& Int32.toUInt32 31)).toInt32) i = kbt x (n + i) := by
  show (x.toUInt32 >>> ((ι n).toUInt32 &&& Int32.toUInt32 31)).toBitVec.getLsbD i = x.toUInt32.toBitVec.getLsbD (n + i)
  rw [UInt32.toBitVec_shiftRight]
  show (x.toUInt32.toBitVec >>> (((ι n).toUInt32 &&& Int32.toUInt32 31).toBitVec % 32).toNat).getLsbD i = _
  rw [ks_u n hn, BitVec.getLsbD_ushiftRight]
theorem kb_sshr (n : Nat) (hn : n < 32) (x : Int32) {i : Nat} (hi : i < 32) : kbt (x >>> (ι n &&& 31)) i = if n + i < 32 then kbt x (n + i) else kbt x 31 := by
  unfold kbt
  rw [Int32.toBitVec_shiftRight]
  show (x.toBitVec.sshiftRight ((ι n &&& 31).toBitVec.smod 32).toNat).getLsbD i = _
  rw [ks_l n hn, BitVec.getLsbD_sshiftRight, BitVec.msb_eq_getLsbD_last]
  simp [hi]
theorem ub_sb (x : Int32) {s : Nat} (hs : s ≤ 24) : ub x (ι s) = sb x (ι s) := by
  apply kb_ext
  intro i hi
  unfold ub sb
  rw [kb_and, kb_and, kb_ushr s (by omega), kb_sshr s (by omega) x hi, kb_255 i hi]
  by_cases h : i < 8
  · rw [if_pos (by omega)]
  · rw [decide_eq_false h, Bool.and_false, Bool.and_false]
theorem and255 (y : Int32) : ∃ n, n < 256 ∧ y &&& (255 : Int32) = ι n := by
  refine ⟨(y.toBitVec &&& 255#32).toNat, ?_, ?_⟩
  · rw [BitVec.toNat_and]
    exact Nat.lt_of_le_of_lt Nat.and_le_right (by decide)
  · apply Int32.toBitVec_inj.mp
    rw [Int32.toBitVec_and]
    show _ = BitVec.ofNat 32 _
    rw [BitVec.ofNat_toNat, BitVec.setWidth_eq]; rfl
theorem ub_r (x s : Int32) : ∃ n, n < 256 ∧ ub x s = ι n := and255 _
def bz (b : Int32) : Nat := if b = 0 then 0 else 1
def bc (x : Int32) : Nat := bz (ub x (ι 24)) + bz (ub x (ι 16)) + bz (ub x (ι 8)) + bz (ub x (ι 0))
theorem bc_le (x : Int32) : bc x ≤ 4 := by
  have : ∀ b, bz b ≤ 1 := fun b => by unfold bz; split <;> omega
  unfold bc
  have h1 := this (ub x (ι 24)); have h2 := this (ub x (ι 16)); have h3 := this (ub x (ι 8)); have h4 := this (ub x (ι 0))
  omega
theorem cb_step (x : Int32) (n c : Nat) {s : Int32} (hs : ¬ s < 0) (σ : Mem) : fX11_countBytes_l5 x (n + 1) (ι c) s σ = fX11_countBytes_l5 x n (ι (c + bz (ub x s))) (s + (-8 : Int32)) σ := by
  rw [fX11_countBytes_l5, if_neg hs]
  unfold bz ub
  by_cases h : (((x.toUInt32 >>> (s.toUInt32 &&& Int32.toUInt32 31)).toInt32) &&& (255 : Int32)) = 0
  · rw [if_pos h, if_pos h, Nat.add_zero]
  · rw [if_neg h, if_neg h, l_1, ι_add]
theorem c_countBytes (x : Int32) (σ : Mem) : fX11_countBytes x σ = some (ι (bc x)) := by
  unfold fX11_countBytes
  rw [show FU = 4091 + 1 + 1 + 1 + 1 + 1 from rfl, l_0, cb_step x _ _ (by decide), cb_step x _ _ (by decide), cb_step x _ _ (by decide), cb_step x _ _ (by decide), fX11_countBytes_l5, if_pos (by decide), Option.bind_some, Nat.zero_add]
  rfl
theorem rb_step (x : Int32) (n c : Nat) {s : Int32} (hs : ¬ (4 : Int32) ≤ s) (σ : Mem) : fX12_bytesOf_l4 x (n + 1) (ι c) s σ = fX12_bytesOf_l4 x n (ι (c + bz (sb x ((8 : Int32) * s)))) (s + (1 : Int32)) σ := by
  rw [fX12_bytesOf_l4, if_neg hs]
  unfold bz sb
  by_cases h : ((x >>> (((8 : Int32) * s) &&& 31)) &&& (255 : Int32)) = 0
  · rw [if_pos h, if_pos h, l_0, ι_add]
  · rw [if_neg h, if_neg h, l_1, ι_add]
theorem r_bytesOf (x : Int32) (σ : Mem) : fX12_bytesOf x σ = some (ι (bc x)) := by
  unfold fX12_bytesOf
  rw [show FU = 4091 + 1 + 1 + 1 + 1 + 1 from rfl, l_0, rb_step x _ _ (by decide), rb_step x _ _ (by decide), rb_step x _ _ (by decide), rb_step x _ _ (by decide), fX12_bytesOf_l4, if_pos (by decide), Option.bind_some, Nat.zero_add]
  show some (ι (bz (sb x (ι 0)) + bz (sb x (ι 8)) + bz (sb x (ι 16)) + bz (sb x (ι 24)))) = _
  rw [← ub_sb x (by omega), ← ub_sb x (by omega), ← ub_sb x (by omega), ← ub_sb x (by omega)]
  unfold bc
  congr 2; omega
def IRm (σ τ : Mem) (m : Nat) : Prop := m ≤ 600 ∧ σ 33 1 = ι m ∧ τ 0 12 = ι m ∧ ∀ i, i < m → ∃ b, 1 ≤ b ∧ b < 256 ∧ σ 34 i = ι b ∧ τ 7 i = sx b
def frI (σ ρ : Mem) : Prop := ∀ j, j ≠ 33 → j ≠ 34 → ρ j = σ j
def frJ (τ υ : Mem) : Prop := ∀ k j, ¬ (k = 7 ∨ (k = 0 ∧ j = 12)) → υ k j = τ k j
theorem ab_step (x : Int32) (n : Nat) {s : Nat} (hs : s ≤ 24) (σ τ : Mem) {m : Nat} (h : IRm σ τ m) (hm : m + bz (ub x (ι s)) ≤ 600) : ∃ ρ υ, fX11_addBytes_l3 0 x (n + 1) (ι s) σ = fX11_addBytes_l3 0 x n (ι s + (-8 : Int32)) ρ ∧ fX12_brings_l3 x (n + 1) (ι s) τ = fX12_brings_l3 x n (ι s + (-8 : Int32)) υ ∧ IRm ρ υ (m + bz (ub x (ι s))) ∧ frI σ ρ ∧ frJ τ υ := by
  have hs' : ¬ ι s < 0 := by simp (disch := omega) only [l_0, l_1, l_2, l_3, l_4, l_5, l_6, l_7, l_8, l_9, l_10, l_12, l_13, l_24, l_31, l_32, l_40, l_41, l_42, l_44, l_45, l_48, l_49, l_50, l_57, l_59, l_60, l_65, l_88, l_89, l_97, l_98, l_99, l_100, l_105, l_108, l_109, l_114, l_118, l_120, l_122, l_144, l_255, l_269, l_279, l_339, l_400, l_600, l_999, l_1000, l_2373, l_2712, ι_lt, ι_le, ι_eq, ι_add, ι_mul, ι_sub, ι_div, ι_n, ι_m1, m1_ι, m1_lt, m1_le, lt_m1, le_m1, m1_lt_m1, m1_le_m1, m1_add1, neg_ι1, ι_addm, ι_addn, Bool.false_eq_true, Nat.not_lt_zero, Nat.add_zero, Nat.zero_add, Nat.mul_zero, Nat.reduceMul, Nat.reduceAdd, Nat.reduceSub, Nat.reduceLT, Nat.reduceLeDiff, Nat.reduceEqDiff, Nat.reduceDiv, Nat.reduceBEq, Nat.reduceBNe, false_or, or_false, true_or, or_true, and_true, true_and, false_and, and_false, not_false_eq_true, not_true_eq_false, if_true, if_false, if_pos, if_neg, Option.bind_some, ite_false, ite_true, eq_self, reduceIte]
  rw [fX11_addBytes_l3, fX12_brings_l3, if_neg hs', if_neg hs', Nat.zero_add]
  have e1 : (((x.toUInt32 >>> ((ι s).toUInt32 &&& Int32.toUInt32 31)).toInt32) &&& (255 : Int32)) = ub x (ι s) := rfl
  have e2 : ((x >>> (ι s &&& 31)) &&& (255 : Int32)) = ub x (ι s) := (ub_sb x hs).symm
  rw [e1, e2]
  revert hm
  obtain ⟨b, b1, b2⟩ := ub_r x (ι s)
  rw [b2]
  unfold bz
  by_cases h0 : ι b = 0
  · rw [if_pos h0, if_pos h0, if_pos h0]
    intro _
    exact ⟨σ, τ, rfl, rfl, h, fun _ _ _ => rfl, fun _ _ _ => rfl⟩
  · rw [if_neg h0, if_neg h0, if_neg h0]
    intro hm
    have hb : 1 ≤ b := by
      rcases Nat.eq_zero_or_pos b with z | z
      · exact absurd (by rw [z]; rfl) h0
      · exact z
    obtain ⟨i1, i2, i3, i4⟩ := h
    rw [c_tadd ln34 (by omega) (show m < 600 by omega) i2, show (33 + 1 : Nat) = 34 from rfl, Option.bind_some, i3]
    simp (disch := omega) only [l_0, l_1, l_2, l_3, l_4, l_5, l_6, l_7, l_8, l_9, l_10, l_12, l_13, l_24, l_31, l_32, l_40, l_41, l_42, l_44, l_45, l_48, l_49, l_50, l_57, l_59, l_60, l_65, l_88, l_89, l_97, l_98, l_99, l_100, l_105, l_108, l_109, l_114, l_118, l_120, l_122, l_144, l_255, l_269, l_279, l_339, l_400, l_600, l_999, l_1000, l_2373, l_2712, ι_lt, ι_le, ι_eq, ι_add, ι_mul, ι_sub, ι_div, ι_n, ι_m1, m1_ι, m1_lt, m1_le, lt_m1, le_m1, m1_lt_m1, m1_le_m1, m1_add1, neg_ι1, ι_addm, ι_addn, Bool.false_eq_true, Nat.not_lt_zero, Nat.add_zero, Nat.zero_add, Nat.mul_zero, Nat.reduceMul, Nat.reduceAdd, Nat.reduceSub, Nat.reduceLT, Nat.reduceLeDiff, Nat.reduceEqDiff, Nat.reduceDiv, Nat.reduceBEq, Nat.reduceBNe, false_or, or_false, true_or, or_true, and_true, true_and, false_and, and_false, not_false_eq_true, not_true_eq_false, if_true, if_false, if_pos, if_neg, Option.bind_some, ite_false, ite_true, eq_self, reduceIte, lm_0, lm_1, lm_2, lm_3, lm_4, lm_5, lm_6, lm_7, lm_8, lm_9, lm_10, lm_11, lm_12, lm_13, lm_14, lm_15, lm_16, lm_17, up_k, i3]
    refine ⟨_, _, rfl, rfl, ⟨by omega, up_e _ _ _ _, up_e _ _ _ _, fun i hi => ?_⟩, fun j h1 h2 => ?_, fun k j hk => ?_⟩
    · rw [up_k _ 33 1 _ 34 (by omega), up_k _ 0 12 _ 7 (by omega)]
      by_cases him : i = m
      · subst him
        exact ⟨b, hb, b1, up_e _ _ _ _, (up_e _ _ _ _).trans (pk_vb _)⟩
      · rw [up_j _ _ _ _ _ him, up_j _ _ _ _ _ him]
        exact i4 i (by omega)
    · rw [up_k _ _ _ _ _ (by omega), up_k _ _ _ _ _ (by omega)]
    · rw [up_g, if_neg (by omega), up_g, if_neg (by omega)]
theorem addBytes_sim (x : Int32) (σ τ : Mem) {m : Nat} (h : IRm σ τ m) (hm : m + bc x ≤ 600) : ∃ ρ υ, fX11_addBytes 0 x σ = some ρ ∧ fX12_brings x τ = some υ ∧ IRm ρ υ (m + bc x) ∧ frI σ ρ ∧ frJ τ υ := by
  unfold bc at *
  obtain ⟨ρ1, υ1, a1, a2, a3, a4, a5⟩ := ab_step x (4091 + 1 + 1 + 1 + 1) (s := 24) (by omega) σ τ h (by omega)
  obtain ⟨ρ2, υ2, b1, b2, b3, b4, b5⟩ := ab_step x (4091 + 1 + 1 + 1) (s := 16) (by omega) ρ1 υ1 a3 (by omega)
  obtain ⟨ρ3, υ3, c1, c2, c3, c4, c5⟩ := ab_step x (4091 + 1 + 1) (s := 8) (by omega) ρ2 υ2 b3 (by omega)
  obtain ⟨ρ4, υ4, d1, d2, d3, d4, d5⟩ := ab_step x (4091 + 1) (s := 0) (by omega) ρ3 υ3 c3 (by omega)
  have e1 : ι 24 + (-8 : Int32) = ι 16 := by decide
  have e2 : ι 16 + (-8 : Int32) = ι 8 := by decide
  have e3 : ι 8 + (-8 : Int32) = ι 0 := by decide
  have e4 : ι 0 + (-8 : Int32) < 0 := by decide
  rw [e1] at a1 a2
  rw [e2] at b1 b2
  rw [e3] at c1 c2
  refine ⟨ρ4, υ4, ?_, ?_, by rw [show m + (bz (ub x (ι 24)) + bz (ub x (ι 16)) + bz (ub x (ι 8)) + bz (ub x (ι 0))) = m + bz (ub x (ι 24)) + bz (ub x (ι 16)) + bz (ub x (ι 8)) + bz (ub x (ι 0)) by omega]; exact d3, fun j h1 h2 => (d4 j h1 h2).trans ((c4 j h1 h2).trans ((b4 j h1 h2).trans (a4 j h1 h2))), fun k j h1 => (d5 k j h1).trans ((c5 k j h1).trans ((b5 k j h1).trans (a5 k j h1)))⟩
  · unfold fX11_addBytes
    rw [show FU = 4091 + 1 + 1 + 1 + 1 + 1 from rfl, l_24, a1, b1, c1, d1, fX11_addBytes_l3, if_pos e4, Option.bind_some]
  · unfold fX12_brings
    rw [show FU = 4091 + 1 + 1 + 1 + 1 + 1 from rfl, l_24, a2, b2, c2, d2, fX12_brings_l3, if_pos e4, Option.bind_some]
theorem sim0 : Sim0 Rel := by
  intro σ τ x1 x2 x3 x4 x5 hR
  replace hR := Rel_0 hR 0
  unfold fX12_append fX11_append
  have h00 : up τ 0 0 0 0 0 = 0 := up_e _ _ _ _
  generalize up τ 0 0 (0 : Int32) = τ at *
  have hR' := hR
  obtain ⟨k, n, hr, hC⟩ := hR'
  obtain ⟨mi, i1, i2, i3, i4⟩ := hr.2.2.2.2.1
  have q1 := bc_le x1
  have q2 := bc_le x2
  have q3 := bc_le x3
  have q4 := bc_le x4
  have q5 := bc_le x5
  unfold fX8_size
  simp only [c_countBytes, r_bytesOf, Option.bind_some, Nat.zero_add, i2, i3, ι_add, ref_fails]
  rw [show mi + (bc x1 + bc x2 + bc x3 + bc x4 + bc x5) = mi + bc x1 + bc x2 + bc x3 + bc x4 + bc x5 by omega]
  by_cases hm : mi + bc x1 + bc x2 + bc x3 + bc x4 + bc x5 ≤ 600
  · have hm' : ι (mi + bc x1 + bc x2 + bc x3 + bc x4 + bc x5) ≤ (600 : Int32) := by
      rw [l_600, ι_le (by omega) (by omega)]; exact hm
    rw [if_pos hm', if_pos hm']
    obtain ⟨ρ1, υ1, a1, a2, a3, a4, a5⟩ := addBytes_sim x1 σ τ ⟨i1, i2, i3, i4⟩ (by omega)
    obtain ⟨ρ2, υ2, b1, b2, b3, b4, b5⟩ := addBytes_sim x2 ρ1 υ1 a3 (by omega)
    obtain ⟨ρ3, υ3, c1, c2, c3, c4, c5⟩ := addBytes_sim x3 ρ2 υ2 b3 (by omega)
    obtain ⟨ρ4, υ4, d1, d2, d3, d4, d5⟩ := addBytes_sim x4 ρ3 υ3 c3 (by omega)
    obtain ⟨ρ5, υ5, g1, g2, g3, g4, g5⟩ := addBytes_sim x5 ρ4 υ4 d3 (by omega)
    have f1 : frI σ ρ5 := fun j h1 h2 => (g4 j h1 h2).trans ((d4 j h1 h2).trans ((c4 j h1 h2).trans ((b4 j h1 h2).trans (a4 j h1 h2))))
    have f2 : frJ τ υ5 := fun k j h1 => (g5 k j h1).trans ((d5 k j h1).trans ((c5 k j h1).trans ((b5 k j h1).trans (a5 k j h1))))
    rw [a1, a2, Option.bind_some, Option.bind_some, b1, b2, Option.bind_some, Option.bind_some, c1, c2, Option.bind_some, Option.bind_some, d1, d2, Option.bind_some, Option.bind_some, g1, g2, Option.bind_some, Option.bind_some]
    refine ⟨_, _, 0, rfl, rfl, Or.inl ⟨_, rfl, rfl⟩, fun v hv => ?_, ?_, ?_⟩
    · cases hv
      show υ5 0 12 = ρ5 33 1
      rw [g3.2.1, g3.2.2.1]
    · show υ5 0 0 = 0
      rw [f2 0 0 (by omega)]; exact h00
    · show Rel ρ5 υ5
      exact Rel_parts hR (fun j hj => f1 j (by omega) (by omega)) (fun k j hk => f2 k j (by omega)) ⟨_, g3⟩ (FR_c hr.2.2.2.2.2.1 (f1 35 (by omega) (by omega)) (f1 36 (by omega) (by omega)) (f2 0 20 (by omega)) (funext fun j => f2 9 j (by omega))) (Tx_c hr.2.2.2.2.2.2.1 (f1 37 (by omega) (by omega))) (Tx_c hr.2.2.2.2.2.2.2.1 (f1 39 (by omega) (by omega)))
  · have hm' : ¬ ι (mi + bc x1 + bc x2 + bc x3 + bc x4 + bc x5) ≤ (600 : Int32) := by
      rw [l_600, ι_le (by omega) (by omega)]; exact hm
    rw [if_neg hm', if_neg hm']
    exact ⟨_, _, 1, rfl, rfl, Or.inr ⟨rfl, rfl⟩, fun v hv => (by cases hv), z_bad, Rel_0 hR _⟩

/-! PURE PART: scans change places -/
def sw (p q i : Nat) : Nat := if i = p then q else if i = q then p else i
def mv (s t i : Nat) : Nat := if i = t then s else if s ≤ i ∧ i < t then i + 1 else if t < i ∧ i ≤ s then i - 1 else i
theorem mv_self (k i : Nat) : mv k k i = i := by
  unfold mv; repeat' split
  all_goals omega
theorem mv_up {k t : Nat} (h : k < t) (i : Nat) : sw k (k + 1) (mv (k + 1) t i) = mv k t i := by
  unfold mv sw; repeat' split
  all_goals omega
theorem mv_dn {k t : Nat} (h : t < k) (i : Nat) : sw k (k - 1) (mv (k - 1) t i) = mv k t i := by
  unfold mv sw; repeat' split
  all_goals omega
theorem mv_lt {s t i d : Nat} (hs : s < d) (ht : t < d) (hi : i < d) : mv s t i < d := by
  unfold mv; repeat' split
  all_goals omega
def SW (τ υ : Mem) (p : Nat → Nat) : Prop := (∀ i w, i < 60 → w < 3 → υ 3 (89 + 3 * i + w) = τ 3 (89 + 3 * p i + w)) ∧ ∀ k j, ¬ (k = 3 ∧ 89 ≤ j ∧ j < 269) → υ k j = τ k j
def CSW (σ ρ : Mem) (p : Nat → Nat) : Prop := (∀ i, i < 60 → ρ 64 i = σ 64 (p i) ∧ ρ 66 i = σ 66 (p i) ∧ ρ 68 i = σ 68 (p i)) ∧ ∀ j, j ≠ 64 → j ≠ 66 → j ≠ 68 → ρ j = σ j
theorem SW_comp {τ υ ω : Mem} {p q r : Nat → Nat} (h1 : SW τ υ p) (h2 : SW υ ω q) (hq : ∀ i, i < 60 → q i < 60) (hr : ∀ i, i < 60 → p (q i) = r i) : SW τ ω r := by
  refine ⟨fun i w hi hw => ?_, fun k j hk => (h2.2 k j hk).trans (h1.2 k j hk)⟩
  rw [h2.1 i w hi hw, h1.1 (q i) w (hq i hi) hw, hr i hi]
theorem sw_step {p q w : Nat} (hp : p < 60) (hq : q < 60) (hw : w < 3) (n : Nat) (τ : Mem) : fX12_swaps_l2 (ι p) (ι q) (n + 1) (ι w) τ = fX12_swaps_l2 (ι p) (ι q) n (ι (w + 1)) (up (up τ 3 (89 + 3 * p + w) (τ 3 (89 + 3 * q + w))) 3 (89 + 3 * q + w) (τ 3 (89 + 3 * p + w))) := by
  rw [fX12_swaps_l2, r_ofScan hp hw, r_ofScan hq hw]
  simp (disch := omega) only [l_0, l_1, l_2, l_3, l_4, l_5, l_6, l_7, l_8, l_9, l_10, l_12, l_13, l_24, l_31, l_32, l_40, l_41, l_42, l_44, l_45, l_48, l_49, l_50, l_57, l_59, l_60, l_65, l_88, l_89, l_97, l_98, l_99, l_100, l_105, l_108, l_109, l_114, l_118, l_120, l_122, l_144, l_255, l_269, l_279, l_339, l_400, l_600, l_999, l_1000, l_2373, l_2712, ι_lt, ι_le, ι_eq, ι_add, ι_mul, ι_sub, ι_div, ι_n, ι_m1, m1_ι, m1_lt, m1_le, lt_m1, le_m1, m1_lt_m1, m1_le_m1, m1_add1, neg_ι1, ι_addm, ι_addn, Bool.false_eq_true, Nat.not_lt_zero, Nat.add_zero, Nat.zero_add, Nat.mul_zero, Nat.reduceMul, Nat.reduceAdd, Nat.reduceSub, Nat.reduceLT, Nat.reduceLeDiff, Nat.reduceEqDiff, Nat.reduceDiv, Nat.reduceBEq, Nat.reduceBNe, false_or, or_false, true_or, or_true, and_true, true_and, false_and, and_false, not_false_eq_true, not_true_eq_false, if_true, if_false, if_pos, if_neg, Option.bind_some, ite_false, ite_true, eq_self, reduceIte, lm_0, lm_1, lm_2, lm_3, lm_4, lm_5, lm_6, lm_7, lm_8, lm_9, lm_10, lm_11, lm_12, lm_13, lm_14, lm_15, lm_16, lm_17]
theorem r_swaps {p q : Nat} (hp : p < 60) (hq : q < 60) (hpq : p ≠ q) (τ : Mem) : ∃ υ, fX12_swaps (ι p) (ι q) τ = some υ ∧ SW τ υ (sw p q) := by
  have key : ∃ υ, fX12_swaps (ι p) (ι q) τ = some υ ∧ υ = (up (up (up (up (up (up τ 3 (89 + 3 * p + 0) (τ 3 (89 + 3 * q + 0))) 3 (89 + 3 * q + 0) (τ 3 (89 + 3 * p + 0))) 3 (89 + 3 * p + 1) (τ 3 (89 + 3 * q + 1))) 3 (89 + 3 * q + 1) (τ 3 (89 + 3 * p + 1))) 3 (89 + 3 * p + 2) (τ 3 (89 + 3 * q + 2))) 3 (89 + 3 * q + 2) (τ 3 (89 + 3 * p + 2))) := by
    unfold fX12_swaps
    rw [show FU = 4092 + 1 + 1 + 1 + 1 from rfl, l_0, sw_step hp hq (by omega), sw_step hp hq (by omega), sw_step hp hq (by omega), fX12_swaps_l2, if_pos (by decide)]
    refine ⟨_, rfl, ?_⟩
    simp (disch := omega) only [Nat.zero_add, Nat.reduceAdd, up_j]
  obtain ⟨υ, h1, h2⟩ := key
  refine ⟨υ, h1, fun i w hi hw => ?_, fun k j hk => ?_⟩
  · rw [h2]
    rcases (show w = 0 ∨ w = 1 ∨ w = 2 by omega) with z | z | z <;> subst z <;> unfold sw
    all_goals
      by_cases h1 : i = p
      · subst h1; simp (disch := omega) only [up_g, if_pos, if_neg, true_and, and_true, false_and, and_false, if_true, if_false, reduceIte]
      · by_cases h2 : i = q
        · subst h2; simp (disch := omega) only [up_g, if_pos, if_neg, true_and, and_true, false_and, and_false, if_true, if_false, reduceIte]
        · simp (disch := omega) only [up_g, if_pos, if_neg, true_and, and_true, false_and, and_false, if_true, if_false, reduceIte]
  · rw [h2]
    simp (disch := omega) only [up_g, if_pos, if_neg, true_and, and_true, false_and, and_false, if_true, if_false, reduceIte]
theorem r_goes_up {t : Nat} (ht : t < 60) : ∀ m n k (τ : Mem), k + m = t → m < n → ∃ z υ, fX12_goes_l14 (ι t) (ι 1) n (ι k) τ = some (z, υ) ∧ SW τ υ (mv k t) := by
  intro m
  induction m with
  | zero =>
    intro n k τ h hn
    obtain ⟨n, rfl⟩ : ∃ k, n = k + 1 := ⟨n - 1, by omega⟩
    have e : k = t := by omega
    subst e
    rw [fX12_goes_l14, if_pos rfl]
    exact ⟨_, _, rfl, fun i w hi hw => by rw [mv_self], fun _ _ _ => rfl⟩
  | succ m ih =>
    intro n k τ h hn
    obtain ⟨n, rfl⟩ : ∃ k, n = k + 1 := ⟨n - 1, by omega⟩
    obtain ⟨τ1, a1, a2⟩ := r_swaps (p := k) (q := k + 1) (by omega) (by omega) (by omega) τ
    obtain ⟨z, υ, b1, b2⟩ := ih n (k + 1) τ1 (by omega) (by omega)
    refine ⟨z, υ, ?_, SW_comp a2 b2 (fun i hi => mv_lt (by omega) (by omega) hi) (fun i hi => mv_up (by omega) i)⟩
    rw [fX12_goes_l14, if_neg (by rw [ι_eq (by omega) (by omega)]; omega), ι_add, a1, Option.bind_some]
    exact b1
theorem r_goes_dn {t : Nat} : ∀ m n k (τ : Mem), k = t + m → k < 60 → m < n → ∃ z υ, fX12_goes_l14 (ι t) μ n (ι k) τ = some (z, υ) ∧ SW τ υ (mv k t) := by
  intro m
  induction m with
  | zero =>
    intro n k τ h hk hn
    obtain ⟨n, rfl⟩ : ∃ k, n = k + 1 := ⟨n - 1, by omega⟩
    have e : k = t := by omega
    subst e
    rw [fX12_goes_l14, if_pos rfl]
    exact ⟨_, _, rfl, fun i w hi hw => by rw [mv_self], fun _ _ _ => rfl⟩
  | succ m ih =>
    intro n k τ h hk hn
    obtain ⟨n, rfl⟩ : ∃ k, n = k + 1 := ⟨n - 1, by omega⟩
    obtain ⟨τ1, a1, a2⟩ := r_swaps (p := k) (q := k - 1) (by omega) (by omega) (by omega) τ
    obtain ⟨z, υ, b1, b2⟩ := ih n (k - 1) τ1 (by omega) (by omega) (by omega)
    refine ⟨z, υ, ?_, SW_comp a2 b2 (fun i hi => mv_lt (by omega) (by omega) hi) (fun i hi => mv_dn (by omega) i)⟩
    rw [fX12_goes_l14, if_neg (by rw [ι_eq (by omega) (by omega)]; omega), ι_addm (by omega), a1, Option.bind_some]
    exact b1
theorem r_goesS {s t : Nat} (hs : s < 60) (ht : t < 60) (τ : Mem) : ∃ υ, fX12_goes (ι s) (ι t) τ = some υ ∧ SW τ υ (mv s t) := by
  unfold fX12_goes fX12_goes_j10
  by_cases h : t ≤ s
  · rw [if_pos (by rw [ι_le (by omega) (by omega)]; exact h)]
    obtain ⟨z, υ, a1, a2⟩ := r_goes_dn (t := t) (s - t) FU s τ (by omega) hs (by unfold FU; omega)
    have a1 : fX12_goes_l14 (ι t) (-1) FU (ι s) τ = _ := a1
    exact ⟨υ, by rw [a1]; rfl, a2⟩
  · rw [if_neg (by rw [ι_le (by omega) (by omega)]; exact h)]
    obtain ⟨z, υ, a1, a2⟩ := r_goes_up ht (t - s) FU s τ (by omega) (by unfold FU; omega)
    have a1 : fX12_goes_l14 (ι t) 1 FU (ι s) τ = _ := a1
    exact ⟨υ, by rw [a1]; rfl, a2⟩
def R3 (k : Nat) : Prop := k = 64 ∨ k = 66 ∨ k = 68
theorem ln64 : ln (62 + 1 + 1) = 60 := by decide
theorem ln66 : ln (62 + 3 + 1) = 60 := by decide
theorem ln68 : ln (62 + 5 + 1) = 60 := by decide
theorem c_rowAt {δ f : Nat} (hδ : δ = 0 ∨ δ = 10) (hf : f < 60) (σ : Mem) : fX5_kindOf (62 + δ) (ι f) σ = some (σ (64 + δ) f) ∧ fX5_firstOf (62 + δ) (ι f) σ = some (σ (66 + δ) f) ∧ fX5_secondOf (62 + δ) (ι f) σ = some (σ (68 + δ) f) := by
  unfold fX5_kindOf fX5_firstOf fX5_secondOf
  rcases hδ with rfl | rfl
  · rw [c_at (show ln (62 + 0 + 1 + 1) = 60 by decide) (by omega) hf, c_at (show ln (62 + 0 + 3 + 1) = 60 by decide) (by omega) hf, c_at (show ln (62 + 0 + 5 + 1) = 60 by decide) (by omega) hf]
    exact ⟨rfl, rfl, rfl⟩
  · rw [c_at (show ln (62 + 10 + 1 + 1) = 60 by decide) (by omega) hf, c_at (show ln (62 + 10 + 3 + 1) = 60 by decide) (by omega) hf, c_at (show ln (62 + 10 + 5 + 1) = 60 by decide) (by omega) hf]
    exact ⟨rfl, rfl, rfl⟩
theorem c_rput {t : Nat} (ht : t < 60) (x y z : Int32) (σ : Mem) : fX5_put 62 (ι t) x y z σ = some (up (up (up σ 64 t x) 66 t y) 68 t z) := by
  unfold fX5_put
  rw [c_put ln64 (by omega) ht, Option.bind_some, c_put ln66 (by omega) ht, Option.bind_some, c_put ln68 (by omega) ht, Option.bind_some]
theorem c_putFrom {δ f t : Nat} (hδ : δ = 0 ∨ δ = 10) (hf : f < 60) (ht : t < 60) (σ : Mem) : ∃ ρ, fX5_putFrom 62 (62 + δ) (ι f) (ι t) σ = some ρ ∧ (∀ k, R3 k → ρ k t = σ (k + δ) f) ∧ ∀ k j, ¬ (R3 k ∧ j = t) → ρ k j = σ k j := by
  obtain ⟨h1, h2, h3⟩ := c_rowAt hδ hf σ
  refine ⟨up (up (up σ 64 t (σ (64 + δ) f)) 66 t (σ (66 + δ) f)) 68 t (σ (68 + δ) f), ?_, fun k hk => ?_, fun k j hk => ?_⟩
  · unfold fX5_putFrom
    rw [h1, Option.bind_some, h2, Option.bind_some, h3, Option.bind_some, c_rput ht, Option.bind_some]
  · rcases hk with rfl | rfl | rfl
    · simp (disch := omega) only [up_g, if_pos, if_neg, true_and, and_true, false_and, and_false, if_true, if_false, reduceIte]
    · simp (disch := omega) only [up_g, if_pos, if_neg, true_and, and_true, false_and, and_false, if_true, if_false, reduceIte]
    · simp (disch := omega) only [up_g, if_pos, if_neg, true_and, and_true, false_and, and_false, if_true, if_false, reduceIte]
  · unfold R3 at hk
    simp (disch := omega) only [up_g, if_pos, if_neg, true_and, and_true, false_and, and_false, if_true, if_false, reduceIte]
theorem sh_up {x1 x3 x4 x5 : Int32} {t : Nat} (ht : t < 60) : ∀ m n i (σ : Mem), i + m = t → m < n → ∃ z ρ, fX5_shift_l23 62 x1 (ι t) x3 x4 x5 n (ι i) σ = some (z, ρ) ∧ (∀ k j, R3 k → i ≤ j → j < t → ρ k j = σ k (j + 1)) ∧ ∀ k j, ¬ (R3 k ∧ i ≤ j ∧ j < t) → ρ k j = σ k j := by
  intro m
  induction m with
  | zero =>
    intro n i σ h hn
    obtain ⟨n, rfl⟩ : ∃ k, n = k + 1 := ⟨n - 1, by omega⟩
    rw [fX5_shift_l23, if_pos (by rw [ι_le (by omega) (by omega)]; omega)]
    exact ⟨_, _, rfl, fun k j _ h1 h2 => by omega, fun _ _ _ => rfl⟩
  | succ m ih =>
    intro n i σ h hn
    obtain ⟨n, rfl⟩ : ∃ k, n = k + 1 := ⟨n - 1, by omega⟩
    obtain ⟨σ1, a1, a2, a3⟩ := c_putFrom (δ := 0) (f := i + 1) (t := i) (Or.inl rfl) (by omega) (by omega) σ
    have a1 : fX5_putFrom 62 62 (ι (i + 1)) (ι i) σ = some σ1 := a1
    obtain ⟨z, ρ, b1, b2, b3⟩ := ih n (i + 1) σ1 (by omega) (by omega)
    refine ⟨z, ρ, ?_, fun k j hk h1 h2 => ?_, fun k j hk => ?_⟩
    · rw [fX5_shift_l23, if_neg (by rw [ι_le (by omega) (by omega)]; omega), l_1, ι_add, a1, Option.bind_some]
      exact b1
    · by_cases hj : j = i
      · subst hj
        rw [b3 k j (by omega), a2 k hk]; rfl
      · rw [b2 k j hk (by omega) h2, a3 k (j + 1) (by omega)]
    · rw [b3 k j (fun z => hk ⟨z.1, by omega, z.2.2⟩), a3 k j (fun z => hk ⟨z.1, by omega, by omega⟩)]
theorem sh_dn {x3 x4 x5 : Int32} {t : Nat} : ∀ m n i (σ : Mem), i = t + m → i < 60 → m < n → ∃ z ρ, fX5_shift_l49 62 (ι t) x3 x4 x5 n (ι i) σ = some (z, ρ) ∧ (∀ k j, R3 k → t < j → j ≤ i → ρ k j = σ k (j - 1)) ∧ ∀ k j, ¬ (R3 k ∧ t < j ∧ j ≤ i) → ρ k j = σ k j := by
  intro m
  induction m with
  | zero =>
    intro n i σ h hi hn
    obtain ⟨n, rfl⟩ : ∃ k, n = k + 1 := ⟨n - 1, by omega⟩
    rw [fX5_shift_l49, if_pos (by rw [ι_le (by omega) (by omega)]; omega)]
    exact ⟨_, _, rfl, fun k j _ h1 h2 => by omega, fun _ _ _ => rfl⟩
  | succ m ih =>
    intro n i σ h hi hn
    obtain ⟨n, rfl⟩ : ∃ k, n = k + 1 := ⟨n - 1, by omega⟩
    obtain ⟨σ1, a1, a2, a3⟩ := c_putFrom (δ := 0) (f := i - 1) (t := i) (Or.inl rfl) (by omega) (by omega) σ
    have a1 : fX5_putFrom 62 62 (ι (i - 1)) (ι i) σ = some σ1 := a1
    obtain ⟨z, ρ, b1, b2, b3⟩ := ih n (i - 1) σ1 (by omega) (by omega) (by omega)
    refine ⟨z, ρ, ?_, fun k j hk h1 h2 => ?_, fun k j hk => ?_⟩
    · rw [fX5_shift_l49, if_neg (by rw [ι_le (by omega) (by omega)]; omega), l_1, ι_sub (by omega), a1, Option.bind_some, neg_ι1, ι_addm (by omega)]
      exact b1
    · by_cases hj : j = i
      · subst hj
        rw [b3 k j (by omega), a2 k hk]; rfl
      · rw [b2 k j hk (by omega) (by omega), a3 k (j - 1) (by omega)]
    · rw [b3 k j (fun z => hk ⟨z.1, z.2.1, by omega⟩), a3 k j (fun z => hk ⟨z.1, by omega, by omega⟩)]
theorem c_shift {s t : Nat} (hs : s < 60) (ht : t < 60) (σ : Mem) : ∃ ρ, fX5_shift 62 (ι s) (ι t) σ = some ρ ∧ CSW σ ρ (mv s t) := by
  obtain ⟨h1, h2, h3⟩ := c_rowAt (δ := 0) (Or.inl rfl) hs σ
  have h1 : fX5_kindOf 62 (ι s) σ = some (σ 64 s) := h1
  have h2 : fX5_firstOf 62 (ι s) σ = some (σ 66 s) := h2
  have h3 : fX5_secondOf 62 (ι s) σ = some (σ 68 s) := h3
  obtain ⟨z1, ρ1, a1, a2, a3⟩ : ∃ z ρ, fX5_shift_l23 62 (ι s) (ι t) (σ 64 s) (σ 66 s) (σ 68 s) FU (ι s) σ = some (z, ρ) ∧ (∀ k j, R3 k → s ≤ j → j < t → ρ k j = σ k (j + 1)) ∧ ∀ k j, ¬ (R3 k ∧ s ≤ j ∧ j < t) → ρ k j = σ k j := by
    by_cases h : s ≤ t
    · exact sh_up ht (t - s) FU s σ (by omega) (by unfold FU; omega)
    · rw [show FU = 4095 + 1 from rfl, fX5_shift_l23, if_pos (by rw [ι_le (by omega) (by omega)]; omega)]
      exact ⟨_, _, rfl, fun k j _ h1 h2 => by omega, fun _ _ _ => rfl⟩
  obtain ⟨z2, ρ2, b1, b2, b3⟩ : ∃ z ρ, fX5_shift_l49 62 (ι t) (σ 64 s) (σ 66 s) (σ 68 s) FU (ι s) ρ1 = some (z, ρ) ∧ (∀ k j, R3 k → t < j → j ≤ s → ρ k j = ρ1 k (j - 1)) ∧ ∀ k j, ¬ (R3 k ∧ t < j ∧ j ≤ s) → ρ k j = ρ1 k j := by
    by_cases h : t ≤ s
    · exact sh_dn (s - t) FU s ρ1 (by omega) hs (by unfold FU; omega)
    · rw [show FU = 4095 + 1 from rfl, fX5_shift_l49, if_pos (by rw [ι_le (by omega) (by omega)]; omega)]
      exact ⟨_, _, rfl, fun k j _ h1 h2 => by omega, fun _ _ _ => rfl⟩
  refine ⟨up (up (up ρ2 64 t (σ 64 s)) 66 t (σ 66 s)) 68 t (σ 68 s), ?_, ?_, fun j h1 h2 h3 => ?_⟩
  · unfold fX5_shift
    rw [h1, Option.bind_some, h2, Option.bind_some, h3, Option.bind_some, a1, Option.bind_some, b1, Option.bind_some, c_rput ht, Option.bind_some]
  · have key : ∀ k, R3 k → ∀ i, i ≠ t → ρ2 k i = σ k (mv s t i) := fun k hk i hit => by
      unfold mv
      rw [if_neg hit]
      by_cases g1 : s ≤ i ∧ i < t
      · rw [if_pos g1, b3 k i (by omega), a2 k i hk g1.1 g1.2]
      · rw [if_neg g1]
        by_cases g2 : t < i ∧ i ≤ s
        · rw [if_pos g2, b2 k i hk g2.1 g2.2, a3 k (i - 1) (by omega)]
        · rw [if_neg g2, b3 k i (by omega), a3 k i (by omega)]
    intro i hi
    by_cases hit : i = t
    · have e : mv s t i = s := by unfold mv; rw [if_pos hit]
      rw [e]
      subst hit
      refine ⟨?_, ?_, ?_⟩
      · simp (disch := omega) only [up_g, if_pos, if_neg, true_and, and_true, false_and, and_false, if_true, if_false, reduceIte]
      · simp (disch := omega) only [up_g, if_pos, if_neg, true_and, and_true, false_and, and_false, if_true, if_false, reduceIte]
      · simp (disch := omega) only [up_g, if_pos, if_neg, true_and, and_true, false_and, and_false, if_true, if_false, reduceIte]
    · rw [← key 64 (Or.inl rfl) i hit, ← key 66 (Or.inr (Or.inl rfl)) i hit, ← key 68 (Or.inr (Or.inr rfl)) i hit]
      refine ⟨?_, ?_, ?_⟩
      · simp (disch := omega) only [up_g, if_pos, if_neg, true_and, and_true, false_and, and_false, if_true, if_false, reduceIte]
      · simp (disch := omega) only [up_g, if_pos, if_neg, true_and, and_true, false_and, and_false, if_true, if_false, reduceIte]
      · simp (disch := omega) only [up_g, if_pos, if_neg, true_and, and_true, false_and, and_false, if_true, if_false, reduceIte]
  · rw [up_k _ _ _ _ _ (by omega), up_k _ _ _ _ _ (by omega), up_k _ _ _ _ _ (by omega)]
    refine funext fun i => ?_
    rw [b3 j i (by unfold R3; omega), a3 j i (by unfold R3; omega)]
theorem perm_RO {σ ρ τ υ : Mem} {k n a b d d' t : Nat} {p : Nat → Nat} (h : RO σ τ k n a b d t) (h1 : CSW σ ρ p) (h2 : SW τ υ p) (hd : d' ≤ d) (hp : ∀ i, i < d' → p i < d) : RO (up ρ 62 3 (ι d')) (up υ 3 2 (ι d')) k n a b d' t := by
  obtain ⟨hr, hF, hV, hL, hC, hW⟩ := h
  have hn := hr.1.2.2.2.2
  obtain ⟨f1, f2, f3, f4, f5, f6, f7, f8, f9, f10, f11, f12⟩ := hF
  have eF : ∀ j, j ≠ 2 → ¬ (89 ≤ j ∧ j < 269) → (up υ 3 2 (ι d')) 3 j = τ 3 j := fun j g1 g2 => by
    rw [up_j _ _ _ _ _ g1, h2.2 3 j (by omega)]
  have eS : ∀ i w, i < 60 → w < 3 → (up υ 3 2 (ι d')) 3 (89 + 3 * i + w) = τ 3 (89 + 3 * p i + w) := fun i w hi hw => by
    rw [up_j _ _ _ _ _ (by omega), h2.1 i w hi hw]
  have eM : ∀ j, j ≠ 62 → j ≠ 64 → j ≠ 66 → j ≠ 68 → (up ρ 62 3 (ι d')) j = σ j := fun j g1 g2 g3 g4 => by
    rw [up_k _ _ _ _ _ g1, h1.2 j g2 g3 g4]
  have e1 : up υ 3 2 (ι d') 1 = τ 1 := funext fun j => by rw [up_k _ _ _ _ _ (by omega), h2.2 1 j (by omega)]
  refine ⟨Rest_up hr (fun j hj => eM j (by omega) (by omega) (by omega) (by omega)) (fun k j hk => by rw [up_k _ _ _ _ _ hk, h2.2 k j (by omega)]), ⟨?_, f2, fun s hs => SlI_e (by omega) (f3 s hs) (fun j g1 g2 => eF j (by omega) (by omega)), ?_, f5, fun s hs => RgI_e (by omega) (f6 s hs) (fun j g1 g2 => eF j (by omega) (by omega)), up_e _ _ _ _, by omega, fun s hs => ?_, ?_, f11, fun j hj => ?_⟩, ?_, ?_, ?_, ?_⟩
  · rw [eF 0 (by omega) (by omega)]; exact f1
  · rw [eF 1 (by omega) (by omega)]; exact f4
  · have := f9 (p s) (hp s hs)
    rw [ScI_V] at this ⊢
    rw [eS s 1 (by omega) (by omega), eS s 2 (by omega) (by omega)]
    have e0 := eS s 0 (by omega) (by omega)
    rw [Nat.add_zero, Nat.add_zero] at e0
    rw [e0]; exact this
  · rw [eF 4 (by omega) (by omega)]; exact f10
  · rw [eF _ (by omega) (by omega)]; exact f12 j hj
  · rw [e1]
    exact VR_e hn f2 hV (fun j hj => eM _ (by omega) (by omega) (by omega) (by omega)) (fun j g1 g2 => eF j (by omega) (by omega)) (fun j g1 g2 => eF j (by omega) (by omega))
  · exact LR_e f5 hL (fun j hj => eM _ (by omega) (by omega) (by omega) (by omega)) (fun j g1 g2 => eF j (by omega) (by omega))
  · obtain ⟨c0, c1, c2, c3, c4⟩ := hC
    refine ⟨c0, up_e _ _ _ _, fun i hi => ?_, fun i hi => ?_, fun i hi => ?_⟩
    · have e0 := eS i 0 (by omega) (by omega)
      rw [Nat.add_zero, Nat.add_zero] at e0
      rw [up_k _ _ _ _ _ (by omega), e0]
      exact (h1.1 i (by omega)).1.trans (c2 _ (hp i hi))
    · rw [up_k _ _ _ _ _ (by omega), eS i 1 (by omega) (by omega)]
      exact (h1.1 i (by omega)).2.1.trans (c3 _ (hp i hi))
    · rw [up_k _ _ _ _ _ (by omega), eS i 2 (by omega) (by omega)]
      exact (h1.1 i (by omega)).2.2.trans (c4 _ (hp i hi))
  · exact WR_e f11 hW (fun j hj => eM _ (by omega) (by omega) (by omega) (by omega)) (eF 3 (by omega) (by omega)) (fun j g1 g2 => eF j (by omega) (by omega))
theorem sim12 : Sim12 Rel := by
  intro σ τ x1 hR
  replace hR := Rel_0 hR 0
  unfold fX12_removeScan fX11_removeScan
  have h00 : up τ 0 0 0 0 0 = 0 := up_e _ _ _ _
  generalize up τ 0 0 (0 : Int32) = τ at *
  obtain ⟨k, n, a, b, d, t, hO⟩ := RO_of hR
  obtain ⟨ρ, υ, e1, e2, hO2, u1, u2⟩ := keep_RO hO
  obtain ⟨hr, hF, hV, hL, hC, hW⟩ := hO
  have hd := hF.2.2.2.2.2.2.2.1
  have e10 : ¬ (ι 1 = (0 : Int32)) := by decide
  rcases leaf_cases x1 d with ⟨i, hi, rfl⟩ | hx
  · obtain ⟨r1, r2, r3⟩ := c_scanRow hd hC hi
    have q0 : fX12_ofScan (ι i) (0 : Int32) υ = some (τ 3 (89 + 3 * i)) := by rw [l_0, r_ofScan (by omega) (by omega), u2 3 _ (by omega)]; rfl
    have hu2 : υ 3 2 = ι d := hO2.2.1.2.2.2.2.2.2.1
    have hs3 : ρ 62 3 = ι d := hO2.2.2.2.2.1.2.1
    have ez : ¬ ((2 : Int32) < 0 ∨ lm 3 ≤ (2 : Int32).toNatClampNeg) := by decide
    have en : (2 : Int32).toNatClampNeg = 2 := rfl
    obtain ⟨ρ1, a1, a2⟩ := c_shift (s := i) (t := d - 1) (by omega) (by omega) ρ
    obtain ⟨υ1, b1, b2⟩ := r_goesS (s := i) (t := d - 1) (by omega) (by omega) υ
    have hP := perm_RO (d' := d - 1) hO2 a2 b2 (by omega) (fun j hj => mv_lt (by omega) (by omega) (by omega))
    have hdrop : fX5_dropAt 62 (ι i) ρ = some (up ρ1 62 3 (ι (d - 1))) := by
      unfold fX5_dropAt
      rw [hs3]
      simp (disch := omega) only [l_0, l_1, l_2, l_3, l_4, l_5, l_6, l_7, l_8, l_9, l_10, l_12, l_13, l_24, l_31, l_32, l_40, l_41, l_42, l_44, l_45, l_48, l_49, l_50, l_57, l_59, l_60, l_65, l_88, l_89, l_97, l_98, l_99, l_100, l_105, l_108, l_109, l_114, l_118, l_120, l_122, l_144, l_255, l_269, l_279, l_339, l_400, l_600, l_999, l_1000, l_2373, l_2712, ι_lt, ι_le, ι_eq, ι_add, ι_mul, ι_sub, ι_div, ι_n, ι_m1, m1_ι, m1_lt, m1_le, lt_m1, le_m1, m1_lt_m1, m1_le_m1, m1_add1, neg_ι1, ι_addm, ι_addn, Bool.false_eq_true, Nat.not_lt_zero, Nat.add_zero, Nat.zero_add, Nat.mul_zero, Nat.reduceMul, Nat.reduceAdd, Nat.reduceSub, Nat.reduceLT, Nat.reduceLeDiff, Nat.reduceEqDiff, Nat.reduceDiv, Nat.reduceBEq, Nat.reduceBNe, false_or, or_false, true_or, or_true, and_true, true_and, false_and, and_false, not_false_eq_true, not_true_eq_false, if_true, if_false, if_pos, if_neg, Option.bind_some, ite_false, ite_true, eq_self, reduceIte, a1]
      rw [a2.2 62 (by omega) (by omega) (by omega), hs3, ι_sub (by omega)]
    have hv : υ1 3 2 = ι d := by rw [b2.2 3 2 (by omega)]; exact hu2
    simp only [c_reqScan hd hC hi, r_isScan hF.2.2.2.2.2.2.1 hd (show i < 2147483648 by omega), if_pos hi, Option.bind_some, if_neg e10, Nat.zero_add, e1, e2, r1, q0, hdrop, if_neg ez, en, hu2, l_1, ι_sub (show 1 ≤ d by omega), b1, hv]
    refine ⟨_, _, 0, rfl, rfl, Or.inl ⟨_, rfl, rfl⟩, fun v hv => (by cases hv; rfl), ?_, RO_rel hP⟩
    show up υ1 3 2 (ι (d - 1)) 0 0 = 0
    rw [up_k _ _ _ _ _ (by omega), b2.2 0 0 (by omega), u2 0 0 (by omega)]; exact h00
  · rw [c_reqScan_no hd hC hx, r_isScan_no hF.2.2.2.2.2.2.1 hd hx]
    simp only [Option.bind_some, l_0, if_true, ref_fails]
    exact ⟨_, _, 1, rfl, rfl, Or.inr ⟨rfl, rfl⟩, fun v hv => (by cases hv), z_bad, Rel_0 hR _⟩
theorem sim13 : Sim13 Rel := by
  intro σ τ x1 x2 hR
  replace hR := Rel_0 hR 0
  unfold fX12_moveScan fX11_moveScan
  have h00 : up τ 0 0 0 0 0 = 0 := up_e _ _ _ _
  generalize up τ 0 0 (0 : Int32) = τ at *
  obtain ⟨k, n, a, b, d, t, hO⟩ := RO_of hR
  obtain ⟨ρ, υ, e1, e2, hO2, u1, u2⟩ := keep_RO hO
  obtain ⟨hr, hF, hV, hL, hC, hW⟩ := hO
  have hd := hF.2.2.2.2.2.2.2.1
  have e10 : ¬ (ι 1 = (0 : Int32)) := by decide
  rcases leaf_cases x1 d with ⟨i, hi, rfl⟩ | hx
  · rcases leaf_cases x2 d with ⟨j, hj, rfl⟩ | hx
    · have hu2 : υ 3 2 = ι d := hO2.2.1.2.2.2.2.2.2.1
      have hs3 : ρ 62 3 = ι d := hO2.2.2.2.2.1.2.1
      obtain ⟨ρ1, a1, a2⟩ := c_shift (s := i) (t := j) (by omega) (by omega) ρ
      obtain ⟨υ1, b1, b2⟩ := r_goesS (s := i) (t := j) (by omega) (by omega) υ
      have hP := perm_RO (d' := d) hO2 a2 b2 (Nat.le_refl d) (fun x hx => mv_lt (by omega) (by omega) (by omega))
      rw [show ι d = ρ1 62 3 by rw [a2.2 62 (by omega) (by omega) (by omega), hs3], up_self, show ρ1 62 3 = υ1 3 2 by rw [a2.2 62 (by omega) (by omega) (by omega), hs3, b2.2 3 2 (by omega), hu2], up_self] at hP
      obtain ⟨v, ρ2, ω, c1, c2, c3, c4⟩ := inv_RO hP
      simp only [c_reqScan hd hC hi, c_reqScan hd hC hj, r_isScan hF.2.2.2.2.2.2.1 hd (show i < 2147483648 by omega), r_isScan hF.2.2.2.2.2.2.1 hd (show j < 2147483648 by omega), if_pos hi, if_pos hj, Option.bind_some, if_neg e10, Nat.zero_add, e1, e2, a1, b1, c1, c2]
      refine ⟨_, _, 0, rfl, rfl, Or.inl ⟨_, rfl, rfl⟩, fun v hv => (by cases hv; rfl), ?_, c4⟩
      show ω 0 0 = 0
      rw [c3, b2.2 0 0 (by omega), u2 0 0 (by omega)]; exact h00
    · simp only [c_reqScan hd hC hi, c_reqScan_no hd hC hx, r_isScan hF.2.2.2.2.2.2.1 hd (show i < 2147483648 by omega), if_pos hi, if_neg e10, r_isScan_no hF.2.2.2.2.2.2.1 hd hx, Option.bind_some, l_0, if_true, ref_fails]
      exact ⟨_, _, 1, rfl, rfl, Or.inr ⟨rfl, rfl⟩, fun v hv => (by cases hv), z_bad, Rel_0 hR _⟩
  · rw [c_reqScan_no hd hC hx, r_isScan_no hF.2.2.2.2.2.2.1 hd hx]
    simp only [Option.bind_some, l_0, if_true, ref_fails]
    exact ⟨_, _, 1, rfl, rfl, Or.inr ⟨rfl, rfl⟩, fun v hv => (by cases hv), z_bad, Rel_0 hR _⟩

/-! PURE PART: sorting the scans -/
theorem ordE_congr {F G : Nat → Int32} {n a : Nat} (hn : n ≤ 60) (ha : a ≤ 12) (e1 : ∀ j, 5 ≤ j → j < 41 → G j = F j) (e2 : ∀ j, 279 ≤ j → j < 339 → G j = F j) : ordE G n a = ordE F n a := by
  unfold ordE
  refine fl_congr _ _ fun k h1 h2 => ?_
  have hs : fl (slE G k) 0 a = fl (slE F k) 0 a := fl_congr _ _ fun s h3 h4 => by
    unfold slE onK onB
    rw [e1 (5 + 3 * s) (by omega) (by omega), e1 (5 + 3 * s + 1) (by omega) (by omega), e1 (5 + 3 * s + 2) (by omega) (by omega)]
  unfold kE pB sdE
  rw [e2 (279 + k / 2) (by omega) (by omega), hs]
def ky (F : Nat → Int32) (L : List En) (c : Nat) : Nat := match fs F L c with | none => 144 | some p => p
theorem ky_le {F : Nat → Int32} {L : List En} (hL : L.length ≤ 144) (c : Nat) : ky F L c ≤ 144 := by
  unfold ky
  cases h : fs F L c with
  | none => exact Nat.le_refl _
  | some p => have := fs_lt hL h; show p ≤ 144; omega
theorem ky_row {F G : Nat → Int32} {L : List En} {c c' : Nat} (h : ∀ w, w < 3 → G (89 + 3 * c + w) = F (89 + 3 * c' + w)) : ky G L c = ky F L c' := by
  have h0 := h 0 (by omega)
  have h1 := h 1 (by omega)
  have h2 := h 2 (by omega)
  rw [Nat.add_zero, Nat.add_zero] at h0
  unfold ky fs sh0 sh1
  rw [h0, h1, h2]
theorem SX_sw {τ υ : Mem} {F : Nat → Int32} {L : List En} {n a d : Nat} {p : Nat → Nat} (h : SX τ F L n a d) (h2 : SW τ υ p) (hp : ∀ i, i < d → p i < d) : SX υ (υ 3) L n a d := by
  obtain ⟨a1, a2, a3, a4, a5, a6, a7, a8, a9, a10⟩ := h
  subst a7
  refine ⟨a1, a2, a3, a4, a5, a6.trans (ordE_congr a1 a2 (fun j g1 g2 => h2.2 3 j (by omega)) (fun j g1 g2 => h2.2 3 j (by omega))).symm, rfl, OT_c a8 (funext fun j => h2.2 8 j (by omega)) (h2.2 0 17 (by omega)), fun c hc => ?_, ?_⟩
  · have := a9 (p c) (hp c hc)
    rw [ScI_V] at this ⊢
    rw [h2.1 c 1 (by omega) (by omega), h2.1 c 2 (by omega) (by omega)]
    have e0 := h2.1 c 0 (by omega) (by omega)
    rw [Nat.add_zero, Nat.add_zero] at e0
    rw [e0]; exact this
  · rw [h2.2 3 2 (by omega)]; exact a10
theorem r_rank {τ : Mem} {F : Nat → Int32} {L : List En} {n a d c : Nat} (h : SX τ F L n a d) (hc : c < d) : ∃ υ, fX12_rank (ι c) τ = some (ι (ky F L c), υ) ∧ fr12 τ υ := by
  obtain ⟨υ, a1, a2⟩ := r_placeOfScan h hc
  have hL := h.2.2.2.1
  refine ⟨υ, ?_, a2⟩
  unfold fX12_rank ky
  rw [a1, Option.bind_some]
  cases hf : fs F L c with
  | none => rw [if_pos (show ((oi none, υ) : Int32 × Mem).1 = -1 from rfl)]; rfl
  | some p =>
    have := fs_lt hL hf
    rw [if_neg (fun z => by
      have z : ι p = μ := z
      rw [ι_m1 (by omega)] at z; exact z)]; rfl
theorem c_sortKey {σ : Mem} {F : Nat → Int32} {L : List En} {d c : Nat} (hd : d ≤ 60) (hL : L.length ≤ 144) (hP : PC σ F L d) (hc : c < d) : fX4_sortKey 373 (ι c) σ = some (ι (ky F L c)) := by
  unfold fX4_sortKey ky
  rw [c_isPlaced hd hL hP hc, Option.bind_some, c_first hd hP hc]
  cases hf : fs F L c with
  | none => simp (disch := omega) only [l_0, l_1, l_2, l_3, l_4, l_5, l_6, l_7, l_8, l_9, l_10, l_12, l_13, l_24, l_31, l_32, l_40, l_41, l_42, l_44, l_45, l_48, l_49, l_50, l_57, l_59, l_60, l_65, l_88, l_89, l_97, l_98, l_99, l_100, l_105, l_108, l_109, l_114, l_118, l_120, l_122, l_144, l_255, l_269, l_279, l_339, l_400, l_600, l_999, l_1000, l_2373, l_2712, ι_lt, ι_le, ι_eq, ι_add, ι_mul, ι_sub, ι_div, ι_n, ι_m1, m1_ι, m1_lt, m1_le, lt_m1, le_m1, m1_lt_m1, m1_le_m1, m1_add1, neg_ι1, ι_addm, ι_addn, Bool.false_eq_true, Nat.not_lt_zero, Nat.add_zero, Nat.zero_add, Nat.mul_zero, Nat.reduceMul, Nat.reduceAdd, Nat.reduceSub, Nat.reduceLT, Nat.reduceLeDiff, Nat.reduceEqDiff, Nat.reduceDiv, Nat.reduceBEq, Nat.reduceBNe, false_or, or_false, true_or, or_true, and_true, true_and, false_and, and_false, not_false_eq_true, not_true_eq_false, if_true, if_false, if_pos, if_neg, Option.bind_some, ite_false, ite_true, eq_self, reduceIte, Option.isSome_none]
  | some p => simp (disch := omega) only [l_0, l_1, l_2, l_3, l_4, l_5, l_6, l_7, l_8, l_9, l_10, l_12, l_13, l_24, l_31, l_32, l_40, l_41, l_42, l_44, l_45, l_48, l_49, l_50, l_57, l_59, l_60, l_65, l_88, l_89, l_97, l_98, l_99, l_100, l_105, l_108, l_109, l_114, l_118, l_120, l_122, l_144, l_255, l_269, l_279, l_339, l_400, l_600, l_999, l_1000, l_2373, l_2712, ι_lt, ι_le, ι_eq, ι_add, ι_mul, ι_sub, ι_div, ι_n, ι_m1, m1_ι, m1_lt, m1_le, lt_m1, le_m1, m1_lt_m1, m1_le_m1, m1_add1, neg_ι1, ι_addm, ι_addn, Bool.false_eq_true, Nat.not_lt_zero, Nat.add_zero, Nat.zero_add, Nat.mul_zero, Nat.reduceMul, Nat.reduceAdd, Nat.reduceSub, Nat.reduceLT, Nat.reduceLeDiff, Nat.reduceEqDiff, Nat.reduceDiv, Nat.reduceBEq, Nat.reduceBNe, false_or, or_false, true_or, or_true, and_true, true_and, false_and, and_false, not_false_eq_true, not_true_eq_false, if_true, if_false, if_pos, if_neg, Option.bind_some, ite_false, ite_true, eq_self, reduceIte, Option.isSome_some, oi]
def RQ (F : Nat → Int32) (L : List En) (n a d : Nat) (τ0 τ : Mem) (q : Nat → Nat) : Prop := SX τ (τ 3) L n a d ∧ (∀ i w, i < 60 → w < 3 → τ 3 (89 + 3 * i + w) = F (89 + 3 * q i + w)) ∧ (∀ i, i < d → τ 15 i = ι (q i)) ∧ (∀ i, i < d → q i < d) ∧ (∀ k j, k ≠ 12 → k ≠ 15 → ¬ (k = 3 ∧ 89 ≤ j ∧ j < 269) → τ k j = τ0 k j)
theorem RQ_12 {F : Nat → Int32} {L : List En} {n a d : Nat} {τ0 τ υ : Mem} {q : Nat → Nat} (h : RQ F L n a d τ0 τ q) (hf : fr12 τ υ) : RQ F L n a d τ0 υ q := by
  obtain ⟨a1, a2, a3, a4, a5⟩ := h
  have e3 : υ 3 = τ 3 := funext fun j => hf 3 j (by omega)
  refine ⟨by rw [e3]; exact SX_12 a1 hf, by rw [e3]; exact a2, fun i hi => by rw [hf 15 i (by omega)]; exact a3 i hi, a4, fun k j h1 h2 h3 => by rw [hf k j h1]; exact a5 k j h1 h2 h3⟩
theorem ln383 : ln (382 + 1) = 60 := by decide
theorem sort_in {F : Nat → Int32} {L : List En} {n a d s : Nat} {τ0 : Mem} (hd : d ≤ 60) (hL : L.length ≤ 144) (hs : s < d) (x1 x2 : Int32) : ∀ k n1 n2 (q : Nat → Nat) (σ τ : Mem), k ≤ s → k < n1 → k < n2 → PC σ F L d → RQ F L n a d τ0 τ q → q k = s → (∀ i, i ≤ s → i ≠ k → σ 383 i = ι (q i)) → ∃ k' ρ z υ q', fX4_rankScans_l12 373 (ι s) n1 (ι k) σ = some (ι k', ρ) ∧ fX12_sortScans_l49 x1 x2 n2 (ι k) τ = some (z, υ) ∧ k' ≤ s ∧ q' k' = s ∧ RQ F L n a d τ0 υ q' ∧ (∀ i, i ≤ s → i ≠ k' → ρ 383 i = ι (q' i)) ∧ (∀ j, j ≠ 383 → ρ j = σ j) ∧ (∀ i, s < i → q' i = q i) := by
  intro k
  induction k with
  | zero =>
    intro n1 n2 q σ τ hk h1 h2 hP hQ hqk hr
    obtain ⟨n1, rfl⟩ : ∃ k, n1 = k + 1 := ⟨n1 - 1, by omega⟩
    obtain ⟨n2, rfl⟩ : ∃ k, n2 = k + 1 := ⟨n2 - 1, by omega⟩
    rw [fX4_rankScans_l12, fX12_sortScans_l49, if_pos (by decide), if_pos (by decide)]
    exact ⟨0, σ, _, τ, q, rfl, rfl, hk, hqk, hQ, hr, fun _ _ => rfl, fun _ _ => rfl⟩
  | succ k ih =>
    intro n1 n2 q σ τ hk h1 h2 hP hQ hqk hr
    obtain ⟨n1, rfl⟩ : ∃ k, n1 = k + 1 := ⟨n1 - 1, by omega⟩
    obtain ⟨n2, rfl⟩ : ∃ k, n2 = k + 1 := ⟨n2 - 1, by omega⟩
    have e1 : ι (k + 1) - (1 : Int32) = ι k := by rw [l_1, ι_sub (by omega)]; rfl
    have e2 : ι (k + 1) + (-1 : Int32) = ι k := by
      show ι (k + 1) + μ = ι k
      rw [ι_addm (by omega)]; rfl
    have e3 : ¬ ι (k + 1) ≤ 0 := by simp (disch := omega) only [l_0, l_1, l_2, l_3, l_4, l_5, l_6, l_7, l_8, l_9, l_10, l_12, l_13, l_24, l_31, l_32, l_40, l_41, l_42, l_44, l_45, l_48, l_49, l_50, l_57, l_59, l_60, l_65, l_88, l_89, l_97, l_98, l_99, l_100, l_105, l_108, l_109, l_114, l_118, l_120, l_122, l_144, l_255, l_269, l_279, l_339, l_400, l_600, l_999, l_1000, l_2373, l_2712, ι_lt, ι_le, ι_eq, ι_add, ι_mul, ι_sub, ι_div, ι_n, ι_m1, m1_ι, m1_lt, m1_le, lt_m1, le_m1, m1_lt_m1, m1_le_m1, m1_add1, neg_ι1, ι_addm, ι_addn, Bool.false_eq_true, Nat.not_lt_zero, Nat.add_zero, Nat.zero_add, Nat.mul_zero, Nat.reduceMul, Nat.reduceAdd, Nat.reduceSub, Nat.reduceLT, Nat.reduceLeDiff, Nat.reduceEqDiff, Nat.reduceDiv, Nat.reduceBEq, Nat.reduceBNe, false_or, or_false, true_or, or_true, and_true, true_and, false_and, and_false, not_false_eq_true, not_true_eq_false, if_true, if_false, if_pos, if_neg, Option.bind_some, ite_false, ite_true, eq_self, reduceIte]
    have hqd := hQ.2.2.2.1 k (by omega)
    have hrk := hr k (by omega) (by omega)
    obtain ⟨τ1, a1, a2⟩ := r_rank hQ.1 (show k + 1 < d by omega)
    have hQ1 := RQ_12 hQ a2
    obtain ⟨τ2, b1, b2⟩ := r_rank hQ1.1 (show k < d by omega)
    have hQ2 := RQ_12 hQ1 b2
    rw [ky_row (F := F) (c' := s) (fun w hw => by rw [hQ.2.1 (k + 1) w (by omega) hw, hqk])] at a1
    rw [ky_row (F := F) (c' := q k) (fun w hw => hQ1.2.1 k w (by omega) hw)] at b1
    have k1 := ky_le (F := F) hL s
    have k2 := ky_le (F := F) hL (q k)
    have hat : fX3_at (373 + 9) (ι k) σ = some (ι (q k)) := by rw [c_at ln383 (by omega) (by omega), hrk]
    have hput : fX3_put (373 + 9) (ι (k + 1)) (ι (q k)) σ = some (up σ 383 (k + 1) (ι (q k))) := c_put ln383 (by omega) (by omega)
    rw [fX4_rankScans_l12, fX12_sortScans_l49, if_neg e3, if_neg e3, e1, hat]
    simp only [Option.bind_some, c_sortKey hd hL hP hqd, c_sortKey hd hL hP hs, a1, b1]
    by_cases hle : ky F L (q k) ≤ ky F L s
    · have hle' : ι (ky F L (q k)) ≤ ι (ky F L s) := by rw [ι_le (by omega) (by omega)]; exact hle
      rw [if_pos hle', if_pos hle']
      exact ⟨k + 1, σ, _, τ2, q, rfl, rfl, hk, hqk, hQ2, hr, fun _ _ => rfl, fun _ _ => rfl⟩
    · have hle' : ¬ ι (ky F L (q k)) ≤ ι (ky F L s) := by rw [ι_le (by omega) (by omega)]; exact hle
      rw [if_neg hle', if_neg hle', hput, Option.bind_some]
      obtain ⟨τ3, c1, c2⟩ := r_swaps (p := k + 1) (q := k) (by omega) (by omega) (by omega) τ2
      have hlt : ∀ i, i < d → sw (k + 1) k i < d := fun i hi => by
        unfold sw; repeat' split
        all_goals omega
      have hlt' : ∀ i, i < 60 → sw (k + 1) k i < 60 := fun i hi => by
        unfold sw; repeat' split
        all_goals omega
      rw [c1, Option.bind_some, e2]
      simp (disch := omega) only [l_0, l_1, l_2, l_3, l_4, l_5, l_6, l_7, l_8, l_9, l_10, l_12, l_13, l_24, l_31, l_32, l_40, l_41, l_42, l_44, l_45, l_48, l_49, l_50, l_57, l_59, l_60, l_65, l_88, l_89, l_97, l_98, l_99, l_100, l_105, l_108, l_109, l_114, l_118, l_120, l_122, l_144, l_255, l_269, l_279, l_339, l_400, l_600, l_999, l_1000, l_2373, l_2712, ι_lt, ι_le, ι_eq, ι_add, ι_mul, ι_sub, ι_div, ι_n, ι_m1, m1_ι, m1_lt, m1_le, lt_m1, le_m1, m1_lt_m1, m1_le_m1, m1_add1, neg_ι1, ι_addm, ι_addn, Bool.false_eq_true, Nat.not_lt_zero, Nat.add_zero, Nat.zero_add, Nat.mul_zero, Nat.reduceMul, Nat.reduceAdd, Nat.reduceSub, Nat.reduceLT, Nat.reduceLeDiff, Nat.reduceEqDiff, Nat.reduceDiv, Nat.reduceBEq, Nat.reduceBNe, false_or, or_false, true_or, or_true, and_true, true_and, false_and, and_false, not_false_eq_true, not_true_eq_false, if_true, if_false, if_pos, if_neg, Option.bind_some, ite_false, ite_true, eq_self, reduceIte, lm_0, lm_1, lm_2, lm_3, lm_4, lm_5, lm_6, lm_7, lm_8, lm_9, lm_10, lm_11, lm_12, lm_13, lm_14, lm_15, lm_16, lm_17]
      have hQ3 : RQ F L n a d τ0 (up (up τ3 15 (k + 1) (τ3 15 k)) 15 k (τ3 15 (k + 1))) (fun i => q (sw (k + 1) k i)) := by
        have w : ∀ k' j, k' ≠ 15 → up (up τ3 15 (k + 1) (τ3 15 k)) 15 k (τ3 15 (k + 1)) k' j = τ3 k' j := fun k' j h => by
          rw [up_k _ _ _ _ _ h, up_k _ _ _ _ _ h]
        have w3 : up (up τ3 15 (k + 1) (τ3 15 k)) 15 k (τ3 15 (k + 1)) 3 = τ3 3 := funext fun j => w 3 j (by omega)
        refine ⟨by rw [w3]; exact SX_c (SX_sw hQ2.1 c2 hlt) w3 (funext fun j => w 8 j (by omega)) (w 0 17 (by omega)), fun i w' hi hw => ?_, fun i hi => ?_, fun i hi => hQ2.2.2.2.1 _ (hlt i hi), fun k' j g1 g2 g3 => ?_⟩
        · rw [w3, c2.1 i w' hi hw, hQ2.2.1 _ w' (hlt' i hi) hw]
        · have f15 : ∀ i, τ3 15 i = τ2 15 i := fun i => c2.2 15 i (by omega)
          rw [f15, f15]
          by_cases h1 : i = k
          · rw [h1, up_e, hQ2.2.2.1 (k + 1) (by omega)]
            show _ = ι (q (sw (k + 1) k k))
            unfold sw; rw [if_neg (by omega), if_pos rfl]
          · rw [up_j _ _ _ _ _ h1]
            by_cases h2 : i = k + 1
            · rw [h2, up_e, hQ2.2.2.1 k (by omega)]
              show _ = ι (q (sw (k + 1) k (k + 1)))
              unfold sw; rw [if_pos rfl]
            · rw [up_j _ _ _ _ _ h2, f15, hQ2.2.2.1 i hi]
              show _ = ι (q (sw (k + 1) k i))
              unfold sw; rw [if_neg h2, if_neg h1]
        · rw [w k' j g2, c2.2 k' j g3, hQ2.2.2.2.2 k' j g1 g2 g3]
      have hP1 : PC (up σ 383 (k + 1) (ι (q k))) F L d := ⟨by rw [up_k _ _ _ _ _ (by omega)]; exact hP.1, by rw [up_k _ _ _ _ _ (show (375 : Nat) ≠ 383 by omega), up_k _ _ _ _ _ (show (377 : Nat) ≠ 383 by omega)]; exact hP.2⟩
      obtain ⟨k', ρ, z, υ, q', d1, d2, d3, d4, d5, d6, d7, d8⟩ := ih n1 n2 _ (up σ 383 (k + 1) (ι (q k))) _ (by omega) (by omega) (by omega) hP1 hQ3 (by
          show q (sw (k + 1) k k) = s
          unfold sw; rw [if_neg (by omega), if_pos rfl]; exact hqk) (fun i hi hik => by
          show _ = ι (q (sw (k + 1) k i))
          unfold sw
          by_cases h2 : i = k + 1
          · rw [h2, if_pos rfl, up_e]
          · rw [up_j _ _ _ _ _ h2, if_neg h2, if_neg hik]; exact hr i hi h2)
      refine ⟨k', ρ, z, υ, q', d1, d2, d3, d4, d5, d6, fun j hj => (d7 j hj).trans (up_k _ _ _ _ _ hj), fun i hi => ?_⟩
      rw [d8 i hi]
      show q (sw (k + 1) k i) = q i
      unfold sw; rw [if_neg (by omega), if_neg (by omega)]
theorem sort_out {F : Nat → Int32} {L : List En} {n a d : Nat} {τ0 : Mem} (hd : d ≤ 60) (hL : L.length ≤ 144) : ∀ m s n1 n2 (q : Nat → Nat) (σ τ : Mem), s + m = d → m < n1 → m < n2 → PC σ F L d → RQ F L n a d τ0 τ q → (∀ i, i < s → σ 383 i = ι (q i)) → (∀ i, s ≤ i → q i = i) → ∃ z ρ z' υ q', fX4_rankScans_l2 373 n1 (ι s) σ = some (z, ρ) ∧ fX12_sortScans_l42 (ι d) n2 (ι s) τ = some (z', υ) ∧ RQ F L n a d τ0 υ q' ∧ (∀ i, i < d → ρ 383 i = ι (q' i)) ∧ (∀ j, j ≠ 383 → ρ j = σ j) ∧ (∀ i, d ≤ i → q' i = i) := by
  intro m
  induction m with
  | zero =>
    intro s n1 n2 q σ τ h h1 h2 hP hQ hr hq
    obtain ⟨n1, rfl⟩ : ∃ k, n1 = k + 1 := ⟨n1 - 1, by omega⟩
    obtain ⟨n2, rfl⟩ : ∃ k, n2 = k + 1 := ⟨n2 - 1, by omega⟩
    have e : s = d := by omega
    subst e
    rw [fX4_rankScans_l2, fX12_sortScans_l42, hP.1, if_pos (by rw [ι_le (by omega) (by omega)]; omega), if_pos (by rw [ι_le (by omega) (by omega)]; omega)]
    exact ⟨_, σ, _, τ, q, rfl, rfl, hQ, hr, fun _ _ => rfl, hq⟩
  | succ m ih =>
    intro s n1 n2 q σ τ h h1 h2 hP hQ hr hq
    obtain ⟨n1, rfl⟩ : ∃ k, n1 = k + 1 := ⟨n1 - 1, by omega⟩
    obtain ⟨n2, rfl⟩ : ∃ k, n2 = k + 1 := ⟨n2 - 1, by omega⟩
    obtain ⟨k', ρ, z, υ, q', d1, d2, d3, d4, d5, d6, d7, d8⟩ := sort_in (s := s) hd hL (by omega) (ι d) (ι s) s FU FU q σ τ (Nat.le_refl s) (by unfold FU; omega) (by unfold FU; omega) hP hQ (hq s (Nat.le_refl s)) (fun i hi his => hr i (by omega))
    have hput : fX3_put (373 + 9) (ι k') (ι s) ρ = some (up ρ 383 k' (ι s)) := c_put ln383 (by omega) (by omega)
    have hP1 : PC (up ρ 383 k' (ι s)) F L d := ⟨by rw [up_k _ _ _ _ _ (by omega), d7 373 (by omega)]; exact hP.1, by rw [up_k _ _ _ _ _ (show (375 : Nat) ≠ 383 by omega), up_k _ _ _ _ _ (show (377 : Nat) ≠ 383 by omega), d7 375 (by omega), d7 377 (by omega)]; exact hP.2⟩
    obtain ⟨w, ρ2, w', υ2, q2, g1, g2, g3, g4, g5, g6⟩ := ih (s + 1) n1 n2 q' (up ρ 383 k' (ι s)) υ (by omega) (by omega) (by omega) hP1 d5 (fun i hi => by
      by_cases hik : i = k'
      · rw [hik, up_e, d4]
      · rw [up_j _ _ _ _ _ hik]; exact d6 i (by omega) hik) (fun i hi => by rw [d8 i (by omega)]; exact hq i (by omega))
    refine ⟨w, ρ2, w', υ2, q2, ?_, ?_, g3, g4, fun j hj => (g5 j hj).trans ((up_k _ _ _ _ _ hj).trans (d7 j hj)), g6⟩
    · rw [fX4_rankScans_l2, hP.1, if_neg (by rw [ι_le (by omega) (by omega)]; omega), d1, Option.bind_some, hput, Option.bind_some, l_1, ι_add]
      exact g1
    · rw [fX12_sortScans_l42, if_neg (by rw [ι_le (by omega) (by omega)]; omega), d2, Option.bind_some, l_1, ι_add]
      exact g2
def nqB (q : Nat → Nat) (i : Nat) : Bool := decide (q i ≠ i)
theorem c_moved {σ : Mem} {d : Nat} {q : Nat → Nat} (hd : d ≤ 60) (h5 : σ 373 5 = ι d) (hq : ∀ i, i < d → q i < d) (hr : ∀ i, i < d → σ 383 i = ι (q i)) : ∀ m n i x, i + m = d → m < n → fX4_rankScans_l81 373 n (ι x) (ι i) σ = some (ι (x + cf (nqB q) i m), ι d) := by
  intro m
  induction m with
  | zero =>
    intro n i x h hn
    obtain ⟨n, rfl⟩ : ∃ k, n = k + 1 := ⟨n - 1, by omega⟩
    rw [fX4_rankScans_l81, h5]
    have e : i = d := by omega
    subst e
    simp (disch := omega) only [l_0, l_1, l_2, l_3, l_4, l_5, l_6, l_7, l_8, l_9, l_10, l_12, l_13, l_24, l_31, l_32, l_40, l_41, l_42, l_44, l_45, l_48, l_49, l_50, l_57, l_59, l_60, l_65, l_88, l_89, l_97, l_98, l_99, l_100, l_105, l_108, l_109, l_114, l_118, l_120, l_122, l_144, l_255, l_269, l_279, l_339, l_400, l_600, l_999, l_1000, l_2373, l_2712, ι_lt, ι_le, ι_eq, ι_add, ι_mul, ι_sub, ι_div, ι_n, ι_m1, m1_ι, m1_lt, m1_le, lt_m1, le_m1, m1_lt_m1, m1_le_m1, m1_add1, neg_ι1, ι_addm, ι_addn, Bool.false_eq_true, Nat.not_lt_zero, Nat.add_zero, Nat.zero_add, Nat.mul_zero, Nat.reduceMul, Nat.reduceAdd, Nat.reduceSub, Nat.reduceLT, Nat.reduceLeDiff, Nat.reduceEqDiff, Nat.reduceDiv, Nat.reduceBEq, Nat.reduceBNe, false_or, or_false, true_or, or_true, and_true, true_and, false_and, and_false, not_false_eq_true, not_true_eq_false, if_true, if_false, if_pos, if_neg, Option.bind_some, ite_false, ite_true, eq_self, reduceIte, cf, Nat.le_refl]
  | succ m ih =>
    intro n i x h hn
    obtain ⟨n, rfl⟩ : ∃ k, n = k + 1 := ⟨n - 1, by omega⟩
    have hqi := hq i (by omega)
    have hat : fX3_at (373 + 9) (ι i) σ = some (ι (q i)) := by rw [c_at ln383 (by omega) (by omega), hr i (by omega)]
    rw [fX4_rankScans_l81, h5, hat]
    unfold cf nqB
    by_cases hqi' : q i = i
    · simp (disch := omega) only [l_0, l_1, l_2, l_3, l_4, l_5, l_6, l_7, l_8, l_9, l_10, l_12, l_13, l_24, l_31, l_32, l_40, l_41, l_42, l_44, l_45, l_48, l_49, l_50, l_57, l_59, l_60, l_65, l_88, l_89, l_97, l_98, l_99, l_100, l_105, l_108, l_109, l_114, l_118, l_120, l_122, l_144, l_255, l_269, l_279, l_339, l_400, l_600, l_999, l_1000, l_2373, l_2712, ι_lt, ι_le, ι_eq, ι_add, ι_mul, ι_sub, ι_div, ι_n, ι_m1, m1_ι, m1_lt, m1_le, lt_m1, le_m1, m1_lt_m1, m1_le_m1, m1_add1, neg_ι1, ι_addm, ι_addn, Bool.false_eq_true, Nat.not_lt_zero, Nat.add_zero, Nat.zero_add, Nat.mul_zero, Nat.reduceMul, Nat.reduceAdd, Nat.reduceSub, Nat.reduceLT, Nat.reduceLeDiff, Nat.reduceEqDiff, Nat.reduceDiv, Nat.reduceBEq, Nat.reduceBNe, false_or, or_false, true_or, or_true, and_true, true_and, false_and, and_false, not_false_eq_true, not_true_eq_false, if_true, if_false, if_pos, if_neg, Option.bind_some, ite_false, ite_true, eq_self, reduceIte, hqi', ne_eq, decide_false]
      exact ih _ _ _ (by omega) (by omega)
    · simp (disch := omega) only [l_0, l_1, l_2, l_3, l_4, l_5, l_6, l_7, l_8, l_9, l_10, l_12, l_13, l_24, l_31, l_32, l_40, l_41, l_42, l_44, l_45, l_48, l_49, l_50, l_57, l_59, l_60, l_65, l_88, l_89, l_97, l_98, l_99, l_100, l_105, l_108, l_109, l_114, l_118, l_120, l_122, l_144, l_255, l_269, l_279, l_339, l_400, l_600, l_999, l_1000, l_2373, l_2712, ι_lt, ι_le, ι_eq, ι_add, ι_mul, ι_sub, ι_div, ι_n, ι_m1, m1_ι, m1_lt, m1_le, lt_m1, le_m1, m1_lt_m1, m1_le_m1, m1_add1, neg_ι1, ι_addm, ι_addn, Bool.false_eq_true, Nat.not_lt_zero, Nat.add_zero, Nat.zero_add, Nat.mul_zero, Nat.reduceMul, Nat.reduceAdd, Nat.reduceSub, Nat.reduceLT, Nat.reduceLeDiff, Nat.reduceEqDiff, Nat.reduceDiv, Nat.reduceBEq, Nat.reduceBNe, false_or, or_false, true_or, or_true, and_true, true_and, false_and, and_false, not_false_eq_true, not_true_eq_false, if_true, if_false, if_pos, if_neg, Option.bind_some, ite_false, ite_true, eq_self, reduceIte, hqi', ne_eq, decide_true]
      rw [← Nat.add_assoc]
      exact ih _ _ _ (by omega) (by omega)
theorem r_moved {τ : Mem} {d : Nat} {q : Nat → Nat} (hd : d ≤ 60) (hq : ∀ i, i < d → q i < d) (hr : ∀ i, i < d → τ 15 i = ι (q i)) : ∀ m n i x, i + m = d → m < n → fX12_sortScans_l124 (ι d) n (ι x) (ι i) τ = some (ι (x + cf (nqB q) i m), ι d) := by
  intro m
  induction m with
  | zero =>
    intro n i x h hn
    obtain ⟨n, rfl⟩ : ∃ k, n = k + 1 := ⟨n - 1, by omega⟩
    rw [fX12_sortScans_l124]
    have e : i = d := by omega
    subst e
    simp (disch := omega) only [l_0, l_1, l_2, l_3, l_4, l_5, l_6, l_7, l_8, l_9, l_10, l_12, l_13, l_24, l_31, l_32, l_40, l_41, l_42, l_44, l_45, l_48, l_49, l_50, l_57, l_59, l_60, l_65, l_88, l_89, l_97, l_98, l_99, l_100, l_105, l_108, l_109, l_114, l_118, l_120, l_122, l_144, l_255, l_269, l_279, l_339, l_400, l_600, l_999, l_1000, l_2373, l_2712, ι_lt, ι_le, ι_eq, ι_add, ι_mul, ι_sub, ι_div, ι_n, ι_m1, m1_ι, m1_lt, m1_le, lt_m1, le_m1, m1_lt_m1, m1_le_m1, m1_add1, neg_ι1, ι_addm, ι_addn, Bool.false_eq_true, Nat.not_lt_zero, Nat.add_zero, Nat.zero_add, Nat.mul_zero, Nat.reduceMul, Nat.reduceAdd, Nat.reduceSub, Nat.reduceLT, Nat.reduceLeDiff, Nat.reduceEqDiff, Nat.reduceDiv, Nat.reduceBEq, Nat.reduceBNe, false_or, or_false, true_or, or_true, and_true, true_and, false_and, and_false, not_false_eq_true, not_true_eq_false, if_true, if_false, if_pos, if_neg, Option.bind_some, ite_false, ite_true, eq_self, reduceIte, cf, Nat.le_refl]
  | succ m ih =>
    intro n i x h hn
    obtain ⟨n, rfl⟩ : ∃ k, n = k + 1 := ⟨n - 1, by omega⟩
    have hqi := hq i (by omega)
    have hri := hr i (by omega)
    rw [fX12_sortScans_l124]
    unfold cf nqB
    by_cases hqi' : q i = i
    · simp (disch := omega) only [l_0, l_1, l_2, l_3, l_4, l_5, l_6, l_7, l_8, l_9, l_10, l_12, l_13, l_24, l_31, l_32, l_40, l_41, l_42, l_44, l_45, l_48, l_49, l_50, l_57, l_59, l_60, l_65, l_88, l_89, l_97, l_98, l_99, l_100, l_105, l_108, l_109, l_114, l_118, l_120, l_122, l_144, l_255, l_269, l_279, l_339, l_400, l_600, l_999, l_1000, l_2373, l_2712, ι_lt, ι_le, ι_eq, ι_add, ι_mul, ι_sub, ι_div, ι_n, ι_m1, m1_ι, m1_lt, m1_le, lt_m1, le_m1, m1_lt_m1, m1_le_m1, m1_add1, neg_ι1, ι_addm, ι_addn, Bool.false_eq_true, Nat.not_lt_zero, Nat.add_zero, Nat.zero_add, Nat.mul_zero, Nat.reduceMul, Nat.reduceAdd, Nat.reduceSub, Nat.reduceLT, Nat.reduceLeDiff, Nat.reduceEqDiff, Nat.reduceDiv, Nat.reduceBEq, Nat.reduceBNe, false_or, or_false, true_or, or_true, and_true, true_and, false_and, and_false, not_false_eq_true, not_true_eq_false, if_true, if_false, if_pos, if_neg, Option.bind_some, ite_false, ite_true, eq_self, reduceIte, lm_0, lm_1, lm_2, lm_3, lm_4, lm_5, lm_6, lm_7, lm_8, lm_9, lm_10, lm_11, lm_12, lm_13, lm_14, lm_15, lm_16, lm_17, hri, hqi', ne_eq, decide_false]
      exact ih _ _ _ (by omega) (by omega)
    · simp (disch := omega) only [l_0, l_1, l_2, l_3, l_4, l_5, l_6, l_7, l_8, l_9, l_10, l_12, l_13, l_24, l_31, l_32, l_40, l_41, l_42, l_44, l_45, l_48, l_49, l_50, l_57, l_59, l_60, l_65, l_88, l_89, l_97, l_98, l_99, l_100, l_105, l_108, l_109, l_114, l_118, l_120, l_122, l_144, l_255, l_269, l_279, l_339, l_400, l_600, l_999, l_1000, l_2373, l_2712, ι_lt, ι_le, ι_eq, ι_add, ι_mul, ι_sub, ι_div, ι_n, ι_m1, m1_ι, m1_lt, m1_le, lt_m1, le_m1, m1_lt_m1, m1_le_m1, m1_add1, neg_ι1, ι_addm, ι_addn, Bool.false_eq_true, Nat.not_lt_zero, Nat.add_zero, Nat.zero_add, Nat.mul_zero, Nat.reduceMul, Nat.reduceAdd, Nat.reduceSub, Nat.reduceLT, Nat.reduceLeDiff, Nat.reduceEqDiff, Nat.reduceDiv, Nat.reduceBEq, Nat.reduceBNe, false_or, or_false, true_or, or_true, and_true, true_and, false_and, and_false, not_false_eq_true, not_true_eq_false, if_true, if_false, if_pos, if_neg, Option.bind_some, ite_false, ite_true, eq_self, reduceIte, lm_0, lm_1, lm_2, lm_3, lm_4, lm_5, lm_6, lm_7, lm_8, lm_9, lm_10, lm_11, lm_12, lm_13, lm_14, lm_15, lm_16, lm_17, hri, hqi', ne_eq, decide_true]
      rw [← Nat.add_assoc]
      exact ih _ _ _ (by omega) (by omega)
theorem r_was {d : Nat} (hd : d ≤ 60) : ∀ m n i (τ : Mem), i + m = d → m < n → (∀ j, j < i → τ 15 j = ι j) → ∃ z υ, fX12_sortScans_l22 (ι d) n (ι i) τ = some (z, υ) ∧ (∀ j, j < d → υ 15 j = ι j) ∧ ∀ k j, k ≠ 15 → υ k j = τ k j := by
  intro m
  induction m with
  | zero =>
    intro n i τ h hn hr
    obtain ⟨n, rfl⟩ : ∃ k, n = k + 1 := ⟨n - 1, by omega⟩
    rw [fX12_sortScans_l22, if_pos (by rw [ι_le (by omega) (by omega)]; omega)]
    exact ⟨_, _, rfl, fun j hj => hr j (by omega), fun _ _ _ => rfl⟩
  | succ m ih =>
    intro n i τ h hn hr
    obtain ⟨n, rfl⟩ : ∃ k, n = k + 1 := ⟨n - 1, by omega⟩
    obtain ⟨z, υ, a1, a2, a3⟩ := ih n (i + 1) (up τ 15 i (ι i)) (by omega) (by omega) (fun j hj => by
      by_cases hji : j = i
      · rw [hji, up_e]
      · rw [up_j _ _ _ _ _ hji]; exact hr j (by omega))
    refine ⟨z, υ, ?_, a2, fun k j hk => (a3 k j hk).trans (congrFun (up_k _ _ _ _ _ hk) j)⟩
    rw [fX12_sortScans_l22]
    simp (disch := omega) only [l_0, l_1, l_2, l_3, l_4, l_5, l_6, l_7, l_8, l_9, l_10, l_12, l_13, l_24, l_31, l_32, l_40, l_41, l_42, l_44, l_45, l_48, l_49, l_50, l_57, l_59, l_60, l_65, l_88, l_89, l_97, l_98, l_99, l_100, l_105, l_108, l_109, l_114, l_118, l_120, l_122, l_144, l_255, l_269, l_279, l_339, l_400, l_600, l_999, l_1000, l_2373, l_2712, ι_lt, ι_le, ι_eq, ι_add, ι_mul, ι_sub, ι_div, ι_n, ι_m1, m1_ι, m1_lt, m1_le, lt_m1, le_m1, m1_lt_m1, m1_le_m1, m1_add1, neg_ι1, ι_addm, ι_addn, Bool.false_eq_true, Nat.not_lt_zero, Nat.add_zero, Nat.zero_add, Nat.mul_zero, Nat.reduceMul, Nat.reduceAdd, Nat.reduceSub, Nat.reduceLT, Nat.reduceLeDiff, Nat.reduceEqDiff, Nat.reduceDiv, Nat.reduceBEq, Nat.reduceBNe, false_or, or_false, true_or, or_true, and_true, true_and, false_and, and_false, not_false_eq_true, not_true_eq_false, if_true, if_false, if_pos, if_neg, Option.bind_some, ite_false, ite_true, eq_self, reduceIte, lm_0, lm_1, lm_2, lm_3, lm_4, lm_5, lm_6, lm_7, lm_8, lm_9, lm_10, lm_11, lm_12, lm_13, lm_14, lm_15, lm_16, lm_17]
    exact a1
theorem c_arr {d : Nat} {q : Nat → Nat} (hd : d ≤ 60) (hq : ∀ i, i < d → q i < d) : ∀ m n i (σ : Mem), i + m = d → m < n → σ 62 3 = ι d → (∀ j, j < d → σ 383 j = ι (q j)) → ∃ z ρ, fX5_arrange_l2 62 72 382 n (ι i) σ = some (z, ρ) ∧ (∀ k j, R3 k → i ≤ j → j < d → ρ k j = σ (k + 10) (q j)) ∧ ∀ k j, ¬ (R3 k ∧ i ≤ j ∧ j < d) → ρ k j = σ k j := by
  intro m
  induction m with
  | zero =>
    intro n i σ h hn h3 hr
    obtain ⟨n, rfl⟩ : ∃ k, n = k + 1 := ⟨n - 1, by omega⟩
    rw [fX5_arrange_l2, h3, if_pos (by rw [ι_le (by omega) (by omega)]; omega)]
    exact ⟨_, _, rfl, fun k j _ h1 h2 => by omega, fun _ _ _ => rfl⟩
  | succ m ih =>
    intro n i σ h hn h3 hr
    obtain ⟨n, rfl⟩ : ∃ k, n = k + 1 := ⟨n - 1, by omega⟩
    have hqi := hq i (by omega)
    obtain ⟨σ1, a1, a2, a3⟩ := c_putFrom (δ := 10) (f := q i) (t := i) (Or.inr rfl) (by omega) (by omega) σ
    have a1 : fX5_putFrom 62 72 (ι (q i)) (ι i) σ = some σ1 := a1
    obtain ⟨z, ρ, b1, b2, b3⟩ := ih n (i + 1) σ1 (by omega) (by omega) (by rw [a3 62 3 (by unfold R3; omega)]; exact h3) (fun j hj => by rw [a3 383 j (by unfold R3; omega)]; exact hr j hj)
    refine ⟨z, ρ, ?_, fun k j hk h1 h2 => ?_, fun k j hk => ?_⟩
    · rw [fX5_arrange_l2, h3, if_neg (by rw [ι_le (by omega) (by omega)]; omega), c_at ln383 (by omega) (by omega), Option.bind_some, hr i (by omega), a1, Option.bind_some, l_1, ι_add]
      exact b1
    · by_cases hj : j = i
      · subst hj
        rw [b3 k j (by omega), a2 k hk]
      · rw [b2 k j hk (by omega) h2, a3 (k + 10) (q j) (by unfold R3 at hk ⊢; omega)]
    · rw [b3 k j (fun z => hk ⟨z.1, by omega, z.2.2⟩), a3 k j (fun z => hk ⟨z.1, by omega, by omega⟩)]
theorem sim14 : Sim14 Rel := by
  intro σ τ hR
  replace hR := Rel_0 hR 0
  unfold fX12_sortScans fX11_sortScans
  generalize up τ 0 0 (0 : Int32) = τ at *
  obtain ⟨k, n, a, b, d, t, hO⟩ := RO_of hR
  obtain ⟨ρ1, υ', e1, -, hO1, -, pc1, -, f1, f1'⟩ := scans_RO hO
  have hd := hO.2.1.2.2.2.2.2.2.2.1
  have hLl := ordE_len (F := τ 3) hO.1.1.2.2.2.2 hO.2.1.2.1 hO.2.1.2.2.1
  have hO1' : RO ρ1 τ k n a b d t := RO_c hO (fun j hj => f1 j (by unfold KK RK at hj; omega)) (fun _ _ _ => rfl)
  -- the reference's side first: what is remembered, the order
  obtain ⟨ρx, υ1, -, e2, hOx, -, u2⟩ := keep_RO hO1'
  obtain ⟨-, υ2, -, e3, -, -, -, sx, -, f2⟩ := scans_RO hOx
  have v3 : υ1 3 = τ 3 := funext fun j => u2 3 j (by omega)
  rw [v3] at sx
  generalize hLe : ordE (τ 3) n a = L at *
  have w3 : υ2 3 = τ 3 := sx.2.2.2.2.2.2.1
  have hw2 : υ2 3 2 = ι d := by rw [w3]; exact sx.2.2.2.2.2.2.2.2.2
  obtain ⟨z1, υ3, g1, g2, g3⟩ := r_was hd d FU 0 υ2 (by omega) (by unfold FU; omega) (fun j hj => by omega)
  have hQ0 : RQ (τ 3) L n a d υ2 υ3 (fun i => i) := by
    have x3 : υ3 3 = τ 3 := (funext fun j => g3 3 j (by omega) : υ3 3 = υ2 3).trans w3
    refine ⟨by rw [x3]; exact SX_c sx (x3.trans w3.symm) (funext fun j => g3 8 j (by omega)) (g3 0 17 (by omega)), fun i w hi hw => by rw [x3], g2, fun i hi => hi, fun k j h1 h2 h3 => g3 k j h2⟩
  -- both sorts
  have key : ∃ z ρ z' υ q', fX4_rankScans_l2 373 FU (ι 0) ρ1 = some (z, ρ) ∧ fX12_sortScans_l42 (ι d) FU (ι 1) υ3 = some (z', υ) ∧ RQ (τ 3) L n a d υ2 υ q' ∧ (∀ i, i < d → ρ 383 i = ι (q' i)) ∧ (∀ j, j ≠ 383 → ρ j = ρ1 j) ∧ (∀ i, d ≤ i → q' i = i) := by
    by_cases h0 : d = 0
    · subst h0
      rw [show FU = 4095 + 1 from rfl, fX4_rankScans_l2, fX12_sortScans_l42, pc1.1, if_pos (by decide), if_pos (by decide)]
      exact ⟨_, _, _, _, _, rfl, rfl, hQ0, fun i hi => by omega, fun _ _ => rfl, fun _ _ => rfl⟩
    · have hput : fX3_put (373 + 9) (ι 0) (ι 0) ρ1 = some (up ρ1 383 0 (ι 0)) := c_put ln383 (by omega) (by omega)
      have hP1 : PC (up ρ1 383 0 (ι 0)) (τ 3) L d := ⟨by rw [up_k _ _ _ _ _ (by omega)]; exact pc1.1, by rw [up_k _ _ _ _ _ (show (375 : Nat) ≠ 383 by omega), up_k _ _ _ _ _ (show (377 : Nat) ≠ 383 by omega)]; exact pc1.2⟩
      obtain ⟨z, ρ, z', υ, q', h1, h2, h3, h4, h5, h6⟩ := sort_out hd hLl (d - 1) 1 4095 FU (fun i => i) (up ρ1 383 0 (ι 0)) υ3 (by omega) (by omega) (by unfold FU; omega) hP1 hQ0 (fun i hi => by
        have : i = 0 := by omega
        subst this; exact up_e _ _ _ _) (fun _ _ => rfl)
      refine ⟨z, ρ, z', υ, q', ?_, h2, h3, h4, fun j hj => (h5 j hj).trans (up_k _ _ _ _ _ hj), h6⟩
      have hin : fX4_rankScans_l12 373 (ι 0) FU (ι 0) ρ1 = some (ι 0, ρ1) := by
        rw [show FU = 4095 + 1 from rfl, fX4_rankScans_l12, if_pos (by decide)]
      rw [show FU = 4095 + 1 from rfl, fX4_rankScans_l2, pc1.1, if_neg (by rw [ι_le (by omega) (by omega)]; omega), hin, Option.bind_some, hput, Option.bind_some, l_1, ι_add]
      exact h1
  obtain ⟨z, ρ2, z', υ4, q, s1, s2, s3, s4, s5, s6⟩ := key
  have hO2 : RO ρ2 τ k n a b d t := RO_c hO1' (fun j hj => s5 j (by unfold KK RK at hj; omega)) (fun _ _ _ => rfl)
  obtain ⟨ρ3, υ1', e4, e2', hO3, u3, -⟩ := keep_RO hO2
  have hυ : υ1' = υ1 := by rw [e2] at e2'; exact (Option.some.inj e2').symm
  subst hυ
  have hc := hO3.2.2.2.2.1
  obtain ⟨ρ4, e5, c4, u4⟩ := CR_copy (v := 72) (w := 62) hd (by decide) hc (by omega)
  have h62 : ρ4 62 3 = ι d := by rw [u4 62 (by omega)]; exact hc.2.1
  have h383 : ∀ j, j < d → ρ4 383 j = ι (q j) := fun j hj => by rw [u4 383 (by omega), u3 383 (by omega)]; exact s4 j hj
  obtain ⟨z2, ρ5, e6, a1, a2⟩ := c_arr hd s3.2.2.2.1 d FU 0 ρ4 (by omega) (by unfold FU; omega) h62 h383
  have hm1 := c_moved (q := q) hd (by rw [s5 373 (by omega)]; exact pc1.1) s3.2.2.2.1 s4 d FU 0 0 (by omega) (by unfold FU; omega)
  have hm2 := r_moved (q := q) hd s3.2.2.2.1 s3.2.2.1 d FU 0 0 (by omega) (by unfold FU; omega)
  refine ⟨ι (0 + cf (nqB q) 0 d), ρ5, υ4, ?_, ?_, ?_⟩
  · have s1 : fX4_rankScans_l2 373 FU 0 ρ1 = _ := s1
    have hm1 : fX4_rankScans_l81 373 FU 0 0 ρ2 = _ := hm1
    have e6 : fX5_arrange_l2 62 72 382 FU 0 ρ4 = _ := e6
    unfold fX4_rankScans fX5_arrange
    rw [e1, Option.bind_some, Nat.zero_add, s1, Option.bind_some, hm1, Option.bind_some, Option.bind_some, Nat.zero_add, Nat.zero_add, e4, Option.bind_some, Nat.zero_add, Nat.zero_add, e5, Option.bind_some, e6]; rfl
  · have g1 : fX12_sortScans_l22 (ι d) FU 0 υ2 = _ := g1
    have s2 : fX12_sortScans_l42 (ι d) FU 1 υ3 = _ := s2
    have hm2 : fX12_sortScans_l124 (ι d) FU 0 0 υ4 = _ := hm2
    have ez : ¬ ((2 : Int32) < 0 ∨ lm 3 ≤ (2 : Int32).toNatClampNeg) := by decide
    have en : (2 : Int32).toNatClampNeg = 2 := rfl
    rw [e2, Option.bind_some, e3, Option.bind_some, if_neg ez, en, hw2, g1, Option.bind_some, s2, Option.bind_some, hm2, Option.bind_some]
  · have hcs : CSW ρ3 (fun j => if j = 64 ∨ j = 66 ∨ j = 68 then ρ5 j else ρ3 j) q := by
      refine ⟨fun i hi => ?_, fun j h1 h2 h3 => ?_⟩
      · show ρ5 64 i = ρ3 64 (q i) ∧ ρ5 66 i = ρ3 66 (q i) ∧ ρ5 68 i = ρ3 68 (q i)
        by_cases hi' : i < d
        · have hq' := s3.2.2.2.1 i hi'
          refine ⟨?_, ?_, ?_⟩
          · rw [a1 64 i (by unfold R3; omega) (by omega) hi', hc.2.2.1 _ hq']; exact c4.2.2.1 _ hq'
          · rw [a1 66 i (by unfold R3; omega) (by omega) hi', hc.2.2.2.1 _ hq']; exact c4.2.2.2.1 _ hq'
          · rw [a1 68 i (by unfold R3; omega) (by omega) hi', hc.2.2.2.2 _ hq']; exact c4.2.2.2.2 _ hq'
        · rw [s6 i (by omega)]
          refine ⟨?_, ?_, ?_⟩
          · rw [a2 64 i (by omega), u4 64 (by omega)]
          · rw [a2 66 i (by omega), u4 66 (by omega)]
          · rw [a2 68 i (by omega), u4 68 (by omega)]
      · simp only [h1, h2, h3, or_self, if_false]
    have hsw : SW υ1' (fun k j => if k = 3 then υ4 k j else υ1' k j) q := by
      refine ⟨fun i w hi hw => ?_, fun k j hk => ?_⟩
      · show (if 3 = 3 then υ4 3 (89 + 3 * i + w) else _) = _
        rw [if_pos rfl, s3.2.1 i w hi hw, v3]
      · show (if k = 3 then υ4 k j else υ1' k j) = _
        by_cases h3 : k = 3
        · rw [if_pos h3, s3.2.2.2.2 k j (by omega) (by omega) hk, f2 k j (by omega)]
        · rw [if_neg h3]
    have hP := perm_RO (d' := d) hO3 hcs hsw (Nat.le_refl d) s3.2.2.2.1
    refine Rel_c (RO_rel hP) (fun j hj => ?_) (fun k j hk => ?_)
    · funext i
      rw [up_g]
      by_cases h1 : j = 64 ∨ j = 66 ∨ j = 68
      · rw [if_neg (by omega)]
        simp only [if_pos h1]
      · by_cases h2 : j = 62 ∧ i = 3
        · rw [if_pos h2, h2.1, h2.2, a2 62 3 (by unfold R3; omega), h62]
        · rw [if_neg h2]
          simp only [if_neg h1]
          rw [a2 j i (by unfold R3; omega), u4 j (by unfold KK RK at hj; omega)]
    · rw [up_g]
      by_cases h3 : k = 3
      · subst h3
        by_cases h2 : j = 2
        · subst h2
          rw [if_pos ⟨rfl, rfl⟩, s3.2.2.2.2 3 2 (by omega) (by omega) (by omega), hw2]
        · rw [if_neg (by omega), if_pos rfl]
      · rw [if_neg (by omega), if_neg h3, s3.2.2.2.2 k j (by unfold KT RT at hk; omega) (by unfold KT RT at hk; omega) (by omega), f2 k j (by unfold KT RT at hk; omega)]

/-! PURE PART: needless scans -/
theorem cf_point {P Q : Nat → Bool} {c : Nat} (hP : ∀ k, k ≠ c → Q k = P k) (hc : Q c = false) : ∀ m i, i ≤ c → c < i + m → cf P i m = cf Q i m + (if P c then 1 else 0) := by
  intro m
  induction m with
  | zero => intro i h1 h2; omega
  | succ m ih =>
    intro i h1 h2
    rw [cf, cf]
    by_cases h : i = c
    · subst h
      rw [hc, cf_congr (P := P) (Q := Q) m (i + 1) (fun k g1 g2 => (hP k (by omega)).symm)]
      simp only [Bool.false_eq_true, if_false]; omega
    · rw [ih (i + 1) (by omega) (by omega), hP i h]; omega
theorem ff_cf (P : Nat → Bool) (d : Nat) : (ff P 0 d).isSome = decide (0 < cf P 0 d) := by
  cases h : ff P 0 d with
  | none =>
    rw [cf_zero (fun k h1 h2 => ff_none _ _ h k h1 h2)]; rfl
  | some q =>
    have := ff_some _ _ h
    have h2 := cf_pos this.2.2.1 d 0 this.1 (by omega)
    rw [Option.isSome_some]; exact (decide_eq_true h2).symm
def alv (F : Nat → Int32) (L : List En) (u : Nat → Bool) (p c : Nat) : Bool := !u c && shB F L p c
def E1 (F : Nat → Int32) (L : List En) (u : Nat → Bool) (d p : Nat) : Bool := decide (1 < cf (alv F L u p) 0 d)
def ndB (E : Nat → Bool) (o : Option Nat) : Bool := match o with | none => true | some p => E p
theorem else_eq {F : Nat → Int32} {L : List En} {u : Nat → Bool} {d c p : Nat} (hc : c < d) (huc : u c = false) (hs : shB F L p c = true) : (ff (fun e => !decide (e = c) && alv F L u p e) 0 d).isSome = E1 F L u d p := by
  rw [ff_cf]
  unfold E1
  have h := cf_point (P := alv F L u p) (Q := fun e => !decide (e = c) && alv F L u p e) (c := c) (fun k hk => by simp [hk]) (by simp) d 0 (by omega) (by omega)
  have hPc : alv F L u p c = true := by unfold alv; rw [huc, hs]; rfl
  rw [hPc, if_pos rfl] at h
  rw [h]
  exact decide_eq_decide.mpr (by omega)
def U17 (τ : Mem) (u : Nat → Bool) : Prop := ∀ c, c < 60 → τ 17 c = if u c then ι 1 else ι 0
theorem U17_12 {τ υ : Mem} {u : Nat → Bool} (h : U17 τ u) (hf : fr12 τ υ) : U17 υ u := fun c hc => by rw [hf 17 c (by omega)]; exact h c hc
theorem r_el {F : Nat → Int32} {L : List En} {n a d p c : Nat} {u : Nat → Bool} (hp : p < 2147483648) (hc : c < 60) : ∀ m n' e (τ : Mem), e + m = d → m < n' → SX τ F L n a d → U17 τ u → ∃ υ, (fX12_isElsewhere_l2 (ι p) (ι c) n' (ι e) τ).bind (fun q2 => match q2 with | .inl r => some r | .inr q2 => some ((0 : Int32), q2.2)) = some (if (ff (fun e => !decide (e = c) && alv F L u p e) e m).isSome then ι 1 else ι 0, υ) ∧ fr12 τ υ := by
  intro m
  induction m with
  | zero =>
    intro n' e τ h hn' hX hU
    obtain ⟨n', rfl⟩ : ∃ k, n' = k + 1 := ⟨n' - 1, by omega⟩
    have hd := hX.2.2.1
    have h2 : τ 3 2 = ι d := by rw [hX.2.2.2.2.2.2.1]; exact hX.2.2.2.2.2.2.2.2.2
    refine ⟨τ, ?_, fr12_refl τ⟩
    rw [fX12_isElsewhere_l2]
    simp (disch := omega) only [l_0, l_1, l_2, l_3, l_4, l_5, l_6, l_7, l_8, l_9, l_10, l_12, l_13, l_24, l_31, l_32, l_40, l_41, l_42, l_44, l_45, l_48, l_49, l_50, l_57, l_59, l_60, l_65, l_88, l_89, l_97, l_98, l_99, l_100, l_105, l_108, l_109, l_114, l_118, l_120, l_122, l_144, l_255, l_269, l_279, l_339, l_400, l_600, l_999, l_1000, l_2373, l_2712, ι_lt, ι_le, ι_eq, ι_add, ι_mul, ι_sub, ι_div, ι_n, ι_m1, m1_ι, m1_lt, m1_le, lt_m1, le_m1, m1_lt_m1, m1_le_m1, m1_add1, neg_ι1, ι_addm, ι_addn, Bool.false_eq_true, Nat.not_lt_zero, Nat.add_zero, Nat.zero_add, Nat.mul_zero, Nat.reduceMul, Nat.reduceAdd, Nat.reduceSub, Nat.reduceLT, Nat.reduceLeDiff, Nat.reduceEqDiff, Nat.reduceDiv, Nat.reduceBEq, Nat.reduceBNe, false_or, or_false, true_or, or_true, and_true, true_and, false_and, and_false, not_false_eq_true, not_true_eq_false, if_true, if_false, if_pos, if_neg, Option.bind_some, ite_false, ite_true, eq_self, reduceIte, lm_0, lm_1, lm_2, lm_3, lm_4, lm_5, lm_6, lm_7, lm_8, lm_9, lm_10, lm_11, lm_12, lm_13, lm_14, lm_15, lm_16, lm_17, h2, ff, Option.isSome_none]
  | succ m ih =>
    intro n' e τ h hn' hX hU
    obtain ⟨n', rfl⟩ : ∃ k, n' = k + 1 := ⟨n' - 1, by omega⟩
    have hd := hX.2.2.1
    have h2 : τ 3 2 = ι d := by rw [hX.2.2.2.2.2.2.1]; exact hX.2.2.2.2.2.2.2.2.2
    have h17 := hU e (by omega)
    rw [fX12_isElsewhere_l2, ff]
    by_cases hec : e = c
    · obtain ⟨υ, a1, a2⟩ := ih n' (e + 1) τ (by omega) (by omega) hX hU
      refine ⟨υ, ?_, a2⟩
      simp (disch := omega) only [l_0, l_1, l_2, l_3, l_4, l_5, l_6, l_7, l_8, l_9, l_10, l_12, l_13, l_24, l_31, l_32, l_40, l_41, l_42, l_44, l_45, l_48, l_49, l_50, l_57, l_59, l_60, l_65, l_88, l_89, l_97, l_98, l_99, l_100, l_105, l_108, l_109, l_114, l_118, l_120, l_122, l_144, l_255, l_269, l_279, l_339, l_400, l_600, l_999, l_1000, l_2373, l_2712, ι_lt, ι_le, ι_eq, ι_add, ι_mul, ι_sub, ι_div, ι_n, ι_m1, m1_ι, m1_lt, m1_le, lt_m1, le_m1, m1_lt_m1, m1_le_m1, m1_add1, neg_ι1, ι_addm, ι_addn, Bool.false_eq_true, Nat.not_lt_zero, Nat.add_zero, Nat.zero_add, Nat.mul_zero, Nat.reduceMul, Nat.reduceAdd, Nat.reduceSub, Nat.reduceLT, Nat.reduceLeDiff, Nat.reduceEqDiff, Nat.reduceDiv, Nat.reduceBEq, Nat.reduceBNe, false_or, or_false, true_or, or_true, and_true, true_and, false_and, and_false, not_false_eq_true, not_true_eq_false, if_true, if_false, if_pos, if_neg, Option.bind_some, ite_false, ite_true, eq_self, reduceIte, lm_0, lm_1, lm_2, lm_3, lm_4, lm_5, lm_6, lm_7, lm_8, lm_9, lm_10, lm_11, lm_12, lm_13, lm_14, lm_15, lm_16, lm_17, h2, hec, decide_true, Bool.not_true, Bool.false_and]
      rw [hec] at a1
      exact a1
    · by_cases hu : u e = true
      · obtain ⟨υ, a1, a2⟩ := ih n' (e + 1) τ (by omega) (by omega) hX hU
        refine ⟨υ, ?_, a2⟩
        unfold alv
        rw [if_pos hu] at h17
        simp (disch := omega) only [l_0, l_1, l_2, l_3, l_4, l_5, l_6, l_7, l_8, l_9, l_10, l_12, l_13, l_24, l_31, l_32, l_40, l_41, l_42, l_44, l_45, l_48, l_49, l_50, l_57, l_59, l_60, l_65, l_88, l_89, l_97, l_98, l_99, l_100, l_105, l_108, l_109, l_114, l_118, l_120, l_122, l_144, l_255, l_269, l_279, l_339, l_400, l_600, l_999, l_1000, l_2373, l_2712, ι_lt, ι_le, ι_eq, ι_add, ι_mul, ι_sub, ι_div, ι_n, ι_m1, m1_ι, m1_lt, m1_le, lt_m1, le_m1, m1_lt_m1, m1_le_m1, m1_add1, neg_ι1, ι_addm, ι_addn, Bool.false_eq_true, Nat.not_lt_zero, Nat.add_zero, Nat.zero_add, Nat.mul_zero, Nat.reduceMul, Nat.reduceAdd, Nat.reduceSub, Nat.reduceLT, Nat.reduceLeDiff, Nat.reduceEqDiff, Nat.reduceDiv, Nat.reduceBEq, Nat.reduceBNe, false_or, or_false, true_or, or_true, and_true, true_and, false_and, and_false, not_false_eq_true, not_true_eq_false, if_true, if_false, if_pos, if_neg, Option.bind_some, ite_false, ite_true, eq_self, reduceIte, lm_0, lm_1, lm_2, lm_3, lm_4, lm_5, lm_6, lm_7, lm_8, lm_9, lm_10, lm_11, lm_12, lm_13, lm_14, lm_15, lm_16, lm_17, h2, hec, h17, hu, decide_false, Bool.not_true, Bool.not_false, Bool.false_and, Bool.and_false]
        exact a1
      · obtain ⟨τ1, b1, b2⟩ := r_isShown (p := p) hX (show e < d by omega) hp
        have hu' : u e = false := by simpa using hu
        rw [if_neg hu] at h17
        by_cases hs : shB F L p e = true
        · refine ⟨τ1, ?_, b2⟩
          unfold alv
          rw [hs, if_pos rfl] at b1
          simp (disch := omega) only [l_0, l_1, l_2, l_3, l_4, l_5, l_6, l_7, l_8, l_9, l_10, l_12, l_13, l_24, l_31, l_32, l_40, l_41, l_42, l_44, l_45, l_48, l_49, l_50, l_57, l_59, l_60, l_65, l_88, l_89, l_97, l_98, l_99, l_100, l_105, l_108, l_109, l_114, l_118, l_120, l_122, l_144, l_255, l_269, l_279, l_339, l_400, l_600, l_999, l_1000, l_2373, l_2712, ι_lt, ι_le, ι_eq, ι_add, ι_mul, ι_sub, ι_div, ι_n, ι_m1, m1_ι, m1_lt, m1_le, lt_m1, le_m1, m1_lt_m1, m1_le_m1, m1_add1, neg_ι1, ι_addm, ι_addn, Bool.false_eq_true, Nat.not_lt_zero, Nat.add_zero, Nat.zero_add, Nat.mul_zero, Nat.reduceMul, Nat.reduceAdd, Nat.reduceSub, Nat.reduceLT, Nat.reduceLeDiff, Nat.reduceEqDiff, Nat.reduceDiv, Nat.reduceBEq, Nat.reduceBNe, false_or, or_false, true_or, or_true, and_true, true_and, false_and, and_false, not_false_eq_true, not_true_eq_false, if_true, if_false, if_pos, if_neg, Option.bind_some, ite_false, ite_true, eq_self, reduceIte, lm_0, lm_1, lm_2, lm_3, lm_4, lm_5, lm_6, lm_7, lm_8, lm_9, lm_10, lm_11, lm_12, lm_13, lm_14, lm_15, lm_16, lm_17, h2, hec, h17, hu', hs, b1, decide_false, Bool.not_true, Bool.not_false, Bool.and_self, Option.isSome_some]
        · obtain ⟨υ, a1, a2⟩ := ih n' (e + 1) τ1 (by omega) (by omega) (SX_12 hX b2) (U17_12 hU b2)
          refine ⟨υ, ?_, fr12_trans b2 a2⟩
          have hs' : shB F L p e = false := by simpa using hs
          unfold alv
          rw [if_neg hs] at b1
          simp (disch := omega) only [l_0, l_1, l_2, l_3, l_4, l_5, l_6, l_7, l_8, l_9, l_10, l_12, l_13, l_24, l_31, l_32, l_40, l_41, l_42, l_44, l_45, l_48, l_49, l_50, l_57, l_59, l_60, l_65, l_88, l_89, l_97, l_98, l_99, l_100, l_105, l_108, l_109, l_114, l_118, l_120, l_122, l_144, l_255, l_269, l_279, l_339, l_400, l_600, l_999, l_1000, l_2373, l_2712, ι_lt, ι_le, ι_eq, ι_add, ι_mul, ι_sub, ι_div, ι_n, ι_m1, m1_ι, m1_lt, m1_le, lt_m1, le_m1, m1_lt_m1, m1_le_m1, m1_add1, neg_ι1, ι_addm, ι_addn, Bool.false_eq_true, Nat.not_lt_zero, Nat.add_zero, Nat.zero_add, Nat.mul_zero, Nat.reduceMul, Nat.reduceAdd, Nat.reduceSub, Nat.reduceLT, Nat.reduceLeDiff, Nat.reduceEqDiff, Nat.reduceDiv, Nat.reduceBEq, Nat.reduceBNe, false_or, or_false, true_or, or_true, and_true, true_and, false_and, and_false, not_false_eq_true, not_true_eq_false, if_true, if_false, if_pos, if_neg, Option.bind_some, ite_false, ite_true, eq_self, reduceIte, lm_0, lm_1, lm_2, lm_3, lm_4, lm_5, lm_6, lm_7, lm_8, lm_9, lm_10, lm_11, lm_12, lm_13, lm_14, lm_15, lm_16, lm_17, h2, hec, h17, hu', hs', b1, decide_false, Bool.not_true, Bool.not_false, Bool.and_false]
          exact a1
theorem r_elsewhere {τ : Mem} {F : Nat → Int32} {L : List En} {n a d p c : Nat} {u : Nat → Bool} (hp : p < 2147483648) (hc : c < d) (huc : u c = false) (hs : shB F L p c = true) (hX : SX τ F L n a d) (hU : U17 τ u) : ∃ υ, fX12_isElsewhere (ι p) (ι c) τ = some (if E1 F L u d p then ι 1 else ι 0, υ) ∧ fr12 τ υ := by
  have hd := hX.2.2.1
  obtain ⟨υ, a1, a2⟩ := r_el (u := u) (p := p) (c := c) hp (by omega) d FU 0 τ (by omega) (by unfold FU; omega) hX hU
  rw [else_eq hc huc hs] at a1
  exact ⟨υ, by unfold fX12_isElsewhere; rw [l_0]; exact a1, a2⟩
theorem shB_0 {F : Nat → Int32} {L : List En} {p c : Nat} (h : sh0 F L c = some p) : shB F L p c = true := decide_eq_true (Or.inl h)
theorem shB_1 {F : Nat → Int32} {L : List En} {p c : Nat} (h : sh1 F L c = some p) : shB F L p c = true := decide_eq_true (Or.inr h)
theorem r_isNeedless {τ : Mem} {F : Nat → Int32} {L : List En} {n a d c : Nat} {u : Nat → Bool} (hX : SX τ F L n a d) (hU : U17 τ u) (hc : c < d) (huc : u c = false) : ∃ υ, fX12_isNeedless (ι c) τ = some (if ndB (E1 F L u d) (sh0 F L c) && ndB (E1 F L u d) (sh1 F L c) then ι 1 else ι 0, υ) ∧ fr12 τ υ := by
  have hX' := hX
  obtain ⟨hn, ha, hd, hL, hE, hLe, h3, hO, hS, h2⟩ := hX'
  obtain ⟨τ1, a1, a2, a3, a4⟩ := r_shown hn ha hd hL hE hO hc (by rw [h3]; exact hS c hc)
  rw [h3] at a2 a3
  have hX1 := SX_12 hX a4
  have hU1 := U17_12 hU a4
  have b0 : ∀ i, sh0 F L c = some i → i < 144 := fun i hi => by have := sh0_lt hL hi; omega
  have b1 : ∀ i, sh1 F L c = some i → i < 144 := fun i hi => by have := sh1_lt hL hi; omega
  have ez0 : ¬ ((0 : Int32) < 0 ∨ lm 12 ≤ (0 : Int32).toNatClampNeg) := by decide
  have ez1 : ¬ ((1 : Int32) < 0 ∨ lm 12 ≤ (1 : Int32).toNatClampNeg) := by decide
  have en0 : (0 : Int32).toNatClampNeg = 0 := rfl
  have en1 : (1 : Int32).toNatClampNeg = 1 := rfl
  have e10 : ¬ (ι 1 = (0 : Int32)) := by decide
  have e00 : ι 0 = (0 : Int32) := rfl
  have em : oi none = (-1 : Int32) := rfl
  unfold fX12_isNeedless
  rw [a1, Option.bind_some, if_neg ez0, if_neg ez1, en0, en1, a2, a3]
  cases h0 : sh0 F L c with
  | none =>
    rw [if_pos em]
    cases h1 : sh1 F L c with
    | none =>
      rw [if_pos em]
      exact ⟨τ1, rfl, a4⟩
    | some p =>
      have hp := b1 p h1
      have ep : ¬ oi (some p) = (-1 : Int32) := fun z => by
        have z : ι p = μ := z
        rw [ι_m1 (by omega)] at z; exact z
      obtain ⟨τ2, c1, c2⟩ := r_elsewhere (p := p) (by omega) hc huc (shB_1 h1) hX1 hU1
      have c1 : fX12_isElsewhere (oi (some p)) (ι c) τ1 = _ := c1
      rw [if_neg ep, c1, Option.bind_some]
      refine ⟨τ2, ?_, fr12_trans a4 c2⟩
      unfold ndB
      by_cases hE : E1 F L u d p = true
      · simp only [hE, if_true, if_neg e10, Bool.and_self]; rfl
      · simp only [hE, if_false, Bool.false_eq_true, if_pos e00, Bool.and_false]; rfl
  | some p0 =>
    have hp0 := b0 p0 h0
    have ep0 : ¬ oi (some p0) = (-1 : Int32) := fun z => by
      have z : ι p0 = μ := z
      rw [ι_m1 (by omega)] at z; exact z
    obtain ⟨τ2, c1, c2⟩ := r_elsewhere (p := p0) (by omega) hc huc (shB_0 h0) hX1 hU1
    have c1 : fX12_isElsewhere (oi (some p0)) (ι c) τ1 = _ := c1
    rw [if_neg ep0, c1, Option.bind_some]
    by_cases hE : E1 F L u d p0 = true
    · simp only [hE, if_true, if_neg e10]
      cases h1 : sh1 F L c with
      | none =>
        rw [if_pos em]
        refine ⟨τ2, ?_, fr12_trans a4 c2⟩
        unfold ndB
        simp only [hE, Bool.and_self, if_true]; rfl
      | some p =>
        have hp := b1 p h1
        have ep : ¬ oi (some p) = (-1 : Int32) := fun z => by
          have z : ι p = μ := z
          rw [ι_m1 (by omega)] at z; exact z
        obtain ⟨τ3, d1, d2⟩ := r_elsewhere (p := p) (by omega) hc huc (shB_1 h1) (SX_12 hX1 c2) (U17_12 hU1 c2)
        have d1 : fX12_isElsewhere (oi (some p)) (ι c) τ2 = _ := d1
        rw [if_neg ep, d1, Option.bind_some]
        refine ⟨τ3, ?_, fr12_trans a4 (fr12_trans c2 d2)⟩
        unfold ndB
        by_cases hE' : E1 F L u d p = true
        · simp only [hE, hE', if_true, if_neg e10, Bool.and_self]; rfl
        · simp only [hE, hE', if_false, Bool.false_eq_true, if_pos e00, Bool.and_false]; rfl
    · refine ⟨τ2, ?_, fr12_trans a4 c2⟩
      unfold ndB
      simp only [hE, if_false, Bool.false_eq_true, if_pos e00, Bool.false_and]; rfl
theorem ln379 : ln (378 + 1) = 144 := by decide
def CVn (σ : Mem) (F : Nat → Int32) (L : List En) (u : Nat → Bool) (d : Nat) : Prop := ∀ p, p < 144 → σ 379 p = ι (cf (alv F L u p) 0 d)
theorem c_twice {σ : Mem} {F : Nat → Int32} {L : List En} {u : Nat → Bool} {d : Nat} (hd : d ≤ 60) (hC : CVn σ F L u d) {o : Option Nat} (ho : ∀ p, o = some p → p < 144) : fX4_isCoveredTwice 373 (oi o) σ = some (if ndB (E1 F L u d) o then ι 1 else ι 0) := by
  unfold fX4_isCoveredTwice ndB
  cases o with
  | none => rw [if_pos (show oi none = -1 from rfl)]; rfl
  | some p =>
    have hp := ho p rfl
    have hcf := cf_le (alv F L u p) d 0
    rw [if_neg (fun z => by
      have z : ι p = μ := z
      rw [ι_m1 (by omega)] at z; exact z), show oi (some p) = ι p from rfl, c_at ln379 (by omega) hp, Option.bind_some, hC p hp]
    unfold E1
    by_cases h : 1 < cf (alv F L u p) 0 d
    · simp (disch := omega) only [l_0, l_1, l_2, l_3, l_4, l_5, l_6, l_7, l_8, l_9, l_10, l_12, l_13, l_24, l_31, l_32, l_40, l_41, l_42, l_44, l_45, l_48, l_49, l_50, l_57, l_59, l_60, l_65, l_88, l_89, l_97, l_98, l_99, l_100, l_105, l_108, l_109, l_114, l_118, l_120, l_122, l_144, l_255, l_269, l_279, l_339, l_400, l_600, l_999, l_1000, l_2373, l_2712, ι_lt, ι_le, ι_eq, ι_add, ι_mul, ι_sub, ι_div, ι_n, ι_m1, m1_ι, m1_lt, m1_le, lt_m1, le_m1, m1_lt_m1, m1_le_m1, m1_add1, neg_ι1, ι_addm, ι_addn, Bool.false_eq_true, Nat.not_lt_zero, Nat.add_zero, Nat.zero_add, Nat.mul_zero, Nat.reduceMul, Nat.reduceAdd, Nat.reduceSub, Nat.reduceLT, Nat.reduceLeDiff, Nat.reduceEqDiff, Nat.reduceDiv, Nat.reduceBEq, Nat.reduceBNe, false_or, or_false, true_or, or_true, and_true, true_and, false_and, and_false, not_false_eq_true, not_true_eq_false, if_true, if_false, if_pos, if_neg, Option.bind_some, ite_false, ite_true, eq_self, reduceIte, h, decide_true]
    · simp (disch := omega) only [l_0, l_1, l_2, l_3, l_4, l_5, l_6, l_7, l_8, l_9, l_10, l_12, l_13, l_24, l_31, l_32, l_40, l_41, l_42, l_44, l_45, l_48, l_49, l_50, l_57, l_59, l_60, l_65, l_88, l_89, l_97, l_98, l_99, l_100, l_105, l_108, l_109, l_114, l_118, l_120, l_122, l_144, l_255, l_269, l_279, l_339, l_400, l_600, l_999, l_1000, l_2373, l_2712, ι_lt, ι_le, ι_eq, ι_add, ι_mul, ι_sub, ι_div, ι_n, ι_m1, m1_ι, m1_lt, m1_le, lt_m1, le_m1, m1_lt_m1, m1_le_m1, m1_add1, neg_ι1, ι_addm, ι_addn, Bool.false_eq_true, Nat.not_lt_zero, Nat.add_zero, Nat.zero_add, Nat.mul_zero, Nat.reduceMul, Nat.reduceAdd, Nat.reduceSub, Nat.reduceLT, Nat.reduceLeDiff, Nat.reduceEqDiff, Nat.reduceDiv, Nat.reduceBEq, Nat.reduceBNe, false_or, or_false, true_or, or_true, and_true, true_and, false_and, and_false, not_false_eq_true, not_true_eq_false, if_true, if_false, if_pos, if_neg, Option.bind_some, ite_false, ite_true, eq_self, reduceIte, h, decide_false]
def cv1 (o : Option Nat) (x : Int32) (σ : Mem) : Mem := match o with | none => σ | some p => up σ 379 p (σ 379 p + x)
theorem c_cov1 {o : Option Nat} (ho : ∀ p, o = some p → p < 144) (x : Int32) (σ : Mem) : ∃ v, fX3_at 378 (oi o) σ = some v ∧ fX3_put 378 (oi o) (v + x) σ = some (cv1 o x σ) := by
  cases o with
  | none =>
    refine ⟨0, ?_, ?_⟩
    · unfold fX3_at; rw [if_pos (by decide)]
    · unfold fX3_put; rw [if_pos (by decide)]; rfl
  | some p => exact ⟨σ 379 p, c_at ln379 (by omega) (ho p rfl), c_put ln379 (by omega) (ho p rfl)⟩
theorem c_addCover {σ : Mem} {F : Nat → Int32} {L : List En} {d c : Nat} (hd : d ≤ 60) (hL : L.length ≤ 144) (hP : PC σ F L d) (hc : c < d) (hne : ∀ p, fs F L c = some p → sc F L c = some p → False) (x : Int32) : ∃ ρ, fX4_addCover 373 (ι c) x σ = some ρ ∧ (∀ p, p < 144 → ρ 379 p = if shB F L p c then σ 379 p + x else σ 379 p) ∧ ∀ j, j ≠ 379 → ρ j = σ j := by
  have b0 : ∀ i, fs F L c = some i → i < 144 := fun i hi => by have := fs_lt hL hi; omega
  have b1 : ∀ i, sc F L c = some i → i < 144 := fun i hi => by have := sc_lt hL hi; omega
  obtain ⟨v, a1, a2⟩ := c_cov1 b0 x σ
  obtain ⟨w, c1, c2⟩ := c_cov1 b1 x (cv1 (fs F L c) x σ)
  refine ⟨_, (by
    unfold fX4_addCover
    rw [c_first hd hP hc, Option.bind_some, c_second hd hP hc, Option.bind_some, show 373 + 5 = 378 from rfl, a1, Option.bind_some, a2, Option.bind_some, c1, Option.bind_some, c2, Option.bind_some]), fun p hp => ?_, fun j hj => ?_⟩
  · have hs : (shB F L p c = true) = (fs F L c = some p ∨ sc F L c = some p) := by unfold shB; rw [decide_eq_true_eq, fs_sc]
    have key : ∀ o0 o1 : Option Nat, (∀ q, o0 = some q → o1 = some q → False) → (cv1 o1 x (cv1 o0 x σ)) 379 p = (if o0 = some p ∨ o1 = some p then σ 379 p + x else σ 379 p) := by
      intro o0 o1 hn
      cases o0 with
      | none =>
        cases o1 with
        | none => simp [cv1]
        | some p1 =>
          by_cases hp1 : p = p1
          · subst hp1; simp [cv1, up_e]
          · rw [if_neg (by simp; exact fun z => hp1 z.symm)]
            show up σ 379 p1 (σ 379 p1 + x) 379 p = _
            exact up_j _ _ _ _ _ hp1
      | some p0 =>
        cases o1 with
        | none =>
          by_cases hp0 : p = p0
          · subst hp0; simp [cv1, up_e]
          · rw [if_neg (by simp; exact fun z => hp0 z.symm)]
            show up σ 379 p0 (σ 379 p0 + x) 379 p = _
            exact up_j _ _ _ _ _ hp0
        | some p1 =>
          have hn : p0 ≠ p1 := fun z => hn p0 rfl (by rw [z])
          by_cases hp1 : p = p1
          · subst hp1
            rw [if_pos (Or.inr rfl)]
            show up (up σ 379 p0 (σ 379 p0 + x)) 379 p (up σ 379 p0 (σ 379 p0 + x) 379 p + x) 379 p = _
            rw [up_e, up_j _ _ _ _ _ (Ne.symm hn)]
          · by_cases hp0 : p = p0
            · subst hp0
              rw [if_pos (Or.inl rfl)]
              show up (up σ 379 p (σ 379 p + x)) 379 p1 (up σ 379 p (σ 379 p + x) 379 p1 + x) 379 p = _
              rw [up_j _ _ _ _ _ hn, up_e]
            · rw [if_neg (by simp; exact ⟨fun z => hp0 z.symm, fun z => hp1 z.symm⟩)]
              show up (up σ 379 p0 (σ 379 p0 + x)) 379 p1 (up σ 379 p0 (σ 379 p0 + x) 379 p1 + x) 379 p = _
              rw [up_j _ _ _ _ _ hp1, up_j _ _ _ _ _ hp0]
    rw [key _ _ hne]
    by_cases hb : fs F L c = some p ∨ sc F L c = some p
    · rw [if_pos hb, if_pos (by rw [hs]; exact hb)]
    · rw [if_neg hb, if_neg (by rw [hs]; exact hb)]
  · cases h0 : fs F L c with
    | none =>
      cases h1 : sc F L c with
      | none => rfl
      | some p1 => exact up_k _ _ _ _ _ hj
    | some p0 =>
      cases h1 : sc F L c with
      | none => exact up_k _ _ _ _ _ hj
      | some p1 => exact (up_k _ _ _ _ _ hj).trans (up_k _ _ _ _ _ hj)
theorem PC_379 {σ ρ : Mem} {F : Nat → Int32} {L : List En} {d : Nat} (h : PC σ F L d) (hj : ∀ j, j ≠ 379 → ρ j = σ j) : PC ρ F L d := ⟨by rw [hj 373 (by omega)]; exact h.1, by rw [hj 375 (by omega), hj 377 (by omega)]; exact h.2⟩
theorem c_nl10 {F : Nat → Int32} {L : List En} {d : Nat} (hd : d ≤ 60) (hL : L.length ≤ 144) (hne : ∀ c, c < d → ∀ p, fs F L c = some p → sc F L c = some p → False) : ∀ m n c (σ : Mem), c + m = d → m < n → PC σ F L d → (∀ p, p < 144 → σ 379 p = ι (cf (shB F L p) 0 c)) → ∃ z ρ, fX4_countNeedless_l10 373 n (ι c) σ = some (z, ρ) ∧ (∀ p, p < 144 → ρ 379 p = ι (cf (shB F L p) 0 d)) ∧ ∀ j, j ≠ 379 → ρ j = σ j := by
  intro m
  induction m with
  | zero =>
    intro n c σ h hn hP hv
    obtain ⟨n, rfl⟩ : ∃ k, n = k + 1 := ⟨n - 1, by omega⟩
    have e : c = d := by omega
    subst e
    rw [fX4_countNeedless_l10, hP.1, if_pos (by rw [ι_le (by omega) (by omega)]; omega)]
    exact ⟨_, _, rfl, hv, fun _ _ => rfl⟩
  | succ m ih =>
    intro n c σ h hn hP hv
    obtain ⟨n, rfl⟩ : ∃ k, n = k + 1 := ⟨n - 1, by omega⟩
    obtain ⟨σ1, a1, a2, a3⟩ := c_addCover hd hL hP (show c < d by omega) (hne c (by omega)) 1
    obtain ⟨z, ρ, b1, b2, b3⟩ := ih n (c + 1) σ1 (by omega) (by omega) (PC_379 hP a3) (fun p hp => by
      rw [a2 p hp, hv p hp, cf_last, Nat.zero_add]
      by_cases hs : shB F L p c = true
      · rw [if_pos hs, if_pos hs, l_1, ι_add]
      · rw [if_neg hs, if_neg hs, Nat.add_zero])
    refine ⟨z, ρ, ?_, b2, fun j hj => (b3 j hj).trans (a3 j hj)⟩
    rw [fX4_countNeedless_l10, hP.1, if_neg (by rw [ι_le (by omega) (by omega)]; omega), a1, Option.bind_some, l_1, ι_add]
    exact b1
def ps (m : Nat) : Int32 := if m = 0 then μ else ι (m - 1)
theorem ps_dec (m : Nat) : ι m + (-1 : Int32) = ps m := by
  unfold ps
  by_cases h : m = 0
  · rw [if_pos h, h]; rfl
  · rw [if_neg h]
    show ι m + μ = _
    rw [ι_addm (by omega)]
theorem ps_sub (m : Nat) : ι m - (1 : Int32) = ps m := by
  unfold ps
  by_cases h : m = 0
  · rw [if_pos h, h]; rfl
  · rw [if_neg h, l_1, ι_sub (by omega)]
theorem ps_succ (m : Nat) : ps (m + 1) = ι m := by unfold ps; rw [if_neg (by omega)]; rfl
theorem nd_eq (E : Nat → Bool) (F : Nat → Int32) (L : List En) (c : Nat) : (ndB E (fs F L c) && ndB E (sc F L c)) = (ndB E (sh0 F L c) && ndB E (sh1 F L c)) := by
  unfold fs sc oA oB
  cases h0 : sh0 F L c with
  | none => show (ndB E (sh1 F L c) && true) = (true && ndB E (sh1 F L c)); rw [Bool.and_true, Bool.true_and]
  | some x => rfl
theorem nar_b1 : vp_nar .boolean (ι 1) = ι 1 := by decide +kernel
theorem nar_b0 : vp_nar .boolean (ι 0) = ι 0 := by decide +kernel
theorem need_sim {F : Nat → Int32} {L : List En} {n a d : Nat} (hd : d ≤ 60) (hL : L.length ≤ 144) (hne : ∀ c, c < d → ∀ p, fs F L c = some p → sc F L c = some p → False) : ∀ m n1 n2 (x : Int32) (u : Nat → Bool) (σ τ : Mem), m ≤ d → m < n1 → m < n2 → PC σ F L d → CVn σ F L u d → SX τ F L n a d → U17 τ u → (∀ c, c < m → u c = false) → ∃ v z ρ z' υ, fX4_countNeedless_l39 373 n1 x (ps m) σ = some (v, z, ρ) ∧ fX12_needless_l41 n2 x (ps m) τ = some (v, z', υ) ∧ (∀ j, j ≠ 379 → ρ j = σ j) ∧ (∀ k j, k ≠ 12 → k ≠ 17 → υ k j = τ k j) := by
  intro m
  induction m with
  | zero =>
    intro n1 n2 x u σ τ hm h1 h2 hP hC hX hU hu
    obtain ⟨n1, rfl⟩ : ∃ k, n1 = k + 1 := ⟨n1 - 1, by omega⟩
    obtain ⟨n2, rfl⟩ : ∃ k, n2 = k + 1 := ⟨n2 - 1, by omega⟩
    rw [fX4_countNeedless_l39, fX12_needless_l41, if_pos (by decide), if_pos (by decide)]
    exact ⟨_, _, _, _, _, rfl, rfl, fun _ _ => rfl, fun _ _ _ _ => rfl⟩
  | succ m ih =>
    intro n1 n2 x u σ τ hm h1 h2 hP hC hX hU hu
    obtain ⟨n1, rfl⟩ : ∃ k, n1 = k + 1 := ⟨n1 - 1, by omega⟩
    obtain ⟨n2, rfl⟩ : ∃ k, n2 = k + 1 := ⟨n2 - 1, by omega⟩
    have hum := hu m (by omega)
    have e0 : ¬ ι m < 0 := by simp (disch := omega) only [l_0, l_1, l_2, l_3, l_4, l_5, l_6, l_7, l_8, l_9, l_10, l_12, l_13, l_24, l_31, l_32, l_40, l_41, l_42, l_44, l_45, l_48, l_49, l_50, l_57, l_59, l_60, l_65, l_88, l_89, l_97, l_98, l_99, l_100, l_105, l_108, l_109, l_114, l_118, l_120, l_122, l_144, l_255, l_269, l_279, l_339, l_400, l_600, l_999, l_1000, l_2373, l_2712, ι_lt, ι_le, ι_eq, ι_add, ι_mul, ι_sub, ι_div, ι_n, ι_m1, m1_ι, m1_lt, m1_le, lt_m1, le_m1, m1_lt_m1, m1_le_m1, m1_add1, neg_ι1, ι_addm, ι_addn, Bool.false_eq_true, Nat.not_lt_zero, Nat.add_zero, Nat.zero_add, Nat.mul_zero, Nat.reduceMul, Nat.reduceAdd, Nat.reduceSub, Nat.reduceLT, Nat.reduceLeDiff, Nat.reduceEqDiff, Nat.reduceDiv, Nat.reduceBEq, Nat.reduceBNe, false_or, or_false, true_or, or_true, and_true, true_and, false_and, and_false, not_false_eq_true, not_true_eq_false, if_true, if_false, if_pos, if_neg, Option.bind_some, ite_false, ite_true, eq_self, reduceIte]
    have e10 : ¬ (ι 1 = (0 : Int32)) := by decide
    have e00 : ι 0 = (0 : Int32) := rfl
    have b0 : ∀ i, fs F L m = some i → i < 144 := fun i hi => by have := fs_lt hL hi; omega
    have b1 : ∀ i, sc F L m = some i → i < 144 := fun i hi => by have := sc_lt hL hi; omega
    obtain ⟨τ1, a1, a2⟩ := r_isNeedless hX hU (show m < d by omega) hum
    rw [← nd_eq] at a1
    have em : ¬ (ι m < 0 ∨ lm 17 ≤ (ι m).toNatClampNeg) := by
      simp (disch := omega) only [l_0, l_1, l_2, l_3, l_4, l_5, l_6, l_7, l_8, l_9, l_10, l_12, l_13, l_24, l_31, l_32, l_40, l_41, l_42, l_44, l_45, l_48, l_49, l_50, l_57, l_59, l_60, l_65, l_88, l_89, l_97, l_98, l_99, l_100, l_105, l_108, l_109, l_114, l_118, l_120, l_122, l_144, l_255, l_269, l_279, l_339, l_400, l_600, l_999, l_1000, l_2373, l_2712, ι_lt, ι_le, ι_eq, ι_add, ι_mul, ι_sub, ι_div, ι_n, ι_m1, m1_ι, m1_lt, m1_le, lt_m1, le_m1, m1_lt_m1, m1_le_m1, m1_add1, neg_ι1, ι_addm, ι_addn, Bool.false_eq_true, Nat.not_lt_zero, Nat.add_zero, Nat.zero_add, Nat.mul_zero, Nat.reduceMul, Nat.reduceAdd, Nat.reduceSub, Nat.reduceLT, Nat.reduceLeDiff, Nat.reduceEqDiff, Nat.reduceDiv, Nat.reduceBEq, Nat.reduceBNe, false_or, or_false, true_or, or_true, and_true, true_and, false_and, and_false, not_false_eq_true, not_true_eq_false, if_true, if_false, if_pos, if_neg, Option.bind_some, ite_false, ite_true, eq_self, reduceIte, lm_0, lm_1, lm_2, lm_3, lm_4, lm_5, lm_6, lm_7, lm_8, lm_9, lm_10, lm_11, lm_12, lm_13, lm_14, lm_15, lm_16, lm_17]; omega
    have en : (ι m).toNatClampNeg = m := ι_n (by omega)
    rw [fX4_countNeedless_l39, fX12_needless_l41, ps_succ, if_neg e0, if_neg e0, a1, Option.bind_some, if_neg em, if_neg em, en, c_first hd hP (show m < d by omega), Option.bind_some, c_twice hd hC b0, Option.bind_some, ps_dec]
    have hw : ∀ (v : Int32) k j, k ≠ 12 → k ≠ 17 → up τ1 17 m v k j = τ k j := fun v k j g1 g2 => by rw [up_k _ _ _ _ _ g2, a2 k j g1]
    have hX1 : ∀ v : Int32, SX (up τ1 17 m v) F L n a d := fun v => SX_c hX (funext fun j => hw v 3 j (by omega) (by omega)) (funext fun j => hw v 8 j (by omega) (by omega)) (hw v 0 17 (by omega) (by omega))
    by_cases hb : (ndB (E1 F L u d) (fs F L m) && ndB (E1 F L u d) (sc F L m)) = true
    · have hb1 : ndB (E1 F L u d) (fs F L m) = true := (Bool.and_eq_true _ _ ▸ hb).1
      have hb2 : ndB (E1 F L u d) (sc F L m) = true := (Bool.and_eq_true _ _ ▸ hb).2
      obtain ⟨σ1, c1, c2, c3⟩ := c_addCover hd hL hP (show m < d by omega) (hne m (by omega)) (-1)
      rw [if_pos hb1, if_neg e10, c_second hd hP (show m < d by omega), Option.bind_some, c_twice hd hC b1, Option.bind_some, if_pos hb2, if_neg e10, c1, Option.bind_some]
      rw [if_pos hb]
      show ∃ v z ρ z' υ, _ ∧ (if up τ1 17 m (vp_nar .boolean (ι 1)) 17 m = 0 then _ else fX12_needless_l41 n2 (x + 1) (ps m) (up τ1 17 m (vp_nar .boolean (ι 1)))) = _ ∧ _ ∧ _
      rw [nar_b1, up_e, if_neg e10]
      obtain ⟨v, z, ρ, z', υ, d1, d2, d3, d4⟩ := ih n1 n2 (x + 1) (fun k => if k = m then true else u k) σ1 (up τ1 17 m (ι 1)) (by omega) (by omega) (by omega) (PC_379 hP c3) (fun p hp => by
        have hpt := cf_point (P := alv F L u p) (Q := alv F L (fun k => if k = m then true else u k) p) (c := m) (fun k hk => by unfold alv; simp only [hk, if_false]) (by unfold alv; simp) d 0 (by omega) (by omega)
        rw [c2 p hp, hC p hp]
        by_cases hs : shB F L p m = true
        · have hal : alv F L u p m = true := by unfold alv; rw [hum, hs]; rfl
          rw [hal, if_pos rfl] at hpt
          rw [if_pos hs, hpt]
          show ι _ + μ = _
          rw [ι_addm (by omega)]; rfl
        · have hal : ¬ alv F L u p m = true := by unfold alv; simp [hs]
          rw [if_neg hal] at hpt
          rw [if_neg hs, hpt]; rfl) (hX1 _) (fun c hc => by
        by_cases hcm : c = m
        · rw [hcm, up_e]; simp
        · rw [up_j _ _ _ _ _ hcm, a2 17 c (by omega), hU c hc]; simp only [hcm, if_false]) (fun c hc => by
        have : c ≠ m := by omega
        simp only [this, if_false]; exact hu c (by omega))
      exact ⟨v, z, ρ, z', υ, d1, d2, fun j hj => (d3 j hj).trans (c3 j hj), fun k j g1 g2 => (d4 k j g1 g2).trans (hw _ k j g1 g2)⟩
    · rw [if_neg hb]
      obtain ⟨v, z, ρ, z', υ, d1, d2, d3, d4⟩ := ih n1 n2 x u σ (up τ1 17 m (ι 0)) (by omega) (by omega) (by omega) hP hC (hX1 _) (fun c hc => by
        by_cases hcm : c = m
        · rw [hcm, up_e, hum]; rfl
        · rw [up_j _ _ _ _ _ hcm, a2 17 c (by omega), hU c hc]) (fun c hc => hu c (by omega))
      refine ⟨v, z, ρ, z', υ, ?_, ?_, d3, fun k j g1 g2 => (d4 k j g1 g2).trans (hw _ k j g1 g2)⟩
      · by_cases hb1 : ndB (E1 F L u d) (fs F L m) = true
        · have hb2 : ¬ ndB (E1 F L u d) (sc F L m) = true := fun z => hb (by rw [hb1, z]; rfl)
          rw [if_pos hb1, if_neg e10, c_second hd hP (show m < d by omega), Option.bind_some, c_twice hd hC b1, Option.bind_some, if_neg hb2, if_pos e00]
          exact d1
        · rw [if_neg hb1, if_pos e00]
          exact d1
      · show (if up τ1 17 m (vp_nar .boolean (ι 0)) 17 m = 0 then fX12_needless_l41 n2 (x + 0) (ps m) (up τ1 17 m (vp_nar .boolean (ι 0))) else _) = _
        rw [nar_b0, up_e, if_pos e00, Int32.add_zero]
        exact d2
theorem r_nl11 : ∀ m n c (τ : Mem), c + m = 60 → m < n → (∀ j, j < c → τ 17 j = ι 0) → ∃ z υ, fX12_needless_l11 n (ι c) τ = some (z, υ) ∧ (∀ j, j < 60 → υ 17 j = ι 0) ∧ ∀ k j, k ≠ 17 → υ k j = τ k j := by
  intro m
  induction m with
  | zero =>
    intro n c τ h hn hr
    obtain ⟨n, rfl⟩ : ∃ k, n = k + 1 := ⟨n - 1, by omega⟩
    rw [fX12_needless_l11, l_60, if_pos (by rw [ι_le (by omega) (by omega)]; omega)]
    exact ⟨_, _, rfl, fun j hj => hr j (by omega), fun _ _ _ => rfl⟩
  | succ m ih =>
    intro n c τ h hn hr
    obtain ⟨n, rfl⟩ : ∃ k, n = k + 1 := ⟨n - 1, by omega⟩
    obtain ⟨z, υ, a1, a2, a3⟩ := ih n (c + 1) (up τ 17 c (vp_nar .boolean (0 : Int32))) (by omega) (by omega) (fun j hj => by
      by_cases hji : j = c
      · rw [hji, up_e]; exact nar_b0
      · rw [up_j _ _ _ _ _ hji]; exact hr j (by omega))
    refine ⟨z, υ, ?_, a2, fun k j hk => (a3 k j hk).trans (congrFun (up_k _ _ _ _ _ hk) j)⟩
    have em : ¬ (ι c < 0 ∨ lm 17 ≤ (ι c).toNatClampNeg) := by
      simp (disch := omega) only [l_0, l_1, l_2, l_3, l_4, l_5, l_6, l_7, l_8, l_9, l_10, l_12, l_13, l_24, l_31, l_32, l_40, l_41, l_42, l_44, l_45, l_48, l_49, l_50, l_57, l_59, l_60, l_65, l_88, l_89, l_97, l_98, l_99, l_100, l_105, l_108, l_109, l_114, l_118, l_120, l_122, l_144, l_255, l_269, l_279, l_339, l_400, l_600, l_999, l_1000, l_2373, l_2712, ι_lt, ι_le, ι_eq, ι_add, ι_mul, ι_sub, ι_div, ι_n, ι_m1, m1_ι, m1_lt, m1_le, lt_m1, le_m1, m1_lt_m1, m1_le_m1, m1_add1, neg_ι1, ι_addm, ι_addn, Bool.false_eq_true, Nat.not_lt_zero, Nat.add_zero, Nat.zero_add, Nat.mul_zero, Nat.reduceMul, Nat.reduceAdd, Nat.reduceSub, Nat.reduceLT, Nat.reduceLeDiff, Nat.reduceEqDiff, Nat.reduceDiv, Nat.reduceBEq, Nat.reduceBNe, false_or, or_false, true_or, or_true, and_true, true_and, false_and, and_false, not_false_eq_true, not_true_eq_false, if_true, if_false, if_pos, if_neg, Option.bind_some, ite_false, ite_true, eq_self, reduceIte, lm_0, lm_1, lm_2, lm_3, lm_4, lm_5, lm_6, lm_7, lm_8, lm_9, lm_10, lm_11, lm_12, lm_13, lm_14, lm_15, lm_16, lm_17]; omega
    rw [fX12_needless_l11, l_60, if_neg (by rw [ι_le (by omega) (by omega)]; omega), if_neg em, ι_n (by omega), l_1, ι_add]
    exact a1
theorem sim39 : Sim39 Rel := by
  intro σ τ hR
  replace hR := Rel_0 hR 0
  unfold fX12_needless fX11_needless
  generalize up τ 0 0 (0 : Int32) = τ at *
  obtain ⟨k, n, a, b, d, t, hO⟩ := RO_of hR
  obtain ⟨ρ, υ, e1, e2, hO2, oc, pc, sx, f1, f2⟩ := scans_RO hO
  have hd := sx.2.2.1
  have hL := sx.2.2.2.1
  have hS := sx.2.2.2.2.2.2.2.2.1
  have hne : ∀ c, c < d → ∀ p, fs (τ 3) (ordE (τ 3) n a) c = some p → sc (τ 3) (ordE (τ 3) n a) c = some p → False := fun c hc p h1 h2 => by
    unfold fs oA at h1
    unfold sc oB at h2
    cases h0 : sh0 (τ 3) (ordE (τ 3) n a) c with
    | none => rw [h0] at h2; cases h2
    | some x =>
      rw [h0] at h1 h2
      have h1 : some x = some p := h1
      have h2 : sh1 (τ 3) (ordE (τ 3) n a) c = some p := h2
      cases h1
      have := sh_lt sx.1 (hS c hc) h0 h2
      omega
  have hfill := c_fill (o := 378) (x := (0 : Int32)) (σ := ρ) ln379 (by omega)
  have hfj : ∀ j, j ≠ 379 → (fun k j => if k = 378 + 1 ∧ j < 144 then (0 : Int32) else ρ k j : Mem) j = ρ j := fun j hj => funext fun i => by
    show (if j = 378 + 1 ∧ i < 144 then (0 : Int32) else ρ j i) = ρ j i
    rw [if_neg (by omega)]
  obtain ⟨z, ρ1, a1, a2, a3⟩ := c_nl10 hd hL hne d FU 0 (fun k j => if k = 378 + 1 ∧ j < 144 then (0 : Int32) else ρ k j) (by omega) (by unfold FU; omega) (PC_379 pc hfj) (fun p hp => by
    show (if 379 = 378 + 1 ∧ p < 144 then (0 : Int32) else _) = _
    rw [if_pos (by omega)]; rfl)
  have hj1 : ∀ j, j ≠ 379 → ρ1 j = ρ j := fun j hj => (a3 j hj).trans (hfj j hj)
  obtain ⟨z', υ1, b1, b2, b3⟩ := r_nl11 60 FU 0 υ (by omega) (by unfold FU; omega) (fun j hj => by omega)
  have hsx : SX υ1 (τ 3) (ordE (τ 3) n a) n a d := SX_c sx (funext fun j => b3 3 j (by omega)) (funext fun j => b3 8 j (by omega)) (b3 0 17 (by omega))
  have h32 : υ1 3 2 = ι d := by rw [hsx.2.2.2.2.2.2.1]; exact hsx.2.2.2.2.2.2.2.2.2
  obtain ⟨v, w, ρ2, w', υ2, c1, c2, c3, c4⟩ := need_sim hd hL hne d FU FU 0 (fun _ => false) ρ1 υ1 (Nat.le_refl d) (by unfold FU; omega) (by unfold FU; omega) (PC_379 pc hj1) (fun p hp => a2 p hp) hsx (fun c hc => b2 c hc) (fun _ _ => rfl)
  refine ⟨v, ρ2, υ2, ?_, ?_, Rel_c (RO_rel hO2) (fun j hj => (c3 j (by unfold KK RK at hj; omega)).trans (hj1 j (by unfold KK RK at hj; omega))) (fun k j hk => ?_)⟩
  · have a1 : fX4_countNeedless_l10 373 FU 0 _ = _ := a1
    unfold fX4_countNeedless
    rw [e1, Option.bind_some, Nat.zero_add, hfill, Option.bind_some, a1, Option.bind_some]
    show ((fX4_countNeedless_l39 373 FU 0 (ρ1 373 5 - 1) ρ1).bind _).bind _ = _
    rw [hj1 373 (by omega), pc.1, ps_sub, c1]; rfl
  · have b1 : fX12_needless_l11 FU 0 υ = _ := b1
    have ez : ¬ ((2 : Int32) < 0 ∨ lm 3 ≤ (2 : Int32).toNatClampNeg) := by decide
    rw [e2, Option.bind_some, b1, Option.bind_some, if_neg ez]
    show (fX12_needless_l41 FU 0 (υ1 3 2 - 1) υ1).bind _ = _
    rw [h32, ps_sub, c2]; rfl
  · rw [c4 k j (by unfold KT RT at hk; omega) (by unfold KT RT at hk; omega), b3 k j (by unfold KT RT at hk; omega)]

/-! PURE PART: texts -/
def gt (l : List Nat) (i : Nat) : Nat := l.getD i 0
theorem gt_app1 {l : List Nat} {c i : Nat} (h : i < l.length) : gt (l ++ [c]) i = gt l i := by
  unfold gt
  rw [List.getD_eq_getElem?_getD, List.getElem?_append_left h, ← List.getD_eq_getElem?_getD]
theorem gt_last {l : List Nat} {c : Nat} : gt (l ++ [c]) l.length = c := by
  unfold gt
  rw [List.getD_eq_getElem?_getD, List.getElem?_concat_length]; rfl
theorem len1 {l : List Nat} {c : Nat} : (l ++ [c]).length = l.length + 1 := by rw [List.length_append]; rfl
def TC (σ : Mem) (o L : Nat) (l : List Nat) : Prop := ln (o + 1) = L ∧ L ≤ 600 ∧ l.length ≤ L ∧ σ o 1 = ι l.length ∧ ∀ i, i < l.length → σ (o + 1) i = ι (gt l i)
def TR (τ : Mem) (l : List Nat) : Prop := l.length ≤ 400 ∧ τ 0 21 = ι l.length ∧ ∀ i, i < l.length → τ 10 i = ι (gt l i) ∧ gt l i < 128
def frT (o : Nat) (σ ρ : Mem) : Prop := ∀ j, j ≠ o → j ≠ o + 1 → ρ j = σ j
def frW (τ υ : Mem) : Prop := ∀ k j, ¬ (k = 10 ∨ (k = 0 ∧ j = 21)) → υ k j = τ k j
theorem frT_refl (o : Nat) (σ : Mem) : frT o σ σ := fun _ _ _ => rfl
theorem frW_refl (τ : Mem) : frW τ τ := fun _ _ _ => rfl
theorem frT_trans {o : Nat} {σ ρ π : Mem} (h1 : frT o σ ρ) (h2 : frT o ρ π) : frT o σ π := fun j a b => (h2 j a b).trans (h1 j a b)
theorem frW_trans {σ ρ π : Mem} (h1 : frW σ ρ) (h2 : frW ρ π) : frW σ π := fun k j a => (h2 k j a).trans (h1 k j a)
theorem frW_Ro {τ υ : Mem} (h : frW τ υ) (hr : Ro τ) : Ro υ := fun i hi => (h 11 i (by omega)).trans (hr i hi)
theorem c_w {σ : Mem} {o L c : Nat} {l : List Nat} (h : TC σ o L l) (hl : l.length < L) : ∃ ρ, fX8_add o (ι c) σ = some ρ ∧ TC ρ o L (l ++ [c]) ∧ frT o σ ρ := by
  obtain ⟨h1, h2, h3, h4, h5⟩ := h
  refine ⟨_, c_tadd h1 h2 hl h4 (ι c), ⟨h1, h2, by rw [len1]; omega, ?_, fun i hi => ?_⟩, fun j a b => ?_⟩
  · rw [up_e, len1]
  · rw [len1] at hi
    rw [up_k _ _ _ _ _ (show o + 1 ≠ o by omega)]
    by_cases e : i = l.length
    · rw [e, up_e, gt_last]
    · rw [up_j _ _ _ _ _ e, gt_app1 (by omega)]; exact h5 i (by omega)
  · rw [up_k _ _ _ _ _ a, up_k _ _ _ _ _ b]
theorem nar_0 : ∀ c, c < 128 → (ι c).toInt8.toInt32 = ι c := by decide +kernel
theorem nar_c {c : Nat} (hc : c < 128) : vp_nar .byte (ι c).toInt8.toInt32 = ι c := by rw [pk_vb, nar_0 c hc]
theorem nar_d {c : Nat} (hc : c < 128) : vp_nar .byte (ι c) = ι c := by
  have := nar_c hc
  rw [nar_0 c hc] at this; exact this
theorem r_w {τ : Mem} {c : Nat} {l : List Nat} (h : TR τ l) (hl : l.length < 400) (hc : c < 128) : ∃ υ, fX12_writes (ι c) τ = some υ ∧ TR υ (l ++ [c]) ∧ frW τ υ := by
  obtain ⟨h1, h2, h3⟩ := h
  refine ⟨up (up τ 10 l.length (ι c)) 0 21 (ι (l.length + 1)), ?_, ⟨by rw [len1]; omega, ?_, fun i hi => ?_⟩, fun k j hk => ?_⟩
  · unfold fX12_writes
    rw [nar_c hc, up_k _ _ _ _ _ (show (0 : Nat) ≠ 10 by omega), h2]
    simp (disch := omega) only [l_0, l_1, l_2, l_3, l_4, l_5, l_6, l_7, l_8, l_9, l_10, l_12, l_13, l_24, l_31, l_32, l_40, l_41, l_42, l_44, l_45, l_48, l_49, l_50, l_57, l_59, l_60, l_65, l_88, l_89, l_97, l_98, l_99, l_100, l_105, l_108, l_109, l_114, l_118, l_120, l_122, l_144, l_255, l_269, l_279, l_339, l_400, l_600, l_999, l_1000, l_2373, l_2712, ι_lt, ι_le, ι_eq, ι_add, ι_mul, ι_sub, ι_div, ι_n, ι_m1, m1_ι, m1_lt, m1_le, lt_m1, le_m1, m1_lt_m1, m1_le_m1, m1_add1, neg_ι1, ι_addm, ι_addn, Bool.false_eq_true, Nat.not_lt_zero, Nat.add_zero, Nat.zero_add, Nat.mul_zero, Nat.reduceMul, Nat.reduceAdd, Nat.reduceSub, Nat.reduceLT, Nat.reduceLeDiff, Nat.reduceEqDiff, Nat.reduceDiv, Nat.reduceBEq, Nat.reduceBNe, false_or, or_false, true_or, or_true, and_true, true_and, false_and, and_false, not_false_eq_true, not_true_eq_false, if_true, if_false, if_pos, if_neg, Option.bind_some, ite_false, ite_true, eq_self, reduceIte, lm_0, lm_1, lm_2, lm_3, lm_4, lm_5, lm_6, lm_7, lm_8, lm_9, lm_10, lm_11, lm_12, lm_13, lm_14, lm_15, lm_16, lm_17]
  · rw [up_e, len1]
  · rw [len1] at hi
    rw [up_k _ _ _ _ _ (show (10 : Nat) ≠ 0 by omega)]
    by_cases e : i = l.length
    · rw [e, up_e, gt_last]; exact ⟨rfl, hc⟩
    · rw [up_j _ _ _ _ _ e, gt_app1 (by omega)]; exact h3 i (by omega)
  · rw [up_g, if_neg (by omega), up_g, if_neg (by omega)]
def dgt (u v : Nat) : List Nat := if v < u then [] else [48 + v / u % 10]
def dec (v : Nat) : List Nat := dgt 1000 v ++ (dgt 100 v ++ (dgt 10 v ++ dgt 1 v))
theorem dgt_len (u v : Nat) : (dgt u v).length ≤ 1 := by unfold dgt; split <;> simp
theorem dec_len (v : Nat) : (dec v).length ≤ 4 := by
  unfold dec
  have h1 := dgt_len 1000 v; have h2 := dgt_len 100 v; have h3 := dgt_len 10 v; have h4 := dgt_len 1 v
  simp only [List.length_append]; omega
theorem dec_len2 {v : Nat} (h : v < 100) : (dec v).length ≤ 2 := by
  unfold dec
  have h1 : dgt 1000 v = [] := by unfold dgt; rw [if_pos (by omega)]
  have h2 : dgt 100 v = [] := by unfold dgt; rw [if_pos (by omega)]
  have h3 := dgt_len 10 v; have h4 := dgt_len 1 v
  rw [h1, h2]
  simp only [List.length_append, List.nil_append]; omega
theorem ad_step {σ : Mem} {o L v u n : Nat} {l : List Nat} (hu : 1 ≤ u) (hu' : u ≤ 1000) (hv : v < 10000) (h : TC σ o L l) (hl : l.length + (dgt u v).length ≤ L) : ∃ ρ, fX8_addDecimal_l4 o (ι v) (n + 1) (ι u) σ = fX8_addDecimal_l4 o (ι v) n (ι (u / 10)) ρ ∧ TC ρ o L (l ++ dgt u v) ∧ frT o σ ρ := by
  rw [fX8_addDecimal_l4]
  by_cases hc : v < u
  · have e : dgt u v = [] := by unfold dgt; rw [if_pos hc]
    rw [e, List.append_nil]
    refine ⟨σ, ?_, h, frT_refl _ _⟩
    simp (disch := omega) only [l_0, l_1, l_2, l_3, l_4, l_5, l_6, l_7, l_8, l_9, l_10, l_12, l_13, l_24, l_31, l_32, l_40, l_41, l_42, l_44, l_45, l_48, l_49, l_50, l_57, l_59, l_60, l_65, l_88, l_89, l_97, l_98, l_99, l_100, l_105, l_108, l_109, l_114, l_118, l_120, l_122, l_144, l_255, l_269, l_279, l_339, l_400, l_600, l_999, l_1000, l_2373, l_2712, ι_lt, ι_le, ι_eq, ι_add, ι_mul, ι_sub, ι_div, ι_n, ι_m1, m1_ι, m1_lt, m1_le, lt_m1, le_m1, m1_lt_m1, m1_le_m1, m1_add1, neg_ι1, ι_addm, ι_addn, Bool.false_eq_true, Nat.not_lt_zero, Nat.add_zero, Nat.zero_add, Nat.mul_zero, Nat.reduceMul, Nat.reduceAdd, Nat.reduceSub, Nat.reduceLT, Nat.reduceLeDiff, Nat.reduceEqDiff, Nat.reduceDiv, Nat.reduceBEq, Nat.reduceBNe, false_or, or_false, true_or, or_true, and_true, true_and, false_and, and_false, not_false_eq_true, not_true_eq_false, if_true, if_false, if_pos, if_neg, Option.bind_some, ite_false, ite_true, eq_self, reduceIte]
  · have e : dgt u v = [48 + v / u % 10] := by unfold dgt; rw [if_neg hc]
    rw [e] at hl ⊢
    have hl : l.length + 1 ≤ L := hl
    obtain ⟨ρ, a1, a2, a3⟩ := c_w (c := 48 + v / u % 10) h (by omega)
    refine ⟨ρ, ?_, a2, a3⟩
    have hd : v / u < 2147483648 := Nat.lt_of_le_of_lt (Nat.div_le_self _ _) (by omega)
    have hq : 48 + (v / u - v / u / 10 * 10) = 48 + v / u % 10 := by omega
    simp (disch := omega) only [l_0, l_1, l_2, l_3, l_4, l_5, l_6, l_7, l_8, l_9, l_10, l_12, l_13, l_24, l_31, l_32, l_40, l_41, l_42, l_44, l_45, l_48, l_49, l_50, l_57, l_59, l_60, l_65, l_88, l_89, l_97, l_98, l_99, l_100, l_105, l_108, l_109, l_114, l_118, l_120, l_122, l_144, l_255, l_269, l_279, l_339, l_400, l_600, l_999, l_1000, l_2373, l_2712, ι_lt, ι_le, ι_eq, ι_add, ι_mul, ι_sub, ι_div, ι_n, ι_m1, m1_ι, m1_lt, m1_le, lt_m1, le_m1, m1_lt_m1, m1_le_m1, m1_add1, neg_ι1, ι_addm, ι_addn, Bool.false_eq_true, Nat.not_lt_zero, Nat.add_zero, Nat.zero_add, Nat.mul_zero, Nat.reduceMul, Nat.reduceAdd, Nat.reduceSub, Nat.reduceLT, Nat.reduceLeDiff, Nat.reduceEqDiff, Nat.reduceDiv, Nat.reduceBEq, Nat.reduceBNe, false_or, or_false, true_or, or_true, and_true, true_and, false_and, and_false, not_false_eq_true, not_true_eq_false, if_true, if_false, if_pos, if_neg, Option.bind_some, ite_false, ite_true, eq_self, reduceIte]
    rw [hq, a1, Option.bind_some]
theorem c_dec {σ : Mem} {o L v : Nat} {l : List Nat} (hv : v < 10000) (h : TC σ o L l) (hl : l.length + (dec v).length ≤ L) : ∃ ρ, fX8_addDecimal o (ι v) σ = some ρ ∧ TC ρ o L (l ++ dec v) ∧ frT o σ ρ := by
  unfold dec at *
  simp only [List.length_append] at hl
  obtain ⟨ρ1, a1, a2, a3⟩ := ad_step (n := 4091 + 1 + 1 + 1 + 1) (u := 1000) (by omega) (by omega) hv h (by omega)
  obtain ⟨ρ2, b1, b2, b3⟩ := ad_step (n := 4091 + 1 + 1 + 1) (u := 100) (by omega) (by omega) hv a2 (by rw [List.length_append]; omega)
  obtain ⟨ρ3, c1, c2, c3⟩ := ad_step (n := 4091 + 1 + 1) (u := 10) (by omega) (by omega) hv b2 (by rw [List.length_append, List.length_append]; omega)
  obtain ⟨ρ4, e1, e2, e3⟩ := ad_step (n := 4091 + 1) (u := 1) (by omega) (by omega) hv c2 (by rw [List.length_append, List.length_append, List.length_append]; omega)
  have a1 : fX8_addDecimal_l4 o (ι v) (4091 + 1 + 1 + 1 + 1 + 1) (1000 : Int32) σ = fX8_addDecimal_l4 o (ι v) (4091 + 1 + 1 + 1 + 1) (ι 100) ρ1 := a1
  have b1 : fX8_addDecimal_l4 o (ι v) (4091 + 1 + 1 + 1 + 1) (ι 100) ρ1 = fX8_addDecimal_l4 o (ι v) (4091 + 1 + 1 + 1) (ι 10) ρ2 := b1
  have c1 : fX8_addDecimal_l4 o (ι v) (4091 + 1 + 1 + 1) (ι 10) ρ2 = fX8_addDecimal_l4 o (ι v) (4091 + 1 + 1) (ι 1) ρ3 := c1
  have e1 : fX8_addDecimal_l4 o (ι v) (4091 + 1 + 1) (ι 1) ρ3 = fX8_addDecimal_l4 o (ι v) (4091 + 1) (ι 0) ρ4 := e1
  refine ⟨ρ4, ?_, ?_, frT_trans a3 (frT_trans b3 (frT_trans c3 e3))⟩
  · unfold fX8_addDecimal
    rw [show FU = 4091 + 1 + 1 + 1 + 1 + 1 from rfl, a1, b1, c1, e1, fX8_addDecimal_l4, if_pos (by decide), Option.bind_some]
  · rw [← List.append_assoc, ← List.append_assoc, ← List.append_assoc]; exact e2
def wk (v : Nat) : Nat → List Nat
  | 0 => [48 + v / 1 % 10]
  | k + 1 => (48 + v / 10 ^ (k + 1) % 10) :: wk v k
theorem r_l20 {v : Nat} (hv : v < 10000) : ∀ k n (τ : Mem) l, k ≤ 3 → k + 2 ≤ n → TR τ l → l.length + (k + 1) ≤ 400 → ∃ z υ, fX12_writesNumber_l20 (ι v) n (ι (10 ^ k)) τ = some (z, υ) ∧ TR υ (l ++ wk v k) ∧ frW τ υ := by
  have st : ∀ (u n : Nat) (τ : Mem) l, 1 ≤ u → u ≤ 1000 → TR τ l → l.length + 1 ≤ 400 → ∃ υ, fX12_writesNumber_l20 (ι v) (n + 1) (ι u) τ = fX12_writesNumber_l20 (ι v) n (ι (u / 10)) υ ∧ TR υ (l ++ [48 + v / u % 10]) ∧ frW τ υ := by
    intro u n τ l hu hu' h hl
    obtain ⟨υ, a1, a2, a3⟩ := r_w (c := 48 + v / u % 10) h (by omega) (by omega)
    refine ⟨υ, ?_, a2, a3⟩
    have hd : v / u < 2147483648 := Nat.lt_of_le_of_lt (Nat.div_le_self _ _) (by omega)
    have hq : 48 + (v / u - v / u / 10 * 10) = 48 + v / u % 10 := by omega
    rw [fX12_writesNumber_l20]
    simp (disch := omega) only [l_0, l_1, l_2, l_3, l_4, l_5, l_6, l_7, l_8, l_9, l_10, l_12, l_13, l_24, l_31, l_32, l_40, l_41, l_42, l_44, l_45, l_48, l_49, l_50, l_57, l_59, l_60, l_65, l_88, l_89, l_97, l_98, l_99, l_100, l_105, l_108, l_109, l_114, l_118, l_120, l_122, l_144, l_255, l_269, l_279, l_339, l_400, l_600, l_999, l_1000, l_2373, l_2712, ι_lt, ι_le, ι_eq, ι_add, ι_mul, ι_sub, ι_div, ι_n, ι_m1, m1_ι, m1_lt, m1_le, lt_m1, le_m1, m1_lt_m1, m1_le_m1, m1_add1, neg_ι1, ι_addm, ι_addn, Bool.false_eq_true, Nat.not_lt_zero, Nat.add_zero, Nat.zero_add, Nat.mul_zero, Nat.reduceMul, Nat.reduceAdd, Nat.reduceSub, Nat.reduceLT, Nat.reduceLeDiff, Nat.reduceEqDiff, Nat.reduceDiv, Nat.reduceBEq, Nat.reduceBNe, false_or, or_false, true_or, or_true, and_true, true_and, false_and, and_false, not_false_eq_true, not_true_eq_false, if_true, if_false, if_pos, if_neg, Option.bind_some, ite_false, ite_true, eq_self, reduceIte]
    rw [hq, a1, Option.bind_some]
  intro k
  induction k with
  | zero =>
    intro n τ l hk hn h hl
    obtain ⟨n, rfl⟩ : ∃ k, n = k + 1 + 1 := ⟨n - 2, by omega⟩
    obtain ⟨υ, a1, a2, a3⟩ := st 1 (n + 1) τ l (by omega) (by omega) h (by omega)
    have a1 : fX12_writesNumber_l20 (ι v) (n + 1 + 1) (ι (10 ^ 0)) τ = fX12_writesNumber_l20 (ι v) (n + 1) (ι 0) υ := a1
    refine ⟨_, υ, ?_, a2, a3⟩
    rw [a1, fX12_writesNumber_l20, if_pos (by decide)]
  | succ k ih =>
    intro n τ l hk hn h hl
    obtain ⟨n, rfl⟩ : ∃ k, n = k + 1 := ⟨n - 1, by omega⟩
    have p0 : 1 ≤ 10 ^ (k + 1) := Nat.pos_of_ne_zero (by simp)
    have p1 : 10 ^ (k + 1) ≤ 1000 := by
      have : 10 ^ (k + 1) ≤ 10 ^ 3 := Nat.pow_le_pow_right (by omega) (by omega)
      exact this
    obtain ⟨τ1, a1, a2, a3⟩ := st (10 ^ (k + 1)) n τ l p0 p1 h (by omega)
    have e : 10 ^ (k + 1) / 10 = 10 ^ k := by rw [Nat.pow_succ, Nat.mul_div_cancel _ (by omega)]
    rw [e] at a1
    obtain ⟨z, υ, b1, b2, b3⟩ := ih n τ1 _ (by omega) (by omega) a2 (by rw [len1]; omega)
    refine ⟨z, υ, a1.trans b1, ?_, frW_trans a3 b3⟩
    rw [List.append_assoc] at b2; exact b2
theorem r_by {v : Nat} (hv : v < 10000) (τ : Mem) : fX12_writesNumber_l2 (ι v) FU (1 : Int32) τ = some (ι (if v < 10 then 10 ^ 0 else if v < 100 then 10 ^ 1 else if v < 1000 then 10 ^ 2 else 10 ^ 3)) := by
  have s : ∀ n u, 1 ≤ u → u ≤ 1000 → fX12_writesNumber_l2 (ι v) (n + 1) (ι u) τ = if v / u < 10 then some (ι u) else fX12_writesNumber_l2 (ι v) n (ι (u * 10)) τ := by
    intro n u h1 h2
    have hd : v / u < 2147483648 := Nat.lt_of_le_of_lt (Nat.div_le_self _ _) (by omega)
    rw [fX12_writesNumber_l2]
    simp (disch := omega) only [l_0, l_1, l_2, l_3, l_4, l_5, l_6, l_7, l_8, l_9, l_10, l_12, l_13, l_24, l_31, l_32, l_40, l_41, l_42, l_44, l_45, l_48, l_49, l_50, l_57, l_59, l_60, l_65, l_88, l_89, l_97, l_98, l_99, l_100, l_105, l_108, l_109, l_114, l_118, l_120, l_122, l_144, l_255, l_269, l_279, l_339, l_400, l_600, l_999, l_1000, l_2373, l_2712, ι_lt, ι_le, ι_eq, ι_add, ι_mul, ι_sub, ι_div, ι_n, ι_m1, m1_ι, m1_lt, m1_le, lt_m1, le_m1, m1_lt_m1, m1_le_m1, m1_add1, neg_ι1, ι_addm, ι_addn, Bool.false_eq_true, Nat.not_lt_zero, Nat.add_zero, Nat.zero_add, Nat.mul_zero, Nat.reduceMul, Nat.reduceAdd, Nat.reduceSub, Nat.reduceLT, Nat.reduceLeDiff, Nat.reduceEqDiff, Nat.reduceDiv, Nat.reduceBEq, Nat.reduceBNe, false_or, or_false, true_or, or_true, and_true, true_and, false_and, and_false, not_false_eq_true, not_true_eq_false, if_true, if_false, if_pos, if_neg, Option.bind_some, ite_false, ite_true, eq_self, reduceIte]
  have s1 := s (4091 + 1 + 1 + 1 + 1) 1 (by omega) (by omega)
  have s2 := s (4091 + 1 + 1 + 1) 10 (by omega) (by omega)
  have s3 := s (4091 + 1 + 1) 100 (by omega) (by omega)
  have s4 := s (4091 + 1) 1000 (by omega) (by omega)
  rw [show FU = 4091 + 1 + 1 + 1 + 1 + 1 from rfl, l_1, s1]
  by_cases h1 : v < 10
  · rw [if_pos (by omega), if_pos h1]; rfl
  · rw [if_neg (by omega), if_neg h1]
    refine Eq.trans s2 ?_
    by_cases h2 : v < 100
    · rw [if_pos (by omega), if_pos h2]; rfl
    · rw [if_neg (by omega), if_neg h2]
      refine Eq.trans s3 ?_
      by_cases h3 : v < 1000
      · rw [if_pos (by omega), if_pos h3]; rfl
      · rw [if_neg (by omega), if_neg h3]
        refine Eq.trans s4 ?_
        rw [if_pos (by omega)]; rfl
theorem r_dec {τ : Mem} {v : Nat} {l : List Nat} (h1v : 1 ≤ v) (hv : v < 10000) (h : TR τ l) (hl : l.length + (dec v).length ≤ 400) : ∃ υ, fX12_writesNumber (ι v) τ = some υ ∧ TR υ (l ++ dec v) ∧ frW τ υ := by
  have key : ∀ k, k ≤ 3 → dec v = wk v k → fX12_writesNumber_l2 (ι v) FU (1 : Int32) τ = some (ι (10 ^ k)) → ∃ υ, fX12_writesNumber (ι v) τ = some υ ∧ TR υ (l ++ dec v) ∧ frW τ υ := by
    intro k hk e hb
    have hlen : ∀ k, (wk v k).length = k + 1 := fun k => by
      induction k with
      | zero => rfl
      | succ k ih => show (wk v k).length + 1 = _; rw [ih]
    rw [e, hlen k] at hl
    obtain ⟨z, υ, a1, a2, a3⟩ := r_l20 hv k FU τ l hk (by unfold FU; omega) h hl
    refine ⟨υ, ?_, by rw [e]; exact a2, a3⟩
    unfold fX12_writesNumber
    rw [hb, Option.bind_some, a1, Option.bind_some]
  have hb := r_by hv τ
  by_cases h1 : v < 10
  · rw [if_pos h1] at hb
    refine key 0 (by omega) ?_ hb
    unfold dec dgt
    rw [if_pos (by omega), if_pos (by omega), if_pos (by omega), if_neg (by omega)]; rfl
  · rw [if_neg h1] at hb
    by_cases h2 : v < 100
    · rw [if_pos h2] at hb
      refine key 1 (by omega) ?_ hb
      unfold dec dgt
      rw [if_pos (by omega), if_pos (by omega), if_neg (by omega), if_neg (by omega)]; rfl
    · rw [if_neg h2] at hb
      by_cases h3 : v < 1000
      · rw [if_pos h3] at hb
        refine key 2 (by omega) ?_ hb
        unfold dec dgt
        rw [if_pos (by omega), if_neg (by omega), if_neg (by omega), if_neg (by omega)]; rfl
      · rw [if_neg h3] at hb
        refine key 3 (by omega) ?_ hb
        unfold dec dgt
        rw [if_neg (by omega), if_neg (by omega), if_neg (by omega), if_neg (by omega)]; rfl
def rp (w : List Nat) : Nat → List Nat
  | 0 => []
  | q + 1 => w ++ rp w q
theorem rp1_len (a : Nat) : ∀ q, (rp [a] q).length = q
  | 0 => rfl
  | q + 1 => by show (rp [a] q).length + 1 = _; rw [rp1_len a q]
def rd (g a b c : Nat) : List Nat := if g = 9 then [a, c] else if g = 4 then [a, b] else if g < 5 then rp [a] (g % 5) else b :: rp [a] (g % 5)
def romC (v : Nat) : List Nat := rp [109] (v / 1000) ++ (rd (v / 100 % 10) 99 100 109 ++ (rd (v / 10 % 10) 120 108 99 ++ rd (v % 10) 105 118 120))
theorem c_l51 {o L g a : Nat} (hg : g < 10) : ∀ m n i (σ : Mem) l, i + m = g % 5 → m < n → TC σ o L l → l.length + m ≤ L → ∃ z ρ, fX8_addRomanDigit_l51 o (ι g) (ι a) n (ι i) σ = some (z, ρ) ∧ TC ρ o L (l ++ rp [a] m) ∧ frT o σ ρ := by
  have hq : g - g / 5 * 5 = g % 5 := by omega
  intro m
  induction m with
  | zero =>
    intro n i σ l h hn ht hl
    obtain ⟨n, rfl⟩ : ∃ k, n = k + 1 := ⟨n - 1, by omega⟩
    rw [fX8_addRomanDigit_l51]
    simp (disch := omega) only [l_0, l_1, l_2, l_3, l_4, l_5, l_6, l_7, l_8, l_9, l_10, l_12, l_13, l_24, l_31, l_32, l_40, l_41, l_42, l_44, l_45, l_48, l_49, l_50, l_57, l_59, l_60, l_65, l_88, l_89, l_97, l_98, l_99, l_100, l_105, l_108, l_109, l_114, l_118, l_120, l_122, l_144, l_255, l_269, l_279, l_339, l_400, l_600, l_999, l_1000, l_2373, l_2712, ι_lt, ι_le, ι_eq, ι_add, ι_mul, ι_sub, ι_div, ι_n, ι_m1, m1_ι, m1_lt, m1_le, lt_m1, le_m1, m1_lt_m1, m1_le_m1, m1_add1, neg_ι1, ι_addm, ι_addn, Bool.false_eq_true, Nat.not_lt_zero, Nat.add_zero, Nat.zero_add, Nat.mul_zero, Nat.reduceMul, Nat.reduceAdd, Nat.reduceSub, Nat.reduceLT, Nat.reduceLeDiff, Nat.reduceEqDiff, Nat.reduceDiv, Nat.reduceBEq, Nat.reduceBNe, false_or, or_false, true_or, or_true, and_true, true_and, false_and, and_false, not_false_eq_true, not_true_eq_false, if_true, if_false, if_pos, if_neg, Option.bind_some, ite_false, ite_true, eq_self, reduceIte, hq]
    exact ⟨_, _, rfl, by rw [rp, List.append_nil]; exact ht, frT_refl _ _⟩
  | succ m ih =>
    intro n i σ l h hn ht hl
    obtain ⟨n, rfl⟩ : ∃ k, n = k + 1 := ⟨n - 1, by omega⟩
    rw [fX8_addRomanDigit_l51]
    obtain ⟨σ1, a1, a2, a3⟩ := c_w (c := a) ht (by omega)
    obtain ⟨z, ρ, b1, b2, b3⟩ := ih n (i + 1) σ1 _ (by omega) (by omega) a2 (by rw [len1]; omega)
    refine ⟨z, ρ, ?_, ?_, frT_trans a3 b3⟩
    · simp (disch := omega) only [l_0, l_1, l_2, l_3, l_4, l_5, l_6, l_7, l_8, l_9, l_10, l_12, l_13, l_24, l_31, l_32, l_40, l_41, l_42, l_44, l_45, l_48, l_49, l_50, l_57, l_59, l_60, l_65, l_88, l_89, l_97, l_98, l_99, l_100, l_105, l_108, l_109, l_114, l_118, l_120, l_122, l_144, l_255, l_269, l_279, l_339, l_400, l_600, l_999, l_1000, l_2373, l_2712, ι_lt, ι_le, ι_eq, ι_add, ι_mul, ι_sub, ι_div, ι_n, ι_m1, m1_ι, m1_lt, m1_le, lt_m1, le_m1, m1_lt_m1, m1_le_m1, m1_add1, neg_ι1, ι_addm, ι_addn, Bool.false_eq_true, Nat.not_lt_zero, Nat.add_zero, Nat.zero_add, Nat.mul_zero, Nat.reduceMul, Nat.reduceAdd, Nat.reduceSub, Nat.reduceLT, Nat.reduceLeDiff, Nat.reduceEqDiff, Nat.reduceDiv, Nat.reduceBEq, Nat.reduceBNe, false_or, or_false, true_or, or_true, and_true, true_and, false_and, and_false, not_false_eq_true, not_true_eq_false, if_true, if_false, if_pos, if_neg, Option.bind_some, ite_false, ite_true, eq_self, reduceIte, hq, a1]
      exact b1
    · rw [List.append_assoc] at b2; exact b2
theorem c_rd {σ : Mem} {o L g a b c : Nat} {l : List Nat} (hg : g < 10) (h : TC σ o L l) (hl : l.length + (rd g a b c).length ≤ L) : ∃ ρ, fX8_addRomanDigit o (ι g) (ι a) (ι b) (ι c) σ = some ρ ∧ TC ρ o L (l ++ rd g a b c) ∧ frT o σ ρ := by
  unfold fX8_addRomanDigit
  unfold rd at *
  by_cases h9 : g = 9
  · rw [if_pos h9] at hl ⊢
    have hl : l.length + 2 ≤ L := hl
    obtain ⟨σ1, a1, a2, a3⟩ := c_w (c := a) h (by omega)
    obtain ⟨σ2, b1, b2, b3⟩ := c_w (c := c) a2 (by rw [len1]; omega)
    refine ⟨σ2, ?_, by rw [List.append_assoc] at b2; exact b2, frT_trans a3 b3⟩
    rw [if_pos (by rw [h9]; rfl), a1, Option.bind_some, b1, Option.bind_some]
  · rw [if_neg h9] at hl ⊢
    rw [if_neg (by rw [l_9, ι_eq (by omega) (by omega)]; exact h9)]
    by_cases h4 : g = 4
    · rw [if_pos h4] at hl ⊢
      have hl : l.length + 2 ≤ L := hl
      obtain ⟨σ1, a1, a2, a3⟩ := c_w (c := a) h (by omega)
      obtain ⟨σ2, b1, b2, b3⟩ := c_w (c := b) a2 (by rw [len1]; omega)
      refine ⟨σ2, ?_, by rw [List.append_assoc] at b2; exact b2, frT_trans a3 b3⟩
      rw [if_pos (by rw [h4]; rfl), a1, Option.bind_some, b1, Option.bind_some]
    · rw [if_neg h4] at hl ⊢
      rw [if_neg (by rw [l_4, ι_eq (by omega) (by omega)]; exact h4)]
      by_cases h5 : g < 5
      · rw [if_pos h5] at hl ⊢
        rw [rp1_len] at hl
        rw [if_pos (by rw [l_5, ι_lt (by omega) (by omega)]; exact h5)]
        obtain ⟨z, ρ, a1, a2, a3⟩ := c_l51 (a := a) hg (g % 5) FU 0 σ l (by omega) (by unfold FU; omega) h hl
        have a1 : fX8_addRomanDigit_l51 o (ι g) (ι a) FU (0 : Int32) σ = some (z, ρ) := a1
        exact ⟨ρ, by rw [a1, Option.bind_some], a2, a3⟩
      · rw [if_neg h5] at hl ⊢
        rw [List.length_cons, rp1_len] at hl
        rw [if_neg (by rw [l_5, ι_lt (by omega) (by omega)]; exact h5)]
        obtain ⟨σ1, b1, b2, b3⟩ := c_w (c := b) h (by omega)
        obtain ⟨z, ρ, a1, a2, a3⟩ := c_l51 (a := a) hg (g % 5) FU 0 σ1 _ (by omega) (by unfold FU; omega) b2 (by rw [len1]; omega)
        have a1 : fX8_addRomanDigit_l51 o (ι g) (ι a) FU (0 : Int32) σ1 = some (z, ρ) := a1
        refine ⟨ρ, by rw [b1, Option.bind_some, a1, Option.bind_some], by rw [List.append_assoc] at a2; exact a2, frT_trans b3 a3⟩
theorem c_rl2 {o L v : Nat} (hv : v < 10000) : ∀ m n i (σ : Mem) l, i + m = v / 1000 → m < n → TC σ o L l → l.length + m ≤ L → ∃ z ρ, fX8_addRoman_l2 o (ι v) n (ι i) σ = some (z, ρ) ∧ TC ρ o L (l ++ rp [109] m) ∧ frT o σ ρ := by
  intro m
  induction m with
  | zero =>
    intro n i σ l h hn ht hl
    obtain ⟨n, rfl⟩ : ∃ k, n = k + 1 := ⟨n - 1, by omega⟩
    rw [fX8_addRoman_l2]
    simp (disch := omega) only [l_0, l_1, l_2, l_3, l_4, l_5, l_6, l_7, l_8, l_9, l_10, l_12, l_13, l_24, l_31, l_32, l_40, l_41, l_42, l_44, l_45, l_48, l_49, l_50, l_57, l_59, l_60, l_65, l_88, l_89, l_97, l_98, l_99, l_100, l_105, l_108, l_109, l_114, l_118, l_120, l_122, l_144, l_255, l_269, l_279, l_339, l_400, l_600, l_999, l_1000, l_2373, l_2712, ι_lt, ι_le, ι_eq, ι_add, ι_mul, ι_sub, ι_div, ι_n, ι_m1, m1_ι, m1_lt, m1_le, lt_m1, le_m1, m1_lt_m1, m1_le_m1, m1_add1, neg_ι1, ι_addm, ι_addn, Bool.false_eq_true, Nat.not_lt_zero, Nat.add_zero, Nat.zero_add, Nat.mul_zero, Nat.reduceMul, Nat.reduceAdd, Nat.reduceSub, Nat.reduceLT, Nat.reduceLeDiff, Nat.reduceEqDiff, Nat.reduceDiv, Nat.reduceBEq, Nat.reduceBNe, false_or, or_false, true_or, or_true, and_true, true_and, false_and, and_false, not_false_eq_true, not_true_eq_false, if_true, if_false, if_pos, if_neg, Option.bind_some, ite_false, ite_true, eq_self, reduceIte]
    exact ⟨_, _, rfl, by rw [rp, List.append_nil]; exact ht, frT_refl _ _⟩
  | succ m ih =>
    intro n i σ l h hn ht hl
    obtain ⟨n, rfl⟩ : ∃ k, n = k + 1 := ⟨n - 1, by omega⟩
    rw [fX8_addRoman_l2]
    obtain ⟨σ1, a1, a2, a3⟩ := c_w (c := 109) ht (by omega)
    obtain ⟨z, ρ, b1, b2, b3⟩ := ih n (i + 1) σ1 _ (by omega) (by omega) a2 (by rw [len1]; omega)
    refine ⟨z, ρ, ?_, ?_, frT_trans a3 b3⟩
    · simp (disch := omega) only [l_0, l_1, l_2, l_3, l_4, l_5, l_6, l_7, l_8, l_9, l_10, l_12, l_13, l_24, l_31, l_32, l_40, l_41, l_42, l_44, l_45, l_48, l_49, l_50, l_57, l_59, l_60, l_65, l_88, l_89, l_97, l_98, l_99, l_100, l_105, l_108, l_109, l_114, l_118, l_120, l_122, l_144, l_255, l_269, l_279, l_339, l_400, l_600, l_999, l_1000, l_2373, l_2712, ι_lt, ι_le, ι_eq, ι_add, ι_mul, ι_sub, ι_div, ι_n, ι_m1, m1_ι, m1_lt, m1_le, lt_m1, le_m1, m1_lt_m1, m1_le_m1, m1_add1, neg_ι1, ι_addm, ι_addn, Bool.false_eq_true, Nat.not_lt_zero, Nat.add_zero, Nat.zero_add, Nat.mul_zero, Nat.reduceMul, Nat.reduceAdd, Nat.reduceSub, Nat.reduceLT, Nat.reduceLeDiff, Nat.reduceEqDiff, Nat.reduceDiv, Nat.reduceBEq, Nat.reduceBNe, false_or, or_false, true_or, or_true, and_true, true_and, false_and, and_false, not_false_eq_true, not_true_eq_false, if_true, if_false, if_pos, if_neg, Option.bind_some, ite_false, ite_true, eq_self, reduceIte, a1]
      exact b1
    · rw [List.append_assoc] at b2; exact b2
theorem c_rom {σ : Mem} {o L v : Nat} {l : List Nat} (hv : v < 10000) (h : TC σ o L l) (hl : l.length + (romC v).length ≤ L) : ∃ ρ, fX8_addRoman o (ι v) σ = some ρ ∧ TC ρ o L (l ++ romC v) ∧ frT o σ ρ := by
  unfold romC at *
  simp only [List.length_append, rp1_len] at hl
  obtain ⟨z, ρ1, a1, a2, a3⟩ := c_rl2 hv (v / 1000) FU 0 σ l (by omega) (by unfold FU; omega) h (by omega)
  obtain ⟨ρ2, b1, b2, b3⟩ := c_rd (g := v / 100 % 10) (a := 99) (b := 100) (c := 109) (by omega) a2 (by rw [List.length_append, rp1_len]; omega)
  obtain ⟨ρ3, c1, c2, c3⟩ := c_rd (g := v / 10 % 10) (a := 120) (b := 108) (c := 99) (by omega) b2 (by rw [List.length_append, List.length_append, rp1_len]; omega)
  obtain ⟨ρ4, e1, e2, e3⟩ := c_rd (g := v % 10) (a := 105) (b := 118) (c := 120) (by omega) c2 (by rw [List.length_append, List.length_append, List.length_append, rp1_len]; omega)
  have a1 : fX8_addRoman_l2 o (ι v) FU (0 : Int32) σ = some (z, ρ1) := a1
  have g1 : (ι v / (100 : Int32)) - (ι v / (100 : Int32)) / (10 : Int32) * (10 : Int32) = ι (v / 100 % 10) := by
    simp (disch := omega) only [l_0, l_1, l_2, l_3, l_4, l_5, l_6, l_7, l_8, l_9, l_10, l_12, l_13, l_24, l_31, l_32, l_40, l_41, l_42, l_44, l_45, l_48, l_49, l_50, l_57, l_59, l_60, l_65, l_88, l_89, l_97, l_98, l_99, l_100, l_105, l_108, l_109, l_114, l_118, l_120, l_122, l_144, l_255, l_269, l_279, l_339, l_400, l_600, l_999, l_1000, l_2373, l_2712, ι_lt, ι_le, ι_eq, ι_add, ι_mul, ι_sub, ι_div, ι_n, ι_m1, m1_ι, m1_lt, m1_le, lt_m1, le_m1, m1_lt_m1, m1_le_m1, m1_add1, neg_ι1, ι_addm, ι_addn, Bool.false_eq_true, Nat.not_lt_zero, Nat.add_zero, Nat.zero_add, Nat.mul_zero, Nat.reduceMul, Nat.reduceAdd, Nat.reduceSub, Nat.reduceLT, Nat.reduceLeDiff, Nat.reduceEqDiff, Nat.reduceDiv, Nat.reduceBEq, Nat.reduceBNe, false_or, or_false, true_or, or_true, and_true, true_and, false_and, and_false, not_false_eq_true, not_true_eq_false, if_true, if_false, if_pos, if_neg, Option.bind_some, ite_false, ite_true, eq_self, reduceIte]
    congr 1; omega
  have g2 : (ι v / (10 : Int32)) - (ι v / (10 : Int32)) / (10 : Int32) * (10 : Int32) = ι (v / 10 % 10) := by
    simp (disch := omega) only [l_0, l_1, l_2, l_3, l_4, l_5, l_6, l_7, l_8, l_9, l_10, l_12, l_13, l_24, l_31, l_32, l_40, l_41, l_42, l_44, l_45, l_48, l_49, l_50, l_57, l_59, l_60, l_65, l_88, l_89, l_97, l_98, l_99, l_100, l_105, l_108, l_109, l_114, l_118, l_120, l_122, l_144, l_255, l_269, l_279, l_339, l_400, l_600, l_999, l_1000, l_2373, l_2712, ι_lt, ι_le, ι_eq, ι_add, ι_mul, ι_sub, ι_div, ι_n, ι_m1, m1_ι, m1_lt, m1_le, lt_m1, le_m1, m1_lt_m1, m1_le_m1, m1_add1, neg_ι1, ι_addm, ι_addn, Bool.false_eq_true, Nat.not_lt_zero, Nat.add_zero, Nat.zero_add, Nat.mul_zero, Nat.reduceMul, Nat.reduceAdd, Nat.reduceSub, Nat.reduceLT, Nat.reduceLeDiff, Nat.reduceEqDiff, Nat.reduceDiv, Nat.reduceBEq, Nat.reduceBNe, false_or, or_false, true_or, or_true, and_true, true_and, false_and, and_false, not_false_eq_true, not_true_eq_false, if_true, if_false, if_pos, if_neg, Option.bind_some, ite_false, ite_true, eq_self, reduceIte]
    congr 1; omega
  have g3 : ι v - ι v / (10 : Int32) * (10 : Int32) = ι (v % 10) := by
    simp (disch := omega) only [l_0, l_1, l_2, l_3, l_4, l_5, l_6, l_7, l_8, l_9, l_10, l_12, l_13, l_24, l_31, l_32, l_40, l_41, l_42, l_44, l_45, l_48, l_49, l_50, l_57, l_59, l_60, l_65, l_88, l_89, l_97, l_98, l_99, l_100, l_105, l_108, l_109, l_114, l_118, l_120, l_122, l_144, l_255, l_269, l_279, l_339, l_400, l_600, l_999, l_1000, l_2373, l_2712, ι_lt, ι_le, ι_eq, ι_add, ι_mul, ι_sub, ι_div, ι_n, ι_m1, m1_ι, m1_lt, m1_le, lt_m1, le_m1, m1_lt_m1, m1_le_m1, m1_add1, neg_ι1, ι_addm, ι_addn, Bool.false_eq_true, Nat.not_lt_zero, Nat.add_zero, Nat.zero_add, Nat.mul_zero, Nat.reduceMul, Nat.reduceAdd, Nat.reduceSub, Nat.reduceLT, Nat.reduceLeDiff, Nat.reduceEqDiff, Nat.reduceDiv, Nat.reduceBEq, Nat.reduceBNe, false_or, or_false, true_or, or_true, and_true, true_and, false_and, and_false, not_false_eq_true, not_true_eq_false, if_true, if_false, if_pos, if_neg, Option.bind_some, ite_false, ite_true, eq_self, reduceIte]
    congr 1; omega
  refine ⟨ρ4, ?_, ?_, frT_trans a3 (frT_trans b3 (frT_trans c3 e3))⟩
  · unfold fX8_addRoman
    rw [a1, Option.bind_some, g1, g2, g3]
    have b1 : fX8_addRomanDigit o (ι (v / 100 % 10)) (99 : Int32) (100 : Int32) (109 : Int32) ρ1 = some ρ2 := b1
    have c1 : fX8_addRomanDigit o (ι (v / 10 % 10)) (120 : Int32) (108 : Int32) (99 : Int32) ρ2 = some ρ3 := c1
    have e1 : fX8_addRomanDigit o (ι (v % 10)) (105 : Int32) (118 : Int32) (120 : Int32) ρ3 = some ρ4 := e1
    rw [b1, Option.bind_some, c1, Option.bind_some, e1, Option.bind_some]
  · rw [← List.append_assoc, ← List.append_assoc, ← List.append_assoc]; exact e2

/-! PURE PART: labels -/
def romA (k : Nat) : Nat := [109, 99, 100, 99, 99, 120, 108, 120, 120, 105, 118, 105, 105].getD k 0
def romB (k : Nat) : Nat := [32, 109, 32, 100, 32, 99, 32, 108, 32, 120, 32, 118, 32].getD k 0
def romV (k : Nat) : Nat := romL.getD k 0
def romW (k : Nat) : List Nat := if romB k = 32 then [romA k] else [romA k, romB k]
theorem rom_tab : ∀ k, k < 13 → (bytL.getD 20 []).getD (2 * k) 0 = ι (romA k) ∧ (bytL.getD 20 []).getD (2 * k + 1) 0 = ι (romB k) ∧ romA k < 128 ∧ romB k < 128 ∧ 1 ≤ romV k ∧ romV k ≤ 1000 := by decide +kernel
theorem rom_len : (bytL.getD 20 []).length = 26 := by decide +kernel
def gA (k : Nat) : Nat → Nat → List Nat
  | 0, _ => []
  | m + 1, left => rp (romW k) (left / romV k) ++ gA (k + 1) m (left % romV k)
theorem rom_eq : ∀ v, v < 1200 → gA 0 13 v = romC v ∧ (romC v).length ≤ 12 := by decide +kernel
theorem r_l15 {k : Nat} (hk : k < 13) : ∀ q n r (τ : Mem) l, r < romV k → q < n → q * romV k + r < 10000 → Ro τ → TR τ l → l.length + (rp (romW k) q).length ≤ 400 → ∃ υ, fX12_writesRoman_l15 20 (ι k) n (ι (q * romV k + r)) τ = some (ι r, υ) ∧ TR υ (l ++ rp (romW k) q) ∧ frW τ υ := by
  obtain ⟨t1, t2, t3, t4, t5, t6⟩ := rom_tab k hk
  intro q
  induction q with
  | zero =>
    intro n r τ l hr hn hx hro ht hl
    obtain ⟨n, rfl⟩ : ∃ k, n = k + 1 := ⟨n - 1, by omega⟩
    have e : τ 11 k = ι (romV k) := hro k hk
    refine ⟨τ, ?_, by rw [rp, List.append_nil]; exact ht, frW_refl _⟩
    rw [Nat.zero_mul, Nat.zero_add, fX12_writesRoman_l15]
    simp (disch := omega) only [l_0, l_1, l_2, l_3, l_4, l_5, l_6, l_7, l_8, l_9, l_10, l_12, l_13, l_24, l_31, l_32, l_40, l_41, l_42, l_44, l_45, l_48, l_49, l_50, l_57, l_59, l_60, l_65, l_88, l_89, l_97, l_98, l_99, l_100, l_105, l_108, l_109, l_114, l_118, l_120, l_122, l_144, l_255, l_269, l_279, l_339, l_400, l_600, l_999, l_1000, l_2373, l_2712, ι_lt, ι_le, ι_eq, ι_add, ι_mul, ι_sub, ι_div, ι_n, ι_m1, m1_ι, m1_lt, m1_le, lt_m1, le_m1, m1_lt_m1, m1_le_m1, m1_add1, neg_ι1, ι_addm, ι_addn, Bool.false_eq_true, Nat.not_lt_zero, Nat.add_zero, Nat.zero_add, Nat.mul_zero, Nat.reduceMul, Nat.reduceAdd, Nat.reduceSub, Nat.reduceLT, Nat.reduceLeDiff, Nat.reduceEqDiff, Nat.reduceDiv, Nat.reduceBEq, Nat.reduceBNe, false_or, or_false, true_or, or_true, and_true, true_and, false_and, and_false, not_false_eq_true, not_true_eq_false, if_true, if_false, if_pos, if_neg, Option.bind_some, ite_false, ite_true, eq_self, reduceIte, lm_0, lm_1, lm_2, lm_3, lm_4, lm_5, lm_6, lm_7, lm_8, lm_9, lm_10, lm_11, lm_12, lm_13, lm_14, lm_15, lm_16, lm_17, e]
  | succ q ih =>
    intro n r τ l hr hn hx hro ht hl
    obtain ⟨n, rfl⟩ : ∃ k, n = k + 1 := ⟨n - 1, by omega⟩
    have e : τ 11 k = ι (romV k) := hro k hk
    have ex : (q + 1) * romV k + r = romV k + (q * romV k + r) := by rw [Nat.succ_mul]; omega
    rw [ex] at hx ⊢
    rw [rp, List.length_append] at hl
    have hw : 1 ≤ (romW k).length := by unfold romW; split <;> simp
    obtain ⟨υ1, a1, a2, a3⟩ := r_w (c := romA k) ht (by omega) t3
    have e1 : υ1 11 k = ι (romV k) := (a3 11 k (by omega)).trans e
    have hd : q * romV k + r < 10000 := by omega
    have st : fX12_writesRoman_l15 20 (ι k) (n + 1) (ι (romV k + (q * romV k + r))) τ = (if ι (romB k) = (32 : Int32) then fX12_writesRoman_l15 20 (ι k) n (ι (q * romV k + r)) υ1 else (fX12_writes (ι (romB k)) υ1).bind fun v64 => if ι k < 0 ∨ lm 11 ≤ (ι k).toNatClampNeg then none else fX12_writesRoman_l15 20 (ι k) n (ι (romV k + (q * romV k + r)) - (v64 11 (ι k).toNatClampNeg)) v64) := by
      rw [fX12_writesRoman_l15]
      generalize q * romV k + r = x at *
      simp (disch := omega) only [l_0, l_1, l_2, l_3, l_4, l_5, l_6, l_7, l_8, l_9, l_10, l_12, l_13, l_24, l_31, l_32, l_40, l_41, l_42, l_44, l_45, l_48, l_49, l_50, l_57, l_59, l_60, l_65, l_88, l_89, l_97, l_98, l_99, l_100, l_105, l_108, l_109, l_114, l_118, l_120, l_122, l_144, l_255, l_269, l_279, l_339, l_400, l_600, l_999, l_1000, l_2373, l_2712, ι_lt, ι_le, ι_eq, ι_add, ι_mul, ι_sub, ι_div, ι_n, ι_m1, m1_ι, m1_lt, m1_le, lt_m1, le_m1, m1_lt_m1, m1_le_m1, m1_add1, neg_ι1, ι_addm, ι_addn, Bool.false_eq_true, Nat.not_lt_zero, Nat.add_zero, Nat.zero_add, Nat.mul_zero, Nat.reduceMul, Nat.reduceAdd, Nat.reduceSub, Nat.reduceLT, Nat.reduceLeDiff, Nat.reduceEqDiff, Nat.reduceDiv, Nat.reduceBEq, Nat.reduceBNe, false_or, or_false, true_or, or_true, and_true, true_and, false_and, and_false, not_false_eq_true, not_true_eq_false, if_true, if_false, if_pos, if_neg, Option.bind_some, ite_false, ite_true, eq_self, reduceIte, lm_0, lm_1, lm_2, lm_3, lm_4, lm_5, lm_6, lm_7, lm_8, lm_9, lm_10, lm_11, lm_12, lm_13, lm_14, lm_15, lm_16, lm_17, e, rom_len, t1, t2, a1, e1, Nat.add_sub_cancel_left]
    by_cases hb : romB k = 32
    · have hW : romW k = [romA k] := by unfold romW; rw [if_pos hb]
      rw [hW] at hl
      have hl : l.length + (1 + (rp [romA k] q).length) ≤ 400 := hl
      rw [← hW] at hl
      obtain ⟨υ, b1, b2, b3⟩ := ih n r υ1 (l ++ [romA k]) hr (by omega) hd (frW_Ro a3 hro) a2 (by rw [len1]; omega)
      refine ⟨υ, ?_, ?_, frW_trans a3 b3⟩
      · rw [st, if_pos (by rw [hb]; rfl)]; exact b1
      · rw [List.append_assoc] at b2; rw [rp]
        have : [romA k] ++ rp (romW k) q = romW k ++ rp (romW k) q := by rw [hW]
        rw [this] at b2; exact b2
    · have hW : romW k = [romA k, romB k] := by unfold romW; rw [if_neg hb]
      have hl2 : l.length + (2 + (rp (romW k) q).length) ≤ 400 := by
        have : (romW k).length = 2 := by rw [hW]; rfl
        omega
      obtain ⟨υ2, d1, d2, d3⟩ := r_w (c := romB k) a2 (by rw [len1]; omega) t4
      have e2 : υ2 11 k = ι (romV k) := (d3 11 k (by omega)).trans e1
      obtain ⟨υ, b1, b2, b3⟩ := ih n r υ2 _ hr (by omega) hd (frW_Ro d3 (frW_Ro a3 hro)) d2 (by rw [len1, len1]; omega)
      refine ⟨υ, ?_, ?_, frW_trans a3 (frW_trans d3 b3)⟩
      · rw [st, if_neg (by rw [l_32, ι_eq (by omega) (by omega)]; exact hb), d1, Option.bind_some]
        generalize q * romV k + r = x at *
        simp (disch := omega) only [l_0, l_1, l_2, l_3, l_4, l_5, l_6, l_7, l_8, l_9, l_10, l_12, l_13, l_24, l_31, l_32, l_40, l_41, l_42, l_44, l_45, l_48, l_49, l_50, l_57, l_59, l_60, l_65, l_88, l_89, l_97, l_98, l_99, l_100, l_105, l_108, l_109, l_114, l_118, l_120, l_122, l_144, l_255, l_269, l_279, l_339, l_400, l_600, l_999, l_1000, l_2373, l_2712, ι_lt, ι_le, ι_eq, ι_add, ι_mul, ι_sub, ι_div, ι_n, ι_m1, m1_ι, m1_lt, m1_le, lt_m1, le_m1, m1_lt_m1, m1_le_m1, m1_add1, neg_ι1, ι_addm, ι_addn, Bool.false_eq_true, Nat.not_lt_zero, Nat.add_zero, Nat.zero_add, Nat.mul_zero, Nat.reduceMul, Nat.reduceAdd, Nat.reduceSub, Nat.reduceLT, Nat.reduceLeDiff, Nat.reduceEqDiff, Nat.reduceDiv, Nat.reduceBEq, Nat.reduceBNe, false_or, or_false, true_or, or_true, and_true, true_and, false_and, and_false, not_false_eq_true, not_true_eq_false, if_true, if_false, if_pos, if_neg, Option.bind_some, ite_false, ite_true, eq_self, reduceIte, lm_0, lm_1, lm_2, lm_3, lm_4, lm_5, lm_6, lm_7, lm_8, lm_9, lm_10, lm_11, lm_12, lm_13, lm_14, lm_15, lm_16, lm_17, e2, Nat.add_sub_cancel_left]
        exact b1
      · rw [List.append_assoc, List.append_assoc] at b2; rw [rp]
        have : [romA k] ++ ([romB k] ++ rp (romW k) q) = romW k ++ rp (romW k) q := by rw [hW]; rfl
        rw [this] at b2; exact b2
theorem r_l8 : ∀ m n k left (τ : Mem) l, k + m = 13 → m < n → left < 2000 → Ro τ → TR τ l → l.length + (gA k m left).length ≤ 400 → ∃ z z' υ, fX12_writesRoman_l8 20 n (ι left) (ι k) τ = some (z, z', υ) ∧ TR υ (l ++ gA k m left) ∧ frW τ υ := by
  intro m
  induction m with
  | zero =>
    intro n k left τ l h hn hx hro ht hl
    obtain ⟨n, rfl⟩ : ∃ k, n = k + 1 := ⟨n - 1, by omega⟩
    rw [fX12_writesRoman_l8]
    simp (disch := omega) only [l_0, l_1, l_2, l_3, l_4, l_5, l_6, l_7, l_8, l_9, l_10, l_12, l_13, l_24, l_31, l_32, l_40, l_41, l_42, l_44, l_45, l_48, l_49, l_50, l_57, l_59, l_60, l_65, l_88, l_89, l_97, l_98, l_99, l_100, l_105, l_108, l_109, l_114, l_118, l_120, l_122, l_144, l_255, l_269, l_279, l_339, l_400, l_600, l_999, l_1000, l_2373, l_2712, ι_lt, ι_le, ι_eq, ι_add, ι_mul, ι_sub, ι_div, ι_n, ι_m1, m1_ι, m1_lt, m1_le, lt_m1, le_m1, m1_lt_m1, m1_le_m1, m1_add1, neg_ι1, ι_addm, ι_addn, Bool.false_eq_true, Nat.not_lt_zero, Nat.add_zero, Nat.zero_add, Nat.mul_zero, Nat.reduceMul, Nat.reduceAdd, Nat.reduceSub, Nat.reduceLT, Nat.reduceLeDiff, Nat.reduceEqDiff, Nat.reduceDiv, Nat.reduceBEq, Nat.reduceBNe, false_or, or_false, true_or, or_true, and_true, true_and, false_and, and_false, not_false_eq_true, not_true_eq_false, if_true, if_false, if_pos, if_neg, Option.bind_some, ite_false, ite_true, eq_self, reduceIte]
    exact ⟨_, _, _, rfl, by rw [gA, List.append_nil]; exact ht, frW_refl _⟩
  | succ m ih =>
    intro n k left τ l h hn hx hro ht hl
    obtain ⟨n, rfl⟩ : ∃ k, n = k + 1 := ⟨n - 1, by omega⟩
    rw [fX12_writesRoman_l8]
    rw [gA, List.length_append] at hl
    have hk : k < 13 := by omega
    obtain ⟨t1, t2, t3, t4, t5, t6⟩ := rom_tab k hk
    have hm : left % romV k < romV k := Nat.mod_lt _ (by omega)
    have he : left / romV k * romV k + left % romV k = left := Nat.div_add_mod' left (romV k)
    have hq : left / romV k ≤ left := Nat.div_le_self _ _
    obtain ⟨τ1, a1, a2, a3⟩ := r_l15 hk (left / romV k) FU (left % romV k) τ l hm (by unfold FU; omega) (by rw [he]; omega) hro ht (by omega)
    rw [he] at a1
    have hlt : left % romV k < 2000 := Nat.lt_of_le_of_lt (Nat.mod_le _ _) hx
    obtain ⟨z, z', υ, b1, b2, b3⟩ := ih n (k + 1) (left % romV k) τ1 _ (by omega) (by omega) hlt (frW_Ro a3 hro) a2 (by rw [List.length_append]; omega)
    refine ⟨z, z', υ, ?_, ?_, frW_trans a3 b3⟩
    · simp (disch := omega) only [l_0, l_1, l_2, l_3, l_4, l_5, l_6, l_7, l_8, l_9, l_10, l_12, l_13, l_24, l_31, l_32, l_40, l_41, l_42, l_44, l_45, l_48, l_49, l_50, l_57, l_59, l_60, l_65, l_88, l_89, l_97, l_98, l_99, l_100, l_105, l_108, l_109, l_114, l_118, l_120, l_122, l_144, l_255, l_269, l_279, l_339, l_400, l_600, l_999, l_1000, l_2373, l_2712, ι_lt, ι_le, ι_eq, ι_add, ι_mul, ι_sub, ι_div, ι_n, ι_m1, m1_ι, m1_lt, m1_le, lt_m1, le_m1, m1_lt_m1, m1_le_m1, m1_add1, neg_ι1, ι_addm, ι_addn, Bool.false_eq_true, Nat.not_lt_zero, Nat.add_zero, Nat.zero_add, Nat.mul_zero, Nat.reduceMul, Nat.reduceAdd, Nat.reduceSub, Nat.reduceLT, Nat.reduceLeDiff, Nat.reduceEqDiff, Nat.reduceDiv, Nat.reduceBEq, Nat.reduceBNe, false_or, or_false, true_or, or_true, and_true, true_and, false_and, and_false, not_false_eq_true, not_true_eq_false, if_true, if_false, if_pos, if_neg, Option.bind_some, ite_false, ite_true, eq_self, reduceIte, a1]
      exact b1
    · rw [gA, ← List.append_assoc]; exact b2
theorem r_rom {τ : Mem} {v : Nat} {l : List Nat} (hv : v < 1200) (hro : Ro τ) (h : TR τ l) (hl : l.length + (romC v).length ≤ 400) : ∃ υ, fX12_writesRoman (ι v) τ = some υ ∧ TR υ (l ++ romC v) ∧ frW τ υ := by
  obtain ⟨e, -⟩ := rom_eq v hv
  rw [← e] at hl ⊢
  obtain ⟨z, z', υ, a1, a2, a3⟩ := r_l8 13 FU 0 v τ l (by omega) (by unfold FU; omega) (by omega) hro h hl
  have a1 : fX12_writesRoman_l8 20 FU (ι v) (0 : Int32) τ = some (z, z', υ) := a1
  refine ⟨υ, ?_, a2, a3⟩
  unfold fX12_writesRoman
  rw [a1, Option.bind_some]
def rgF (F : Nat → Int32) (x : Nat) : Nat → Option Nat
  | 0 => none
  | r + 1 => if nn (F (41 + 4 * r)) ≤ x ∧ x ≤ nn (F (41 + 4 * r + 1)) then some r else rgF F x r
theorem rgF_lt {F : Nat → Int32} {x : Nat} : ∀ b r, rgF F x b = some r → r < b ∧ nn (F (41 + 4 * r)) ≤ x
  | 0, r, h => by simp [rgF] at h
  | b + 1, r, h => by
    rw [rgF] at h
    by_cases hc : nn (F (41 + 4 * b)) ≤ x ∧ x ≤ nn (F (41 + 4 * b + 1))
    · rw [if_pos hc] at h; cases h; exact ⟨by omega, hc.1⟩
    · rw [if_neg hc] at h
      have := rgF_lt b r h
      exact ⟨by omega, this.2⟩
theorem c_rg {σ : Mem} {n b x : Nat} {F : Nat → Int32} (hn : n ≤ 60) (hb : b ≤ 12) (hL : LR σ 53 b F) (hR : ∀ r, r < b → RgI n F r) (hx : x < 60) : ∀ r n', r ≤ b → r < n' → (fX1_rangeOf_l7 53 (ι x) n' (ps r) σ).bind (fun q7 => match q7 with | .inl r => some r | .inr q7 => some (-1 : Int32)) = some (oi (rgF F x r)) := by
  obtain ⟨⟨l1, l2, l3, l4⟩, h1, h2, h3, h4, h5⟩ := hL
  intro r
  induction r with
  | zero =>
    intro n' hr hn'
    obtain ⟨n', rfl⟩ : ∃ k, n' = k + 1 := ⟨n' - 1, by omega⟩
    rw [fX1_rangeOf_l7, if_pos (by unfold ps; decide)]
    rfl
  | succ r ih =>
    intro n' hr hn'
    obtain ⟨n', rfl⟩ : ∃ k, n' = k + 1 := ⟨n' - 1, by omega⟩
    obtain ⟨p, q, s, y, g1, g2, g3, g4, g5, g6, g7, g8, g9⟩ := hR r (by omega)
    have e1 := h2 r (by omega)
    have e2 := h3 r (by omega)
    rw [ps_succ, fX1_rangeOf_l7, c_at l1 (by omega) (show r < 12 by omega), Option.bind_some, c_at l2 (by omega) (show r < 12 by omega), Option.bind_some, e1, e2, g6, g7, ps_dec, rgF, g6, g7, nn_ι (by omega), nn_ι (by omega)]
    rw [if_neg (by simp (disch := omega) only [l_0, l_1, l_2, l_3, l_4, l_5, l_6, l_7, l_8, l_9, l_10, l_12, l_13, l_24, l_31, l_32, l_40, l_41, l_42, l_44, l_45, l_48, l_49, l_50, l_57, l_59, l_60, l_65, l_88, l_89, l_97, l_98, l_99, l_100, l_105, l_108, l_109, l_114, l_118, l_120, l_122, l_144, l_255, l_269, l_279, l_339, l_400, l_600, l_999, l_1000, l_2373, l_2712, ι_lt, ι_le, ι_eq, ι_add, ι_mul, ι_sub, ι_div, ι_n, ι_m1, m1_ι, m1_lt, m1_le, lt_m1, le_m1, m1_lt_m1, m1_le_m1, m1_add1, neg_ι1, ι_addm, ι_addn, Bool.false_eq_true, Nat.not_lt_zero, Nat.add_zero, Nat.zero_add, Nat.mul_zero, Nat.reduceMul, Nat.reduceAdd, Nat.reduceSub, Nat.reduceLT, Nat.reduceLeDiff, Nat.reduceEqDiff, Nat.reduceDiv, Nat.reduceBEq, Nat.reduceBNe, false_or, or_false, true_or, or_true, and_true, true_and, false_and, and_false, not_false_eq_true, not_true_eq_false, if_true, if_false, if_pos, if_neg, Option.bind_some, ite_false, ite_true, eq_self, reduceIte])]
    by_cases c1 : x < p
    · rw [if_pos (by rw [ι_lt (by omega) (by omega)]; exact c1), if_neg (by omega)]
      exact ih n' (by omega) (by omega)
    · rw [if_neg (by rw [ι_lt (by omega) (by omega)]; exact c1)]
      by_cases c2 : q < x
      · rw [if_pos (by rw [ι_lt (by omega) (by omega)]; exact c2), if_neg (by omega)]
        exact ih n' (by omega) (by omega)
      · rw [if_neg (by rw [ι_lt (by omega) (by omega)]; exact c2), if_pos (by omega)]
        rfl
theorem c_rangeOf {σ : Mem} {n b x : Nat} {F : Nat → Int32} (hn : n ≤ 60) (hb : b ≤ 12) (hL : LR σ 53 b F) (hR : ∀ r, r < b → RgI n F r) (hx : x < 60) : fX1_rangeOf 53 (ι x) σ = some (oi (rgF F x b)) := by
  unfold fX1_rangeOf
  rw [hL.2.1, ps_sub]
  exact c_rg hn hb hL hR hx b FU (by omega) (by unfold FU; omega)
theorem r_rg {τ : Mem} {n b x : Nat} (hn : n ≤ 60) (hb : b ≤ 12) (hR : ∀ r, r < b → RgI n (τ 3) r) (hx : x < 60) : ∀ r n', r ≤ b → r < n' → (fX12_rangeOf_l9 (ι x) n' (ps r) τ).bind (fun q9 => match q9 with | .inl r => some r | .inr q9 => some (-1 : Int32)) = some (oi (rgF (τ 3) x r)) := by
  intro r
  induction r with
  | zero =>
    intro n' hr hn'
    obtain ⟨n', rfl⟩ : ∃ k, n' = k + 1 := ⟨n' - 1, by omega⟩
    rw [fX12_rangeOf_l9, if_pos (by unfold ps; decide)]
    rfl
  | succ r ih =>
    intro n' hr hn'
    obtain ⟨n', rfl⟩ : ∃ k, n' = k + 1 := ⟨n' - 1, by omega⟩
    obtain ⟨p, q, s, y, g1, g2, g3, g4, g5, g6, g7, g8, g9⟩ := hR r (by omega)
    rw [ps_succ, fX12_rangeOf_l9, ps_dec, rgF, g6, g7, nn_ι (by omega), nn_ι (by omega)]
    simp (disch := omega) only [l_0, l_1, l_2, l_3, l_4, l_5, l_6, l_7, l_8, l_9, l_10, l_12, l_13, l_24, l_31, l_32, l_40, l_41, l_42, l_44, l_45, l_48, l_49, l_50, l_57, l_59, l_60, l_65, l_88, l_89, l_97, l_98, l_99, l_100, l_105, l_108, l_109, l_114, l_118, l_120, l_122, l_144, l_255, l_269, l_279, l_339, l_400, l_600, l_999, l_1000, l_2373, l_2712, ι_lt, ι_le, ι_eq, ι_add, ι_mul, ι_sub, ι_div, ι_n, ι_m1, m1_ι, m1_lt, m1_le, lt_m1, le_m1, m1_lt_m1, m1_le_m1, m1_add1, neg_ι1, ι_addm, ι_addn, Bool.false_eq_true, Nat.not_lt_zero, Nat.add_zero, Nat.zero_add, Nat.mul_zero, Nat.reduceMul, Nat.reduceAdd, Nat.reduceSub, Nat.reduceLT, Nat.reduceLeDiff, Nat.reduceEqDiff, Nat.reduceDiv, Nat.reduceBEq, Nat.reduceBNe, false_or, or_false, true_or, or_true, and_true, true_and, false_and, and_false, not_false_eq_true, not_true_eq_false, if_true, if_false, if_pos, if_neg, Option.bind_some, ite_false, ite_true, eq_self, reduceIte, lm_0, lm_1, lm_2, lm_3, lm_4, lm_5, lm_6, lm_7, lm_8, lm_9, lm_10, lm_11, lm_12, lm_13, lm_14, lm_15, lm_16, lm_17, g6, g7, r_isIn]
    by_cases c1 : p ≤ x ∧ x ≤ q
    · rw [if_pos c1, if_pos c1, if_neg (by decide)]; rfl
    · rw [if_neg c1, if_neg c1, if_pos rfl]
      exact ih n' (by omega) (by omega)
theorem r_rangeOf {τ : Mem} {n b x : Nat} (hn : n ≤ 60) (h1 : τ 3 1 = ι b) (hb : b ≤ 12) (hR : ∀ r, r < b → RgI n (τ 3) r) (hx : x < 60) : fX12_rangeOf (ι x) τ = some (oi (rgF (τ 3) x b)) := by
  unfold fX12_rangeOf
  rw [if_neg (by decide)]
  have e : τ 3 (1 : Int32).toNatClampNeg = ι b := h1
  rw [e, ps_sub]
  exact r_rg hn hb hR hx b FU (by omega) (by unfold FU; omega)
def labR (F : Nat → Int32) (x y r : Nat) : List Nat :=
  if nn (F (41 + 4 * r + 2)) = 0 then dec (nn (F (41 + 4 * r + 3)) + (x - nn (F (41 + 4 * r)))) ++ [if y = 0 then 114 else 118]
  else if nn (F (41 + 4 * r + 2)) = 1 then dec (nn (F (41 + 4 * r + 3)) + 2 * (x - nn (F (41 + 4 * r))) + y)
  else if nn (F (41 + 4 * r + 2)) = 2 then romC (nn (F (41 + 4 * r + 3)) + 2 * (x - nn (F (41 + 4 * r))) + y) else []
def labW (F : Nat → Int32) (b x y : Nat) : List Nat := match rgF F x b with | none => [] | some r => labR F x y r
theorem lab_len {F : Nat → Int32} {n b x y : Nat} (hn : n ≤ 60) (hR : ∀ r, r < b → RgI n F r) (hx : x < 60) (hy : y < 2) : (labW F b x y).length ≤ 12 := by
  unfold labW
  cases h : rgF F x b with
  | none => exact Nat.zero_le _
  | some r =>
    show (labR F x y r).length ≤ 12
    obtain ⟨h1, h2⟩ := rgF_lt b r h
    obtain ⟨p, q, s, z, g1, g2, g3, g4, g5, g6, g7, g8, g9⟩ := hR r h1
    unfold labR
    rw [g9, nn_ι (by omega)]
    have d1 := dec_len (z + (x - nn (F (41 + 4 * r))))
    have d2 := dec_len (z + 2 * (x - nn (F (41 + 4 * r))) + y)
    have d3 := (rom_eq (z + 2 * (x - nn (F (41 + 4 * r))) + y) (by omega)).2
    repeat' split
    · rw [len1]; omega
    · rw [len1]; omega
    · omega
    · exact d3
    · exact Nat.zero_le _
theorem oi_neg {o : Option Nat} (h : o = none) : oi o = (-1 : Int32) := by rw [h]; rfl
theorem oi_pos {o : Option Nat} {r : Nat} (h : o = some r) (hr : r < 60) : ¬ oi o = (-1 : Int32) := by
  rw [h]
  intro z
  have z : ι r = μ := z
  rw [ι_m1 (by omega)] at z; exact z
theorem c_lab {σ : Mem} {o L n b x y : Nat} {F : Nat → Int32} {l : List Nat} (hn : n ≤ 60) (hb : b ≤ 12) (hL : LR σ 53 b F) (hR : ∀ r, r < b → RgI n F r) (hx : x < 60) (hy : y < 2) (h : TC σ o L l) (hl : l.length + 12 ≤ L) : ∃ ρ, fX1_write 53 (ι x) (ι y) o σ = some ρ ∧ TC ρ o L (l ++ labW F b x y) ∧ frT o σ ρ := by
  have hlen := lab_len hn hR hx hy
  unfold fX1_write
  rw [c_rangeOf hn hb hL hR hx, Option.bind_some]
  unfold labW at *
  cases hr : rgF F x b with
  | none =>
    rw [if_pos (oi_neg rfl)]
    exact ⟨σ, rfl, by rw [List.append_nil]; exact h, frT_refl _ _⟩
  | some r =>
    rw [hr] at hlen
    have hlen : (labR F x y r).length ≤ 12 := hlen
    show ∃ ρ, _ ∧ TC ρ o L (l ++ labR F x y r) ∧ _
    obtain ⟨h1, h2⟩ := rgF_lt b r hr
    rw [if_neg (oi_pos rfl (by omega))]
    obtain ⟨p, q, s, z, g1, g2, g3, g4, g5, g6, g7, g8, g9⟩ := hR r h1
    obtain ⟨⟨l1, l2, l3, l4⟩, k1, k2, k3, k4, k5⟩ := hL
    have hp : nn (F (41 + 4 * r)) = p := by rw [g6, nn_ι (by omega)]
    have hs : nn (F (41 + 4 * r + 2)) = s := by rw [g8, nn_ι (by omega)]
    have hz : nn (F (41 + 4 * r + 3)) = z := by rw [g9, nn_ι (by omega)]
    rw [hp] at h2
    unfold labR at hlen ⊢
    rw [hp, hs, hz] at hlen ⊢
    have c1 : fX3_at (53 + 1) (oi (some r)) σ = some (ι p) := by
      show fX3_at (53 + 1) (ι r) σ = _
      rw [c_at l1 (by omega) (show r < 12 by omega), k2 r h1, g6]
    have c2 : fX3_at (53 + 7) (oi (some r)) σ = some (ι z) := by
      show fX3_at (53 + 7) (ι r) σ = _
      rw [c_at l4 (by omega) (show r < 12 by omega), k5 r h1, g9]
    have c3 : fX3_at (53 + 5) (oi (some r)) σ = some (ι s) := by
      show fX3_at (53 + 5) (ι r) σ = _
      rw [c_at l3 (by omega) (show r < 12 by omega), k4 r h1, g8]
    rw [c1, Option.bind_some, c2, Option.bind_some, c3, Option.bind_some]
    simp (disch := omega) only [l_0, l_1, l_2, ι_sub, ι_mul, ι_add, ι_eq]
    by_cases s0 : s = 0
    · rw [if_pos s0] at hlen
      rw [if_pos s0, if_pos s0]
      rw [len1] at hlen
      obtain ⟨ρ1, a1, a2, a3⟩ := c_dec (v := z + (x - p)) (by omega) h (by omega)
      obtain ⟨ρ2, b1, b2, b3⟩ := c_w (c := if y = 0 then 114 else 118) a2 (by rw [List.length_append]; omega)
      refine ⟨ρ2, ?_, by rw [List.append_assoc] at b2; exact b2, frT_trans a3 b3⟩
      rw [a1, Option.bind_some]
      by_cases y0 : y = 0
      · rw [if_pos y0] at b1 ⊢
        have b1 : fX8_add o (114 : Int32) ρ1 = some ρ2 := b1
        rw [b1, Option.bind_some]
      · rw [if_neg y0] at b1 ⊢
        have b1 : fX8_add o (118 : Int32) ρ1 = some ρ2 := b1
        rw [b1, Option.bind_some]
    · rw [if_neg s0] at hlen
      rw [if_neg s0, if_neg s0]
      by_cases s1 : s = 1
      · rw [if_pos s1] at hlen
        rw [if_pos s1, if_pos s1]
        obtain ⟨ρ1, a1, a2, a3⟩ := c_dec (v := z + 2 * (x - p) + y) (by omega) h (by omega)
        exact ⟨ρ1, by rw [a1, Option.bind_some], a2, a3⟩
      · rw [if_neg s1] at hlen
        rw [if_neg s1, if_neg s1]
        by_cases s2 : s = 2
        · rw [if_pos s2] at hlen
          rw [if_pos s2, if_pos s2]
          obtain ⟨ρ1, a1, a2, a3⟩ := c_rom (v := z + 2 * (x - p) + y) (by omega) h (by omega)
          exact ⟨ρ1, by rw [a1, Option.bind_some], a2, a3⟩
        · rw [if_neg s2, if_neg s2]
          exact ⟨σ, rfl, by rw [List.append_nil]; exact h, frT_refl _ _⟩
theorem r_lab {τ : Mem} {n b x y : Nat} {l : List Nat} (hn : n ≤ 60) (h1 : τ 3 1 = ι b) (hb : b ≤ 12) (hR : ∀ r, r < b → RgI n (τ 3) r) (hro : Ro τ) (hx : x < 60) (hy : y < 2) (h : TR τ l) (hl : l.length + 12 ≤ 400) : ∃ υ, fX12_writesLeafLabel (ι x) (ι y) τ = some υ ∧ TR υ (l ++ labW (τ 3) b x y) ∧ frW τ υ := by
  have hlen := lab_len (F := τ 3) hn hR hx hy
  unfold fX12_writesLeafLabel
  rw [r_rangeOf hn h1 hb hR hx, Option.bind_some]
  unfold labW at *
  cases hr : rgF (τ 3) x b with
  | none =>
    rw [if_pos (oi_neg rfl)]
    exact ⟨τ, rfl, by rw [List.append_nil]; exact h, frW_refl _⟩
  | some r =>
    rw [hr] at hlen
    have hlen : (labR (τ 3) x y r).length ≤ 12 := hlen
    show ∃ ρ, _ ∧ TR ρ (l ++ labR (τ 3) x y r) ∧ _
    obtain ⟨h1, h2⟩ := rgF_lt b r hr
    rw [if_neg (oi_pos rfl (by omega))]
    obtain ⟨p, q, s, z, g1, g2, g3, g4, g5, g6, g7, g8, g9⟩ := hR r h1
    have hp : nn (τ 3 (41 + 4 * r)) = p := by rw [g6, nn_ι (by omega)]
    have hs : nn (τ 3 (41 + 4 * r + 2)) = s := by rw [g8, nn_ι (by omega)]
    have hz : nn (τ 3 (41 + 4 * r + 3)) = z := by rw [g9, nn_ι (by omega)]
    rw [hp] at h2
    unfold labR at hlen ⊢
    rw [hp, hs, hz] at hlen ⊢
    have eo : oi (some r) = ι r := rfl
    simp (disch := omega) only [l_0, l_1, l_2, l_3, l_4, l_5, l_6, l_7, l_8, l_9, l_10, l_12, l_13, l_24, l_31, l_32, l_40, l_41, l_42, l_44, l_45, l_48, l_49, l_50, l_57, l_59, l_60, l_65, l_88, l_89, l_97, l_98, l_99, l_100, l_105, l_108, l_109, l_114, l_118, l_120, l_122, l_144, l_255, l_269, l_279, l_339, l_400, l_600, l_999, l_1000, l_2373, l_2712, ι_lt, ι_le, ι_eq, ι_add, ι_mul, ι_sub, ι_div, ι_n, ι_m1, m1_ι, m1_lt, m1_le, lt_m1, le_m1, m1_lt_m1, m1_le_m1, m1_add1, neg_ι1, ι_addm, ι_addn, Bool.false_eq_true, Nat.not_lt_zero, Nat.add_zero, Nat.zero_add, Nat.mul_zero, Nat.reduceMul, Nat.reduceAdd, Nat.reduceSub, Nat.reduceLT, Nat.reduceLeDiff, Nat.reduceEqDiff, Nat.reduceDiv, Nat.reduceBEq, Nat.reduceBNe, false_or, or_false, true_or, or_true, and_true, true_and, false_and, and_false, not_false_eq_true, not_true_eq_false, if_true, if_false, if_pos, if_neg, Option.bind_some, ite_false, ite_true, eq_self, reduceIte, lm_0, lm_1, lm_2, lm_3, lm_4, lm_5, lm_6, lm_7, lm_8, lm_9, lm_10, lm_11, lm_12, lm_13, lm_14, lm_15, lm_16, lm_17, eo, g6, g8, g9]
    by_cases s0 : s = 0
    · rw [if_pos s0] at hlen
      rw [if_pos s0, if_pos s0]
      rw [len1] at hlen
      obtain ⟨ρ1, a1, a2, a3⟩ := r_dec (v := z + (x - p)) (by omega) (by omega) h (by omega)
      obtain ⟨ρ2, b1, b2, b3⟩ := r_w (c := if y = 0 then 114 else 118) a2 (by rw [List.length_append]; omega) (by split <;> omega)
      refine ⟨ρ2, ?_, by rw [List.append_assoc] at b2; exact b2, frW_trans a3 b3⟩
      rw [a1, Option.bind_some]
      by_cases y0 : y = 0
      · rw [if_pos y0] at b1 ⊢
        rw [b1, Option.bind_some]
      · rw [if_neg y0] at b1 ⊢
        rw [b1, Option.bind_some]
    · rw [if_neg s0] at hlen
      rw [if_neg s0, if_neg s0]
      by_cases s1 : s = 1
      · rw [if_pos s1] at hlen
        rw [if_pos s1, if_pos s1]
        obtain ⟨ρ1, a1, a2, a3⟩ := r_dec (v := z + 2 * (x - p) + y) (by omega) (by omega) h (by omega)
        exact ⟨ρ1, by rw [a1, Option.bind_some], a2, a3⟩
      · rw [if_neg s1] at hlen
        rw [if_neg s1, if_neg s1]
        by_cases s2 : s = 2
        · rw [if_pos s2] at hlen
          rw [if_pos s2, if_pos s2]
          obtain ⟨ρ1, a1, a2, a3⟩ := r_rom (v := z + 2 * (x - p) + y) (by omega) hro h (by omega)
          exact ⟨ρ1, by rw [a1, Option.bind_some], a2, a3⟩
        · rw [if_neg s2, if_neg s2]
          exact ⟨τ, rfl, by rw [List.append_nil]; exact h, frW_refl _⟩
