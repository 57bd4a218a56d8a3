/-! PURE PART: undo, undoCount, save, restore -/
theorem ref_fails (τ : Mem) (x : Int32) : fX12_fails x τ = some (0, up τ 0 0 x) := by
  unfold fX12_fails; rfl
theorem z_bad {a v : Int32} {τ : Mem} : ((a, up τ 0 0 v) : Int32 × Mem).2 0 0 = v := up_e τ 0 0 v
theorem c_take {σ : Mem} {nx nh k n : Nat} {q F : Nat → Int32} (hQ : QI q k n) (h1 : nx < 8) (h2 : 0 < nh) (h2' : nh ≤ 8) (h3 : σ 79 1 = ι nx) (h4 : σ 79 2 = ι nh) (hC : CS σ (80 + (1 + 31 * (if nx = 0 then 7 else nx - 1))) q k n F) : ∃ ρ, fX0_takeBack 79 41 σ = some ρ ∧ ρ 79 1 = ι (if nx = 0 then 7 else nx - 1) ∧ ρ 79 2 = ι (nh - 1) ∧ CS ρ 41 q k n F ∧
    (∀ j, j ≠ 79 → (j < 41 ∨ 72 ≤ j) → ρ j = σ j) := by
  have hn : n ≤ 60 := hQ.2.2.2.2
  obtain ⟨ρ, e, r, u⟩ := CS_copy (s := 41) (s' := 80 + (1 + 31 * (if nx = 0 then 7 else nx - 1))) hQ SL_41 hC (by omega)
  have u79 : ρ 79 = σ 79 := u 79 (by omega)
  have key : fX0_takeBack 79 41 σ = fX0_takeBack_j18 79 41 (ι (if nx = 0 then 7 else nx - 1)) σ := by
    unfold fX0_takeBack
    by_cases h0 : nx = 0
    · subst h0; simp (disch := omega) only [h3, l_0, l_1, l_2, l_3, l_4, l_5, l_6, l_7, l_8, l_9, l_10, l_12, l_13, l_24, l_31, l_32, l_40, l_41, l_42, l_44, l_45, l_48, l_49, l_50, l_57, l_59, l_60, l_65, l_88, l_89, l_97, l_98, l_99, l_100, l_105, l_108, l_109, l_114, l_118, l_120, l_122, l_144, l_255, l_269, l_279, l_339, l_400, l_600, l_999, l_1000, l_2373, l_2712, ι_lt, ι_le, ι_eq, ι_add, ι_mul, ι_sub, ι_div, ι_n, ι_m1, m1_ι, m1_lt, m1_le, lt_m1, le_m1, m1_lt_m1, m1_le_m1, m1_add1, neg_ι1, ι_addm, ι_addn, Bool.false_eq_true, Nat.not_lt_zero, Nat.add_zero, Nat.zero_add, Nat.mul_zero, Nat.reduceMul, Nat.reduceAdd, Nat.reduceSub, Nat.reduceLT, Nat.reduceLeDiff, Nat.reduceEqDiff, Nat.reduceDiv, Nat.reduceBEq, Nat.reduceBNe, false_or, or_false, true_or, or_true, and_true, true_and, false_and, and_false, not_false_eq_true, not_true_eq_false, if_true, if_false, if_pos, if_neg, Option.bind_some, ite_false, ite_true, eq_self, reduceIte, Nat.le_refl]
    · simp (disch := omega) only [h3, l_0, l_1, l_2, l_3, l_4, l_5, l_6, l_7, l_8, l_9, l_10, l_12, l_13, l_24, l_31, l_32, l_40, l_41, l_42, l_44, l_45, l_48, l_49, l_50, l_57, l_59, l_60, l_65, l_88, l_89, l_97, l_98, l_99, l_100, l_105, l_108, l_109, l_114, l_118, l_120, l_122, l_144, l_255, l_269, l_279, l_339, l_400, l_600, l_999, l_1000, l_2373, l_2712, ι_lt, ι_le, ι_eq, ι_add, ι_mul, ι_sub, ι_div, ι_n, ι_m1, m1_ι, m1_lt, m1_le, lt_m1, le_m1, m1_lt_m1, m1_le_m1, m1_add1, neg_ι1, ι_addm, ι_addn, Bool.false_eq_true, Nat.not_lt_zero, Nat.add_zero, Nat.zero_add, Nat.mul_zero, Nat.reduceMul, Nat.reduceAdd, Nat.reduceSub, Nat.reduceLT, Nat.reduceLeDiff, Nat.reduceEqDiff, Nat.reduceDiv, Nat.reduceBEq, Nat.reduceBNe, false_or, or_false, true_or, or_true, and_true, true_and, false_and, and_false, not_false_eq_true, not_true_eq_false, if_true, if_false, if_pos, if_neg, Option.bind_some, ite_false, ite_true, eq_self, reduceIte, h0]
  rw [key]
  unfold fX0_takeBack_j18
  rw [c_slot (by split <;> omega), Option.bind_some]
  simp (disch := omega) only [h4, l_0, l_1, l_2, l_3, l_4, l_5, l_6, l_7, l_8, l_9, l_10, l_12, l_13, l_24, l_31, l_32, l_40, l_41, l_42, l_44, l_45, l_48, l_49, l_50, l_57, l_59, l_60, l_65, l_88, l_89, l_97, l_98, l_99, l_100, l_105, l_108, l_109, l_114, l_118, l_120, l_122, l_144, l_255, l_269, l_279, l_339, l_400, l_600, l_999, l_1000, l_2373, l_2712, ι_lt, ι_le, ι_eq, ι_add, ι_mul, ι_sub, ι_div, ι_n, ι_m1, m1_ι, m1_lt, m1_le, lt_m1, le_m1, m1_lt_m1, m1_le_m1, m1_add1, neg_ι1, ι_addm, ι_addn, Bool.false_eq_true, Nat.not_lt_zero, Nat.add_zero, Nat.zero_add, Nat.mul_zero, Nat.reduceMul, Nat.reduceAdd, Nat.reduceSub, Nat.reduceLT, Nat.reduceLeDiff, Nat.reduceEqDiff, Nat.reduceDiv, Nat.reduceBEq, Nat.reduceBNe, false_or, or_false, true_or, or_true, and_true, true_and, false_and, and_false, not_false_eq_true, not_true_eq_false, if_true, if_false, if_pos, if_neg, Option.bind_some, ite_false, ite_true, eq_self, reduceIte]
  rw [e, Option.bind_some]
  refine ⟨_, rfl, ?_, ?_, CS_c hn r (fun j h1 h2 => ?_) (fun _ _ => rfl), fun j hj1 hj2 => ?_⟩
  · simp (disch := omega) only [up_g, if_pos, if_neg, true_and, and_true, false_and, and_false, if_true, if_false, reduceIte]
  · simp (disch := omega) only [up_g, if_pos, if_neg, true_and, and_true, false_and, and_false, if_true, if_false, reduceIte, u79, h4, l_0, l_1, l_2, l_3, l_4, l_5, l_6, l_7, l_8, l_9, l_10, l_12, l_13, l_24, l_31, l_32, l_40, l_41, l_42, l_44, l_45, l_48, l_49, l_50, l_57, l_59, l_60, l_65, l_88, l_89, l_97, l_98, l_99, l_100, l_105, l_108, l_109, l_114, l_118, l_120, l_122, l_144, l_255, l_269, l_279, l_339, l_400, l_600, l_999, l_1000, l_2373, l_2712, ι_lt, ι_le, ι_eq, ι_add, ι_mul, ι_sub, ι_div, ι_n, ι_m1, m1_ι, m1_lt, m1_le, lt_m1, le_m1, m1_lt_m1, m1_le_m1, m1_add1, neg_ι1, ι_addm, ι_addn, Bool.false_eq_true, Nat.not_lt_zero, Nat.add_zero, Nat.zero_add, Nat.mul_zero, Nat.reduceMul, Nat.reduceAdd, Nat.reduceSub, Nat.reduceLT, Nat.reduceLeDiff, Nat.reduceEqDiff, Nat.reduceDiv, Nat.reduceBEq, Nat.reduceBNe, false_or, or_false, true_or, or_true, and_true, true_and, false_and, and_false, not_false_eq_true, not_true_eq_false, if_true, if_false, if_pos, if_neg, Option.bind_some, ite_false, ite_true, eq_self, reduceIte]
  · rw [up_k _ _ _ _ _ (by omega), up_k _ _ _ _ _ (by omega)]
  · rw [up_k _ _ _ _ _ (by omega), up_k _ _ _ _ _ (by omega), u j hj2]
theorem sim44 : Sim44 Rel := by
  intro σ τ hR
  replace hR := Rel_0 hR 0
  unfold fX12_undo
  have h00 : up τ 0 0 0 0 0 = 0 := up_e _ _ _ _
  generalize up τ 0 0 (0 : Int32) = τ at *
  obtain ⟨k, n, ⟨hQ, r2, ⟨nx, nh, g1, g2, g3, g4, g5, g6⟩, r4, r5, r6, r7, r8, r9⟩, hC⟩ := hR
  have hn : n ≤ 60 := hQ.2.2.2.2
  unfold fX11_undo fX0_size
  simp only [Nat.zero_add, Option.bind_some, g4]
  by_cases h0 : nh = 0
  · subst h0
    simp only [l_0, if_true, g5, ref_fails, Option.bind_some]
    exact ⟨_, _, 1, rfl, rfl, Or.inr ⟨rfl, rfl⟩, fun v hv => (by cases hv), z_bad, Rel_0 ⟨k, n, ⟨hQ, r2, ⟨nx, 0, g1, g2, g3, g4, g5, g6⟩, r4, r5, r6, r7, r8, r9⟩, hC⟩ _⟩
  · have hc := g6 (nh - 1) (by omega)
    have e : rgi nx nh (nh - 1) = 80 + (1 + 31 * (if nx = 0 then 7 else nx - 1)) := by
      unfold rgi; congr 2; congr 1; split <;> omega
    rw [e] at hc
    obtain ⟨ρ, a1, a2, a3, a4, a5⟩ := c_take hQ g1 (by omega) g2 g3 g4 hc
    have hcc : ∀ υ : Mem, υ 6 = τ 6 → fX12_copies 6 (ι (339 * (nh - 1))) 3 (ι 0) υ = some (fun k j => if k = 3 ∧ 0 ≤ j ∧ j < 0 + 339 then τ 6 (339 * (nh - 1) + (j - 0)) else υ k j) := fun υ hυ => by
      rw [ref_copies (by decide) (by rw [lm_6]; omega) (by decide) (by omega) (by omega), hυ]
    simp (disch := omega) only [g5, l_0, l_1, l_2, l_3, l_4, l_5, l_6, l_7, l_8, l_9, l_10, l_12, l_13, l_24, l_31, l_32, l_40, l_41, l_42, l_44, l_45, l_48, l_49, l_50, l_57, l_59, l_60, l_65, l_88, l_89, l_97, l_98, l_99, l_100, l_105, l_108, l_109, l_114, l_118, l_120, l_122, l_144, l_255, l_269, l_279, l_339, l_400, l_600, l_999, l_1000, l_2373, l_2712, ι_lt, ι_le, ι_eq, ι_add, ι_mul, ι_sub, ι_div, ι_n, ι_m1, m1_ι, m1_lt, m1_le, lt_m1, le_m1, m1_lt_m1, m1_le_m1, m1_add1, neg_ι1, ι_addm, ι_addn, Bool.false_eq_true, Nat.not_lt_zero, Nat.add_zero, Nat.zero_add, Nat.mul_zero, Nat.reduceMul, Nat.reduceAdd, Nat.reduceSub, Nat.reduceLT, Nat.reduceLeDiff, Nat.reduceEqDiff, Nat.reduceDiv, Nat.reduceBEq, Nat.reduceBNe, false_or, or_false, true_or, or_true, and_true, true_and, false_and, and_false, not_false_eq_true, not_true_eq_false, if_true, if_false, if_pos, if_neg, Option.bind_some, ite_false, ite_true, eq_self, reduceIte, a1, a3, up_e, up_j]
    rw [hcc _ (up_k _ _ _ _ _ (by omega)), Option.bind_some]
    refine ⟨_, _, 0, rfl, rfl, Or.inl ⟨_, rfl, rfl⟩, fun v hv => ?_, ?_, ?_⟩
    · cases hv
      simp (disch := omega) only [up_g, if_pos, if_neg, true_and, and_true, false_and, and_false, if_true, if_false, reduceIte]
    · simp (disch := omega) only [up_g, if_pos, if_neg, true_and, and_true, false_and, and_false, if_true, if_false, reduceIte]; exact h00
    · show Rel ρ _
      have t0 : ∀ k j, ¬ (k = 3 ∨ (k = 0 ∧ j = 9)) → (fun k j => if k = 3 ∧ 0 ≤ j ∧ j < 0 + 339 then τ 6 (339 * (nh - 1) + (j - 0)) else up τ 0 9 (ι (nh - 1)) k j : Mem) k j = τ k j := by
        intro k j hk
        simp (disch := omega) only [up_g, if_pos, if_neg, true_and, and_true, false_and, and_false, if_true, if_false, reduceIte]
      have t3 : ∀ j, j < 339 → (fun k j => if k = 3 ∧ 0 ≤ j ∧ j < 0 + 339 then τ 6 (339 * (nh - 1) + (j - 0)) else up τ 0 9 (ι (nh - 1)) k j : Mem) 3 j = τ 6 (339 * (nh - 1) + j) := by
        intro j hj
        simp (disch := omega) only [up_g, if_pos, if_neg, true_and, and_true, false_and, and_false, if_true, if_false, reduceIte]
        exact congrArg _ (by omega)
      have t9 : (fun k j => if k = 3 ∧ 0 ≤ j ∧ j < 0 + 339 then τ 6 (339 * (nh - 1) + (j - 0)) else up τ 0 9 (ι (nh - 1)) k j : Mem) 0 9 = ι (nh - 1) := by
        simp (disch := omega) only [up_g, if_pos, if_neg, true_and, and_true, false_and, and_false, if_true, if_false, reduceIte]
      revert t0 t3 t9
      generalize (fun k j => if k = 3 ∧ 0 ≤ j ∧ j < 0 + 339 then τ 6 (339 * (nh - 1) + (j - 0)) else up τ 0 9 (ι (nh - 1)) k j : Mem) = υ
      intro t0 t3 t9
      show Rel ρ υ
      have u1 : υ 1 = τ 1 := funext fun j => t0 1 j (by omega)
      have u6 : υ 6 = τ 6 := funext fun j => t0 6 j (by omega)
      have u5 : υ 5 = τ 5 := funext fun j => t0 5 j (by omega)
      have u7 : υ 7 = τ 7 := funext fun j => t0 7 j (by omega)
      have u9 : υ 9 = τ 9 := funext fun j => t0 9 j (by omega)
      have u11 : υ 11 = τ 11 := funext fun j => t0 11 j (by omega)
      refine ⟨k, n, ⟨by rw [u1]; exact hQ, by rw [t0 0 3 (by omega)]; exact r2, ⟨if nx = 0 then 7 else nx - 1, nh - 1, by split <;> omega, by omega, a2, a3, t9, fun i hi => ?_⟩, ?_, ?_, ?_, ?_, ?_, ?_⟩, ?_⟩
      · rw [u1, u6]
        have e : rgi (if nx = 0 then 7 else nx - 1) (nh - 1) i = rgi nx nh i := by
          unfold rgi; congr 2; congr 1; split <;> omega
        rw [e]
        have := rgi_in nx nh i
        exact CS_c hn (g6 i (by omega)) (fun j h1 h2 => a5 j (by omega) (by omega)) (fun _ _ => rfl)
      · unfold Sv; rw [t0 0 10 (by omega), u1, u5, a5 0 (by omega) (by omega)]
        rcases r4 with h | ⟨h1, h2, h3⟩
        · exact Or.inl h
        · exact Or.inr ⟨h1, h2, CS_c hn h3 (fun j h1 h2 => a5 j (by omega) (by omega)) (fun _ _ => rfl)⟩
      · unfold IR; rw [a5 33 (by omega) (by omega), a5 34 (by omega) (by omega), t0 0 12 (by omega), u7]; exact r5
      · unfold FR; rw [a5 35 (by omega) (by omega), a5 36 (by omega) (by omega), t0 0 20 (by omega), u9]; exact r6
      · unfold Tx; rw [a5 37 (by omega) (by omega)]; exact r7
      · unfold Tx; rw [a5 39 (by omega) (by omega)]; exact r8
      · unfold Ro; rw [u11]; exact r9
      · rw [u1]; exact CS_c hn a4 (fun _ _ _ => rfl) t3
theorem sim45 : Sim45 Rel := by
  intro σ τ hR
  replace hR := Rel_0 hR 0
  unfold fX12_undoCount
  generalize up τ 0 0 (0 : Int32) = τ at *
  obtain ⟨k, n, ⟨hQ, r2, ⟨nx, nh, g1, g2, g3, g4, g5, g6⟩, r4, r5, r6, r7, r8, r9⟩, hC⟩ := hR
  refine ⟨ι nh, τ, ?_, ?_, ⟨k, n, ⟨hQ, r2, ⟨nx, nh, g1, g2, g3, g4, g5, g6⟩, r4, r5, r6, r7, r8, r9⟩, hC⟩⟩
  · unfold fX11_undoCount fX0_size; simp only [Nat.zero_add, Option.bind_some, g4]
  · rw [g5]
theorem sim46 : Sim46 Rel := by
  intro σ τ hR
  replace hR := Rel_0 hR 0
  unfold fX12_save
  generalize up τ 0 0 (0 : Int32) = τ at *
  obtain ⟨k, n, ⟨hQ, r2, r3, r4, r5, r6, r7, r8, r9⟩, hC⟩ := hR
  have hn : n ≤ 60 := hQ.2.2.2.2
  obtain ⟨ρ, e, r, u⟩ := CS_copy (s := 329) (s' := 41) hQ SL_329 hC (by omega)
  have hd : ∃ d, σ 62 3 = ι d ∧ τ 3 2 = ι d := by
    obtain ⟨a, b, d, t, f, s⟩ := hC
    exact ⟨d, s.2.2.1.2.1, f.2.2.2.2.2.2.1⟩
  obtain ⟨d, d1, d2⟩ := hd
  unfold fX11_save fX5_size
  simp only [Nat.zero_add, e, Option.bind_some, l_0, l_2, l_1]
  rw [ref_copies (by decide) (by decide) (by decide) (by omega) (by omega), Option.bind_some]
  have t0 : ∀ k j, ¬ (k = 5 ∨ (k = 0 ∧ j = 10)) → (up (fun k j => if k = 5 ∧ 0 ≤ j ∧ j < 0 + 339 then τ 3 (0 + (j - 0)) else τ k j : Mem) 0 10 (ι 1)) k j = τ k j := by
    intro k j hk
    simp (disch := omega) only [up_g, if_pos, if_neg, true_and, and_true, false_and, and_false, if_true, if_false, reduceIte]
  have t5 : ∀ j, j < 339 → (up (fun k j => if k = 5 ∧ 0 ≤ j ∧ j < 0 + 339 then τ 3 (0 + (j - 0)) else τ k j : Mem) 0 10 (ι 1)) 5 j = τ 3 j := by
    intro j hj
    simp (disch := omega) only [up_g, if_pos, if_neg, true_and, and_true, false_and, and_false, if_true, if_false, reduceIte]
    exact congrArg _ (by omega)
  have t10 : (up (fun k j => if k = 5 ∧ 0 ≤ j ∧ j < 0 + 339 then τ 3 (0 + (j - 0)) else τ k j : Mem) 0 10 (ι 1)) 0 10 = ι 1 := up_e _ _ _ _
  revert t0 t5 t10
  generalize (up (fun k j => if k = 5 ∧ 0 ≤ j ∧ j < 0 + 339 then τ 3 (0 + (j - 0)) else τ k j : Mem) 0 10 (ι 1)) = υ
  intro t0 t5 t10
  have u1 : υ 1 = τ 1 := funext fun j => t0 1 j (by omega)
  have u3 : υ 3 = τ 3 := funext fun j => t0 3 j (by omega)
  have w0 : ∀ j, j ≠ 0 → (j < 329 ∨ 360 ≤ j) → up ρ 0 13 (ι 1) j = σ j := fun j h1 h2 => by rw [up_k _ _ _ _ _ h1, u j (by omega)]
  have w13 : up ρ 0 13 (ι 1) 0 13 = ι 1 := up_e _ _ _ _
  have w329 : ∀ j, 329 ≤ j → j < 360 → up ρ 0 13 (ι 1) j = ρ j := fun j h1 h2 => by rw [up_k _ _ _ _ _ (by omega)]
  refine ⟨ι d, up ρ 0 13 (ι 1), υ, ?_, ?_, ?_⟩
  · rw [w0 62 (by omega) (by omega), d1]
  · simp (disch := omega) only [l_0, l_1, l_2, l_3, l_4, l_5, l_6, l_7, l_8, l_9, l_10, l_12, l_13, l_24, l_31, l_32, l_40, l_41, l_42, l_44, l_45, l_48, l_49, l_50, l_57, l_59, l_60, l_65, l_88, l_89, l_97, l_98, l_99, l_100, l_105, l_108, l_109, l_114, l_118, l_120, l_122, l_144, l_255, l_269, l_279, l_339, l_400, l_600, l_999, l_1000, l_2373, l_2712, ι_lt, ι_le, ι_eq, ι_add, ι_mul, ι_sub, ι_div, ι_n, ι_m1, m1_ι, m1_lt, m1_le, lt_m1, le_m1, m1_lt_m1, m1_le_m1, m1_add1, neg_ι1, ι_addm, ι_addn, Bool.false_eq_true, Nat.not_lt_zero, Nat.add_zero, Nat.zero_add, Nat.mul_zero, Nat.reduceMul, Nat.reduceAdd, Nat.reduceSub, Nat.reduceLT, Nat.reduceLeDiff, Nat.reduceEqDiff, Nat.reduceDiv, Nat.reduceBEq, Nat.reduceBNe, false_or, or_false, true_or, or_true, and_true, true_and, false_and, and_false, not_false_eq_true, not_true_eq_false, if_true, if_false, if_pos, if_neg, Option.bind_some, ite_false, ite_true, eq_self, reduceIte, lm_0, lm_1, lm_2, lm_3, lm_4, lm_5, lm_6, lm_7, lm_8, lm_9, lm_10, lm_11, lm_12, lm_13, lm_14, lm_15, lm_16, lm_17, u3, d2]
  · revert w0 w13 w329
    generalize up ρ 0 13 (ι 1) = ω
    intro w0 w13 w329
    have u6 : υ 6 = τ 6 := funext fun j => t0 6 j (by omega)
    have u7 : υ 7 = τ 7 := funext fun j => t0 7 j (by omega)
    have u9 : υ 9 = τ 9 := funext fun j => t0 9 j (by omega)
    have u11 : υ 11 = τ 11 := funext fun j => t0 11 j (by omega)
    refine ⟨k, n, ⟨by rw [u1]; exact hQ, by rw [t0 0 3 (by omega)]; exact r2, ?_, Or.inr ⟨w13, t10, ?_⟩, ?_, ?_, ?_, ?_, ?_⟩, ?_⟩
    · obtain ⟨nx, nh, g1, g2, g3, g4, g5, g6⟩ := r3
      refine ⟨nx, nh, g1, g2, by rw [w0 79 (by omega) (by omega)]; exact g3, by rw [w0 79 (by omega) (by omega)]; exact g4, by rw [t0 0 9 (by omega)]; exact g5, fun i hi => ?_⟩
      rw [u1, u6]
      have := rgi_in nx nh i
      exact CS_c hn (g6 i hi) (fun j h1 h2 => w0 j (by omega) (by omega)) (fun _ _ => rfl)
    · rw [u1]; exact CS_c hn r (fun j h1 h2 => w329 j (by omega) (by omega)) t5
    · unfold IR; rw [w0 33 (by omega) (by omega), w0 34 (by omega) (by omega), t0 0 12 (by omega), u7]; exact r5
    · unfold FR; rw [w0 35 (by omega) (by omega), w0 36 (by omega) (by omega), t0 0 20 (by omega), u9]; exact r6
    · unfold Tx; rw [w0 37 (by omega) (by omega)]; exact r7
    · unfold Tx; rw [w0 39 (by omega) (by omega)]; exact r8
    · unfold Ro; rw [u11]; exact r9
    · rw [u1, u3]; exact CS_c hn hC (fun j h1 h2 => w0 j (by omega) (by omega)) (fun _ _ => rfl)
theorem sim47 : Sim47 Rel := by
  intro σ τ hR
  replace hR := Rel_0 hR 0
  unfold fX12_restore
  have h00 : up τ 0 0 0 0 0 = 0 := up_e _ _ _ _
  generalize up τ 0 0 (0 : Int32) = τ at *
  have hR' := hR
  obtain ⟨k, n, ⟨hQ, r2, r3, r4, r5, r6, r7, r8, r9⟩, hC⟩ := hR
  have hn : n ≤ 60 := hQ.2.2.2.2
  unfold fX11_restore
  rcases r4 with ⟨h1, h2⟩ | ⟨h1, h2, h3⟩
  · simp only [h1, h2, l_0, if_true, ref_fails, Option.bind_some]
    exact ⟨_, _, 1, rfl, rfl, Or.inr ⟨rfl, rfl⟩, fun v hv => (by cases hv), z_bad, Rel_0 hR' _⟩
  · obtain ⟨ρ, e, r, u⟩ := CS_copy (s := 41) (s' := 329) hQ SL_41 h3 (by omega)
    have hd : ∃ d, ρ 62 3 = ι d ∧ τ 5 2 = ι d := by
      obtain ⟨a, b, d, t, f, s⟩ := r
      exact ⟨d, s.2.2.1.2.1, f.2.2.2.2.2.2.1⟩
    obtain ⟨d, d1, d2⟩ := hd
    unfold fX5_size fX0_clear
    simp (disch := omega) only [h1, h2, Nat.zero_add, e, l_0, l_1, l_2, l_3, l_4, l_5, l_6, l_7, l_8, l_9, l_10, l_12, l_13, l_24, l_31, l_32, l_40, l_41, l_42, l_44, l_45, l_48, l_49, l_50, l_57, l_59, l_60, l_65, l_88, l_89, l_97, l_98, l_99, l_100, l_105, l_108, l_109, l_114, l_118, l_120, l_122, l_144, l_255, l_269, l_279, l_339, l_400, l_600, l_999, l_1000, l_2373, l_2712, ι_lt, ι_le, ι_eq, ι_add, ι_mul, ι_sub, ι_div, ι_n, ι_m1, m1_ι, m1_lt, m1_le, lt_m1, le_m1, m1_lt_m1, m1_le_m1, m1_add1, neg_ι1, ι_addm, ι_addn, Bool.false_eq_true, Nat.not_lt_zero, Nat.add_zero, Nat.zero_add, Nat.mul_zero, Nat.reduceMul, Nat.reduceAdd, Nat.reduceSub, Nat.reduceLT, Nat.reduceLeDiff, Nat.reduceEqDiff, Nat.reduceDiv, Nat.reduceBEq, Nat.reduceBNe, false_or, or_false, true_or, or_true, and_true, true_and, false_and, and_false, not_false_eq_true, not_true_eq_false, if_true, if_false, if_pos, if_neg, Option.bind_some, ite_false, ite_true, eq_self, reduceIte, lm_0, lm_1, lm_2, lm_3, lm_4, lm_5, lm_6, lm_7, lm_8, lm_9, lm_10, lm_11, lm_12, lm_13, lm_14, lm_15, lm_16, lm_17]
    rw [ref_copies (by decide) (by decide) (by decide) (by omega) (by omega), Option.bind_some]
    have t0 : ∀ k j, ¬ (k = 3 ∨ (k = 0 ∧ j = 9)) → (up (fun k j => if k = 3 ∧ 0 ≤ j ∧ j < 0 + 339 then τ 5 (0 + (j - 0)) else τ k j : Mem) 0 9 (ι 0)) k j = τ k j := by
      intro k j hk
      simp (disch := omega) only [up_g, if_pos, if_neg, true_and, and_true, false_and, and_false, if_true, if_false, reduceIte]
    have t5 : ∀ j, j < 339 → (up (fun k j => if k = 3 ∧ 0 ≤ j ∧ j < 0 + 339 then τ 5 (0 + (j - 0)) else τ k j : Mem) 0 9 (ι 0)) 3 j = τ 5 j := by
      intro j hj
      simp (disch := omega) only [up_g, if_pos, if_neg, true_and, and_true, false_and, and_false, if_true, if_false, reduceIte]
      exact congrArg _ (by omega)
    have t10 : (up (fun k j => if k = 3 ∧ 0 ≤ j ∧ j < 0 + 339 then τ 5 (0 + (j - 0)) else τ k j : Mem) 0 9 (ι 0)) 0 9 = ι 0 := up_e _ _ _ _
    revert t0 t5 t10
    generalize (up (fun k j => if k = 3 ∧ 0 ≤ j ∧ j < 0 + 339 then τ 5 (0 + (j - 0)) else τ k j : Mem) 0 9 (ι 0)) = υ
    intro t0 t5 t10
    have w0 : ∀ j, j ≠ 79 → (j < 41 ∨ 72 ≤ j) → up ρ 79 2 (ι 0) j = σ j := fun j h1 h2 => by rw [up_k _ _ _ _ _ h1, u j (by omega)]
    have w41 : ∀ j, 41 ≤ j → j < 72 → up ρ 79 2 (ι 0) j = ρ j := fun j h1 h2 => by rw [up_k _ _ _ _ _ (by omega)]
    have w1 : up ρ 79 2 (ι 0) 79 1 = σ 79 1 := by rw [up_j _ _ _ _ _ (by omega), u 79 (by omega)]
    have w2 : up ρ 79 2 (ι 0) 79 2 = ι 0 := up_e _ _ _ _
    refine ⟨(.inr (ι d), up ρ 79 2 (ι 0)), (ι d, υ), 0, ?_, ?_, Or.inl ⟨_, rfl, rfl⟩, fun v hv => (by cases hv; rfl), ?_, ?_⟩
    · rw [w41 62 (by omega) (by omega), d1]
    · rw [t5 2 (by omega), d2]
    · show υ 0 0 = 0
      rw [t0 0 0 (by omega), h00]
    · show Rel (up ρ 79 2 (ι 0)) υ
      revert w0 w41 w1 w2
      generalize up ρ 79 2 (ι 0) = ω
      intro w0 w41 w1 w2
      have u1 : υ 1 = τ 1 := funext fun j => t0 1 j (by omega)
      have u5 : υ 5 = τ 5 := funext fun j => t0 5 j (by omega)
      have u7 : υ 7 = τ 7 := funext fun j => t0 7 j (by omega)
      have u9 : υ 9 = τ 9 := funext fun j => t0 9 j (by omega)
      have u11 : υ 11 = τ 11 := funext fun j => t0 11 j (by omega)
      refine ⟨k, n, ⟨by rw [u1]; exact hQ, by rw [t0 0 3 (by omega)]; exact r2, ?_, Or.inr ⟨?_, ?_, ?_⟩, ?_, ?_, ?_, ?_, ?_⟩, ?_⟩
      · obtain ⟨nx, nh, g1, g2, g3, g4, g5, g6⟩ := r3
        exact ⟨nx, 0, g1, by omega, by rw [w1]; exact g3, w2, t10, fun i hi => by omega⟩
      · rw [w0 0 (by omega) (by omega)]; exact h1
      · rw [t0 0 10 (by omega)]; exact h2
      · rw [u1, u5]; exact CS_c hn h3 (fun j h1 h2 => w0 j (by omega) (by omega)) (fun _ _ => rfl)
      · unfold IR; rw [w0 33 (by omega) (by omega), w0 34 (by omega) (by omega), t0 0 12 (by omega), u7]; exact r5
      · unfold FR; rw [w0 35 (by omega) (by omega), w0 36 (by omega) (by omega), t0 0 20 (by omega), u9]; exact r6
      · unfold Tx; rw [w0 37 (by omega) (by omega)]; exact r7
      · unfold Tx; rw [w0 39 (by omega) (by omega)]; exact r8
      · unfold Ro; rw [u11]; exact r9
      · rw [u1]; exact CS_c hn r (fun j h1 h2 => w41 j (by omega) (by omega)) t5
