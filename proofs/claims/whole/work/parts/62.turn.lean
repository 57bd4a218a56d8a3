/-! PURE PART: turns -/
theorem lg_lt (a b : Int64) : (lg_cmp a b < 0) = (a.toInt < b.toInt) := by
  unfold lg_cmp
  by_cases h1 : a > b
  · have z1 : ¬ ((1 : Int32) < 0) := by decide
    rw [if_pos h1]
    have h1 : b < a := h1
    rw [Int64.lt_iff_toInt_lt] at h1
    exact propext ⟨fun z => (z1 z).elim, fun z => by omega⟩
  · rw [if_neg h1]
    have h1 : ¬ b < a := h1
    rw [Int64.lt_iff_toInt_lt] at h1
    by_cases h2 : a = b
    · rw [if_pos h2]
      have z1 : ¬ ((0 : Int32) < 0) := by decide
      subst h2
      exact propext ⟨fun z => (z1 z).elim, fun z => by omega⟩
    · rw [if_neg h2]
      have z1 : ((-1 : Int32) < 0) := by decide
      rw [← Int64.toInt_inj] at h2
      exact propext ⟨fun _ => by omega, fun _ => z1⟩
theorem lg_gt (a b : Int64) : (0 < lg_cmp a b) = (b.toInt < a.toInt) := by
  unfold lg_cmp
  by_cases h1 : a > b
  · have z1 : ((0 : Int32) < 1) := by decide
    rw [if_pos h1]
    have h1 : b < a := h1
    rw [Int64.lt_iff_toInt_lt] at h1
    exact propext ⟨fun _ => h1, fun _ => z1⟩
  · rw [if_neg h1]
    have h1 : ¬ b < a := h1
    rw [Int64.lt_iff_toInt_lt] at h1
    have z1 : ¬ ((0 : Int32) < 0) := by decide
    have z2 : ¬ ((0 : Int32) < -1) := by decide
    by_cases h2 : a = b
    · rw [if_pos h2]
      exact propext ⟨fun z => (z1 z).elim, fun z => (h1 z).elim⟩
    · rw [if_neg h2]
      exact propext ⟨fun z => (z2 z).elim, fun z => (h1 z).elim⟩
theorem fo_l {F : Nat → Int32} {v : Nat} (hl : ln (v + 1 + 1) = 10) : ∀ m n i (σ : Mem), σ v 1 = ι 10 → 1 ≤ i → i + m = 10 → m < n → fX9_forgetOldest_l2 v n (ι i) σ = some (ι 10, fun k j => if k = v + 1 + 1 ∧ i ≤ j + 1 ∧ j < 9 then σ (v + 1 + 1) (j + 1) else σ k j) := by
  intro m
  induction m with
  | zero =>
    intro n i σ hv h1 h hn
    obtain ⟨n, rfl⟩ : ∃ k, n = k + 1 := ⟨n - 1, by omega⟩
    rw [fX9_forgetOldest_l2]
    have e : i = 10 := by omega
    subst e
    simp (disch := omega) only [l_0, l_1, l_2, l_3, l_4, l_5, l_6, l_7, l_8, l_9, l_10, l_12, l_13, l_24, l_31, l_32, l_40, l_41, l_42, l_44, l_45, l_48, l_49, l_50, l_57, l_59, l_60, l_65, l_88, l_89, l_97, l_98, l_99, l_100, l_105, l_108, l_109, l_114, l_118, l_120, l_122, l_144, l_255, l_269, l_279, l_339, l_400, l_600, l_999, l_1000, l_2373, l_2712, ι_lt, ι_le, ι_eq, ι_add, ι_mul, ι_sub, ι_div, ι_n, ι_m1, m1_ι, m1_lt, m1_le, lt_m1, le_m1, m1_lt_m1, m1_le_m1, m1_add1, neg_ι1, ι_addm, ι_addn, Bool.false_eq_true, Nat.not_lt_zero, Nat.add_zero, Nat.zero_add, Nat.mul_zero, Nat.reduceMul, Nat.reduceAdd, Nat.reduceSub, Nat.reduceLT, Nat.reduceLeDiff, Nat.reduceEqDiff, Nat.reduceDiv, Nat.reduceBEq, Nat.reduceBNe, false_or, or_false, true_or, or_true, and_true, true_and, false_and, and_false, not_false_eq_true, not_true_eq_false, if_true, if_false, if_pos, if_neg, Option.bind_some, ite_false, ite_true, eq_self, reduceIte, hv, Nat.le_refl]
  | succ m ih =>
    intro n i σ hv h1 h hn
    obtain ⟨n, rfl⟩ : ∃ k, n = k + 1 := ⟨n - 1, by omega⟩
    rw [fX9_forgetOldest_l2, c_at hl (by omega) (by omega)]
    simp (disch := omega) only [l_0, l_1, l_2, l_3, l_4, l_5, l_6, l_7, l_8, l_9, l_10, l_12, l_13, l_24, l_31, l_32, l_40, l_41, l_42, l_44, l_45, l_48, l_49, l_50, l_57, l_59, l_60, l_65, l_88, l_89, l_97, l_98, l_99, l_100, l_105, l_108, l_109, l_114, l_118, l_120, l_122, l_144, l_255, l_269, l_279, l_339, l_400, l_600, l_999, l_1000, l_2373, l_2712, ι_lt, ι_le, ι_eq, ι_add, ι_mul, ι_sub, ι_div, ι_n, ι_m1, m1_ι, m1_lt, m1_le, lt_m1, le_m1, m1_lt_m1, m1_le_m1, m1_add1, neg_ι1, ι_addm, ι_addn, Bool.false_eq_true, Nat.not_lt_zero, Nat.add_zero, Nat.zero_add, Nat.mul_zero, Nat.reduceMul, Nat.reduceAdd, Nat.reduceSub, Nat.reduceLT, Nat.reduceLeDiff, Nat.reduceEqDiff, Nat.reduceDiv, Nat.reduceBEq, Nat.reduceBNe, false_or, or_false, true_or, or_true, and_true, true_and, false_and, and_false, not_false_eq_true, not_true_eq_false, if_true, if_false, if_pos, if_neg, Option.bind_some, ite_false, ite_true, eq_self, reduceIte, hv, c_put hl (show 10 ≤ 600 by omega) (show i - 1 < 10 by omega)]
    rw [ih _ _ _ (by simp (disch := omega) only [up_e, up_j, up_k, Nat.reduceAdd, Nat.add_zero]; exact hv) (by omega) (by omega) (by omega)]
    refine congrArg some (Prod.ext rfl (funext fun k => funext fun j => ?_))
    show (if _ then _ else _) = (if _ then _ else _)
    simp only [up_g]
    by_cases hk : k = v + 1 + 1
    · subst hk
      by_cases h1 : j = i - 1
      · subst h1
        rw [if_neg (by omega), if_pos ⟨rfl, rfl⟩, if_pos (by omega)]
        congr 1; omega
      · by_cases h2 : i ≤ j + 1 ∧ j < 9
        · rw [if_pos (by omega), if_neg (by omega), if_pos (by omega)]
        · rw [if_neg (by omega), if_neg (by omega), if_neg (by omega)]
    · rw [if_neg (by omega), if_neg (by omega), if_neg (by omega)]
/-- the trail after a step on -/
def tr' (F : Nat → Int32) (t i : Nat) : Int32 := if t = 10 then (if i = 9 then F 3 else F (269 + (i + 1))) else (if i = t then F 3 else F (269 + i))
def tn (t : Nat) : Nat := if t = 10 then 10 else t + 1
theorem c_leave {σ : Mem} {t : Nat} {F : Nat → Int32} (ht : t ≤ 10) (hW : WR σ 69 t F) (x : Int32) : ∃ ρ, fX9_leaveFor 69 x σ = some ρ ∧ (∀ j, j ≠ 69 → j ≠ 71 → ρ j = σ j) ∧ ρ 69 1 = ι (tn t) ∧ ρ 69 2 = x ∧ ∀ i, i < tn t → ρ 71 i = tr' F t i := by
  obtain ⟨hl, h1, h2, h3⟩ := hW
  unfold fX9_leaveFor tn tr'
  by_cases h : t = 10
  · subst h
    unfold fX9_forgetOldest
    rw [h1, l_10, if_pos rfl, l_1, fo_l (F := F) hl 9 FU 1 σ h1 (by omega) (by omega) (by unfold FU; omega), Option.bind_some, Option.bind_some]
    unfold fX9_leaveFor_j13
    have hp : ∀ (ω : Mem) (y : Int32), fX3_put 70 (ι 9) y ω = some (up ω 71 9 y) := fun ω y => c_put (o := 70) hl (show 10 ≤ 600 by omega) (show 9 < 10 by omega)
    simp (disch := omega) only [l_0, l_1, l_2, l_3, l_4, l_5, l_6, l_7, l_8, l_9, l_10, l_12, l_13, l_24, l_31, l_32, l_40, l_41, l_42, l_44, l_45, l_48, l_49, l_50, l_57, l_59, l_60, l_65, l_88, l_89, l_97, l_98, l_99, l_100, l_105, l_108, l_109, l_114, l_118, l_120, l_122, l_144, l_255, l_269, l_279, l_339, l_400, l_600, l_999, l_1000, l_2373, l_2712, ι_lt, ι_le, ι_eq, ι_add, ι_mul, ι_sub, ι_div, ι_n, ι_m1, m1_ι, m1_lt, m1_le, lt_m1, le_m1, m1_lt_m1, m1_le_m1, m1_add1, neg_ι1, ι_addm, ι_addn, Bool.false_eq_true, Nat.not_lt_zero, Nat.add_zero, Nat.zero_add, Nat.mul_zero, Nat.reduceMul, Nat.reduceAdd, Nat.reduceSub, Nat.reduceLT, Nat.reduceLeDiff, Nat.reduceEqDiff, Nat.reduceDiv, Nat.reduceBEq, Nat.reduceBNe, false_or, or_false, true_or, or_true, and_true, true_and, false_and, and_false, not_false_eq_true, not_true_eq_false, if_true, if_false, if_pos, if_neg, Option.bind_some, ite_false, ite_true, eq_self, reduceIte, up_e, up_j, h1, h2, hp]
    refine ⟨_, rfl, fun j j1 j2 => ?_, ?_, ?_, fun i hi => ?_⟩
    · simp (disch := omega) only [up_e, up_j, up_k, Nat.reduceAdd, Nat.add_zero]
      funext i
      simp (disch := omega) only [if_pos, if_neg, true_and, and_true, false_and, and_false, if_true, if_false, reduceIte]
    · simp (disch := omega) only [up_e, up_j, up_k, Nat.reduceAdd, Nat.add_zero]; rfl
    · simp (disch := omega) only [up_e, up_j, up_k, Nat.reduceAdd, Nat.add_zero]
    · by_cases h9 : i = 9
      · subst h9; simp (disch := omega) only [up_e, up_j, up_k, Nat.reduceAdd, Nat.add_zero, if_pos, if_neg, true_and, and_true, false_and, and_false, if_true, if_false, reduceIte]
      · simp (disch := omega) only [up_e, up_j, up_k, Nat.reduceAdd, Nat.add_zero, if_pos, if_neg, true_and, and_true, false_and, and_false, if_true, if_false, reduceIte]
        exact h3 (i + 1) (by omega)
  · rw [h1, if_neg (by rw [l_10, ι_eq (by omega) (by omega)]; exact h)]
    unfold fX9_leaveFor_j13
    rw [h1, c_put hl (by omega) (by omega), Option.bind_some]
    refine ⟨_, rfl, fun j j1 j2 => ?_, ?_, ?_, fun i hi => ?_⟩
    · simp (disch := omega) only [up_e, up_j, up_k, Nat.reduceAdd, Nat.add_zero]
    · simp (disch := omega) only [up_e, up_j, up_k, Nat.reduceAdd, Nat.add_zero, h1, l_0, l_1, l_2, l_3, l_4, l_5, l_6, l_7, l_8, l_9, l_10, l_12, l_13, l_24, l_31, l_32, l_40, l_41, l_42, l_44, l_45, l_48, l_49, l_50, l_57, l_59, l_60, l_65, l_88, l_89, l_97, l_98, l_99, l_100, l_105, l_108, l_109, l_114, l_118, l_120, l_122, l_144, l_255, l_269, l_279, l_339, l_400, l_600, l_999, l_1000, l_2373, l_2712, ι_lt, ι_le, ι_eq, ι_add, ι_mul, ι_sub, ι_div, ι_n, ι_m1, m1_ι, m1_lt, m1_le, lt_m1, le_m1, m1_lt_m1, m1_le_m1, m1_add1, neg_ι1, ι_addm, ι_addn, Bool.false_eq_true, Nat.not_lt_zero, Nat.add_zero, Nat.zero_add, Nat.mul_zero, Nat.reduceMul, Nat.reduceAdd, Nat.reduceSub, Nat.reduceLT, Nat.reduceLeDiff, Nat.reduceEqDiff, Nat.reduceDiv, Nat.reduceBEq, Nat.reduceBNe, false_or, or_false, true_or, or_true, and_true, true_and, false_and, and_false, not_false_eq_true, not_true_eq_false, if_true, if_false, if_pos, if_neg, Option.bind_some, ite_false, ite_true, eq_self, reduceIte]
    · simp (disch := omega) only [up_e, up_j, up_k, Nat.reduceAdd, Nat.add_zero]
    · rw [if_neg h] at hi
      by_cases h9 : i = t
      · subst h9; simp (disch := omega) only [up_e, up_j, up_k, Nat.reduceAdd, Nat.add_zero, if_pos, if_neg, true_and, and_true, false_and, and_false, if_true, if_false, reduceIte]; exact h2
      · simp (disch := omega) only [up_e, up_j, up_k, Nat.reduceAdd, Nat.add_zero, if_pos, if_neg, true_and, and_true, false_and, and_false, if_true, if_false, reduceIte]
        exact h3 i (by omega)
theorem vg_l {x : Int32} : ∀ m n i (τ : Mem), 1 ≤ i → i + m = 10 → m < n → fX12_viewGoes_l13 x n (ι i) τ = some (ι 10, fun k j => if k = 3 ∧ 268 + i ≤ j ∧ j < 278 then τ 3 (j + 1) else τ k j) := by
  intro m
  induction m with
  | zero =>
    intro n i σ h1 h hn
    obtain ⟨n, rfl⟩ : ∃ k, n = k + 1 := ⟨n - 1, by omega⟩
    rw [fX12_viewGoes_l13]
    have e : i = 10 := by omega
    subst e
    simp (disch := omega) only [l_0, l_1, l_2, l_3, l_4, l_5, l_6, l_7, l_8, l_9, l_10, l_12, l_13, l_24, l_31, l_32, l_40, l_41, l_42, l_44, l_45, l_48, l_49, l_50, l_57, l_59, l_60, l_65, l_88, l_89, l_97, l_98, l_99, l_100, l_105, l_108, l_109, l_114, l_118, l_120, l_122, l_144, l_255, l_269, l_279, l_339, l_400, l_600, l_999, l_1000, l_2373, l_2712, ι_lt, ι_le, ι_eq, ι_add, ι_mul, ι_sub, ι_div, ι_n, ι_m1, m1_ι, m1_lt, m1_le, lt_m1, le_m1, m1_lt_m1, m1_le_m1, m1_add1, neg_ι1, ι_addm, ι_addn, Bool.false_eq_true, Nat.not_lt_zero, Nat.add_zero, Nat.zero_add, Nat.mul_zero, Nat.reduceMul, Nat.reduceAdd, Nat.reduceSub, Nat.reduceLT, Nat.reduceLeDiff, Nat.reduceEqDiff, Nat.reduceDiv, Nat.reduceBEq, Nat.reduceBNe, false_or, or_false, true_or, or_true, and_true, true_and, false_and, and_false, not_false_eq_true, not_true_eq_false, if_true, if_false, if_pos, if_neg, Option.bind_some, ite_false, ite_true, eq_self, reduceIte, lm_0, lm_1, lm_2, lm_3, lm_4, lm_5, lm_6, lm_7, lm_8, lm_9, lm_10, lm_11, lm_12, lm_13, lm_14, lm_15, lm_16, lm_17, Nat.le_refl]
  | succ m ih =>
    intro n i σ h1 h hn
    obtain ⟨n, rfl⟩ : ∃ k, n = k + 1 := ⟨n - 1, by omega⟩
    rw [fX12_viewGoes_l13]
    simp (disch := omega) only [l_0, l_1, l_2, l_3, l_4, l_5, l_6, l_7, l_8, l_9, l_10, l_12, l_13, l_24, l_31, l_32, l_40, l_41, l_42, l_44, l_45, l_48, l_49, l_50, l_57, l_59, l_60, l_65, l_88, l_89, l_97, l_98, l_99, l_100, l_105, l_108, l_109, l_114, l_118, l_120, l_122, l_144, l_255, l_269, l_279, l_339, l_400, l_600, l_999, l_1000, l_2373, l_2712, ι_lt, ι_le, ι_eq, ι_add, ι_mul, ι_sub, ι_div, ι_n, ι_m1, m1_ι, m1_lt, m1_le, lt_m1, le_m1, m1_lt_m1, m1_le_m1, m1_add1, neg_ι1, ι_addm, ι_addn, Bool.false_eq_true, Nat.not_lt_zero, Nat.add_zero, Nat.zero_add, Nat.mul_zero, Nat.reduceMul, Nat.reduceAdd, Nat.reduceSub, Nat.reduceLT, Nat.reduceLeDiff, Nat.reduceEqDiff, Nat.reduceDiv, Nat.reduceBEq, Nat.reduceBNe, false_or, or_false, true_or, or_true, and_true, true_and, false_and, and_false, not_false_eq_true, not_true_eq_false, if_true, if_false, if_pos, if_neg, Option.bind_some, ite_false, ite_true, eq_self, reduceIte, lm_0, lm_1, lm_2, lm_3, lm_4, lm_5, lm_6, lm_7, lm_8, lm_9, lm_10, lm_11, lm_12, lm_13, lm_14, lm_15, lm_16, lm_17]
    rw [ih _ _ _ (by omega) (by omega) (by omega)]
    refine congrArg some (Prod.ext rfl (funext fun k => funext fun j => ?_))
    show (if _ then _ else _) = (if _ then _ else _)
    simp only [up_g]
    by_cases hk : k = 3
    · subst hk
      by_cases h1 : j = 269 + i - 1
      · subst h1
        rw [if_neg (by omega), if_pos ⟨rfl, rfl⟩, if_pos (by omega)]
        congr 1; omega
      · by_cases h2 : 268 + i ≤ j ∧ j < 278
        · rw [if_pos (by omega), if_neg (by omega), if_pos (by omega)]
        · rw [if_neg (by omega), if_neg (by omega), if_neg (by omega)]
    · rw [if_neg (by omega), if_neg (by omega), if_neg (by omega)]
theorem r_goes {τ : Mem} {t : Nat} (ht : t ≤ 10) (h4 : τ 3 4 = ι t) (x : Int32) : ∃ υ, fX12_viewGoes x τ = some υ ∧ (∀ k j, ¬ (k = 3 ∧ (j = 3 ∨ j = 4 ∨ (269 ≤ j ∧ j < 279))) → υ k j = τ k j) ∧ υ 3 4 = ι (tn t) ∧ υ 3 3 = x ∧ ∀ i, i < tn t → υ 3 (269 + i) = tr' (τ 3) t i := by
  unfold fX12_viewGoes tn tr'
  have e4 : ¬ ((4 : Int32) < 0 ∨ lm 3 ≤ (4 : Int32).toNatClampNeg) := by decide
  have e4' : τ 3 (4 : Int32).toNatClampNeg = ι t := h4
  rw [if_neg e4, e4']
  by_cases h : t = 10
  · subst h
    rw [l_10, if_pos rfl, l_1, vg_l 9 FU 1 τ (by omega) (by omega) (by unfold FU; omega), Option.bind_some]
    unfold fX12_viewGoes_j57
    have h4' : (if ((3 : Nat) = 3 ∧ 268 + 1 ≤ 4 ∧ 4 < 278) then τ 3 (4 + 1) else τ 3 4) = ι 10 := by rw [if_neg (by omega)]; exact h4
    have h3' : (if ((3 : Nat) = 3 ∧ 268 + 1 ≤ 3 ∧ 3 < 278) then τ 3 (3 + 1) else τ 3 3) = τ 3 3 := by rw [if_neg (by omega)]
    simp (disch := omega) only [l_0, l_1, l_2, l_3, l_4, l_5, l_6, l_7, l_8, l_9, l_10, l_12, l_13, l_24, l_31, l_32, l_40, l_41, l_42, l_44, l_45, l_48, l_49, l_50, l_57, l_59, l_60, l_65, l_88, l_89, l_97, l_98, l_99, l_100, l_105, l_108, l_109, l_114, l_118, l_120, l_122, l_144, l_255, l_269, l_279, l_339, l_400, l_600, l_999, l_1000, l_2373, l_2712, ι_lt, ι_le, ι_eq, ι_add, ι_mul, ι_sub, ι_div, ι_n, ι_m1, m1_ι, m1_lt, m1_le, lt_m1, le_m1, m1_lt_m1, m1_le_m1, m1_add1, neg_ι1, ι_addm, ι_addn, Bool.false_eq_true, Nat.not_lt_zero, Nat.add_zero, Nat.zero_add, Nat.mul_zero, Nat.reduceMul, Nat.reduceAdd, Nat.reduceSub, Nat.reduceLT, Nat.reduceLeDiff, Nat.reduceEqDiff, Nat.reduceDiv, Nat.reduceBEq, Nat.reduceBNe, false_or, or_false, true_or, or_true, and_true, true_and, false_and, and_false, not_false_eq_true, not_true_eq_false, if_true, if_false, if_pos, if_neg, Option.bind_some, ite_false, ite_true, eq_self, reduceIte, lm_0, lm_1, lm_2, lm_3, lm_4, lm_5, lm_6, lm_7, lm_8, lm_9, lm_10, lm_11, lm_12, lm_13, lm_14, lm_15, lm_16, lm_17, up_e, up_j, h4, h4', h3']
    refine ⟨_, rfl, fun k j hk => ?_, ?_, ?_, fun i hi => ?_⟩
    · simp (disch := omega) only [up_g, if_pos, if_neg, true_and, and_true, false_and, and_false, if_true, if_false, reduceIte]
    · simp (disch := omega) only [up_g, if_pos, if_neg, true_and, and_true, false_and, and_false, if_true, if_false, reduceIte]
    · simp (disch := omega) only [up_g, if_pos, if_neg, true_and, and_true, false_and, and_false, if_true, if_false, reduceIte]
    · by_cases h9 : i = 9
      · subst h9; simp (disch := omega) only [up_g, if_pos, if_neg, true_and, and_true, false_and, and_false, if_true, if_false, reduceIte]
      · simp (disch := omega) only [up_g, if_pos, if_neg, true_and, and_true, false_and, and_false, if_true, if_false, reduceIte, Nat.add_assoc]
  · rw [if_neg (by rw [l_10, ι_eq (by omega) (by omega)]; exact h)]
    unfold fX12_viewGoes_j57
    simp (disch := omega) only [l_0, l_1, l_2, l_3, l_4, l_5, l_6, l_7, l_8, l_9, l_10, l_12, l_13, l_24, l_31, l_32, l_40, l_41, l_42, l_44, l_45, l_48, l_49, l_50, l_57, l_59, l_60, l_65, l_88, l_89, l_97, l_98, l_99, l_100, l_105, l_108, l_109, l_114, l_118, l_120, l_122, l_144, l_255, l_269, l_279, l_339, l_400, l_600, l_999, l_1000, l_2373, l_2712, ι_lt, ι_le, ι_eq, ι_add, ι_mul, ι_sub, ι_div, ι_n, ι_m1, m1_ι, m1_lt, m1_le, lt_m1, le_m1, m1_lt_m1, m1_le_m1, m1_add1, neg_ι1, ι_addm, ι_addn, Bool.false_eq_true, Nat.not_lt_zero, Nat.add_zero, Nat.zero_add, Nat.mul_zero, Nat.reduceMul, Nat.reduceAdd, Nat.reduceSub, Nat.reduceLT, Nat.reduceLeDiff, Nat.reduceEqDiff, Nat.reduceDiv, Nat.reduceBEq, Nat.reduceBNe, false_or, or_false, true_or, or_true, and_true, true_and, false_and, and_false, not_false_eq_true, not_true_eq_false, if_true, if_false, if_pos, if_neg, Option.bind_some, ite_false, ite_true, eq_self, reduceIte, lm_0, lm_1, lm_2, lm_3, lm_4, lm_5, lm_6, lm_7, lm_8, lm_9, lm_10, lm_11, lm_12, lm_13, lm_14, lm_15, lm_16, lm_17, up_e, up_j, up_k, Nat.reduceAdd, Nat.add_zero, h4]
    refine ⟨_, rfl, fun k j hk => ?_, ?_, ?_, fun i hi => ?_⟩
    · simp (disch := omega) only [up_g, if_pos, if_neg, true_and, and_true, false_and, and_false, if_true, if_false, reduceIte]
    · simp (disch := omega) only [up_e, up_j, up_k, Nat.reduceAdd, Nat.add_zero]
    · simp (disch := omega) only [up_e, up_j, up_k, Nat.reduceAdd, Nat.add_zero]
    · by_cases h9 : i = t
      · subst h9; simp (disch := omega) only [up_e, up_j, up_k, Nat.reduceAdd, Nat.add_zero, if_pos, if_neg, true_and, and_true, false_and, and_false, if_true, if_false, reduceIte]
      · simp (disch := omega) only [up_e, up_j, up_k, Nat.reduceAdd, Nat.add_zero, if_pos, if_neg, true_and, and_true, false_and, and_false, if_true, if_false, reduceIte]
theorem view_RO {σ τ : Mem} {k n a b d t : Nat} (hO : RO σ τ k n a b d t) (x : Int32) : ∃ ρ υ, fX9_leaveFor 69 x σ = some ρ ∧ fX12_viewGoes x τ = some υ ∧ ρ 69 2 = x ∧ υ 3 3 = x ∧ υ 0 0 = τ 0 0 ∧ Rel ρ υ := by
  obtain ⟨hr, hF, hV, hL, hC, hW⟩ := hO
  have hn := hr.1.2.2.2.2
  obtain ⟨f1, f2, f3, f4, f5, f6, f7, f8, f9, f10, f11, f12⟩ := hF
  obtain ⟨ρ, a1, a2, a3, a4, a5⟩ := c_leave f11 hW x
  obtain ⟨υ, b1, b2, b3, b4, b5⟩ := r_goes f11 f10 x
  have eF : ∀ j, j ≠ 3 → j ≠ 4 → (j < 269 ∨ 279 ≤ j) → υ 3 j = τ 3 j := fun j h1 h2 h3 => b2 3 j (by omega)
  have u1 : υ 1 = τ 1 := funext fun j => b2 1 j (by omega)
  refine ⟨ρ, υ, a1, b1, a4, b4, b2 0 0 (by omega), Rel_close (k := k) (n := n) (a := a) (b := b) (d := d) (t := tn t) (Rest_up hr (fun j hj => a2 j (by omega) (by omega)) (fun k j hk => b2 k j (by omega))) ⟨?_, f2, fun s hs => SlI_e (by omega) (f3 s hs) (fun j h1 h2 => eF j (by omega) (by omega) (by omega)), ?_, f5, fun s hs => RgI_e (by omega) (f6 s hs) (fun j h1 h2 => eF j (by omega) (by omega) (by omega)), ?_, f8, fun s hs => ScI_e (by omega) (f9 s hs) (fun j h1 h2 => eF j (by omega) (by omega) (by omega)), b3, by unfold tn; split <;> omega, fun j hj => ?_⟩ ?_ ?_ ?_ ?_⟩
  · exact (eF 0 (by omega) (by omega) (by omega)).trans f1
  · exact (eF 1 (by omega) (by omega) (by omega)).trans f4
  · exact (eF 2 (by omega) (by omega) (by omega)).trans f7
  · rw [eF _ (by omega) (by omega) (by omega)]; exact f12 j hj
  · rw [u1]; exact VR_e hn f2 hV (fun j hj => a2 _ (by omega) (by omega)) (fun j h1 h2 => eF j (by omega) (by omega) (by omega)) (fun j h1 h2 => eF j (by omega) (by omega) (by omega))
  · exact LR_e f5 hL (fun j hj => a2 _ (by omega) (by omega)) (fun j h1 h2 => eF j (by omega) (by omega) (by omega))
  · exact CR_e f8 hC (fun j hj => a2 _ (by omega) (by omega)) (fun j h1 h2 => eF j (by omega) (by omega) (by omega))
  · exact ⟨hW.1, a3, a4.trans b4.symm, fun i hi => (a5 i hi).trans (b5 i hi).symm⟩
theorem sim15 : Sim15 Rel := by
  intro σ τ x1 hR
  replace hR := Rel_0 hR 0
  unfold fX12_turn fX11_turn fX12_isIn
  have h00 : up τ 0 0 0 0 0 = 0 := up_e _ _ _ _
  generalize up τ 0 0 (0 : Int32) = τ at *
  obtain ⟨k, n, a, b, d, t, hO⟩ := RO_of hR
  have hO' := hO
  obtain ⟨hr, hF, hV, hL, hC, hW⟩ := hO
  have hn := hr.1.2.2.2.2
  have hcf := cf_le (pB (τ 3)) n 0
  by_cases h0 : x1 = 0
  · rw [if_pos h0, if_pos h0, ref_fails]
    exact ⟨_, _, 1, rfl, rfl, Or.inr (Or.inl ⟨rfl, rfl⟩), fun v hv => (by cases hv), z_bad, Rel_0 hR _⟩
  rw [if_neg h0, if_neg h0]
  have e3 : ¬ ((3 : Int32) < 0 ∨ lm 3 ≤ (3 : Int32).toNatClampNeg) := by decide
  have e3' : ∀ ω : Mem, ω 3 (3 : Int32).toNatClampNeg = ω 3 3 := fun _ => rfl
  have ej : (0 : Int64).toInt = 0 := rfl
  unfold fX9_current
  simp only [if_neg e3, e3', Nat.zero_add, hW.2.2.1, Option.bind_some, c_openings hn hV, r_openings hr.1 hr.2.1, lg_lt, lg_gt, ej, Int32.toInt_toInt64, l_1, ι_sub (show 1 ≤ cf (pB (τ 3)) 0 n + 1 by omega), Nat.add_sub_cancel, ι_toInt (show cf (pB (τ 3)) 0 n < 2147483648 by omega), ι_toInt (show cf (pB (τ 3)) 0 n + 1 < 2147483648 by omega)]
  generalize hw : (τ 3 3).toInt64 + x1.toInt64 = w
  have e10 : ¬ (ι 1 = (0 : Int32)) := by decide
  by_cases h1 : w.toInt < 0
  · simp only [if_pos h1, Option.bind_some, if_true, ref_fails]
    exact ⟨_, _, 2, rfl, rfl, Or.inr (Or.inr ⟨rfl, rfl⟩), fun v hv => (by cases hv), z_bad, Rel_0 hR _⟩
  · simp only [if_neg h1]
    by_cases h2 : w.toInt < ((cf (pB (τ 3)) 0 n + 1 : Nat) : Int)
    · have h2' : ¬ ((cf (pB (τ 3)) 0 n : Nat) : Int) < w.toInt := by omega
      obtain ⟨ρ, υ, e1, e2, hO2, u1, u2⟩ := keep_RO hO'
      obtain ⟨ρ', υ', a1, a2, a3, a4, a5, a6⟩ := view_RO hO2 w.toInt32
      simp only [if_pos h2, if_neg h2', Option.bind_some, if_neg e10, e1, e2, a1, a2, a3, a4]
      exact ⟨_, _, 0, rfl, rfl, Or.inl ⟨_, rfl, rfl⟩, fun v hv => (by cases hv; rfl), (a5.trans (u2 0 0 (by omega))).trans h00, a6⟩
    · have h2' : ((cf (pB (τ 3)) 0 n : Nat) : Int) < w.toInt := by omega
      simp only [if_neg h2, if_pos h2', Option.bind_some, if_true, ref_fails]
      exact ⟨_, _, 2, rfl, rfl, Or.inr (Or.inr ⟨rfl, rfl⟩), fun v hv => (by cases hv), z_bad, Rel_0 hR _⟩
