/-! PURE PART: what is read -/
def QP (q : Nat → Int32) (k n : Nat) : Prop := k ≤ 8 ∧ (∀ i, i < k → q i = ι (qN q i) ∧ 1 ≤ qN q i ∧ qN q i ≤ 12) ∧ sm (qN q) 0 k = n ∧ n ≤ 60
def DR (σ τ : Mem) (k n a b : Nat) : Prop := QP (τ 2) k n ∧ τ 0 4 = ι k ∧ FI n a b 0 0 (τ 4) ∧ VR σ 3 (τ 2) k n a (τ 4) ∧ LR σ 14 b (τ 4) ∧ (σ 23 3 = ι 0 ∧ σ 30 1 = ι 0 ∧ σ 30 2 = ι 0 ∧ τ 4 3 = ι 0) ∧ (∀ i, n ≤ i → i < 60 → τ 4 (279 + i) = ι 0)
theorem DR_c {σ τ ρ υ : Mem} {k n a b : Nat} (h : DR σ τ k n a b) (hσ : ∀ j, 3 ≤ j → j ≤ 32 → ρ j = σ j) (h2 : υ 2 = τ 2) (h4 : υ 4 = τ 4) (h04 : υ 0 4 = τ 0 4) : DR ρ υ k n a b := by
  obtain ⟨d1, d2, d3, d4, d5, ⟨d6, d7, d8, d9⟩, d10⟩ := h
  unfold DR
  rw [h2, h4, h04, hσ 23 (by omega) (by omega), hσ 30 (by omega) (by omega)]
  exact ⟨d1, d2, d3, VR_c d1.2.2.2 d3.2.1 d4 (fun j hj => hσ _ (by omega) (by omega)) (fun _ _ => rfl), LR_c d3.2.2.2.2.1 d5 (fun j hj => hσ _ (by omega) (by omega)) (fun _ _ => rfl), ⟨d6, d7, d8, d9⟩, d10⟩
theorem QP_pos {q : Nat → Int32} {k n : Nat} (h : QP q k n) (hk : 1 ≤ k) : 1 ≤ n := by
  have h0 := h.2.1 0 (by omega)
  have h1 := sm_mono (qN q) hk
  rw [h.2.2.1] at h1
  have : sm (qN q) 0 1 = qN q 0 := by simp [sm]
  omega
theorem r_lv_l {τ : Mem} {k n : Nat} (hQ : QP (τ 2) k n) (h4 : τ 0 4 = ι k) : ∀ m n i c, i + m = k → m < n → fX12_leavesRead_l4 n (ι c) (ι i) τ = some (ι (c + sm (qN (τ 2)) i m), ι k) := by
  have hk := hQ.1
  intro m
  induction m with
  | zero =>
    intro n i c h hn
    obtain ⟨n, rfl⟩ : ∃ k, n = k + 1 := ⟨n - 1, by omega⟩
    rw [fX12_leavesRead_l4]
    have e : i = k := by omega
    rw [h4, if_pos (by rw [ι_le (by omega) (by omega)]; omega), sm, Nat.add_zero, e]
  | succ m ih =>
    intro n i c h hn
    obtain ⟨n, rfl⟩ : ∃ k, n = k + 1 := ⟨n - 1, by omega⟩
    rw [fX12_leavesRead_l4]
    have g := (hQ.2.1 i (by omega)).1
    rw [h4, if_neg (by rw [ι_le (by omega) (by omega)]; omega), if_neg (by simp (disch := omega) only [l_0, l_1, l_2, l_3, l_4, l_5, l_6, l_7, l_8, l_9, l_10, l_12, l_13, l_24, l_31, l_32, l_40, l_41, l_42, l_44, l_45, l_48, l_49, l_50, l_57, l_59, l_60, l_65, l_88, l_89, l_97, l_98, l_99, l_100, l_105, l_108, l_109, l_114, l_118, l_120, l_122, l_144, l_255, l_269, l_279, l_339, l_400, l_600, l_999, l_1000, l_2373, l_2712, ι_lt, ι_le, ι_eq, ι_add, ι_mul, ι_sub, ι_div, ι_n, ι_m1, m1_ι, m1_lt, m1_le, lt_m1, le_m1, m1_lt_m1, m1_le_m1, m1_add1, neg_ι1, ι_addm, ι_addn, Bool.false_eq_true, Nat.not_lt_zero, Nat.add_zero, Nat.zero_add, Nat.mul_zero, Nat.reduceMul, Nat.reduceAdd, Nat.reduceSub, Nat.reduceLT, Nat.reduceLeDiff, Nat.reduceEqDiff, Nat.reduceDiv, Nat.reduceBEq, Nat.reduceBNe, false_or, or_false, true_or, or_true, and_true, true_and, false_and, and_false, not_false_eq_true, not_true_eq_false, if_true, if_false, if_pos, if_neg, Option.bind_some, ite_false, ite_true, eq_self, reduceIte, lm_0, lm_1, lm_2, lm_3, lm_4, lm_5, lm_6, lm_7, lm_8, lm_9, lm_10, lm_11, lm_12, lm_13, lm_14, lm_15, lm_16, lm_17]; omega), ι_n (by omega), g, ι_add, l_1, ι_add, ih n _ _ (by omega) (by omega), sm]
    congr 3; omega
theorem r_leavesRead {τ : Mem} {k n : Nat} (hQ : QP (τ 2) k n) (h4 : τ 0 4 = ι k) : fX12_leavesRead τ = some (ι n) := by
  have hk := hQ.1
  unfold fX12_leavesRead
  rw [l_0, r_lv_l hQ h4 k FU 0 0 (by omega) (by unfold FU; omega), Option.bind_some, hQ.2.2.1, Nat.zero_add]
theorem SlI_up {n n' s : Nat} {F : Nat → Int32} (h : SlI n F s) (hn : n ≤ n') : SlI n' F s := by
  obtain ⟨h1, h2⟩ := h
  refine ⟨?_, h2⟩
  rcases h1 with z | ⟨x, y, z1, z2⟩
  · exact Or.inl z
  · exact Or.inr ⟨x, y, by omega, z2⟩
theorem RgI_up {n n' s : Nat} {F : Nat → Int32} (h : RgI n F s) (hn : n ≤ n') : RgI n' F s := by
  obtain ⟨a, b, c, d, h1, h2, h3⟩ := h
  exact ⟨a, b, c, d, h1, by omega, h3⟩
theorem c_tq {σ : Mem} {k : Nat} (h : σ 3 5 = ι k) (hk : k ≤ 8) : fX10_takesQuire 3 σ = some (if k < 8 then ι 1 else ι 0) := by
  unfold fX10_takesQuire
  rw [h, l_8, ite_le (by omega) (by omega)]
  by_cases c : 8 ≤ k
  · rw [if_pos c, if_neg (by omega)]; rfl
  · rw [if_neg c, if_pos (by omega)]; rfl
def tlB (n v : Nat) : Prop := 2 ≤ v ∧ v ≤ 12 ∧ v % 2 = 0 ∧ n + v ≤ 60
theorem c_tl {σ : Mem} {n v : Nat} (h : σ 3 6 = ι n) (hn : n ≤ 60) (hv : v < 10000) (ht : tlB n v) : fX10_takesLeaves 3 (ι v) σ = some (ι 1) := by
  obtain ⟨t1, t2, t3, t4⟩ := ht
  unfold fX10_takesLeaves
  rw [h]
  simp (disch := omega) only [l_0, l_1, l_2, l_3, l_4, l_5, l_6, l_7, l_8, l_9, l_10, l_12, l_13, l_24, l_31, l_32, l_40, l_41, l_42, l_44, l_45, l_48, l_49, l_50, l_57, l_59, l_60, l_65, l_88, l_89, l_97, l_98, l_99, l_100, l_105, l_108, l_109, l_114, l_118, l_120, l_122, l_144, l_255, l_269, l_279, l_339, l_400, l_600, l_999, l_1000, l_2373, l_2712, ι_lt, ι_le, ι_eq, ι_add, ι_mul, ι_sub, ι_div, ι_n, ι_m1, m1_ι, m1_lt, m1_le, lt_m1, le_m1, m1_lt_m1, m1_le_m1, m1_add1, neg_ι1, ι_addm, ι_addn, Bool.false_eq_true, Nat.not_lt_zero, Nat.add_zero, Nat.zero_add, Nat.mul_zero, Nat.reduceMul, Nat.reduceAdd, Nat.reduceSub, Nat.reduceLT, Nat.reduceLeDiff, Nat.reduceEqDiff, Nat.reduceDiv, Nat.reduceBEq, Nat.reduceBNe, false_or, or_false, true_or, or_true, and_true, true_and, false_and, and_false, not_false_eq_true, not_true_eq_false, if_true, if_false, if_pos, if_neg, Option.bind_some, ite_false, ite_true, eq_self, reduceIte]
theorem c_tl_no {σ : Mem} {n v : Nat} (h : σ 3 6 = ι n) (hn : n ≤ 60) (hv : v < 10000) (ht : ¬ tlB n v) : fX10_takesLeaves 3 (ι v) σ = some (ι 0) := by
  unfold tlB at ht
  unfold fX10_takesLeaves
  rw [h]
  by_cases c1 : v < 2
  · simp (disch := omega) only [l_0, l_1, l_2, l_3, l_4, l_5, l_6, l_7, l_8, l_9, l_10, l_12, l_13, l_24, l_31, l_32, l_40, l_41, l_42, l_44, l_45, l_48, l_49, l_50, l_57, l_59, l_60, l_65, l_88, l_89, l_97, l_98, l_99, l_100, l_105, l_108, l_109, l_114, l_118, l_120, l_122, l_144, l_255, l_269, l_279, l_339, l_400, l_600, l_999, l_1000, l_2373, l_2712, ι_lt, ι_le, ι_eq, ι_add, ι_mul, ι_sub, ι_div, ι_n, ι_m1, m1_ι, m1_lt, m1_le, lt_m1, le_m1, m1_lt_m1, m1_le_m1, m1_add1, neg_ι1, ι_addm, ι_addn, Bool.false_eq_true, Nat.not_lt_zero, Nat.add_zero, Nat.zero_add, Nat.mul_zero, Nat.reduceMul, Nat.reduceAdd, Nat.reduceSub, Nat.reduceLT, Nat.reduceLeDiff, Nat.reduceEqDiff, Nat.reduceDiv, Nat.reduceBEq, Nat.reduceBNe, false_or, or_false, true_or, or_true, and_true, true_and, false_and, and_false, not_false_eq_true, not_true_eq_false, if_true, if_false, if_pos, if_neg, Option.bind_some, ite_false, ite_true, eq_self, reduceIte]
  · by_cases c2 : 12 < v
    · simp (disch := omega) only [l_0, l_1, l_2, l_3, l_4, l_5, l_6, l_7, l_8, l_9, l_10, l_12, l_13, l_24, l_31, l_32, l_40, l_41, l_42, l_44, l_45, l_48, l_49, l_50, l_57, l_59, l_60, l_65, l_88, l_89, l_97, l_98, l_99, l_100, l_105, l_108, l_109, l_114, l_118, l_120, l_122, l_144, l_255, l_269, l_279, l_339, l_400, l_600, l_999, l_1000, l_2373, l_2712, ι_lt, ι_le, ι_eq, ι_add, ι_mul, ι_sub, ι_div, ι_n, ι_m1, m1_ι, m1_lt, m1_le, lt_m1, le_m1, m1_lt_m1, m1_le_m1, m1_add1, neg_ι1, ι_addm, ι_addn, Bool.false_eq_true, Nat.not_lt_zero, Nat.add_zero, Nat.zero_add, Nat.mul_zero, Nat.reduceMul, Nat.reduceAdd, Nat.reduceSub, Nat.reduceLT, Nat.reduceLeDiff, Nat.reduceEqDiff, Nat.reduceDiv, Nat.reduceBEq, Nat.reduceBNe, false_or, or_false, true_or, or_true, and_true, true_and, false_and, and_false, not_false_eq_true, not_true_eq_false, if_true, if_false, if_pos, if_neg, Option.bind_some, ite_false, ite_true, eq_self, reduceIte]
    · by_cases c3 : v % 2 = 0
      · simp (disch := omega) only [l_0, l_1, l_2, l_3, l_4, l_5, l_6, l_7, l_8, l_9, l_10, l_12, l_13, l_24, l_31, l_32, l_40, l_41, l_42, l_44, l_45, l_48, l_49, l_50, l_57, l_59, l_60, l_65, l_88, l_89, l_97, l_98, l_99, l_100, l_105, l_108, l_109, l_114, l_118, l_120, l_122, l_144, l_255, l_269, l_279, l_339, l_400, l_600, l_999, l_1000, l_2373, l_2712, ι_lt, ι_le, ι_eq, ι_add, ι_mul, ι_sub, ι_div, ι_n, ι_m1, m1_ι, m1_lt, m1_le, lt_m1, le_m1, m1_lt_m1, m1_le_m1, m1_add1, neg_ι1, ι_addm, ι_addn, Bool.false_eq_true, Nat.not_lt_zero, Nat.add_zero, Nat.zero_add, Nat.mul_zero, Nat.reduceMul, Nat.reduceAdd, Nat.reduceSub, Nat.reduceLT, Nat.reduceLeDiff, Nat.reduceEqDiff, Nat.reduceDiv, Nat.reduceBEq, Nat.reduceBNe, false_or, or_false, true_or, or_true, and_true, true_and, false_and, and_false, not_false_eq_true, not_true_eq_false, if_true, if_false, if_pos, if_neg, Option.bind_some, ite_false, ite_true, eq_self, reduceIte]
      · simp (disch := omega) only [l_0, l_1, l_2, l_3, l_4, l_5, l_6, l_7, l_8, l_9, l_10, l_12, l_13, l_24, l_31, l_32, l_40, l_41, l_42, l_44, l_45, l_48, l_49, l_50, l_57, l_59, l_60, l_65, l_88, l_89, l_97, l_98, l_99, l_100, l_105, l_108, l_109, l_114, l_118, l_120, l_122, l_144, l_255, l_269, l_279, l_339, l_400, l_600, l_999, l_1000, l_2373, l_2712, ι_lt, ι_le, ι_eq, ι_add, ι_mul, ι_sub, ι_div, ι_n, ι_m1, m1_ι, m1_lt, m1_le, lt_m1, le_m1, m1_lt_m1, m1_le_m1, m1_add1, neg_ι1, ι_addm, ι_addn, Bool.false_eq_true, Nat.not_lt_zero, Nat.add_zero, Nat.zero_add, Nat.mul_zero, Nat.reduceMul, Nat.reduceAdd, Nat.reduceSub, Nat.reduceLT, Nat.reduceLeDiff, Nat.reduceEqDiff, Nat.reduceDiv, Nat.reduceBEq, Nat.reduceBNe, false_or, or_false, true_or, or_true, and_true, true_and, false_and, and_false, not_false_eq_true, not_true_eq_false, if_true, if_false, if_pos, if_neg, Option.bind_some, ite_false, ite_true, eq_self, reduceIte]
theorem c_tl_neg {σ : Mem} : fX10_takesLeaves 3 μ σ = some (ι 0) := by
  unfold fX10_takesLeaves
  rw [if_pos (by decide)]; rfl
theorem c_l17 {v n : Nat} (hv : n + v ≤ 60) (hl : ln (3 + 3 + 1) = 60) : ∀ d f i (σ : Mem), i + d = v → d < f → σ 3 6 = ι n → ∃ z ρ, fX10_addQuire_l17 3 (ι v) f (ι i) σ = some (z, ρ) ∧ (∀ j, n + i ≤ j → j < n + v → ρ 7 j = ι 0) ∧ ∀ k j, ¬ (k = 7 ∧ n + i ≤ j ∧ j < n + v) → ρ k j = σ k j := by
  intro d
  induction d with
  | zero =>
    intro f i σ h hf h6
    obtain ⟨f, rfl⟩ : ∃ k, f = k + 1 := ⟨f - 1, by omega⟩
    rw [fX10_addQuire_l17, if_pos (by rw [ι_le (by omega) (by omega)]; omega)]
    exact ⟨_, _, rfl, fun j h1 h2 => by omega, fun _ _ _ => rfl⟩
  | succ d ih =>
    intro f i σ h hf h6
    obtain ⟨f, rfl⟩ : ∃ k, f = k + 1 := ⟨f - 1, by omega⟩
    rw [fX10_addQuire_l17, if_neg (by rw [ι_le (by omega) (by omega)]; omega), h6, ι_add, c_put hl (by omega) (by omega), Option.bind_some, l_1, ι_add]
    obtain ⟨z, ρ, b1, b2, b3⟩ := ih f (i + 1) (up σ (3 + 3 + 1) (n + i) (0 : Int32)) (by omega) (by omega) (by rw [up_k _ _ _ _ _ (by omega)]; exact h6)
    refine ⟨z, ρ, b1, fun j h1 h2 => ?_, fun k j hk => ?_⟩
    · by_cases e : j = n + i
      · rw [b3 7 j (by omega), e]; exact up_e _ _ _ _
      · exact b2 j (by omega) h2
    · rw [b3 k j (by omega), up_g, if_neg (by omega)]
theorem quire_DR {σ τ υ : Mem} {k n a b v : Nat} (h : DR σ τ k n a b) (hk : k < 8) (ht : tlB n v) (u2 : υ 2 k = ι v) (u2' : ∀ i, i ≠ k → υ 2 i = τ 2 i) (u4 : υ 4 = τ 4) (u04 : υ 0 4 = ι (k + 1)) : ∃ ρ, fX10_addQuire 3 (ι v) σ = some ρ ∧ DR ρ υ (k + 1) (n + v) a b ∧ ∀ j, ¬ (3 ≤ j ∧ j ≤ 32) → ρ j = σ j := by
  obtain ⟨d1, d2, d3, d4, d5, ⟨d6, d7, d8, d9⟩, d10⟩ := h
  obtain ⟨q1, q2, q3, q4⟩ := d1
  have ht' := ht
  obtain ⟨t1, t2, t3, t4⟩ := ht
  obtain ⟨v0, v1, v2, v3, v4, v5, v6, v7, v8⟩ := d4
  have v0' := v0
  obtain ⟨l1, l2, l3, l4, l5⟩ := v0
  obtain ⟨z, ρ1, a1, a2, a3⟩ := c_l17 t4 l2 v FU 0 σ (by omega) (by unfold FU; omega) v2
  have a1 : fX10_addQuire_l17 3 (ι v) FU (0 : Int32) σ = some (z, ρ1) := a1
  have e5 : ρ1 3 5 = ι k := (a3 3 5 (by omega)).trans v1
  have e6 : ρ1 3 6 = ι n := (a3 3 6 (by omega)).trans v2
  have hq : ∀ i, i < k → qN (υ 2) i = qN (τ 2) i := fun i hi => by unfold qN; rw [u2' i (by omega)]
  have hqk : qN (υ 2) k = v := by unfold qN; rw [u2, nn_ι (by omega)]
  refine ⟨up (up (up ρ1 5 k (ι v)) 3 5 (ι (k + 1))) 3 6 (ι (n + v)), ?_, ?_, fun j hj => ?_⟩
  · unfold fX10_addQuire
    rw [c_tq v1 q1, Option.bind_some, if_pos hk, if_neg (by decide), c_tl v2 q4 (by omega) ht', Option.bind_some, if_neg (by decide), a1, Option.bind_some]
    show (fX3_put (3 + 1) (ρ1 3 5) (ι v) ρ1).bind _ = _
    rw [e5, c_put l1 (by omega) hk, Option.bind_some]
    have x5 : up ρ1 (3 + 1 + 1) k (ι v) 3 5 = ι k := by rw [up_k _ _ _ _ _ (by omega)]; exact e5
    have x6 : up (up ρ1 (3 + 1 + 1) k (ι v)) 3 5 (ι (k + 1)) 3 6 = ι n := by rw [up_j _ _ _ _ _ (by omega), up_k _ _ _ _ _ (by omega)]; exact e6
    rw [x5, l_1, ι_add, x6, ι_add]
  · have r3 : ∀ j, j ≠ 5 → j ≠ 6 → (up (up (up ρ1 5 k (ι v)) 3 5 (ι (k + 1))) 3 6 (ι (n + v))) 3 j = σ 3 j := fun j h1 h2 => by
      rw [up_j _ _ _ _ _ h2, up_j _ _ _ _ _ h1, up_k _ _ _ _ _ (by omega)]; exact a3 3 j (by omega)
    have rj : ∀ j, j ≠ 3 → j ≠ 5 → (up (up (up ρ1 5 k (ι v)) 3 5 (ι (k + 1))) 3 6 (ι (n + v))) j = ρ1 j := fun j h1 h2 => by
      rw [up_k _ _ _ _ _ h1, up_k _ _ _ _ _ h1, up_k _ _ _ _ _ h2]
    have rk : ∀ j, j ≠ 3 → j ≠ 5 → j ≠ 7 → (up (up (up ρ1 5 k (ι v)) 3 5 (ι (k + 1))) 3 6 (ι (n + v))) j = σ j := fun j h1 h2 h3 => by
      rw [rj j h1 h2]; exact funext fun i => a3 j i (by omega)
    have r5 : ∀ i, (up (up (up ρ1 5 k (ι v)) 3 5 (ι (k + 1))) 3 6 (ι (n + v))) 5 i = if i = k then ι v else σ 5 i := fun i => by
      rw [up_k _ _ _ _ _ (by omega), up_k _ _ _ _ _ (by omega)]
      by_cases e : i = k
      · rw [if_pos e, e, up_e]
      · rw [if_neg e, up_j _ _ _ _ _ e]; exact a3 5 i (by omega)
    have rA : (up (up (up ρ1 5 k (ι v)) 3 5 (ι (k + 1))) 3 6 (ι (n + v))) 3 5 = ι (k + 1) := by rw [up_j _ _ _ _ _ (by omega), up_e]
    have rB : (up (up (up ρ1 5 k (ι v)) 3 5 (ι (k + 1))) 3 6 (ι (n + v))) 3 6 = ι (n + v) := up_e _ _ _ _
    generalize (up (up (up ρ1 5 k (ι v)) 3 5 (ι (k + 1))) 3 6 (ι (n + v))) = ρ at *
    obtain ⟨f1, f2, f3, f4, f5, f6, f7, f8, f9, f10, f11, f12⟩ := d3
    unfold DR
    rw [u4, u04]
    refine ⟨⟨by omega, fun i hi => ?_, ?_, t4⟩, rfl, ⟨f1, f2, fun s hs => SlI_up (f3 s hs) (by omega), f4, f5, fun r hr => RgI_up (f6 r hr) (by omega), f7, f8, fun c hc => by omega, f10, f11, fun i hi => ?_⟩, ⟨v0', rA, rB, ?_, fun i hi => ?_, fun i hi => ?_, fun i hi => ?_, fun i hi => ?_, fun i hi => ?_⟩, LR_c f5 d5 (fun j hj => rk _ (by omega) (by omega) (by omega)) (fun _ _ => rfl), ⟨?_, ?_, ?_, d9⟩, fun i h1 h2 => d10 i (by omega) h2⟩
    · by_cases e : i = k
      · rw [e, hqk, u2]; exact ⟨rfl, by omega, t2⟩
      · rw [hq i (by omega), u2' i e]; exact q2 i (by omega)
    · rw [sm_last, Nat.zero_add, hqk, sm_congr k 0 (fun i _ hi => hq i (by omega)), q3]
    · by_cases e : i < n
      · exact f12 i e
      · exact Or.inl (d10 i (by omega) (by omega))
    · rw [r3 7 (by omega) (by omega)]; exact v3
    · show ρ 5 i = _
      rw [r5 i]
      by_cases e : i = k
      · rw [if_pos e, e, u2]
      · rw [if_neg e, u2' i e]; exact v4 i (by omega)
    · show ρ 7 i = _
      rw [rj 7 (by omega) (by omega)]
      by_cases e : i < n
      · rw [a3 7 i (by omega)]; exact v5 i e
      · rw [a2 i (by omega) (by omega), d10 i (by omega) (by omega)]
    · show ρ 9 i = _
      rw [rk 9 (by omega) (by omega) (by omega)]; exact v6 i hi
    · show ρ 11 i = _
      rw [rk 11 (by omega) (by omega) (by omega)]; exact v7 i hi
    · show ρ 13 i = _
      rw [rk 13 (by omega) (by omega) (by omega)]; exact v8 i hi
    · rw [rk 23 (by omega) (by omega) (by omega)]; exact d6
    · rw [rk 30 (by omega) (by omega) (by omega)]; exact d7
    · rw [rk 30 (by omega) (by omega) (by omega)]; exact d8
  · rw [up_k _ _ _ _ _ (by omega), up_k _ _ _ _ _ (by omega), up_k _ _ _ _ _ (by omega)]
    exact funext fun i => a3 j i (by omega)
theorem slip_DR {σ τ υ : Mem} {k n a b i s w : Nat} (h : DR σ τ k n a b) (ha : a < 12) (hi : i < n) (hs : s < 2) (hw : w = 1 ∨ w = 2) (u2 : υ 2 = τ 2) (u04 : υ 0 4 = τ 0 4) (g0 : υ 4 (5 + 3 * a) = ι i) (g1 : υ 4 (5 + 3 * a + 1) = ι s) (g2 : υ 4 (5 + 3 * a + 2) = ι w) (gc : υ 4 0 = ι (a + 1)) (eF : ∀ j, j ≠ 0 → j ≠ 5 + 3 * a → j ≠ 5 + 3 * a + 1 → j ≠ 5 + 3 * a + 2 → υ 4 j = τ 4 j) : ∃ ρ, fX10_addSlip 3 (ι i) (ι s) (ι w) σ = some ρ ∧ DR ρ υ k n (a + 1) b ∧ ∀ j, ¬ (3 ≤ j ∧ j ≤ 32) → ρ j = σ j := by
  obtain ⟨d1, d2, d3, d4, d5, ⟨d6, d7, d8, d9⟩, d10⟩ := h
  have hn := d1.2.2.2
  obtain ⟨v0, v1, v2, v3, v4, v5, v6, v7, v8⟩ := d4
  have v0' := v0
  obtain ⟨l1, l2, l3, l4, l5⟩ := v0
  refine ⟨up (up (up (up σ 9 a (ι i)) 11 a (ι s)) 13 a (ι w)) 3 7 (ι (a + 1)), ?_, ?_, fun j hj => ?_⟩
  · unfold fX10_addSlip fX10_takesSlip
    rw [v3]
    simp (disch := omega) only [l_0, l_1, l_2, l_3, l_4, l_5, l_6, l_7, l_8, l_9, l_10, l_12, l_13, l_24, l_31, l_32, l_40, l_41, l_42, l_44, l_45, l_48, l_49, l_50, l_57, l_59, l_60, l_65, l_88, l_89, l_97, l_98, l_99, l_100, l_105, l_108, l_109, l_114, l_118, l_120, l_122, l_144, l_255, l_269, l_279, l_339, l_400, l_600, l_999, l_1000, l_2373, l_2712, ι_lt, ι_le, ι_eq, ι_add, ι_mul, ι_sub, ι_div, ι_n, ι_m1, m1_ι, m1_lt, m1_le, lt_m1, le_m1, m1_lt_m1, m1_le_m1, m1_add1, neg_ι1, ι_addm, ι_addn, Bool.false_eq_true, Nat.not_lt_zero, Nat.add_zero, Nat.zero_add, Nat.mul_zero, Nat.reduceMul, Nat.reduceAdd, Nat.reduceSub, Nat.reduceLT, Nat.reduceLeDiff, Nat.reduceEqDiff, Nat.reduceDiv, Nat.reduceBEq, Nat.reduceBNe, false_or, or_false, true_or, or_true, and_true, true_and, false_and, and_false, not_false_eq_true, not_true_eq_false, if_true, if_false, if_pos, if_neg, Option.bind_some, ite_false, ite_true, eq_self, reduceIte]
    rw [c_put (o := 3 + 5) l3 (by omega) ha, Option.bind_some]
    have x1 : up σ (3 + 5 + 1) a (ι i) 3 7 = ι a := by rw [up_k _ _ _ _ _ (by omega)]; exact v3
    rw [x1, c_put (o := 3 + 7) l4 (by omega) ha, Option.bind_some]
    have x2 : up (up σ (3 + 5 + 1) a (ι i)) (3 + 7 + 1) a (ι s) 3 7 = ι a := by rw [up_k _ _ _ _ _ (by omega)]; exact x1
    rw [x2, c_put (o := 3 + 9) l5 (by omega) ha, Option.bind_some]
    have x3 : up (up (up σ (3 + 5 + 1) a (ι i)) (3 + 7 + 1) a (ι s)) (3 + 9 + 1) a (ι w) 3 7 = ι a := by rw [up_k _ _ _ _ _ (by omega)]; exact x2
    rw [x3, ι_add]
  · have eM : ∀ j, j ≠ 3 → j ≠ 9 → j ≠ 11 → j ≠ 13 → (up (up (up (up σ 9 a (ι i)) 11 a (ι s)) 13 a (ι w)) 3 7 (ι (a + 1))) j = σ j := fun j h1 h2 h3 h4 => by
      simp (disch := omega) only [up_e, up_j, up_k, Nat.reduceAdd, Nat.add_zero]
    obtain ⟨f1, f2, f3, f4, f5, f6, f7, f8, f9, f10, f11, f12⟩ := d3
    unfold DR
    rw [u2, u04]
    refine ⟨d1, d2, ⟨gc, by omega, fun s' hs' => ?_, ?_, f5, fun s hs => RgI_e (by omega) (f6 s hs) (fun j h1 h2 => eF j (by omega) (by omega) (by omega) (by omega)), ?_, f8, fun c hc => by omega, ?_, f11, fun j hj => ?_⟩, ⟨v0', ?_, ?_, ?_, fun j hj => ?_, fun j hj => ?_, fun j hj => ?_, fun j hj => ?_, fun j hj => ?_⟩, LR_e f5 d5 (fun j hj => eM _ (by omega) (by omega) (by omega) (by omega)) (fun j h1 h2 => eF j (by omega) (by omega) (by omega) (by omega)), ⟨?_, ?_, ?_, ?_⟩, fun j h1 h2 => ?_⟩
    · by_cases h : s' = a
      · subst h
        unfold SlI
        rw [g0, g1, g2]
        exact ⟨Or.inr ⟨i, s, hi, hs, rfl, rfl⟩, by rcases hw with z | z <;> subst z; exact Or.inl rfl; exact Or.inr rfl⟩
      · have := f3 s' (by omega)
        unfold SlI at *
        rw [eF _ (by omega) (by omega) (by omega) (by omega), eF _ (by omega) (by omega) (by omega) (by omega), eF _ (by omega) (by omega) (by omega) (by omega)]
        exact this
    · rw [eF 1 (by omega) (by omega) (by omega) (by omega)]; exact f4
    · rw [eF 2 (by omega) (by omega) (by omega) (by omega)]; exact f7
    · rw [eF 4 (by omega) (by omega) (by omega) (by omega)]; exact f10
    · rw [eF _ (by omega) (by omega) (by omega) (by omega)]; exact f12 j hj
    · simp (disch := omega) only [up_e, up_j, up_k, Nat.reduceAdd, Nat.add_zero]; exact v1
    · simp (disch := omega) only [up_e, up_j, up_k, Nat.reduceAdd, Nat.add_zero]; exact v2
    · simp (disch := omega) only [up_e, up_j, up_k, Nat.reduceAdd, Nat.add_zero]
    · rw [eM _ (by omega) (by omega) (by omega) (by omega)]; exact v4 j hj
    · rw [eM _ (by omega) (by omega) (by omega) (by omega), eF _ (by omega) (by omega) (by omega) (by omega)]; exact v5 j hj
    · by_cases h : j = a
      · subst h; rw [g0]; simp (disch := omega) only [up_e, up_j, up_k, Nat.reduceAdd, Nat.add_zero]
      · rw [eF _ (by omega) (by omega) (by omega) (by omega), ← v6 j (by omega)]; simp (disch := omega) only [up_e, up_j, up_k, Nat.reduceAdd, Nat.add_zero]
    · by_cases h : j = a
      · subst h; rw [g1]; simp (disch := omega) only [up_e, up_j, up_k, Nat.reduceAdd, Nat.add_zero]
      · rw [eF _ (by omega) (by omega) (by omega) (by omega), ← v7 j (by omega)]; simp (disch := omega) only [up_e, up_j, up_k, Nat.reduceAdd, Nat.add_zero]
    · by_cases h : j = a
      · subst h; rw [g2]; simp (disch := omega) only [up_e, up_j, up_k, Nat.reduceAdd, Nat.add_zero]
      · rw [eF _ (by omega) (by omega) (by omega) (by omega), ← v8 j (by omega)]; simp (disch := omega) only [up_e, up_j, up_k, Nat.reduceAdd, Nat.add_zero]
    · rw [eM _ (by omega) (by omega) (by omega) (by omega)]; exact d6
    · rw [eM _ (by omega) (by omega) (by omega) (by omega)]; exact d7
    · rw [eM _ (by omega) (by omega) (by omega) (by omega)]; exact d8
    · rw [eF 3 (by omega) (by omega) (by omega) (by omega)]; exact d9
    · rw [eF _ (by omega) (by omega) (by omega) (by omega)]; exact d10 j h1 h2
  · simp (disch := omega) only [up_e, up_j, up_k, Nat.reduceAdd, Nat.add_zero]
theorem range_DR {σ τ υ : Mem} {k n a b i j s x : Nat} (h : DR σ τ k n a b) (hb : b < 12) (hi : i ≤ j) (hj : j < n) (hs : s < 4) (hx : 1 ≤ x) (hx' : x ≤ 999) (u2 : υ 2 = τ 2) (u04 : υ 0 4 = τ 0 4) (g0 : υ 4 (41 + 4 * b) = ι i) (g1 : υ 4 (41 + 4 * b + 1) = ι j) (g2 : υ 4 (41 + 4 * b + 2) = ι s) (g3 : υ 4 (41 + 4 * b + 3) = ι x) (gc : υ 4 1 = ι (b + 1)) (eF : ∀ l, l ≠ 1 → (l < 41 + 4 * b ∨ 41 + 4 * b + 3 < l) → υ 4 l = τ 4 l) : ∃ ρ, fX1_add 14 (ι i) (ι j) (ι s) (ι x) σ = some ρ ∧ DR ρ υ k n a (b + 1) ∧ ∀ j, ¬ (3 ≤ j ∧ j ≤ 32) → ρ j = σ j := by
  obtain ⟨d1, d2, d3, d4, d5, ⟨d6, d7, d8, d9⟩, d10⟩ := h
  have hn := d1.2.2.2
  obtain ⟨v0, v1, v2, v3, v4, v5⟩ := d5
  have v0' := v0
  obtain ⟨l1, l2, l3, l4⟩ := v0
  refine ⟨up (up (up (up (up σ 16 b (ι i)) 18 b (ι j)) 20 b (ι s)) 22 b (ι x)) 14 4 (ι (b + 1)), ?_, ?_, fun j hj => ?_⟩
  · unfold fX1_add fX1_takesRange
    rw [v1]
    simp (disch := omega) only [l_0, l_1, l_2, l_3, l_4, l_5, l_6, l_7, l_8, l_9, l_10, l_12, l_13, l_24, l_31, l_32, l_40, l_41, l_42, l_44, l_45, l_48, l_49, l_50, l_57, l_59, l_60, l_65, l_88, l_89, l_97, l_98, l_99, l_100, l_105, l_108, l_109, l_114, l_118, l_120, l_122, l_144, l_255, l_269, l_279, l_339, l_400, l_600, l_999, l_1000, l_2373, l_2712, ι_lt, ι_le, ι_eq, ι_add, ι_mul, ι_sub, ι_div, ι_n, ι_m1, m1_ι, m1_lt, m1_le, lt_m1, le_m1, m1_lt_m1, m1_le_m1, m1_add1, neg_ι1, ι_addm, ι_addn, Bool.false_eq_true, Nat.not_lt_zero, Nat.add_zero, Nat.zero_add, Nat.mul_zero, Nat.reduceMul, Nat.reduceAdd, Nat.reduceSub, Nat.reduceLT, Nat.reduceLeDiff, Nat.reduceEqDiff, Nat.reduceDiv, Nat.reduceBEq, Nat.reduceBNe, false_or, or_false, true_or, or_true, and_true, true_and, false_and, and_false, not_false_eq_true, not_true_eq_false, if_true, if_false, if_pos, if_neg, Option.bind_some, ite_false, ite_true, eq_self, reduceIte]
    rw [c_put (o := 14 + 1) l1 (by omega) hb, Option.bind_some]
    have x1 : up σ (14 + 1 + 1) b (ι i) 14 4 = ι b := by rw [up_k _ _ _ _ _ (by omega)]; exact v1
    rw [x1, c_put (o := 14 + 3) l2 (by omega) hb, Option.bind_some]
    have x2 : up (up σ (14 + 1 + 1) b (ι i)) (14 + 3 + 1) b (ι j) 14 4 = ι b := by rw [up_k _ _ _ _ _ (by omega)]; exact x1
    rw [x2, c_put (o := 14 + 5) l3 (by omega) hb, Option.bind_some]
    have x3 : up (up (up σ (14 + 1 + 1) b (ι i)) (14 + 3 + 1) b (ι j)) (14 + 5 + 1) b (ι s) 14 4 = ι b := by rw [up_k _ _ _ _ _ (by omega)]; exact x2
    rw [x3, c_put (o := 14 + 7) l4 (by omega) hb, Option.bind_some]
    have x4 : up (up (up (up σ (14 + 1 + 1) b (ι i)) (14 + 3 + 1) b (ι j)) (14 + 5 + 1) b (ι s)) (14 + 7 + 1) b (ι x) 14 4 = ι b := by rw [up_k _ _ _ _ _ (by omega)]; exact x3
    rw [x4, ι_add]
  · have eM : ∀ l, l ≠ 14 → l ≠ 16 → l ≠ 18 → l ≠ 20 → l ≠ 22 → (up (up (up (up (up σ 16 b (ι i)) 18 b (ι j)) 20 b (ι s)) 22 b (ι x)) 14 4 (ι (b + 1))) l = σ l := fun l h1 h2 h3 h4 h5 => by
      simp (disch := omega) only [up_e, up_j, up_k, Nat.reduceAdd, Nat.add_zero]
    obtain ⟨f1, f2, f3, f4, f5, f6, f7, f8, f9, f10, f11, f12⟩ := d3
    unfold DR
    rw [u2, u04]
    refine ⟨d1, d2, ⟨?_, f2, fun s hs => SlI_e (by omega) (f3 s hs) (fun j h1 h2 => eF j (by omega) (by omega)), gc, by omega, fun r hr => ?_, ?_, f8, fun c hc => by omega, ?_, f11, fun j hj => ?_⟩, VR_e hn f2 d4 (fun j hj => eM _ (by omega) (by omega) (by omega) (by omega) (by omega)) (fun j h1 h2 => eF j (by omega) (by omega)) (fun j h1 h2 => eF j (by omega) (by omega)), ⟨v0', ?_, fun l hl => ?_, fun l hl => ?_, fun l hl => ?_, fun l hl => ?_⟩, ⟨?_, ?_, ?_, ?_⟩, fun j h1 h2 => ?_⟩
    · rw [eF 0 (by omega) (by omega)]; exact f1
    · by_cases h : r = b
      · subst h
        exact ⟨i, j, s, x, hi, hj, hs, hx, hx', g0, g1, g2, g3⟩
      · have := f6 r (by omega)
        unfold RgI at *
        rw [eF _ (by omega) (by omega), eF _ (by omega) (by omega), eF _ (by omega) (by omega), eF _ (by omega) (by omega)]
        exact this
    · rw [eF 2 (by omega) (by omega)]; exact f7
    · rw [eF 4 (by omega) (by omega)]; exact f10
    · rw [eF _ (by omega) (by omega)]; exact f12 j hj
    · simp (disch := omega) only [up_e, up_j, up_k, Nat.reduceAdd, Nat.add_zero]
    · by_cases h : l = b
      · subst h; rw [g0]; simp (disch := omega) only [up_e, up_j, up_k, Nat.reduceAdd, Nat.add_zero]
      · rw [eF _ (by omega) (by omega), ← v2 l (by omega)]; simp (disch := omega) only [up_e, up_j, up_k, Nat.reduceAdd, Nat.add_zero]
    · by_cases h : l = b
      · subst h; rw [g1]; simp (disch := omega) only [up_e, up_j, up_k, Nat.reduceAdd, Nat.add_zero]
      · rw [eF _ (by omega) (by omega), ← v3 l (by omega)]; simp (disch := omega) only [up_e, up_j, up_k, Nat.reduceAdd, Nat.add_zero]
    · by_cases h : l = b
      · subst h; rw [g2]; simp (disch := omega) only [up_e, up_j, up_k, Nat.reduceAdd, Nat.add_zero]
      · rw [eF _ (by omega) (by omega), ← v4 l (by omega)]; simp (disch := omega) only [up_e, up_j, up_k, Nat.reduceAdd, Nat.add_zero]
    · by_cases h : l = b
      · subst h; rw [g3]; simp (disch := omega) only [up_e, up_j, up_k, Nat.reduceAdd, Nat.add_zero]
      · rw [eF _ (by omega) (by omega), ← v5 l (by omega)]; simp (disch := omega) only [up_e, up_j, up_k, Nat.reduceAdd, Nat.add_zero]
    · rw [eM _ (by omega) (by omega) (by omega) (by omega) (by omega)]; exact d6
    · rw [eM _ (by omega) (by omega) (by omega) (by omega) (by omega)]; exact d7
    · rw [eM _ (by omega) (by omega) (by omega) (by omega) (by omega)]; exact d8
    · rw [eF 3 (by omega) (by omega)]; exact d9
    · rw [eF _ (by omega) (by omega)]; exact d10 j h1 h2
  · simp (disch := omega) only [up_e, up_j, up_k, Nat.reduceAdd, Nat.add_zero]
theorem gone_DR {σ τ ρ υ : Mem} {k n a b x y : Nat} (h : DR σ τ k n a b) (hy : y < n) (u2 : υ 2 = τ 2) (u04 : υ 0 4 = τ 0 4) (g1 : ∀ j, x ≤ j → j ≤ y → υ 4 (279 + j) = ι 1) (g2 : ∀ j, ¬ (279 + x ≤ j ∧ j ≤ 279 + y) → υ 4 j = τ 4 j) (r1 : ∀ j, x ≤ j → j ≤ y → ρ 7 j = ι 1) (r2 : ∀ j, ¬ (x ≤ j ∧ j ≤ y) → ρ 7 j = σ 7 j) (r3 : ∀ j, 3 ≤ j → j ≤ 32 → j ≠ 7 → ρ j = σ j) : DR ρ υ k n a b := by
  obtain ⟨d1, d2, d3, d4, d5, ⟨d6, d7, d8, d9⟩, d10⟩ := h
  have hn := d1.2.2.2
  obtain ⟨v0, v1, v2, v3, v4, v5, v6, v7, v8⟩ := d4
  obtain ⟨f1, f2, f3, f4, f5, f6, f7, f8, f9, f10, f11, f12⟩ := d3
  unfold DR
  rw [u2, u04]
  refine ⟨d1, d2, ⟨?_, f2, fun s hs => SlI_e (by omega) (f3 s hs) (fun j h1 h2 => g2 j (by omega)), ?_, f5, fun s hs => RgI_e (by omega) (f6 s hs) (fun j h1 h2 => g2 j (by omega)), ?_, f8, fun c hc => by omega, ?_, f11, fun j hj => ?_⟩, ⟨v0, ?_, ?_, ?_, fun j hj => ?_, fun j hj => ?_, fun j hj => ?_, fun j hj => ?_, fun j hj => ?_⟩, LR_e f5 d5 (fun j hj => r3 _ (by omega) (by omega) (by omega)) (fun j h1 h2 => g2 j (by omega)), ⟨?_, ?_, ?_, ?_⟩, fun j h1 h2 => ?_⟩
  · rw [g2 0 (by omega)]; exact f1
  · rw [g2 1 (by omega)]; exact f4
  · rw [g2 2 (by omega)]; exact f7
  · rw [g2 4 (by omega)]; exact f10
  · by_cases e : x ≤ j ∧ j ≤ y
    · exact Or.inr (g1 j e.1 e.2)
    · rw [g2 _ (by omega)]; exact f12 j hj
  · rw [r3 3 (by omega) (by omega) (by omega)]; exact v1
  · rw [r3 3 (by omega) (by omega) (by omega)]; exact v2
  · rw [r3 3 (by omega) (by omega) (by omega)]; exact v3
  · rw [r3 (3 + 1 + 1) (by omega) (by omega) (by omega)]; exact v4 j hj
  · show ρ 7 j = _
    by_cases e : x ≤ j ∧ j ≤ y
    · rw [r1 j e.1 e.2, g1 j e.1 e.2]
    · rw [r2 j e, g2 _ (by omega)]; exact v5 j hj
  · rw [r3 (3 + 5 + 1) (by omega) (by omega) (by omega), g2 _ (by omega)]; exact v6 j hj
  · rw [r3 (3 + 7 + 1) (by omega) (by omega) (by omega), g2 _ (by omega)]; exact v7 j hj
  · rw [r3 (3 + 9 + 1) (by omega) (by omega) (by omega), g2 _ (by omega)]; exact v8 j hj
  · rw [r3 23 (by omega) (by omega) (by omega)]; exact d6
  · rw [r3 30 (by omega) (by omega) (by omega)]; exact d7
  · rw [r3 30 (by omega) (by omega) (by omega)]; exact d8
  · rw [g2 3 (by omega)]; exact d9
  · rw [g2 _ (by omega)]; exact d10 j h1 h2
