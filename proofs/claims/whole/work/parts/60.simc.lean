/-! PURE PART: attach, detach, label, the three scans -/
theorem c_reqSide {σ : Mem} {i : Nat} (hi : i < 2) : fX11_requireSide (ι i) σ = some (.inr 0, σ) := by
  unfold fX11_requireSide
  rcases (show i = 0 ∨ i = 1 by omega) with z | z <;> subst z
  · rfl
  · rfl
theorem c_reqSide_no {σ : Mem} {x : Int32} (hx : ∀ i, i < 2 → x ≠ ι i) : fX11_requireSide x σ = some (.inl 1, σ) := by
  unfold fX11_requireSide
  rw [if_neg (show ¬ x = 0 from hx 0 (by omega)), if_neg (show ¬ x = 1 from hx 1 (by omega))]
theorem r_isSide {τ : Mem} {i : Nat} (hi : i < 2) : fX12_isSide (ι i) τ = some (ι 1) := by
  unfold fX12_isSide
  rcases (show i = 0 ∨ i = 1 by omega) with z | z <;> subst z
  · rfl
  · rfl
theorem r_isSide_no {τ : Mem} {x : Int32} (hx : ∀ i, i < 2 → x ≠ ι i) : fX12_isSide x τ = some (ι 0) := by
  unfold fX12_isSide
  rw [if_neg (show ¬ x = 0 from hx 0 (by omega)), if_neg (show ¬ x = 1 from hx 1 (by omega))]
  rfl
theorem r_inAB {τ : Mem} {i p q : Nat} (hp : p ≤ i) (hi : i ≤ q) (hc : q < 2147483648) : fX12_isIn (ι i).toInt64 (ι p).toInt64 (ι q).toInt64 τ = some (ι 1) := by
  rw [r_isIn]
  simp (disch := omega) only [l_0, l_1, l_2, l_3, l_4, l_5, l_6, l_7, l_8, l_9, l_10, l_12, l_13, l_24, l_31, l_32, l_40, l_41, l_42, l_44, l_45, l_48, l_49, l_50, l_57, l_59, l_60, l_65, l_88, l_89, l_97, l_98, l_99, l_100, l_105, l_108, l_109, l_114, l_118, l_120, l_122, l_144, l_255, l_269, l_279, l_339, l_400, l_600, l_999, l_1000, l_2373, l_2712, ι_lt, ι_le, ι_eq, ι_add, ι_mul, ι_sub, ι_div, ι_n, ι_m1, m1_ι, m1_lt, m1_le, lt_m1, le_m1, m1_lt_m1, m1_le_m1, m1_add1, neg_ι1, ι_addm, ι_addn, Bool.false_eq_true, Nat.not_lt_zero, Nat.add_zero, Nat.zero_add, Nat.mul_zero, Nat.reduceMul, Nat.reduceAdd, Nat.reduceSub, Nat.reduceLT, Nat.reduceLeDiff, Nat.reduceEqDiff, Nat.reduceDiv, Nat.reduceBEq, Nat.reduceBNe, false_or, or_false, true_or, or_true, and_true, true_and, false_and, and_false, not_false_eq_true, not_true_eq_false, if_true, if_false, if_pos, if_neg, Option.bind_some, ite_false, ite_true, eq_self, reduceIte]
theorem r_inAB_no {x : Int32} {τ : Mem} {p q : Nat} (hc : q < 2147483648) (hp : p ≤ q) (hx : ∀ i, p ≤ i → i ≤ q → x ≠ ι i) : fX12_isIn x.toInt64 (ι p).toInt64 (ι q).toInt64 τ = some (ι 0) := by
  rw [r_isIn]
  rcases ι_cases x with h | ⟨i, h1, h2⟩
  · rw [if_neg (fun z => by rw [(neg0 h (by omega)).1] at z; exact z.1)]
  · subst h2
    have : ¬ (p ≤ i ∧ i ≤ q) := fun z => hx i z.1 z.2 rfl
    rw [if_neg]
    rw [ι_le (by omega) (by omega), ι_le (by omega) (by omega)]
    exact this
theorem between_cases (x : Int32) (p q : Nat) : (∃ i, p ≤ i ∧ i ≤ q ∧ x = ι i) ∨ (∀ i, p ≤ i → i ≤ q → x ≠ ι i) := by
  by_cases h : ∃ i, p ≤ i ∧ i ≤ q ∧ x = ι i
  · exact Or.inl h
  · exact Or.inr fun i h1 h2 z => h ⟨i, h1, h2, z⟩
theorem c_inAB {x : Int32} {α : Type} {p q : Nat} (hc : q < 2147483648) (hp : p ≤ q) {u v : α} (hx : ∀ i, p ≤ i → i ≤ q → x ≠ ι i) : (if x < ι p then u else (if ι q < x then u else v)) = u := by
  rcases ι_cases x with h | ⟨i, h1, h2⟩
  · rw [if_pos (by rw [(neg0 h (by omega)).2.1]; trivial)]
  · subst h2
    have : ¬ (p ≤ i ∧ i ≤ q) := fun z => hx i z.1 z.2 rfl
    by_cases hh : i < p
    · simp (disch := omega) only [l_0, l_1, l_2, l_3, l_4, l_5, l_6, l_7, l_8, l_9, l_10, l_12, l_13, l_24, l_31, l_32, l_40, l_41, l_42, l_44, l_45, l_48, l_49, l_50, l_57, l_59, l_60, l_65, l_88, l_89, l_97, l_98, l_99, l_100, l_105, l_108, l_109, l_114, l_118, l_120, l_122, l_144, l_255, l_269, l_279, l_339, l_400, l_600, l_999, l_1000, l_2373, l_2712, ι_lt, ι_le, ι_eq, ι_add, ι_mul, ι_sub, ι_div, ι_n, ι_m1, m1_ι, m1_lt, m1_le, lt_m1, le_m1, m1_lt_m1, m1_le_m1, m1_add1, neg_ι1, ι_addm, ι_addn, Bool.false_eq_true, Nat.not_lt_zero, Nat.add_zero, Nat.zero_add, Nat.mul_zero, Nat.reduceMul, Nat.reduceAdd, Nat.reduceSub, Nat.reduceLT, Nat.reduceLeDiff, Nat.reduceEqDiff, Nat.reduceDiv, Nat.reduceBEq, Nat.reduceBNe, false_or, or_false, true_or, or_true, and_true, true_and, false_and, and_false, not_false_eq_true, not_true_eq_false, if_true, if_false, if_pos, if_neg, Option.bind_some, ite_false, ite_true, eq_self, reduceIte]
    · simp (disch := omega) only [l_0, l_1, l_2, l_3, l_4, l_5, l_6, l_7, l_8, l_9, l_10, l_12, l_13, l_24, l_31, l_32, l_40, l_41, l_42, l_44, l_45, l_48, l_49, l_50, l_57, l_59, l_60, l_65, l_88, l_89, l_97, l_98, l_99, l_100, l_105, l_108, l_109, l_114, l_118, l_120, l_122, l_144, l_255, l_269, l_279, l_339, l_400, l_600, l_999, l_1000, l_2373, l_2712, ι_lt, ι_le, ι_eq, ι_add, ι_mul, ι_sub, ι_div, ι_n, ι_m1, m1_ι, m1_lt, m1_le, lt_m1, le_m1, m1_lt_m1, m1_le_m1, m1_add1, neg_ι1, ι_addm, ι_addn, Bool.false_eq_true, Nat.not_lt_zero, Nat.add_zero, Nat.zero_add, Nat.mul_zero, Nat.reduceMul, Nat.reduceAdd, Nat.reduceSub, Nat.reduceLT, Nat.reduceLeDiff, Nat.reduceEqDiff, Nat.reduceDiv, Nat.reduceBEq, Nat.reduceBNe, false_or, or_false, true_or, or_true, and_true, true_and, false_and, and_false, not_false_eq_true, not_true_eq_false, if_true, if_false, if_pos, if_neg, Option.bind_some, ite_false, ite_true, eq_self, reduceIte]
theorem sim6 : Sim6 Rel := by
  intro σ τ x1 x2 x3 hR
  replace hR := Rel_0 hR 0
  unfold fX12_attach fX11_attach
  have h00 : up τ 0 0 0 0 0 = 0 := up_e _ _ _ _
  generalize up τ 0 0 (0 : Int32) = τ at *
  obtain ⟨k, n, a, b, d, t, hO⟩ := RO_of hR
  have hO' := hO
  obtain ⟨hr, hF, hV, hL, hC, hW⟩ := hO
  have hn := hr.1.2.2.2.2
  have ha := hF.2.1
  have e10 : ¬ (ι 1 = (0 : Int32)) := by decide
  rcases leaf_cases x1 n with ⟨i, hi, rfl⟩ | hx
  · simp only [c_reqLeaf hn hV hi, r_isLeaf hr.1 hr.2.1 (show i < 2147483648 by omega), if_pos hi, Option.bind_some, if_neg e10]
    rcases leaf_cases x2 2 with ⟨s, hs, rfl⟩ | hx
    · simp only [c_reqSide hs, r_isSide hs, Option.bind_some, if_neg e10]
      rcases between_cases x3 1 2 with ⟨w, hw1, hw2, rfl⟩ | hx
      · have ew : fX11_isSlipSize (ι w) σ = some (ι 1) := by
          unfold fX11_isSlipSize
          simp (disch := omega) only [l_0, l_1, l_2, l_3, l_4, l_5, l_6, l_7, l_8, l_9, l_10, l_12, l_13, l_24, l_31, l_32, l_40, l_41, l_42, l_44, l_45, l_48, l_49, l_50, l_57, l_59, l_60, l_65, l_88, l_89, l_97, l_98, l_99, l_100, l_105, l_108, l_109, l_114, l_118, l_120, l_122, l_144, l_255, l_269, l_279, l_339, l_400, l_600, l_999, l_1000, l_2373, l_2712, ι_lt, ι_le, ι_eq, ι_add, ι_mul, ι_sub, ι_div, ι_n, ι_m1, m1_ι, m1_lt, m1_le, lt_m1, le_m1, m1_lt_m1, m1_le_m1, m1_add1, neg_ι1, ι_addm, ι_addn, Bool.false_eq_true, Nat.not_lt_zero, Nat.add_zero, Nat.zero_add, Nat.mul_zero, Nat.reduceMul, Nat.reduceAdd, Nat.reduceSub, Nat.reduceLT, Nat.reduceLeDiff, Nat.reduceEqDiff, Nat.reduceDiv, Nat.reduceBEq, Nat.reduceBNe, false_or, or_false, true_or, or_true, and_true, true_and, false_and, and_false, not_false_eq_true, not_true_eq_false, if_true, if_false, if_pos, if_neg, Option.bind_some, ite_false, ite_true, eq_self, reduceIte]
        simp only [ew, j_1, j_2, r_inAB hw1 hw2 (show 2 < 2147483648 by omega), Option.bind_some, if_neg e10, Nat.zero_add, c_isPresent hn hV hi, r_isPresent (show i < 60 by omega)]
        by_cases hp : pB (τ 3) i = true
        · unfold fX10_takesSlip
          by_cases h12 : a = 12
          · simp (disch := omega) only [l_0, l_1, l_2, l_3, l_4, l_5, l_6, l_7, l_8, l_9, l_10, l_12, l_13, l_24, l_31, l_32, l_40, l_41, l_42, l_44, l_45, l_48, l_49, l_50, l_57, l_59, l_60, l_65, l_88, l_89, l_97, l_98, l_99, l_100, l_105, l_108, l_109, l_114, l_118, l_120, l_122, l_144, l_255, l_269, l_279, l_339, l_400, l_600, l_999, l_1000, l_2373, l_2712, ι_lt, ι_le, ι_eq, ι_add, ι_mul, ι_sub, ι_div, ι_n, ι_m1, m1_ι, m1_lt, m1_le, lt_m1, le_m1, m1_lt_m1, m1_le_m1, m1_add1, neg_ι1, ι_addm, ι_addn, Bool.false_eq_true, Nat.not_lt_zero, Nat.add_zero, Nat.zero_add, Nat.mul_zero, Nat.reduceMul, Nat.reduceAdd, Nat.reduceSub, Nat.reduceLT, Nat.reduceLeDiff, Nat.reduceEqDiff, Nat.reduceDiv, Nat.reduceBEq, Nat.reduceBNe, false_or, or_false, true_or, or_true, and_true, true_and, false_and, and_false, not_false_eq_true, not_true_eq_false, if_true, if_false, if_pos, if_neg, Option.bind_some, ite_false, ite_true, eq_self, reduceIte, lm_0, lm_1, lm_2, lm_3, lm_4, lm_5, lm_6, lm_7, lm_8, lm_9, lm_10, lm_11, lm_12, lm_13, lm_14, lm_15, lm_16, lm_17, hp, hV.2.2.2.1, hF.1, ref_fails]
            exact ⟨_, _, 3, rfl, rfl, Or.inr (Or.inr (Or.inr ⟨rfl, rfl⟩)), fun v hv => (by cases hv), z_bad, Rel_0 hR _⟩
          · obtain ⟨ρ, υ, e1, e2, hO2, u1, u2⟩ := keep_RO hO'
            have hG := slip_RO (w := w) hO2 (show a < 12 by omega) hi hs (by omega)
            have v0 := hO2.2.2.1.2.2.2.1
            have w0 := hO2.2.1.1
            unfold fX10_addSlip fX10_takesSlip fX10_slipCount
            simp (disch := omega) only [e1, e2, l_0, l_1, l_2, l_3, l_4, l_5, l_6, l_7, l_8, l_9, l_10, l_12, l_13, l_24, l_31, l_32, l_40, l_41, l_42, l_44, l_45, l_48, l_49, l_50, l_57, l_59, l_60, l_65, l_88, l_89, l_97, l_98, l_99, l_100, l_105, l_108, l_109, l_114, l_118, l_120, l_122, l_144, l_255, l_269, l_279, l_339, l_400, l_600, l_999, l_1000, l_2373, l_2712, ι_lt, ι_le, ι_eq, ι_add, ι_mul, ι_sub, ι_div, ι_n, ι_m1, m1_ι, m1_lt, m1_le, lt_m1, le_m1, m1_lt_m1, m1_le_m1, m1_add1, neg_ι1, ι_addm, ι_addn, Bool.false_eq_true, Nat.not_lt_zero, Nat.add_zero, Nat.zero_add, Nat.mul_zero, Nat.reduceMul, Nat.reduceAdd, Nat.reduceSub, Nat.reduceLT, Nat.reduceLeDiff, Nat.reduceEqDiff, Nat.reduceDiv, Nat.reduceBEq, Nat.reduceBNe, false_or, or_false, true_or, or_true, and_true, true_and, false_and, and_false, not_false_eq_true, not_true_eq_false, if_true, if_false, if_pos, if_neg, Option.bind_some, ite_false, ite_true, eq_self, reduceIte, lm_0, lm_1, lm_2, lm_3, lm_4, lm_5, lm_6, lm_7, lm_8, lm_9, lm_10, lm_11, lm_12, lm_13, lm_14, lm_15, lm_16, lm_17, up_e, up_j, up_k, Nat.reduceAdd, Nat.add_zero, hp, hV.2.2.2.1, hF.1, v0, w0, c_put hV.1.2.2.1 (show 12 ≤ 600 by omega) (show a < 12 by omega), c_put hV.1.2.2.2.1 (show 12 ≤ 600 by omega) (show a < 12 by omega), c_put hV.1.2.2.2.2 (show 12 ≤ 600 by omega) (show a < 12 by omega)]
            exact ⟨_, _, 0, rfl, rfl, Or.inl ⟨_, rfl, rfl⟩, fun v hv => (by cases hv; rfl), (by simp (disch := omega) only [up_e, up_j, up_k, Nat.reduceAdd, Nat.add_zero]; rw [u2 0 0 (by omega)]; exact h00), RO_rel hG⟩
        · simp (disch := omega) only [l_0, l_1, l_2, l_3, l_4, l_5, l_6, l_7, l_8, l_9, l_10, l_12, l_13, l_24, l_31, l_32, l_40, l_41, l_42, l_44, l_45, l_48, l_49, l_50, l_57, l_59, l_60, l_65, l_88, l_89, l_97, l_98, l_99, l_100, l_105, l_108, l_109, l_114, l_118, l_120, l_122, l_144, l_255, l_269, l_279, l_339, l_400, l_600, l_999, l_1000, l_2373, l_2712, ι_lt, ι_le, ι_eq, ι_add, ι_mul, ι_sub, ι_div, ι_n, ι_m1, m1_ι, m1_lt, m1_le, lt_m1, le_m1, m1_lt_m1, m1_le_m1, m1_add1, neg_ι1, ι_addm, ι_addn, Bool.false_eq_true, Nat.not_lt_zero, Nat.add_zero, Nat.zero_add, Nat.mul_zero, Nat.reduceMul, Nat.reduceAdd, Nat.reduceSub, Nat.reduceLT, Nat.reduceLeDiff, Nat.reduceEqDiff, Nat.reduceDiv, Nat.reduceBEq, Nat.reduceBNe, false_or, or_false, true_or, or_true, and_true, true_and, false_and, and_false, not_false_eq_true, not_true_eq_false, if_true, if_false, if_pos, if_neg, Option.bind_some, ite_false, ite_true, eq_self, reduceIte, hp, ref_fails]
          exact ⟨_, _, 3, rfl, rfl, Or.inr (Or.inr (Or.inr ⟨rfl, rfl⟩)), fun v hv => (by cases hv), z_bad, Rel_0 hR _⟩
      · have ew : fX11_isSlipSize x3 σ = some (ι 0) := by
          unfold fX11_isSlipSize
          rw [l_1, l_2]
          exact c_inAB (by omega) (by omega) hx
        simp only [ew, j_1, j_2, r_inAB_no (show 2 < 2147483648 by omega) (show 1 ≤ 2 by omega) hx, Option.bind_some, l_0, if_true, ref_fails]
        exact ⟨_, _, 2, rfl, rfl, Or.inr (Or.inr (Or.inl ⟨rfl, rfl⟩)), fun v hv => (by cases hv), z_bad, Rel_0 hR _⟩
    · simp only [c_reqSide_no hx, r_isSide_no hx, Option.bind_some, l_0, if_true, ref_fails]
      exact ⟨_, _, 2, rfl, rfl, Or.inr (Or.inr (Or.inl ⟨rfl, rfl⟩)), fun v hv => (by cases hv), z_bad, Rel_0 hR _⟩
  · rw [c_reqLeaf_no hn hV hx, r_isLeaf_no hr.1 hr.2.1 hx]
    simp only [Option.bind_some, l_0, if_true, ref_fails]
    exact ⟨_, _, 1, rfl, rfl, Or.inr (Or.inl ⟨rfl, rfl⟩), fun v hv => (by cases hv), z_bad, Rel_0 hR _⟩
theorem c_reqAtt {σ : Mem} {k n a : Nat} {q F : Nat → Int32} (ha : a ≤ 12) (hV : VR σ 42 q k n a F) {i : Nat} (hi : i < a) : fX11_requireAttached 0 (ι i) σ = some (if atB F i then .inr 0 else .inl 0, σ) := by
  unfold fX11_requireAttached fX10_leafOfSlip atB
  rw [Nat.zero_add, c_at hV.1.2.2.1 (by omega) (by omega), hV.2.2.2.2.2.2.1 i hi, Option.bind_some, Option.bind_some]
  by_cases h : F (5 + 3 * i) = μ
  · rw [if_pos (show F (5 + 3 * i) = -1 from h), if_neg]
    simp [h]
  · rw [if_neg (show ¬ F (5 + 3 * i) = -1 from h), if_pos]
    simp [h]
theorem sim7 : Sim7 Rel := by
  intro σ τ x1 hR
  replace hR := Rel_0 hR 0
  unfold fX12_detach fX11_detach
  have h00 : up τ 0 0 0 0 0 = 0 := up_e _ _ _ _
  generalize up τ 0 0 (0 : Int32) = τ at *
  obtain ⟨k, n, a, b, d, t, hO⟩ := RO_of hR
  have hO' := hO
  obtain ⟨hr, hF, hV, hL, hC, hW⟩ := hO
  have hn := hr.1.2.2.2.2
  have ha := hF.2.1
  have e10 : ¬ (ι 1 = (0 : Int32)) := by decide
  rcases leaf_cases x1 a with ⟨i, hi, rfl⟩ | hx
  · simp only [c_reqSlip ha hV hi, r_isSlip hF.1 ha (show i < 2147483648 by omega), if_pos hi, Option.bind_some, if_neg e10, c_reqAtt ha hV hi, r_isAttached (show i < 12 by omega)]
    by_cases hp : atB (τ 3) i = true
    · obtain ⟨ρ, υ, e1, e2, hO2, u1, u2⟩ := keep_RO hO'
      have hG := loose_RO hO2 hi
      have hG' := hG
      obtain ⟨gr, gF, gV, gL, gC, gW⟩ := hG
      unfold fX10_loosen
      simp (disch := omega) only [hp, Nat.zero_add, e1, e2, l_0, l_1, l_2, l_3, l_4, l_5, l_6, l_7, l_8, l_9, l_10, l_12, l_13, l_24, l_31, l_32, l_40, l_41, l_42, l_44, l_45, l_48, l_49, l_50, l_57, l_59, l_60, l_65, l_88, l_89, l_97, l_98, l_99, l_100, l_105, l_108, l_109, l_114, l_118, l_120, l_122, l_144, l_255, l_269, l_279, l_339, l_400, l_600, l_999, l_1000, l_2373, l_2712, ι_lt, ι_le, ι_eq, ι_add, ι_mul, ι_sub, ι_div, ι_n, ι_m1, m1_ι, m1_lt, m1_le, lt_m1, le_m1, m1_lt_m1, m1_le_m1, m1_add1, neg_ι1, ι_addm, ι_addn, Bool.false_eq_true, Nat.not_lt_zero, Nat.add_zero, Nat.zero_add, Nat.mul_zero, Nat.reduceMul, Nat.reduceAdd, Nat.reduceSub, Nat.reduceLT, Nat.reduceLeDiff, Nat.reduceEqDiff, Nat.reduceDiv, Nat.reduceBEq, Nat.reduceBNe, false_or, or_false, true_or, or_true, and_true, true_and, false_and, and_false, not_false_eq_true, not_true_eq_false, if_true, if_false, if_pos, if_neg, Option.bind_some, ite_false, ite_true, eq_self, reduceIte, lm_0, lm_1, lm_2, lm_3, lm_4, lm_5, lm_6, lm_7, lm_8, lm_9, lm_10, lm_11, lm_12, lm_13, lm_14, lm_15, lm_16, lm_17, c_put hV.1.2.2.1 (show 12 ≤ 600 by omega) (show i < 12 by omega), c_put hV.1.2.2.2.1 (show 12 ≤ 600 by omega) (show i < 12 by omega)]
      rw [c_attached ha gV, r_attached gF.1 ha]
      exact ⟨_, _, 0, rfl, rfl, Or.inl ⟨_, rfl, rfl⟩, fun v hv => (by cases hv; rfl), (by simp (disch := omega) only [up_e, up_j, up_k, Nat.reduceAdd, Nat.add_zero]; rw [u2 0 0 (by omega)]; exact h00), RO_rel hG'⟩
    · simp only [hp, l_0, if_false, if_true, ref_fails, Option.bind_some, Bool.false_eq_true]
      exact ⟨_, _, 2, rfl, rfl, Or.inr (Or.inr ⟨rfl, rfl⟩), fun v hv => (by cases hv), z_bad, Rel_0 hR _⟩
  · rw [c_reqSlip_no ha hV hx, r_isSlip_no hF.1 ha hx]
    simp only [Option.bind_some, l_0, if_true, ref_fails]
    exact ⟨_, _, 1, rfl, rfl, Or.inr (Or.inl ⟨rfl, rfl⟩), fun v hv => (by cases hv), z_bad, Rel_0 hR _⟩
theorem sim8 : Sim8 Rel := by
  intro σ τ x1 x2 x3 x4 hR
  replace hR := Rel_0 hR 0
  unfold fX12_label fX11_label
  have h00 : up τ 0 0 0 0 0 = 0 := up_e _ _ _ _
  generalize up τ 0 0 (0 : Int32) = τ at *
  obtain ⟨k, n, a, b, d, t, hO⟩ := RO_of hR
  have hO' := hO
  obtain ⟨hr, hF, hV, hL, hC, hW⟩ := hO
  have hn := hr.1.2.2.2.2
  have hb := hF.2.2.2.2.1
  have e10 : ¬ (ι 1 = (0 : Int32)) := by decide
  rcases leaf_cases x1 n with ⟨i, hi, rfl⟩ | hx
  · simp only [c_reqLeaf hn hV hi, r_isLeaf hr.1 hr.2.1 (show i < 2147483648 by omega), if_pos hi, Option.bind_some, if_neg e10]
    rcases leaf_cases x2 n with ⟨j, hj, rfl⟩ | hx
    · simp only [c_reqLeaf hn hV hj, r_isLeaf hr.1 hr.2.1 (show j < 2147483648 by omega), if_pos hj, Option.bind_some, if_neg e10, ι_lt (show j < 2147483648 by omega) (show i < 2147483648 by omega)]
      by_cases hij : j < i
      · simp only [hij, if_true, ref_fails, Option.bind_some]
        exact ⟨_, _, 2, rfl, rfl, Or.inr (Or.inr (Or.inl ⟨rfl, rfl⟩)), fun v hv => (by cases hv), z_bad, Rel_0 hR _⟩
      simp only [hij, if_false]
      rcases between_cases x3 0 3 with ⟨s, hs1, hs2, rfl⟩ | hx
      · rcases between_cases x4 1 999 with ⟨w, hw1, hw2, rfl⟩ | hx
        · have ew : fX11_isStart (ι w) σ = some (ι 1) := by
            unfold fX11_isStart
            simp (disch := omega) only [l_0, l_1, l_2, l_3, l_4, l_5, l_6, l_7, l_8, l_9, l_10, l_12, l_13, l_24, l_31, l_32, l_40, l_41, l_42, l_44, l_45, l_48, l_49, l_50, l_57, l_59, l_60, l_65, l_88, l_89, l_97, l_98, l_99, l_100, l_105, l_108, l_109, l_114, l_118, l_120, l_122, l_144, l_255, l_269, l_279, l_339, l_400, l_600, l_999, l_1000, l_2373, l_2712, ι_lt, ι_le, ι_eq, ι_add, ι_mul, ι_sub, ι_div, ι_n, ι_m1, m1_ι, m1_lt, m1_le, lt_m1, le_m1, m1_lt_m1, m1_le_m1, m1_add1, neg_ι1, ι_addm, ι_addn, Bool.false_eq_true, Nat.not_lt_zero, Nat.add_zero, Nat.zero_add, Nat.mul_zero, Nat.reduceMul, Nat.reduceAdd, Nat.reduceSub, Nat.reduceLT, Nat.reduceLeDiff, Nat.reduceEqDiff, Nat.reduceDiv, Nat.reduceBEq, Nat.reduceBNe, false_or, or_false, true_or, or_true, and_true, true_and, false_and, and_false, not_false_eq_true, not_true_eq_false, if_true, if_false, if_pos, if_neg, Option.bind_some, ite_false, ite_true, eq_self, reduceIte]
          have es : ¬ ι s < 0 := by simp (disch := omega) only [l_0, l_1, l_2, l_3, l_4, l_5, l_6, l_7, l_8, l_9, l_10, l_12, l_13, l_24, l_31, l_32, l_40, l_41, l_42, l_44, l_45, l_48, l_49, l_50, l_57, l_59, l_60, l_65, l_88, l_89, l_97, l_98, l_99, l_100, l_105, l_108, l_109, l_114, l_118, l_120, l_122, l_144, l_255, l_269, l_279, l_339, l_400, l_600, l_999, l_1000, l_2373, l_2712, ι_lt, ι_le, ι_eq, ι_add, ι_mul, ι_sub, ι_div, ι_n, ι_m1, m1_ι, m1_lt, m1_le, lt_m1, le_m1, m1_lt_m1, m1_le_m1, m1_add1, neg_ι1, ι_addm, ι_addn, Bool.false_eq_true, Nat.not_lt_zero, Nat.add_zero, Nat.zero_add, Nat.mul_zero, Nat.reduceMul, Nat.reduceAdd, Nat.reduceSub, Nat.reduceLT, Nat.reduceLeDiff, Nat.reduceEqDiff, Nat.reduceDiv, Nat.reduceBEq, Nat.reduceBNe, false_or, or_false, true_or, or_true, and_true, true_and, false_and, and_false, not_false_eq_true, not_true_eq_false, if_true, if_false, if_pos, if_neg, Option.bind_some, ite_false, ite_true, eq_self, reduceIte]
          have es2 : ¬ (3 : Int32) < ι s := by rw [l_3, ι_lt (by omega) (by omega)]; omega
          simp only [ew, es, es2, if_false, j_0, j_3, j_1, j_999, r_inAB hs1 hs2 (show 3 < 2147483648 by omega), r_inAB hw1 hw2 (show 999 < 2147483648 by omega), Option.bind_some, if_neg e10, Nat.zero_add]
          unfold fX1_takesRange
          by_cases h12 : b = 12
          · simp (disch := omega) only [l_0, l_1, l_2, l_3, l_4, l_5, l_6, l_7, l_8, l_9, l_10, l_12, l_13, l_24, l_31, l_32, l_40, l_41, l_42, l_44, l_45, l_48, l_49, l_50, l_57, l_59, l_60, l_65, l_88, l_89, l_97, l_98, l_99, l_100, l_105, l_108, l_109, l_114, l_118, l_120, l_122, l_144, l_255, l_269, l_279, l_339, l_400, l_600, l_999, l_1000, l_2373, l_2712, ι_lt, ι_le, ι_eq, ι_add, ι_mul, ι_sub, ι_div, ι_n, ι_m1, m1_ι, m1_lt, m1_le, lt_m1, le_m1, m1_lt_m1, m1_le_m1, m1_add1, neg_ι1, ι_addm, ι_addn, Bool.false_eq_true, Nat.not_lt_zero, Nat.add_zero, Nat.zero_add, Nat.mul_zero, Nat.reduceMul, Nat.reduceAdd, Nat.reduceSub, Nat.reduceLT, Nat.reduceLeDiff, Nat.reduceEqDiff, Nat.reduceDiv, Nat.reduceBEq, Nat.reduceBNe, false_or, or_false, true_or, or_true, and_true, true_and, false_and, and_false, not_false_eq_true, not_true_eq_false, if_true, if_false, if_pos, if_neg, Option.bind_some, ite_false, ite_true, eq_self, reduceIte, lm_0, lm_1, lm_2, lm_3, lm_4, lm_5, lm_6, lm_7, lm_8, lm_9, lm_10, lm_11, lm_12, lm_13, lm_14, lm_15, lm_16, lm_17, hL.2.1, hF.2.2.2.1, ref_fails]
            exact ⟨_, _, 3, rfl, rfl, Or.inr (Or.inr (Or.inr ⟨rfl, rfl⟩)), fun v hv => (by cases hv), z_bad, Rel_0 hR _⟩
          · obtain ⟨ρ, υ, e1, e2, hO2, u1, u2⟩ := keep_RO hO'
            have hG := range_RO (s := s) (x := w) hO2 (show b < 12 by omega) (show i ≤ j by omega) hj (by omega) (by omega) (by omega)
            have v0 := hO2.2.2.2.1.2.1
            have w0 := hO2.2.1.2.2.2.1
            unfold fX1_add fX1_takesRange fX1_size
            simp (disch := omega) only [e1, e2, l_0, l_1, l_2, l_3, l_4, l_5, l_6, l_7, l_8, l_9, l_10, l_12, l_13, l_24, l_31, l_32, l_40, l_41, l_42, l_44, l_45, l_48, l_49, l_50, l_57, l_59, l_60, l_65, l_88, l_89, l_97, l_98, l_99, l_100, l_105, l_108, l_109, l_114, l_118, l_120, l_122, l_144, l_255, l_269, l_279, l_339, l_400, l_600, l_999, l_1000, l_2373, l_2712, ι_lt, ι_le, ι_eq, ι_add, ι_mul, ι_sub, ι_div, ι_n, ι_m1, m1_ι, m1_lt, m1_le, lt_m1, le_m1, m1_lt_m1, m1_le_m1, m1_add1, neg_ι1, ι_addm, ι_addn, Bool.false_eq_true, Nat.not_lt_zero, Nat.add_zero, Nat.zero_add, Nat.mul_zero, Nat.reduceMul, Nat.reduceAdd, Nat.reduceSub, Nat.reduceLT, Nat.reduceLeDiff, Nat.reduceEqDiff, Nat.reduceDiv, Nat.reduceBEq, Nat.reduceBNe, false_or, or_false, true_or, or_true, and_true, true_and, false_and, and_false, not_false_eq_true, not_true_eq_false, if_true, if_false, if_pos, if_neg, Option.bind_some, ite_false, ite_true, eq_self, reduceIte, lm_0, lm_1, lm_2, lm_3, lm_4, lm_5, lm_6, lm_7, lm_8, lm_9, lm_10, lm_11, lm_12, lm_13, lm_14, lm_15, lm_16, lm_17, up_e, up_j, up_k, Nat.reduceAdd, Nat.add_zero, hL.2.1, hF.2.2.2.1, v0, w0, c_put hL.1.1 (show 12 ≤ 600 by omega) (show b < 12 by omega), c_put hL.1.2.1 (show 12 ≤ 600 by omega) (show b < 12 by omega), c_put hL.1.2.2.1 (show 12 ≤ 600 by omega) (show b < 12 by omega), c_put hL.1.2.2.2 (show 12 ≤ 600 by omega) (show b < 12 by omega)]
            exact ⟨_, _, 0, rfl, rfl, Or.inl ⟨_, rfl, rfl⟩, fun v hv => (by cases hv; rfl), (by simp (disch := omega) only [up_e, up_j, up_k, Nat.reduceAdd, Nat.add_zero]; rw [u2 0 0 (by omega)]; exact h00), RO_rel hG⟩
        · have ew : fX11_isStart x4 σ = some (ι 0) := by
            unfold fX11_isStart
            rw [l_1, l_999]
            exact c_inAB (by omega) (by omega) hx
          have es : ¬ ι s < ι 0 := by simp (disch := omega) only [l_0, l_1, l_2, l_3, l_4, l_5, l_6, l_7, l_8, l_9, l_10, l_12, l_13, l_24, l_31, l_32, l_40, l_41, l_42, l_44, l_45, l_48, l_49, l_50, l_57, l_59, l_60, l_65, l_88, l_89, l_97, l_98, l_99, l_100, l_105, l_108, l_109, l_114, l_118, l_120, l_122, l_144, l_255, l_269, l_279, l_339, l_400, l_600, l_999, l_1000, l_2373, l_2712, ι_lt, ι_le, ι_eq, ι_add, ι_mul, ι_sub, ι_div, ι_n, ι_m1, m1_ι, m1_lt, m1_le, lt_m1, le_m1, m1_lt_m1, m1_le_m1, m1_add1, neg_ι1, ι_addm, ι_addn, Bool.false_eq_true, Nat.not_lt_zero, Nat.add_zero, Nat.zero_add, Nat.mul_zero, Nat.reduceMul, Nat.reduceAdd, Nat.reduceSub, Nat.reduceLT, Nat.reduceLeDiff, Nat.reduceEqDiff, Nat.reduceDiv, Nat.reduceBEq, Nat.reduceBNe, false_or, or_false, true_or, or_true, and_true, true_and, false_and, and_false, not_false_eq_true, not_true_eq_false, if_true, if_false, if_pos, if_neg, Option.bind_some, ite_false, ite_true, eq_self, reduceIte]
          have es2 : ¬ (3 : Int32) < ι s := by rw [l_3, ι_lt (by omega) (by omega)]; omega
          simp only [ew, es, es2, if_false, j_0, j_3, j_1, j_999, r_inAB hs1 hs2 (show 3 < 2147483648 by omega), r_inAB_no (show 999 < 2147483648 by omega) (show 1 ≤ 999 by omega) hx, Option.bind_some, if_neg e10, l_0, if_true, ref_fails]
          rw [if_neg (show ¬ ι 1 = ι 0 from e10)]
          exact ⟨_, _, 2, rfl, rfl, Or.inr (Or.inr (Or.inl ⟨rfl, rfl⟩)), fun v hv => (by cases hv), z_bad, Rel_0 hR _⟩
      · have hc : ∀ {α : Type} (u v : α), (if x3 < 0 then u else (if (3 : Int32) < x3 then u else v)) = u := fun u v => by
          rw [l_0, l_3]; exact c_inAB (by omega) (by omega) hx
        rw [hc]
        simp only [j_0, j_3, r_inAB_no (show 3 < 2147483648 by omega) (show 0 ≤ 3 by omega) hx, Option.bind_some, l_0, if_true, ref_fails]
        exact ⟨_, _, 2, rfl, rfl, Or.inr (Or.inr (Or.inl ⟨rfl, rfl⟩)), fun v hv => (by cases hv), z_bad, Rel_0 hR _⟩
    · rw [c_reqLeaf_no hn hV hx, r_isLeaf_no hr.1 hr.2.1 hx]
      simp only [Option.bind_some, l_0, if_true, ref_fails]
      exact ⟨_, _, 1, rfl, rfl, Or.inr (Or.inl ⟨rfl, rfl⟩), fun v hv => (by cases hv), z_bad, Rel_0 hR _⟩
  · rw [c_reqLeaf_no hn hV hx, r_isLeaf_no hr.1 hr.2.1 hx]
    simp only [Option.bind_some, l_0, if_true, ref_fails]
    exact ⟨_, _, 1, rfl, rfl, Or.inr (Or.inl ⟨rfl, rfl⟩), fun v hv => (by cases hv), z_bad, Rel_0 hR _⟩
theorem add_sim {σ τ : Mem} {k n a b d t : Nat} {x1 x2 x3 : Int32} (hO : RO σ τ k n a b d t) (hd : d < 60) (hs : ScV n a x1 x2 x3) : ∃ ρ υ, fX11_addScan 0 x1 x2 x3 σ = some (.inr (ι d), ρ) ∧ fX12_adds x1 x2 x3 τ = some (ι d, υ) ∧ υ 0 0 = τ 0 0 ∧ Rel ρ υ := by
  obtain ⟨ρ, υ, e1, e2, hO2, u1, u2⟩ := keep_RO hO
  have hG := scan_RO hO2 hd hs
  obtain ⟨hr, hF, hV, hL, hC, hW⟩ := hO
  have v0 := hO2.2.2.2.2.1.2.1
  have w0 := hO2.2.1.2.2.2.2.2.2.1
  refine ⟨_, _, ?_, ?_, ?_, RO_rel hG⟩
  · unfold fX11_addScan fX5_add fX5_takesScan fX5_put fX5_size
    simp (disch := omega) only [e1, l_0, l_1, l_2, l_3, l_4, l_5, l_6, l_7, l_8, l_9, l_10, l_12, l_13, l_24, l_31, l_32, l_40, l_41, l_42, l_44, l_45, l_48, l_49, l_50, l_57, l_59, l_60, l_65, l_88, l_89, l_97, l_98, l_99, l_100, l_105, l_108, l_109, l_114, l_118, l_120, l_122, l_144, l_255, l_269, l_279, l_339, l_400, l_600, l_999, l_1000, l_2373, l_2712, ι_lt, ι_le, ι_eq, ι_add, ι_mul, ι_sub, ι_div, ι_n, ι_m1, m1_ι, m1_lt, m1_le, lt_m1, le_m1, m1_lt_m1, m1_le_m1, m1_add1, neg_ι1, ι_addm, ι_addn, Bool.false_eq_true, Nat.not_lt_zero, Nat.add_zero, Nat.zero_add, Nat.mul_zero, Nat.reduceMul, Nat.reduceAdd, Nat.reduceSub, Nat.reduceLT, Nat.reduceLeDiff, Nat.reduceEqDiff, Nat.reduceDiv, Nat.reduceBEq, Nat.reduceBNe, false_or, or_false, true_or, or_true, and_true, true_and, false_and, and_false, not_false_eq_true, not_true_eq_false, if_true, if_false, if_pos, if_neg, Option.bind_some, ite_false, ite_true, eq_self, reduceIte, up_e, up_j, up_k, Nat.reduceAdd, Nat.add_zero, hC.2.1, v0, c_put hC.1.1 (show 60 ≤ 600 by omega) hd, c_put hC.1.2.1 (show 60 ≤ 600 by omega) hd, c_put hC.1.2.2 (show 60 ≤ 600 by omega) hd, Nat.add_sub_cancel]
  · unfold fX12_adds
    simp (disch := omega) only [e2, l_0, l_1, l_2, l_3, l_4, l_5, l_6, l_7, l_8, l_9, l_10, l_12, l_13, l_24, l_31, l_32, l_40, l_41, l_42, l_44, l_45, l_48, l_49, l_50, l_57, l_59, l_60, l_65, l_88, l_89, l_97, l_98, l_99, l_100, l_105, l_108, l_109, l_114, l_118, l_120, l_122, l_144, l_255, l_269, l_279, l_339, l_400, l_600, l_999, l_1000, l_2373, l_2712, ι_lt, ι_le, ι_eq, ι_add, ι_mul, ι_sub, ι_div, ι_n, ι_m1, m1_ι, m1_lt, m1_le, lt_m1, le_m1, m1_lt_m1, m1_le_m1, m1_add1, neg_ι1, ι_addm, ι_addn, Bool.false_eq_true, Nat.not_lt_zero, Nat.add_zero, Nat.zero_add, Nat.mul_zero, Nat.reduceMul, Nat.reduceAdd, Nat.reduceSub, Nat.reduceLT, Nat.reduceLeDiff, Nat.reduceEqDiff, Nat.reduceDiv, Nat.reduceBEq, Nat.reduceBNe, false_or, or_false, true_or, or_true, and_true, true_and, false_and, and_false, not_false_eq_true, not_true_eq_false, if_true, if_false, if_pos, if_neg, Option.bind_some, ite_false, ite_true, eq_self, reduceIte, lm_0, lm_1, lm_2, lm_3, lm_4, lm_5, lm_6, lm_7, lm_8, lm_9, lm_10, lm_11, lm_12, lm_13, lm_14, lm_15, lm_16, lm_17, up_e, up_j, up_k, Nat.reduceAdd, Nat.add_zero, w0, Nat.add_sub_cancel]
  · simp (disch := omega) only [up_e, up_j, up_k, Nat.reduceAdd, Nat.add_zero]
    exact u2 0 0 (by omega)
theorem add_full {σ : Mem} {d : Nat} {F : Nat → Int32} (hC : CR σ 62 d F) (hd : d = 60) (x1 x2 x3 : Int32) : fX11_addScan 0 x1 x2 x3 σ = some (.inl 0, σ) := by
  unfold fX11_addScan fX5_takesScan
  subst hd
  simp (disch := omega) only [Nat.zero_add, hC.2.1, l_0, l_1, l_2, l_3, l_4, l_5, l_6, l_7, l_8, l_9, l_10, l_12, l_13, l_24, l_31, l_32, l_40, l_41, l_42, l_44, l_45, l_48, l_49, l_50, l_57, l_59, l_60, l_65, l_88, l_89, l_97, l_98, l_99, l_100, l_105, l_108, l_109, l_114, l_118, l_120, l_122, l_144, l_255, l_269, l_279, l_339, l_400, l_600, l_999, l_1000, l_2373, l_2712, ι_lt, ι_le, ι_eq, ι_add, ι_mul, ι_sub, ι_div, ι_n, ι_m1, m1_ι, m1_lt, m1_le, lt_m1, le_m1, m1_lt_m1, m1_le_m1, m1_add1, neg_ι1, ι_addm, ι_addn, Bool.false_eq_true, Nat.not_lt_zero, Nat.add_zero, Nat.zero_add, Nat.mul_zero, Nat.reduceMul, Nat.reduceAdd, Nat.reduceSub, Nat.reduceLT, Nat.reduceLeDiff, Nat.reduceEqDiff, Nat.reduceDiv, Nat.reduceBEq, Nat.reduceBNe, false_or, or_false, true_or, or_true, and_true, true_and, false_and, and_false, not_false_eq_true, not_true_eq_false, if_true, if_false, if_pos, if_neg, Option.bind_some, ite_false, ite_true, eq_self, reduceIte, Nat.le_refl]
theorem sim9 : Sim9 Rel := by
  intro σ τ x1 x2 hR
  replace hR := Rel_0 hR 0
  unfold fX12_scanLeaf fX11_scanLeaf
  have h00 : up τ 0 0 0 0 0 = 0 := up_e _ _ _ _
  generalize up τ 0 0 (0 : Int32) = τ at *
  obtain ⟨k, n, a, b, d, t, hO⟩ := RO_of hR
  have hO' := hO
  obtain ⟨hr, hF, hV, hL, hC, hW⟩ := hO
  have hn := hr.1.2.2.2.2
  have hd := hF.2.2.2.2.2.2.2.1
  have e10 : ¬ (ι 1 = (0 : Int32)) := by decide
  have ez : ¬ ((2 : Int32) < 0 ∨ lm 3 ≤ (2 : Int32).toNatClampNeg) := by decide
  have f2 : τ 3 (2 : Int32).toNatClampNeg = ι d := hF.2.2.2.2.2.2.1
  rcases leaf_cases x1 n with ⟨i, hi, rfl⟩ | hx
  · simp only [c_reqLeaf hn hV hi, r_isLeaf hr.1 hr.2.1 (show i < 2147483648 by omega), if_pos hi, Option.bind_some, if_neg e10]
    rcases leaf_cases x2 2 with ⟨s, hs, rfl⟩ | hx
    · simp only [c_reqSide hs, r_isSide hs, Option.bind_some, if_neg e10, Nat.zero_add, c_isPresent hn hV hi, r_isPresent (show i < 60 by omega), if_neg ez, f2]
      by_cases hp : pB (τ 3) i = true
      · simp only [hp, if_true, if_neg e10]
        by_cases h60 : d = 60
        · rw [add_full hC h60, if_pos (by rw [h60]; rfl), Option.bind_some, ref_fails]
          exact ⟨_, _, 3, rfl, rfl, Or.inr (Or.inr (Or.inr ⟨rfl, rfl⟩)), fun v hv => (by cases hv), z_bad, Rel_0 hR _⟩
        · rw [if_neg (by rw [l_60, ι_eq (by omega) (by omega)]; exact h60)]
          obtain ⟨ρ, υ, e1, e2, e3, e4⟩ := add_sim (x1 := (0 : Int32)) (x2 := ι i) (x3 := ι s) hO' (by omega) (Or.inl ⟨rfl, i, s, hi, hs, rfl, rfl⟩)
          rw [e1, e2]
          exact ⟨_, _, 0, rfl, rfl, Or.inl ⟨_, rfl, rfl⟩, fun v hv => (by cases hv; rfl), e3.trans h00, e4⟩
      · simp only [hp, l_0, if_false, if_true, ref_fails, Option.bind_some, Bool.false_eq_true]
        exact ⟨_, _, 3, rfl, rfl, Or.inr (Or.inr (Or.inr ⟨rfl, rfl⟩)), fun v hv => (by cases hv), z_bad, Rel_0 hR _⟩
    · simp only [c_reqSide_no hx, r_isSide_no hx, Option.bind_some, l_0, if_true, ref_fails]
      exact ⟨_, _, 2, rfl, rfl, Or.inr (Or.inr (Or.inl ⟨rfl, rfl⟩)), fun v hv => (by cases hv), z_bad, Rel_0 hR _⟩
  · rw [c_reqLeaf_no hn hV hx, r_isLeaf_no hr.1 hr.2.1 hx]
    simp only [Option.bind_some, l_0, if_true, ref_fails]
    exact ⟨_, _, 1, rfl, rfl, Or.inr (Or.inl ⟨rfl, rfl⟩), fun v hv => (by cases hv), z_bad, Rel_0 hR _⟩
theorem c_reqOpen {σ : Mem} {k n a : Nat} {q F : Nat → Int32} (hn : n ≤ 60) (hV : VR σ 42 q k n a F) {i : Nat} (hi : i < cf (pB F) 0 n + 1) : fX11_requireOpening 0 (ι i) σ = some (.inr 0, σ) := by
  have := cf_le (pB F) n 0
  unfold fX11_requireOpening
  rw [Nat.zero_add, c_openings hn hV]
  simp (disch := omega) only [l_0, l_1, l_2, l_3, l_4, l_5, l_6, l_7, l_8, l_9, l_10, l_12, l_13, l_24, l_31, l_32, l_40, l_41, l_42, l_44, l_45, l_48, l_49, l_50, l_57, l_59, l_60, l_65, l_88, l_89, l_97, l_98, l_99, l_100, l_105, l_108, l_109, l_114, l_118, l_120, l_122, l_144, l_255, l_269, l_279, l_339, l_400, l_600, l_999, l_1000, l_2373, l_2712, ι_lt, ι_le, ι_eq, ι_add, ι_mul, ι_sub, ι_div, ι_n, ι_m1, m1_ι, m1_lt, m1_le, lt_m1, le_m1, m1_lt_m1, m1_le_m1, m1_add1, neg_ι1, ι_addm, ι_addn, Bool.false_eq_true, Nat.not_lt_zero, Nat.add_zero, Nat.zero_add, Nat.mul_zero, Nat.reduceMul, Nat.reduceAdd, Nat.reduceSub, Nat.reduceLT, Nat.reduceLeDiff, Nat.reduceEqDiff, Nat.reduceDiv, Nat.reduceBEq, Nat.reduceBNe, false_or, or_false, true_or, or_true, and_true, true_and, false_and, and_false, not_false_eq_true, not_true_eq_false, if_true, if_false, if_pos, if_neg, Option.bind_some, ite_false, ite_true, eq_self, reduceIte]
theorem c_reqOpen_no {σ : Mem} {k n a : Nat} {q F : Nat → Int32} (hn : n ≤ 60) (hV : VR σ 42 q k n a F) {x : Int32} (hx : ∀ i, i < cf (pB F) 0 n + 1 → x ≠ ι i) : fX11_requireOpening 0 x σ = some (.inl 2, σ) := by
  have := cf_le (pB F) n 0
  unfold fX11_requireOpening
  rw [Nat.zero_add, c_openings hn hV]
  rcases ι_cases x with h | ⟨i, h1, h2⟩
  · simp only [l_0, h, if_true]
  · subst h2
    have : ¬ i < cf (pB F) 0 n + 1 := fun z => hx i z rfl
    simp (disch := omega) only [l_0, l_1, l_2, l_3, l_4, l_5, l_6, l_7, l_8, l_9, l_10, l_12, l_13, l_24, l_31, l_32, l_40, l_41, l_42, l_44, l_45, l_48, l_49, l_50, l_57, l_59, l_60, l_65, l_88, l_89, l_97, l_98, l_99, l_100, l_105, l_108, l_109, l_114, l_118, l_120, l_122, l_144, l_255, l_269, l_279, l_339, l_400, l_600, l_999, l_1000, l_2373, l_2712, ι_lt, ι_le, ι_eq, ι_add, ι_mul, ι_sub, ι_div, ι_n, ι_m1, m1_ι, m1_lt, m1_le, lt_m1, le_m1, m1_lt_m1, m1_le_m1, m1_add1, neg_ι1, ι_addm, ι_addn, Bool.false_eq_true, Nat.not_lt_zero, Nat.add_zero, Nat.zero_add, Nat.mul_zero, Nat.reduceMul, Nat.reduceAdd, Nat.reduceSub, Nat.reduceLT, Nat.reduceLeDiff, Nat.reduceEqDiff, Nat.reduceDiv, Nat.reduceBEq, Nat.reduceBNe, false_or, or_false, true_or, or_true, and_true, true_and, false_and, and_false, not_false_eq_true, not_true_eq_false, if_true, if_false, if_pos, if_neg, Option.bind_some, ite_false, ite_true, eq_self, reduceIte]
theorem r_isOpening_no {τ : Mem} {k n : Nat} (hQ : QI (τ 1) k n) (h3 : τ 0 3 = ι k) {x : Int32} (hx : ∀ i, i < cf (pB (τ 3)) 0 n + 1 → x ≠ ι i) : fX12_isOpening x τ = some (ι 0) := by
  rcases ι_cases x with h | ⟨i, h1, h2⟩
  · exact r_isOpening_neg hQ h3 h
  · subst h2
    rw [r_isOpening hQ h3 h1, if_neg (fun z => hx i z rfl)]
def lf (F : Nat → Int32) (n i : Nat) : Option Nat := if i = 0 then none else pl F n (ι (i - 1))
theorem c_left {σ : Mem} {v k n a : Nat} {q F : Nat → Int32} (hn : n ≤ 60) (hV : VR σ v q k n a F) {i : Nat} (hi : i < 2147483648) : fX10_leftOf v (ι i) σ = some (oi (lf F n i)) := by
  unfold fX10_leftOf lf
  by_cases h : i = 0
  · subst h
    rw [l_1, ι_0sub1, c_presentLeaf hn hV, pl_neg hn (by rw [m1_lt (by omega)]; trivial), if_pos rfl]; rfl
  · rw [l_1, ι_sub (by omega), c_presentLeaf hn hV, if_neg h]; rfl
theorem c_right {σ : Mem} {v k n a : Nat} {q F : Nat → Int32} (hn : n ≤ 60) (hV : VR σ v q k n a F) {i : Nat} (hi : i < 2147483648) : fX10_rightOf v (ι i) σ = some (oi (pl F n (ι i))) := by
  unfold fX10_rightOf
  rw [c_presentLeaf hn hV]; rfl
theorem r_left {τ : Mem} {k n : Nat} (hQ : QI (τ 1) k n) (h3 : τ 0 3 = ι k) {i : Nat} (hi : i < 2147483648) : fX12_leftOf (ι i) τ = some (oi (lf (τ 3) n i)) := by
  unfold fX12_leftOf lf
  by_cases h : i = 0
  · subst h
    rw [l_1, ι_0sub1, r_presentAt_neg hQ h3 (by rw [m1_lt (by omega)]; trivial), if_pos rfl]; rfl
  · rw [l_1, ι_sub (by omega), r_presentAt hQ h3 (by omega), if_neg h]; rfl
theorem r_right {τ : Mem} {k n : Nat} (hQ : QI (τ 1) k n) (h3 : τ 0 3 = ι k) {i : Nat} (hi : i < 2147483648) : fX12_rightOf (ι i) τ = some (oi (pl (τ 3) n (ι i))) := by
  unfold fX12_rightOf
  rw [r_presentAt hQ h3 hi]; rfl
theorem pl_some {F : Nat → Int32} {n i x : Nat} (hi : i < 2147483648) (hn : n ≤ 60) (h : pl F n (ι i) = some x) : x < n ∧ pB F x = true ∧ cf (pB F) 0 x = i := by
  unfold pl at h
  obtain ⟨h1, h2, h3, -⟩ := ff_some _ _ h
  have hc := cf_le (pB F) x 0
  rw [Bool.and_eq_true, decide_eq_true_eq, ι_eq (by omega) hi] at h3
  exact ⟨by omega, h3.1, h3.2⟩
theorem cf_mono (P : Nat → Bool) {x y : Nat} (h : x ≤ y) : cf P 0 x ≤ cf P 0 y := by
  induction h with
  | refl => exact Nat.le_refl _
  | @step m _ ih =>
    have := cf_last P m 0
    show cf P 0 x ≤ cf P 0 (m + 1)
    omega
theorem lf_lt {F : Nat → Int32} {n i x y : Nat} (hi : i < 2147483648) (hn : n ≤ 60) (h1 : lf F n i = some x) (h2 : pl F n (ι i) = some y) : x < y := by
  unfold lf at h1
  by_cases h : i = 0
  · rw [if_pos h] at h1; cases h1
  · rw [if_neg h] at h1
    obtain ⟨-, -, c1⟩ := pl_some (by omega) hn h1
    obtain ⟨-, -, c2⟩ := pl_some hi hn h2
    rcases Nat.lt_or_ge x y with q | q
    · exact q
    · have := cf_mono (pB F) q; omega
theorem lf_some {F : Nat → Int32} {n i x : Nat} (hi : i < 2147483648) (hn : n ≤ 60) (h1 : lf F n i = some x) : x < n ∧ pB F x = true := by
  unfold lf at h1
  by_cases h : i = 0
  · rw [if_pos h] at h1; cases h1
  · rw [if_neg h] at h1
    obtain ⟨c1, c2, -⟩ := pl_some (by omega) hn h1
    exact ⟨c1, c2⟩
theorem oi_none {o : Option Nat} (h : ∀ i, o = some i → i < 60) : (oi o = -1) = (o = none) := by
  cases o with
  | none => exact propext ⟨fun _ => rfl, fun _ => rfl⟩
  | some i =>
    have := h i rfl
    refine propext ⟨fun z => ?_, fun z => (by cases z)⟩
    have z : ι i = μ := z
    rw [ι_m1 (by omega)] at z
    exact z.elim
