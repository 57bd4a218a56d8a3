/-! PURE PART: what is uncovered, openings -/
def unB (F : Nat → Int32) (L : List En) (d p : Nat) : Bool := decide (cf (shB F L p) 0 d = 0)
theorem r_un_l {F : Nat → Int32} {L : List En} {n a d : Nat} : ∀ m n' p x (τ : Mem), p + m = L.length → m < n' → SX τ F L n a d → ∃ υ, fX12_uncovered_l13 n' (ι x) (ι p) τ = some (ι (x + cf (unB F L d) p m), ι L.length, υ) ∧ fr12 τ υ := by
  intro m
  induction m with
  | zero =>
    intro n' p x τ h hn' hX
    obtain ⟨n', rfl⟩ : ∃ k, n' = k + 1 := ⟨n' - 1, by omega⟩
    have hL := hX.2.2.2.1
    have hO := hX.2.2.2.2.2.2.2.1
    refine ⟨τ, ?_, fr12_refl τ⟩
    rw [fX12_uncovered_l13, hO.1]
    have e : p = L.length := by omega
    subst e
    simp (disch := omega) only [l_0, l_1, l_2, l_3, l_4, l_5, l_6, l_7, l_8, l_9, l_10, l_12, l_13, l_24, l_31, l_32, l_40, l_41, l_42, l_44, l_45, l_48, l_49, l_50, l_57, l_59, l_60, l_65, l_88, l_89, l_97, l_98, l_99, l_100, l_105, l_108, l_109, l_114, l_118, l_120, l_122, l_144, l_255, l_269, l_279, l_339, l_400, l_600, l_999, l_1000, l_2373, l_2712, ι_lt, ι_le, ι_eq, ι_add, ι_mul, ι_sub, ι_div, ι_n, ι_m1, m1_ι, m1_lt, m1_le, lt_m1, le_m1, m1_lt_m1, m1_le_m1, m1_add1, neg_ι1, ι_addm, ι_addn, Bool.false_eq_true, Nat.not_lt_zero, Nat.add_zero, Nat.zero_add, Nat.mul_zero, Nat.reduceMul, Nat.reduceAdd, Nat.reduceSub, Nat.reduceLT, Nat.reduceLeDiff, Nat.reduceEqDiff, Nat.reduceDiv, Nat.reduceBEq, Nat.reduceBNe, false_or, or_false, true_or, or_true, and_true, true_and, false_and, and_false, not_false_eq_true, not_true_eq_false, if_true, if_false, if_pos, if_neg, Option.bind_some, ite_false, ite_true, eq_self, reduceIte, cf, Nat.le_refl]
  | succ m ih =>
    intro n' p x τ h hn' hX
    obtain ⟨n', rfl⟩ : ∃ k, n' = k + 1 := ⟨n' - 1, by omega⟩
    have hL := hX.2.2.2.1
    have hd := hX.2.2.1
    have hO := hX.2.2.2.2.2.2.2.1
    obtain ⟨υ, a1, a2⟩ := r_showingOf (p := p) hX (by omega)
    have hc := cf_le (shB F L p) d 0
    rw [fX12_uncovered_l13, hO.1]
    by_cases hb : cf (shB F L p) 0 d = 0
    · obtain ⟨ω, b1, b2⟩ := ih n' (p + 1) (x + 1) υ (by omega) (by omega) (SX_12 hX a2)
      refine ⟨ω, ?_, fr12_trans a2 b2⟩
      simp (disch := omega) only [l_0, l_1, l_2, l_3, l_4, l_5, l_6, l_7, l_8, l_9, l_10, l_12, l_13, l_24, l_31, l_32, l_40, l_41, l_42, l_44, l_45, l_48, l_49, l_50, l_57, l_59, l_60, l_65, l_88, l_89, l_97, l_98, l_99, l_100, l_105, l_108, l_109, l_114, l_118, l_120, l_122, l_144, l_255, l_269, l_279, l_339, l_400, l_600, l_999, l_1000, l_2373, l_2712, ι_lt, ι_le, ι_eq, ι_add, ι_mul, ι_sub, ι_div, ι_n, ι_m1, m1_ι, m1_lt, m1_le, lt_m1, le_m1, m1_lt_m1, m1_le_m1, m1_add1, neg_ι1, ι_addm, ι_addn, Bool.false_eq_true, Nat.not_lt_zero, Nat.add_zero, Nat.zero_add, Nat.mul_zero, Nat.reduceMul, Nat.reduceAdd, Nat.reduceSub, Nat.reduceLT, Nat.reduceLeDiff, Nat.reduceEqDiff, Nat.reduceDiv, Nat.reduceBEq, Nat.reduceBNe, false_or, or_false, true_or, or_true, and_true, true_and, false_and, and_false, not_false_eq_true, not_true_eq_false, if_true, if_false, if_pos, if_neg, Option.bind_some, ite_false, ite_true, eq_self, reduceIte, a1, hb, cf, unB, decide_true]
      rw [b1]; congr 3; omega
    · obtain ⟨ω, b1, b2⟩ := ih n' (p + 1) x υ (by omega) (by omega) (SX_12 hX a2)
      refine ⟨ω, ?_, fr12_trans a2 b2⟩
      simp (disch := omega) only [l_0, l_1, l_2, l_3, l_4, l_5, l_6, l_7, l_8, l_9, l_10, l_12, l_13, l_24, l_31, l_32, l_40, l_41, l_42, l_44, l_45, l_48, l_49, l_50, l_57, l_59, l_60, l_65, l_88, l_89, l_97, l_98, l_99, l_100, l_105, l_108, l_109, l_114, l_118, l_120, l_122, l_144, l_255, l_269, l_279, l_339, l_400, l_600, l_999, l_1000, l_2373, l_2712, ι_lt, ι_le, ι_eq, ι_add, ι_mul, ι_sub, ι_div, ι_n, ι_m1, m1_ι, m1_lt, m1_le, lt_m1, le_m1, m1_lt_m1, m1_le_m1, m1_add1, neg_ι1, ι_addm, ι_addn, Bool.false_eq_true, Nat.not_lt_zero, Nat.add_zero, Nat.zero_add, Nat.mul_zero, Nat.reduceMul, Nat.reduceAdd, Nat.reduceSub, Nat.reduceLT, Nat.reduceLeDiff, Nat.reduceEqDiff, Nat.reduceDiv, Nat.reduceBEq, Nat.reduceBNe, false_or, or_false, true_or, or_true, and_true, true_and, false_and, and_false, not_false_eq_true, not_true_eq_false, if_true, if_false, if_pos, if_neg, Option.bind_some, ite_false, ite_true, eq_self, reduceIte, a1, hb, cf, unB, decide_false]
      rw [b1]
theorem c_un_l {σ : Mem} {F : Nat → Int32} {L : List En} {d : Nat} (hd : d ≤ 60) (hL : L.length ≤ 144) (hO : OC σ L) (hP : PC σ F L d) : ∀ m n' p x, p + m = L.length → m < n' → fX11_uncovered_l8 0 n' (ι x) (ι p) σ = some (ι (x + cf (unB F L d) p m), ι L.length) := by
  intro m
  induction m with
  | zero =>
    intro n' p x h hn'
    obtain ⟨n', rfl⟩ : ∃ k, n' = k + 1 := ⟨n' - 1, by omega⟩
    rw [fX11_uncovered_l8]
    unfold fX2_size
    have e : p = L.length := by omega
    subst e
    simp (disch := omega) only [l_0, l_1, l_2, l_3, l_4, l_5, l_6, l_7, l_8, l_9, l_10, l_12, l_13, l_24, l_31, l_32, l_40, l_41, l_42, l_44, l_45, l_48, l_49, l_50, l_57, l_59, l_60, l_65, l_88, l_89, l_97, l_98, l_99, l_100, l_105, l_108, l_109, l_114, l_118, l_120, l_122, l_144, l_255, l_269, l_279, l_339, l_400, l_600, l_999, l_1000, l_2373, l_2712, ι_lt, ι_le, ι_eq, ι_add, ι_mul, ι_sub, ι_div, ι_n, ι_m1, m1_ι, m1_lt, m1_le, lt_m1, le_m1, m1_lt_m1, m1_le_m1, m1_add1, neg_ι1, ι_addm, ι_addn, Bool.false_eq_true, Nat.not_lt_zero, Nat.add_zero, Nat.zero_add, Nat.mul_zero, Nat.reduceMul, Nat.reduceAdd, Nat.reduceSub, Nat.reduceLT, Nat.reduceLeDiff, Nat.reduceEqDiff, Nat.reduceDiv, Nat.reduceBEq, Nat.reduceBNe, false_or, or_false, true_or, or_true, and_true, true_and, false_and, and_false, not_false_eq_true, not_true_eq_false, if_true, if_false, if_pos, if_neg, Option.bind_some, ite_false, ite_true, eq_self, reduceIte, hO.1, cf, Nat.le_refl]
  | succ m ih =>
    intro n' p x h hn'
    obtain ⟨n', rfl⟩ : ∃ k, n' = k + 1 := ⟨n' - 1, by omega⟩
    have hc := cf_le (shB F L p) d 0
    rw [fX11_uncovered_l8, Nat.zero_add, Nat.zero_add, c_countShowing hd hL hP (by omega)]
    unfold fX2_size
    by_cases hb : cf (shB F L p) 0 d = 0
    · simp (disch := omega) only [l_0, l_1, l_2, l_3, l_4, l_5, l_6, l_7, l_8, l_9, l_10, l_12, l_13, l_24, l_31, l_32, l_40, l_41, l_42, l_44, l_45, l_48, l_49, l_50, l_57, l_59, l_60, l_65, l_88, l_89, l_97, l_98, l_99, l_100, l_105, l_108, l_109, l_114, l_118, l_120, l_122, l_144, l_255, l_269, l_279, l_339, l_400, l_600, l_999, l_1000, l_2373, l_2712, ι_lt, ι_le, ι_eq, ι_add, ι_mul, ι_sub, ι_div, ι_n, ι_m1, m1_ι, m1_lt, m1_le, lt_m1, le_m1, m1_lt_m1, m1_le_m1, m1_add1, neg_ι1, ι_addm, ι_addn, Bool.false_eq_true, Nat.not_lt_zero, Nat.add_zero, Nat.zero_add, Nat.mul_zero, Nat.reduceMul, Nat.reduceAdd, Nat.reduceSub, Nat.reduceLT, Nat.reduceLeDiff, Nat.reduceEqDiff, Nat.reduceDiv, Nat.reduceBEq, Nat.reduceBNe, false_or, or_false, true_or, or_true, and_true, true_and, false_and, and_false, not_false_eq_true, not_true_eq_false, if_true, if_false, if_pos, if_neg, Option.bind_some, ite_false, ite_true, eq_self, reduceIte, hO.1, hb, cf, unB, decide_true]
      rw [ih _ _ _ (by omega) (by omega)]; congr 3; omega
    · simp (disch := omega) only [l_0, l_1, l_2, l_3, l_4, l_5, l_6, l_7, l_8, l_9, l_10, l_12, l_13, l_24, l_31, l_32, l_40, l_41, l_42, l_44, l_45, l_48, l_49, l_50, l_57, l_59, l_60, l_65, l_88, l_89, l_97, l_98, l_99, l_100, l_105, l_108, l_109, l_114, l_118, l_120, l_122, l_144, l_255, l_269, l_279, l_339, l_400, l_600, l_999, l_1000, l_2373, l_2712, ι_lt, ι_le, ι_eq, ι_add, ι_mul, ι_sub, ι_div, ι_n, ι_m1, m1_ι, m1_lt, m1_le, lt_m1, le_m1, m1_lt_m1, m1_le_m1, m1_add1, neg_ι1, ι_addm, ι_addn, Bool.false_eq_true, Nat.not_lt_zero, Nat.add_zero, Nat.zero_add, Nat.mul_zero, Nat.reduceMul, Nat.reduceAdd, Nat.reduceSub, Nat.reduceLT, Nat.reduceLeDiff, Nat.reduceEqDiff, Nat.reduceDiv, Nat.reduceBEq, Nat.reduceBNe, false_or, or_false, true_or, or_true, and_true, true_and, false_and, and_false, not_false_eq_true, not_true_eq_false, if_true, if_false, if_pos, if_neg, Option.bind_some, ite_false, ite_true, eq_self, reduceIte, hO.1, hb, cf, unB, decide_false]
      rw [ih _ _ _ (by omega) (by omega)]
theorem sim37 : Sim37 Rel := by
  intro σ τ hR
  replace hR := Rel_0 hR 0
  unfold fX12_uncovered fX11_uncovered
  generalize up τ 0 0 (0 : Int32) = τ at *
  obtain ⟨k, n, a, b, d, t, hO⟩ := RO_of hR
  obtain ⟨ρ, υ, e1, e2, hO2, oc, pc, sx, f1, f2⟩ := scans_RO hO
  have hL := sx.2.2.2.1
  have hd := sx.2.2.1
  obtain ⟨ω, b1, b2⟩ := r_un_l _ FU 0 0 υ (by omega : 0 + (ordE (τ 3) n a).length = _) (by unfold FU; omega) sx
  simp only [e1, e2, Option.bind_some, l_0, b1, c_un_l hd hL oc pc _ FU 0 0 (by omega : 0 + (ordE (τ 3) n a).length = _) (by unfold FU; omega)]
  exact ⟨_, _, _, rfl, rfl, Rel_c (RO_rel hO2) (fun _ _ => rfl) (fr12_KT b2)⟩
theorem r_nu_l {F : Nat → Int32} {L : List En} {n a d : Nat} : ∀ m n' p (τ : Mem), p + m = L.length → m < n' → SX τ F L n a d → ∃ υ, (fX12_nextUncovered_l31 n' (ι p) τ).bind (fun q31 => match q31 with | .inl r => some r | .inr q31 => some ((-1 : Int32), q31.2)) = some (oi (ff (unB F L d) p m), υ) ∧ fr12 τ υ := by
  intro m
  induction m with
  | zero =>
    intro n' p τ h hn' hX
    obtain ⟨n', rfl⟩ : ∃ k, n' = k + 1 := ⟨n' - 1, by omega⟩
    have hL := hX.2.2.2.1
    have hO := hX.2.2.2.2.2.2.2.1
    refine ⟨τ, ?_, fr12_refl τ⟩
    rw [fX12_nextUncovered_l31, hO.1]
    simp (disch := omega) only [l_0, l_1, l_2, l_3, l_4, l_5, l_6, l_7, l_8, l_9, l_10, l_12, l_13, l_24, l_31, l_32, l_40, l_41, l_42, l_44, l_45, l_48, l_49, l_50, l_57, l_59, l_60, l_65, l_88, l_89, l_97, l_98, l_99, l_100, l_105, l_108, l_109, l_114, l_118, l_120, l_122, l_144, l_255, l_269, l_279, l_339, l_400, l_600, l_999, l_1000, l_2373, l_2712, ι_lt, ι_le, ι_eq, ι_add, ι_mul, ι_sub, ι_div, ι_n, ι_m1, m1_ι, m1_lt, m1_le, lt_m1, le_m1, m1_lt_m1, m1_le_m1, m1_add1, neg_ι1, ι_addm, ι_addn, Bool.false_eq_true, Nat.not_lt_zero, Nat.add_zero, Nat.zero_add, Nat.mul_zero, Nat.reduceMul, Nat.reduceAdd, Nat.reduceSub, Nat.reduceLT, Nat.reduceLeDiff, Nat.reduceEqDiff, Nat.reduceDiv, Nat.reduceBEq, Nat.reduceBNe, false_or, or_false, true_or, or_true, and_true, true_and, false_and, and_false, not_false_eq_true, not_true_eq_false, if_true, if_false, if_pos, if_neg, Option.bind_some, ite_false, ite_true, eq_self, reduceIte, ff, oi]
  | succ m ih =>
    intro n' p τ h hn' hX
    obtain ⟨n', rfl⟩ : ∃ k, n' = k + 1 := ⟨n' - 1, by omega⟩
    have hL := hX.2.2.2.1
    have hd := hX.2.2.1
    have hO := hX.2.2.2.2.2.2.2.1
    obtain ⟨υ, a1, a2⟩ := r_showingOf (p := p) hX (by omega)
    have hc := cf_le (shB F L p) d 0
    rw [fX12_nextUncovered_l31, hO.1]
    by_cases hb : cf (shB F L p) 0 d = 0
    · refine ⟨υ, ?_, a2⟩
      simp (disch := omega) only [l_0, l_1, l_2, l_3, l_4, l_5, l_6, l_7, l_8, l_9, l_10, l_12, l_13, l_24, l_31, l_32, l_40, l_41, l_42, l_44, l_45, l_48, l_49, l_50, l_57, l_59, l_60, l_65, l_88, l_89, l_97, l_98, l_99, l_100, l_105, l_108, l_109, l_114, l_118, l_120, l_122, l_144, l_255, l_269, l_279, l_339, l_400, l_600, l_999, l_1000, l_2373, l_2712, ι_lt, ι_le, ι_eq, ι_add, ι_mul, ι_sub, ι_div, ι_n, ι_m1, m1_ι, m1_lt, m1_le, lt_m1, le_m1, m1_lt_m1, m1_le_m1, m1_add1, neg_ι1, ι_addm, ι_addn, Bool.false_eq_true, Nat.not_lt_zero, Nat.add_zero, Nat.zero_add, Nat.mul_zero, Nat.reduceMul, Nat.reduceAdd, Nat.reduceSub, Nat.reduceLT, Nat.reduceLeDiff, Nat.reduceEqDiff, Nat.reduceDiv, Nat.reduceBEq, Nat.reduceBNe, false_or, or_false, true_or, or_true, and_true, true_and, false_and, and_false, not_false_eq_true, not_true_eq_false, if_true, if_false, if_pos, if_neg, Option.bind_some, ite_false, ite_true, eq_self, reduceIte, a1, hb, ff, unB, decide_true, oi]
    · obtain ⟨ω, b1, b2⟩ := ih n' (p + 1) υ (by omega) (by omega) (SX_12 hX a2)
      refine ⟨ω, ?_, fr12_trans a2 b2⟩
      simp (disch := omega) only [l_0, l_1, l_2, l_3, l_4, l_5, l_6, l_7, l_8, l_9, l_10, l_12, l_13, l_24, l_31, l_32, l_40, l_41, l_42, l_44, l_45, l_48, l_49, l_50, l_57, l_59, l_60, l_65, l_88, l_89, l_97, l_98, l_99, l_100, l_105, l_108, l_109, l_114, l_118, l_120, l_122, l_144, l_255, l_269, l_279, l_339, l_400, l_600, l_999, l_1000, l_2373, l_2712, ι_lt, ι_le, ι_eq, ι_add, ι_mul, ι_sub, ι_div, ι_n, ι_m1, m1_ι, m1_lt, m1_le, lt_m1, le_m1, m1_lt_m1, m1_le_m1, m1_add1, neg_ι1, ι_addm, ι_addn, Bool.false_eq_true, Nat.not_lt_zero, Nat.add_zero, Nat.zero_add, Nat.mul_zero, Nat.reduceMul, Nat.reduceAdd, Nat.reduceSub, Nat.reduceLT, Nat.reduceLeDiff, Nat.reduceEqDiff, Nat.reduceDiv, Nat.reduceBEq, Nat.reduceBNe, false_or, or_false, true_or, or_true, and_true, true_and, false_and, and_false, not_false_eq_true, not_true_eq_false, if_true, if_false, if_pos, if_neg, Option.bind_some, ite_false, ite_true, eq_self, reduceIte, a1, hb, ff, unB, decide_false]
      exact b1
theorem c_nu_l {σ : Mem} {F : Nat → Int32} {L : List En} {d : Nat} (hd : d ≤ 60) (hL : L.length ≤ 144) (hO : OC σ L) (hP : PC σ F L d) : ∀ m n' p, p + m = L.length → m < n' → (fX11_nextUncovered_l11 0 n' (ι p) σ).bind (fun q11 => match q11 with | .inl r => some r | .inr q11 => some (.inr (-1 : Int32), σ)) = some (.inr (oi (ff (unB F L d) p m)), σ) := by
  intro m
  induction m with
  | zero =>
    intro n' p h hn'
    obtain ⟨n', rfl⟩ : ∃ k, n' = k + 1 := ⟨n' - 1, by omega⟩
    rw [fX11_nextUncovered_l11]
    unfold fX2_size
    simp (disch := omega) only [l_0, l_1, l_2, l_3, l_4, l_5, l_6, l_7, l_8, l_9, l_10, l_12, l_13, l_24, l_31, l_32, l_40, l_41, l_42, l_44, l_45, l_48, l_49, l_50, l_57, l_59, l_60, l_65, l_88, l_89, l_97, l_98, l_99, l_100, l_105, l_108, l_109, l_114, l_118, l_120, l_122, l_144, l_255, l_269, l_279, l_339, l_400, l_600, l_999, l_1000, l_2373, l_2712, ι_lt, ι_le, ι_eq, ι_add, ι_mul, ι_sub, ι_div, ι_n, ι_m1, m1_ι, m1_lt, m1_le, lt_m1, le_m1, m1_lt_m1, m1_le_m1, m1_add1, neg_ι1, ι_addm, ι_addn, Bool.false_eq_true, Nat.not_lt_zero, Nat.add_zero, Nat.zero_add, Nat.mul_zero, Nat.reduceMul, Nat.reduceAdd, Nat.reduceSub, Nat.reduceLT, Nat.reduceLeDiff, Nat.reduceEqDiff, Nat.reduceDiv, Nat.reduceBEq, Nat.reduceBNe, false_or, or_false, true_or, or_true, and_true, true_and, false_and, and_false, not_false_eq_true, not_true_eq_false, if_true, if_false, if_pos, if_neg, Option.bind_some, ite_false, ite_true, eq_self, reduceIte, hO.1, ff, oi]
  | succ m ih =>
    intro n' p h hn'
    obtain ⟨n', rfl⟩ : ∃ k, n' = k + 1 := ⟨n' - 1, by omega⟩
    have hc := cf_le (shB F L p) d 0
    rw [fX11_nextUncovered_l11, Nat.zero_add, Nat.zero_add, c_countShowing hd hL hP (by omega)]
    unfold fX2_size
    by_cases hb : cf (shB F L p) 0 d = 0
    · simp (disch := omega) only [l_0, l_1, l_2, l_3, l_4, l_5, l_6, l_7, l_8, l_9, l_10, l_12, l_13, l_24, l_31, l_32, l_40, l_41, l_42, l_44, l_45, l_48, l_49, l_50, l_57, l_59, l_60, l_65, l_88, l_89, l_97, l_98, l_99, l_100, l_105, l_108, l_109, l_114, l_118, l_120, l_122, l_144, l_255, l_269, l_279, l_339, l_400, l_600, l_999, l_1000, l_2373, l_2712, ι_lt, ι_le, ι_eq, ι_add, ι_mul, ι_sub, ι_div, ι_n, ι_m1, m1_ι, m1_lt, m1_le, lt_m1, le_m1, m1_lt_m1, m1_le_m1, m1_add1, neg_ι1, ι_addm, ι_addn, Bool.false_eq_true, Nat.not_lt_zero, Nat.add_zero, Nat.zero_add, Nat.mul_zero, Nat.reduceMul, Nat.reduceAdd, Nat.reduceSub, Nat.reduceLT, Nat.reduceLeDiff, Nat.reduceEqDiff, Nat.reduceDiv, Nat.reduceBEq, Nat.reduceBNe, false_or, or_false, true_or, or_true, and_true, true_and, false_and, and_false, not_false_eq_true, not_true_eq_false, if_true, if_false, if_pos, if_neg, Option.bind_some, ite_false, ite_true, eq_self, reduceIte, hO.1, hb, ff, unB, decide_true, oi]
    · simp (disch := omega) only [l_0, l_1, l_2, l_3, l_4, l_5, l_6, l_7, l_8, l_9, l_10, l_12, l_13, l_24, l_31, l_32, l_40, l_41, l_42, l_44, l_45, l_48, l_49, l_50, l_57, l_59, l_60, l_65, l_88, l_89, l_97, l_98, l_99, l_100, l_105, l_108, l_109, l_114, l_118, l_120, l_122, l_144, l_255, l_269, l_279, l_339, l_400, l_600, l_999, l_1000, l_2373, l_2712, ι_lt, ι_le, ι_eq, ι_add, ι_mul, ι_sub, ι_div, ι_n, ι_m1, m1_ι, m1_lt, m1_le, lt_m1, le_m1, m1_lt_m1, m1_le_m1, m1_add1, neg_ι1, ι_addm, ι_addn, Bool.false_eq_true, Nat.not_lt_zero, Nat.add_zero, Nat.zero_add, Nat.mul_zero, Nat.reduceMul, Nat.reduceAdd, Nat.reduceSub, Nat.reduceLT, Nat.reduceLeDiff, Nat.reduceEqDiff, Nat.reduceDiv, Nat.reduceBEq, Nat.reduceBNe, false_or, or_false, true_or, or_true, and_true, true_and, false_and, and_false, not_false_eq_true, not_true_eq_false, if_true, if_false, if_pos, if_neg, Option.bind_some, ite_false, ite_true, eq_self, reduceIte, hO.1, hb, ff, unB, decide_false]
      exact ih _ _ (by omega) (by omega)
theorem c_reqStart {σ ρ : Mem} {L : List En} (h : fX2_follow 360 42 σ = some ρ) (hL : L.length ≤ 144) (oc : OC ρ L) {i : Nat} (hi : i ≤ L.length) : fX11_requireStartPlace 0 (ι i) σ = some (.inr 0, ρ) := by
  unfold fX11_requireStartPlace fX2_size
  simp (disch := omega) only [Nat.zero_add, h, oc.1, l_0, l_1, l_2, l_3, l_4, l_5, l_6, l_7, l_8, l_9, l_10, l_12, l_13, l_24, l_31, l_32, l_40, l_41, l_42, l_44, l_45, l_48, l_49, l_50, l_57, l_59, l_60, l_65, l_88, l_89, l_97, l_98, l_99, l_100, l_105, l_108, l_109, l_114, l_118, l_120, l_122, l_144, l_255, l_269, l_279, l_339, l_400, l_600, l_999, l_1000, l_2373, l_2712, ι_lt, ι_le, ι_eq, ι_add, ι_mul, ι_sub, ι_div, ι_n, ι_m1, m1_ι, m1_lt, m1_le, lt_m1, le_m1, m1_lt_m1, m1_le_m1, m1_add1, neg_ι1, ι_addm, ι_addn, Bool.false_eq_true, Nat.not_lt_zero, Nat.add_zero, Nat.zero_add, Nat.mul_zero, Nat.reduceMul, Nat.reduceAdd, Nat.reduceSub, Nat.reduceLT, Nat.reduceLeDiff, Nat.reduceEqDiff, Nat.reduceDiv, Nat.reduceBEq, Nat.reduceBNe, false_or, or_false, true_or, or_true, and_true, true_and, false_and, and_false, not_false_eq_true, not_true_eq_false, if_true, if_false, if_pos, if_neg, Option.bind_some, ite_false, ite_true, eq_self, reduceIte]
theorem c_reqStart_no {σ ρ : Mem} {L : List En} (h : fX2_follow 360 42 σ = some ρ) (hL : L.length ≤ 144) (oc : OC ρ L) {x : Int32} (hx : ∀ i, i < L.length + 1 → x ≠ ι i) : fX11_requireStartPlace 0 x σ = some (.inl 1, ρ) := by
  unfold fX11_requireStartPlace fX2_size
  rw [Nat.zero_add, Nat.zero_add, h, Option.bind_some, oc.1, Option.bind_some]
  rcases ι_cases x with h | ⟨i, h1, h2⟩
  · simp only [l_0, h, if_true]
  · subst h2
    have : ¬ i < L.length + 1 := fun z => hx i z rfl
    simp (disch := omega) only [l_0, l_1, l_2, l_3, l_4, l_5, l_6, l_7, l_8, l_9, l_10, l_12, l_13, l_24, l_31, l_32, l_40, l_41, l_42, l_44, l_45, l_48, l_49, l_50, l_57, l_59, l_60, l_65, l_88, l_89, l_97, l_98, l_99, l_100, l_105, l_108, l_109, l_114, l_118, l_120, l_122, l_144, l_255, l_269, l_279, l_339, l_400, l_600, l_999, l_1000, l_2373, l_2712, ι_lt, ι_le, ι_eq, ι_add, ι_mul, ι_sub, ι_div, ι_n, ι_m1, m1_ι, m1_lt, m1_le, lt_m1, le_m1, m1_lt_m1, m1_le_m1, m1_add1, neg_ι1, ι_addm, ι_addn, Bool.false_eq_true, Nat.not_lt_zero, Nat.add_zero, Nat.zero_add, Nat.mul_zero, Nat.reduceMul, Nat.reduceAdd, Nat.reduceSub, Nat.reduceLT, Nat.reduceLeDiff, Nat.reduceEqDiff, Nat.reduceDiv, Nat.reduceBEq, Nat.reduceBNe, false_or, or_false, true_or, or_true, and_true, true_and, false_and, and_false, not_false_eq_true, not_true_eq_false, if_true, if_false, if_pos, if_neg, Option.bind_some, ite_false, ite_true, eq_self, reduceIte]
theorem sim38 : Sim38 Rel := by
  intro σ τ x1 hR
  replace hR := Rel_0 hR 0
  unfold fX12_nextUncovered fX11_nextUncovered
  have h00 : up τ 0 0 0 0 0 = 0 := up_e _ _ _ _
  generalize up τ 0 0 (0 : Int32) = τ at *
  obtain ⟨k, n, a, b, d, t, hO⟩ := RO_of hR
  obtain ⟨ρ, υ, e1, e2, hO2, oc, ot, f1, f2⟩ := ord_RO hO
  have hL := ordE_len (F := τ 3) hO.1.1.2.2.2.2 hO.2.1.2.1 hO.2.1.2.2.1
  have hR2 := RO_rel hO2
  have u0 : υ 0 0 = 0 := (f2 0 0 (by omega)).trans h00
  have u3 : υ 3 = τ 3 := fr8_3 f2
  have e10 : ¬ (ι 1 = (0 : Int32)) := by decide
  have hd := hO.2.1.2.2.2.2.2.2.2.1
  rw [e2, Option.bind_some, ot.1]
  rcases leaf_cases x1 ((ordE (τ 3) n a).length + 1) with ⟨i, hi, rfl⟩ | hx
  · obtain ⟨ρ', υ', g1, g2, hO3, oc', pc', sx', w1, w2⟩ := scans_RO hO2
    have sx : SX υ (τ 3) (ordE (τ 3) n a) n a d := ⟨hO.1.1.2.2.2.2, hO.2.1.2.1, hd, hL, ordE_ent hO.1.1.2.2.2.2 hO.2.1.2.1 hO.2.1.2.2.1, rfl, u3, ot, hO.2.1.2.2.2.2.2.2.2.2.1, hO.2.1.2.2.2.2.2.2.1⟩
    rw [u3] at pc' oc'
    obtain ⟨ω, b1, b2⟩ := r_nu_l ((ordE (τ 3) n a).length - i) FU i υ (by omega) (by unfold FU; omega) sx
    have c1 := c_nu_l hd hL oc' pc' ((ordE (τ 3) n a).length - i) FU i (by omega) (by unfold FU; omega)
    rw [r_inC (by omega) (by omega), Option.bind_some, if_neg e10, c_reqStart e1 hL oc (by omega), Option.bind_some]
    simp only [g1, Option.bind_some]
    exact ⟨_, _, 0, c1, b1, Or.inl ⟨_, rfl, rfl⟩, fun v hv => (by cases hv; rfl), z_ok ((b2 0 0 (by omega)).trans u0), Rel_c hR2 (fun j hj => w1 j (by unfold KK RK at hj; omega)) (fr12_KT b2)⟩
  · rw [c_reqStart_no e1 hL oc hx, r_inC_no (by omega) hx]
    simp only [Option.bind_some, l_0, if_true, ref_fails]
    exact ⟨_, _, 1, rfl, rfl, Or.inr ⟨rfl, rfl⟩, fun v hv => (by cases hv), z_bad, Rel_0 hR2 _⟩
def opn (F : Nat → Int32) (L : List En) (p : Nat) : Nat := cf (pB F) 0 ((L.getD p (0, none)).1 / 2) + (L.getD p (0, none)).1 % 2
def ob (F : Nat → Int32) (L : List En) (x : Nat) (o : Option Nat) : Bool := match o with | none => false | some p => decide (opn F L p = x)
def opB (F : Nat → Int32) (L : List En) (x c : Nat) : Bool := ob F L x (sh0 F L c) || ob F L x (sh1 F L c)
theorem getD_some {L : List En} {p : Nat} {e : En} (h : L[p]? = some e) : L.getD p (0, none) = e := by
  rw [List.getD_eq_getElem?_getD, h]; rfl
theorem r_so29_1 {τ : Mem} {F : Nat → Int32} {L : List En} {n a d x : Nat} (y z : Int32) (hX : SX τ F L n a d) {o : Option Nat} {i : Nat} (hi : i < 2) (ho : τ 12 i = oi o) (hb : ∀ p, o = some p → p < L.length) (hx : x < 2147483648) (b : Bool) (n' : Nat) : fX12_scansOn_l29 (ι x) y z (n' + 1) (if b then ι 1 else ι 0) (ι i) τ = fX12_scansOn_l29 (ι x) y z n' (if b || ob F L x o then ι 1 else ι 0) (ι (i + 1)) τ := by
  obtain ⟨hn, ha, hd, hL, hE, hLe, h3, hO, hS, h2⟩ := hX
  rw [fX12_scansOn_l29]
  cases b with
  | true =>
    simp (disch := omega) only [l_0, l_1, l_2, l_3, l_4, l_5, l_6, l_7, l_8, l_9, l_10, l_12, l_13, l_24, l_31, l_32, l_40, l_41, l_42, l_44, l_45, l_48, l_49, l_50, l_57, l_59, l_60, l_65, l_88, l_89, l_97, l_98, l_99, l_100, l_105, l_108, l_109, l_114, l_118, l_120, l_122, l_144, l_255, l_269, l_279, l_339, l_400, l_600, l_999, l_1000, l_2373, l_2712, ι_lt, ι_le, ι_eq, ι_add, ι_mul, ι_sub, ι_div, ι_n, ι_m1, m1_ι, m1_lt, m1_le, lt_m1, le_m1, m1_lt_m1, m1_le_m1, m1_add1, neg_ι1, ι_addm, ι_addn, Bool.false_eq_true, Nat.not_lt_zero, Nat.add_zero, Nat.zero_add, Nat.mul_zero, Nat.reduceMul, Nat.reduceAdd, Nat.reduceSub, Nat.reduceLT, Nat.reduceLeDiff, Nat.reduceEqDiff, Nat.reduceDiv, Nat.reduceBEq, Nat.reduceBNe, false_or, or_false, true_or, or_true, and_true, true_and, false_and, and_false, not_false_eq_true, not_true_eq_false, if_true, if_false, if_pos, if_neg, Option.bind_some, ite_false, ite_true, eq_self, reduceIte, lm_0, lm_1, lm_2, lm_3, lm_4, lm_5, lm_6, lm_7, lm_8, lm_9, lm_10, lm_11, lm_12, lm_13, lm_14, lm_15, lm_16, lm_17, Bool.true_or]
  | false =>
    cases o with
    | none =>
      simp (disch := omega) only [l_0, l_1, l_2, l_3, l_4, l_5, l_6, l_7, l_8, l_9, l_10, l_12, l_13, l_24, l_31, l_32, l_40, l_41, l_42, l_44, l_45, l_48, l_49, l_50, l_57, l_59, l_60, l_65, l_88, l_89, l_97, l_98, l_99, l_100, l_105, l_108, l_109, l_114, l_118, l_120, l_122, l_144, l_255, l_269, l_279, l_339, l_400, l_600, l_999, l_1000, l_2373, l_2712, ι_lt, ι_le, ι_eq, ι_add, ι_mul, ι_sub, ι_div, ι_n, ι_m1, m1_ι, m1_lt, m1_le, lt_m1, le_m1, m1_lt_m1, m1_le_m1, m1_add1, neg_ι1, ι_addm, ι_addn, Bool.false_eq_true, Nat.not_lt_zero, Nat.add_zero, Nat.zero_add, Nat.mul_zero, Nat.reduceMul, Nat.reduceAdd, Nat.reduceSub, Nat.reduceLT, Nat.reduceLeDiff, Nat.reduceEqDiff, Nat.reduceDiv, Nat.reduceBEq, Nat.reduceBNe, false_or, or_false, true_or, or_true, and_true, true_and, false_and, and_false, not_false_eq_true, not_true_eq_false, if_true, if_false, if_pos, if_neg, Option.bind_some, ite_false, ite_true, eq_self, reduceIte, lm_0, lm_1, lm_2, lm_3, lm_4, lm_5, lm_6, lm_7, lm_8, lm_9, lm_10, lm_11, lm_12, lm_13, lm_14, lm_15, lm_16, lm_17, Bool.false_or, ob, ho, oi]
    | some p =>
      have hp := hb p rfl
      obtain ⟨e, he⟩ := get_lt hp
      obtain ⟨o1, o2, o3, o4⟩ := hO.2 p e he
      have g := hE p e he
      have eo : fX12_openingOf (eL e) (eS e) τ = some (ι (opn F L p)) := by
        unfold eL eS opn
        rw [r_openingOf (by omega), h3, Nat.add_comm, getD_some he]
      have hob : opn F L p < 2147483648 := by
        unfold opn
        have := cf_le (pB F) ((L.getD p (0, none)).1 / 2) 0
        rw [getD_some he] at *
        omega
      simp (disch := omega) only [l_0, l_1, l_2, l_3, l_4, l_5, l_6, l_7, l_8, l_9, l_10, l_12, l_13, l_24, l_31, l_32, l_40, l_41, l_42, l_44, l_45, l_48, l_49, l_50, l_57, l_59, l_60, l_65, l_88, l_89, l_97, l_98, l_99, l_100, l_105, l_108, l_109, l_114, l_118, l_120, l_122, l_144, l_255, l_269, l_279, l_339, l_400, l_600, l_999, l_1000, l_2373, l_2712, ι_lt, ι_le, ι_eq, ι_add, ι_mul, ι_sub, ι_div, ι_n, ι_m1, m1_ι, m1_lt, m1_le, lt_m1, le_m1, m1_lt_m1, m1_le_m1, m1_add1, neg_ι1, ι_addm, ι_addn, Bool.false_eq_true, Nat.not_lt_zero, Nat.add_zero, Nat.zero_add, Nat.mul_zero, Nat.reduceMul, Nat.reduceAdd, Nat.reduceSub, Nat.reduceLT, Nat.reduceLeDiff, Nat.reduceEqDiff, Nat.reduceDiv, Nat.reduceBEq, Nat.reduceBNe, false_or, or_false, true_or, or_true, and_true, true_and, false_and, and_false, not_false_eq_true, not_true_eq_false, if_true, if_false, if_pos, if_neg, Option.bind_some, ite_false, ite_true, eq_self, reduceIte, lm_0, lm_1, lm_2, lm_3, lm_4, lm_5, lm_6, lm_7, lm_8, lm_9, lm_10, lm_11, lm_12, lm_13, lm_14, lm_15, lm_16, lm_17, Bool.false_or, ob, ho, oi, o1, o2, eo]
      by_cases hh : opn F L p = x
      · simp only [hh, decide_true, if_true]
      · simp only [hh, decide_false, if_false, Bool.false_eq_true]
theorem r_so29 {τ : Mem} {F : Nat → Int32} {L : List En} {n a d c x : Nat} (y z : Int32) (hX : SX τ F L n a d) (h0 : τ 12 0 = oi (sh0 F L c)) (h1 : τ 12 1 = oi (sh1 F L c)) (hx : x < 2147483648) : fX12_scansOn_l29 (ι x) y z FU (0 : Int32) (0 : Int32) τ = some (if opB F L x c then ι 1 else ι 0, ι 2) := by
  have hf : FU = 4093 + 1 + 1 + 1 := rfl
  have hL := hX.2.2.2.1
  have e0 : (0 : Int32) = if false then ι 1 else ι 0 := rfl
  have s1 := r_so29_1 y z hX (i := 0) (by omega) h0 (fun p hp => sh0_lt hL hp) hx false (4093 + 1 + 1)
  have s2 := r_so29_1 y z hX (i := 0 + 1) (by omega) h1 (fun p hp => sh1_lt hL hp) hx (false || ob F L x (sh0 F L c)) (4093 + 1)
  rw [hf]
  show fX12_scansOn_l29 (ι x) y z (4093 + 1 + 1 + 1) (if false then ι 1 else ι 0) (ι 0) τ = _
  rw [s1, s2, fX12_scansOn_l29, if_pos (show (2 : Int32) ≤ ι (0 + 1 + 1) by decide), Bool.false_or]
  rfl
theorem r_so8 {F : Nat → Int32} {L : List En} {n a d x : Nat} (hx : x < 2147483648) : ∀ m n' c y (τ : Mem), c + m = d → m < n' → SX τ F L n a d → ∃ υ, fX12_scansOn_l8 (ι x) n' (ι y) (ι c) τ = some (ι (y + cf (opB F L x) c m), ι d, υ) ∧ fr12 τ υ := by
  intro m
  induction m with
  | zero =>
    intro n' c y τ h hn' hX
    obtain ⟨n', rfl⟩ : ∃ k, n' = k + 1 := ⟨n' - 1, by omega⟩
    have hd := hX.2.2.1
    have h2 : τ 3 2 = ι d := by rw [hX.2.2.2.2.2.2.1]; exact hX.2.2.2.2.2.2.2.2.2
    refine ⟨τ, ?_, fr12_refl τ⟩
    rw [fX12_scansOn_l8]
    have e : c = d := by omega
    subst e
    simp (disch := omega) only [l_0, l_1, l_2, l_3, l_4, l_5, l_6, l_7, l_8, l_9, l_10, l_12, l_13, l_24, l_31, l_32, l_40, l_41, l_42, l_44, l_45, l_48, l_49, l_50, l_57, l_59, l_60, l_65, l_88, l_89, l_97, l_98, l_99, l_100, l_105, l_108, l_109, l_114, l_118, l_120, l_122, l_144, l_255, l_269, l_279, l_339, l_400, l_600, l_999, l_1000, l_2373, l_2712, ι_lt, ι_le, ι_eq, ι_add, ι_mul, ι_sub, ι_div, ι_n, ι_m1, m1_ι, m1_lt, m1_le, lt_m1, le_m1, m1_lt_m1, m1_le_m1, m1_add1, neg_ι1, ι_addm, ι_addn, Bool.false_eq_true, Nat.not_lt_zero, Nat.add_zero, Nat.zero_add, Nat.mul_zero, Nat.reduceMul, Nat.reduceAdd, Nat.reduceSub, Nat.reduceLT, Nat.reduceLeDiff, Nat.reduceEqDiff, Nat.reduceDiv, Nat.reduceBEq, Nat.reduceBNe, false_or, or_false, true_or, or_true, and_true, true_and, false_and, and_false, not_false_eq_true, not_true_eq_false, if_true, if_false, if_pos, if_neg, Option.bind_some, ite_false, ite_true, eq_self, reduceIte, lm_0, lm_1, lm_2, lm_3, lm_4, lm_5, lm_6, lm_7, lm_8, lm_9, lm_10, lm_11, lm_12, lm_13, lm_14, lm_15, lm_16, lm_17, h2, cf, Nat.le_refl]
  | succ m ih =>
    intro n' c y τ h hn' hX
    obtain ⟨n', rfl⟩ : ∃ k, n' = k + 1 := ⟨n' - 1, by omega⟩
    have hX' := hX
    obtain ⟨hn, ha, hd, hL, hE, hLe, h3, hO, hS, h2⟩ := hX'
    obtain ⟨υ, a1, a2, a3, a4⟩ := r_shown hn ha hd hL hE hO (show c < d by omega) (by rw [h3]; exact hS c (by omega))
    rw [h3] at a2 a3
    have h2' : τ 3 2 = ι d := by rw [h3]; exact h2
    rw [fX12_scansOn_l8]
    rw [a1, Option.bind_some, r_so29 (c := c) _ _ (SX_12 hX a4) a2 a3 hx, Option.bind_some]
    by_cases hb : opB F L x c = true
    · obtain ⟨ω, b1, b2⟩ := ih n' (c + 1) (y + 1) υ (by omega) (by omega) (SX_12 hX a4)
      refine ⟨ω, ?_, fr12_trans a4 b2⟩
      simp (disch := omega) only [l_0, l_1, l_2, l_3, l_4, l_5, l_6, l_7, l_8, l_9, l_10, l_12, l_13, l_24, l_31, l_32, l_40, l_41, l_42, l_44, l_45, l_48, l_49, l_50, l_57, l_59, l_60, l_65, l_88, l_89, l_97, l_98, l_99, l_100, l_105, l_108, l_109, l_114, l_118, l_120, l_122, l_144, l_255, l_269, l_279, l_339, l_400, l_600, l_999, l_1000, l_2373, l_2712, ι_lt, ι_le, ι_eq, ι_add, ι_mul, ι_sub, ι_div, ι_n, ι_m1, m1_ι, m1_lt, m1_le, lt_m1, le_m1, m1_lt_m1, m1_le_m1, m1_add1, neg_ι1, ι_addm, ι_addn, Bool.false_eq_true, Nat.not_lt_zero, Nat.add_zero, Nat.zero_add, Nat.mul_zero, Nat.reduceMul, Nat.reduceAdd, Nat.reduceSub, Nat.reduceLT, Nat.reduceLeDiff, Nat.reduceEqDiff, Nat.reduceDiv, Nat.reduceBEq, Nat.reduceBNe, false_or, or_false, true_or, or_true, and_true, true_and, false_and, and_false, not_false_eq_true, not_true_eq_false, if_true, if_false, if_pos, if_neg, Option.bind_some, ite_false, ite_true, eq_self, reduceIte, lm_0, lm_1, lm_2, lm_3, lm_4, lm_5, lm_6, lm_7, lm_8, lm_9, lm_10, lm_11, lm_12, lm_13, lm_14, lm_15, lm_16, lm_17, h2', hb, cf]
      rw [b1]; congr 3; omega
    · obtain ⟨ω, b1, b2⟩ := ih n' (c + 1) y υ (by omega) (by omega) (SX_12 hX a4)
      refine ⟨ω, ?_, fr12_trans a4 b2⟩
      simp (disch := omega) only [l_0, l_1, l_2, l_3, l_4, l_5, l_6, l_7, l_8, l_9, l_10, l_12, l_13, l_24, l_31, l_32, l_40, l_41, l_42, l_44, l_45, l_48, l_49, l_50, l_57, l_59, l_60, l_65, l_88, l_89, l_97, l_98, l_99, l_100, l_105, l_108, l_109, l_114, l_118, l_120, l_122, l_144, l_255, l_269, l_279, l_339, l_400, l_600, l_999, l_1000, l_2373, l_2712, ι_lt, ι_le, ι_eq, ι_add, ι_mul, ι_sub, ι_div, ι_n, ι_m1, m1_ι, m1_lt, m1_le, lt_m1, le_m1, m1_lt_m1, m1_le_m1, m1_add1, neg_ι1, ι_addm, ι_addn, Bool.false_eq_true, Nat.not_lt_zero, Nat.add_zero, Nat.zero_add, Nat.mul_zero, Nat.reduceMul, Nat.reduceAdd, Nat.reduceSub, Nat.reduceLT, Nat.reduceLeDiff, Nat.reduceEqDiff, Nat.reduceDiv, Nat.reduceBEq, Nat.reduceBNe, false_or, or_false, true_or, or_true, and_true, true_and, false_and, and_false, not_false_eq_true, not_true_eq_false, if_true, if_false, if_pos, if_neg, Option.bind_some, ite_false, ite_true, eq_self, reduceIte, lm_0, lm_1, lm_2, lm_3, lm_4, lm_5, lm_6, lm_7, lm_8, lm_9, lm_10, lm_11, lm_12, lm_13, lm_14, lm_15, lm_16, lm_17, h2', hb, cf]
      rw [b1]
theorem c_ow {ρ : Mem} {q F : Nat → Int32} {k n a : Nat} {L : List En} (hn : n ≤ 60) (hV : VR ρ 42 q k n a F) (hL : L.length ≤ 144) (hLe : L = ordE F n a) (oc : OC ρ L) {o : Option Nat} (ho : ∀ p, o = some p → p < L.length) {x : Nat} (hx : x < 2147483648) : ∃ v, fX11_openingWith 0 (oi o) ρ = some v ∧ (v = ι x) = (ob F L x o = true) := by
  cases o with
  | none => exact ⟨μ, rfl, by rw [m1_ι hx]; simp [ob]⟩
  | some p =>
    have hp := ho p rfl
    obtain ⟨e, he⟩ := get_lt hp
    have g := ent_lt (F := F) (a := a) hn (by rw [← hLe]; exact he)
    have hc := cf_le (pB F) (e.1 / 2) 0
    refine ⟨ι (cf (pB F) 0 (e.1 / 2) + e.1 % 2), c_openingWith hn hV hL oc he hp g.2.1, ?_⟩
    rw [ι_eq (by omega) hx]
    show _ = (decide (cf (pB F) 0 ((L.getD p (0, none)).1 / 2) + (L.getD p (0, none)).1 % 2 = x) = true)
    rw [getD_some he, decide_eq_true_eq]
theorem c_so_l8 {ρ : Mem} {q F : Nat → Int32} {k n a d x : Nat} {L : List En} (hn : n ≤ 60) (hd : d ≤ 60) (hV : VR ρ 42 q k n a F) (hC : CR ρ 62 d F) (hL : L.length ≤ 144) (hLe : L = ordE F n a) (oc : OC ρ L) (hP : PC ρ F L d) (hx : x < 2147483648) : ∀ m n' c y, c + m = d → m < n' → fX11_countScansOn_l8 0 (ι x) n' (ι y) (ι c) ρ = some (ι (y + cf (opB F L x) c m), ι d) := by
  intro m
  induction m with
  | zero =>
    intro n' c y h hn'
    obtain ⟨n', rfl⟩ : ∃ k, n' = k + 1 := ⟨n' - 1, by omega⟩
    rw [fX11_countScansOn_l8]
    unfold fX5_size
    have e : c = d := by omega
    subst e
    simp (disch := omega) only [l_0, l_1, l_2, l_3, l_4, l_5, l_6, l_7, l_8, l_9, l_10, l_12, l_13, l_24, l_31, l_32, l_40, l_41, l_42, l_44, l_45, l_48, l_49, l_50, l_57, l_59, l_60, l_65, l_88, l_89, l_97, l_98, l_99, l_100, l_105, l_108, l_109, l_114, l_118, l_120, l_122, l_144, l_255, l_269, l_279, l_339, l_400, l_600, l_999, l_1000, l_2373, l_2712, ι_lt, ι_le, ι_eq, ι_add, ι_mul, ι_sub, ι_div, ι_n, ι_m1, m1_ι, m1_lt, m1_le, lt_m1, le_m1, m1_lt_m1, m1_le_m1, m1_add1, neg_ι1, ι_addm, ι_addn, Bool.false_eq_true, Nat.not_lt_zero, Nat.add_zero, Nat.zero_add, Nat.mul_zero, Nat.reduceMul, Nat.reduceAdd, Nat.reduceSub, Nat.reduceLT, Nat.reduceLeDiff, Nat.reduceEqDiff, Nat.reduceDiv, Nat.reduceBEq, Nat.reduceBNe, false_or, or_false, true_or, or_true, and_true, true_and, false_and, and_false, not_false_eq_true, not_true_eq_false, if_true, if_false, if_pos, if_neg, Option.bind_some, ite_false, ite_true, eq_self, reduceIte, hC.2.1, cf, Nat.le_refl]
  | succ m ih =>
    intro n' c y h hn'
    obtain ⟨n', rfl⟩ : ∃ k, n' = k + 1 := ⟨n' - 1, by omega⟩
    obtain ⟨v, v1, v2⟩ := c_ow hn hV hL hLe oc (o := fs F L c) (fun p hp => fs_lt hL hp) hx
    obtain ⟨w, w1, w2⟩ := c_ow hn hV hL hLe oc (o := sc F L c) (fun p hp => sc_lt hL hp) hx
    have hob : opB F L x c = (ob F L x (fs F L c) || ob F L x (sc F L c)) := by
      unfold opB fs sc oA oB
      cases sh0 F L c with
      | none => simp [ob]
      | some p => rfl
    rw [fX11_countScansOn_l8]
    unfold fX5_size fX4_firstOf fX4_secondOf
    simp (disch := omega) only [l_0, l_1, l_2, l_3, l_4, l_5, l_6, l_7, l_8, l_9, l_10, l_12, l_13, l_24, l_31, l_32, l_40, l_41, l_42, l_44, l_45, l_48, l_49, l_50, l_57, l_59, l_60, l_65, l_88, l_89, l_97, l_98, l_99, l_100, l_105, l_108, l_109, l_114, l_118, l_120, l_122, l_144, l_255, l_269, l_279, l_339, l_400, l_600, l_999, l_1000, l_2373, l_2712, ι_lt, ι_le, ι_eq, ι_add, ι_mul, ι_sub, ι_div, ι_n, ι_m1, m1_ι, m1_lt, m1_le, lt_m1, le_m1, m1_lt_m1, m1_le_m1, m1_add1, neg_ι1, ι_addm, ι_addn, Bool.false_eq_true, Nat.not_lt_zero, Nat.add_zero, Nat.zero_add, Nat.mul_zero, Nat.reduceMul, Nat.reduceAdd, Nat.reduceSub, Nat.reduceLT, Nat.reduceLeDiff, Nat.reduceEqDiff, Nat.reduceDiv, Nat.reduceBEq, Nat.reduceBNe, false_or, or_false, true_or, or_true, and_true, true_and, false_and, and_false, not_false_eq_true, not_true_eq_false, if_true, if_false, if_pos, if_neg, Option.bind_some, ite_false, ite_true, eq_self, reduceIte, hC.2.1, c_first hd hP (show c < d by omega), c_second hd hP (show c < d by omega), v1, w1, v2, w2, cf, hob]
    by_cases b1 : ob F L x (fs F L c) = true
    · simp only [b1, if_true, Bool.true_or]
      rw [ih _ _ _ (by omega) (by omega)]; congr 3; omega
    · by_cases b2 : ob F L x (sc F L c) = true
      · simp only [b1, b2, if_true, if_false, Bool.false_or, Bool.or_true, Bool.false_eq_true]
        rw [ih _ _ _ (by omega) (by omega)]; congr 3; omega
      · simp only [b1, b2, if_false, Bool.or_self, Bool.false_eq_true]
        rw [ih _ _ _ (by omega) (by omega)]; congr 3; omega
theorem oi_ne {o : Option Nat} {i : Nat} (h : o = some i) (hi : i < 60) : oi o ≠ μ := by
  subst h
  intro z
  rw [show oi (some i) = ι i from rfl, ι_m1 (by omega)] at z
  exact z
theorem sim31 : Sim31 Rel := by
  intro σ τ x1 x2 hR
  replace hR := Rel_0 hR 0
  unfold fX12_opening fX11_opening
  have h00 : up τ 0 0 0 0 0 = 0 := up_e _ _ _ _
  generalize up τ 0 0 (0 : Int32) = τ at *
  obtain ⟨k, n, a, b, d, t, hO⟩ := RO_of hR
  have hO' := hO
  obtain ⟨hr, hF, hV, hL, hC, hW⟩ := hO
  have hn := hr.1.2.2.2.2
  have hcf := cf_le (pB (τ 3)) n 0
  have e10 : ¬ (ι 1 = (0 : Int32)) := by decide
  rcases leaf_cases x1 (cf (pB (τ 3)) 0 n + 1) with ⟨i, hi, rfl⟩ | hx
  · have hi' : i < 2147483648 := by omega
    have o1 : (oi (lf (τ 3) n i) = -1) = (lf (τ 3) n i = none) := oi_none fun j hj => by have := lf_some hi' hn hj; omega
    have o2 : (oi (pl (τ 3) n (ι i)) = -1) = (pl (τ 3) n (ι i) = none) := oi_none fun j hj => by have := pl_some hi' hn hj; omega
    simp only [c_reqOpen hn hV hi, r_isOpening hr.1 hr.2.1 hi', if_pos hi, Option.bind_some, if_neg e10, Nat.zero_add, c_left hn hV hi', c_right hn hV hi', r_left hr.1 hr.2.1 hi', r_right hr.1 hr.2.1 hi', o1, o2]
    by_cases h0 : x2 = 0
    · rw [if_pos h0, if_pos h0]
      exact ⟨_, _, 0, rfl, rfl, Or.inl ⟨_, rfl, rfl⟩, fun v hv => (by cases hv; rfl), z_ok h00, hR⟩
    rw [if_neg h0, if_neg h0]
    by_cases h0 : x2 = 1
    · rw [if_pos h0, if_pos h0]
      exact ⟨_, _, 0, rfl, rfl, Or.inl ⟨_, rfl, rfl⟩, fun v hv => (by cases hv; rfl), z_ok h00, hR⟩
    rw [if_neg h0, if_neg h0]
    by_cases h0 : x2 = 2
    · rw [if_pos h0, if_pos h0]
      unfold fX10_gapOf fX12_gapOf
      simp only [Option.bind_some, c_left hn hV hi', c_right hn hV hi', r_left hr.1 hr.2.1 hi', r_right hr.1 hr.2.1 hi', o1, o2, r_leaves hr.1 hr.2.1, hV.2.2.1]
      have key : ∃ v, (if lf (τ 3) n i = none then (if pl (τ 3) n (ι i) = none then some (ι n - 0) else some (oi (pl (τ 3) n (ι i)) - 0)) else (if pl (τ 3) n (ι i) = none then some (ι n - (oi (lf (τ 3) n i) + 1)) else some (oi (pl (τ 3) n (ι i)) - (oi (lf (τ 3) n i) + 1)))) = some v ∧ (if pl (τ 3) n (ι i) = none then some (ι n - oi (lf (τ 3) n i) - 1) else some (oi (pl (τ 3) n (ι i)) - oi (lf (τ 3) n i) - 1)) = some v := by
        have sub2 : ∀ x y : Int32, x - (y + 1) = x - y - 1 := fun x y => by
          simp only [Int32.sub_eq_add_neg, Int32.neg_add, Int32.add_assoc]
        have subm : ∀ x : Int32, x - 0 = x - μ - 1 := fun x => by
          rw [← sub2]; rfl
        cases hl : lf (τ 3) n i with
        | none =>
          cases hp : pl (τ 3) n (ι i) with
          | none => exact ⟨_, rfl, by simp only [if_true]; rw [subm]; rfl⟩
          | some y => exact ⟨_, rfl, by simp only [reduceCtorEq, if_false]; rw [subm]; rfl⟩
        | some x =>
          cases hp : pl (τ 3) n (ι i) with
          | none => exact ⟨_, rfl, by simp only [if_true]; rw [sub2]⟩
          | some y => exact ⟨_, rfl, by simp only [reduceCtorEq, if_false]; rw [sub2]⟩
      obtain ⟨v, k1, k2⟩ := key
      rw [k1, k2]
      exact ⟨_, _, 0, rfl, rfl, Or.inl ⟨_, rfl, rfl⟩, fun v hv => (by cases hv; rfl), z_ok h00, hR⟩
    rw [if_neg h0, if_neg h0]
    by_cases h0 : x2 = 3
    · rw [if_pos h0, if_pos h0]
      have ha := hF.2.1
      have so : ∀ (o : Option Nat) (s : Int32), (∀ i, o = some i → i < 60) → fX10_slipsOn 42 (oi o) s σ = some (match o with | none => ι 0 | some _ => ι (cf (onB (τ 3) (oi o) s) 0 a)) := fun o s ho => by
        cases o with
        | none => exact c_slipsOn_none ha hV s
        | some y => exact c_slipsOn ha hV (oi_ne rfl (ho y rfl)) s
      rw [so _ _ (fun j hj => by have := lf_some hi' hn hj; omega), so _ _ (fun j hj => by have := pl_some hi' hn hj; omega)]
      simp only [Option.bind_some, r_allOn hF.1 ha]
      have z0 : ι 0 = (0 : Int32) := rfl
      cases hl : lf (τ 3) n i with
      | none =>
        cases hp : pl (τ 3) n (ι i) with
        | none =>
          simp only [if_true, z0]
          exact ⟨_, _, 0, rfl, rfl, Or.inl ⟨_, rfl, rfl⟩, fun v hv => (by cases hv; rfl), z_ok h00, hR⟩
        | some y =>
          simp only [if_true, reduceCtorEq, if_false, z0]
          exact ⟨_, _, 0, rfl, rfl, Or.inl ⟨_, rfl, rfl⟩, fun v hv => (by cases hv; rfl), z_ok h00, hR⟩
      | some x =>
        cases hp : pl (τ 3) n (ι i) with
        | none =>
          simp only [if_true, reduceCtorEq, if_false, z0]
          exact ⟨_, _, 0, rfl, rfl, Or.inl ⟨_, rfl, rfl⟩, fun v hv => (by cases hv; rfl), z_ok h00, hR⟩
        | some y =>
          simp only [reduceCtorEq, if_false]
          exact ⟨_, _, 0, rfl, rfl, Or.inl ⟨_, rfl, rfl⟩, fun v hv => (by cases hv; rfl), z_ok h00, hR⟩
    rw [if_neg h0, if_neg h0]
    by_cases h0 : x2 = 4
    · rw [if_pos h0, if_pos h0]
      obtain ⟨ρ, υ, e1, e2, hO2, oc, pc, sx, f1, f2⟩ := scans_RO hO'
      have hLl := sx.2.2.2.1
      have hd := sx.2.2.1
      have hV2 : VR ρ 42 (υ 1) k n a (υ 3) := hO2.2.2.1
      have hC2 : CR ρ 62 d (υ 3) := hO2.2.2.2.2.1
      rw [fr8_3 f2] at hV2 hC2
      obtain ⟨ω, b1, b2⟩ := r_so8 hi' d FU 0 0 υ (by omega) (by unfold FU; omega) sx
      have c1 := c_so_l8 hn hd hV2 hC2 hLl rfl oc pc hi' d FU 0 0 (by omega) (by unfold FU; omega)
      unfold fX11_countScansOn fX12_scansOn
      simp only [e1, e2, Option.bind_some, l_0, b1, c1]
      exact ⟨_, _, ι 0, rfl, rfl, Or.inl ⟨_, rfl, rfl⟩, fun v hv => (by cases hv; rfl), z_ok (((b2 0 0 (by omega)).trans (f2 0 0 (by omega))).trans h00), Rel_c (RO_rel hO2) (fun _ _ => rfl) (fr12_KT b2)⟩
    rw [if_neg h0, if_neg h0, ref_fails]
    exact ⟨_, _, 2, rfl, rfl, Or.inr (Or.inr ⟨rfl, rfl⟩), fun v hv => (by cases hv), z_bad, Rel_0 hR _⟩
  · rw [c_reqOpen_no hn hV hx, r_isOpening_no hr.1 hr.2.1 hx]
    simp only [Option.bind_some, l_0, if_true, ref_fails]
    exact ⟨_, _, 1, rfl, rfl, Or.inr (Or.inl ⟨rfl, rfl⟩), fun v hv => (by cases hv), z_bad, Rel_0 hR _⟩
