/-! PURE PART: the first misplaced scan, the longest run -/
def mx (f : Nat → Option Nat) : Nat → Option Nat
  | 0 => none
  | s + 1 => match f s with
    | none => mx f s
    | some y => match mx f s with
      | none => some y
      | some x => some (if x < y then y else x)
theorem mx_none {f : Nat → Option Nat} : ∀ s, mx f s = none → ∀ e, e < s → f e = none := by
  intro s
  induction s with
  | zero => intro _ e he; omega
  | succ s ih =>
    intro h e he
    rw [mx] at h
    cases hf : f s with
    | none =>
      rw [hf] at h
      by_cases hes : e = s
      · rw [hes]; exact hf
      · exact ih h e (by omega)
    | some y =>
      rw [hf] at h
      cases hm : mx f s with
      | none => rw [hm] at h; cases h
      | some x => rw [hm] at h; cases h
theorem mx_some {f : Nat → Option Nat} : ∀ s x, mx f s = some x → (∃ e, e < s ∧ f e = some x) ∧ ∀ e, e < s → ∀ z, f e = some z → z ≤ x := by
  intro s
  induction s with
  | zero => intro x h; cases h
  | succ s ih =>
    intro x h
    rw [mx] at h
    cases hf : f s with
    | none =>
      rw [hf] at h
      obtain ⟨⟨e, e1, e2⟩, h2⟩ := ih x h
      refine ⟨⟨e, by omega, e2⟩, fun e' he' z hz => ?_⟩
      by_cases hes : e' = s
      · rw [hes, hf] at hz; cases hz
      · exact h2 e' (by omega) z hz
    | some y =>
      rw [hf] at h
      cases hm : mx f s with
      | none =>
        rw [hm] at h
        cases h
        refine ⟨⟨s, by omega, hf⟩, fun e' he' z hz => ?_⟩
        by_cases hes : e' = s
        · rw [hes, hf] at hz; cases hz; exact Nat.le_refl _
        · rw [mx_none s hm e' (by omega)] at hz; cases hz
      | some w =>
        rw [hm] at h
        obtain ⟨⟨e, e1, e2⟩, h2⟩ := ih w hm
        simp only [Option.some.injEq] at h
        by_cases hwy : w < y
        · rw [if_pos hwy] at h
          subst h
          refine ⟨⟨s, by omega, hf⟩, fun e' he' z hz => ?_⟩
          by_cases hes : e' = s
          · rw [hes, hf] at hz; cases hz; exact Nat.le_refl _
          · have := h2 e' (by omega) z hz; omega
        · rw [if_neg hwy] at h
          subst h
          refine ⟨⟨e, by omega, e2⟩, fun e' he' z hz => ?_⟩
          by_cases hes : e' = s
          · rw [hes, hf] at hz; cases hz; omega
          · exact h2 e' (by omega) z hz
def fmB (f : Nat → Option Nat) (s : Nat) : Bool := match f s with | none => false | some y => (match mx f s with | none => false | some x => decide (y < x))
theorem fmB_eq (f : Nat → Option Nat) (s : Nat) : fmB f s = (ff (ivB f s) 0 s).isSome := by
  unfold fmB
  cases hf : f s with
  | none =>
    rw [ff_no]
    · rfl
    · intro e _ _; unfold ivB; rw [hf]
  | some y =>
    cases hm : mx f s with
    | none =>
      rw [ff_no]
      · rfl
      · intro e _ he; unfold ivB; rw [hf, mx_none s hm e (by omega)]
    | some x =>
      obtain ⟨⟨e, e1, e2⟩, h2⟩ := mx_some s x hm
      show decide (y < x) = _
      by_cases hyx : y < x
      · rw [decide_eq_true hyx]
        cases hff : ff (ivB f s) 0 s with
        | none =>
          have := ff_none _ _ hff e (by omega) (by omega)
          unfold ivB at this
          rw [hf, e2] at this
          simp [hyx] at this
        | some _ => rfl
      · rw [decide_eq_false hyx, ff_no]
        · rfl
        · intro e' _ he'
          unfold ivB
          rw [hf]
          show (match f e' with | some x => decide (y < x) | none => false) = false
          cases hfe : f e' with
          | none => rfl
          | some z => have := h2 e' (by omega) z hfe; exact decide_eq_false (by omega)
theorem r_fm_l {F : Nat → Int32} {L : List En} {n a d : Nat} : ∀ m n' c (τ : Mem), c + m = d → m < n' → SX τ F L n a d → ∃ υ, fr12 τ υ ∧ (match ff (fmB (fs F L)) c m with | some s => fX12_firstMisplaced_l13 n' (oi (mx (fs F L) c)) (ι c) τ = some (.inl (ι s, υ)) | none => ∃ z w, fX12_firstMisplaced_l13 n' (oi (mx (fs F L) c)) (ι c) τ = some (.inr (z, w, υ))) := by
  intro m
  induction m with
  | zero =>
    intro n' c τ h hn' hX
    obtain ⟨n', rfl⟩ : ∃ k, n' = k + 1 := ⟨n' - 1, by omega⟩
    have hd := hX.2.2.1
    have h2 : τ 3 2 = ι d := by rw [hX.2.2.2.2.2.2.1]; exact hX.2.2.2.2.2.2.2.2.2
    refine ⟨τ, fr12_refl τ, ?_⟩
    rw [ff]
    refine ⟨oi (mx (fs F L) c), ι c, ?_⟩
    rw [fX12_firstMisplaced_l13]
    simp (disch := omega) only [l_0, l_1, l_2, l_3, l_4, l_5, l_6, l_7, l_8, l_9, l_10, l_12, l_13, l_24, l_31, l_32, l_40, l_41, l_42, l_44, l_45, l_48, l_49, l_50, l_57, l_59, l_60, l_65, l_88, l_89, l_97, l_98, l_99, l_100, l_105, l_108, l_109, l_114, l_118, l_120, l_122, l_144, l_255, l_269, l_279, l_339, l_400, l_600, l_999, l_1000, l_2373, l_2712, ι_lt, ι_le, ι_eq, ι_add, ι_mul, ι_sub, ι_div, ι_n, ι_m1, m1_ι, m1_lt, m1_le, lt_m1, le_m1, m1_lt_m1, m1_le_m1, m1_add1, neg_ι1, ι_addm, ι_addn, Bool.false_eq_true, Nat.not_lt_zero, Nat.add_zero, Nat.zero_add, Nat.mul_zero, Nat.reduceMul, Nat.reduceAdd, Nat.reduceSub, Nat.reduceLT, Nat.reduceLeDiff, Nat.reduceEqDiff, Nat.reduceDiv, Nat.reduceBEq, Nat.reduceBNe, false_or, or_false, true_or, or_true, and_true, true_and, false_and, and_false, not_false_eq_true, not_true_eq_false, if_true, if_false, if_pos, if_neg, Option.bind_some, ite_false, ite_true, eq_self, reduceIte, lm_0, lm_1, lm_2, lm_3, lm_4, lm_5, lm_6, lm_7, lm_8, lm_9, lm_10, lm_11, lm_12, lm_13, lm_14, lm_15, lm_16, lm_17, h2]
  | succ m ih =>
    intro n' c τ h hn' hX
    obtain ⟨n', rfl⟩ : ∃ k, n' = k + 1 := ⟨n' - 1, by omega⟩
    have hd := hX.2.2.1
    have hL := hX.2.2.2.1
    have h2 : τ 3 2 = ι d := by rw [hX.2.2.2.2.2.2.1]; exact hX.2.2.2.2.2.2.2.2.2
    obtain ⟨υ, a1, a2⟩ := r_placeOfScan hX (show c < d by omega)
    have hmb : ∀ x, mx (fs F L) c = some x → x < 144 := fun x hx => by
      obtain ⟨⟨e, -, e2⟩, -⟩ := mx_some c x hx
      have := fs_lt hL e2; omega
    obtain ⟨ω, b1, b2⟩ := ih n' (c + 1) υ (by omega) (by omega) (SX_12 hX a2)
    rw [fX12_firstMisplaced_l13]
    simp (disch := omega) only [l_0, l_1, l_2, l_3, l_4, l_5, l_6, l_7, l_8, l_9, l_10, l_12, l_13, l_24, l_31, l_32, l_40, l_41, l_42, l_44, l_45, l_48, l_49, l_50, l_57, l_59, l_60, l_65, l_88, l_89, l_97, l_98, l_99, l_100, l_105, l_108, l_109, l_114, l_118, l_120, l_122, l_144, l_255, l_269, l_279, l_339, l_400, l_600, l_999, l_1000, l_2373, l_2712, ι_lt, ι_le, ι_eq, ι_add, ι_mul, ι_sub, ι_div, ι_n, ι_m1, m1_ι, m1_lt, m1_le, lt_m1, le_m1, m1_lt_m1, m1_le_m1, m1_add1, neg_ι1, ι_addm, ι_addn, Bool.false_eq_true, Nat.not_lt_zero, Nat.add_zero, Nat.zero_add, Nat.mul_zero, Nat.reduceMul, Nat.reduceAdd, Nat.reduceSub, Nat.reduceLT, Nat.reduceLeDiff, Nat.reduceEqDiff, Nat.reduceDiv, Nat.reduceBEq, Nat.reduceBNe, false_or, or_false, true_or, or_true, and_true, true_and, false_and, and_false, not_false_eq_true, not_true_eq_false, if_true, if_false, if_pos, if_neg, Option.bind_some, ite_false, ite_true, eq_self, reduceIte, lm_0, lm_1, lm_2, lm_3, lm_4, lm_5, lm_6, lm_7, lm_8, lm_9, lm_10, lm_11, lm_12, lm_13, lm_14, lm_15, lm_16, lm_17, h2, a1]
    rw [ff]
    cases hf : fs F L c with
    | none =>
      have e1 : fmB (fs F L) c = false := by unfold fmB; rw [hf]
      have e2 : mx (fs F L) (c + 1) = mx (fs F L) c := by rw [mx, hf]
      have e3 : (if oi (mx (fs F L) c) < oi none then oi none else oi (mx (fs F L) c)) = oi (mx (fs F L) c) := by
        cases hm : mx (fs F L) c with
        | none => rfl
        | some x => have := hmb x hm; simp (disch := omega) only [oi, l_0, l_1, l_2, l_3, l_4, l_5, l_6, l_7, l_8, l_9, l_10, l_12, l_13, l_24, l_31, l_32, l_40, l_41, l_42, l_44, l_45, l_48, l_49, l_50, l_57, l_59, l_60, l_65, l_88, l_89, l_97, l_98, l_99, l_100, l_105, l_108, l_109, l_114, l_118, l_120, l_122, l_144, l_255, l_269, l_279, l_339, l_400, l_600, l_999, l_1000, l_2373, l_2712, ι_lt, ι_le, ι_eq, ι_add, ι_mul, ι_sub, ι_div, ι_n, ι_m1, m1_ι, m1_lt, m1_le, lt_m1, le_m1, m1_lt_m1, m1_le_m1, m1_add1, neg_ι1, ι_addm, ι_addn, Bool.false_eq_true, Nat.not_lt_zero, Nat.add_zero, Nat.zero_add, Nat.mul_zero, Nat.reduceMul, Nat.reduceAdd, Nat.reduceSub, Nat.reduceLT, Nat.reduceLeDiff, Nat.reduceEqDiff, Nat.reduceDiv, Nat.reduceBEq, Nat.reduceBNe, false_or, or_false, true_or, or_true, and_true, true_and, false_and, and_false, not_false_eq_true, not_true_eq_false, if_true, if_false, if_pos, if_neg, Option.bind_some, ite_false, ite_true, eq_self, reduceIte]
      rw [e2] at b2
      simp only [e1, Bool.false_eq_true, if_false, e3]
      rw [if_pos (show oi none = μ from rfl)]
      exact ⟨ω, fr12_trans a2 b1, b2⟩
    | some y =>
      have hy := fs_lt hL hf
      have ey : ¬ oi (some y) = μ := fun z => by rw [show oi (some y) = ι y from rfl, ι_m1 (by omega)] at z; exact z
      rw [if_neg ey]
      cases hm : mx (fs F L) c with
      | none =>
        have e1 : fmB (fs F L) c = false := by unfold fmB; rw [hf, hm]
        have e2 : mx (fs F L) (c + 1) = some y := by rw [mx, hf, hm]
        rw [e2] at b2
        simp (disch := omega) only [e1, oi, l_0, l_1, l_2, l_3, l_4, l_5, l_6, l_7, l_8, l_9, l_10, l_12, l_13, l_24, l_31, l_32, l_40, l_41, l_42, l_44, l_45, l_48, l_49, l_50, l_57, l_59, l_60, l_65, l_88, l_89, l_97, l_98, l_99, l_100, l_105, l_108, l_109, l_114, l_118, l_120, l_122, l_144, l_255, l_269, l_279, l_339, l_400, l_600, l_999, l_1000, l_2373, l_2712, ι_lt, ι_le, ι_eq, ι_add, ι_mul, ι_sub, ι_div, ι_n, ι_m1, m1_ι, m1_lt, m1_le, lt_m1, le_m1, m1_lt_m1, m1_le_m1, m1_add1, neg_ι1, ι_addm, ι_addn, Bool.false_eq_true, Nat.not_lt_zero, Nat.add_zero, Nat.zero_add, Nat.mul_zero, Nat.reduceMul, Nat.reduceAdd, Nat.reduceSub, Nat.reduceLT, Nat.reduceLeDiff, Nat.reduceEqDiff, Nat.reduceDiv, Nat.reduceBEq, Nat.reduceBNe, false_or, or_false, true_or, or_true, and_true, true_and, false_and, and_false, not_false_eq_true, not_true_eq_false, if_true, if_false, if_pos, if_neg, Option.bind_some, ite_false, ite_true, eq_self, reduceIte]
        exact ⟨ω, fr12_trans a2 b1, b2⟩
      | some x =>
        have := hmb x hm
        by_cases hyx : y < x
        · have e1 : fmB (fs F L) c = true := by unfold fmB; rw [hf, hm]; exact decide_eq_true hyx
          simp (disch := omega) only [e1, oi, l_0, l_1, l_2, l_3, l_4, l_5, l_6, l_7, l_8, l_9, l_10, l_12, l_13, l_24, l_31, l_32, l_40, l_41, l_42, l_44, l_45, l_48, l_49, l_50, l_57, l_59, l_60, l_65, l_88, l_89, l_97, l_98, l_99, l_100, l_105, l_108, l_109, l_114, l_118, l_120, l_122, l_144, l_255, l_269, l_279, l_339, l_400, l_600, l_999, l_1000, l_2373, l_2712, ι_lt, ι_le, ι_eq, ι_add, ι_mul, ι_sub, ι_div, ι_n, ι_m1, m1_ι, m1_lt, m1_le, lt_m1, le_m1, m1_lt_m1, m1_le_m1, m1_add1, neg_ι1, ι_addm, ι_addn, Bool.false_eq_true, Nat.not_lt_zero, Nat.add_zero, Nat.zero_add, Nat.mul_zero, Nat.reduceMul, Nat.reduceAdd, Nat.reduceSub, Nat.reduceLT, Nat.reduceLeDiff, Nat.reduceEqDiff, Nat.reduceDiv, Nat.reduceBEq, Nat.reduceBNe, false_or, or_false, true_or, or_true, and_true, true_and, false_and, and_false, not_false_eq_true, not_true_eq_false, if_true, if_false, if_pos, if_neg, Option.bind_some, ite_false, ite_true, eq_self, reduceIte]
          exact ⟨υ, a2, rfl⟩
        · have e1 : fmB (fs F L) c = false := by unfold fmB; rw [hf, hm]; exact decide_eq_false hyx
          have e2 : mx (fs F L) (c + 1) = some (if x < y then y else x) := by rw [mx, hf, hm]
          have e3 : (if x < y then ι y else ι x) = oi (some (if x < y then y else x)) := by
            by_cases hxy : x < y
            · rw [if_pos hxy, if_pos hxy]; rfl
            · rw [if_neg hxy, if_neg hxy]; rfl
          rw [e2] at b2
          simp (disch := omega) only [e1, oi, l_0, l_1, l_2, l_3, l_4, l_5, l_6, l_7, l_8, l_9, l_10, l_12, l_13, l_24, l_31, l_32, l_40, l_41, l_42, l_44, l_45, l_48, l_49, l_50, l_57, l_59, l_60, l_65, l_88, l_89, l_97, l_98, l_99, l_100, l_105, l_108, l_109, l_114, l_118, l_120, l_122, l_144, l_255, l_269, l_279, l_339, l_400, l_600, l_999, l_1000, l_2373, l_2712, ι_lt, ι_le, ι_eq, ι_add, ι_mul, ι_sub, ι_div, ι_n, ι_m1, m1_ι, m1_lt, m1_le, lt_m1, le_m1, m1_lt_m1, m1_le_m1, m1_add1, neg_ι1, ι_addm, ι_addn, Bool.false_eq_true, Nat.not_lt_zero, Nat.add_zero, Nat.zero_add, Nat.mul_zero, Nat.reduceMul, Nat.reduceAdd, Nat.reduceSub, Nat.reduceLT, Nat.reduceLeDiff, Nat.reduceEqDiff, Nat.reduceDiv, Nat.reduceBEq, Nat.reduceBNe, false_or, or_false, true_or, or_true, and_true, true_and, false_and, and_false, not_false_eq_true, not_true_eq_false, if_true, if_false, if_pos, if_neg, Option.bind_some, ite_false, ite_true, eq_self, reduceIte, ι_lt]
          simp only [oi] at e3 b2
          rw [e3]
          exact ⟨ω, fr12_trans a2 b1, b2⟩
theorem c_ff12 {σ : Mem} {F : Nat → Int32} {L : List En} {d c : Nat} (hd : d ≤ 60) (hL : L.length ≤ 144) (hP : PC σ F L d) (hc : c < d) : ∀ m n' e, e + m = c → m < n' → ∃ z, fX4_firstFalling_l12 373 (ι c) n' (ι e) σ = some (if (ff (ivB (fs F L) c) e m).isSome then .inl (ι c) else .inr z) := by
  intro m
  induction m with
  | zero =>
    intro n' e h hn'
    obtain ⟨n', rfl⟩ : ∃ k, n' = k + 1 := ⟨n' - 1, by omega⟩
    refine ⟨ι e, ?_⟩
    rw [fX4_firstFalling_l12]
    simp (disch := omega) only [l_0, l_1, l_2, l_3, l_4, l_5, l_6, l_7, l_8, l_9, l_10, l_12, l_13, l_24, l_31, l_32, l_40, l_41, l_42, l_44, l_45, l_48, l_49, l_50, l_57, l_59, l_60, l_65, l_88, l_89, l_97, l_98, l_99, l_100, l_105, l_108, l_109, l_114, l_118, l_120, l_122, l_144, l_255, l_269, l_279, l_339, l_400, l_600, l_999, l_1000, l_2373, l_2712, ι_lt, ι_le, ι_eq, ι_add, ι_mul, ι_sub, ι_div, ι_n, ι_m1, m1_ι, m1_lt, m1_le, lt_m1, le_m1, m1_lt_m1, m1_le_m1, m1_add1, neg_ι1, ι_addm, ι_addn, Bool.false_eq_true, Nat.not_lt_zero, Nat.add_zero, Nat.zero_add, Nat.mul_zero, Nat.reduceMul, Nat.reduceAdd, Nat.reduceSub, Nat.reduceLT, Nat.reduceLeDiff, Nat.reduceEqDiff, Nat.reduceDiv, Nat.reduceBEq, Nat.reduceBNe, false_or, or_false, true_or, or_true, and_true, true_and, false_and, and_false, not_false_eq_true, not_true_eq_false, if_true, if_false, if_pos, if_neg, Option.bind_some, ite_false, ite_true, eq_self, reduceIte, ff, Option.isSome_none]
  | succ m ih =>
    intro n' e h hn'
    obtain ⟨n', rfl⟩ : ∃ k, n' = k + 1 := ⟨n' - 1, by omega⟩
    obtain ⟨z, hz⟩ := ih n' (e + 1) (by omega) (by omega)
    refine ⟨z, ?_⟩
    rw [fX4_firstFalling_l12, c_isInv hd hL hP (by omega) hc]
    by_cases hb : ivB (fs F L) c e = true
    · simp (disch := omega) only [l_0, l_1, l_2, l_3, l_4, l_5, l_6, l_7, l_8, l_9, l_10, l_12, l_13, l_24, l_31, l_32, l_40, l_41, l_42, l_44, l_45, l_48, l_49, l_50, l_57, l_59, l_60, l_65, l_88, l_89, l_97, l_98, l_99, l_100, l_105, l_108, l_109, l_114, l_118, l_120, l_122, l_144, l_255, l_269, l_279, l_339, l_400, l_600, l_999, l_1000, l_2373, l_2712, ι_lt, ι_le, ι_eq, ι_add, ι_mul, ι_sub, ι_div, ι_n, ι_m1, m1_ι, m1_lt, m1_le, lt_m1, le_m1, m1_lt_m1, m1_le_m1, m1_add1, neg_ι1, ι_addm, ι_addn, Bool.false_eq_true, Nat.not_lt_zero, Nat.add_zero, Nat.zero_add, Nat.mul_zero, Nat.reduceMul, Nat.reduceAdd, Nat.reduceSub, Nat.reduceLT, Nat.reduceLeDiff, Nat.reduceEqDiff, Nat.reduceDiv, Nat.reduceBEq, Nat.reduceBNe, false_or, or_false, true_or, or_true, and_true, true_and, false_and, and_false, not_false_eq_true, not_true_eq_false, if_true, if_false, if_pos, if_neg, Option.bind_some, ite_false, ite_true, eq_self, reduceIte, hb, ff, Option.isSome_some]
    · simp (disch := omega) only [l_0, l_1, l_2, l_3, l_4, l_5, l_6, l_7, l_8, l_9, l_10, l_12, l_13, l_24, l_31, l_32, l_40, l_41, l_42, l_44, l_45, l_48, l_49, l_50, l_57, l_59, l_60, l_65, l_88, l_89, l_97, l_98, l_99, l_100, l_105, l_108, l_109, l_114, l_118, l_120, l_122, l_144, l_255, l_269, l_279, l_339, l_400, l_600, l_999, l_1000, l_2373, l_2712, ι_lt, ι_le, ι_eq, ι_add, ι_mul, ι_sub, ι_div, ι_n, ι_m1, m1_ι, m1_lt, m1_le, lt_m1, le_m1, m1_lt_m1, m1_le_m1, m1_add1, neg_ι1, ι_addm, ι_addn, Bool.false_eq_true, Nat.not_lt_zero, Nat.add_zero, Nat.zero_add, Nat.mul_zero, Nat.reduceMul, Nat.reduceAdd, Nat.reduceSub, Nat.reduceLT, Nat.reduceLeDiff, Nat.reduceEqDiff, Nat.reduceDiv, Nat.reduceBEq, Nat.reduceBNe, false_or, or_false, true_or, or_true, and_true, true_and, false_and, and_false, not_false_eq_true, not_true_eq_false, if_true, if_false, if_pos, if_neg, Option.bind_some, ite_false, ite_true, eq_self, reduceIte, hb, ff]
      exact hz
theorem c_ff2 {σ : Mem} {F : Nat → Int32} {L : List En} {d : Nat} (hd : d ≤ 60) (hL : L.length ≤ 144) (hP : PC σ F L d) : ∀ m n' c, c + m = d → m < n' → (fX4_firstFalling_l2 373 n' (ι c) σ).bind (fun q2 => match q2 with | .inl r => some r | .inr q2 => some (-1 : Int32)) = some (oi (ff (fmB (fs F L)) c m)) := by
  intro m
  induction m with
  | zero =>
    intro n' c h hn'
    obtain ⟨n', rfl⟩ : ∃ k, n' = k + 1 := ⟨n' - 1, by omega⟩
    rw [fX4_firstFalling_l2, hP.1]
    simp (disch := omega) only [l_0, l_1, l_2, l_3, l_4, l_5, l_6, l_7, l_8, l_9, l_10, l_12, l_13, l_24, l_31, l_32, l_40, l_41, l_42, l_44, l_45, l_48, l_49, l_50, l_57, l_59, l_60, l_65, l_88, l_89, l_97, l_98, l_99, l_100, l_105, l_108, l_109, l_114, l_118, l_120, l_122, l_144, l_255, l_269, l_279, l_339, l_400, l_600, l_999, l_1000, l_2373, l_2712, ι_lt, ι_le, ι_eq, ι_add, ι_mul, ι_sub, ι_div, ι_n, ι_m1, m1_ι, m1_lt, m1_le, lt_m1, le_m1, m1_lt_m1, m1_le_m1, m1_add1, neg_ι1, ι_addm, ι_addn, Bool.false_eq_true, Nat.not_lt_zero, Nat.add_zero, Nat.zero_add, Nat.mul_zero, Nat.reduceMul, Nat.reduceAdd, Nat.reduceSub, Nat.reduceLT, Nat.reduceLeDiff, Nat.reduceEqDiff, Nat.reduceDiv, Nat.reduceBEq, Nat.reduceBNe, false_or, or_false, true_or, or_true, and_true, true_and, false_and, and_false, not_false_eq_true, not_true_eq_false, if_true, if_false, if_pos, if_neg, Option.bind_some, ite_false, ite_true, eq_self, reduceIte, ff, oi]
  | succ m ih =>
    intro n' c h hn'
    obtain ⟨n', rfl⟩ : ∃ k, n' = k + 1 := ⟨n' - 1, by omega⟩
    obtain ⟨z, hz⟩ := c_ff12 hd hL hP (show c < d by omega) c FU 0 (by omega) (by unfold FU; omega)
    rw [fX4_firstFalling_l2, hP.1, l_0, hz, ← fmB_eq]
    by_cases hb : fmB (fs F L) c = true
    · simp (disch := omega) only [l_0, l_1, l_2, l_3, l_4, l_5, l_6, l_7, l_8, l_9, l_10, l_12, l_13, l_24, l_31, l_32, l_40, l_41, l_42, l_44, l_45, l_48, l_49, l_50, l_57, l_59, l_60, l_65, l_88, l_89, l_97, l_98, l_99, l_100, l_105, l_108, l_109, l_114, l_118, l_120, l_122, l_144, l_255, l_269, l_279, l_339, l_400, l_600, l_999, l_1000, l_2373, l_2712, ι_lt, ι_le, ι_eq, ι_add, ι_mul, ι_sub, ι_div, ι_n, ι_m1, m1_ι, m1_lt, m1_le, lt_m1, le_m1, m1_lt_m1, m1_le_m1, m1_add1, neg_ι1, ι_addm, ι_addn, Bool.false_eq_true, Nat.not_lt_zero, Nat.add_zero, Nat.zero_add, Nat.mul_zero, Nat.reduceMul, Nat.reduceAdd, Nat.reduceSub, Nat.reduceLT, Nat.reduceLeDiff, Nat.reduceEqDiff, Nat.reduceDiv, Nat.reduceBEq, Nat.reduceBNe, false_or, or_false, true_or, or_true, and_true, true_and, false_and, and_false, not_false_eq_true, not_true_eq_false, if_true, if_false, if_pos, if_neg, Option.bind_some, ite_false, ite_true, eq_self, reduceIte, hb, ff, oi]
    · simp (disch := omega) only [l_0, l_1, l_2, l_3, l_4, l_5, l_6, l_7, l_8, l_9, l_10, l_12, l_13, l_24, l_31, l_32, l_40, l_41, l_42, l_44, l_45, l_48, l_49, l_50, l_57, l_59, l_60, l_65, l_88, l_89, l_97, l_98, l_99, l_100, l_105, l_108, l_109, l_114, l_118, l_120, l_122, l_144, l_255, l_269, l_279, l_339, l_400, l_600, l_999, l_1000, l_2373, l_2712, ι_lt, ι_le, ι_eq, ι_add, ι_mul, ι_sub, ι_div, ι_n, ι_m1, m1_ι, m1_lt, m1_le, lt_m1, le_m1, m1_lt_m1, m1_le_m1, m1_add1, neg_ι1, ι_addm, ι_addn, Bool.false_eq_true, Nat.not_lt_zero, Nat.add_zero, Nat.zero_add, Nat.mul_zero, Nat.reduceMul, Nat.reduceAdd, Nat.reduceSub, Nat.reduceLT, Nat.reduceLeDiff, Nat.reduceEqDiff, Nat.reduceDiv, Nat.reduceBEq, Nat.reduceBNe, false_or, or_false, true_or, or_true, and_true, true_and, false_and, and_false, not_false_eq_true, not_true_eq_false, if_true, if_false, if_pos, if_neg, Option.bind_some, ite_false, ite_true, eq_self, reduceIte, hb, ff]
      exact ih _ _ (by omega) (by omega)
theorem sim43 : Sim43 Rel := by
  intro σ τ hR
  replace hR := Rel_0 hR 0
  unfold fX12_firstMisplaced fX11_firstMisplaced
  have h00 : up τ 0 0 0 0 0 = 0 := up_e _ _ _ _
  generalize up τ 0 0 (0 : Int32) = τ at *
  obtain ⟨k, n, a, b, d, t, hO⟩ := RO_of hR
  obtain ⟨ρ, υ, e1, e2, hO2, oc, pc, sx, f1, f2⟩ := scans_RO hO
  have hd := sx.2.2.1
  have hL := sx.2.2.2.1
  obtain ⟨ω, b1, b2⟩ := r_fm_l d FU 0 υ (by omega) (by unfold FU; omega) sx
  have hff : fX4_firstFalling 373 ρ = some (oi (ff (fmB (fs (τ 3) (ordE (τ 3) n a))) 0 d)) := by
    unfold fX4_firstFalling
    by_cases h0 : d = 0
    · subst h0
      have hf : FU = 4095 + 1 := rfl
      rw [hf, fX4_firstFalling_l2, pc.1]
      simp (disch := omega) only [l_0, l_1, l_2, l_3, l_4, l_5, l_6, l_7, l_8, l_9, l_10, l_12, l_13, l_24, l_31, l_32, l_40, l_41, l_42, l_44, l_45, l_48, l_49, l_50, l_57, l_59, l_60, l_65, l_88, l_89, l_97, l_98, l_99, l_100, l_105, l_108, l_109, l_114, l_118, l_120, l_122, l_144, l_255, l_269, l_279, l_339, l_400, l_600, l_999, l_1000, l_2373, l_2712, ι_lt, ι_le, ι_eq, ι_add, ι_mul, ι_sub, ι_div, ι_n, ι_m1, m1_ι, m1_lt, m1_le, lt_m1, le_m1, m1_lt_m1, m1_le_m1, m1_add1, neg_ι1, ι_addm, ι_addn, Bool.false_eq_true, Nat.not_lt_zero, Nat.add_zero, Nat.zero_add, Nat.mul_zero, Nat.reduceMul, Nat.reduceAdd, Nat.reduceSub, Nat.reduceLT, Nat.reduceLeDiff, Nat.reduceEqDiff, Nat.reduceDiv, Nat.reduceBEq, Nat.reduceBNe, false_or, or_false, true_or, or_true, and_true, true_and, false_and, and_false, not_false_eq_true, not_true_eq_false, if_true, if_false, if_pos, if_neg, Option.bind_some, ite_false, ite_true, eq_self, reduceIte, ff, oi]
    · obtain ⟨d', rfl⟩ : ∃ d', d = d' + 1 := ⟨d - 1, by omega⟩
      rw [l_1, ff, if_neg (by simp [fmB, mx]; split <;> simp)]
      exact c_ff2 hd hL pc d' FU (0 + 1) (by omega) (by unfold FU; omega)
  have w0 : ω 0 0 = 0 := ((b1 0 0 (by omega)).trans (f2 0 0 (by omega))).trans h00
  have hR3 : Rel ρ ω := Rel_c (RO_rel hO2) (fun _ _ => rfl) (fr12_KT b1)
  rw [e1, e2, Option.bind_some, Option.bind_some, Nat.zero_add, hff, Option.bind_some]
  cases hx : ff (fmB (fs (τ 3) (ordE (τ 3) n a))) 0 d with
  | none =>
    rw [hx] at b2
    obtain ⟨z, w, b2⟩ := b2
    have b2 : fX12_firstMisplaced_l13 FU (-1) 0 υ = some (.inr (z, w, ω)) := b2
    rw [b2, if_pos (show oi none = -1 from rfl)]
    exact ⟨_, _, 1, rfl, rfl, Or.inr ⟨rfl, rfl⟩, fun v hv => (by cases hv), z_bad, Rel_0 hR3 _⟩
  | some s =>
    rw [hx] at b2
    have b2 : fX12_firstMisplaced_l13 FU (-1) 0 υ = some (.inl (ι s, ω)) := b2
    have hs := ff_some _ _ hx
    have es : ¬ oi (some s) = -1 := fun z => by
      have z : ι s = μ := z
      rw [ι_m1 (by omega)] at z; exact z
    rw [b2, if_neg es]
    exact ⟨_, _, 0, rfl, rfl, Or.inl ⟨_, rfl, rfl⟩, fun v hv => (by cases hv; rfl), z_ok w0, hR3⟩
/-- one step of the search for the longest run -/
def lrs (st : Option Nat × Nat × Nat) (y : Nat) : Option Nat × Nat × Nat :=
  let r := match st.1 with | none => st.2.1 + 1 | some x => if y < x then 1 else st.2.1 + 1
  (some y, r, if st.2.2 < r then r else st.2.2)
def lrl (l : List Nat) : Option Nat × Nat × Nat := l.foldl lrs (none, 0, 0)
theorem lrl_app (l : List Nat) (y : Nat) : lrl (l ++ [y]) = lrs (lrl l) y := by unfold lrl; rw [List.foldl_append]; rfl
theorem lrl_row_none {f : Nat → Option Nat} {s : Nat} (h : f s = none) : lrl (rowL f (s + 1)) = lrl (rowL f s) := by rw [rowL, h, Option.toList_none, List.append_nil]
theorem lrl_row_some {f : Nat → Option Nat} {s y : Nat} (h : f s = some y) : lrl (rowL f (s + 1)) = lrs (lrl (rowL f s)) y := by rw [rowL, h, Option.toList_some, lrl_app]
theorem lrl_rb : ∀ l : List Nat, (lrl l).2.1 ≤ l.length ∧ (lrl l).2.2 ≤ l.length := by
  have : ∀ n (l : List Nat), l.length = n → (lrl l).2.1 ≤ n ∧ (lrl l).2.2 ≤ n := by
    intro n
    induction n with
    | zero =>
      intro l h
      rw [List.length_eq_zero_iff.mp h]; exact ⟨Nat.le_refl _, Nat.le_refl _⟩
    | succ n ih =>
      intro l h
      rcases List.eq_nil_or_concat l with z | ⟨l', y, z⟩
      · rw [z] at h; simp at h
      · rw [List.concat_eq_append] at z
        subst z
        rw [List.length_append] at h
        simp only [List.length_cons, List.length_nil] at h
        obtain ⟨i1, i2⟩ := ih l' (by omega)
        rw [lrl_app]
        have hr : (lrs (lrl l') y).2.1 ≤ n + 1 := by
          unfold lrs
          show (match (lrl l').1 with | none => (lrl l').2.1 + 1 | some x => if y < x then 1 else (lrl l').2.1 + 1) ≤ n + 1
          split
          · exact Nat.succ_le_succ i1
          · split
            · exact Nat.succ_le_succ (Nat.zero_le _)
            · exact Nat.succ_le_succ i1
        refine ⟨hr, ?_⟩
        show (if (lrl l').2.2 < (lrs (lrl l') y).2.1 then (lrs (lrl l') y).2.1 else (lrl l').2.2) ≤ n + 1
        split <;> omega
  exact fun l => this l.length l rfl
theorem lrl_b : ∀ (l : List Nat) (x : Nat), (lrl l).1 = some x → x ∈ l := by
  intro l x h
  rcases List.eq_nil_or_concat l with z | ⟨l', y, z⟩
  · subst z; cases h
  · subst z
    rw [List.concat_eq_append, lrl_app] at h
    have : x = y := by
      have h : some y = some x := h
      cases h; rfl
    rw [this]
    simp
theorem rowL_mem {f : Nat → Option Nat} : ∀ s x, x ∈ rowL f s → ∃ e, e < s ∧ f e = some x := by
  intro s
  induction s with
  | zero => intro x h; simp [rowL] at h
  | succ s ih =>
    intro x h
    rw [rowL, List.mem_append] at h
    rcases h with h | h
    · obtain ⟨e, e1, e2⟩ := ih x h
      exact ⟨e, by omega, e2⟩
    · exact ⟨s, by omega, by simpa using h⟩
theorem c_lr_l {σ : Mem} {F : Nat → Int32} {L : List En} {d : Nat} (hd : d ≤ 60) (hL : L.length ≤ 144) (hP : PC σ F L d) : ∀ m n' c, c + m = d → m < n' → ∃ q, fX4_longestRising_l9 373 n' (ι (lrl (rowL (fs F L) c)).2.2) (ι (lrl (rowL (fs F L) c)).2.1) (oi (lrl (rowL (fs F L) c)).1) (ι c) σ = some (ι (lrl (rowL (fs F L) d)).2.2, q) := by
  intro m
  induction m with
  | zero =>
    intro n' c h hn'
    obtain ⟨n', rfl⟩ : ∃ k, n' = k + 1 := ⟨n' - 1, by omega⟩
    have e : c = d := by omega
    subst e
    rw [fX4_longestRising_l9, hP.1]
    simp (disch := omega) only [l_0, l_1, l_2, l_3, l_4, l_5, l_6, l_7, l_8, l_9, l_10, l_12, l_13, l_24, l_31, l_32, l_40, l_41, l_42, l_44, l_45, l_48, l_49, l_50, l_57, l_59, l_60, l_65, l_88, l_89, l_97, l_98, l_99, l_100, l_105, l_108, l_109, l_114, l_118, l_120, l_122, l_144, l_255, l_269, l_279, l_339, l_400, l_600, l_999, l_1000, l_2373, l_2712, ι_lt, ι_le, ι_eq, ι_add, ι_mul, ι_sub, ι_div, ι_n, ι_m1, m1_ι, m1_lt, m1_le, lt_m1, le_m1, m1_lt_m1, m1_le_m1, m1_add1, neg_ι1, ι_addm, ι_addn, Bool.false_eq_true, Nat.not_lt_zero, Nat.add_zero, Nat.zero_add, Nat.mul_zero, Nat.reduceMul, Nat.reduceAdd, Nat.reduceSub, Nat.reduceLT, Nat.reduceLeDiff, Nat.reduceEqDiff, Nat.reduceDiv, Nat.reduceBEq, Nat.reduceBNe, false_or, or_false, true_or, or_true, and_true, true_and, false_and, and_false, not_false_eq_true, not_true_eq_false, if_true, if_false, if_pos, if_neg, Option.bind_some, ite_false, ite_true, eq_self, reduceIte, Nat.le_refl]
    exact ⟨_, rfl⟩
  | succ m ih =>
    intro n' c h hn'
    obtain ⟨n', rfl⟩ : ∃ k, n' = k + 1 := ⟨n' - 1, by omega⟩
    obtain ⟨q, hq⟩ := ih n' (c + 1) (by omega) (by omega)
    have hlen := rowL_len (fs F L) c
    obtain ⟨i1, i2⟩ := lrl_rb (rowL (fs F L) c)
    rw [fX4_longestRising_l9, hP.1, c_isPlaced hd hL hP (by omega), c_first hd hP (by omega)]
    refine ⟨q, ?_⟩
    cases hf : fs F L c with
    | none =>
      rw [lrl_row_none hf] at hq
      simp (disch := omega) only [l_0, l_1, l_2, l_3, l_4, l_5, l_6, l_7, l_8, l_9, l_10, l_12, l_13, l_24, l_31, l_32, l_40, l_41, l_42, l_44, l_45, l_48, l_49, l_50, l_57, l_59, l_60, l_65, l_88, l_89, l_97, l_98, l_99, l_100, l_105, l_108, l_109, l_114, l_118, l_120, l_122, l_144, l_255, l_269, l_279, l_339, l_400, l_600, l_999, l_1000, l_2373, l_2712, ι_lt, ι_le, ι_eq, ι_add, ι_mul, ι_sub, ι_div, ι_n, ι_m1, m1_ι, m1_lt, m1_le, lt_m1, le_m1, m1_lt_m1, m1_le_m1, m1_add1, neg_ι1, ι_addm, ι_addn, Bool.false_eq_true, Nat.not_lt_zero, Nat.add_zero, Nat.zero_add, Nat.mul_zero, Nat.reduceMul, Nat.reduceAdd, Nat.reduceSub, Nat.reduceLT, Nat.reduceLeDiff, Nat.reduceEqDiff, Nat.reduceDiv, Nat.reduceBEq, Nat.reduceBNe, false_or, or_false, true_or, or_true, and_true, true_and, false_and, and_false, not_false_eq_true, not_true_eq_false, if_true, if_false, if_pos, if_neg, Option.bind_some, ite_false, ite_true, eq_self, reduceIte, Option.isSome_none]
      exact hq
    | some y =>
      have hy := fs_lt hL hf
      rw [lrl_row_some hf] at hq
      simp (disch := omega) only [l_0, l_1, l_2, l_3, l_4, l_5, l_6, l_7, l_8, l_9, l_10, l_12, l_13, l_24, l_31, l_32, l_40, l_41, l_42, l_44, l_45, l_48, l_49, l_50, l_57, l_59, l_60, l_65, l_88, l_89, l_97, l_98, l_99, l_100, l_105, l_108, l_109, l_114, l_118, l_120, l_122, l_144, l_255, l_269, l_279, l_339, l_400, l_600, l_999, l_1000, l_2373, l_2712, ι_lt, ι_le, ι_eq, ι_add, ι_mul, ι_sub, ι_div, ι_n, ι_m1, m1_ι, m1_lt, m1_le, lt_m1, le_m1, m1_lt_m1, m1_le_m1, m1_add1, neg_ι1, ι_addm, ι_addn, Bool.false_eq_true, Nat.not_lt_zero, Nat.add_zero, Nat.zero_add, Nat.mul_zero, Nat.reduceMul, Nat.reduceAdd, Nat.reduceSub, Nat.reduceLT, Nat.reduceLeDiff, Nat.reduceEqDiff, Nat.reduceDiv, Nat.reduceBEq, Nat.reduceBNe, false_or, or_false, true_or, or_true, and_true, true_and, false_and, and_false, not_false_eq_true, not_true_eq_false, if_true, if_false, if_pos, if_neg, Option.bind_some, ite_false, ite_true, eq_self, reduceIte, Option.isSome_some]
      have hbx : ∀ x, (lrl (rowL (fs F L) c)).1 = some x → x < 144 := fun x hx => by
        obtain ⟨e, -, e2⟩ := rowL_mem c x (lrl_b _ x hx)
        have := fs_lt hL e2; omega
      revert hq
      unfold lrs
      generalize hst : lrl (rowL (fs F L) c) = st at *
      obtain ⟨b, r, g⟩ := st
      simp only at i1 i2 hbx
      intro hq
      cases b with
      | none =>
        have e3 : (if g < r + 1 then ι (r + 1) else ι g) = ι (if g < r + 1 then r + 1 else g) := by split <;> rfl
        simp (disch := omega) only [oi, l_0, l_1, l_2, l_3, l_4, l_5, l_6, l_7, l_8, l_9, l_10, l_12, l_13, l_24, l_31, l_32, l_40, l_41, l_42, l_44, l_45, l_48, l_49, l_50, l_57, l_59, l_60, l_65, l_88, l_89, l_97, l_98, l_99, l_100, l_105, l_108, l_109, l_114, l_118, l_120, l_122, l_144, l_255, l_269, l_279, l_339, l_400, l_600, l_999, l_1000, l_2373, l_2712, ι_lt, ι_le, ι_eq, ι_add, ι_mul, ι_sub, ι_div, ι_n, ι_m1, m1_ι, m1_lt, m1_le, lt_m1, le_m1, m1_lt_m1, m1_le_m1, m1_add1, neg_ι1, ι_addm, ι_addn, Bool.false_eq_true, Nat.not_lt_zero, Nat.add_zero, Nat.zero_add, Nat.mul_zero, Nat.reduceMul, Nat.reduceAdd, Nat.reduceSub, Nat.reduceLT, Nat.reduceLeDiff, Nat.reduceEqDiff, Nat.reduceDiv, Nat.reduceBEq, Nat.reduceBNe, false_or, or_false, true_or, or_true, and_true, true_and, false_and, and_false, not_false_eq_true, not_true_eq_false, if_true, if_false, if_pos, if_neg, Option.bind_some, ite_false, ite_true, eq_self, reduceIte, ι_lt] at hq ⊢
        rw [e3]; exact hq
      | some x =>
        have := hbx x rfl
        by_cases hyx : y < x
        · have e3 : (if g < 1 then ι 1 else ι g) = ι (if g < 1 then 1 else g) := by split <;> rfl
          simp (disch := omega) only [oi, l_0, l_1, l_2, l_3, l_4, l_5, l_6, l_7, l_8, l_9, l_10, l_12, l_13, l_24, l_31, l_32, l_40, l_41, l_42, l_44, l_45, l_48, l_49, l_50, l_57, l_59, l_60, l_65, l_88, l_89, l_97, l_98, l_99, l_100, l_105, l_108, l_109, l_114, l_118, l_120, l_122, l_144, l_255, l_269, l_279, l_339, l_400, l_600, l_999, l_1000, l_2373, l_2712, ι_lt, ι_le, ι_eq, ι_add, ι_mul, ι_sub, ι_div, ι_n, ι_m1, m1_ι, m1_lt, m1_le, lt_m1, le_m1, m1_lt_m1, m1_le_m1, m1_add1, neg_ι1, ι_addm, ι_addn, Bool.false_eq_true, Nat.not_lt_zero, Nat.add_zero, Nat.zero_add, Nat.mul_zero, Nat.reduceMul, Nat.reduceAdd, Nat.reduceSub, Nat.reduceLT, Nat.reduceLeDiff, Nat.reduceEqDiff, Nat.reduceDiv, Nat.reduceBEq, Nat.reduceBNe, false_or, or_false, true_or, or_true, and_true, true_and, false_and, and_false, not_false_eq_true, not_true_eq_false, if_true, if_false, if_pos, if_neg, Option.bind_some, ite_false, ite_true, eq_self, reduceIte, ι_lt, hyx] at hq ⊢
          rw [e3]; exact hq
        · have e3 : (if g < r + 1 then ι (r + 1) else ι g) = ι (if g < r + 1 then r + 1 else g) := by split <;> rfl
          simp (disch := omega) only [oi, l_0, l_1, l_2, l_3, l_4, l_5, l_6, l_7, l_8, l_9, l_10, l_12, l_13, l_24, l_31, l_32, l_40, l_41, l_42, l_44, l_45, l_48, l_49, l_50, l_57, l_59, l_60, l_65, l_88, l_89, l_97, l_98, l_99, l_100, l_105, l_108, l_109, l_114, l_118, l_120, l_122, l_144, l_255, l_269, l_279, l_339, l_400, l_600, l_999, l_1000, l_2373, l_2712, ι_lt, ι_le, ι_eq, ι_add, ι_mul, ι_sub, ι_div, ι_n, ι_m1, m1_ι, m1_lt, m1_le, lt_m1, le_m1, m1_lt_m1, m1_le_m1, m1_add1, neg_ι1, ι_addm, ι_addn, Bool.false_eq_true, Nat.not_lt_zero, Nat.add_zero, Nat.zero_add, Nat.mul_zero, Nat.reduceMul, Nat.reduceAdd, Nat.reduceSub, Nat.reduceLT, Nat.reduceLeDiff, Nat.reduceEqDiff, Nat.reduceDiv, Nat.reduceBEq, Nat.reduceBNe, false_or, or_false, true_or, or_true, and_true, true_and, false_and, and_false, not_false_eq_true, not_true_eq_false, if_true, if_false, if_pos, if_neg, Option.bind_some, ite_false, ite_true, eq_self, reduceIte, ι_lt, hyx] at hq ⊢
          rw [e3]; exact hq
theorem tk_succ {l : List Nat} {j : Nat} (h : j < l.length) : l.take (j + 1) = l.take j ++ [gd l j] := by
  rw [List.take_succ_eq_append_getElem h]
  congr 2
  unfold gd
  rw [List.getD_eq_getElem?_getD, List.getElem?_eq_getElem h]; rfl
def frR4 (τ υ : Mem) : Prop := ∀ k j, k ≠ 14 → υ k j = τ k j
theorem lrl_last {l : List Nat} {j : Nat} (h : j < l.length) : (lrl (l.take (j + 1))).1 = some (gd l j) := by rw [tk_succ h, lrl_app]; rfl
theorem r_lr_l {l : List Nat} (hl : l.length ≤ 60) (hb : ∀ i, i < l.length → gd l i < 144) : ∀ m n' j (υ : Mem), j + m = l.length → m < n' → RR υ l → (0 < j → υ 14 (j - 1) = ι (lrl (l.take j)).2.1) → ∃ z ω, fX12_longestRun_l13 n' (ι (lrl (l.take j)).2.2) (ι j) υ = some (ι (lrl l).2.2, z, ω) ∧ frR4 υ ω := by
  intro m
  induction m with
  | zero =>
    intro n' j υ h hn' hR hr
    obtain ⟨n', rfl⟩ : ∃ k, n' = k + 1 := ⟨n' - 1, by omega⟩
    have e : j = l.length := by omega
    subst e
    rw [fX12_longestRun_l13, hR.1, List.take_length]
    simp (disch := omega) only [l_0, l_1, l_2, l_3, l_4, l_5, l_6, l_7, l_8, l_9, l_10, l_12, l_13, l_24, l_31, l_32, l_40, l_41, l_42, l_44, l_45, l_48, l_49, l_50, l_57, l_59, l_60, l_65, l_88, l_89, l_97, l_98, l_99, l_100, l_105, l_108, l_109, l_114, l_118, l_120, l_122, l_144, l_255, l_269, l_279, l_339, l_400, l_600, l_999, l_1000, l_2373, l_2712, ι_lt, ι_le, ι_eq, ι_add, ι_mul, ι_sub, ι_div, ι_n, ι_m1, m1_ι, m1_lt, m1_le, lt_m1, le_m1, m1_lt_m1, m1_le_m1, m1_add1, neg_ι1, ι_addm, ι_addn, Bool.false_eq_true, Nat.not_lt_zero, Nat.add_zero, Nat.zero_add, Nat.mul_zero, Nat.reduceMul, Nat.reduceAdd, Nat.reduceSub, Nat.reduceLT, Nat.reduceLeDiff, Nat.reduceEqDiff, Nat.reduceDiv, Nat.reduceBEq, Nat.reduceBNe, false_or, or_false, true_or, or_true, and_true, true_and, false_and, and_false, not_false_eq_true, not_true_eq_false, if_true, if_false, if_pos, if_neg, Option.bind_some, ite_false, ite_true, eq_self, reduceIte, Nat.le_refl]
    exact ⟨_, _, rfl, fun _ _ _ => rfl⟩
  | succ m ih =>
    intro n' j υ h hn' hR hr
    obtain ⟨n', rfl⟩ : ∃ k, n' = k + 1 := ⟨n' - 1, by omega⟩
    have gj := hb j (by omega)
    have hj : j < l.length := by omega
    obtain ⟨i1, i2⟩ := lrl_rb (l.take j)
    rw [List.length_take] at i1 i2
    have step : ∀ r : Nat, (lrl (l.take (j + 1))).2.1 = r → ∃ z ω, fX12_longestRun_l13 n' (ι (lrl (l.take (j + 1))).2.2) (ι (j + 1)) (up υ 14 j (ι r)) = some (ι (lrl l).2.2, z, ω) ∧ frR4 υ ω := fun r hr' => by
      obtain ⟨z, ω, b1, b2⟩ := ih n' (j + 1) (up υ 14 j (ι r)) (by omega) (by omega) ⟨by rw [up_k _ _ _ _ _ (by omega)]; exact hR.1, fun i hi => by rw [up_k _ _ _ _ _ (by omega)]; exact hR.2 i hi⟩ (fun _ => by rw [Nat.add_sub_cancel, up_e, hr'])
      exact ⟨z, ω, b1, fun k j' hk => (b2 k j' hk).trans (by rw [up_k _ _ _ _ _ hk])⟩
    rw [fX12_longestRun_l13, hR.1]
    have hgd : gd l j < 144 := gj
    by_cases h0 : j = 0
    · subst h0
      have hst : lrl (l.take (0 + 1)) = (some (gd l 0), 1, 1) := by
        rw [tk_succ hj, List.take_zero, List.nil_append]; rfl
      obtain ⟨z, ω, s1, s2⟩ := step 1 (by rw [hst])
      refine ⟨z, ω, ?_, s2⟩
      rw [hst] at s1
      have e0 : (lrl (l.take 0)).2.2 = 0 := rfl
      rw [e0]
      simp (disch := omega) only [l_0, l_1, l_2, l_3, l_4, l_5, l_6, l_7, l_8, l_9, l_10, l_12, l_13, l_24, l_31, l_32, l_40, l_41, l_42, l_44, l_45, l_48, l_49, l_50, l_57, l_59, l_60, l_65, l_88, l_89, l_97, l_98, l_99, l_100, l_105, l_108, l_109, l_114, l_118, l_120, l_122, l_144, l_255, l_269, l_279, l_339, l_400, l_600, l_999, l_1000, l_2373, l_2712, ι_lt, ι_le, ι_eq, ι_add, ι_mul, ι_sub, ι_div, ι_n, ι_m1, m1_ι, m1_lt, m1_le, lt_m1, le_m1, m1_lt_m1, m1_le_m1, m1_add1, neg_ι1, ι_addm, ι_addn, Bool.false_eq_true, Nat.not_lt_zero, Nat.add_zero, Nat.zero_add, Nat.mul_zero, Nat.reduceMul, Nat.reduceAdd, Nat.reduceSub, Nat.reduceLT, Nat.reduceLeDiff, Nat.reduceEqDiff, Nat.reduceDiv, Nat.reduceBEq, Nat.reduceBNe, false_or, or_false, true_or, or_true, and_true, true_and, false_and, and_false, not_false_eq_true, not_true_eq_false, if_true, if_false, if_pos, if_neg, Option.bind_some, ite_false, ite_true, eq_self, reduceIte, lm_0, lm_1, lm_2, lm_3, lm_4, lm_5, lm_6, lm_7, lm_8, lm_9, lm_10, lm_11, lm_12, lm_13, lm_14, lm_15, lm_16, lm_17, up_e, up_j, up_k, Nat.reduceAdd, Nat.add_zero]
      exact s1
    · have hprev : (lrl (l.take j)).1 = some (gd l (j - 1)) := by
        have := lrl_last (l := l) (j := j - 1) (by omega)
        rw [show j - 1 + 1 = j by omega] at this; exact this
      have gj1 := hb (j - 1) (by omega)
      have hst : lrl (l.take (j + 1)) = lrs (lrl (l.take j)) (gd l j) := by rw [tk_succ hj, lrl_app]
      have r14 := hr (by omega)
      have r13 := hR.2 j hj
      have r13' := hR.2 (j - 1) (by omega)
      revert step hst hprev r14 i1 i2
      generalize lrl (l.take j) = st
      obtain ⟨bb, r, g⟩ := st
      intro i1 i2 step hprev hst r14
      simp only at hprev r14 i1 i2
      subst hprev
      by_cases hyx : gd l j < gd l (j - 1)
      · have hst' : lrl (l.take (j + 1)) = (some (gd l j), 1, if g < 1 then 1 else g) := by rw [hst]; unfold lrs; simp only [if_pos hyx]
        obtain ⟨z, ω, s1, s2⟩ := step 1 (by rw [hst'])
        rw [hst'] at s1
        refine ⟨z, ω, ?_, s2⟩
        have e3 : (if g < 1 then ι 1 else ι g) = ι (if g < 1 then 1 else g) := by split <;> rfl
        simp (disch := omega) only [l_0, l_1, l_2, l_3, l_4, l_5, l_6, l_7, l_8, l_9, l_10, l_12, l_13, l_24, l_31, l_32, l_40, l_41, l_42, l_44, l_45, l_48, l_49, l_50, l_57, l_59, l_60, l_65, l_88, l_89, l_97, l_98, l_99, l_100, l_105, l_108, l_109, l_114, l_118, l_120, l_122, l_144, l_255, l_269, l_279, l_339, l_400, l_600, l_999, l_1000, l_2373, l_2712, ι_lt, ι_le, ι_eq, ι_add, ι_mul, ι_sub, ι_div, ι_n, ι_m1, m1_ι, m1_lt, m1_le, lt_m1, le_m1, m1_lt_m1, m1_le_m1, m1_add1, neg_ι1, ι_addm, ι_addn, Bool.false_eq_true, Nat.not_lt_zero, Nat.add_zero, Nat.zero_add, Nat.mul_zero, Nat.reduceMul, Nat.reduceAdd, Nat.reduceSub, Nat.reduceLT, Nat.reduceLeDiff, Nat.reduceEqDiff, Nat.reduceDiv, Nat.reduceBEq, Nat.reduceBNe, false_or, or_false, true_or, or_true, and_true, true_and, false_and, and_false, not_false_eq_true, not_true_eq_false, if_true, if_false, if_pos, if_neg, Option.bind_some, ite_false, ite_true, eq_self, reduceIte, lm_0, lm_1, lm_2, lm_3, lm_4, lm_5, lm_6, lm_7, lm_8, lm_9, lm_10, lm_11, lm_12, lm_13, lm_14, lm_15, lm_16, lm_17, up_e, up_j, up_k, Nat.reduceAdd, Nat.add_zero, r13, r13', ι_lt]
        rw [e3]; exact s1
      · have hst' : lrl (l.take (j + 1)) = (some (gd l j), r + 1, if g < r + 1 then r + 1 else g) := by rw [hst]; unfold lrs; simp only [if_neg hyx]
        obtain ⟨z, ω, s1, s2⟩ := step (r + 1) (by rw [hst'])
        rw [hst'] at s1
        refine ⟨z, ω, ?_, s2⟩
        have e3 : (if g < r + 1 then ι (r + 1) else ι g) = ι (if g < r + 1 then r + 1 else g) := by split <;> rfl
        simp (disch := omega) only [l_0, l_1, l_2, l_3, l_4, l_5, l_6, l_7, l_8, l_9, l_10, l_12, l_13, l_24, l_31, l_32, l_40, l_41, l_42, l_44, l_45, l_48, l_49, l_50, l_57, l_59, l_60, l_65, l_88, l_89, l_97, l_98, l_99, l_100, l_105, l_108, l_109, l_114, l_118, l_120, l_122, l_144, l_255, l_269, l_279, l_339, l_400, l_600, l_999, l_1000, l_2373, l_2712, ι_lt, ι_le, ι_eq, ι_add, ι_mul, ι_sub, ι_div, ι_n, ι_m1, m1_ι, m1_lt, m1_le, lt_m1, le_m1, m1_lt_m1, m1_le_m1, m1_add1, neg_ι1, ι_addm, ι_addn, Bool.false_eq_true, Nat.not_lt_zero, Nat.add_zero, Nat.zero_add, Nat.mul_zero, Nat.reduceMul, Nat.reduceAdd, Nat.reduceSub, Nat.reduceLT, Nat.reduceLeDiff, Nat.reduceEqDiff, Nat.reduceDiv, Nat.reduceBEq, Nat.reduceBNe, false_or, or_false, true_or, or_true, and_true, true_and, false_and, and_false, not_false_eq_true, not_true_eq_false, if_true, if_false, if_pos, if_neg, Option.bind_some, ite_false, ite_true, eq_self, reduceIte, lm_0, lm_1, lm_2, lm_3, lm_4, lm_5, lm_6, lm_7, lm_8, lm_9, lm_10, lm_11, lm_12, lm_13, lm_14, lm_15, lm_16, lm_17, up_e, up_j, up_k, Nat.reduceAdd, Nat.add_zero, r13, r13', r14, ι_lt]
        rw [e3]; exact s1
theorem sim42 : Sim42 Rel := by
  intro σ τ hR
  replace hR := Rel_0 hR 0
  unfold fX12_longestRun fX11_longestRun
  generalize up τ 0 0 (0 : Int32) = τ at *
  obtain ⟨k, n, a, b, d, t, hO⟩ := RO_of hR
  obtain ⟨ρ, υ, e1, e2, hO2, oc, pc, sx, f1, f2⟩ := scans_RO hO
  have hd := sx.2.2.1
  have hL := sx.2.2.2.1
  obtain ⟨ω, b1, b2, b3⟩ := r_laysRow e2 sx
  have hlen := rowL_len (fs (τ 3) (ordE (τ 3) n a)) d
  have hb := rowL_lt (f := fs (τ 3) (ordE (τ 3) n a)) (B := 144) d (fun c y _ hy => by have := fs_lt hL hy; omega)
  obtain ⟨q, c1⟩ := c_lr_l hd hL pc d FU 0 (by omega) (by unfold FU; omega)
  obtain ⟨z, ψ, d1, d2⟩ := r_lr_l (by omega) hb (rowL (fs (τ 3) (ordE (τ 3) n a)) d).length FU 0 ω (by omega) (by unfold FU; omega) b2 (fun h => by omega)
  refine ⟨ι (lrl (rowL (fs (τ 3) (ordE (τ 3) n a)) d)).2.2, ρ, ψ, ?_, ?_, Rel_c (RO_rel hO2) (fun _ _ => rfl) (fun k j hk => ?_)⟩
  · have c1 : fX4_longestRising_l9 373 FU 0 0 (-1) 0 ρ = _ := c1
    unfold fX4_longestRising
    rw [e1, Option.bind_some, Nat.zero_add, c1]; rfl
  · have d1 : fX12_longestRun_l13 FU 0 0 ω = _ := d1
    rw [b1, Option.bind_some, d1]; rfl
  · rw [d2 k j (by unfold KT RT at hk; omega)]; exact frR_KT b3 k j hk
