/-! PURE PART: changes -/
def RO (σ τ : Mem) (k n a b d t : Nat) : Prop := Rest σ τ k n ∧ FI n a b d t (τ 3) ∧ VR σ 42 (τ 1) k n a (τ 3) ∧ LR σ 53 b (τ 3) ∧ CR σ 62 d (τ 3) ∧ WR σ 69 t (τ 3)
theorem RO_of {σ τ : Mem} (h : Rel σ τ) : ∃ k n a b d t, RO σ τ k n a b d t := Rel_open h
theorem RO_rel {σ τ : Mem} {k n a b d t : Nat} (h : RO σ τ k n a b d t) : Rel σ τ := Rel_close h.1 h.2.1 h.2.2.1 h.2.2.2.1 h.2.2.2.2.1 h.2.2.2.2.2
theorem VR_e {σ ρ : Mem} {v k n a : Nat} {q F G : Nat → Int32} (hn : n ≤ 60) (ha : a ≤ 12) (h : VR σ v q k n a F) (hσ : ∀ j, j < 11 → ρ (v + j) = σ (v + j)) (e1 : ∀ j, 5 ≤ j → j < 41 → G j = F j) (e2 : ∀ j, 279 ≤ j → j < 339 → G j = F j) : VR ρ v q k n a G := by
  obtain ⟨h0, h1, h2, h3, h4, h5, h6, h7, h8⟩ := h
  have e0 : ρ v = σ v := hσ 0 (by omega)
  refine ⟨h0, by rw [e0]; exact h1, by rw [e0]; exact h2, by rw [e0]; exact h3, fun i hi => ?_, fun i hi => ?_, fun i hi => ?_, fun i hi => ?_, fun i hi => ?_⟩
  · have := hσ 2 (by omega); rw [Nat.add_assoc, this]; exact h4 i hi
  · have := hσ 4 (by omega); rw [Nat.add_assoc, this, e2 _ (by omega) (by omega)]; exact h5 i hi
  · have := hσ 6 (by omega); rw [Nat.add_assoc, this, e1 _ (by omega) (by omega)]; exact h6 i hi
  · have := hσ 8 (by omega); rw [Nat.add_assoc, this, e1 _ (by omega) (by omega)]; exact h7 i hi
  · have := hσ 10 (by omega); rw [Nat.add_assoc, this, e1 _ (by omega) (by omega)]; exact h8 i hi
theorem LR_e {σ ρ : Mem} {v b : Nat} {F G : Nat → Int32} (hb : b ≤ 12) (h : LR σ v b F) (hσ : ∀ j, j < 9 → ρ (v + j) = σ (v + j)) (e : ∀ j, 41 ≤ j → j < 89 → G j = F j) : LR ρ v b G := by
  obtain ⟨h0, h1, h2, h3, h4, h5⟩ := h
  have e0 : ρ v = σ v := hσ 0 (by omega)
  refine ⟨h0, by rw [e0]; exact h1, fun i hi => ?_, fun i hi => ?_, fun i hi => ?_, fun i hi => ?_⟩
  · have := hσ 2 (by omega); rw [Nat.add_assoc, this, e _ (by omega) (by omega)]; exact h2 i hi
  · have := hσ 4 (by omega); rw [Nat.add_assoc, this, e _ (by omega) (by omega)]; exact h3 i hi
  · have := hσ 6 (by omega); rw [Nat.add_assoc, this, e _ (by omega) (by omega)]; exact h4 i hi
  · have := hσ 8 (by omega); rw [Nat.add_assoc, this, e _ (by omega) (by omega)]; exact h5 i hi
theorem CR_e {σ ρ : Mem} {v d : Nat} {F G : Nat → Int32} (hd : d ≤ 60) (h : CR σ v d F) (hσ : ∀ j, j < 7 → ρ (v + j) = σ (v + j)) (e : ∀ j, 89 ≤ j → j < 269 → G j = F j) : CR ρ v d G := by
  obtain ⟨h0, h1, h2, h3, h4⟩ := h
  have e0 : ρ v = σ v := hσ 0 (by omega)
  refine ⟨h0, by rw [e0]; exact h1, fun i hi => ?_, fun i hi => ?_, fun i hi => ?_⟩
  · have := hσ 2 (by omega); rw [Nat.add_assoc, this, e _ (by omega) (by omega)]; exact h2 i hi
  · have := hσ 4 (by omega); rw [Nat.add_assoc, this, e _ (by omega) (by omega)]; exact h3 i hi
  · have := hσ 6 (by omega); rw [Nat.add_assoc, this, e _ (by omega) (by omega)]; exact h4 i hi
theorem WR_e {σ ρ : Mem} {v t : Nat} {F G : Nat → Int32} (ht : t ≤ 10) (h : WR σ v t F) (hσ : ∀ j, j < 3 → ρ (v + j) = σ (v + j)) (e3 : G 3 = F 3) (e : ∀ j, 269 ≤ j → j < 279 → G j = F j) : WR ρ v t G := by
  obtain ⟨h0, h1, h2, h3⟩ := h
  have e0 : ρ v = σ v := hσ 0 (by omega)
  refine ⟨h0, by rw [e0]; exact h1, by rw [e0, e3]; exact h2, fun i hi => ?_⟩
  · have := hσ 2 (by omega); rw [Nat.add_assoc, this, e _ (by omega) (by omega)]; exact h3 i hi
theorem SlI_e {n s : Nat} {F G : Nat → Int32} (hs : s < 12) (h : SlI n F s) (e : ∀ j, 5 ≤ j → j < 41 → G j = F j) : SlI n G s := by
  unfold SlI at *
  rw [e (5 + 3 * s) (by omega) (by omega), e (5 + 3 * s + 1) (by omega) (by omega), e (5 + 3 * s + 2) (by omega) (by omega)]; exact h
theorem RgI_e {n s : Nat} {F G : Nat → Int32} (hs : s < 12) (h : RgI n F s) (e : ∀ j, 41 ≤ j → j < 89 → G j = F j) : RgI n G s := by
  unfold RgI at *
  rw [e (41 + 4 * s) (by omega) (by omega), e (41 + 4 * s + 1) (by omega) (by omega), e (41 + 4 * s + 2) (by omega) (by omega), e (41 + 4 * s + 3) (by omega) (by omega)]; exact h
theorem ScI_e {n a s : Nat} {F G : Nat → Int32} (hs : s < 60) (h : ScI n a F s) (e : ∀ j, 89 ≤ j → j < 269 → G j = F j) : ScI n a G s := by
  unfold ScI at *
  rw [e (89 + 3 * s) (by omega) (by omega), e (89 + 3 * s + 1) (by omega) (by omega), e (89 + 3 * s + 2) (by omega) (by omega)]; exact h
theorem Rest_up {σ ρ τ υ : Mem} {k n : Nat} (h : Rest σ τ k n) (hσ : ∀ j, (j < 41 ∨ 72 ≤ j) → ρ j = σ j) (hτ : ∀ k j, k ≠ 3 → υ k j = τ k j) : Rest ρ υ k n :=
  Rest_c h (fun j hj => hσ j (by unfold RK at hj; omega)) (fun k j hk => hτ k j (by unfold RT at hk; omega))
theorem keep_RO {σ τ : Mem} {k n a b d t : Nat} (h : RO σ τ k n a b d t) : ∃ ρ υ, fX0_keep 79 41 σ = some ρ ∧ fX12_remembers τ = some υ ∧ RO ρ υ k n a b d t ∧ (∀ j, j < 79 ∨ 329 ≤ j → ρ j = σ j) ∧ (∀ k j, ¬ (k = 6 ∨ (k = 0 ∧ j = 9)) → υ k j = τ k j) := by
  obtain ⟨hr, hF, hV, hL, hC, hW⟩ := h
  obtain ⟨ρ, υ, e1, e2, r1, r2, r3, r4⟩ := keep_sim hr ⟨a, b, d, t, hF, hV, hL, hC, hW⟩
  have u1 : υ 1 = τ 1 := funext fun j => r4 1 j (by omega)
  have u3 : υ 3 = τ 3 := funext fun j => r4 3 j (by omega)
  have hn := hr.1.2.2.2.2
  refine ⟨ρ, υ, e1, e2, ⟨r1, by rw [u3]; exact hF, ?_, ?_, ?_, ?_⟩, r3, r4⟩
  · rw [u1, u3]; exact VR_c hn hF.2.1 hV (fun j hj => r3 _ (by omega)) (fun _ _ => rfl)
  · rw [u3]; exact LR_c hF.2.2.2.2.1 hL (fun j hj => r3 _ (by omega)) (fun _ _ => rfl)
  · rw [u3]; exact CR_c hF.2.2.2.2.2.2.2.1 hC (fun j hj => r3 _ (by omega)) (fun _ _ => rfl)
  · rw [u3]; exact WR_c hF.2.2.2.2.2.2.2.2.2.2.1 hW (fun j hj => r3 _ (by omega)) (fun _ _ => rfl)
theorem up3_1 {υ : Mem} {j : Nat} {v : Int32} : up υ 3 j v 1 = υ 1 := up_k _ _ _ _ _ (by omega)
theorem gone_RO {ρ υ : Mem} {k n a b d t i w : Nat} (h : RO ρ υ k n a b d t) (hi : i < n) (hw : w ≤ 1) : RO (up (up (up ρ 46 i (ι w)) 69 1 (ι 0)) 69 2 (ι 0)) (up (up (up υ 3 (279 + i) (ι w)) 3 3 (ι 0)) 3 4 (ι 0)) k n a b d 0 := by
  obtain ⟨hr, hF, hV, hL, hC, hW⟩ := h
  have hn := hr.1.2.2.2.2
  obtain ⟨f1, f2, f3, f4, f5, f6, f7, f8, f9, f10, f11, f12⟩ := hF
  have eF : ∀ j, j ≠ 3 → j ≠ 4 → j ≠ 279 + i → (up (up (up υ 3 (279 + i) (ι w)) 3 3 (ι 0)) 3 4 (ι 0)) 3 j = υ 3 j := fun j h1 h2 h3 => by
    simp (disch := omega) only [up_e, up_j, up_k, Nat.reduceAdd, Nat.add_zero]
  have eM : ∀ j, j ≠ 46 → j ≠ 69 → (up (up (up ρ 46 i (ι w)) 69 1 (ι 0)) 69 2 (ι 0)) j = ρ j := fun j h1 h2 => by
    simp (disch := omega) only [up_e, up_j, up_k, Nat.reduceAdd, Nat.add_zero]
  refine ⟨Rest_up hr (fun j hj => eM j (by omega) (by omega)) (fun k j hk => by simp (disch := omega) only [up_e, up_j, up_k, Nat.reduceAdd, Nat.add_zero]), ⟨?_, f2, fun s hs => SlI_e (by omega) (f3 s hs) (fun j h1 h2 => eF j (by omega) (by omega) (by omega)), ?_, f5, fun s hs => RgI_e (by omega) (f6 s hs) (fun j h1 h2 => eF j (by omega) (by omega) (by omega)), ?_, f8, fun s hs => ScI_e (by omega) (f9 s hs) (fun j h1 h2 => eF j (by omega) (by omega) (by omega)), ?_, by omega, fun j hj => ?_⟩, ?_, ?_, ?_, ?_⟩
  · rw [eF 0 (by omega) (by omega) (by omega)]; exact f1
  · rw [eF 1 (by omega) (by omega) (by omega)]; exact f4
  · rw [eF 2 (by omega) (by omega) (by omega)]; exact f7
  · exact up_e _ _ _ _
  · by_cases hj' : j = i
    · subst hj'
      simp (disch := omega) only [up_e, up_j, up_k, Nat.reduceAdd, Nat.add_zero]
      rcases (show w = 0 ∨ w = 1 by omega) with z | z
      · exact Or.inl (by rw [z])
      · exact Or.inr (by rw [z])
    · rw [eF _ (by omega) (by omega) (by omega)]; exact f12 j hj
  · obtain ⟨h0, h1, h2, h3, h4, h5, h6, h7, h8⟩ := hV
    have hs := f2
    refine ⟨h0, ?_, ?_, ?_, fun j hj => ?_, fun j hj => ?_, fun j hj => ?_, fun j hj => ?_, fun j hj => ?_⟩
    · rw [eM _ (by omega) (by omega)]; exact h1
    · rw [eM _ (by omega) (by omega)]; exact h2
    · rw [eM _ (by omega) (by omega)]; exact h3
    · rw [eM _ (by omega) (by omega), up3_1, up3_1, up3_1]; exact h4 j hj
    · by_cases hj' : j = i
      · subst hj'
        simp (disch := omega) only [up_e, up_j, up_k, Nat.reduceAdd, Nat.add_zero]
      · rw [eF _ (by omega) (by omega) (by omega), ← h5 j hj]
        simp (disch := omega) only [up_e, up_j, up_k, Nat.reduceAdd, Nat.add_zero]
    · rw [eM _ (by omega) (by omega), eF _ (by omega) (by omega) (by omega)]; exact h6 j hj
    · rw [eM _ (by omega) (by omega), eF _ (by omega) (by omega) (by omega)]; exact h7 j hj
    · rw [eM _ (by omega) (by omega), eF _ (by omega) (by omega) (by omega)]; exact h8 j hj
  · exact LR_e f5 hL (fun j hj => eM _ (by omega) (by omega)) (fun j h1 h2 => eF j (by omega) (by omega) (by omega))
  · exact CR_e f8 hC (fun j hj => eM _ (by omega) (by omega)) (fun j h1 h2 => eF j (by omega) (by omega) (by omega))
  · refine ⟨hW.1, ?_, ?_, fun j hj => by omega⟩
    · simp (disch := omega) only [up_e, up_j, up_k, Nat.reduceAdd, Nat.add_zero]
    · simp (disch := omega) only [up_e, up_j, up_k, Nat.reduceAdd, Nat.add_zero]
theorem cf_zero {P : Nat → Bool} {m i : Nat} (h : ∀ k, i ≤ k → k < i + m → P k = false) : cf P i m = 0 := by
  have : ∀ m i, (∀ k, i ≤ k → k < i + m → P k = false) → cf P i m = 0 := by
    intro m
    induction m with
    | zero => intro i _; rfl
    | succ m ih => intro i h; rw [cf, h i (by omega) (by omega), ih (i + 1) (fun k h1 h2 => h k (by omega) (by omega))]; rfl
  exact this m i h
theorem cf_pos {P : Nat → Bool} {j : Nat} (hj : P j = true) : ∀ m i, i ≤ j → j < i + m → 0 < cf P i m := by
  intro m
  induction m with
  | zero => intro i h1 h2; omega
  | succ m ih =>
    intro i h1 h2
    rw [cf]
    by_cases h : i = j
    · subst h; rw [if_pos hj]; omega
    · have := ih (i + 1) (by omega) (by omega); omega
def hsB (F : Nat → Int32) (x y : Int32) (s : Nat) : Bool := decide (F (5 + 3 * s) ≠ μ ∧ ¬ F (5 + 3 * s) < x ∧ ¬ y < F (5 + 3 * s))
theorem c_hs_l {σ : Mem} {v k n a : Nat} {q F : Nat → Int32} (ha : a ≤ 12) (hV : VR σ v q k n a F) (x y : Int32) : ∀ m n' i, i + m = a → m < n' → (fX10_hasSlips_l2 v x y n' (ι i) σ).bind (fun q2 => match q2 with | .inl r => some r | .inr q2 => some (0 : Int32)) = some (if (ff (hsB F x y) i m).isSome then ι 1 else ι 0) := by
  intro m
  induction m with
  | zero =>
    intro n' i h hn'
    obtain ⟨n', rfl⟩ : ∃ k, n' = k + 1 := ⟨n' - 1, by omega⟩
    rw [fX10_hasSlips_l2]
    simp (disch := omega) only [l_0, l_1, l_2, l_3, l_4, l_5, l_6, l_7, l_8, l_9, l_10, l_12, l_13, l_24, l_31, l_32, l_40, l_41, l_42, l_44, l_45, l_48, l_49, l_50, l_57, l_59, l_60, l_65, l_88, l_89, l_97, l_98, l_99, l_100, l_105, l_108, l_109, l_114, l_118, l_120, l_122, l_144, l_255, l_269, l_279, l_339, l_400, l_600, l_999, l_1000, l_2373, l_2712, ι_lt, ι_le, ι_eq, ι_add, ι_mul, ι_sub, ι_div, ι_n, ι_m1, m1_ι, m1_lt, m1_le, lt_m1, le_m1, m1_lt_m1, m1_le_m1, m1_add1, neg_ι1, ι_addm, ι_addn, Bool.false_eq_true, Nat.not_lt_zero, Nat.add_zero, Nat.zero_add, Nat.mul_zero, Nat.reduceMul, Nat.reduceAdd, Nat.reduceSub, Nat.reduceLT, Nat.reduceLeDiff, Nat.reduceEqDiff, Nat.reduceDiv, Nat.reduceBEq, Nat.reduceBNe, false_or, or_false, true_or, or_true, and_true, true_and, false_and, and_false, not_false_eq_true, not_true_eq_false, if_true, if_false, if_pos, if_neg, Option.bind_some, ite_false, ite_true, eq_self, reduceIte, ff, Option.isSome_none, hV.2.2.2.1]
  | succ m ih =>
    intro n' i h hn'
    obtain ⟨n', rfl⟩ : ∃ k, n' = k + 1 := ⟨n' - 1, by omega⟩
    rw [fX10_hasSlips_l2, c_at hV.1.2.2.1 (by omega) (by omega), hV.2.2.2.2.2.2.1 i (by omega)]
    by_cases h1 : F (5 + 3 * i) = μ
    · simp (disch := omega) only [l_0, l_1, l_2, l_3, l_4, l_5, l_6, l_7, l_8, l_9, l_10, l_12, l_13, l_24, l_31, l_32, l_40, l_41, l_42, l_44, l_45, l_48, l_49, l_50, l_57, l_59, l_60, l_65, l_88, l_89, l_97, l_98, l_99, l_100, l_105, l_108, l_109, l_114, l_118, l_120, l_122, l_144, l_255, l_269, l_279, l_339, l_400, l_600, l_999, l_1000, l_2373, l_2712, ι_lt, ι_le, ι_eq, ι_add, ι_mul, ι_sub, ι_div, ι_n, ι_m1, m1_ι, m1_lt, m1_le, lt_m1, le_m1, m1_lt_m1, m1_le_m1, m1_add1, neg_ι1, ι_addm, ι_addn, Bool.false_eq_true, Nat.not_lt_zero, Nat.add_zero, Nat.zero_add, Nat.mul_zero, Nat.reduceMul, Nat.reduceAdd, Nat.reduceSub, Nat.reduceLT, Nat.reduceLeDiff, Nat.reduceEqDiff, Nat.reduceDiv, Nat.reduceBEq, Nat.reduceBNe, false_or, or_false, true_or, or_true, and_true, true_and, false_and, and_false, not_false_eq_true, not_true_eq_false, if_true, if_false, if_pos, if_neg, Option.bind_some, ite_false, ite_true, eq_self, reduceIte, ff, hsB, h1, hV.2.2.2.1, ne_eq, decide_false]
      exact ih _ _ (by omega) (by omega)
    · by_cases h2 : F (5 + 3 * i) < x
      · simp (disch := omega) only [l_0, l_1, l_2, l_3, l_4, l_5, l_6, l_7, l_8, l_9, l_10, l_12, l_13, l_24, l_31, l_32, l_40, l_41, l_42, l_44, l_45, l_48, l_49, l_50, l_57, l_59, l_60, l_65, l_88, l_89, l_97, l_98, l_99, l_100, l_105, l_108, l_109, l_114, l_118, l_120, l_122, l_144, l_255, l_269, l_279, l_339, l_400, l_600, l_999, l_1000, l_2373, l_2712, ι_lt, ι_le, ι_eq, ι_add, ι_mul, ι_sub, ι_div, ι_n, ι_m1, m1_ι, m1_lt, m1_le, lt_m1, le_m1, m1_lt_m1, m1_le_m1, m1_add1, neg_ι1, ι_addm, ι_addn, Bool.false_eq_true, Nat.not_lt_zero, Nat.add_zero, Nat.zero_add, Nat.mul_zero, Nat.reduceMul, Nat.reduceAdd, Nat.reduceSub, Nat.reduceLT, Nat.reduceLeDiff, Nat.reduceEqDiff, Nat.reduceDiv, Nat.reduceBEq, Nat.reduceBNe, false_or, or_false, true_or, or_true, and_true, true_and, false_and, and_false, not_false_eq_true, not_true_eq_false, if_true, if_false, if_pos, if_neg, Option.bind_some, ite_false, ite_true, eq_self, reduceIte, ff, hsB, h1, h2, hV.2.2.2.1, ne_eq, decide_false]
        exact ih _ _ (by omega) (by omega)
      · by_cases h3 : y < F (5 + 3 * i)
        · simp (disch := omega) only [l_0, l_1, l_2, l_3, l_4, l_5, l_6, l_7, l_8, l_9, l_10, l_12, l_13, l_24, l_31, l_32, l_40, l_41, l_42, l_44, l_45, l_48, l_49, l_50, l_57, l_59, l_60, l_65, l_88, l_89, l_97, l_98, l_99, l_100, l_105, l_108, l_109, l_114, l_118, l_120, l_122, l_144, l_255, l_269, l_279, l_339, l_400, l_600, l_999, l_1000, l_2373, l_2712, ι_lt, ι_le, ι_eq, ι_add, ι_mul, ι_sub, ι_div, ι_n, ι_m1, m1_ι, m1_lt, m1_le, lt_m1, le_m1, m1_lt_m1, m1_le_m1, m1_add1, neg_ι1, ι_addm, ι_addn, Bool.false_eq_true, Nat.not_lt_zero, Nat.add_zero, Nat.zero_add, Nat.mul_zero, Nat.reduceMul, Nat.reduceAdd, Nat.reduceSub, Nat.reduceLT, Nat.reduceLeDiff, Nat.reduceEqDiff, Nat.reduceDiv, Nat.reduceBEq, Nat.reduceBNe, false_or, or_false, true_or, or_true, and_true, true_and, false_and, and_false, not_false_eq_true, not_true_eq_false, if_true, if_false, if_pos, if_neg, Option.bind_some, ite_false, ite_true, eq_self, reduceIte, ff, hsB, h1, h2, h3, hV.2.2.2.1, ne_eq, decide_false]
          exact ih _ _ (by omega) (by omega)
        · simp (disch := omega) only [l_0, l_1, l_2, l_3, l_4, l_5, l_6, l_7, l_8, l_9, l_10, l_12, l_13, l_24, l_31, l_32, l_40, l_41, l_42, l_44, l_45, l_48, l_49, l_50, l_57, l_59, l_60, l_65, l_88, l_89, l_97, l_98, l_99, l_100, l_105, l_108, l_109, l_114, l_118, l_120, l_122, l_144, l_255, l_269, l_279, l_339, l_400, l_600, l_999, l_1000, l_2373, l_2712, ι_lt, ι_le, ι_eq, ι_add, ι_mul, ι_sub, ι_div, ι_n, ι_m1, m1_ι, m1_lt, m1_le, lt_m1, le_m1, m1_lt_m1, m1_le_m1, m1_add1, neg_ι1, ι_addm, ι_addn, Bool.false_eq_true, Nat.not_lt_zero, Nat.add_zero, Nat.zero_add, Nat.mul_zero, Nat.reduceMul, Nat.reduceAdd, Nat.reduceSub, Nat.reduceLT, Nat.reduceLeDiff, Nat.reduceEqDiff, Nat.reduceDiv, Nat.reduceBEq, Nat.reduceBNe, false_or, or_false, true_or, or_true, and_true, true_and, false_and, and_false, not_false_eq_true, not_true_eq_false, if_true, if_false, if_pos, if_neg, Option.bind_some, ite_false, ite_true, eq_self, reduceIte, ff, hsB, h1, h2, h3, hV.2.2.2.1, ne_eq, decide_true, Option.isSome_some]
theorem c_hasSlips {σ : Mem} {v k n a : Nat} {q F : Nat → Int32} (ha : a ≤ 12) (hV : VR σ v q k n a F) (x y : Int32) : fX10_hasSlips v x y σ = some (if (ff (hsB F x y) 0 a).isSome then ι 1 else ι 0) := by
  unfold fX10_hasSlips
  rw [l_0]
  exact c_hs_l ha hV x y a FU 0 (by omega) (by unfold FU; omega)
theorem hs_on {n a i : Nat} {F : Nat → Int32} (hn : n ≤ 60) (hi : i < n) (h : ∀ s, s < a → SlI n F s) : (ff (hsB F (ι i) (ι i)) 0 a).isSome = decide (0 < cf (onB F (ι i) (ι 0)) 0 a + cf (onB F (ι i) (ι 1)) 0 a) := by
  have key : ∀ s, s < a → (hsB F (ι i) (ι i) s = true ↔ F (5 + 3 * s) = ι i) := fun s hs => by
    unfold hsB
    rw [decide_eq_true_eq]
    rcases (h s hs).1 with ⟨h1, -⟩ | ⟨x, y, h1, h2, h3, -⟩
    · rw [h1]
      simp (disch := omega) only [l_0, l_1, l_2, l_3, l_4, l_5, l_6, l_7, l_8, l_9, l_10, l_12, l_13, l_24, l_31, l_32, l_40, l_41, l_42, l_44, l_45, l_48, l_49, l_50, l_57, l_59, l_60, l_65, l_88, l_89, l_97, l_98, l_99, l_100, l_105, l_108, l_109, l_114, l_118, l_120, l_122, l_144, l_255, l_269, l_279, l_339, l_400, l_600, l_999, l_1000, l_2373, l_2712, ι_lt, ι_le, ι_eq, ι_add, ι_mul, ι_sub, ι_div, ι_n, ι_m1, m1_ι, m1_lt, m1_le, lt_m1, le_m1, m1_lt_m1, m1_le_m1, m1_add1, neg_ι1, ι_addm, ι_addn, Bool.false_eq_true, Nat.not_lt_zero, Nat.add_zero, Nat.zero_add, Nat.mul_zero, Nat.reduceMul, Nat.reduceAdd, Nat.reduceSub, Nat.reduceLT, Nat.reduceLeDiff, Nat.reduceEqDiff, Nat.reduceDiv, Nat.reduceBEq, Nat.reduceBNe, false_or, or_false, true_or, or_true, and_true, true_and, false_and, and_false, not_false_eq_true, not_true_eq_false, if_true, if_false, if_pos, if_neg, Option.bind_some, ite_false, ite_true, eq_self, reduceIte, ne_eq]
    · rw [h3]
      simp (disch := omega) only [l_0, l_1, l_2, l_3, l_4, l_5, l_6, l_7, l_8, l_9, l_10, l_12, l_13, l_24, l_31, l_32, l_40, l_41, l_42, l_44, l_45, l_48, l_49, l_50, l_57, l_59, l_60, l_65, l_88, l_89, l_97, l_98, l_99, l_100, l_105, l_108, l_109, l_114, l_118, l_120, l_122, l_144, l_255, l_269, l_279, l_339, l_400, l_600, l_999, l_1000, l_2373, l_2712, ι_lt, ι_le, ι_eq, ι_add, ι_mul, ι_sub, ι_div, ι_n, ι_m1, m1_ι, m1_lt, m1_le, lt_m1, le_m1, m1_lt_m1, m1_le_m1, m1_add1, neg_ι1, ι_addm, ι_addn, Bool.false_eq_true, Nat.not_lt_zero, Nat.add_zero, Nat.zero_add, Nat.mul_zero, Nat.reduceMul, Nat.reduceAdd, Nat.reduceSub, Nat.reduceLT, Nat.reduceLeDiff, Nat.reduceEqDiff, Nat.reduceDiv, Nat.reduceBEq, Nat.reduceBNe, false_or, or_false, true_or, or_true, and_true, true_and, false_and, and_false, not_false_eq_true, not_true_eq_false, if_true, if_false, if_pos, if_neg, Option.bind_some, ite_false, ite_true, eq_self, reduceIte, ne_eq]
      omega
  cases hf : ff (hsB F (ι i) (ι i)) 0 a with
  | none =>
    have hz := ff_none _ _ hf
    rw [cf_zero, cf_zero]
    · rfl
    · intro s h1 h2
      refine decide_eq_false fun z => ?_
      have := hz s h1 h2
      rw [(key s (by omega)).mpr z.1] at this
      cases this
    · intro s h1 h2
      refine decide_eq_false fun z => ?_
      have := hz s h1 h2
      rw [(key s (by omega)).mpr z.1] at this
      cases this
  | some s =>
    obtain ⟨h1, h2, h3, -⟩ := ff_some _ _ hf
    have h4 := (key s (by omega)).mp h3
    rw [Option.isSome_some]
    symm
    rw [decide_eq_true_eq]
    rcases (h s (by omega)).1 with ⟨z, -⟩ | ⟨x, y, z1, z2, z3, z4⟩
    · rw [z] at h4
      rw [m1_ι (by omega)] at h4
      exact h4.elim
    · rcases (show y = 0 ∨ y = 1 by omega) with z | z
      · subst z
        have := cf_pos (P := onB F (ι i) (ι 0)) (j := s) (decide_eq_true ⟨h4, z4⟩) a 0 (by omega) (by omega)
        omega
      · subst z
        have := cf_pos (P := onB F (ι i) (ι 1)) (j := s) (decide_eq_true ⟨h4, z4⟩) a 0 (by omega) (by omega)
        omega
theorem sim4 : Sim4 Rel := by
  intro σ τ x1 hR
  replace hR := Rel_0 hR 0
  unfold fX12_lose fX11_lose
  have h00 : up τ 0 0 0 0 0 = 0 := up_e _ _ _ _
  generalize up τ 0 0 (0 : Int32) = τ at *
  obtain ⟨k, n, a, b, d, t, hO⟩ := RO_of hR
  have hO' := hO
  obtain ⟨hr, hF, hV, hL, hC, hW⟩ := hO
  have hn := hr.1.2.2.2.2
  rcases leaf_cases x1 n with ⟨i, hi, rfl⟩ | hx
  · have e10 : ¬ (ι 1 = (0 : Int32)) := by decide
    have hi' : ι i ≠ μ := fun z => by rw [ι_m1 (by omega)] at z; exact z
    have a0 := cf_le (onB (τ 3) (ι i) (ι 0)) a 0
    have a1 := cf_le (onB (τ 3) (ι i) (ι 1)) a 0
    have ha := hF.2.1
    simp only [c_reqLeaf hn hV hi, r_isLeaf hr.1 hr.2.1 (show i < 2147483648 by omega), if_pos hi, Option.bind_some, Nat.zero_add, c_isPresent hn hV hi, r_isPresent (show i < 60 by omega), if_neg e10, r_allOn hF.1 hF.2.1, c_hasSlips hF.2.1 hV, hs_on hn hi hF.2.2.1, ref_fails, l_0, l_1, ι_add, decide_eq_true_eq]
    by_cases hp : pB (τ 3) i = true
    · simp only [hp, if_true, if_neg (show ¬ ι 1 = ι 0 from e10)]
      by_cases hs : 0 < cf (onB (τ 3) (ι i) (ι 0)) 0 a + cf (onB (τ 3) (ι i) (ι 1)) 0 a
      · simp (disch := omega) only [l_0, l_1, l_2, l_3, l_4, l_5, l_6, l_7, l_8, l_9, l_10, l_12, l_13, l_24, l_31, l_32, l_40, l_41, l_42, l_44, l_45, l_48, l_49, l_50, l_57, l_59, l_60, l_65, l_88, l_89, l_97, l_98, l_99, l_100, l_105, l_108, l_109, l_114, l_118, l_120, l_122, l_144, l_255, l_269, l_279, l_339, l_400, l_600, l_999, l_1000, l_2373, l_2712, ι_lt, ι_le, ι_eq, ι_add, ι_mul, ι_sub, ι_div, ι_n, ι_m1, m1_ι, m1_lt, m1_le, lt_m1, le_m1, m1_lt_m1, m1_le_m1, m1_add1, neg_ι1, ι_addm, ι_addn, Bool.false_eq_true, Nat.not_lt_zero, Nat.add_zero, Nat.zero_add, Nat.mul_zero, Nat.reduceMul, Nat.reduceAdd, Nat.reduceSub, Nat.reduceLT, Nat.reduceLeDiff, Nat.reduceEqDiff, Nat.reduceDiv, Nat.reduceBEq, Nat.reduceBNe, false_or, or_false, true_or, or_true, and_true, true_and, false_and, and_false, not_false_eq_true, not_true_eq_false, if_true, if_false, if_pos, if_neg, Option.bind_some, ite_false, ite_true, eq_self, reduceIte]
        exact ⟨_, _, 2, rfl, rfl, Or.inr (Or.inr ⟨rfl, rfl⟩), fun v hv => (by cases hv), z_bad, Rel_0 hR _⟩
      · simp (disch := omega) only [l_0, l_1, l_2, l_3, l_4, l_5, l_6, l_7, l_8, l_9, l_10, l_12, l_13, l_24, l_31, l_32, l_40, l_41, l_42, l_44, l_45, l_48, l_49, l_50, l_57, l_59, l_60, l_65, l_88, l_89, l_97, l_98, l_99, l_100, l_105, l_108, l_109, l_114, l_118, l_120, l_122, l_144, l_255, l_269, l_279, l_339, l_400, l_600, l_999, l_1000, l_2373, l_2712, ι_lt, ι_le, ι_eq, ι_add, ι_mul, ι_sub, ι_div, ι_n, ι_m1, m1_ι, m1_lt, m1_le, lt_m1, le_m1, m1_lt_m1, m1_le_m1, m1_add1, neg_ι1, ι_addm, ι_addn, Bool.false_eq_true, Nat.not_lt_zero, Nat.add_zero, Nat.zero_add, Nat.mul_zero, Nat.reduceMul, Nat.reduceAdd, Nat.reduceSub, Nat.reduceLT, Nat.reduceLeDiff, Nat.reduceEqDiff, Nat.reduceDiv, Nat.reduceBEq, Nat.reduceBNe, false_or, or_false, true_or, or_true, and_true, true_and, false_and, and_false, not_false_eq_true, not_true_eq_false, if_true, if_false, if_pos, if_neg, Option.bind_some, ite_false, ite_true, eq_self, reduceIte]
        obtain ⟨ρ, υ, e1, e2, hO2, u1, u2⟩ := keep_RO hO'
        have hG := gone_RO (w := 1) hO2 hi (by omega)
        have hG' := hG
        obtain ⟨gr, gF, gV, gL, gC, gW⟩ := hG
        unfold fX10_setMissing fX9_reset fX12_opensAnew
        simp (disch := omega) only [e1, e2, l_0, l_1, l_2, l_3, l_4, l_5, l_6, l_7, l_8, l_9, l_10, l_12, l_13, l_24, l_31, l_32, l_40, l_41, l_42, l_44, l_45, l_48, l_49, l_50, l_57, l_59, l_60, l_65, l_88, l_89, l_97, l_98, l_99, l_100, l_105, l_108, l_109, l_114, l_118, l_120, l_122, l_144, l_255, l_269, l_279, l_339, l_400, l_600, l_999, l_1000, l_2373, l_2712, ι_lt, ι_le, ι_eq, ι_add, ι_mul, ι_sub, ι_div, ι_n, ι_m1, m1_ι, m1_lt, m1_le, lt_m1, le_m1, m1_lt_m1, m1_le_m1, m1_add1, neg_ι1, ι_addm, ι_addn, Bool.false_eq_true, Nat.not_lt_zero, Nat.add_zero, Nat.zero_add, Nat.mul_zero, Nat.reduceMul, Nat.reduceAdd, Nat.reduceSub, Nat.reduceLT, Nat.reduceLeDiff, Nat.reduceEqDiff, Nat.reduceDiv, Nat.reduceBEq, Nat.reduceBNe, false_or, or_false, true_or, or_true, and_true, true_and, false_and, and_false, not_false_eq_true, not_true_eq_false, if_true, if_false, if_pos, if_neg, Option.bind_some, ite_false, ite_true, eq_self, reduceIte, lm_0, lm_1, lm_2, lm_3, lm_4, lm_5, lm_6, lm_7, lm_8, lm_9, lm_10, lm_11, lm_12, lm_13, lm_14, lm_15, lm_16, lm_17, c_put hV.1.2.1 (show 60 ≤ 600 by omega) (show i < 60 by omega)]
        rw [c_presentCount hn gV, r_present gr.1 gr.2.1]
        exact ⟨_, _, 0, rfl, rfl, Or.inl ⟨_, rfl, rfl⟩, fun v hv => (by cases hv; rfl), (by simp (disch := omega) only [up_e, up_j, up_k, Nat.reduceAdd, Nat.add_zero]; rw [u2 0 0 (by omega)]; exact h00), RO_rel hG'⟩
    · simp (disch := omega) only [l_0, l_1, l_2, l_3, l_4, l_5, l_6, l_7, l_8, l_9, l_10, l_12, l_13, l_24, l_31, l_32, l_40, l_41, l_42, l_44, l_45, l_48, l_49, l_50, l_57, l_59, l_60, l_65, l_88, l_89, l_97, l_98, l_99, l_100, l_105, l_108, l_109, l_114, l_118, l_120, l_122, l_144, l_255, l_269, l_279, l_339, l_400, l_600, l_999, l_1000, l_2373, l_2712, ι_lt, ι_le, ι_eq, ι_add, ι_mul, ι_sub, ι_div, ι_n, ι_m1, m1_ι, m1_lt, m1_le, lt_m1, le_m1, m1_lt_m1, m1_le_m1, m1_add1, neg_ι1, ι_addm, ι_addn, Bool.false_eq_true, Nat.not_lt_zero, Nat.add_zero, Nat.zero_add, Nat.mul_zero, Nat.reduceMul, Nat.reduceAdd, Nat.reduceSub, Nat.reduceLT, Nat.reduceLeDiff, Nat.reduceEqDiff, Nat.reduceDiv, Nat.reduceBEq, Nat.reduceBNe, false_or, or_false, true_or, or_true, and_true, true_and, false_and, and_false, not_false_eq_true, not_true_eq_false, if_true, if_false, if_pos, if_neg, Option.bind_some, ite_false, ite_true, eq_self, reduceIte, hp]
      exact ⟨_, _, 2, rfl, rfl, Or.inr (Or.inr ⟨rfl, rfl⟩), fun v hv => (by cases hv), z_bad, Rel_0 hR _⟩
  · rw [c_reqLeaf_no hn hV hx, r_isLeaf_no hr.1 hr.2.1 hx]
    simp only [Option.bind_some, l_0, if_true, ref_fails]
    exact ⟨_, _, 1, rfl, rfl, Or.inr (Or.inl ⟨rfl, rfl⟩), fun v hv => (by cases hv), z_bad, Rel_0 hR _⟩
theorem sim5 : Sim5 Rel := by
  intro σ τ x1 hR
  replace hR := Rel_0 hR 0
  unfold fX12_find fX11_find
  have h00 : up τ 0 0 0 0 0 = 0 := up_e _ _ _ _
  generalize up τ 0 0 (0 : Int32) = τ at *
  obtain ⟨k, n, a, b, d, t, hO⟩ := RO_of hR
  have hO' := hO
  obtain ⟨hr, hF, hV, hL, hC, hW⟩ := hO
  have hn := hr.1.2.2.2.2
  rcases leaf_cases x1 n with ⟨i, hi, rfl⟩ | hx
  · have e10 : ¬ (ι 1 = (0 : Int32)) := by decide
    simp only [c_reqLeaf hn hV hi, r_isLeaf hr.1 hr.2.1 (show i < 2147483648 by omega), if_pos hi, Option.bind_some, Nat.zero_add, c_isPresent hn hV hi, r_isPresent (show i < 60 by omega), if_neg e10, ref_fails, l_0, l_1]
    by_cases hp : pB (τ 3) i = true
    · simp (disch := omega) only [l_0, l_1, l_2, l_3, l_4, l_5, l_6, l_7, l_8, l_9, l_10, l_12, l_13, l_24, l_31, l_32, l_40, l_41, l_42, l_44, l_45, l_48, l_49, l_50, l_57, l_59, l_60, l_65, l_88, l_89, l_97, l_98, l_99, l_100, l_105, l_108, l_109, l_114, l_118, l_120, l_122, l_144, l_255, l_269, l_279, l_339, l_400, l_600, l_999, l_1000, l_2373, l_2712, ι_lt, ι_le, ι_eq, ι_add, ι_mul, ι_sub, ι_div, ι_n, ι_m1, m1_ι, m1_lt, m1_le, lt_m1, le_m1, m1_lt_m1, m1_le_m1, m1_add1, neg_ι1, ι_addm, ι_addn, Bool.false_eq_true, Nat.not_lt_zero, Nat.add_zero, Nat.zero_add, Nat.mul_zero, Nat.reduceMul, Nat.reduceAdd, Nat.reduceSub, Nat.reduceLT, Nat.reduceLeDiff, Nat.reduceEqDiff, Nat.reduceDiv, Nat.reduceBEq, Nat.reduceBNe, false_or, or_false, true_or, or_true, and_true, true_and, false_and, and_false, not_false_eq_true, not_true_eq_false, if_true, if_false, if_pos, if_neg, Option.bind_some, ite_false, ite_true, eq_self, reduceIte, hp]
      exact ⟨_, _, 2, rfl, rfl, Or.inr (Or.inr ⟨rfl, rfl⟩), fun v hv => (by cases hv), z_bad, Rel_0 hR _⟩
    · obtain ⟨ρ, υ, e1, e2, hO2, u1, u2⟩ := keep_RO hO'
      have hG := gone_RO (w := 0) hO2 hi (by omega)
      have hG' := hG
      obtain ⟨gr, gF, gV, gL, gC, gW⟩ := hG
      unfold fX10_setMissing fX9_reset fX12_opensAnew
      simp (disch := omega) only [e1, e2, hp, l_0, l_1, l_2, l_3, l_4, l_5, l_6, l_7, l_8, l_9, l_10, l_12, l_13, l_24, l_31, l_32, l_40, l_41, l_42, l_44, l_45, l_48, l_49, l_50, l_57, l_59, l_60, l_65, l_88, l_89, l_97, l_98, l_99, l_100, l_105, l_108, l_109, l_114, l_118, l_120, l_122, l_144, l_255, l_269, l_279, l_339, l_400, l_600, l_999, l_1000, l_2373, l_2712, ι_lt, ι_le, ι_eq, ι_add, ι_mul, ι_sub, ι_div, ι_n, ι_m1, m1_ι, m1_lt, m1_le, lt_m1, le_m1, m1_lt_m1, m1_le_m1, m1_add1, neg_ι1, ι_addm, ι_addn, Bool.false_eq_true, Nat.not_lt_zero, Nat.add_zero, Nat.zero_add, Nat.mul_zero, Nat.reduceMul, Nat.reduceAdd, Nat.reduceSub, Nat.reduceLT, Nat.reduceLeDiff, Nat.reduceEqDiff, Nat.reduceDiv, Nat.reduceBEq, Nat.reduceBNe, false_or, or_false, true_or, or_true, and_true, true_and, false_and, and_false, not_false_eq_true, not_true_eq_false, if_true, if_false, if_pos, if_neg, Option.bind_some, ite_false, ite_true, eq_self, reduceIte, lm_0, lm_1, lm_2, lm_3, lm_4, lm_5, lm_6, lm_7, lm_8, lm_9, lm_10, lm_11, lm_12, lm_13, lm_14, lm_15, lm_16, lm_17, c_put hV.1.2.1 (show 60 ≤ 600 by omega) (show i < 60 by omega)]
      rw [c_presentCount hn gV, r_present gr.1 gr.2.1]
      exact ⟨_, _, 0, rfl, rfl, Or.inl ⟨_, rfl, rfl⟩, fun v hv => (by cases hv; rfl), (by simp (disch := omega) only [up_e, up_j, up_k, Nat.reduceAdd, Nat.add_zero]; rw [u2 0 0 (by omega)]; exact h00), RO_rel hG'⟩
  · rw [c_reqLeaf_no hn hV hx, r_isLeaf_no hr.1 hr.2.1 hx]
    simp only [Option.bind_some, l_0, if_true, ref_fails]
    exact ⟨_, _, 1, rfl, rfl, Or.inr (Or.inl ⟨rfl, rfl⟩), fun v hv => (by cases hv), z_bad, Rel_0 hR _⟩
