/-! PURE PART: copies of states -/
theorem cpy_g (σ : Mem) (d a n k i : Nat) : cpy σ d a n k i = if k = d ∧ i < n then σ a i else σ k i := by
  unfold cpy
  by_cases h : k = d
  · subst h
    simp only [if_true, va_cpy, Nat.zero_le, true_and, Nat.zero_add, Nat.sub_zero]
  · simp [h]
theorem row_cpy {σ : Mem} {o p L : Nat} (h : ln (o + 1) = L) (h' : ln (p + 1) = L) (hL : L ≤ 600) : fX3_copyFrom o p σ = some (cpy σ (o + 1) (p + 1) L) := by
  unfold fX3_copyFrom
  rw [h, h']
  have e : (Int32.ofNat L) = ι L := rfl
  simp (disch := omega) only [e, Nat.lt_irrefl, l_0, l_1, l_2, l_3, l_4, l_5, l_6, l_7, l_8, l_9, l_10, l_12, l_13, l_24, l_31, l_32, l_40, l_41, l_42, l_44, l_45, l_48, l_49, l_50, l_57, l_59, l_60, l_65, l_88, l_89, l_97, l_98, l_99, l_100, l_105, l_108, l_109, l_114, l_118, l_120, l_122, l_144, l_255, l_269, l_279, l_339, l_400, l_600, l_999, l_1000, l_2373, l_2712, ι_lt, ι_le, ι_eq, ι_add, ι_mul, ι_sub, ι_div, ι_n, ι_m1, m1_ι, m1_lt, m1_le, lt_m1, le_m1, m1_lt_m1, m1_le_m1, m1_add1, neg_ι1, ι_addm, ι_addn, Bool.false_eq_true, Nat.not_lt_zero, Nat.add_zero, Nat.zero_add, Nat.mul_zero, Nat.reduceMul, Nat.reduceAdd, Nat.reduceSub, Nat.reduceLT, Nat.reduceLeDiff, Nat.reduceEqDiff, Nat.reduceDiv, Nat.reduceBEq, Nat.reduceBNe, false_or, or_false, true_or, or_true, and_true, true_and, false_and, and_false, not_false_eq_true, not_true_eq_false, if_true, if_false, if_pos, if_neg, Option.bind_some, ite_false, ite_true, eq_self, reduceIte]
theorem VR_copy {σ : Mem} {v w k n a : Nat} {q F : Nat → Int32} (hk : k ≤ 8) (hn : n ≤ 60) (ha : a ≤ 12) (hl : ln (v + 1 + 1) = 8 ∧ ln (v + 3 + 1) = 60 ∧ ln (v + 5 + 1) = 12 ∧ ln (v + 7 + 1) = 12 ∧ ln (v + 9 + 1) = 12) (h : VR σ w q k n a F) (hd : v + 11 ≤ w ∨ w + 11 ≤ v) : ∃ ρ, fX10_copyFrom v w σ = some ρ ∧ VR ρ v q k n a F ∧ ∀ j, (j < v ∨ v + 11 ≤ j) → ρ j = σ j := by
  obtain ⟨⟨m1, m2, m3, m4, m5⟩, h1, h2, h3, h4, h5, h6, h7, h8⟩ := h
  have hl' := hl
  obtain ⟨l1, l2, l3, l4, l5⟩ := hl
  refine ⟨_, (by unfold fX10_copyFrom; simp only [row_cpy l1 m1 (by omega), row_cpy l2 m2 (by omega), row_cpy l3 m3 (by omega), row_cpy l4 m4 (by omega), row_cpy l5 m5 (by omega), Option.bind_some]; rfl), ?_⟩
  refine ⟨⟨hl', ?_, ?_, ?_, fun i hi => ?_, fun i hi => ?_, fun i hi => ?_, fun i hi => ?_, fun i hi => ?_⟩, fun j hj => funext fun i => ?_⟩
  all_goals (simp (disch := omega) only [up_g, cpy_g, if_pos, if_neg, true_and, and_true, false_and, and_false, if_true, if_false, reduceIte])
  · exact h1
  · exact h2
  · exact h3
  · exact h4 i hi
  · exact h5 i hi
  · exact h6 i hi
  · exact h7 i hi
  · exact h8 i hi
theorem LR_copy {σ : Mem} {v w b : Nat} {F : Nat → Int32} (hb : b ≤ 12) (hl : ln (v + 1 + 1) = 12 ∧ ln (v + 3 + 1) = 12 ∧ ln (v + 5 + 1) = 12 ∧ ln (v + 7 + 1) = 12) (h : LR σ w b F) (hd : v + 9 ≤ w ∨ w + 9 ≤ v) : ∃ ρ, fX1_copyFrom v w σ = some ρ ∧ LR ρ v b F ∧ ∀ j, (j < v ∨ v + 9 ≤ j) → ρ j = σ j := by
  obtain ⟨⟨m1, m2, m3, m4⟩, h1, h2, h3, h4, h5⟩ := h
  have hl' := hl
  obtain ⟨l1, l2, l3, l4⟩ := hl
  refine ⟨_, (by unfold fX1_copyFrom; simp only [row_cpy l1 m1 (by omega), row_cpy l2 m2 (by omega), row_cpy l3 m3 (by omega), row_cpy l4 m4 (by omega), Option.bind_some]; rfl), ?_⟩
  refine ⟨⟨hl', ?_, fun i hi => ?_, fun i hi => ?_, fun i hi => ?_, fun i hi => ?_⟩, fun j hj => funext fun i => ?_⟩
  all_goals (simp (disch := omega) only [up_g, cpy_g, if_pos, if_neg, true_and, and_true, false_and, and_false, if_true, if_false, reduceIte])
  · exact h1
  · exact h2 i hi
  · exact h3 i hi
  · exact h4 i hi
  · exact h5 i hi
theorem CR_copy {σ : Mem} {v w d : Nat} {F : Nat → Int32} (hdd : d ≤ 60) (hl : ln (v + 1 + 1) = 60 ∧ ln (v + 3 + 1) = 60 ∧ ln (v + 5 + 1) = 60) (h : CR σ w d F) (hd : v + 7 ≤ w ∨ w + 7 ≤ v) : ∃ ρ, fX5_copyFrom v w σ = some ρ ∧ CR ρ v d F ∧ ∀ j, (j < v ∨ v + 7 ≤ j) → ρ j = σ j := by
  obtain ⟨⟨m1, m2, m3⟩, h1, h2, h3, h4⟩ := h
  have hl' := hl
  obtain ⟨l1, l2, l3⟩ := hl
  refine ⟨_, (by unfold fX5_copyFrom; simp only [row_cpy l1 m1 (by omega), row_cpy l2 m2 (by omega), row_cpy l3 m3 (by omega), Option.bind_some]; rfl), ?_⟩
  refine ⟨⟨hl', ?_, fun i hi => ?_, fun i hi => ?_, fun i hi => ?_⟩, fun j hj => funext fun i => ?_⟩
  all_goals (simp (disch := omega) only [up_g, cpy_g, if_pos, if_neg, true_and, and_true, false_and, and_false, if_true, if_false, reduceIte])
  · exact h1
  · exact h2 i hi
  · exact h3 i hi
  · exact h4 i hi
theorem WR_copy {σ : Mem} {v w t : Nat} {F : Nat → Int32} (ht : t ≤ 10) (hl : ln (v + 1 + 1) = 10) (h : WR σ w t F) (hd : v + 3 ≤ w ∨ w + 3 ≤ v) : ∃ ρ, fX9_copyFrom v w σ = some ρ ∧ WR ρ v t F ∧ ∀ j, (j < v ∨ v + 3 ≤ j) → ρ j = σ j := by
  obtain ⟨m1, h1, h2, h3⟩ := h
  refine ⟨_, (by unfold fX9_copyFrom; simp only [row_cpy hl m1 (by omega), Option.bind_some]; rfl), ?_⟩
  refine ⟨⟨hl, ?_, ?_, fun i hi => ?_⟩, fun j hj => funext fun i => ?_⟩
  all_goals (simp (disch := omega) only [up_g, cpy_g, if_pos, if_neg, true_and, and_true, false_and, and_false, if_true, if_false, reduceIte])
  · exact h1
  · exact h2
  · exact h3 i hi
def SL (s : Nat) : Prop := (ln (s + 1 + 1 + 1) = 8 ∧ ln (s + 1 + 3 + 1) = 60 ∧ ln (s + 1 + 5 + 1) = 12 ∧ ln (s + 1 + 7 + 1) = 12 ∧ ln (s + 1 + 9 + 1) = 12) ∧ (ln (s + 12 + 1 + 1) = 12 ∧ ln (s + 12 + 3 + 1) = 12 ∧ ln (s + 12 + 5 + 1) = 12 ∧ ln (s + 12 + 7 + 1) = 12) ∧ (ln (s + 21 + 1 + 1) = 60 ∧ ln (s + 21 + 3 + 1) = 60 ∧ ln (s + 21 + 5 + 1) = 60) ∧ ln (s + 28 + 1 + 1) = 10
theorem SR_copy {σ : Mem} {s s' k n a b d t : Nat} {q F : Nat → Int32} (hQ : QI q k n) (hF : FI n a b d t F) (hl : SL s) (h : SR σ s' q k n a b d t F) (hd : s + 31 ≤ s' ∨ s' + 31 ≤ s) : ∃ ρ, fX7_copyFrom s s' σ = some ρ ∧ SR ρ s q k n a b d t F ∧ ∀ j, (j < s ∨ s + 31 ≤ j) → ρ j = σ j := by
  have hF' := hF
  obtain ⟨q1, q2, q3, q4, q5⟩ := hQ
  obtain ⟨f1, f2, f3, f4, f5, f6, f7, f8, f9, f10, f11, f12⟩ := hF
  obtain ⟨l1, l2, l3, l4⟩ := hl
  obtain ⟨h1, h2, h3, h4⟩ := h
  have hs' : ∀ {ρ : Mem}, (∀ j, (j < s ∨ s + 31 ≤ j) → ρ j = σ j) → LR ρ (s' + 12) b F ∧ CR ρ (s' + 21) d F ∧ WR ρ (s' + 28) t F := fun {ρ} hj =>
    ⟨LR_c f5 h2 (fun j hj' => hj _ (by omega)) (fun _ _ => rfl), CR_c f8 h3 (fun j hj' => hj _ (by omega)) (fun _ _ => rfl), WR_c f11 h4 (fun j hj' => hj _ (by omega)) (fun _ _ => rfl)⟩
  obtain ⟨ρ1, e1, r1, u1⟩ := VR_copy (v := s + 1) (w := s' + 1) q2 q5 f2 l1 h1 (by omega)
  have k1 : ∀ j, (j < s ∨ s + 31 ≤ j) → ρ1 j = σ j := fun j hj => u1 j (by omega)
  obtain ⟨ρ2, e2, r2, u2⟩ := LR_copy (v := s + 12) (w := s' + 12) f5 l2 (hs' k1).1 (by omega)
  have k2 : ∀ j, (j < s ∨ s + 31 ≤ j) → ρ2 j = σ j := fun j hj => (u2 j (by omega)).trans (k1 j hj)
  obtain ⟨ρ3, e3, r3, u3⟩ := CR_copy (v := s + 21) (w := s' + 21) f8 l3 (hs' k2).2.1 (by omega)
  have k3 : ∀ j, (j < s ∨ s + 31 ≤ j) → ρ3 j = σ j := fun j hj => (u3 j (by omega)).trans (k2 j hj)
  obtain ⟨ρ4, e4, r4, u4⟩ := WR_copy (v := s + 28) (w := s' + 28) f11 l4 (hs' k3).2.2 (by omega)
  have k4 : ∀ j, (j < s ∨ s + 31 ≤ j) → ρ4 j = σ j := fun j hj => (u4 j (by omega)).trans (k3 j hj)
  refine ⟨ρ4, ?_, ⟨?_, ?_, ?_, r4⟩, k4⟩
  · unfold fX7_copyFrom
    rw [e1, Option.bind_some, e2, Option.bind_some, e3, Option.bind_some, e4, Option.bind_some]
  · exact VR_c q5 f2 r1 (fun j hj => by rw [u4 _ (by omega), u3 _ (by omega), u2 _ (by omega)]) (fun _ _ => rfl)
  · exact LR_c f5 r2 (fun j hj => by rw [u4 _ (by omega), u3 _ (by omega)]) (fun _ _ => rfl)
  · exact CR_c f8 r3 (fun j hj => by rw [u4 _ (by omega)]) (fun _ _ => rfl)
theorem CS_copy {σ : Mem} {s s' k n : Nat} {q F : Nat → Int32} (hQ : QI q k n) (hl : SL s) (h : CS σ s' q k n F) (hd : s + 31 ≤ s' ∨ s' + 31 ≤ s) : ∃ ρ, fX7_copyFrom s s' σ = some ρ ∧ CS ρ s q k n F ∧ ∀ j, (j < s ∨ s + 31 ≤ j) → ρ j = σ j := by
  obtain ⟨a, b, d, t, h1, h2⟩ := h
  obtain ⟨ρ, e, r, u⟩ := SR_copy hQ h1 hl h2 hd
  exact ⟨ρ, e, ⟨a, b, d, t, h1, r⟩, u⟩
theorem SL_41 : SL 41 := by unfold SL; decide
theorem SL_2 : SL 2 := by unfold SL; decide
theorem SL_329 : SL 329 := by unfold SL; decide
theorem SL_r : ∀ r, r < 8 → SL (80 + (1 + 31 * r)) := by unfold SL; decide
theorem ref_copies_l {o p A B : Nat} (ho : o ≠ p) (hA : A + 339 ≤ lm o) (hB : B + 339 ≤ lm p) (hAA : A < 100000) (hBB : B < 100000) : ∀ m n i (τ : Mem), i + m = 339 → m < n → fX12_copies_l3 o (ι A) p (ι B) n (ι i) τ = some (ι 339, fun k j => if k = p ∧ B + i ≤ j ∧ j < B + 339 then τ o (A + (j - B)) else τ k j) := by
  intro m
  induction m with
  | zero =>
    intro n i τ h hn
    obtain ⟨n, rfl⟩ : ∃ k, n = k + 1 := ⟨n - 1, by omega⟩
    rw [fX12_copies_l3]
    have e : i = 339 := by omega
    subst e
    simp (disch := omega) only [l_0, l_1, l_2, l_3, l_4, l_5, l_6, l_7, l_8, l_9, l_10, l_12, l_13, l_24, l_31, l_32, l_40, l_41, l_42, l_44, l_45, l_48, l_49, l_50, l_57, l_59, l_60, l_65, l_88, l_89, l_97, l_98, l_99, l_100, l_105, l_108, l_109, l_114, l_118, l_120, l_122, l_144, l_255, l_269, l_279, l_339, l_400, l_600, l_999, l_1000, l_2373, l_2712, ι_lt, ι_le, ι_eq, ι_add, ι_mul, ι_sub, ι_div, ι_n, ι_m1, m1_ι, m1_lt, m1_le, lt_m1, le_m1, m1_lt_m1, m1_le_m1, m1_add1, neg_ι1, ι_addm, ι_addn, Bool.false_eq_true, Nat.not_lt_zero, Nat.add_zero, Nat.zero_add, Nat.mul_zero, Nat.reduceMul, Nat.reduceAdd, Nat.reduceSub, Nat.reduceLT, Nat.reduceLeDiff, Nat.reduceEqDiff, Nat.reduceDiv, Nat.reduceBEq, Nat.reduceBNe, false_or, or_false, true_or, or_true, and_true, true_and, false_and, and_false, not_false_eq_true, not_true_eq_false, if_true, if_false, if_pos, if_neg, Option.bind_some, ite_false, ite_true, eq_self, reduceIte, Nat.le_refl]
  | succ m ih =>
    intro n i τ h hn
    obtain ⟨n, rfl⟩ : ∃ k, n = k + 1 := ⟨n - 1, by omega⟩
    rw [fX12_copies_l3]
    simp (disch := omega) only [l_0, l_1, l_2, l_3, l_4, l_5, l_6, l_7, l_8, l_9, l_10, l_12, l_13, l_24, l_31, l_32, l_40, l_41, l_42, l_44, l_45, l_48, l_49, l_50, l_57, l_59, l_60, l_65, l_88, l_89, l_97, l_98, l_99, l_100, l_105, l_108, l_109, l_114, l_118, l_120, l_122, l_144, l_255, l_269, l_279, l_339, l_400, l_600, l_999, l_1000, l_2373, l_2712, ι_lt, ι_le, ι_eq, ι_add, ι_mul, ι_sub, ι_div, ι_n, ι_m1, m1_ι, m1_lt, m1_le, lt_m1, le_m1, m1_lt_m1, m1_le_m1, m1_add1, neg_ι1, ι_addm, ι_addn, Bool.false_eq_true, Nat.not_lt_zero, Nat.add_zero, Nat.zero_add, Nat.mul_zero, Nat.reduceMul, Nat.reduceAdd, Nat.reduceSub, Nat.reduceLT, Nat.reduceLeDiff, Nat.reduceEqDiff, Nat.reduceDiv, Nat.reduceBEq, Nat.reduceBNe, false_or, or_false, true_or, or_true, and_true, true_and, false_and, and_false, not_false_eq_true, not_true_eq_false, if_true, if_false, if_pos, if_neg, Option.bind_some, ite_false, ite_true, eq_self, reduceIte]
    rw [ih _ _ _ (by omega) (by omega)]
    congr 2
    funext k j
    simp only [up_g, ho, false_and, if_false]
    by_cases hk : k = p
    · subst hk
      by_cases h1 : j = B + i
      · subst h1
        rw [if_neg (by omega), if_pos ⟨rfl, rfl⟩, if_pos (by omega)]
        congr 1; omega
      · by_cases h2 : B + i ≤ j ∧ j < B + 339
        · rw [if_pos (by omega), if_pos (by omega)]
        · rw [if_neg (by omega), if_neg (by omega), if_neg (by omega)]
    · rw [if_neg (by omega), if_neg (by omega), if_neg (by omega)]
theorem ref_copies {τ : Mem} {o p A B : Nat} (ho : o ≠ p) (hA : A + 339 ≤ lm o) (hB : B + 339 ≤ lm p) (hAA : A < 100000) (hBB : B < 100000) : fX12_copies o (ι A) p (ι B) τ = some (fun k j => if k = p ∧ B ≤ j ∧ j < B + 339 then τ o (A + (j - B)) else τ k j) := by
  unfold fX12_copies
  rw [l_0, ref_copies_l ho hA hB hAA hBB 339 FU 0 τ (by omega) (by decide)]
  rfl
