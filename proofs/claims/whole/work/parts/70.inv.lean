/-! PURE PART: inversions -/
def rowL (f : Nat → Option Nat) : Nat → List Nat
  | 0 => []
  | s + 1 => rowL f s ++ (f s).toList
def gd (l : List Nat) (i : Nat) : Nat := l.getD i 0
theorem rowL_len (f : Nat → Option Nat) : ∀ s, (rowL f s).length ≤ s := by
  intro s
  induction s with
  | zero => exact Nat.le_refl _
  | succ s ih =>
    rw [rowL, List.length_append]
    cases f s with
    | none => simp; omega
    | some y => simp; omega
theorem gd_app {l : List Nat} {y i : Nat} (h : i < l.length) : gd (l ++ [y]) i = gd l i := by
  unfold gd
  rw [List.getD_eq_getElem?_getD, List.getD_eq_getElem?_getD, List.getElem?_append_left h]
theorem gd_last {l : List Nat} {y : Nat} : gd (l ++ [y]) l.length = y := by
  unfold gd
  rw [List.getD_eq_getElem?_getD, List.getElem?_append_right (Nat.le_refl _)]
  simp
theorem rowL_lt {f : Nat → Option Nat} {B : Nat} : ∀ s, (∀ c y, c < s → f c = some y → y < B) → ∀ i, i < (rowL f s).length → gd (rowL f s) i < B := by
  intro s
  induction s with
  | zero => intro _ i hi; simp [rowL] at hi
  | succ s ih =>
    intro h i hi
    rw [rowL] at hi ⊢
    cases hf : f s with
    | none =>
      rw [hf] at hi
      simp only [Option.toList_none, List.append_nil] at hi ⊢
      exact ih (fun c y hc => h c y (by omega)) i hi
    | some y =>
      rw [hf] at hi
      simp only [Option.toList_some, List.length_append, List.length_cons, List.length_nil] at hi ⊢
      by_cases hl : i < (rowL f s).length
      · rw [gd_app hl]; exact ih (fun c y hc => h c y (by omega)) i hl
      · have : i = (rowL f s).length := by omega
        rw [this, gd_last]; exact h s y (by omega) hf
/-- counting along the row is counting along the scans -/
theorem cf_row {f : Nat → Option Nat} (Q : Nat → Bool) : ∀ s, cf (fun i => Q (gd (rowL f s) i)) 0 (rowL f s).length = cf (fun e => match f e with | some y => Q y | none => false) 0 s := by
  intro s
  induction s with
  | zero => rfl
  | succ s ih =>
    rw [cf_last, ← ih, Nat.zero_add, rowL]
    cases hf : f s with
    | none => simp
    | some y =>
      simp only [Option.toList_some, List.length_append, List.length_cons, List.length_nil, Nat.zero_add]
      rw [cf_last, Nat.zero_add, gd_last]
      congr 1
      exact cf_congr _ _ fun i _ hi => by rw [gd_app (by omega)]
def RR (υ : Mem) (l : List Nat) : Prop := υ 0 26 = ι l.length ∧ ∀ i, i < l.length → υ 13 i = ι (gd l i)
def frR (τ υ : Mem) : Prop := ∀ k j, ¬ (k = 12 ∨ k = 13 ∨ (k = 0 ∧ j = 26)) → υ k j = τ k j
theorem frR_trans {τ υ ω : Mem} (h1 : frR τ υ) (h2 : frR υ ω) : frR τ ω := fun k j h => (h2 k j h).trans (h1 k j h)
theorem fr12_frR {τ υ : Mem} (h : fr12 τ υ) : frR τ υ := fun k j hk => h k j (by omega)
theorem SX_R {τ υ : Mem} {F : Nat → Int32} {L : List En} {n a d : Nat} (h : SX τ F L n a d) (hf : frR τ υ) : SX υ F L n a d :=
  SX_c h (funext fun j => hf 3 j (by omega)) (funext fun j => hf 8 j (by omega)) (hf 0 17 (by omega))
theorem frR_KT {τ υ : Mem} (h : frR τ υ) : ∀ k j, KT k j → υ k j = τ k j := fun k j hj => h k j (by unfold KT RT at hj; omega)
theorem r_row_l {F : Nat → Int32} {L : List En} {n a d : Nat} : ∀ m n' c (τ : Mem), c + m = d → m < n' → SX τ F L n a d → RR τ (rowL (fs F L) c) → ∃ z υ, fX12_laysRow_l11 n' (ι c) τ = some (z, υ) ∧ RR υ (rowL (fs F L) d) ∧ frR τ υ := by
  intro m
  induction m with
  | zero =>
    intro n' c τ h hn' hX hR
    obtain ⟨n', rfl⟩ : ∃ k, n' = k + 1 := ⟨n' - 1, by omega⟩
    have hd := hX.2.2.1
    have h2 : τ 3 2 = ι d := by rw [hX.2.2.2.2.2.2.1]; exact hX.2.2.2.2.2.2.2.2.2
    have e : c = d := by omega
    subst e
    refine ⟨ι c, τ, ?_, hR, fun _ _ _ => rfl⟩
    rw [fX12_laysRow_l11]
    simp (disch := omega) only [l_0, l_1, l_2, l_3, l_4, l_5, l_6, l_7, l_8, l_9, l_10, l_12, l_13, l_24, l_31, l_32, l_40, l_41, l_42, l_44, l_45, l_48, l_49, l_50, l_57, l_59, l_60, l_65, l_88, l_89, l_97, l_98, l_99, l_100, l_105, l_108, l_109, l_114, l_118, l_120, l_122, l_144, l_255, l_269, l_279, l_339, l_400, l_600, l_999, l_1000, l_2373, l_2712, ι_lt, ι_le, ι_eq, ι_add, ι_mul, ι_sub, ι_div, ι_n, ι_m1, m1_ι, m1_lt, m1_le, lt_m1, le_m1, m1_lt_m1, m1_le_m1, m1_add1, neg_ι1, ι_addm, ι_addn, Bool.false_eq_true, Nat.not_lt_zero, Nat.add_zero, Nat.zero_add, Nat.mul_zero, Nat.reduceMul, Nat.reduceAdd, Nat.reduceSub, Nat.reduceLT, Nat.reduceLeDiff, Nat.reduceEqDiff, Nat.reduceDiv, Nat.reduceBEq, Nat.reduceBNe, false_or, or_false, true_or, or_true, and_true, true_and, false_and, and_false, not_false_eq_true, not_true_eq_false, if_true, if_false, if_pos, if_neg, Option.bind_some, ite_false, ite_true, eq_self, reduceIte, lm_0, lm_1, lm_2, lm_3, lm_4, lm_5, lm_6, lm_7, lm_8, lm_9, lm_10, lm_11, lm_12, lm_13, lm_14, lm_15, lm_16, lm_17, h2, Nat.le_refl]
  | succ m ih =>
    intro n' c τ h hn' hX hR
    obtain ⟨n', rfl⟩ : ∃ k, n' = k + 1 := ⟨n' - 1, by omega⟩
    have hd := hX.2.2.1
    have hL := hX.2.2.2.1
    have h2 : τ 3 2 = ι d := by rw [hX.2.2.2.2.2.2.1]; exact hX.2.2.2.2.2.2.2.2.2
    obtain ⟨υ, a1, a2⟩ := r_placeOfScan hX (show c < d by omega)
    have hlen := rowL_len (fs F L) c
    have r26 : υ 0 26 = ι (rowL (fs F L) c).length := (a2 0 26 (by omega)).trans hR.1
    have r13 : υ 13 = τ 13 := funext fun j => a2 13 j (by omega)
    rw [fX12_laysRow_l11]
    cases hf : fs F L c with
    | none =>
      rw [hf] at a1
      obtain ⟨z, ω, b1, b2, b3⟩ := ih n' (c + 1) υ (by omega) (by omega) (SX_12 hX a2) (by
        rw [rowL, hf, Option.toList_none, List.append_nil]
        exact ⟨r26, by rw [r13]; exact hR.2⟩)
      refine ⟨z, ω, ?_, b2, frR_trans (fr12_frR a2) b3⟩
      simp (disch := omega) only [l_0, l_1, l_2, l_3, l_4, l_5, l_6, l_7, l_8, l_9, l_10, l_12, l_13, l_24, l_31, l_32, l_40, l_41, l_42, l_44, l_45, l_48, l_49, l_50, l_57, l_59, l_60, l_65, l_88, l_89, l_97, l_98, l_99, l_100, l_105, l_108, l_109, l_114, l_118, l_120, l_122, l_144, l_255, l_269, l_279, l_339, l_400, l_600, l_999, l_1000, l_2373, l_2712, ι_lt, ι_le, ι_eq, ι_add, ι_mul, ι_sub, ι_div, ι_n, ι_m1, m1_ι, m1_lt, m1_le, lt_m1, le_m1, m1_lt_m1, m1_le_m1, m1_add1, neg_ι1, ι_addm, ι_addn, Bool.false_eq_true, Nat.not_lt_zero, Nat.add_zero, Nat.zero_add, Nat.mul_zero, Nat.reduceMul, Nat.reduceAdd, Nat.reduceSub, Nat.reduceLT, Nat.reduceLeDiff, Nat.reduceEqDiff, Nat.reduceDiv, Nat.reduceBEq, Nat.reduceBNe, false_or, or_false, true_or, or_true, and_true, true_and, false_and, and_false, not_false_eq_true, not_true_eq_false, if_true, if_false, if_pos, if_neg, Option.bind_some, ite_false, ite_true, eq_self, reduceIte, lm_0, lm_1, lm_2, lm_3, lm_4, lm_5, lm_6, lm_7, lm_8, lm_9, lm_10, lm_11, lm_12, lm_13, lm_14, lm_15, lm_16, lm_17, h2, a1, oi]
      exact b1
    | some y =>
      have hy := fs_lt hL hf
      rw [hf] at a1
      have w : frR υ (up (up υ 13 (rowL (fs F L) c).length (ι y)) 0 26 (ι ((rowL (fs F L) c).length + 1))) := fun k j hk => by simp (disch := omega) only [up_g, if_pos, if_neg, true_and, and_true, false_and, and_false, if_true, if_false, reduceIte]
      obtain ⟨z, ω, b1, b2, b3⟩ := ih n' (c + 1) (up (up υ 13 (rowL (fs F L) c).length (ι y)) 0 26 (ι ((rowL (fs F L) c).length + 1))) (by omega) (by omega) (SX_R (SX_12 hX a2) w) (by
        rw [rowL, hf, Option.toList_some]
        refine ⟨?_, fun i hi => ?_⟩
        · rw [up_e, List.length_append]; rfl
        · rw [List.length_append] at hi
          simp only [List.length_cons, List.length_nil] at hi
          by_cases hl : i < (rowL (fs F L) c).length
          · rw [gd_app hl, ← hR.2 i hl, ← r13]
            simp (disch := omega) only [up_e, up_j, up_k, Nat.reduceAdd, Nat.add_zero]
          · have : i = (rowL (fs F L) c).length := by omega
            rw [this, gd_last]
            simp (disch := omega) only [up_e, up_j, up_k, Nat.reduceAdd, Nat.add_zero])
      refine ⟨z, ω, ?_, b2, frR_trans (frR_trans (fr12_frR a2) w) b3⟩
      simp (disch := omega) only [l_0, l_1, l_2, l_3, l_4, l_5, l_6, l_7, l_8, l_9, l_10, l_12, l_13, l_24, l_31, l_32, l_40, l_41, l_42, l_44, l_45, l_48, l_49, l_50, l_57, l_59, l_60, l_65, l_88, l_89, l_97, l_98, l_99, l_100, l_105, l_108, l_109, l_114, l_118, l_120, l_122, l_144, l_255, l_269, l_279, l_339, l_400, l_600, l_999, l_1000, l_2373, l_2712, ι_lt, ι_le, ι_eq, ι_add, ι_mul, ι_sub, ι_div, ι_n, ι_m1, m1_ι, m1_lt, m1_le, lt_m1, le_m1, m1_lt_m1, m1_le_m1, m1_add1, neg_ι1, ι_addm, ι_addn, Bool.false_eq_true, Nat.not_lt_zero, Nat.add_zero, Nat.zero_add, Nat.mul_zero, Nat.reduceMul, Nat.reduceAdd, Nat.reduceSub, Nat.reduceLT, Nat.reduceLeDiff, Nat.reduceEqDiff, Nat.reduceDiv, Nat.reduceBEq, Nat.reduceBNe, false_or, or_false, true_or, or_true, and_true, true_and, false_and, and_false, not_false_eq_true, not_true_eq_false, if_true, if_false, if_pos, if_neg, Option.bind_some, ite_false, ite_true, eq_self, reduceIte, lm_0, lm_1, lm_2, lm_3, lm_4, lm_5, lm_6, lm_7, lm_8, lm_9, lm_10, lm_11, lm_12, lm_13, lm_14, lm_15, lm_16, lm_17, up_e, up_j, up_k, Nat.reduceAdd, Nat.add_zero, h2, a1, oi, r26]
      exact b1
theorem r_laysRow {τ υ : Mem} {F : Nat → Int32} {L : List En} {n a d : Nat} (h1 : fX12_laysOrder τ = some υ) (hX : SX υ F L n a d) : ∃ ω, fX12_laysRow τ = some ω ∧ RR ω (rowL (fs F L) d) ∧ frR υ ω := by
  have hd := hX.2.2.1
  have w : frR υ (up υ 0 26 (ι 0)) := fun k j hk => by simp (disch := omega) only [up_g, if_pos, if_neg, true_and, and_true, false_and, and_false, if_true, if_false, reduceIte]
  obtain ⟨z, ω, b1, b2, b3⟩ := r_row_l d FU 0 (up υ 0 26 (ι 0)) (by omega) (by unfold FU; omega) (SX_R hX w) ⟨up_e _ _ _ _, fun i hi => by simp [rowL] at hi⟩
  refine ⟨ω, ?_, b2, frR_trans w b3⟩
  unfold fX12_laysRow
  rw [h1, Option.bind_some, l_0, b1]; rfl
def ivL (l : List Nat) (j i : Nat) : Bool := decide (gd l j < gd l i)
theorem r_iv18 {υ : Mem} {l : List Nat} (hR : RR υ l) (hl : l.length ≤ 60) (hb : ∀ i, i < l.length → gd l i < 144) {j : Nat} (hj : j < l.length) : ∀ m n' i x, i + m = j → m < n' → fX12_inversionsNow_l18 (ι j) n' (ι x) (ι i) υ = some (ι (x + cf (ivL l j) i m), ι j) := by
  intro m
  induction m with
  | zero =>
    intro n' i x h hn'
    obtain ⟨n', rfl⟩ : ∃ k, n' = k + 1 := ⟨n' - 1, by omega⟩
    rw [fX12_inversionsNow_l18]
    have e : i = j := by omega
    subst e
    simp (disch := omega) only [l_0, l_1, l_2, l_3, l_4, l_5, l_6, l_7, l_8, l_9, l_10, l_12, l_13, l_24, l_31, l_32, l_40, l_41, l_42, l_44, l_45, l_48, l_49, l_50, l_57, l_59, l_60, l_65, l_88, l_89, l_97, l_98, l_99, l_100, l_105, l_108, l_109, l_114, l_118, l_120, l_122, l_144, l_255, l_269, l_279, l_339, l_400, l_600, l_999, l_1000, l_2373, l_2712, ι_lt, ι_le, ι_eq, ι_add, ι_mul, ι_sub, ι_div, ι_n, ι_m1, m1_ι, m1_lt, m1_le, lt_m1, le_m1, m1_lt_m1, m1_le_m1, m1_add1, neg_ι1, ι_addm, ι_addn, Bool.false_eq_true, Nat.not_lt_zero, Nat.add_zero, Nat.zero_add, Nat.mul_zero, Nat.reduceMul, Nat.reduceAdd, Nat.reduceSub, Nat.reduceLT, Nat.reduceLeDiff, Nat.reduceEqDiff, Nat.reduceDiv, Nat.reduceBEq, Nat.reduceBNe, false_or, or_false, true_or, or_true, and_true, true_and, false_and, and_false, not_false_eq_true, not_true_eq_false, if_true, if_false, if_pos, if_neg, Option.bind_some, ite_false, ite_true, eq_self, reduceIte, cf, Nat.le_refl]
  | succ m ih =>
    intro n' i x h hn'
    obtain ⟨n', rfl⟩ : ∃ k, n' = k + 1 := ⟨n' - 1, by omega⟩
    have g1 := hb i (by omega)
    have g2 := hb j hj
    rw [fX12_inversionsNow_l18]
    simp (disch := omega) only [l_0, l_1, l_2, l_3, l_4, l_5, l_6, l_7, l_8, l_9, l_10, l_12, l_13, l_24, l_31, l_32, l_40, l_41, l_42, l_44, l_45, l_48, l_49, l_50, l_57, l_59, l_60, l_65, l_88, l_89, l_97, l_98, l_99, l_100, l_105, l_108, l_109, l_114, l_118, l_120, l_122, l_144, l_255, l_269, l_279, l_339, l_400, l_600, l_999, l_1000, l_2373, l_2712, ι_lt, ι_le, ι_eq, ι_add, ι_mul, ι_sub, ι_div, ι_n, ι_m1, m1_ι, m1_lt, m1_le, lt_m1, le_m1, m1_lt_m1, m1_le_m1, m1_add1, neg_ι1, ι_addm, ι_addn, Bool.false_eq_true, Nat.not_lt_zero, Nat.add_zero, Nat.zero_add, Nat.mul_zero, Nat.reduceMul, Nat.reduceAdd, Nat.reduceSub, Nat.reduceLT, Nat.reduceLeDiff, Nat.reduceEqDiff, Nat.reduceDiv, Nat.reduceBEq, Nat.reduceBNe, false_or, or_false, true_or, or_true, and_true, true_and, false_and, and_false, not_false_eq_true, not_true_eq_false, if_true, if_false, if_pos, if_neg, Option.bind_some, ite_false, ite_true, eq_self, reduceIte, lm_0, lm_1, lm_2, lm_3, lm_4, lm_5, lm_6, lm_7, lm_8, lm_9, lm_10, lm_11, lm_12, lm_13, lm_14, lm_15, lm_16, lm_17, hR.2 i (by omega), hR.2 j hj, cf, ivL]
    by_cases hc : gd l j < gd l i
    · simp (disch := omega) only [l_0, l_1, l_2, l_3, l_4, l_5, l_6, l_7, l_8, l_9, l_10, l_12, l_13, l_24, l_31, l_32, l_40, l_41, l_42, l_44, l_45, l_48, l_49, l_50, l_57, l_59, l_60, l_65, l_88, l_89, l_97, l_98, l_99, l_100, l_105, l_108, l_109, l_114, l_118, l_120, l_122, l_144, l_255, l_269, l_279, l_339, l_400, l_600, l_999, l_1000, l_2373, l_2712, ι_lt, ι_le, ι_eq, ι_add, ι_mul, ι_sub, ι_div, ι_n, ι_m1, m1_ι, m1_lt, m1_le, lt_m1, le_m1, m1_lt_m1, m1_le_m1, m1_add1, neg_ι1, ι_addm, ι_addn, Bool.false_eq_true, Nat.not_lt_zero, Nat.add_zero, Nat.zero_add, Nat.mul_zero, Nat.reduceMul, Nat.reduceAdd, Nat.reduceSub, Nat.reduceLT, Nat.reduceLeDiff, Nat.reduceEqDiff, Nat.reduceDiv, Nat.reduceBEq, Nat.reduceBNe, false_or, or_false, true_or, or_true, and_true, true_and, false_and, and_false, not_false_eq_true, not_true_eq_false, if_true, if_false, if_pos, if_neg, Option.bind_some, ite_false, ite_true, eq_self, reduceIte, hc, decide_true]
      rw [ih _ _ _ (by omega) (by omega)]; congr 3; unfold ivL; omega
    · simp (disch := omega) only [l_0, l_1, l_2, l_3, l_4, l_5, l_6, l_7, l_8, l_9, l_10, l_12, l_13, l_24, l_31, l_32, l_40, l_41, l_42, l_44, l_45, l_48, l_49, l_50, l_57, l_59, l_60, l_65, l_88, l_89, l_97, l_98, l_99, l_100, l_105, l_108, l_109, l_114, l_118, l_120, l_122, l_144, l_255, l_269, l_279, l_339, l_400, l_600, l_999, l_1000, l_2373, l_2712, ι_lt, ι_le, ι_eq, ι_add, ι_mul, ι_sub, ι_div, ι_n, ι_m1, m1_ι, m1_lt, m1_le, lt_m1, le_m1, m1_lt_m1, m1_le_m1, m1_add1, neg_ι1, ι_addm, ι_addn, Bool.false_eq_true, Nat.not_lt_zero, Nat.add_zero, Nat.zero_add, Nat.mul_zero, Nat.reduceMul, Nat.reduceAdd, Nat.reduceSub, Nat.reduceLT, Nat.reduceLeDiff, Nat.reduceEqDiff, Nat.reduceDiv, Nat.reduceBEq, Nat.reduceBNe, false_or, or_false, true_or, or_true, and_true, true_and, false_and, and_false, not_false_eq_true, not_true_eq_false, if_true, if_false, if_pos, if_neg, Option.bind_some, ite_false, ite_true, eq_self, reduceIte, hc, decide_false]
      rw [ih _ _ _ (by omega) (by omega)]
theorem r_iv8 {υ : Mem} {l : List Nat} (hR : RR υ l) (hl : l.length ≤ 60) (hb : ∀ i, i < l.length → gd l i < 144) : ∀ m n' j x, j + m = l.length → m < n' → fX12_inversionsNow_l8 n' (ι x) (ι j) υ = some (ι (x + sm (fun j => cf (ivL l j) 0 j) j m), ι l.length) := by
  intro m
  induction m with
  | zero =>
    intro n' j x h hn'
    obtain ⟨n', rfl⟩ : ∃ k, n' = k + 1 := ⟨n' - 1, by omega⟩
    rw [fX12_inversionsNow_l8, hR.1]
    have e : j = l.length := by omega
    subst e
    simp (disch := omega) only [l_0, l_1, l_2, l_3, l_4, l_5, l_6, l_7, l_8, l_9, l_10, l_12, l_13, l_24, l_31, l_32, l_40, l_41, l_42, l_44, l_45, l_48, l_49, l_50, l_57, l_59, l_60, l_65, l_88, l_89, l_97, l_98, l_99, l_100, l_105, l_108, l_109, l_114, l_118, l_120, l_122, l_144, l_255, l_269, l_279, l_339, l_400, l_600, l_999, l_1000, l_2373, l_2712, ι_lt, ι_le, ι_eq, ι_add, ι_mul, ι_sub, ι_div, ι_n, ι_m1, m1_ι, m1_lt, m1_le, lt_m1, le_m1, m1_lt_m1, m1_le_m1, m1_add1, neg_ι1, ι_addm, ι_addn, Bool.false_eq_true, Nat.not_lt_zero, Nat.add_zero, Nat.zero_add, Nat.mul_zero, Nat.reduceMul, Nat.reduceAdd, Nat.reduceSub, Nat.reduceLT, Nat.reduceLeDiff, Nat.reduceEqDiff, Nat.reduceDiv, Nat.reduceBEq, Nat.reduceBNe, false_or, or_false, true_or, or_true, and_true, true_and, false_and, and_false, not_false_eq_true, not_true_eq_false, if_true, if_false, if_pos, if_neg, Option.bind_some, ite_false, ite_true, eq_self, reduceIte, sm, Nat.le_refl]
  | succ m ih =>
    intro n' j x h hn'
    obtain ⟨n', rfl⟩ : ∃ k, n' = k + 1 := ⟨n' - 1, by omega⟩
    rw [fX12_inversionsNow_l8, hR.1, l_0, r_iv18 hR hl hb (show j < l.length by omega) j FU 0 x (by omega) (by unfold FU; omega)]
    simp (disch := omega) only [l_0, l_1, l_2, l_3, l_4, l_5, l_6, l_7, l_8, l_9, l_10, l_12, l_13, l_24, l_31, l_32, l_40, l_41, l_42, l_44, l_45, l_48, l_49, l_50, l_57, l_59, l_60, l_65, l_88, l_89, l_97, l_98, l_99, l_100, l_105, l_108, l_109, l_114, l_118, l_120, l_122, l_144, l_255, l_269, l_279, l_339, l_400, l_600, l_999, l_1000, l_2373, l_2712, ι_lt, ι_le, ι_eq, ι_add, ι_mul, ι_sub, ι_div, ι_n, ι_m1, m1_ι, m1_lt, m1_le, lt_m1, le_m1, m1_lt_m1, m1_le_m1, m1_add1, neg_ι1, ι_addm, ι_addn, Bool.false_eq_true, Nat.not_lt_zero, Nat.add_zero, Nat.zero_add, Nat.mul_zero, Nat.reduceMul, Nat.reduceAdd, Nat.reduceSub, Nat.reduceLT, Nat.reduceLeDiff, Nat.reduceEqDiff, Nat.reduceDiv, Nat.reduceBEq, Nat.reduceBNe, false_or, or_false, true_or, or_true, and_true, true_and, false_and, and_false, not_false_eq_true, not_true_eq_false, if_true, if_false, if_pos, if_neg, Option.bind_some, ite_false, ite_true, eq_self, reduceIte, sm]
    rw [ih _ _ _ (by omega) (by omega)]; congr 3; omega
def ivB (f : Nat → Option Nat) (j e : Nat) : Bool := match f j with | none => false | some y => (match f e with | some x => decide (y < x) | none => false)
theorem iv_eq (f : Nat → Option Nat) : ∀ d, sm (fun j => cf (ivB f j) 0 j) 0 d = sm (fun j => cf (ivL (rowL f d) j) 0 j) 0 (rowL f d).length := by
  intro d
  induction d with
  | zero => rfl
  | succ d ih =>
    rw [sm_last, ih, Nat.zero_add, rowL]
    cases hf : f d with
    | none =>
      simp only [Option.toList_none, List.append_nil]
      rw [cf_zero (P := ivB f d)]
      · rfl
      · intro e _ _; unfold ivB; rw [hf]
    | some y =>
      simp only [Option.toList_some, List.length_append, List.length_cons, List.length_nil, Nat.zero_add]
      rw [sm_last, Nat.zero_add]
      congr 1
      · refine sm_congr _ _ fun j _ hj => ?_
        refine cf_congr _ _ fun i _ hi => ?_
        unfold ivL
        rw [gd_app (by omega), gd_app (by omega)]
      · have h1 : cf (ivL (rowL f d ++ [y]) (rowL f d).length) 0 (rowL f d).length = cf (fun i => decide (y < gd (rowL f d) i)) 0 (rowL f d).length := by
          refine cf_congr _ _ fun i _ hi => ?_
          unfold ivL
          rw [gd_last, gd_app (by omega)]
        rw [h1, cf_row (f := f) (fun x => decide (y < x)) d]
        refine cf_congr _ _ fun e _ _ => ?_
        unfold ivB
        rw [hf]
theorem c_isPlaced {σ : Mem} {F : Nat → Int32} {L : List En} {d c : Nat} (hd : d ≤ 60) (hL : L.length ≤ 144) (hP : PC σ F L d) (hc : c < d) : fX4_isPlaced 373 (ι c) σ = some (if (fs F L c).isSome then ι 1 else ι 0) := by
  unfold fX4_isPlaced
  rw [c_first hd hP hc, Option.bind_some]
  cases hf : fs F L c with
  | none => rfl
  | some y =>
    have := fs_lt hL hf
    have e1 : ¬ oi (some y) = -1 := fun z => by
      have z : ι y = μ := z
      rw [ι_m1 (by omega)] at z; exact z
    rw [if_neg e1]; rfl
theorem c_isInv {σ : Mem} {F : Nat → Int32} {L : List En} {d e c : Nat} (hd : d ≤ 60) (hL : L.length ≤ 144) (hP : PC σ F L d) (he : e < d) (hc : c < d) : fX4_isInversion 373 (ι e) (ι c) σ = some (if ivB (fs F L) c e then ι 1 else ι 0) := by
  unfold fX4_isInversion ivB
  rw [c_isPlaced hd hL hP he, c_isPlaced hd hL hP hc, c_first hd hP he, c_first hd hP hc]
  cases h1 : fs F L c with
  | none =>
    cases h2 : fs F L e with
    | none => rfl
    | some x => simp (disch := omega) only [l_0, l_1, l_2, l_3, l_4, l_5, l_6, l_7, l_8, l_9, l_10, l_12, l_13, l_24, l_31, l_32, l_40, l_41, l_42, l_44, l_45, l_48, l_49, l_50, l_57, l_59, l_60, l_65, l_88, l_89, l_97, l_98, l_99, l_100, l_105, l_108, l_109, l_114, l_118, l_120, l_122, l_144, l_255, l_269, l_279, l_339, l_400, l_600, l_999, l_1000, l_2373, l_2712, ι_lt, ι_le, ι_eq, ι_add, ι_mul, ι_sub, ι_div, ι_n, ι_m1, m1_ι, m1_lt, m1_le, lt_m1, le_m1, m1_lt_m1, m1_le_m1, m1_add1, neg_ι1, ι_addm, ι_addn, Bool.false_eq_true, Nat.not_lt_zero, Nat.add_zero, Nat.zero_add, Nat.mul_zero, Nat.reduceMul, Nat.reduceAdd, Nat.reduceSub, Nat.reduceLT, Nat.reduceLeDiff, Nat.reduceEqDiff, Nat.reduceDiv, Nat.reduceBEq, Nat.reduceBNe, false_or, or_false, true_or, or_true, and_true, true_and, false_and, and_false, not_false_eq_true, not_true_eq_false, if_true, if_false, if_pos, if_neg, Option.bind_some, ite_false, ite_true, eq_self, reduceIte, Option.isSome_some, Option.isSome_none]
  | some y =>
    cases h2 : fs F L e with
    | none => rfl
    | some x =>
      have := fs_lt hL h1
      have := fs_lt hL h2
      simp (disch := omega) only [l_0, l_1, l_2, l_3, l_4, l_5, l_6, l_7, l_8, l_9, l_10, l_12, l_13, l_24, l_31, l_32, l_40, l_41, l_42, l_44, l_45, l_48, l_49, l_50, l_57, l_59, l_60, l_65, l_88, l_89, l_97, l_98, l_99, l_100, l_105, l_108, l_109, l_114, l_118, l_120, l_122, l_144, l_255, l_269, l_279, l_339, l_400, l_600, l_999, l_1000, l_2373, l_2712, ι_lt, ι_le, ι_eq, ι_add, ι_mul, ι_sub, ι_div, ι_n, ι_m1, m1_ι, m1_lt, m1_le, lt_m1, le_m1, m1_lt_m1, m1_le_m1, m1_add1, neg_ι1, ι_addm, ι_addn, Bool.false_eq_true, Nat.not_lt_zero, Nat.add_zero, Nat.zero_add, Nat.mul_zero, Nat.reduceMul, Nat.reduceAdd, Nat.reduceSub, Nat.reduceLT, Nat.reduceLeDiff, Nat.reduceEqDiff, Nat.reduceDiv, Nat.reduceBEq, Nat.reduceBNe, false_or, or_false, true_or, or_true, and_true, true_and, false_and, and_false, not_false_eq_true, not_true_eq_false, if_true, if_false, if_pos, if_neg, Option.bind_some, ite_false, ite_true, eq_self, reduceIte, Option.isSome_some, oi, decide_eq_true_eq]
      by_cases hh : y < x
      · simp (disch := omega) only [l_0, l_1, l_2, l_3, l_4, l_5, l_6, l_7, l_8, l_9, l_10, l_12, l_13, l_24, l_31, l_32, l_40, l_41, l_42, l_44, l_45, l_48, l_49, l_50, l_57, l_59, l_60, l_65, l_88, l_89, l_97, l_98, l_99, l_100, l_105, l_108, l_109, l_114, l_118, l_120, l_122, l_144, l_255, l_269, l_279, l_339, l_400, l_600, l_999, l_1000, l_2373, l_2712, ι_lt, ι_le, ι_eq, ι_add, ι_mul, ι_sub, ι_div, ι_n, ι_m1, m1_ι, m1_lt, m1_le, lt_m1, le_m1, m1_lt_m1, m1_le_m1, m1_add1, neg_ι1, ι_addm, ι_addn, Bool.false_eq_true, Nat.not_lt_zero, Nat.add_zero, Nat.zero_add, Nat.mul_zero, Nat.reduceMul, Nat.reduceAdd, Nat.reduceSub, Nat.reduceLT, Nat.reduceLeDiff, Nat.reduceEqDiff, Nat.reduceDiv, Nat.reduceBEq, Nat.reduceBNe, false_or, or_false, true_or, or_true, and_true, true_and, false_and, and_false, not_false_eq_true, not_true_eq_false, if_true, if_false, if_pos, if_neg, Option.bind_some, ite_false, ite_true, eq_self, reduceIte]
      · simp (disch := omega) only [l_0, l_1, l_2, l_3, l_4, l_5, l_6, l_7, l_8, l_9, l_10, l_12, l_13, l_24, l_31, l_32, l_40, l_41, l_42, l_44, l_45, l_48, l_49, l_50, l_57, l_59, l_60, l_65, l_88, l_89, l_97, l_98, l_99, l_100, l_105, l_108, l_109, l_114, l_118, l_120, l_122, l_144, l_255, l_269, l_279, l_339, l_400, l_600, l_999, l_1000, l_2373, l_2712, ι_lt, ι_le, ι_eq, ι_add, ι_mul, ι_sub, ι_div, ι_n, ι_m1, m1_ι, m1_lt, m1_le, lt_m1, le_m1, m1_lt_m1, m1_le_m1, m1_add1, neg_ι1, ι_addm, ι_addn, Bool.false_eq_true, Nat.not_lt_zero, Nat.add_zero, Nat.zero_add, Nat.mul_zero, Nat.reduceMul, Nat.reduceAdd, Nat.reduceSub, Nat.reduceLT, Nat.reduceLeDiff, Nat.reduceEqDiff, Nat.reduceDiv, Nat.reduceBEq, Nat.reduceBNe, false_or, or_false, true_or, or_true, and_true, true_and, false_and, and_false, not_false_eq_true, not_true_eq_false, if_true, if_false, if_pos, if_neg, Option.bind_some, ite_false, ite_true, eq_self, reduceIte]
theorem c_iv14 {σ : Mem} {F : Nat → Int32} {L : List En} {d c : Nat} (hd : d ≤ 60) (hL : L.length ≤ 144) (hP : PC σ F L d) (hc : c < d) : ∀ m n' e x, e + m = c → m < n' → fX4_countInversions_l14 373 (ι c) n' (ι x) (ι e) σ = some (ι (x + cf (ivB (fs F L) c) e m), ι c) := by
  intro m
  induction m with
  | zero =>
    intro n' e x h hn'
    obtain ⟨n', rfl⟩ : ∃ k, n' = k + 1 := ⟨n' - 1, by omega⟩
    rw [fX4_countInversions_l14]
    have e : e = c := by omega
    subst e
    simp (disch := omega) only [l_0, l_1, l_2, l_3, l_4, l_5, l_6, l_7, l_8, l_9, l_10, l_12, l_13, l_24, l_31, l_32, l_40, l_41, l_42, l_44, l_45, l_48, l_49, l_50, l_57, l_59, l_60, l_65, l_88, l_89, l_97, l_98, l_99, l_100, l_105, l_108, l_109, l_114, l_118, l_120, l_122, l_144, l_255, l_269, l_279, l_339, l_400, l_600, l_999, l_1000, l_2373, l_2712, ι_lt, ι_le, ι_eq, ι_add, ι_mul, ι_sub, ι_div, ι_n, ι_m1, m1_ι, m1_lt, m1_le, lt_m1, le_m1, m1_lt_m1, m1_le_m1, m1_add1, neg_ι1, ι_addm, ι_addn, Bool.false_eq_true, Nat.not_lt_zero, Nat.add_zero, Nat.zero_add, Nat.mul_zero, Nat.reduceMul, Nat.reduceAdd, Nat.reduceSub, Nat.reduceLT, Nat.reduceLeDiff, Nat.reduceEqDiff, Nat.reduceDiv, Nat.reduceBEq, Nat.reduceBNe, false_or, or_false, true_or, or_true, and_true, true_and, false_and, and_false, not_false_eq_true, not_true_eq_false, if_true, if_false, if_pos, if_neg, Option.bind_some, ite_false, ite_true, eq_self, reduceIte, cf, Nat.le_refl]
  | succ m ih =>
    intro n' e x h hn'
    obtain ⟨n', rfl⟩ : ∃ k, n' = k + 1 := ⟨n' - 1, by omega⟩
    rw [fX4_countInversions_l14, c_isInv hd hL hP (by omega) hc]
    by_cases hb : ivB (fs F L) c e = true
    · simp (disch := omega) only [l_0, l_1, l_2, l_3, l_4, l_5, l_6, l_7, l_8, l_9, l_10, l_12, l_13, l_24, l_31, l_32, l_40, l_41, l_42, l_44, l_45, l_48, l_49, l_50, l_57, l_59, l_60, l_65, l_88, l_89, l_97, l_98, l_99, l_100, l_105, l_108, l_109, l_114, l_118, l_120, l_122, l_144, l_255, l_269, l_279, l_339, l_400, l_600, l_999, l_1000, l_2373, l_2712, ι_lt, ι_le, ι_eq, ι_add, ι_mul, ι_sub, ι_div, ι_n, ι_m1, m1_ι, m1_lt, m1_le, lt_m1, le_m1, m1_lt_m1, m1_le_m1, m1_add1, neg_ι1, ι_addm, ι_addn, Bool.false_eq_true, Nat.not_lt_zero, Nat.add_zero, Nat.zero_add, Nat.mul_zero, Nat.reduceMul, Nat.reduceAdd, Nat.reduceSub, Nat.reduceLT, Nat.reduceLeDiff, Nat.reduceEqDiff, Nat.reduceDiv, Nat.reduceBEq, Nat.reduceBNe, false_or, or_false, true_or, or_true, and_true, true_and, false_and, and_false, not_false_eq_true, not_true_eq_false, if_true, if_false, if_pos, if_neg, Option.bind_some, ite_false, ite_true, eq_self, reduceIte, hb, cf]
      rw [ih _ _ _ (by omega) (by omega)]; congr 3; omega
    · simp (disch := omega) only [l_0, l_1, l_2, l_3, l_4, l_5, l_6, l_7, l_8, l_9, l_10, l_12, l_13, l_24, l_31, l_32, l_40, l_41, l_42, l_44, l_45, l_48, l_49, l_50, l_57, l_59, l_60, l_65, l_88, l_89, l_97, l_98, l_99, l_100, l_105, l_108, l_109, l_114, l_118, l_120, l_122, l_144, l_255, l_269, l_279, l_339, l_400, l_600, l_999, l_1000, l_2373, l_2712, ι_lt, ι_le, ι_eq, ι_add, ι_mul, ι_sub, ι_div, ι_n, ι_m1, m1_ι, m1_lt, m1_le, lt_m1, le_m1, m1_lt_m1, m1_le_m1, m1_add1, neg_ι1, ι_addm, ι_addn, Bool.false_eq_true, Nat.not_lt_zero, Nat.add_zero, Nat.zero_add, Nat.mul_zero, Nat.reduceMul, Nat.reduceAdd, Nat.reduceSub, Nat.reduceLT, Nat.reduceLeDiff, Nat.reduceEqDiff, Nat.reduceDiv, Nat.reduceBEq, Nat.reduceBNe, false_or, or_false, true_or, or_true, and_true, true_and, false_and, and_false, not_false_eq_true, not_true_eq_false, if_true, if_false, if_pos, if_neg, Option.bind_some, ite_false, ite_true, eq_self, reduceIte, hb, cf]
      rw [ih _ _ _ (by omega) (by omega)]
theorem c_iv4 {σ : Mem} {F : Nat → Int32} {L : List En} {d : Nat} (hd : d ≤ 60) (hL : L.length ≤ 144) (hP : PC σ F L d) : ∀ m n' c x, c + m = d → m < n' → fX4_countInversions_l4 373 n' (ι x) (ι c) σ = some (ι (x + sm (fun j => cf (ivB (fs F L) j) 0 j) c m), ι d) := by
  intro m
  induction m with
  | zero =>
    intro n' c x h hn'
    obtain ⟨n', rfl⟩ : ∃ k, n' = k + 1 := ⟨n' - 1, by omega⟩
    rw [fX4_countInversions_l4, hP.1]
    have e : c = d := by omega
    subst e
    simp (disch := omega) only [l_0, l_1, l_2, l_3, l_4, l_5, l_6, l_7, l_8, l_9, l_10, l_12, l_13, l_24, l_31, l_32, l_40, l_41, l_42, l_44, l_45, l_48, l_49, l_50, l_57, l_59, l_60, l_65, l_88, l_89, l_97, l_98, l_99, l_100, l_105, l_108, l_109, l_114, l_118, l_120, l_122, l_144, l_255, l_269, l_279, l_339, l_400, l_600, l_999, l_1000, l_2373, l_2712, ι_lt, ι_le, ι_eq, ι_add, ι_mul, ι_sub, ι_div, ι_n, ι_m1, m1_ι, m1_lt, m1_le, lt_m1, le_m1, m1_lt_m1, m1_le_m1, m1_add1, neg_ι1, ι_addm, ι_addn, Bool.false_eq_true, Nat.not_lt_zero, Nat.add_zero, Nat.zero_add, Nat.mul_zero, Nat.reduceMul, Nat.reduceAdd, Nat.reduceSub, Nat.reduceLT, Nat.reduceLeDiff, Nat.reduceEqDiff, Nat.reduceDiv, Nat.reduceBEq, Nat.reduceBNe, false_or, or_false, true_or, or_true, and_true, true_and, false_and, and_false, not_false_eq_true, not_true_eq_false, if_true, if_false, if_pos, if_neg, Option.bind_some, ite_false, ite_true, eq_self, reduceIte, sm, Nat.le_refl]
  | succ m ih =>
    intro n' c x h hn'
    obtain ⟨n', rfl⟩ : ∃ k, n' = k + 1 := ⟨n' - 1, by omega⟩
    rw [fX4_countInversions_l4, hP.1, l_0, c_iv14 hd hL hP (show c < d by omega) c FU 0 x (by omega) (by unfold FU; omega)]
    simp (disch := omega) only [l_0, l_1, l_2, l_3, l_4, l_5, l_6, l_7, l_8, l_9, l_10, l_12, l_13, l_24, l_31, l_32, l_40, l_41, l_42, l_44, l_45, l_48, l_49, l_50, l_57, l_59, l_60, l_65, l_88, l_89, l_97, l_98, l_99, l_100, l_105, l_108, l_109, l_114, l_118, l_120, l_122, l_144, l_255, l_269, l_279, l_339, l_400, l_600, l_999, l_1000, l_2373, l_2712, ι_lt, ι_le, ι_eq, ι_add, ι_mul, ι_sub, ι_div, ι_n, ι_m1, m1_ι, m1_lt, m1_le, lt_m1, le_m1, m1_lt_m1, m1_le_m1, m1_add1, neg_ι1, ι_addm, ι_addn, Bool.false_eq_true, Nat.not_lt_zero, Nat.add_zero, Nat.zero_add, Nat.mul_zero, Nat.reduceMul, Nat.reduceAdd, Nat.reduceSub, Nat.reduceLT, Nat.reduceLeDiff, Nat.reduceEqDiff, Nat.reduceDiv, Nat.reduceBEq, Nat.reduceBNe, false_or, or_false, true_or, or_true, and_true, true_and, false_and, and_false, not_false_eq_true, not_true_eq_false, if_true, if_false, if_pos, if_neg, Option.bind_some, ite_false, ite_true, eq_self, reduceIte, sm]
    rw [ih _ _ _ (by omega) (by omega)]; congr 3; omega
theorem c_countInv {σ : Mem} {F : Nat → Int32} {L : List En} {d : Nat} (hd : d ≤ 60) (hL : L.length ≤ 144) (hP : PC σ F L d) : fX4_countInversions 373 σ = some (ι (sm (fun j => cf (ivB (fs F L) j) 0 j) 0 d)) := by
  unfold fX4_countInversions
  by_cases h0 : d = 0
  · subst h0
    have hf : FU = 4095 + 1 := rfl
    rw [hf, fX4_countInversions_l4, hP.1]
    simp (disch := omega) only [l_0, l_1, l_2, l_3, l_4, l_5, l_6, l_7, l_8, l_9, l_10, l_12, l_13, l_24, l_31, l_32, l_40, l_41, l_42, l_44, l_45, l_48, l_49, l_50, l_57, l_59, l_60, l_65, l_88, l_89, l_97, l_98, l_99, l_100, l_105, l_108, l_109, l_114, l_118, l_120, l_122, l_144, l_255, l_269, l_279, l_339, l_400, l_600, l_999, l_1000, l_2373, l_2712, ι_lt, ι_le, ι_eq, ι_add, ι_mul, ι_sub, ι_div, ι_n, ι_m1, m1_ι, m1_lt, m1_le, lt_m1, le_m1, m1_lt_m1, m1_le_m1, m1_add1, neg_ι1, ι_addm, ι_addn, Bool.false_eq_true, Nat.not_lt_zero, Nat.add_zero, Nat.zero_add, Nat.mul_zero, Nat.reduceMul, Nat.reduceAdd, Nat.reduceSub, Nat.reduceLT, Nat.reduceLeDiff, Nat.reduceEqDiff, Nat.reduceDiv, Nat.reduceBEq, Nat.reduceBNe, false_or, or_false, true_or, or_true, and_true, true_and, false_and, and_false, not_false_eq_true, not_true_eq_false, if_true, if_false, if_pos, if_neg, Option.bind_some, ite_false, ite_true, eq_self, reduceIte, sm]
  · obtain ⟨d', rfl⟩ : ∃ d', d = d' + 1 := ⟨d - 1, by omega⟩
    rw [l_0, l_1, c_iv4 hd hL hP d' FU 1 0 (by omega) (by unfold FU; omega), Option.bind_some, sm]
    rfl
theorem inv_RO {σ τ : Mem} {k n a b d t : Nat} (h : RO σ τ k n a b d t) : ∃ v ρ ω, fX11_inversions 0 σ = some (v, ρ) ∧ fX12_inversionsNow τ = some (v, ω) ∧ ω 0 0 = τ 0 0 ∧ Rel ρ ω := by
  obtain ⟨ρ, υ, e1, e2, hO2, oc, pc, sx, f1, f2⟩ := scans_RO h
  have hd := sx.2.2.1
  have hL := sx.2.2.2.1
  obtain ⟨ω, b1, b2, b3⟩ := r_laysRow e2 sx
  have hlen := rowL_len (fs (τ 3) (ordE (τ 3) n a)) d
  have hb := rowL_lt (f := fs (τ 3) (ordE (τ 3) n a)) (B := 144) d (fun c y _ hy => by have := fs_lt hL hy; omega)
  refine ⟨ι (sm (fun j => cf (ivB (fs (τ 3) (ordE (τ 3) n a)) j) 0 j) 0 d), ρ, ω, ?_, ?_, (b3 0 0 (by omega)).trans (f2 0 0 (by omega)), Rel_c (RO_rel hO2) (fun _ _ => rfl) (frR_KT b3)⟩
  · unfold fX11_inversions
    rw [e1, Option.bind_some, Nat.zero_add, c_countInv hd hL pc]; rfl
  · unfold fX12_inversionsNow
    rw [b1, Option.bind_some, l_0, r_iv8 b2 (by omega) hb _ FU 0 0 (by omega : 0 + (rowL (fs (τ 3) (ordE (τ 3) n a)) d).length = _) (by unfold FU; omega), Option.bind_some, Nat.zero_add, iv_eq]
theorem sim40 : Sim40 Rel := by
  intro σ τ hR
  replace hR := Rel_0 hR 0
  unfold fX12_inversions
  generalize up τ 0 0 (0 : Int32) = τ at *
  obtain ⟨k, n, a, b, d, t, hO⟩ := RO_of hR
  obtain ⟨v, ρ, ω, e1, e2, e3, e4⟩ := inv_RO hO
  exact ⟨v, ρ, ω, e1, by rw [e2]; rfl, e4⟩
