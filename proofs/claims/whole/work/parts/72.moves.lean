/-! PURE PART: moves to order -/
def mxv (st : List (Nat × Nat)) (y : Nat) : Nat := st.foldl (fun m xc => if xc.1 ≤ y then (if m < xc.2 then xc.2 else m) else m) 0
def mxl (st : List (Nat × Nat)) : Nat := st.foldl (fun m xc => if m < xc.2 then xc.2 else m) 0
def sts (st : List (Nat × Nat)) (y : Nat) : List (Nat × Nat) := st ++ [(y, 1 + mxv st y)]
def stl (l : List Nat) : List (Nat × Nat) := l.foldl sts []
theorem mxv_app (st : List (Nat × Nat)) (x c y : Nat) : mxv (st ++ [(x, c)]) y = if x ≤ y then (if mxv st y < c then c else mxv st y) else mxv st y := by
  unfold mxv; rw [List.foldl_append]; rfl
theorem mxl_app (st : List (Nat × Nat)) (x c : Nat) : mxl (st ++ [(x, c)]) = if mxl st < c then c else mxl st := by
  unfold mxl; rw [List.foldl_append]; rfl
theorem stl_app (l : List Nat) (y : Nat) : stl (l ++ [y]) = stl l ++ [(y, 1 + mxv (stl l) y)] := by
  unfold stl; rw [List.foldl_append]; rfl
theorem stl_b : ∀ l : List Nat, (∀ y, mxv (stl l) y ≤ l.length) ∧ mxl (stl l) ≤ l.length := by
  have : ∀ n (l : List Nat), l.length = n → (∀ y, mxv (stl l) y ≤ n) ∧ mxl (stl l) ≤ n := by
    intro n
    induction n with
    | zero =>
      intro l h
      rw [List.length_eq_zero_iff.mp h]; exact ⟨fun _ => Nat.le_refl _, Nat.le_refl _⟩
    | succ n ih =>
      intro l h
      rcases List.eq_nil_or_concat l with z | ⟨l', x, z⟩
      · rw [z] at h; simp at h
      · rw [List.concat_eq_append] at z
        subst z
        rw [List.length_append] at h
        simp only [List.length_cons, List.length_nil] at h
        obtain ⟨i1, i2⟩ := ih l' (by omega)
        rw [stl_app]
        have := i1 x
        refine ⟨fun y => ?_, ?_⟩
        · rw [mxv_app]
          have := i1 y
          split
          · split <;> omega
          · omega
        · rw [mxl_app]
          split <;> omega
  exact fun l => this l.length l rfl
theorem ln381 : ln (380 + 1) = 60 := by decide
theorem row_none {f : Nat → Option Nat} {s : Nat} (h : f s = none) : rowL f (s + 1) = rowL f s := by rw [rowL, h, Option.toList_none, List.append_nil]
theorem row_some {f : Nat → Option Nat} {s y : Nat} (h : f s = some y) : rowL f (s + 1) = rowL f s ++ [y] := by rw [rowL, h, Option.toList_some]
theorem c_ch_l {σ : Mem} {F : Nat → Int32} {L : List En} {d c y : Nat} (hd : d ≤ 60) (hL : L.length ≤ 144) (hP : PC σ F L d) (hc : c < d) (hy : fs F L c = some y) (hch : ∀ e x, e < c → fs F L e = some x → σ 381 e = ι (1 + mxv (stl (rowL (fs F L) e)) x)) : ∀ m n' e, e + m = c → m < n' → ∃ z, fX4_longestChainBefore_l4 373 (ι c) n' (ι (mxv (stl (rowL (fs F L) e)) y)) (ι e) σ = some (ι (mxv (stl (rowL (fs F L) c)) y), z) := by
  intro m
  induction m with
  | zero =>
    intro n' e h hn'
    obtain ⟨n', rfl⟩ : ∃ k, n' = k + 1 := ⟨n' - 1, by omega⟩
    have ee : e = c := by omega
    subst ee
    rw [fX4_longestChainBefore_l4]
    simp (disch := omega) only [l_0, l_1, l_2, l_3, l_4, l_5, l_6, l_7, l_8, l_9, l_10, l_12, l_13, l_24, l_31, l_32, l_40, l_41, l_42, l_44, l_45, l_48, l_49, l_50, l_57, l_59, l_60, l_65, l_88, l_89, l_97, l_98, l_99, l_100, l_105, l_108, l_109, l_114, l_118, l_120, l_122, l_144, l_255, l_269, l_279, l_339, l_400, l_600, l_999, l_1000, l_2373, l_2712, ι_lt, ι_le, ι_eq, ι_add, ι_mul, ι_sub, ι_div, ι_n, ι_m1, m1_ι, m1_lt, m1_le, lt_m1, le_m1, m1_lt_m1, m1_le_m1, m1_add1, neg_ι1, ι_addm, ι_addn, Bool.false_eq_true, Nat.not_lt_zero, Nat.add_zero, Nat.zero_add, Nat.mul_zero, Nat.reduceMul, Nat.reduceAdd, Nat.reduceSub, Nat.reduceLT, Nat.reduceLeDiff, Nat.reduceEqDiff, Nat.reduceDiv, Nat.reduceBEq, Nat.reduceBNe, false_or, or_false, true_or, or_true, and_true, true_and, false_and, and_false, not_false_eq_true, not_true_eq_false, if_true, if_false, if_pos, if_neg, Option.bind_some, ite_false, ite_true, eq_self, reduceIte, Nat.le_refl]
    exact ⟨_, rfl⟩
  | succ m ih =>
    intro n' e h hn'
    obtain ⟨n', rfl⟩ : ∃ k, n' = k + 1 := ⟨n' - 1, by omega⟩
    obtain ⟨z, hz⟩ := ih n' (e + 1) (by omega) (by omega)
    refine ⟨z, ?_⟩
    have hlen := rowL_len (fs F L) e
    have hb := (stl_b (rowL (fs F L) e)).1
    rw [fX4_longestChainBefore_l4, c_isPlaced hd hL hP (by omega), c_isInv hd hL hP (by omega) hc]
    have hp : ∀ ω : Mem, fX3_at 380 (ι e) ω = some (ω 381 e) := fun ω => c_at ln381 (by omega) (by omega)
    cases hf : fs F L e with
    | none =>
      rw [row_none hf] at hz
      simp (disch := omega) only [l_0, l_1, l_2, l_3, l_4, l_5, l_6, l_7, l_8, l_9, l_10, l_12, l_13, l_24, l_31, l_32, l_40, l_41, l_42, l_44, l_45, l_48, l_49, l_50, l_57, l_59, l_60, l_65, l_88, l_89, l_97, l_98, l_99, l_100, l_105, l_108, l_109, l_114, l_118, l_120, l_122, l_144, l_255, l_269, l_279, l_339, l_400, l_600, l_999, l_1000, l_2373, l_2712, ι_lt, ι_le, ι_eq, ι_add, ι_mul, ι_sub, ι_div, ι_n, ι_m1, m1_ι, m1_lt, m1_le, lt_m1, le_m1, m1_lt_m1, m1_le_m1, m1_add1, neg_ι1, ι_addm, ι_addn, Bool.false_eq_true, Nat.not_lt_zero, Nat.add_zero, Nat.zero_add, Nat.mul_zero, Nat.reduceMul, Nat.reduceAdd, Nat.reduceSub, Nat.reduceLT, Nat.reduceLeDiff, Nat.reduceEqDiff, Nat.reduceDiv, Nat.reduceBEq, Nat.reduceBNe, false_or, or_false, true_or, or_true, and_true, true_and, false_and, and_false, not_false_eq_true, not_true_eq_false, if_true, if_false, if_pos, if_neg, Option.bind_some, ite_false, ite_true, eq_self, reduceIte, Option.isSome_none]
      exact hz
    | some x =>
      rw [row_some hf, stl_app, mxv_app] at hz
      have he := hch e x (by omega) hf
      have hbx := hb x
      have hby := hb y
      by_cases hyx : y < x
      · have e1 : ivB (fs F L) c e = true := by unfold ivB; rw [hy, hf]; exact decide_eq_true hyx
        rw [if_neg (by omega)] at hz
        simp (disch := omega) only [l_0, l_1, l_2, l_3, l_4, l_5, l_6, l_7, l_8, l_9, l_10, l_12, l_13, l_24, l_31, l_32, l_40, l_41, l_42, l_44, l_45, l_48, l_49, l_50, l_57, l_59, l_60, l_65, l_88, l_89, l_97, l_98, l_99, l_100, l_105, l_108, l_109, l_114, l_118, l_120, l_122, l_144, l_255, l_269, l_279, l_339, l_400, l_600, l_999, l_1000, l_2373, l_2712, ι_lt, ι_le, ι_eq, ι_add, ι_mul, ι_sub, ι_div, ι_n, ι_m1, m1_ι, m1_lt, m1_le, lt_m1, le_m1, m1_lt_m1, m1_le_m1, m1_add1, neg_ι1, ι_addm, ι_addn, Bool.false_eq_true, Nat.not_lt_zero, Nat.add_zero, Nat.zero_add, Nat.mul_zero, Nat.reduceMul, Nat.reduceAdd, Nat.reduceSub, Nat.reduceLT, Nat.reduceLeDiff, Nat.reduceEqDiff, Nat.reduceDiv, Nat.reduceBEq, Nat.reduceBNe, false_or, or_false, true_or, or_true, and_true, true_and, false_and, and_false, not_false_eq_true, not_true_eq_false, if_true, if_false, if_pos, if_neg, Option.bind_some, ite_false, ite_true, eq_self, reduceIte, Option.isSome_some, e1]
        exact hz
      · have e1 : ivB (fs F L) c e = false := by unfold ivB; rw [hy, hf]; exact decide_eq_false hyx
        rw [if_pos (by omega)] at hz
        simp (disch := omega) only [l_0, l_1, l_2, l_3, l_4, l_5, l_6, l_7, l_8, l_9, l_10, l_12, l_13, l_24, l_31, l_32, l_40, l_41, l_42, l_44, l_45, l_48, l_49, l_50, l_57, l_59, l_60, l_65, l_88, l_89, l_97, l_98, l_99, l_100, l_105, l_108, l_109, l_114, l_118, l_120, l_122, l_144, l_255, l_269, l_279, l_339, l_400, l_600, l_999, l_1000, l_2373, l_2712, ι_lt, ι_le, ι_eq, ι_add, ι_mul, ι_sub, ι_div, ι_n, ι_m1, m1_ι, m1_lt, m1_le, lt_m1, le_m1, m1_lt_m1, m1_le_m1, m1_add1, neg_ι1, ι_addm, ι_addn, Bool.false_eq_true, Nat.not_lt_zero, Nat.add_zero, Nat.zero_add, Nat.mul_zero, Nat.reduceMul, Nat.reduceAdd, Nat.reduceSub, Nat.reduceLT, Nat.reduceLeDiff, Nat.reduceEqDiff, Nat.reduceDiv, Nat.reduceBEq, Nat.reduceBNe, false_or, or_false, true_or, or_true, and_true, true_and, false_and, and_false, not_false_eq_true, not_true_eq_false, if_true, if_false, if_pos, if_neg, Option.bind_some, ite_false, ite_true, eq_self, reduceIte, Option.isSome_some, e1, hp, he]
        have e3 : (if mxv (stl (rowL (fs F L) e)) y < 1 + mxv (stl (rowL (fs F L) e)) x then ι (1 + mxv (stl (rowL (fs F L) e)) x) else ι (mxv (stl (rowL (fs F L) e)) y)) = ι (if mxv (stl (rowL (fs F L) e)) y < 1 + mxv (stl (rowL (fs F L) e)) x then 1 + mxv (stl (rowL (fs F L) e)) x else mxv (stl (rowL (fs F L) e)) y) := by split <;> rfl
        rw [e3]; exact hz
theorem c_mv_l {F : Nat → Int32} {L : List En} {d : Nat} (hd : d ≤ 60) (hL : L.length ≤ 144) : ∀ m n' c (σ : Mem), c + m = d → m < n' → PC σ F L d → (∀ e x, e < c → fs F L e = some x → σ 381 e = ι (1 + mxv (stl (rowL (fs F L) e)) x)) → ∃ z ρ, fX4_countMoves_l6 373 n' (ι (rowL (fs F L) c).length) (ι (mxl (stl (rowL (fs F L) c)))) (ι c) σ = some (ι (rowL (fs F L) d).length, ι (mxl (stl (rowL (fs F L) d))), z, ρ) ∧ ∀ j, j ≠ 381 → ρ j = σ j := by
  intro m
  induction m with
  | zero =>
    intro n' c σ h hn' hP hch
    obtain ⟨n', rfl⟩ : ∃ k, n' = k + 1 := ⟨n' - 1, by omega⟩
    have ee : c = d := by omega
    subst ee
    rw [fX4_countMoves_l6, hP.1]
    simp (disch := omega) only [l_0, l_1, l_2, l_3, l_4, l_5, l_6, l_7, l_8, l_9, l_10, l_12, l_13, l_24, l_31, l_32, l_40, l_41, l_42, l_44, l_45, l_48, l_49, l_50, l_57, l_59, l_60, l_65, l_88, l_89, l_97, l_98, l_99, l_100, l_105, l_108, l_109, l_114, l_118, l_120, l_122, l_144, l_255, l_269, l_279, l_339, l_400, l_600, l_999, l_1000, l_2373, l_2712, ι_lt, ι_le, ι_eq, ι_add, ι_mul, ι_sub, ι_div, ι_n, ι_m1, m1_ι, m1_lt, m1_le, lt_m1, le_m1, m1_lt_m1, m1_le_m1, m1_add1, neg_ι1, ι_addm, ι_addn, Bool.false_eq_true, Nat.not_lt_zero, Nat.add_zero, Nat.zero_add, Nat.mul_zero, Nat.reduceMul, Nat.reduceAdd, Nat.reduceSub, Nat.reduceLT, Nat.reduceLeDiff, Nat.reduceEqDiff, Nat.reduceDiv, Nat.reduceBEq, Nat.reduceBNe, false_or, or_false, true_or, or_true, and_true, true_and, false_and, and_false, not_false_eq_true, not_true_eq_false, if_true, if_false, if_pos, if_neg, Option.bind_some, ite_false, ite_true, eq_self, reduceIte, Nat.le_refl]
    exact ⟨_, _, rfl, fun _ _ => rfl⟩
  | succ m ih =>
    intro n' c σ h hn' hP hch
    obtain ⟨n', rfl⟩ : ∃ k, n' = k + 1 := ⟨n' - 1, by omega⟩
    have hlen := rowL_len (fs F L) c
    obtain ⟨hb, hbl⟩ := stl_b (rowL (fs F L) c)
    rw [fX4_countMoves_l6, hP.1, c_isPlaced hd hL hP (by omega)]
    cases hf : fs F L c with
    | none =>
      obtain ⟨z, ρ, b1, b2⟩ := ih n' (c + 1) σ (by omega) (by omega) hP (fun e x he hx => by
        by_cases hec : e = c
        · rw [hec, hf] at hx; cases hx
        · exact hch e x (by omega) hx)
      rw [row_none hf] at b1
      refine ⟨z, ρ, ?_, b2⟩
      simp (disch := omega) only [l_0, l_1, l_2, l_3, l_4, l_5, l_6, l_7, l_8, l_9, l_10, l_12, l_13, l_24, l_31, l_32, l_40, l_41, l_42, l_44, l_45, l_48, l_49, l_50, l_57, l_59, l_60, l_65, l_88, l_89, l_97, l_98, l_99, l_100, l_105, l_108, l_109, l_114, l_118, l_120, l_122, l_144, l_255, l_269, l_279, l_339, l_400, l_600, l_999, l_1000, l_2373, l_2712, ι_lt, ι_le, ι_eq, ι_add, ι_mul, ι_sub, ι_div, ι_n, ι_m1, m1_ι, m1_lt, m1_le, lt_m1, le_m1, m1_lt_m1, m1_le_m1, m1_add1, neg_ι1, ι_addm, ι_addn, Bool.false_eq_true, Nat.not_lt_zero, Nat.add_zero, Nat.zero_add, Nat.mul_zero, Nat.reduceMul, Nat.reduceAdd, Nat.reduceSub, Nat.reduceLT, Nat.reduceLeDiff, Nat.reduceEqDiff, Nat.reduceDiv, Nat.reduceBEq, Nat.reduceBNe, false_or, or_false, true_or, or_true, and_true, true_and, false_and, and_false, not_false_eq_true, not_true_eq_false, if_true, if_false, if_pos, if_neg, Option.bind_some, ite_false, ite_true, eq_self, reduceIte, Option.isSome_none]
      exact b1
    | some y =>
      have hby := hb y
      obtain ⟨z0, hz0⟩ := c_ch_l hd hL hP (show c < d by omega) hf hch c FU 0 (by omega) (by unfold FU; omega)
      have hcb : fX4_longestChainBefore 373 (ι c) σ = some (ι (mxv (stl (rowL (fs F L) c)) y)) := by
        unfold fX4_longestChainBefore
        have hz0 : fX4_longestChainBefore_l4 373 (ι c) FU 0 0 σ = _ := hz0
        rw [hz0]; rfl
      have hp : ∀ (ω : Mem) (v : Int32), fX3_put 380 (ι c) v ω = some (up ω 381 c v) := fun ω v => c_put ln381 (by omega) (by omega)
      have w : ∀ j, j ≠ 381 → up σ 381 c (ι (1 + mxv (stl (rowL (fs F L) c)) y)) j = σ j := fun j hj => up_k _ _ _ _ _ hj
      obtain ⟨z, ρ, b1, b2⟩ := ih n' (c + 1) (up σ 381 c (ι (1 + mxv (stl (rowL (fs F L) c)) y))) (by omega) (by omega) ⟨by rw [w 373 (by omega)]; exact hP.1, by rw [w 375 (by omega), w 377 (by omega)]; exact hP.2⟩ (fun e x he hx => by
        by_cases hec : e = c
        · subst hec
          rw [hf] at hx; cases hx
          exact up_e _ _ _ _
        · rw [up_j _ _ _ _ _ hec]
          exact hch e x (by omega) hx)
      rw [row_some hf, stl_app, mxl_app, List.length_append] at b1
      refine ⟨z, ρ, ?_, fun j hj => (b2 j hj).trans (w j hj)⟩
      simp (disch := omega) only [l_0, l_1, l_2, l_3, l_4, l_5, l_6, l_7, l_8, l_9, l_10, l_12, l_13, l_24, l_31, l_32, l_40, l_41, l_42, l_44, l_45, l_48, l_49, l_50, l_57, l_59, l_60, l_65, l_88, l_89, l_97, l_98, l_99, l_100, l_105, l_108, l_109, l_114, l_118, l_120, l_122, l_144, l_255, l_269, l_279, l_339, l_400, l_600, l_999, l_1000, l_2373, l_2712, ι_lt, ι_le, ι_eq, ι_add, ι_mul, ι_sub, ι_div, ι_n, ι_m1, m1_ι, m1_lt, m1_le, lt_m1, le_m1, m1_lt_m1, m1_le_m1, m1_add1, neg_ι1, ι_addm, ι_addn, Bool.false_eq_true, Nat.not_lt_zero, Nat.add_zero, Nat.zero_add, Nat.mul_zero, Nat.reduceMul, Nat.reduceAdd, Nat.reduceSub, Nat.reduceLT, Nat.reduceLeDiff, Nat.reduceEqDiff, Nat.reduceDiv, Nat.reduceBEq, Nat.reduceBNe, false_or, or_false, true_or, or_true, and_true, true_and, false_and, and_false, not_false_eq_true, not_true_eq_false, if_true, if_false, if_pos, if_neg, Option.bind_some, ite_false, ite_true, eq_self, reduceIte, Option.isSome_some, hcb, hp]
      have e3 : (if mxl (stl (rowL (fs F L) c)) < 1 + mxv (stl (rowL (fs F L) c)) y then ι (1 + mxv (stl (rowL (fs F L) c)) y) else ι (mxl (stl (rowL (fs F L) c)))) = ι (if mxl (stl (rowL (fs F L) c)) < 1 + mxv (stl (rowL (fs F L) c)) y then 1 + mxv (stl (rowL (fs F L) c)) y else mxl (stl (rowL (fs F L) c))) := by split <;> rfl
      rw [e3]; exact b1
theorem r_mv30 {l : List Nat} (hl : l.length ≤ 60) (hb : ∀ i, i < l.length → gd l i < 144) {j : Nat} (hj : j < l.length) (x1 : Int32) : ∀ m n' i (υ : Mem), i + m = j → m < n' → RR υ l → (∀ i, i < j → υ 14 i = ι (1 + mxv (stl (l.take i)) (gd l i))) → υ 14 j = ι (1 + mxv (stl (l.take i)) (gd l j)) → ∃ z ω, fX12_movesToOrder_l30 x1 (ι j) n' (ι i) υ = some (z, ω) ∧ ω 14 j = ι (1 + mxv (stl (l.take j)) (gd l j)) ∧ (∀ k i, ¬ (k = 14 ∧ i = j) → ω k i = υ k i) := by
  intro m
  induction m with
  | zero =>
    intro n' i υ h hn' hR hr hv
    obtain ⟨n', rfl⟩ : ∃ k, n' = k + 1 := ⟨n' - 1, by omega⟩
    have ee : i = j := by omega
    subst ee
    rw [fX12_movesToOrder_l30]
    simp (disch := omega) only [l_0, l_1, l_2, l_3, l_4, l_5, l_6, l_7, l_8, l_9, l_10, l_12, l_13, l_24, l_31, l_32, l_40, l_41, l_42, l_44, l_45, l_48, l_49, l_50, l_57, l_59, l_60, l_65, l_88, l_89, l_97, l_98, l_99, l_100, l_105, l_108, l_109, l_114, l_118, l_120, l_122, l_144, l_255, l_269, l_279, l_339, l_400, l_600, l_999, l_1000, l_2373, l_2712, ι_lt, ι_le, ι_eq, ι_add, ι_mul, ι_sub, ι_div, ι_n, ι_m1, m1_ι, m1_lt, m1_le, lt_m1, le_m1, m1_lt_m1, m1_le_m1, m1_add1, neg_ι1, ι_addm, ι_addn, Bool.false_eq_true, Nat.not_lt_zero, Nat.add_zero, Nat.zero_add, Nat.mul_zero, Nat.reduceMul, Nat.reduceAdd, Nat.reduceSub, Nat.reduceLT, Nat.reduceLeDiff, Nat.reduceEqDiff, Nat.reduceDiv, Nat.reduceBEq, Nat.reduceBNe, false_or, or_false, true_or, or_true, and_true, true_and, false_and, and_false, not_false_eq_true, not_true_eq_false, if_true, if_false, if_pos, if_neg, Option.bind_some, ite_false, ite_true, eq_self, reduceIte, Nat.le_refl]
    exact ⟨_, _, rfl, hv, fun _ _ _ => rfl⟩
  | succ m ih =>
    intro n' i υ h hn' hR hr hv
    obtain ⟨n', rfl⟩ : ∃ k, n' = k + 1 := ⟨n' - 1, by omega⟩
    have hi : i < l.length := by omega
    have g1 := hb i hi
    have g2 := hb j hj
    have s1 := (stl_b (l.take i)).1 (gd l j)
    have s2 := (stl_b (l.take i)).1 (gd l i)
    rw [List.length_take] at s1 s2
    have hmx : mxv (stl (l.take (i + 1))) (gd l j) = if gd l i ≤ gd l j then (if mxv (stl (l.take i)) (gd l j) < 1 + mxv (stl (l.take i)) (gd l i) then 1 + mxv (stl (l.take i)) (gd l i) else mxv (stl (l.take i)) (gd l j)) else mxv (stl (l.take i)) (gd l j) := by
      rw [tk_succ hi, stl_app, mxv_app]
    have hri := hr i (by omega)
    rw [fX12_movesToOrder_l30]
    by_cases hle : gd l j < gd l i
    · rw [if_neg (by omega)] at hmx
      obtain ⟨z, ω, b1, b2, b3⟩ := ih n' (i + 1) υ (by omega) (by omega) hR hr (by rw [hmx]; exact hv)
      refine ⟨z, ω, ?_, b2, b3⟩
      simp (disch := omega) only [l_0, l_1, l_2, l_3, l_4, l_5, l_6, l_7, l_8, l_9, l_10, l_12, l_13, l_24, l_31, l_32, l_40, l_41, l_42, l_44, l_45, l_48, l_49, l_50, l_57, l_59, l_60, l_65, l_88, l_89, l_97, l_98, l_99, l_100, l_105, l_108, l_109, l_114, l_118, l_120, l_122, l_144, l_255, l_269, l_279, l_339, l_400, l_600, l_999, l_1000, l_2373, l_2712, ι_lt, ι_le, ι_eq, ι_add, ι_mul, ι_sub, ι_div, ι_n, ι_m1, m1_ι, m1_lt, m1_le, lt_m1, le_m1, m1_lt_m1, m1_le_m1, m1_add1, neg_ι1, ι_addm, ι_addn, Bool.false_eq_true, Nat.not_lt_zero, Nat.add_zero, Nat.zero_add, Nat.mul_zero, Nat.reduceMul, Nat.reduceAdd, Nat.reduceSub, Nat.reduceLT, Nat.reduceLeDiff, Nat.reduceEqDiff, Nat.reduceDiv, Nat.reduceBEq, Nat.reduceBNe, false_or, or_false, true_or, or_true, and_true, true_and, false_and, and_false, not_false_eq_true, not_true_eq_false, if_true, if_false, if_pos, if_neg, Option.bind_some, ite_false, ite_true, eq_self, reduceIte, lm_0, lm_1, lm_2, lm_3, lm_4, lm_5, lm_6, lm_7, lm_8, lm_9, lm_10, lm_11, lm_12, lm_13, lm_14, lm_15, lm_16, lm_17, hR.2 i hi, hR.2 j hj, up_self]
      exact b1
    · rw [if_pos (by omega)] at hmx
      have w : ∀ k i', ¬ (k = 14 ∧ i' = j) → up υ 14 j (ι (1 + mxv (stl (l.take (i + 1))) (gd l j))) k i' = υ k i' := fun k i' hk => by rw [up_g, if_neg hk]
      obtain ⟨z, ω, b1, b2, b3⟩ := ih n' (i + 1) (up υ 14 j (ι (1 + mxv (stl (l.take (i + 1))) (gd l j)))) (by omega) (by omega) ⟨by rw [w 0 26 (by omega)]; exact hR.1, fun i' hi' => by rw [w 13 i' (by omega)]; exact hR.2 i' hi'⟩ (fun i' hi' => by rw [w 14 i' (by omega)]; exact hr i' hi') (up_e _ _ _ _)
      refine ⟨z, ω, ?_, b2, fun k i' hk => (b3 k i' hk).trans (w k i' hk)⟩
      simp (disch := omega) only [l_0, l_1, l_2, l_3, l_4, l_5, l_6, l_7, l_8, l_9, l_10, l_12, l_13, l_24, l_31, l_32, l_40, l_41, l_42, l_44, l_45, l_48, l_49, l_50, l_57, l_59, l_60, l_65, l_88, l_89, l_97, l_98, l_99, l_100, l_105, l_108, l_109, l_114, l_118, l_120, l_122, l_144, l_255, l_269, l_279, l_339, l_400, l_600, l_999, l_1000, l_2373, l_2712, ι_lt, ι_le, ι_eq, ι_add, ι_mul, ι_sub, ι_div, ι_n, ι_m1, m1_ι, m1_lt, m1_le, lt_m1, le_m1, m1_lt_m1, m1_le_m1, m1_add1, neg_ι1, ι_addm, ι_addn, Bool.false_eq_true, Nat.not_lt_zero, Nat.add_zero, Nat.zero_add, Nat.mul_zero, Nat.reduceMul, Nat.reduceAdd, Nat.reduceSub, Nat.reduceLT, Nat.reduceLeDiff, Nat.reduceEqDiff, Nat.reduceDiv, Nat.reduceBEq, Nat.reduceBNe, false_or, or_false, true_or, or_true, and_true, true_and, false_and, and_false, not_false_eq_true, not_true_eq_false, if_true, if_false, if_pos, if_neg, Option.bind_some, ite_false, ite_true, eq_self, reduceIte, lm_0, lm_1, lm_2, lm_3, lm_4, lm_5, lm_6, lm_7, lm_8, lm_9, lm_10, lm_11, lm_12, lm_13, lm_14, lm_15, lm_16, lm_17, hR.2 i hi, hR.2 j hj, hv, hri]
      have e3 : (if 1 + mxv (stl (l.take i)) (gd l j) < 1 + mxv (stl (l.take i)) (gd l i) + 1 then ι (1 + mxv (stl (l.take i)) (gd l i) + 1) else ι (1 + mxv (stl (l.take i)) (gd l j))) = ι (1 + mxv (stl (l.take (i + 1))) (gd l j)) := by
        rw [hmx]
        by_cases hq : mxv (stl (l.take i)) (gd l j) < 1 + mxv (stl (l.take i)) (gd l i)
        · rw [if_pos hq, if_pos (by omega)]; congr 1; omega
        · rw [if_neg hq, if_neg (by omega)]
      rw [e3]; exact b1
theorem r_mv13 {l : List Nat} (hl : l.length ≤ 60) (hb : ∀ i, i < l.length → gd l i < 144) : ∀ m n' j (υ : Mem), j + m = l.length → m < n' → RR υ l → (∀ i, i < j → υ 14 i = ι (1 + mxv (stl (l.take i)) (gd l i))) → ∃ z ω, fX12_movesToOrder_l13 n' (ι (mxl (stl (l.take j)))) (ι j) υ = some (ι (mxl (stl l)), z, ω) ∧ frR4 υ ω := by
  intro m
  induction m with
  | zero =>
    intro n' j υ h hn' hR hr
    obtain ⟨n', rfl⟩ : ∃ k, n' = k + 1 := ⟨n' - 1, by omega⟩
    have ee : j = l.length := by omega
    subst ee
    rw [fX12_movesToOrder_l13, hR.1, List.take_length]
    simp (disch := omega) only [l_0, l_1, l_2, l_3, l_4, l_5, l_6, l_7, l_8, l_9, l_10, l_12, l_13, l_24, l_31, l_32, l_40, l_41, l_42, l_44, l_45, l_48, l_49, l_50, l_57, l_59, l_60, l_65, l_88, l_89, l_97, l_98, l_99, l_100, l_105, l_108, l_109, l_114, l_118, l_120, l_122, l_144, l_255, l_269, l_279, l_339, l_400, l_600, l_999, l_1000, l_2373, l_2712, ι_lt, ι_le, ι_eq, ι_add, ι_mul, ι_sub, ι_div, ι_n, ι_m1, m1_ι, m1_lt, m1_le, lt_m1, le_m1, m1_lt_m1, m1_le_m1, m1_add1, neg_ι1, ι_addm, ι_addn, Bool.false_eq_true, Nat.not_lt_zero, Nat.add_zero, Nat.zero_add, Nat.mul_zero, Nat.reduceMul, Nat.reduceAdd, Nat.reduceSub, Nat.reduceLT, Nat.reduceLeDiff, Nat.reduceEqDiff, Nat.reduceDiv, Nat.reduceBEq, Nat.reduceBNe, false_or, or_false, true_or, or_true, and_true, true_and, false_and, and_false, not_false_eq_true, not_true_eq_false, if_true, if_false, if_pos, if_neg, Option.bind_some, ite_false, ite_true, eq_self, reduceIte, Nat.le_refl]
    exact ⟨_, _, rfl, fun _ _ _ => rfl⟩
  | succ m ih =>
    intro n' j υ h hn' hR hr
    obtain ⟨n', rfl⟩ : ∃ k, n' = k + 1 := ⟨n' - 1, by omega⟩
    have hj : j < l.length := by omega
    have s1 := (stl_b (l.take j)).1 (gd l j)
    have s2 := (stl_b (l.take j)).2
    rw [List.length_take] at s1 s2
    have w : ∀ k i', ¬ (k = 14 ∧ i' = j) → up υ 14 j (ι 1) k i' = υ k i' := fun k i' hk => by rw [up_g, if_neg hk]
    have m0 : mxv (stl (l.take 0)) (gd l j) = 0 := rfl
    obtain ⟨z, ω, b1, b2, b3⟩ := r_mv30 hl hb hj (ι (mxl (stl (l.take j)))) j FU 0 (up υ 14 j (ι 1)) (by omega) (by unfold FU; omega) ⟨by rw [w 0 26 (by omega)]; exact hR.1, fun i' hi' => by rw [w 13 i' (by omega)]; exact hR.2 i' hi'⟩ (fun i' hi' => by rw [w 14 i' (by omega)]; exact hr i' hi') (by rw [up_e, m0])
    have w2 : ∀ k i', ¬ (k = 14 ∧ i' = j) → ω k i' = υ k i' := fun k i' hk => (b3 k i' hk).trans (w k i' hk)
    obtain ⟨z', ψ, d1, d2⟩ := ih n' (j + 1) ω (by omega) (by omega) ⟨by rw [w2 0 26 (by omega)]; exact hR.1, fun i' hi' => by rw [w2 13 i' (by omega)]; exact hR.2 i' hi'⟩ (fun i' hi' => by
      by_cases hij : i' = j
      · rw [hij]; exact b2
      · rw [w2 14 i' (by omega)]; exact hr i' (by omega))
    rw [tk_succ hj, stl_app, mxl_app] at d1
    refine ⟨z', ψ, ?_, fun k i' hk => (d2 k i' hk).trans (w2 k i' (by omega))⟩
    rw [fX12_movesToOrder_l13, hR.1]
    simp (disch := omega) only [l_0, l_1, l_2, l_3, l_4, l_5, l_6, l_7, l_8, l_9, l_10, l_12, l_13, l_24, l_31, l_32, l_40, l_41, l_42, l_44, l_45, l_48, l_49, l_50, l_57, l_59, l_60, l_65, l_88, l_89, l_97, l_98, l_99, l_100, l_105, l_108, l_109, l_114, l_118, l_120, l_122, l_144, l_255, l_269, l_279, l_339, l_400, l_600, l_999, l_1000, l_2373, l_2712, ι_lt, ι_le, ι_eq, ι_add, ι_mul, ι_sub, ι_div, ι_n, ι_m1, m1_ι, m1_lt, m1_le, lt_m1, le_m1, m1_lt_m1, m1_le_m1, m1_add1, neg_ι1, ι_addm, ι_addn, Bool.false_eq_true, Nat.not_lt_zero, Nat.add_zero, Nat.zero_add, Nat.mul_zero, Nat.reduceMul, Nat.reduceAdd, Nat.reduceSub, Nat.reduceLT, Nat.reduceLeDiff, Nat.reduceEqDiff, Nat.reduceDiv, Nat.reduceBEq, Nat.reduceBNe, false_or, or_false, true_or, or_true, and_true, true_and, false_and, and_false, not_false_eq_true, not_true_eq_false, if_true, if_false, if_pos, if_neg, Option.bind_some, ite_false, ite_true, eq_self, reduceIte, lm_0, lm_1, lm_2, lm_3, lm_4, lm_5, lm_6, lm_7, lm_8, lm_9, lm_10, lm_11, lm_12, lm_13, lm_14, lm_15, lm_16, lm_17, b1, b2]
    have e3 : (if mxl (stl (l.take j)) < 1 + mxv (stl (l.take j)) (gd l j) then ι (1 + mxv (stl (l.take j)) (gd l j)) else ι (mxl (stl (l.take j)))) = ι (if mxl (stl (l.take j)) < 1 + mxv (stl (l.take j)) (gd l j) then 1 + mxv (stl (l.take j)) (gd l j) else mxl (stl (l.take j))) := by split <;> rfl
    rw [e3]; exact d1
theorem sim41 : Sim41 Rel := by
  intro σ τ hR
  replace hR := Rel_0 hR 0
  unfold fX12_movesToOrder fX11_movesToOrder
  generalize up τ 0 0 (0 : Int32) = τ at *
  obtain ⟨k, n, a, b, d, t, hO⟩ := RO_of hR
  obtain ⟨ρ, υ, e1, e2, hO2, oc, pc, sx, f1, f2⟩ := scans_RO hO
  have hd := sx.2.2.1
  have hL := sx.2.2.2.1
  obtain ⟨ω, b1, b2, b3⟩ := r_laysRow e2 sx
  have hlen := rowL_len (fs (τ 3) (ordE (τ 3) n a)) d
  have hb := rowL_lt (f := fs (τ 3) (ordE (τ 3) n a)) (B := 144) d (fun c y _ hy => by have := fs_lt hL hy; omega)
  obtain ⟨q, ρ', c1, c2⟩ := c_mv_l hd hL d FU 0 ρ (by omega) (by unfold FU; omega) pc (fun e x he => by omega)
  obtain ⟨z, ψ, d1, d2⟩ := r_mv13 (by omega) hb (rowL (fs (τ 3) (ordE (τ 3) n a)) d).length FU 0 ω (by omega) (by unfold FU; omega) b2 (fun i h => by omega)
  refine ⟨ι (rowL (fs (τ 3) (ordE (τ 3) n a)) d).length - ι (mxl (stl (rowL (fs (τ 3) (ordE (τ 3) n a)) d))), ρ', ψ, ?_, ?_, Rel_c (RO_rel hO2) (fun j hj => c2 j (by unfold KK RK at hj; omega)) (fun k j hk => ?_)⟩
  · have c1 : fX4_countMoves_l6 373 FU 0 0 0 ρ = _ := c1
    unfold fX4_countMoves
    rw [e1, Option.bind_some, Nat.zero_add, c1]; rfl
  · have d1 : fX12_movesToOrder_l13 FU 0 0 ω = _ := d1
    rw [b1, Option.bind_some, d1, Option.bind_some]
    show some (ψ 0 26 - ι (mxl (stl (rowL (fs (τ 3) (ordE (τ 3) n a)) d))), ψ) = _
    rw [d2 0 26 (by omega), b2.1]
  · rw [d2 k j (by unfold KT RT at hk; omega)]; exact frR_KT b3 k j hk
