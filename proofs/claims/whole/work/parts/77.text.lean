/-! PURE PART: texts -/
theorem ite_eq {α : Type} {a b : Nat} (ha : a < 2147483648) (hb : b < 2147483648) {x y : α} : (if ι a = ι b then x else y) = (if a = b then x else y) := by
  by_cases h : a = b
  · rw [if_pos h, if_pos (by rw [h])]
  · rw [if_neg h, if_neg (by rw [ι_eq ha hb]; exact h)]
theorem ite_le {α : Type} {a b : Nat} (ha : a < 2147483648) (hb : b < 2147483648) {x y : α} : (if ι a ≤ ι b then x else y) = (if a ≤ b then x else y) := by
  by_cases h : a ≤ b
  · rw [if_pos h, if_pos (by rw [ι_le ha hb]; exact h)]
  · rw [if_neg h, if_neg (by rw [ι_le ha hb]; exact h)]
theorem ite_lt {α : Type} {a b : Nat} (ha : a < 2147483648) (hb : b < 2147483648) {x y : α} : (if ι a < ι b then x else y) = (if a < b then x else y) := by
  by_cases h : a < b
  · rw [if_pos h, if_pos (by rw [ι_lt ha hb]; exact h)]
  · rw [if_neg h, if_neg (by rw [ι_lt ha hb]; exact h)]
def gt (l : List Nat) (i : Nat) : Nat := l.getD i 0
theorem gt_app1 {l : List Nat} {c i : Nat} (h : i < l.length) : gt (l ++ [c]) i = gt l i := by
  unfold gt
  rw [List.getD_eq_getElem?_getD, List.getElem?_append_left h, ← List.getD_eq_getElem?_getD]
theorem gt_last {l : List Nat} {c : Nat} : gt (l ++ [c]) l.length = c := by
  unfold gt
  rw [List.getD_eq_getElem?_getD, List.getElem?_concat_length]; rfl
theorem len1 {l : List Nat} {c : Nat} : (l ++ [c]).length = l.length + 1 := by rw [List.length_append]; rfl
def TC (σ : Mem) (o L : Nat) (l : List Nat) : Prop := ln (o + 1) = L ∧ L ≤ 600 ∧ l.length ≤ L ∧ σ o 1 = ι l.length ∧ ∀ i, i < l.length → σ (o + 1) i = ι (gt l i)
def TR (τ : Mem) (l : List Nat) : Prop := l.length ≤ 400 ∧ τ 0 21 = ι l.length ∧ ∀ i, i < l.length → τ 10 i = ι (gt l i) ∧ gt l i < 128
def frT (o : Nat) (σ ρ : Mem) : Prop := ∀ j, j ≠ o → j ≠ o + 1 → ρ j = σ j
def frW (τ υ : Mem) : Prop := ∀ k j, ¬ (k = 10 ∨ (k = 0 ∧ j = 21)) → υ k j = τ k j
theorem frT_refl (o : Nat) (σ : Mem) : frT o σ σ := fun _ _ _ => rfl
theorem frW_refl (τ : Mem) : frW τ τ := fun _ _ _ => rfl
theorem frT_trans {o : Nat} {σ ρ π : Mem} (h1 : frT o σ ρ) (h2 : frT o ρ π) : frT o σ π := fun j a b => (h2 j a b).trans (h1 j a b)
theorem frW_trans {σ ρ π : Mem} (h1 : frW σ ρ) (h2 : frW ρ π) : frW σ π := fun k j a => (h2 k j a).trans (h1 k j a)
theorem frW_Ro {τ υ : Mem} (h : frW τ υ) (hr : Ro τ) : Ro υ := fun i hi => (h 11 i (by omega)).trans (hr i hi)
theorem c_w {σ : Mem} {o L c : Nat} {l : List Nat} (h : TC σ o L l) (hl : l.length < L) : ∃ ρ, fX8_add o (ι c) σ = some ρ ∧ TC ρ o L (l ++ [c]) ∧ frT o σ ρ := by
  obtain ⟨h1, h2, h3, h4, h5⟩ := h
  refine ⟨_, c_tadd h1 h2 hl h4 (ι c), ⟨h1, h2, by rw [len1]; omega, ?_, fun i hi => ?_⟩, fun j a b => ?_⟩
  · rw [up_e, len1]
  · rw [len1] at hi
    rw [up_k _ _ _ _ _ (show o + 1 ≠ o by omega)]
    by_cases e : i = l.length
    · rw [e, up_e, gt_last]
    · rw [up_j _ _ _ _ _ e, gt_app1 (by omega)]; exact h5 i (by omega)
  · rw [up_k _ _ _ _ _ a, up_k _ _ _ _ _ b]
theorem nar_0 : ∀ c, c < 128 → (ι c).toInt8.toInt32 = ι c := by decide +kernel
theorem nar_c {c : Nat} (hc : c < 128) : vp_nar .byte (ι c).toInt8.toInt32 = ι c := by rw [pk_vb, nar_0 c hc]
theorem nar_d {c : Nat} (hc : c < 128) : vp_nar .byte (ι c) = ι c := by
  have := nar_c hc
  rw [nar_0 c hc] at this; exact this
theorem r_w {τ : Mem} {c : Nat} {l : List Nat} (h : TR τ l) (hl : l.length < 400) (hc : c < 128) : ∃ υ, fX12_writes (ι c) τ = some υ ∧ TR υ (l ++ [c]) ∧ frW τ υ := by
  obtain ⟨h1, h2, h3⟩ := h
  refine ⟨up (up τ 10 l.length (ι c)) 0 21 (ι (l.length + 1)), ?_, ⟨by rw [len1]; omega, ?_, fun i hi => ?_⟩, fun k j hk => ?_⟩
  · unfold fX12_writes
    rw [nar_c hc, up_k _ _ _ _ _ (show (0 : Nat) ≠ 10 by omega), h2]
    simp (disch := omega) only [l_0, l_1, l_2, l_3, l_4, l_5, l_6, l_7, l_8, l_9, l_10, l_12, l_13, l_24, l_31, l_32, l_40, l_41, l_42, l_44, l_45, l_48, l_49, l_50, l_57, l_59, l_60, l_65, l_88, l_89, l_97, l_98, l_99, l_100, l_105, l_108, l_109, l_114, l_118, l_120, l_122, l_144, l_255, l_269, l_279, l_339, l_400, l_600, l_999, l_1000, l_2373, l_2712, ι_lt, ι_le, ι_eq, ι_add, ι_mul, ι_sub, ι_div, ι_n, ι_m1, m1_ι, m1_lt, m1_le, lt_m1, le_m1, m1_lt_m1, m1_le_m1, m1_add1, neg_ι1, ι_addm, ι_addn, Bool.false_eq_true, Nat.not_lt_zero, Nat.add_zero, Nat.zero_add, Nat.mul_zero, Nat.reduceMul, Nat.reduceAdd, Nat.reduceSub, Nat.reduceLT, Nat.reduceLeDiff, Nat.reduceEqDiff, Nat.reduceDiv, Nat.reduceBEq, Nat.reduceBNe, false_or, or_false, true_or, or_true, and_true, true_and, false_and, and_false, not_false_eq_true, not_true_eq_false, if_true, if_false, if_pos, if_neg, Option.bind_some, ite_false, ite_true, eq_self, reduceIte, lm_0, lm_1, lm_2, lm_3, lm_4, lm_5, lm_6, lm_7, lm_8, lm_9, lm_10, lm_11, lm_12, lm_13, lm_14, lm_15, lm_16, lm_17]
  · rw [up_e, len1]
  · rw [len1] at hi
    rw [up_k _ _ _ _ _ (show (10 : Nat) ≠ 0 by omega)]
    by_cases e : i = l.length
    · rw [e, up_e, gt_last]; exact ⟨rfl, hc⟩
    · rw [up_j _ _ _ _ _ e, gt_app1 (by omega)]; exact h3 i (by omega)
  · rw [up_g, if_neg (by omega), up_g, if_neg (by omega)]
def dgt (u v : Nat) : List Nat := if v < u then [] else [48 + v / u % 10]
def dec (v : Nat) : List Nat := dgt 1000 v ++ (dgt 100 v ++ (dgt 10 v ++ dgt 1 v))
theorem dgt_len (u v : Nat) : (dgt u v).length ≤ 1 := by unfold dgt; split <;> simp
theorem dec_len (v : Nat) : (dec v).length ≤ 4 := by
  unfold dec
  have h1 := dgt_len 1000 v; have h2 := dgt_len 100 v; have h3 := dgt_len 10 v; have h4 := dgt_len 1 v
  simp only [List.length_append]; omega
theorem dec_len2 {v : Nat} (h : v < 100) : (dec v).length ≤ 2 := by
  unfold dec
  have h1 : dgt 1000 v = [] := by unfold dgt; rw [if_pos (by omega)]
  have h2 : dgt 100 v = [] := by unfold dgt; rw [if_pos (by omega)]
  have h3 := dgt_len 10 v; have h4 := dgt_len 1 v
  rw [h1, h2]
  simp only [List.length_append, List.nil_append]; omega
theorem ad_step {σ : Mem} {o L v u n : Nat} {l : List Nat} (hu : 1 ≤ u) (hu' : u ≤ 1000) (hv : v < 10000) (h : TC σ o L l) (hl : l.length + (dgt u v).length ≤ L) : ∃ ρ, fX8_addDecimal_l4 o (ι v) (n + 1) (ι u) σ = fX8_addDecimal_l4 o (ι v) n (ι (u / 10)) ρ ∧ TC ρ o L (l ++ dgt u v) ∧ frT o σ ρ := by
  rw [fX8_addDecimal_l4]
  by_cases hc : v < u
  · have e : dgt u v = [] := by unfold dgt; rw [if_pos hc]
    rw [e, List.append_nil]
    refine ⟨σ, ?_, h, frT_refl _ _⟩
    simp (disch := omega) only [l_0, l_1, l_2, l_3, l_4, l_5, l_6, l_7, l_8, l_9, l_10, l_12, l_13, l_24, l_31, l_32, l_40, l_41, l_42, l_44, l_45, l_48, l_49, l_50, l_57, l_59, l_60, l_65, l_88, l_89, l_97, l_98, l_99, l_100, l_105, l_108, l_109, l_114, l_118, l_120, l_122, l_144, l_255, l_269, l_279, l_339, l_400, l_600, l_999, l_1000, l_2373, l_2712, ι_lt, ι_le, ι_eq, ι_add, ι_mul, ι_sub, ι_div, ι_n, ι_m1, m1_ι, m1_lt, m1_le, lt_m1, le_m1, m1_lt_m1, m1_le_m1, m1_add1, neg_ι1, ι_addm, ι_addn, Bool.false_eq_true, Nat.not_lt_zero, Nat.add_zero, Nat.zero_add, Nat.mul_zero, Nat.reduceMul, Nat.reduceAdd, Nat.reduceSub, Nat.reduceLT, Nat.reduceLeDiff, Nat.reduceEqDiff, Nat.reduceDiv, Nat.reduceBEq, Nat.reduceBNe, false_or, or_false, true_or, or_true, and_true, true_and, false_and, and_false, not_false_eq_true, not_true_eq_false, if_true, if_false, if_pos, if_neg, Option.bind_some, ite_false, ite_true, eq_self, reduceIte]
  · have e : dgt u v = [48 + v / u % 10] := by unfold dgt; rw [if_neg hc]
    rw [e] at hl ⊢
    have hl : l.length + 1 ≤ L := hl
    obtain ⟨ρ, a1, a2, a3⟩ := c_w (c := 48 + v / u % 10) h (by omega)
    refine ⟨ρ, ?_, a2, a3⟩
    have hd : v / u < 2147483648 := Nat.lt_of_le_of_lt (Nat.div_le_self _ _) (by omega)
    have hq : 48 + (v / u - v / u / 10 * 10) = 48 + v / u % 10 := by omega
    simp (disch := omega) only [l_0, l_1, l_2, l_3, l_4, l_5, l_6, l_7, l_8, l_9, l_10, l_12, l_13, l_24, l_31, l_32, l_40, l_41, l_42, l_44, l_45, l_48, l_49, l_50, l_57, l_59, l_60, l_65, l_88, l_89, l_97, l_98, l_99, l_100, l_105, l_108, l_109, l_114, l_118, l_120, l_122, l_144, l_255, l_269, l_279, l_339, l_400, l_600, l_999, l_1000, l_2373, l_2712, ι_lt, ι_le, ι_eq, ι_add, ι_mul, ι_sub, ι_div, ι_n, ι_m1, m1_ι, m1_lt, m1_le, lt_m1, le_m1, m1_lt_m1, m1_le_m1, m1_add1, neg_ι1, ι_addm, ι_addn, Bool.false_eq_true, Nat.not_lt_zero, Nat.add_zero, Nat.zero_add, Nat.mul_zero, Nat.reduceMul, Nat.reduceAdd, Nat.reduceSub, Nat.reduceLT, Nat.reduceLeDiff, Nat.reduceEqDiff, Nat.reduceDiv, Nat.reduceBEq, Nat.reduceBNe, false_or, or_false, true_or, or_true, and_true, true_and, false_and, and_false, not_false_eq_true, not_true_eq_false, if_true, if_false, if_pos, if_neg, Option.bind_some, ite_false, ite_true, eq_self, reduceIte]
    rw [hq, a1, Option.bind_some]
theorem c_dec {σ : Mem} {o L v : Nat} {l : List Nat} (hv : v < 10000) (h : TC σ o L l) (hl : l.length + (dec v).length ≤ L) : ∃ ρ, fX8_addDecimal o (ι v) σ = some ρ ∧ TC ρ o L (l ++ dec v) ∧ frT o σ ρ := by
  unfold dec at *
  simp only [List.length_append] at hl
  obtain ⟨ρ1, a1, a2, a3⟩ := ad_step (n := 4091 + 1 + 1 + 1 + 1) (u := 1000) (by omega) (by omega) hv h (by omega)
  obtain ⟨ρ2, b1, b2, b3⟩ := ad_step (n := 4091 + 1 + 1 + 1) (u := 100) (by omega) (by omega) hv a2 (by rw [List.length_append]; omega)
  obtain ⟨ρ3, c1, c2, c3⟩ := ad_step (n := 4091 + 1 + 1) (u := 10) (by omega) (by omega) hv b2 (by rw [List.length_append, List.length_append]; omega)
  obtain ⟨ρ4, e1, e2, e3⟩ := ad_step (n := 4091 + 1) (u := 1) (by omega) (by omega) hv c2 (by rw [List.length_append, List.length_append, List.length_append]; omega)
  have a1 : fX8_addDecimal_l4 o (ι v) (4091 + 1 + 1 + 1 + 1 + 1) (1000 : Int32) σ = fX8_addDecimal_l4 o (ι v) (4091 + 1 + 1 + 1 + 1) (ι 100) ρ1 := a1
  have b1 : fX8_addDecimal_l4 o (ι v) (4091 + 1 + 1 + 1 + 1) (ι 100) ρ1 = fX8_addDecimal_l4 o (ι v) (4091 + 1 + 1 + 1) (ι 10) ρ2 := b1
  have c1 : fX8_addDecimal_l4 o (ι v) (4091 + 1 + 1 + 1) (ι 10) ρ2 = fX8_addDecimal_l4 o (ι v) (4091 + 1 + 1) (ι 1) ρ3 := c1
  have e1 : fX8_addDecimal_l4 o (ι v) (4091 + 1 + 1) (ι 1) ρ3 = fX8_addDecimal_l4 o (ι v) (4091 + 1) (ι 0) ρ4 := e1
  refine ⟨ρ4, ?_, ?_, frT_trans a3 (frT_trans b3 (frT_trans c3 e3))⟩
  · unfold fX8_addDecimal
    rw [show FU = 4091 + 1 + 1 + 1 + 1 + 1 from rfl, a1, b1, c1, e1, fX8_addDecimal_l4, if_pos (by decide), Option.bind_some]
  · rw [← List.append_assoc, ← List.append_assoc, ← List.append_assoc]; exact e2
def wk (v : Nat) : Nat → List Nat
  | 0 => [48 + v / 1 % 10]
  | k + 1 => (48 + v / 10 ^ (k + 1) % 10) :: wk v k
theorem r_l20 {v : Nat} (hv : v < 10000) : ∀ k n (τ : Mem) l, k ≤ 3 → k + 2 ≤ n → TR τ l → l.length + (k + 1) ≤ 400 → ∃ z υ, fX12_writesNumber_l20 (ι v) n (ι (10 ^ k)) τ = some (z, υ) ∧ TR υ (l ++ wk v k) ∧ frW τ υ := by
  have st : ∀ (u n : Nat) (τ : Mem) l, 1 ≤ u → u ≤ 1000 → TR τ l → l.length + 1 ≤ 400 → ∃ υ, fX12_writesNumber_l20 (ι v) (n + 1) (ι u) τ = fX12_writesNumber_l20 (ι v) n (ι (u / 10)) υ ∧ TR υ (l ++ [48 + v / u % 10]) ∧ frW τ υ := by
    intro u n τ l hu hu' h hl
    obtain ⟨υ, a1, a2, a3⟩ := r_w (c := 48 + v / u % 10) h (by omega) (by omega)
    refine ⟨υ, ?_, a2, a3⟩
    have hd : v / u < 2147483648 := Nat.lt_of_le_of_lt (Nat.div_le_self _ _) (by omega)
    have hq : 48 + (v / u - v / u / 10 * 10) = 48 + v / u % 10 := by omega
    rw [fX12_writesNumber_l20]
    simp (disch := omega) only [l_0, l_1, l_2, l_3, l_4, l_5, l_6, l_7, l_8, l_9, l_10, l_12, l_13, l_24, l_31, l_32, l_40, l_41, l_42, l_44, l_45, l_48, l_49, l_50, l_57, l_59, l_60, l_65, l_88, l_89, l_97, l_98, l_99, l_100, l_105, l_108, l_109, l_114, l_118, l_120, l_122, l_144, l_255, l_269, l_279, l_339, l_400, l_600, l_999, l_1000, l_2373, l_2712, ι_lt, ι_le, ι_eq, ι_add, ι_mul, ι_sub, ι_div, ι_n, ι_m1, m1_ι, m1_lt, m1_le, lt_m1, le_m1, m1_lt_m1, m1_le_m1, m1_add1, neg_ι1, ι_addm, ι_addn, Bool.false_eq_true, Nat.not_lt_zero, Nat.add_zero, Nat.zero_add, Nat.mul_zero, Nat.reduceMul, Nat.reduceAdd, Nat.reduceSub, Nat.reduceLT, Nat.reduceLeDiff, Nat.reduceEqDiff, Nat.reduceDiv, Nat.reduceBEq, Nat.reduceBNe, false_or, or_false, true_or, or_true, and_true, true_and, false_and, and_false, not_false_eq_true, not_true_eq_false, if_true, if_false, if_pos, if_neg, Option.bind_some, ite_false, ite_true, eq_self, reduceIte]
    rw [hq, a1, Option.bind_some]
  intro k
  induction k with
  | zero =>
    intro n τ l hk hn h hl
    obtain ⟨n, rfl⟩ : ∃ k, n = k + 1 + 1 := ⟨n - 2, by omega⟩
    obtain ⟨υ, a1, a2, a3⟩ := st 1 (n + 1) τ l (by omega) (by omega) h (by omega)
    have a1 : fX12_writesNumber_l20 (ι v) (n + 1 + 1) (ι (10 ^ 0)) τ = fX12_writesNumber_l20 (ι v) (n + 1) (ι 0) υ := a1
    refine ⟨ι 0, υ, ?_, a2, a3⟩
    rw [a1, fX12_writesNumber_l20, if_pos (by decide)]
  | succ k ih =>
    intro n τ l hk hn h hl
    obtain ⟨n, rfl⟩ : ∃ k, n = k + 1 := ⟨n - 1, by omega⟩
    have p0 : 1 ≤ 10 ^ (k + 1) := Nat.pos_of_ne_zero (by simp)
    have p1 : 10 ^ (k + 1) ≤ 1000 := by
      have : 10 ^ (k + 1) ≤ 10 ^ 3 := Nat.pow_le_pow_right (by omega) (by omega)
      exact this
    obtain ⟨τ1, a1, a2, a3⟩ := st (10 ^ (k + 1)) n τ l p0 p1 h (by omega)
    have e : 10 ^ (k + 1) / 10 = 10 ^ k := by rw [Nat.pow_succ, Nat.mul_div_cancel _ (by omega)]
    rw [e] at a1
    obtain ⟨z, υ, b1, b2, b3⟩ := ih n τ1 _ (by omega) (by omega) a2 (by rw [len1]; omega)
    refine ⟨z, υ, a1.trans b1, ?_, frW_trans a3 b3⟩
    rw [List.append_assoc] at b2; exact b2
theorem r_by {v : Nat} (hv : v < 10000) (τ : Mem) : fX12_writesNumber_l2 (ι v) FU (1 : Int32) τ = some (ι (if v < 10 then 10 ^ 0 else if v < 100 then 10 ^ 1 else if v < 1000 then 10 ^ 2 else 10 ^ 3)) := by
  have s : ∀ n u, 1 ≤ u → u ≤ 1000 → fX12_writesNumber_l2 (ι v) (n + 1) (ι u) τ = if v / u < 10 then some (ι u) else fX12_writesNumber_l2 (ι v) n (ι (u * 10)) τ := by
    intro n u h1 h2
    have hd : v / u < 2147483648 := Nat.lt_of_le_of_lt (Nat.div_le_self _ _) (by omega)
    rw [fX12_writesNumber_l2]
    simp (disch := omega) only [l_0, l_1, l_2, l_3, l_4, l_5, l_6, l_7, l_8, l_9, l_10, l_12, l_13, l_24, l_31, l_32, l_40, l_41, l_42, l_44, l_45, l_48, l_49, l_50, l_57, l_59, l_60, l_65, l_88, l_89, l_97, l_98, l_99, l_100, l_105, l_108, l_109, l_114, l_118, l_120, l_122, l_144, l_255, l_269, l_279, l_339, l_400, l_600, l_999, l_1000, l_2373, l_2712, ι_lt, ι_le, ι_eq, ι_add, ι_mul, ι_sub, ι_div, ι_n, ι_m1, m1_ι, m1_lt, m1_le, lt_m1, le_m1, m1_lt_m1, m1_le_m1, m1_add1, neg_ι1, ι_addm, ι_addn, Bool.false_eq_true, Nat.not_lt_zero, Nat.add_zero, Nat.zero_add, Nat.mul_zero, Nat.reduceMul, Nat.reduceAdd, Nat.reduceSub, Nat.reduceLT, Nat.reduceLeDiff, Nat.reduceEqDiff, Nat.reduceDiv, Nat.reduceBEq, Nat.reduceBNe, false_or, or_false, true_or, or_true, and_true, true_and, false_and, and_false, not_false_eq_true, not_true_eq_false, if_true, if_false, if_pos, if_neg, Option.bind_some, ite_false, ite_true, eq_self, reduceIte]
  have s1 := s (4091 + 1 + 1 + 1 + 1) 1 (by omega) (by omega)
  have s2 := s (4091 + 1 + 1 + 1) 10 (by omega) (by omega)
  have s3 := s (4091 + 1 + 1) 100 (by omega) (by omega)
  have s4 := s (4091 + 1) 1000 (by omega) (by omega)
  rw [show FU = 4091 + 1 + 1 + 1 + 1 + 1 from rfl, l_1, s1]
  by_cases h1 : v < 10
  · rw [if_pos (by omega), if_pos h1]
  · rw [if_neg (by omega), if_neg h1]
    refine Eq.trans s2 ?_
    by_cases h2 : v < 100
    · rw [if_pos (by omega), if_pos h2]
    · rw [if_neg (by omega), if_neg h2]
      refine Eq.trans s3 ?_
      by_cases h3 : v < 1000
      · rw [if_pos (by omega), if_pos h3]
      · rw [if_neg (by omega), if_neg h3]
        refine Eq.trans s4 ?_
        rw [if_pos (by omega)]
theorem r_dec {τ : Mem} {v : Nat} {l : List Nat} (h1v : 1 ≤ v) (hv : v < 10000) (h : TR τ l) (hl : l.length + (dec v).length ≤ 400) : ∃ υ, fX12_writesNumber (ι v) τ = some υ ∧ TR υ (l ++ dec v) ∧ frW τ υ := by
  have key : ∀ k, k ≤ 3 → dec v = wk v k → fX12_writesNumber_l2 (ι v) FU (1 : Int32) τ = some (ι (10 ^ k)) → ∃ υ, fX12_writesNumber (ι v) τ = some υ ∧ TR υ (l ++ dec v) ∧ frW τ υ := by
    intro k hk e hb
    have hlen : ∀ k, (wk v k).length = k + 1 := fun k => by
      induction k with
      | zero => rfl
      | succ k ih => show (wk v k).length + 1 = _; rw [ih]
    rw [e, hlen k] at hl
    obtain ⟨z, υ, a1, a2, a3⟩ := r_l20 hv k FU τ l hk (by unfold FU; omega) h hl
    refine ⟨υ, ?_, by rw [e]; exact a2, a3⟩
    unfold fX12_writesNumber
    rw [hb, Option.bind_some, a1, Option.bind_some]
  have hb := r_by hv τ
  by_cases h1 : v < 10
  · rw [if_pos h1] at hb
    refine key 0 (by omega) ?_ hb
    unfold dec dgt
    rw [if_pos (by omega), if_pos (by omega), if_pos (by omega), if_neg (by omega)]; rfl
  · rw [if_neg h1] at hb
    by_cases h2 : v < 100
    · rw [if_pos h2] at hb
      refine key 1 (by omega) ?_ hb
      unfold dec dgt
      rw [if_pos (by omega), if_pos (by omega), if_neg (by omega), if_neg (by omega)]; rfl
    · rw [if_neg h2] at hb
      by_cases h3 : v < 1000
      · rw [if_pos h3] at hb
        refine key 2 (by omega) ?_ hb
        unfold dec dgt
        rw [if_pos (by omega), if_neg (by omega), if_neg (by omega), if_neg (by omega)]; rfl
      · rw [if_neg h3] at hb
        refine key 3 (by omega) ?_ hb
        unfold dec dgt
        rw [if_neg (by omega), if_neg (by omega), if_neg (by omega), if_neg (by omega)]; rfl
def rp (w : List Nat) : Nat → List Nat
  | 0 => []
  | q + 1 => w ++ rp w q
theorem rp1_len (a : Nat) : ∀ q, (rp [a] q).length = q
  | 0 => rfl
  | q + 1 => by show (rp [a] q).length + 1 = _; rw [rp1_len a q]
def rd (g a b c : Nat) : List Nat := if g = 9 then [a, c] else if g = 4 then [a, b] else if g < 5 then rp [a] (g % 5) else b :: rp [a] (g % 5)
def romC (v : Nat) : List Nat := rp [109] (v / 1000) ++ (rd (v / 100 % 10) 99 100 109 ++ (rd (v / 10 % 10) 120 108 99 ++ rd (v % 10) 105 118 120))
theorem c_l51 {o L g a : Nat} (hg : g < 10) : ∀ m n i (σ : Mem) l, i + m = g % 5 → m < n → TC σ o L l → l.length + m ≤ L → ∃ z ρ, fX8_addRomanDigit_l51 o (ι g) (ι a) n (ι i) σ = some (z, ρ) ∧ TC ρ o L (l ++ rp [a] m) ∧ frT o σ ρ := by
  have hq : g - g / 5 * 5 = g % 5 := by omega
  intro m
  induction m with
  | zero =>
    intro n i σ l h hn ht hl
    obtain ⟨n, rfl⟩ : ∃ k, n = k + 1 := ⟨n - 1, by omega⟩
    rw [fX8_addRomanDigit_l51]
    simp (disch := omega) only [l_0, l_1, l_2, l_3, l_4, l_5, l_6, l_7, l_8, l_9, l_10, l_12, l_13, l_24, l_31, l_32, l_40, l_41, l_42, l_44, l_45, l_48, l_49, l_50, l_57, l_59, l_60, l_65, l_88, l_89, l_97, l_98, l_99, l_100, l_105, l_108, l_109, l_114, l_118, l_120, l_122, l_144, l_255, l_269, l_279, l_339, l_400, l_600, l_999, l_1000, l_2373, l_2712, ι_lt, ι_le, ι_eq, ι_add, ι_mul, ι_sub, ι_div, ι_n, ι_m1, m1_ι, m1_lt, m1_le, lt_m1, le_m1, m1_lt_m1, m1_le_m1, m1_add1, neg_ι1, ι_addm, ι_addn, Bool.false_eq_true, Nat.not_lt_zero, Nat.add_zero, Nat.zero_add, Nat.mul_zero, Nat.reduceMul, Nat.reduceAdd, Nat.reduceSub, Nat.reduceLT, Nat.reduceLeDiff, Nat.reduceEqDiff, Nat.reduceDiv, Nat.reduceBEq, Nat.reduceBNe, false_or, or_false, true_or, or_true, and_true, true_and, false_and, and_false, not_false_eq_true, not_true_eq_false, if_true, if_false, if_pos, if_neg, Option.bind_some, ite_false, ite_true, eq_self, reduceIte, hq]
    exact ⟨_, _, rfl, by rw [rp, List.append_nil]; exact ht, frT_refl _ _⟩
  | succ m ih =>
    intro n i σ l h hn ht hl
    obtain ⟨n, rfl⟩ : ∃ k, n = k + 1 := ⟨n - 1, by omega⟩
    rw [fX8_addRomanDigit_l51]
    obtain ⟨σ1, a1, a2, a3⟩ := c_w (c := a) ht (by omega)
    obtain ⟨z, ρ, b1, b2, b3⟩ := ih n (i + 1) σ1 _ (by omega) (by omega) a2 (by rw [len1]; omega)
    refine ⟨z, ρ, ?_, ?_, frT_trans a3 b3⟩
    · simp (disch := omega) only [l_0, l_1, l_2, l_3, l_4, l_5, l_6, l_7, l_8, l_9, l_10, l_12, l_13, l_24, l_31, l_32, l_40, l_41, l_42, l_44, l_45, l_48, l_49, l_50, l_57, l_59, l_60, l_65, l_88, l_89, l_97, l_98, l_99, l_100, l_105, l_108, l_109, l_114, l_118, l_120, l_122, l_144, l_255, l_269, l_279, l_339, l_400, l_600, l_999, l_1000, l_2373, l_2712, ι_lt, ι_le, ι_eq, ι_add, ι_mul, ι_sub, ι_div, ι_n, ι_m1, m1_ι, m1_lt, m1_le, lt_m1, le_m1, m1_lt_m1, m1_le_m1, m1_add1, neg_ι1, ι_addm, ι_addn, Bool.false_eq_true, Nat.not_lt_zero, Nat.add_zero, Nat.zero_add, Nat.mul_zero, Nat.reduceMul, Nat.reduceAdd, Nat.reduceSub, Nat.reduceLT, Nat.reduceLeDiff, Nat.reduceEqDiff, Nat.reduceDiv, Nat.reduceBEq, Nat.reduceBNe, false_or, or_false, true_or, or_true, and_true, true_and, false_and, and_false, not_false_eq_true, not_true_eq_false, if_true, if_false, if_pos, if_neg, Option.bind_some, ite_false, ite_true, eq_self, reduceIte, hq, a1]
      exact b1
    · rw [List.append_assoc] at b2; exact b2
theorem c_rd {σ : Mem} {o L g a b c : Nat} {l : List Nat} (hg : g < 10) (h : TC σ o L l) (hl : l.length + (rd g a b c).length ≤ L) : ∃ ρ, fX8_addRomanDigit o (ι g) (ι a) (ι b) (ι c) σ = some ρ ∧ TC ρ o L (l ++ rd g a b c) ∧ frT o σ ρ := by
  unfold fX8_addRomanDigit
  unfold rd at *
  by_cases h9 : g = 9
  · rw [if_pos h9] at hl ⊢
    have hl : l.length + 2 ≤ L := hl
    obtain ⟨σ1, a1, a2, a3⟩ := c_w (c := a) h (by omega)
    obtain ⟨σ2, b1, b2, b3⟩ := c_w (c := c) a2 (by rw [len1]; omega)
    refine ⟨σ2, ?_, by rw [List.append_assoc] at b2; exact b2, frT_trans a3 b3⟩
    rw [if_pos (by rw [h9]; rfl), a1, Option.bind_some, b1, Option.bind_some]
  · rw [if_neg h9] at hl ⊢
    rw [if_neg (by rw [l_9, ι_eq (by omega) (by omega)]; exact h9)]
    by_cases h4 : g = 4
    · rw [if_pos h4] at hl ⊢
      have hl : l.length + 2 ≤ L := hl
      obtain ⟨σ1, a1, a2, a3⟩ := c_w (c := a) h (by omega)
      obtain ⟨σ2, b1, b2, b3⟩ := c_w (c := b) a2 (by rw [len1]; omega)
      refine ⟨σ2, ?_, by rw [List.append_assoc] at b2; exact b2, frT_trans a3 b3⟩
      rw [if_pos (by rw [h4]; rfl), a1, Option.bind_some, b1, Option.bind_some]
    · rw [if_neg h4] at hl ⊢
      rw [if_neg (by rw [l_4, ι_eq (by omega) (by omega)]; exact h4)]
      by_cases h5 : g < 5
      · rw [if_pos h5] at hl ⊢
        rw [rp1_len] at hl
        rw [if_pos (by rw [l_5, ι_lt (by omega) (by omega)]; exact h5)]
        obtain ⟨z, ρ, a1, a2, a3⟩ := c_l51 (a := a) hg (g % 5) FU 0 σ l (by omega) (by unfold FU; omega) h hl
        have a1 : fX8_addRomanDigit_l51 o (ι g) (ι a) FU (0 : Int32) σ = some (z, ρ) := a1
        exact ⟨ρ, by rw [a1, Option.bind_some], a2, a3⟩
      · rw [if_neg h5] at hl ⊢
        rw [List.length_cons, rp1_len] at hl
        rw [if_neg (by rw [l_5, ι_lt (by omega) (by omega)]; exact h5)]
        obtain ⟨σ1, b1, b2, b3⟩ := c_w (c := b) h (by omega)
        obtain ⟨z, ρ, a1, a2, a3⟩ := c_l51 (a := a) hg (g % 5) FU 0 σ1 _ (by omega) (by unfold FU; omega) b2 (by rw [len1]; omega)
        have a1 : fX8_addRomanDigit_l51 o (ι g) (ι a) FU (0 : Int32) σ1 = some (z, ρ) := a1
        refine ⟨ρ, by rw [b1, Option.bind_some, a1, Option.bind_some], by rw [List.append_assoc] at a2; exact a2, frT_trans b3 a3⟩
theorem c_rl2 {o L v : Nat} (hv : v < 10000) : ∀ m n i (σ : Mem) l, i + m = v / 1000 → m < n → TC σ o L l → l.length + m ≤ L → ∃ z ρ, fX8_addRoman_l2 o (ι v) n (ι i) σ = some (z, ρ) ∧ TC ρ o L (l ++ rp [109] m) ∧ frT o σ ρ := by
  intro m
  induction m with
  | zero =>
    intro n i σ l h hn ht hl
    obtain ⟨n, rfl⟩ : ∃ k, n = k + 1 := ⟨n - 1, by omega⟩
    rw [fX8_addRoman_l2]
    simp (disch := omega) only [l_0, l_1, l_2, l_3, l_4, l_5, l_6, l_7, l_8, l_9, l_10, l_12, l_13, l_24, l_31, l_32, l_40, l_41, l_42, l_44, l_45, l_48, l_49, l_50, l_57, l_59, l_60, l_65, l_88, l_89, l_97, l_98, l_99, l_100, l_105, l_108, l_109, l_114, l_118, l_120, l_122, l_144, l_255, l_269, l_279, l_339, l_400, l_600, l_999, l_1000, l_2373, l_2712, ι_lt, ι_le, ι_eq, ι_add, ι_mul, ι_sub, ι_div, ι_n, ι_m1, m1_ι, m1_lt, m1_le, lt_m1, le_m1, m1_lt_m1, m1_le_m1, m1_add1, neg_ι1, ι_addm, ι_addn, Bool.false_eq_true, Nat.not_lt_zero, Nat.add_zero, Nat.zero_add, Nat.mul_zero, Nat.reduceMul, Nat.reduceAdd, Nat.reduceSub, Nat.reduceLT, Nat.reduceLeDiff, Nat.reduceEqDiff, Nat.reduceDiv, Nat.reduceBEq, Nat.reduceBNe, false_or, or_false, true_or, or_true, and_true, true_and, false_and, and_false, not_false_eq_true, not_true_eq_false, if_true, if_false, if_pos, if_neg, Option.bind_some, ite_false, ite_true, eq_self, reduceIte]
    exact ⟨_, _, rfl, by rw [rp, List.append_nil]; exact ht, frT_refl _ _⟩
  | succ m ih =>
    intro n i σ l h hn ht hl
    obtain ⟨n, rfl⟩ : ∃ k, n = k + 1 := ⟨n - 1, by omega⟩
    rw [fX8_addRoman_l2]
    obtain ⟨σ1, a1, a2, a3⟩ := c_w (c := 109) ht (by omega)
    obtain ⟨z, ρ, b1, b2, b3⟩ := ih n (i + 1) σ1 _ (by omega) (by omega) a2 (by rw [len1]; omega)
    refine ⟨z, ρ, ?_, ?_, frT_trans a3 b3⟩
    · simp (disch := omega) only [l_0, l_1, l_2, l_3, l_4, l_5, l_6, l_7, l_8, l_9, l_10, l_12, l_13, l_24, l_31, l_32, l_40, l_41, l_42, l_44, l_45, l_48, l_49, l_50, l_57, l_59, l_60, l_65, l_88, l_89, l_97, l_98, l_99, l_100, l_105, l_108, l_109, l_114, l_118, l_120, l_122, l_144, l_255, l_269, l_279, l_339, l_400, l_600, l_999, l_1000, l_2373, l_2712, ι_lt, ι_le, ι_eq, ι_add, ι_mul, ι_sub, ι_div, ι_n, ι_m1, m1_ι, m1_lt, m1_le, lt_m1, le_m1, m1_lt_m1, m1_le_m1, m1_add1, neg_ι1, ι_addm, ι_addn, Bool.false_eq_true, Nat.not_lt_zero, Nat.add_zero, Nat.zero_add, Nat.mul_zero, Nat.reduceMul, Nat.reduceAdd, Nat.reduceSub, Nat.reduceLT, Nat.reduceLeDiff, Nat.reduceEqDiff, Nat.reduceDiv, Nat.reduceBEq, Nat.reduceBNe, false_or, or_false, true_or, or_true, and_true, true_and, false_and, and_false, not_false_eq_true, not_true_eq_false, if_true, if_false, if_pos, if_neg, Option.bind_some, ite_false, ite_true, eq_self, reduceIte, a1]
      exact b1
    · rw [List.append_assoc] at b2; exact b2
theorem c_rom {σ : Mem} {o L v : Nat} {l : List Nat} (hv : v < 10000) (h : TC σ o L l) (hl : l.length + (romC v).length ≤ L) : ∃ ρ, fX8_addRoman o (ι v) σ = some ρ ∧ TC ρ o L (l ++ romC v) ∧ frT o σ ρ := by
  unfold romC at *
  simp only [List.length_append, rp1_len] at hl
  obtain ⟨z, ρ1, a1, a2, a3⟩ := c_rl2 hv (v / 1000) FU 0 σ l (by omega) (by unfold FU; omega) h (by omega)
  obtain ⟨ρ2, b1, b2, b3⟩ := c_rd (g := v / 100 % 10) (a := 99) (b := 100) (c := 109) (by omega) a2 (by rw [List.length_append, rp1_len]; omega)
  obtain ⟨ρ3, c1, c2, c3⟩ := c_rd (g := v / 10 % 10) (a := 120) (b := 108) (c := 99) (by omega) b2 (by rw [List.length_append, List.length_append, rp1_len]; omega)
  obtain ⟨ρ4, e1, e2, e3⟩ := c_rd (g := v % 10) (a := 105) (b := 118) (c := 120) (by omega) c2 (by rw [List.length_append, List.length_append, List.length_append, rp1_len]; omega)
  have a1 : fX8_addRoman_l2 o (ι v) FU (0 : Int32) σ = some (z, ρ1) := a1
  have g1 : (ι v / (100 : Int32)) - (ι v / (100 : Int32)) / (10 : Int32) * (10 : Int32) = ι (v / 100 % 10) := by
    simp (disch := omega) only [l_0, l_1, l_2, l_3, l_4, l_5, l_6, l_7, l_8, l_9, l_10, l_12, l_13, l_24, l_31, l_32, l_40, l_41, l_42, l_44, l_45, l_48, l_49, l_50, l_57, l_59, l_60, l_65, l_88, l_89, l_97, l_98, l_99, l_100, l_105, l_108, l_109, l_114, l_118, l_120, l_122, l_144, l_255, l_269, l_279, l_339, l_400, l_600, l_999, l_1000, l_2373, l_2712, ι_lt, ι_le, ι_eq, ι_add, ι_mul, ι_sub, ι_div, ι_n, ι_m1, m1_ι, m1_lt, m1_le, lt_m1, le_m1, m1_lt_m1, m1_le_m1, m1_add1, neg_ι1, ι_addm, ι_addn, Bool.false_eq_true, Nat.not_lt_zero, Nat.add_zero, Nat.zero_add, Nat.mul_zero, Nat.reduceMul, Nat.reduceAdd, Nat.reduceSub, Nat.reduceLT, Nat.reduceLeDiff, Nat.reduceEqDiff, Nat.reduceDiv, Nat.reduceBEq, Nat.reduceBNe, false_or, or_false, true_or, or_true, and_true, true_and, false_and, and_false, not_false_eq_true, not_true_eq_false, if_true, if_false, if_pos, if_neg, Option.bind_some, ite_false, ite_true, eq_self, reduceIte]
    congr 1; omega
  have g2 : (ι v / (10 : Int32)) - (ι v / (10 : Int32)) / (10 : Int32) * (10 : Int32) = ι (v / 10 % 10) := by
    simp (disch := omega) only [l_0, l_1, l_2, l_3, l_4, l_5, l_6, l_7, l_8, l_9, l_10, l_12, l_13, l_24, l_31, l_32, l_40, l_41, l_42, l_44, l_45, l_48, l_49, l_50, l_57, l_59, l_60, l_65, l_88, l_89, l_97, l_98, l_99, l_100, l_105, l_108, l_109, l_114, l_118, l_120, l_122, l_144, l_255, l_269, l_279, l_339, l_400, l_600, l_999, l_1000, l_2373, l_2712, ι_lt, ι_le, ι_eq, ι_add, ι_mul, ι_sub, ι_div, ι_n, ι_m1, m1_ι, m1_lt, m1_le, lt_m1, le_m1, m1_lt_m1, m1_le_m1, m1_add1, neg_ι1, ι_addm, ι_addn, Bool.false_eq_true, Nat.not_lt_zero, Nat.add_zero, Nat.zero_add, Nat.mul_zero, Nat.reduceMul, Nat.reduceAdd, Nat.reduceSub, Nat.reduceLT, Nat.reduceLeDiff, Nat.reduceEqDiff, Nat.reduceDiv, Nat.reduceBEq, Nat.reduceBNe, false_or, or_false, true_or, or_true, and_true, true_and, false_and, and_false, not_false_eq_true, not_true_eq_false, if_true, if_false, if_pos, if_neg, Option.bind_some, ite_false, ite_true, eq_self, reduceIte]
    congr 1; omega
  have g3 : ι v - ι v / (10 : Int32) * (10 : Int32) = ι (v % 10) := by
    simp (disch := omega) only [l_0, l_1, l_2, l_3, l_4, l_5, l_6, l_7, l_8, l_9, l_10, l_12, l_13, l_24, l_31, l_32, l_40, l_41, l_42, l_44, l_45, l_48, l_49, l_50, l_57, l_59, l_60, l_65, l_88, l_89, l_97, l_98, l_99, l_100, l_105, l_108, l_109, l_114, l_118, l_120, l_122, l_144, l_255, l_269, l_279, l_339, l_400, l_600, l_999, l_1000, l_2373, l_2712, ι_lt, ι_le, ι_eq, ι_add, ι_mul, ι_sub, ι_div, ι_n, ι_m1, m1_ι, m1_lt, m1_le, lt_m1, le_m1, m1_lt_m1, m1_le_m1, m1_add1, neg_ι1, ι_addm, ι_addn, Bool.false_eq_true, Nat.not_lt_zero, Nat.add_zero, Nat.zero_add, Nat.mul_zero, Nat.reduceMul, Nat.reduceAdd, Nat.reduceSub, Nat.reduceLT, Nat.reduceLeDiff, Nat.reduceEqDiff, Nat.reduceDiv, Nat.reduceBEq, Nat.reduceBNe, false_or, or_false, true_or, or_true, and_true, true_and, false_and, and_false, not_false_eq_true, not_true_eq_false, if_true, if_false, if_pos, if_neg, Option.bind_some, ite_false, ite_true, eq_self, reduceIte]
    congr 1; omega
  refine ⟨ρ4, ?_, ?_, frT_trans a3 (frT_trans b3 (frT_trans c3 e3))⟩
  · unfold fX8_addRoman
    rw [a1, Option.bind_some, g1, g2, g3]
    have b1 : fX8_addRomanDigit o (ι (v / 100 % 10)) (99 : Int32) (100 : Int32) (109 : Int32) ρ1 = some ρ2 := b1
    have c1 : fX8_addRomanDigit o (ι (v / 10 % 10)) (120 : Int32) (108 : Int32) (99 : Int32) ρ2 = some ρ3 := c1
    have e1 : fX8_addRomanDigit o (ι (v % 10)) (105 : Int32) (118 : Int32) (120 : Int32) ρ3 = some ρ4 := e1
    rw [b1, Option.bind_some, c1, Option.bind_some, e1, Option.bind_some]
  · rw [← List.append_assoc, ← List.append_assoc, ← List.append_assoc]; exact e2
