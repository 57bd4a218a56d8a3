/-! PURE PART: texts -/
theorem ite_eq {α : Type} {a b : Nat} (ha : a < 2147483648) (hb : b < 2147483648) {x y : α} : (if ι a = ι b then x else y) = (if a = b then x else y) := by
  by_cases h : a = b
  · rw [if_pos h, if_pos (by rw [h])]
  · rw [if_neg h, if_neg (by rw [ι_eq ha hb]; exact h)]
theorem ite_le {α : Type} {a b : Nat} (ha : a < 2147483648) (hb : b < 2147483648) {x y : α} : (if ι a ≤ ι b then x else y) = (if a ≤ b then x else y) := by
  by_cases h : a ≤ b
  · rw [if_pos h, if_pos (by rw [ι_le ha hb]; exact h)]
  · rw [if_neg h, if_neg (by rw [ι_le ha hb]; exact h)]
theorem ite_lt {α : Type} {a b : Nat} (ha : a < 2147483648) (hb : b < 2147483648) {x y : α} : (if ι a < ι b then x else y) = (if a < b then x else y) := by
  by_cases h : a < b
  · rw [if_pos h, if_pos (by rw [ι_lt ha hb]; exact h)]
  · rw [if_neg h, if_neg (by rw [ι_lt ha hb]; exact h)]
def gt (l : List Nat) (i : Nat) : Nat := l.getD i 0
theorem gt_app1 {l : List Nat} {c i : Nat} (h : i < l.length) : gt (l ++ [c]) i = gt l i := by
  unfold gt
  rw [List.getD_eq_getElem?_getD, List.getElem?_append_left h, ← List.getD_eq_getElem?_getD]
theorem gt_last {l : List Nat} {c : Nat} : gt (l ++ [c]) l.length = c := by
  unfold gt
  rw [List.getD_eq_getElem?_getD, List.getElem?_concat_length]; rfl
theorem len1 {l : List Nat} {c : Nat} : (l ++ [c]).length = l.length + 1 := by rw [List.length_append]; rfl
def TC (σ : Mem) (o L : Nat) (l : List Nat) : Prop := ln (o + 1) = L ∧ L ≤ 600 ∧ l.length ≤ L ∧ σ o 1 = ι l.length ∧ ∀ i, i < l.length → σ (o + 1) i = ι (gt l i)
def TR (τ : Mem) (l : List Nat) : Prop := l.length ≤ 400 ∧ τ 0 21 = ι l.length ∧ ∀ i, i < l.length → τ 10 i = ι (gt l i) ∧ gt l i < 128
def frT (o : Nat) (σ ρ : Mem) : Prop := ∀ j, j ≠ o → j ≠ o + 1 → ρ j = σ j
def frW (τ υ : Mem) : Prop := ∀ k j, ¬ (k = 10 ∨ (k = 0 ∧ j = 21)) → υ k j = τ k j
theorem frT_refl (o : Nat) (σ : Mem) : frT o σ σ := fun _ _ _ => rfl
theorem frW_refl (τ : Mem) : frW τ τ := fun _ _ _ => rfl
theorem frT_trans {o : Nat} {σ ρ π : Mem} (h1 : frT o σ ρ) (h2 : frT o ρ π) : frT o σ π := fun j a b => (h2 j a b).trans (h1 j a b)
theorem frW_trans {σ ρ π : Mem} (h1 : frW σ ρ) (h2 : frW ρ π) : frW σ π := fun k j a => (h2 k j a).trans (h1 k j a)
theorem frW_Ro {τ υ : Mem} (h : frW τ υ) (hr : Ro τ) : Ro υ := fun i hi => (h 11 i (by omega)).trans (hr i hi)
theorem c_w {σ : Mem} {o L c : Nat} {l : List Nat} (h : TC σ o L l) (hl : l.length < L) : ∃ ρ, fX8_add o (ι c) σ = some ρ ∧ TC ρ o L (l ++ [c]) ∧ frT o σ ρ := by
  obtain ⟨h1, h2, h3, h4, h5⟩ := h
  refine ⟨_, c_tadd h1 h2 hl h4 (ι c), ⟨h1, h2, by rw [len1]; omega, ?_, fun i hi => ?_⟩, fun j a b => ?_⟩
  · rw [up_e, len1]
  · rw [len1] at hi
    rw [up_k _ _ _ _ _ (show o + 1 ≠ o by omega)]
    by_cases e : i = l.length
    · rw [e, up_e, gt_last]
    · rw [up_j _ _ _ _ _ e, gt_app1 (by omega)]; exact h5 i (by omega)
  · rw [up_k _ _ _ _ _ a, up_k _ _ _ _ _ b]
theorem nar_0 : ∀ c, c < 128 → (ι c).toInt8.toInt32 = ι c := by decide +kernel
theorem nar_c {c : Nat} (hc : c < 128) : vp_nar .byte (ι c).toInt8.toInt32 = ι c := by rw [pk_vb, nar_0 c hc]
theorem nar_d {c : Nat} (hc : c < 128) : vp_nar .byte (ι c) = ι c := by
  have := nar_c hc
  rw [nar_0 c hc] at this; exact this
theorem r_w {τ : Mem} {c : Nat} {l : List Nat} (h : TR τ l) (hl : l.length < 400) (hc : c < 128) : ∃ υ, fX12_writes (ι c) τ = some υ ∧ TR υ (l ++ [c]) ∧ frW τ υ := by
  obtain ⟨h1, h2, h3⟩ := h
  refine ⟨up (up τ 10 l.length (ι c)) 0 21 (ι (l.length + 1)), ?_, ⟨by rw [len1]; omega, ?_, fun i hi => ?_⟩, fun k j hk => ?_⟩
  · unfold fX12_writes
    rw [nar_c hc, up_k _ _ _ _ _ (show (0 : Nat) ≠ 10 by omega), h2]
    simp (disch := omega) only [l_0, l_1, l_2, l_3, l_4, l_5, l_6, l_7, l_8, l_9, l_10, l_12, l_13, l_24, l_31, l_32, l_40, l_41, l_42, l_44, l_45, l_48, l_49, l_50, l_57, l_59, l_60, l_65, l_88, l_89, l_97, l_98, l_99, l_100, l_105, l_108, l_109, l_114, l_118, l_120, l_122, l_144, l_255, l_269, l_279, l_339, l_400, l_600, l_999, l_1000, l_2373, l_2712, ι_lt, ι_le, ι_eq, ι_add, ι_mul, ι_sub, ι_div, ι_n, ι_m1, m1_ι, m1_lt, m1_le, lt_m1, le_m1, m1_lt_m1, m1_le_m1, m1_add1, neg_ι1, ι_addm, ι_addn, Bool.false_eq_true, Nat.not_lt_zero, Nat.add_zero, Nat.zero_add, Nat.mul_zero, Nat.reduceMul, Nat.reduceAdd, Nat.reduceSub, Nat.reduceLT, Nat.reduceLeDiff, Nat.reduceEqDiff, Nat.reduceDiv, Nat.reduceBEq, Nat.reduceBNe, false_or, or_false, true_or, or_true, and_true, true_and, false_and, and_false, not_false_eq_true, not_true_eq_false, if_true, if_false, if_pos, if_neg, Option.bind_some, ite_false, ite_true, eq_self, reduceIte, lm_0, lm_1, lm_2, lm_3, lm_4, lm_5, lm_6, lm_7, lm_8, lm_9, lm_10, lm_11, lm_12, lm_13, lm_14, lm_15, lm_16, lm_17]
  · rw [up_e, len1]
  · rw [len1] at hi
    rw [up_k _ _ _ _ _ (show (10 : Nat) ≠ 0 by omega)]
    by_cases e : i = l.length
    · rw [e, up_e, gt_last]; exact ⟨rfl, hc⟩
    · rw [up_j _ _ _ _ _ e, gt_app1 (by omega)]; exact h3 i (by omega)
  · rw [up_g, if_neg (by omega), up_g, if_neg (by omega)]
def dgt (u v : Nat) : List Nat := if v < u then [] else [48 + v / u % 10]
def dec (v : Nat) : List Nat := dgt 1000 v ++ (dgt 100 v ++ (dgt 10 v ++ dgt 1 v))
theorem dgt_len (u v : Nat) : (dgt u v).length ≤ 1 := by unfold dgt; split <;> simp
theorem dec_len (v : Nat) : (dec v).length ≤ 4 := by
  unfold dec
  have h1 := dgt_len 1000 v; have h2 := dgt_len 100 v; have h3 := dgt_len 10 v; have h4 := dgt_len 1 v
  simp only [List.length_append]; omega
theorem dec_len2 {v : Nat} (h : v < 100) : (dec v).length ≤ 2 := by
  unfold dec
  have h1 : dgt 1000 v = [] := by unfold dgt; rw [if_pos (by omega)]
  have h2 : dgt 100 v = [] := by unfold dgt; rw [if_pos (by omega)]
  have h3 := dgt_len 10 v; have h4 := dgt_len 1 v
  rw [h1, h2]
  simp only [List.length_append, List.nil_append]; omega
theorem ad_step {σ : Mem} {o L v u n : Nat} {l : List Nat} (hu : 1 ≤ u) (hu' : u ≤ 1000) (hv : v < 10000) (h : TC σ o L l) (hl : l.length + (dgt u v).length ≤ L) : ∃ ρ, fX8_addDecimal_l4 o (ι v) (n + 1) (ι u) σ = fX8_addDecimal_l4 o (ι v) n (ι (u / 10)) ρ ∧ TC ρ o L (l ++ dgt u v) ∧ frT o σ ρ := by
  rw [fX8_addDecimal_l4]
  by_cases hc : v < u
  · have e : dgt u v = [] := by unfold dgt; rw [if_pos hc]
    rw [e, List.append_nil]
    refine ⟨σ, ?_, h, frT_refl _ _⟩
    simp (disch := omega) only [l_0, l_1, l_2, l_3, l_4, l_5, l_6, l_7, l_8, l_9, l_10, l_12, l_13, l_24, l_31, l_32, l_40, l_41, l_42, l_44, l_45, l_48, l_49, l_50, l_57, l_59, l_60, l_65, l_88, l_89, l_97, l_98, l_99, l_100, l_105, l_108, l_109, l_114, l_118, l_120, l_122, l_144, l_255, l_269, l_279, l_339, l_400, l_600, l_999, l_1000, l_2373, l_2712, ι_lt, ι_le, ι_eq, ι_add, ι_mul, ι_sub, ι_div, ι_n, ι_m1, m1_ι, m1_lt, m1_le, lt_m1, le_m1, m1_lt_m1, m1_le_m1, m1_add1, neg_ι1, ι_addm, ι_addn, Bool.false_eq_true, Nat.not_lt_zero, Nat.add_zero, Nat.zero_add, Nat.mul_zero, Nat.reduceMul, Nat.reduceAdd, Nat.reduceSub, Nat.reduceLT, Nat.reduceLeDiff, Nat.reduceEqDiff, Nat.reduceDiv, Nat.reduceBEq, Nat.reduceBNe, false_or, or_false, true_or, or_true, and_true, true_and, false_and, and_false, not_false_eq_true, not_true_eq_false, if_true, if_false, if_pos, if_neg, Option.bind_some, ite_false, ite_true, eq_self, reduceIte]
  · have e : dgt u v = [48 + v / u % 10] := by unfold dgt; rw [if_neg hc]
    rw [e] at hl ⊢
    have hl : l.length + 1 ≤ L := hl
    obtain ⟨ρ, a1, a2, a3⟩ := c_w (c := 48 + v / u % 10) h (by omega)
    refine ⟨ρ, ?_, a2, a3⟩
    have hd : v / u < 2147483648 := Nat.lt_of_le_of_lt (Nat.div_le_self _ _) (by omega)
    have hq : 48 + (v / u - v / u / 10 * 10) = 48 + v / u % 10 := by omega
    simp (disch := omega) only [l_0, l_1, l_2, l_3, l_4, l_5, l_6, l_7, l_8, l_9, l_10, l_12, l_13, l_24, l_31, l_32, l_40, l_41, l_42, l_44, l_45, l_48, l_49, l_50, l_57, l_59, l_60, l_65, l_88, l_89, l_97, l_98, l_99, l_100, l_105, l_108, l_109, l_114, l_118, l_120, l_122, l_144, l_255, l_269, l_279, l_339, l_400, l_600, l_999, l_1000, l_2373, l_2712, ι_lt, ι_le, ι_eq, ι_add, ι_mul, ι_sub, ι_div, ι_n, ι_m1, m1_ι, m1_lt, m1_le, lt_m1, le_m1, m1_lt_m1, m1_le_m1, m1_add1, neg_ι1, ι_addm, ι_addn, Bool.false_eq_true, Nat.not_lt_zero, Nat.add_zero, Nat.zero_add, Nat.mul_zero, Nat.reduceMul, Nat.reduceAdd, Nat.reduceSub, Nat.reduceLT, Nat.reduceLeDiff, Nat.reduceEqDiff, Nat.reduceDiv, Nat.reduceBEq, Nat.reduceBNe, false_or, or_false, true_or, or_true, and_true, true_and, false_and, and_false, not_false_eq_true, not_true_eq_false, if_true, if_false, if_pos, if_neg, Option.bind_some, ite_false, ite_true, eq_self, reduceIte]
    rw [hq, a1, Option.bind_some]
theorem c_dec {σ : Mem} {o L v : Nat} {l : List Nat} (hv : v < 10000) (h : TC σ o L l) (hl : l.length + (dec v).length ≤ L) : ∃ ρ, fX8_addDecimal o (ι v) σ = some ρ ∧ TC ρ o L (l ++ dec v) ∧ frT o σ ρ := by
  unfold dec at *
  simp only [List.length_append] at hl
  obtain ⟨ρ1, a1, a2, a3⟩ := ad_step (n := 4091 + 1 + 1 + 1 + 1) (u := 1000) (by omega) (by omega) hv h (by omega)
  obtain ⟨ρ2, b1, b2, b3⟩ := ad_step (n := 4091 + 1 + 1 + 1) (u := 100) (by omega) (by omega) hv a2 (by rw [List.length_append]; omega)
  obtain ⟨ρ3, c1, c2, c3⟩ := ad_step (n := 4091 + 1 + 1) (u := 10) (by omega) (by omega) hv b2 (by rw [List.length_append, List.length_append]; omega)
  obtain ⟨ρ4, e1, e2, e3⟩ := ad_step (n := 4091 + 1) (u := 1) (by omega) (by omega) hv c2 (by rw [List.length_append, List.length_append, List.length_append]; omega)
  have a1 : fX8_addDecimal_l4 o (ι v) (4091 + 1 + 1 + 1 + 1 + 1) (1000 : Int32) σ = fX8_addDecimal_l4 o (ι v) (4091 + 1 + 1 + 1 + 1) (ι 100) ρ1 := a1
  have b1 : fX8_addDecimal_l4 o (ι v) (4091 + 1 + 1 + 1 + 1) (ι 100) ρ1 = fX8_addDecimal_l4 o (ι v) (4091 + 1 + 1 + 1) (ι 10) ρ2 := b1
  have c1 : fX8_addDecimal_l4 o (ι v) (4091 + 1 + 1 + 1) (ι 10) ρ2 = fX8_addDecimal_l4 o (ι v) (4091 + 1 + 1) (ι 1) ρ3 := c1
  have e1 : fX8_addDecimal_l4 o (ι v) (4091 + 1 + 1) (ι 1) ρ3 = fX8_addDecimal_l4 o (ι v) (4091 + 1) (ι 0) ρ4 := e1
  refine ⟨ρ4, ?_, ?_, frT_trans a3 (frT_trans b3 (frT_trans c3 e3))⟩
  · unfold fX8_addDecimal
    rw [show FU = 4091 + 1 + 1 + 1 + 1 + 1 from rfl, a1, b1, c1, e1, fX8_addDecimal_l4, if_pos (by decide), Option.bind_some]
  · rw [← List.append_assoc, ← List.append_assoc, ← List.append_assoc]; exact e2
def wk (v : Nat) : Nat → List Nat
  | 0 => [48 + v / 1 % 10]
  | k + 1 => (48 + v / 10 ^ (k + 1) % 10) :: wk v k
theorem r_l20 {v : Nat} (hv : v < 10000) : ∀ k n (τ : Mem) l, k ≤ 3 → k + 2 ≤ n → TR τ l → l.length + (k + 1) ≤ 400 → ∃ z υ, fX12_writesNumber_l20 (ι v) n (ι (10 ^ k)) τ = some (z, υ) ∧ TR υ (l ++ wk v k) ∧ frW τ υ := by
  have st : ∀ (u n : Nat) (τ : Mem) l, 1 ≤ u → u ≤ 1000 → TR τ l → l.length + 1 ≤ 400 → ∃ υ, fX12_writesNumber_l20 (ι v) (n + 1) (ι u) τ = fX12_writesNumber_l20 (ι v) n (ι (u / 10)) υ ∧ TR υ (l ++ [48 + v / u % 10]) ∧ frW τ υ := by
    intro u n τ l hu hu' h hl
    obtain ⟨υ, a1, a2, a3⟩ := r_w (c := 48 + v / u % 10) h (by omega) (by omega)
    refine ⟨υ, ?_, a2, a3⟩
    have hd : v / u < 2147483648 := Nat.lt_of_le_of_lt (Nat.div_le_self _ _) (by omega)
    have hq : 48 + (v / u - v / u / 10 * 10) = 48 + v / u % 10 := by omega
    rw [fX12_writesNumber_l20]
    simp (disch := omega) only [l_0, l_1, l_2, l_3, l_4, l_5, l_6, l_7, l_8, l_9, l_10, l_12, l_13, l_24, l_31, l_32, l_40, l_41, l_42, l_44, l_45, l_48, l_49, l_50, l_57, l_59, l_60, l_65, l_88, l_89, l_97, l_98, l_99, l_100, l_105, l_108, l_109, l_114, l_118, l_120, l_122, l_144, l_255, l_269, l_279, l_339, l_400, l_600, l_999, l_1000, l_2373, l_2712, ι_lt, ι_le, ι_eq, ι_add, ι_mul, ι_sub, ι_div, ι_n, ι_m1, m1_ι, m1_lt, m1_le, lt_m1, le_m1, m1_lt_m1, m1_le_m1, m1_add1, neg_ι1, ι_addm, ι_addn, Bool.false_eq_true, Nat.not_lt_zero, Nat.add_zero, Nat.zero_add, Nat.mul_zero, Nat.reduceMul, Nat.reduceAdd, Nat.reduceSub, Nat.reduceLT, Nat.reduceLeDiff, Nat.reduceEqDiff, Nat.reduceDiv, Nat.reduceBEq, Nat.reduceBNe, false_or, or_false, true_or, or_true, and_true, true_and, false_and, and_false, not_false_eq_true, not_true_eq_false, if_true, if_false, if_pos, if_neg, Option.bind_some, ite_false, ite_true, eq_self, reduceIte]
    rw [hq, a1, Option.bind_some]
  intro k
  induction k with
  | zero =>
    intro n τ l hk hn h hl
    obtain ⟨n, rfl⟩ : ∃ k, n = k + 1 + 1 := ⟨n - 2, by omega⟩
    obtain ⟨υ, a1, a2, a3⟩ := st 1 (n + 1) τ l (by omega) (by omega) h (by omega)
    have a1 : fX12_writesNumber_l20 (ι v) (n + 1 + 1) (ι (10 ^ 0)) τ = fX12_writesNumber_l20 (ι v) (n + 1) (ι 0) υ := a1
    refine ⟨ι 0, υ, ?_, a2, a3⟩
    rw [a1, fX12_writesNumber_l20, if_pos (by decide)]
  | succ k ih =>
    intro n τ l hk hn h hl
    obtain ⟨n, rfl⟩ : ∃ k, n = k + 1 := ⟨n - 1, by omega⟩
    have p0 : 1 ≤ 10 ^ (k + 1) := Nat.pos_of_ne_zero (by simp)
    have p1 : 10 ^ (k + 1) ≤ 1000 := by
      have : 10 ^ (k + 1) ≤ 10 ^ 3 := Nat.pow_le_pow_right (by omega) (by omega)
      exact this
    obtain ⟨τ1, a1, a2, a3⟩ := st (10 ^ (k + 1)) n τ l p0 p1 h (by omega)
    have e : 10 ^ (k + 1) / 10 = 10 ^ k := by rw [Nat.pow_succ, Nat.mul_div_cancel _ (by omega)]
    rw [e] at a1
    obtain ⟨z, υ, b1, b2, b3⟩ := ih n τ1 _ (by omega) (by omega) a2 (by rw [len1]; omega)
    refine ⟨z, υ, a1.trans b1, ?_, frW_trans a3 b3⟩
    rw [List.append_assoc] at b2; exact b2
theorem r_by {v : Nat} (hv : v < 10000) (τ : Mem) : fX12_writesNumber_l2 (ι v) FU (1 : Int32) τ = some (ι (if v < 10 then 10 ^ 0 else if v < 100 then 10 ^ 1 else if v < 1000 then 10 ^ 2 else 10 ^ 3)) := by
  have s : ∀ n u, 1 ≤ u → u ≤ 1000 → fX12_writesNumber_l2 (ι v) (n + 1) (ι u) τ = if v / u < 10 then some (ι u) else fX12_writesNumber_l2 (ι v) n (ι (u * 10)) τ := by
    intro n u h1 h2
    have hd : v / u < 2147483648 := Nat.lt_of_le_of_lt (Nat.div_le_self _ _) (by omega)
    rw [fX12_writesNumber_l2]
    simp (disch := omega) only [l_0, l_1, l_2, l_3, l_4, l_5, l_6, l_7, l_8, l_9, l_10, l_12, l_13, l_24, l_31, l_32, l_40, l_41, l_42, l_44, l_45, l_48, l_49, l_50, l_57, l_59, l_60, l_65, l_88, l_89, l_97, l_98, l_99, l_100, l_105, l_108, l_109, l_114, l_118, l_120, l_122, l_144, l_255, l_269, l_279, l_339, l_400, l_600, l_999, l_1000, l_2373, l_2712, ι_lt, ι_le, ι_eq, ι_add, ι_mul, ι_sub, ι_div, ι_n, ι_m1, m1_ι, m1_lt, m1_le, lt_m1, le_m1, m1_lt_m1, m1_le_m1, m1_add1, neg_ι1, ι_addm, ι_addn, Bool.false_eq_true, Nat.not_lt_zero, Nat.add_zero, Nat.zero_add, Nat.mul_zero, Nat.reduceMul, Nat.reduceAdd, Nat.reduceSub, Nat.reduceLT, Nat.reduceLeDiff, Nat.reduceEqDiff, Nat.reduceDiv, Nat.reduceBEq, Nat.reduceBNe, false_or, or_false, true_or, or_true, and_true, true_and, false_and, and_false, not_false_eq_true, not_true_eq_false, if_true, if_false, if_pos, if_neg, Option.bind_some, ite_false, ite_true, eq_self, reduceIte]
  have s1 := s (4091 + 1 + 1 + 1 + 1) 1 (by omega) (by omega)
  have s2 := s (4091 + 1 + 1 + 1) 10 (by omega) (by omega)
  have s3 := s (4091 + 1 + 1) 100 (by omega) (by omega)
  have s4 := s (4091 + 1) 1000 (by omega) (by omega)
  rw [show FU = 4091 + 1 + 1 + 1 + 1 + 1 from rfl, l_1, s1]
  by_cases h1 : v < 10
  · rw [if_pos (by omega), if_pos h1]
  · rw [if_neg (by omega), if_neg h1]
    refine Eq.trans s2 ?_
    by_cases h2 : v < 100
    · rw [if_pos (by omega), if_pos h2]
    · rw [if_neg (by omega), if_neg h2]
      refine Eq.trans s3 ?_
      by_cases h3 : v < 1000
      · rw [if_pos (by omega), if_pos h3]
      · rw [if_neg (by omega), if_neg h3]
        refine Eq.trans s4 ?_
        rw [if_pos (by omega)]
theorem r_dec {τ : Mem} {v : Nat} {l : List Nat} (h1v : 1 ≤ v) (hv : v < 10000) (h : TR τ l) (hl : l.length + (dec v).length ≤ 400) : ∃ υ, fX12_writesNumber (ι v) τ = some υ ∧ TR υ (l ++ dec v) ∧ frW τ υ := by
  have key : ∀ k, k ≤ 3 → dec v = wk v k → fX12_writesNumber_l2 (ι v) FU (1 : Int32) τ = some (ι (10 ^ k)) → ∃ υ, fX12_writesNumber (ι v) τ = some υ ∧ TR υ (l ++ dec v) ∧ frW τ υ := by
    intro k hk e hb
    have hlen : ∀ k, (wk v k).length = k + 1 := fun k => by
      induction k with
      | zero => rfl
      | succ k ih => show (wk v k).length + 1 = _; rw [ih]
    rw [e, hlen k] at hl
    obtain ⟨z, υ, a1, a2, a3⟩ := r_l20 hv k FU τ l hk (by unfold FU; omega) h hl
    refine ⟨υ, ?_, by rw [e]; exact a2, a3⟩
    unfold fX12_writesNumber
    rw [hb, Option.bind_some, a1, Option.bind_some]
  have hb := r_by hv τ
  by_cases h1 : v < 10
  · rw [if_pos h1] at hb
    refine key 0 (by omega) ?_ hb
    unfold dec dgt
    rw [if_pos (by omega), if_pos (by omega), if_pos (by omega), if_neg (by omega)]; rfl
  · rw [if_neg h1] at hb
    by_cases h2 : v < 100
    · rw [if_pos h2] at hb
      refine key 1 (by omega) ?_ hb
      unfold dec dgt
      rw [if_pos (by omega), if_pos (by omega), if_neg (by omega), if_neg (by omega)]; rfl
    · rw [if_neg h2] at hb
      by_cases h3 : v < 1000
      · rw [if_pos h3] at hb
        refine key 2 (by omega) ?_ hb
        unfold dec dgt
        rw [if_pos (by omega), if_neg (by omega), if_neg (by omega), if_neg (by omega)]; rfl
      · rw [if_neg h3] at hb
        refine key 3 (by omega) ?_ hb
        unfold dec dgt
        rw [if_neg (by omega), if_neg (by omega), if_neg (by omega), if_neg (by omega)]; rfl
def rp (w : List Nat) : Nat → List Nat
  | 0 => []
  | q + 1 => w ++ rp w q
theorem rp1_len (a : Nat) : ∀ q, (rp [a] q).length = q
  | 0 => rfl
  | q + 1 => by show (rp [a] q).length + 1 = _; rw [rp1_len a q]
def rd (g a b c : Nat) : List Nat := if g = 9 then [a, c] else if g = 4 then [a, b] else if g < 5 then rp [a] (g % 5) else b :: rp [a] (g % 5)
def romC (v : Nat) : List Nat := rp [109] (v / 1000) ++ (rd (v / 100 % 10) 99 100 109 ++ (rd (v / 10 % 10) 120 108 99 ++ rd (v % 10) 105 118 120))
theorem c_l51 {o L g a : Nat} (hg : g < 10) : ∀ m n i (σ : Mem) l, i + m = g % 5 → m < n → TC σ o L l → l.length + m ≤ L → ∃ z ρ, fX8_addRomanDigit_l51 o (ι g) (ι a) n (ι i) σ = some (z, ρ) ∧ TC ρ o L (l ++ rp [a] m) ∧ frT o σ ρ := by
  have hq : g - g / 5 * 5 = g % 5 := by omega
  intro m
  induction m with
  | zero =>
    intro n i σ l h hn ht hl
    obtain ⟨n, rfl⟩ : ∃ k, n = k + 1 := ⟨n - 1, by omega⟩
    rw [fX8_addRomanDigit_l51]
    simp (disch := omega) only [l_0, l_1, l_2, l_3, l_4, l_5, l_6, l_7, l_8, l_9, l_10, l_12, l_13, l_24, l_31, l_32, l_40, l_41, l_42, l_44, l_45, l_48, l_49, l_50, l_57, l_59, l_60, l_65, l_88, l_89, l_97, l_98, l_99, l_100, l_105, l_108, l_109, l_114, l_118, l_120, l_122, l_144, l_255, l_269, l_279, l_339, l_400, l_600, l_999, l_1000, l_2373, l_2712, ι_lt, ι_le, ι_eq, ι_add, ι_mul, ι_sub, ι_div, ι_n, ι_m1, m1_ι, m1_lt, m1_le, lt_m1, le_m1, m1_lt_m1, m1_le_m1, m1_add1, neg_ι1, ι_addm, ι_addn, Bool.false_eq_true, Nat.not_lt_zero, Nat.add_zero, Nat.zero_add, Nat.mul_zero, Nat.reduceMul, Nat.reduceAdd, Nat.reduceSub, Nat.reduceLT, Nat.reduceLeDiff, Nat.reduceEqDiff, Nat.reduceDiv, Nat.reduceBEq, Nat.reduceBNe, false_or, or_false, true_or, or_true, and_true, true_and, false_and, and_false, not_false_eq_true, not_true_eq_false, if_true, if_false, if_pos, if_neg, Option.bind_some, ite_false, ite_true, eq_self, reduceIte, hq]
    exact ⟨_, _, rfl, by rw [rp, List.append_nil]; exact ht, frT_refl _ _⟩
  | succ m ih =>
    intro n i σ l h hn ht hl
    obtain ⟨n, rfl⟩ : ∃ k, n = k + 1 := ⟨n - 1, by omega⟩
    rw [fX8_addRomanDigit_l51]
    obtain ⟨σ1, a1, a2, a3⟩ := c_w (c := a) ht (by omega)
    obtain ⟨z, ρ, b1, b2, b3⟩ := ih n (i + 1) σ1 _ (by omega) (by omega) a2 (by rw [len1]; omega)
    refine ⟨z, ρ, ?_, ?_, frT_trans a3 b3⟩
    · simp (disch := omega) only [l_0, l_1, l_2, l_3, l_4, l_5, l_6, l_7, l_8, l_9, l_10, l_12, l_13, l_24, l_31, l_32, l_40, l_41, l_42, l_44, l_45, l_48, l_49, l_50, l_57, l_59, l_60, l_65, l_88, l_89, l_97, l_98, l_99, l_100, l_105, l_108, l_109, l_114, l_118, l_120, l_122, l_144, l_255, l_269, l_279, l_339, l_400, l_600, l_999, l_1000, l_2373, l_2712, ι_lt, ι_le, ι_eq, ι_add, ι_mul, ι_sub, ι_div, ι_n, ι_m1, m1_ι, m1_lt, m1_le, lt_m1, le_m1, m1_lt_m1, m1_le_m1, m1_add1, neg_ι1, ι_addm, ι_addn, Bool.false_eq_true, Nat.not_lt_zero, Nat.add_zero, Nat.zero_add, Nat.mul_zero, Nat.reduceMul, Nat.reduceAdd, Nat.reduceSub, Nat.reduceLT, Nat.reduceLeDiff, Nat.reduceEqDiff, Nat.reduceDiv, Nat.reduceBEq, Nat.reduceBNe, false_or, or_false, true_or, or_true, and_true, true_and, false_and, and_false, not_false_eq_true, not_true_eq_false, if_true, if_false, if_pos, if_neg, Option.bind_some, ite_false, ite_true, eq_self, reduceIte, hq, a1]
      exact b1
    · rw [List.append_assoc] at b2; exact b2
theorem c_rd {σ : Mem} {o L g a b c : Nat} {l : List Nat} (hg : g < 10) (h : TC σ o L l) (hl : l.length + (rd g a b c).length ≤ L) : ∃ ρ, fX8_addRomanDigit o (ι g) (ι a) (ι b) (ι c) σ = some ρ ∧ TC ρ o L (l ++ rd g a b c) ∧ frT o σ ρ := by
  unfold fX8_addRomanDigit
  unfold rd at *
  by_cases h9 : g = 9
  · rw [if_pos h9] at hl ⊢
    have hl : l.length + 2 ≤ L := hl
    obtain ⟨σ1, a1, a2, a3⟩ := c_w (c := a) h (by omega)
    obtain ⟨σ2, b1, b2, b3⟩ := c_w (c := c) a2 (by rw [len1]; omega)
    refine ⟨σ2, ?_, by rw [List.append_assoc] at b2; exact b2, frT_trans a3 b3⟩
    rw [if_pos (by rw [h9]; rfl), a1, Option.bind_some, b1, Option.bind_some]
  · rw [if_neg h9] at hl ⊢
    rw [if_neg (by rw [l_9, ι_eq (by omega) (by omega)]; exact h9)]
    by_cases h4 : g = 4
    · rw [if_pos h4] at hl ⊢
      have hl : l.length + 2 ≤ L := hl
      obtain ⟨σ1, a1, a2, a3⟩ := c_w (c := a) h (by omega)
      obtain ⟨σ2, b1, b2, b3⟩ := c_w (c := b) a2 (by rw [len1]; omega)
      refine ⟨σ2, ?_, by rw [List.append_assoc] at b2; exact b2, frT_trans a3 b3⟩
      rw [if_pos (by rw [h4]; rfl), a1, Option.bind_some, b1, Option.bind_some]
    · rw [if_neg h4] at hl ⊢
      rw [if_neg (by rw [l_4, ι_eq (by omega) (by omega)]; exact h4)]
      by_cases h5 : g < 5
      · rw [if_pos h5] at hl ⊢
        rw [rp1_len] at hl
        rw [if_pos (by rw [l_5, ι_lt (by omega) (by omega)]; exact h5)]
        obtain ⟨z, ρ, a1, a2, a3⟩ := c_l51 (a := a) hg (g % 5) FU 0 σ l (by omega) (by unfold FU; omega) h hl
        have a1 : fX8_addRomanDigit_l51 o (ι g) (ι a) FU (0 : Int32) σ = some (z, ρ) := a1
        exact ⟨ρ, by rw [a1, Option.bind_some], a2, a3⟩
      · rw [if_neg h5] at hl ⊢
        rw [List.length_cons, rp1_len] at hl
        rw [if_neg (by rw [l_5, ι_lt (by omega) (by omega)]; exact h5)]
        obtain ⟨σ1, b1, b2, b3⟩ := c_w (c := b) h (by omega)
        obtain ⟨z, ρ, a1, a2, a3⟩ := c_l51 (a := a) hg (g % 5) FU 0 σ1 _ (by omega) (by unfold FU; omega) b2 (by rw [len1]; omega)
        have a1 : fX8_addRomanDigit_l51 o (ι g) (ι a) FU (0 : Int32) σ1 = some (z, ρ) := a1
        refine ⟨ρ, by rw [b1, Option.bind_some, a1, Option.bind_some], by rw [List.append_assoc] at a2; exact a2, frT_trans b3 a3⟩
theorem c_rl2 {o L v : Nat} (hv : v < 10000) : ∀ m n i (σ : Mem) l, i + m = v / 1000 → m < n → TC σ o L l → l.length + m ≤ L → ∃ z ρ, fX8_addRoman_l2 o (ι v) n (ι i) σ = some (z, ρ) ∧ TC ρ o L (l ++ rp [109] m) ∧ frT o σ ρ := by
  intro m
  induction m with
  | zero =>
    intro n i σ l h hn ht hl
    obtain ⟨n, rfl⟩ : ∃ k, n = k + 1 := ⟨n - 1, by omega⟩
    rw [fX8_addRoman_l2]
    simp (disch := omega) only [l_0, l_1, l_2, l_3, l_4, l_5, l_6, l_7, l_8, l_9, l_10, l_12, l_13, l_24, l_31, l_32, l_40, l_41, l_42, l_44, l_45, l_48, l_49, l_50, l_57, l_59, l_60, l_65, l_88, l_89, l_97, l_98, l_99, l_100, l_105, l_108, l_109, l_114, l_118, l_120, l_122, l_144, l_255, l_269, l_279, l_339, l_400, l_600, l_999, l_1000, l_2373, l_2712, ι_lt, ι_le, ι_eq, ι_add, ι_mul, ι_sub, ι_div, ι_n, ι_m1, m1_ι, m1_lt, m1_le, lt_m1, le_m1, m1_lt_m1, m1_le_m1, m1_add1, neg_ι1, ι_addm, ι_addn, Bool.false_eq_true, Nat.not_lt_zero, Nat.add_zero, Nat.zero_add, Nat.mul_zero, Nat.reduceMul, Nat.reduceAdd, Nat.reduceSub, Nat.reduceLT, Nat.reduceLeDiff, Nat.reduceEqDiff, Nat.reduceDiv, Nat.reduceBEq, Nat.reduceBNe, false_or, or_false, true_or, or_true, and_true, true_and, false_and, and_false, not_false_eq_true, not_true_eq_false, if_true, if_false, if_pos, if_neg, Option.bind_some, ite_false, ite_true, eq_self, reduceIte]
    exact ⟨_, _, rfl, by rw [rp, List.append_nil]; exact ht, frT_refl _ _⟩
  | succ m ih =>
    intro n i σ l h hn ht hl
    obtain ⟨n, rfl⟩ : ∃ k, n = k + 1 := ⟨n - 1, by omega⟩
    rw [fX8_addRoman_l2]
    obtain ⟨σ1, a1, a2, a3⟩ := c_w (c := 109) ht (by omega)
    obtain ⟨z, ρ, b1, b2, b3⟩ := ih n (i + 1) σ1 _ (by omega) (by omega) a2 (by rw [len1]; omega)
    refine ⟨z, ρ, ?_, ?_, frT_trans a3 b3⟩
    · simp (disch := omega) only [l_0, l_1, l_2, l_3, l_4, l_5, l_6, l_7, l_8, l_9, l_10, l_12, l_13, l_24, l_31, l_32, l_40, l_41, l_42, l_44, l_45, l_48, l_49, l_50, l_57, l_59, l_60, l_65, l_88, l_89, l_97, l_98, l_99, l_100, l_105, l_108, l_109, l_114, l_118, l_120, l_122, l_144, l_255, l_269, l_279, l_339, l_400, l_600, l_999, l_1000, l_2373, l_2712, ι_lt, ι_le, ι_eq, ι_add, ι_mul, ι_sub, ι_div, ι_n, ι_m1, m1_ι, m1_lt, m1_le, lt_m1, le_m1, m1_lt_m1, m1_le_m1, m1_add1, neg_ι1, ι_addm, ι_addn, Bool.false_eq_true, Nat.not_lt_zero, Nat.add_zero, Nat.zero_add, Nat.mul_zero, Nat.reduceMul, Nat.reduceAdd, Nat.reduceSub, Nat.reduceLT, Nat.reduceLeDiff, Nat.reduceEqDiff, Nat.reduceDiv, Nat.reduceBEq, Nat.reduceBNe, false_or, or_false, true_or, or_true, and_true, true_and, false_and, and_false, not_false_eq_true, not_true_eq_false, if_true, if_false, if_pos, if_neg, Option.bind_some, ite_false, ite_true, eq_self, reduceIte, a1]
      exact b1
    · rw [List.append_assoc] at b2; exact b2
theorem c_rom {σ : Mem} {o L v : Nat} {l : List Nat} (hv : v < 10000) (h : TC σ o L l) (hl : l.length + (romC v).length ≤ L) : ∃ ρ, fX8_addRoman o (ι v) σ = some ρ ∧ TC ρ o L (l ++ romC v) ∧ frT o σ ρ := by
  unfold romC at *
  simp only [List.length_append, rp1_len] at hl
  obtain ⟨z, ρ1, a1, a2, a3⟩ := c_rl2 hv (v / 1000) FU 0 σ l (by omega) (by unfold FU; omega) h (by omega)
  obtain ⟨ρ2, b1, b2, b3⟩ := c_rd (g := v / 100 % 10) (a := 99) (b := 100) (c := 109) (by omega) a2 (by rw [List.length_append, rp1_len]; omega)
  obtain ⟨ρ3, c1, c2, c3⟩ := c_rd (g := v / 10 % 10) (a := 120) (b := 108) (c := 99) (by omega) b2 (by rw [List.length_append, List.length_append, rp1_len]; omega)
  obtain ⟨ρ4, e1, e2, e3⟩ := c_rd (g := v % 10) (a := 105) (b := 118) (c := 120) (by omega) c2 (by rw [List.length_append, List.length_append, List.length_append, rp1_len]; omega)
  have a1 : fX8_addRoman_l2 o (ι v) FU (0 : Int32) σ = some (z, ρ1) := a1
  have g1 : (ι v / (100 : Int32)) - (ι v / (100 : Int32)) / (10 : Int32) * (10 : Int32) = ι (v / 100 % 10) := by
    simp (disch := omega) only [l_0, l_1, l_2, l_3, l_4, l_5, l_6, l_7, l_8, l_9, l_10, l_12, l_13, l_24, l_31, l_32, l_40, l_41, l_42, l_44, l_45, l_48, l_49, l_50, l_57, l_59, l_60, l_65, l_88, l_89, l_97, l_98, l_99, l_100, l_105, l_108, l_109, l_114, l_118, l_120, l_122, l_144, l_255, l_269, l_279, l_339, l_400, l_600, l_999, l_1000, l_2373, l_2712, ι_lt, ι_le, ι_eq, ι_add, ι_mul, ι_sub, ι_div, ι_n, ι_m1, m1_ι, m1_lt, m1_le, lt_m1, le_m1, m1_lt_m1, m1_le_m1, m1_add1, neg_ι1, ι_addm, ι_addn, Bool.false_eq_true, Nat.not_lt_zero, Nat.add_zero, Nat.zero_add, Nat.mul_zero, Nat.reduceMul, Nat.reduceAdd, Nat.reduceSub, Nat.reduceLT, Nat.reduceLeDiff, Nat.reduceEqDiff, Nat.reduceDiv, Nat.reduceBEq, Nat.reduceBNe, false_or, or_false, true_or, or_true, and_true, true_and, false_and, and_false, not_false_eq_true, not_true_eq_false, if_true, if_false, if_pos, if_neg, Option.bind_some, ite_false, ite_true, eq_self, reduceIte]
    congr 1; omega
  have g2 : (ι v / (10 : Int32)) - (ι v / (10 : Int32)) / (10 : Int32) * (10 : Int32) = ι (v / 10 % 10) := by
    simp (disch := omega) only [l_0, l_1, l_2, l_3, l_4, l_5, l_6, l_7, l_8, l_9, l_10, l_12, l_13, l_24, l_31, l_32, l_40, l_41, l_42, l_44, l_45, l_48, l_49, l_50, l_57, l_59, l_60, l_65, l_88, l_89, l_97, l_98, l_99, l_100, l_105, l_108, l_109, l_114, l_118, l_120, l_122, l_144, l_255, l_269, l_279, l_339, l_400, l_600, l_999, l_1000, l_2373, l_2712, ι_lt, ι_le, ι_eq, ι_add, ι_mul, ι_sub, ι_div, ι_n, ι_m1, m1_ι, m1_lt, m1_le, lt_m1, le_m1, m1_lt_m1, m1_le_m1, m1_add1, neg_ι1, ι_addm, ι_addn, Bool.false_eq_true, Nat.not_lt_zero, Nat.add_zero, Nat.zero_add, Nat.mul_zero, Nat.reduceMul, Nat.reduceAdd, Nat.reduceSub, Nat.reduceLT, Nat.reduceLeDiff, Nat.reduceEqDiff, Nat.reduceDiv, Nat.reduceBEq, Nat.reduceBNe, false_or, or_false, true_or, or_true, and_true, true_and, false_and, and_false, not_false_eq_true, not_true_eq_false, if_true, if_false, if_pos, if_neg, Option.bind_some, ite_false, ite_true, eq_self, reduceIte]
    congr 1; omega
  have g3 : ι v - ι v / (10 : Int32) * (10 : Int32) = ι (v % 10) := by
    simp (disch := omega) only [l_0, l_1, l_2, l_3, l_4, l_5, l_6, l_7, l_8, l_9, l_10, l_12, l_13, l_24, l_31, l_32, l_40, l_41, l_42, l_44, l_45, l_48, l_49, l_50, l_57, l_59, l_60, l_65, l_88, l_89, l_97, l_98, l_99, l_100, l_105, l_108, l_109, l_114, l_118, l_120, l_122, l_144, l_255, l_269, l_279, l_339, l_400, l_600, l_999, l_1000, l_2373, l_2712, ι_lt, ι_le, ι_eq, ι_add, ι_mul, ι_sub, ι_div, ι_n, ι_m1, m1_ι, m1_lt, m1_le, lt_m1, le_m1, m1_lt_m1, m1_le_m1, m1_add1, neg_ι1, ι_addm, ι_addn, Bool.false_eq_true, Nat.not_lt_zero, Nat.add_zero, Nat.zero_add, Nat.mul_zero, Nat.reduceMul, Nat.reduceAdd, Nat.reduceSub, Nat.reduceLT, Nat.reduceLeDiff, Nat.reduceEqDiff, Nat.reduceDiv, Nat.reduceBEq, Nat.reduceBNe, false_or, or_false, true_or, or_true, and_true, true_and, false_and, and_false, not_false_eq_true, not_true_eq_false, if_true, if_false, if_pos, if_neg, Option.bind_some, ite_false, ite_true, eq_self, reduceIte]
    congr 1; omega
  refine ⟨ρ4, ?_, ?_, frT_trans a3 (frT_trans b3 (frT_trans c3 e3))⟩
  · unfold fX8_addRoman
    rw [a1, Option.bind_some, g1, g2, g3]
    have b1 : fX8_addRomanDigit o (ι (v / 100 % 10)) (99 : Int32) (100 : Int32) (109 : Int32) ρ1 = some ρ2 := b1
    have c1 : fX8_addRomanDigit o (ι (v / 10 % 10)) (120 : Int32) (108 : Int32) (99 : Int32) ρ2 = some ρ3 := c1
    have e1 : fX8_addRomanDigit o (ι (v % 10)) (105 : Int32) (118 : Int32) (120 : Int32) ρ3 = some ρ4 := e1
    rw [b1, Option.bind_some, c1, Option.bind_some, e1, Option.bind_some]
  · rw [← List.append_assoc, ← List.append_assoc, ← List.append_assoc]; exact e2

/-! PURE PART: labels -/
def romA (k : Nat) : Nat := [109, 99, 100, 99, 99, 120, 108, 120, 120, 105, 118, 105, 105].getD k 0
def romB (k : Nat) : Nat := [32, 109, 32, 100, 32, 99, 32, 108, 32, 120, 32, 118, 32].getD k 0
def romV (k : Nat) : Nat := romL.getD k 0
def romW (k : Nat) : List Nat := if romB k = 32 then [romA k] else [romA k, romB k]
theorem rom_tab : ∀ k, k < 13 → (bytL.getD 20 []).getD (2 * k) 0 = ι (romA k) ∧ (bytL.getD 20 []).getD (2 * k + 1) 0 = ι (romB k) ∧ romA k < 128 ∧ romB k < 128 ∧ 1 ≤ romV k ∧ romV k ≤ 1000 := by decide +kernel
theorem rom_len : (bytL.getD 20 []).length = 26 := by decide +kernel
def gA (k : Nat) : Nat → Nat → List Nat
  | 0, _ => []
  | m + 1, left => rp (romW k) (left / romV k) ++ gA (k + 1) m (left % romV k)
theorem rom_eq : ∀ v, v < 1200 → gA 0 13 v = romC v ∧ (romC v).length ≤ 12 := by decide +kernel
theorem r_l15 {k : Nat} (hk : k < 13) : ∀ q n r (τ : Mem) l, r < romV k → q < n → q * romV k + r < 10000 → Ro τ → TR τ l → l.length + (rp (romW k) q).length ≤ 400 → ∃ υ, fX12_writesRoman_l15 20 (ι k) n (ι (q * romV k + r)) τ = some (ι r, υ) ∧ TR υ (l ++ rp (romW k) q) ∧ frW τ υ := by
  obtain ⟨t1, t2, t3, t4, t5, t6⟩ := rom_tab k hk
  intro q
  induction q with
  | zero =>
    intro n r τ l hr hn hx hro ht hl
    obtain ⟨n, rfl⟩ : ∃ k, n = k + 1 := ⟨n - 1, by omega⟩
    have e : τ 11 k = ι (romV k) := hro k hk
    refine ⟨τ, ?_, by rw [rp, List.append_nil]; exact ht, frW_refl _⟩
    rw [Nat.zero_mul, Nat.zero_add, fX12_writesRoman_l15]
    simp (disch := omega) only [l_0, l_1, l_2, l_3, l_4, l_5, l_6, l_7, l_8, l_9, l_10, l_12, l_13, l_24, l_31, l_32, l_40, l_41, l_42, l_44, l_45, l_48, l_49, l_50, l_57, l_59, l_60, l_65, l_88, l_89, l_97, l_98, l_99, l_100, l_105, l_108, l_109, l_114, l_118, l_120, l_122, l_144, l_255, l_269, l_279, l_339, l_400, l_600, l_999, l_1000, l_2373, l_2712, ι_lt, ι_le, ι_eq, ι_add, ι_mul, ι_sub, ι_div, ι_n, ι_m1, m1_ι, m1_lt, m1_le, lt_m1, le_m1, m1_lt_m1, m1_le_m1, m1_add1, neg_ι1, ι_addm, ι_addn, Bool.false_eq_true, Nat.not_lt_zero, Nat.add_zero, Nat.zero_add, Nat.mul_zero, Nat.reduceMul, Nat.reduceAdd, Nat.reduceSub, Nat.reduceLT, Nat.reduceLeDiff, Nat.reduceEqDiff, Nat.reduceDiv, Nat.reduceBEq, Nat.reduceBNe, false_or, or_false, true_or, or_true, and_true, true_and, false_and, and_false, not_false_eq_true, not_true_eq_false, if_true, if_false, if_pos, if_neg, Option.bind_some, ite_false, ite_true, eq_self, reduceIte, lm_0, lm_1, lm_2, lm_3, lm_4, lm_5, lm_6, lm_7, lm_8, lm_9, lm_10, lm_11, lm_12, lm_13, lm_14, lm_15, lm_16, lm_17, e]
  | succ q ih =>
    intro n r τ l hr hn hx hro ht hl
    obtain ⟨n, rfl⟩ : ∃ k, n = k + 1 := ⟨n - 1, by omega⟩
    have e : τ 11 k = ι (romV k) := hro k hk
    have ex : (q + 1) * romV k + r = romV k + (q * romV k + r) := by rw [Nat.succ_mul]; omega
    rw [ex] at hx ⊢
    rw [rp, List.length_append] at hl
    have hw : 1 ≤ (romW k).length := by unfold romW; split <;> simp
    obtain ⟨υ1, a1, a2, a3⟩ := r_w (c := romA k) ht (by omega) t3
    have e1 : υ1 11 k = ι (romV k) := (a3 11 k (by omega)).trans e
    have hd : q * romV k + r < 10000 := by omega
    have st : fX12_writesRoman_l15 20 (ι k) (n + 1) (ι (romV k + (q * romV k + r))) τ = (if ι (romB k) = (32 : Int32) then fX12_writesRoman_l15 20 (ι k) n (ι (q * romV k + r)) υ1 else (fX12_writes (ι (romB k)) υ1).bind fun v64 => if ι k < 0 ∨ lm 11 ≤ (ι k).toNatClampNeg then none else fX12_writesRoman_l15 20 (ι k) n (ι (romV k + (q * romV k + r)) - (v64 11 (ι k).toNatClampNeg)) v64) := by
      have t1' : (bytL.getD 20 []).getD (2 * k) (ι 0) = ι (romA k) := t1
      have t2' : (bytL.getD 20 []).getD (2 * k + 1) (ι 0) = ι (romB k) := t2
      rw [fX12_writesRoman_l15]
      generalize q * romV k + r = x at *
      simp (disch := omega) only [l_0, l_1, l_2, l_3, l_4, l_5, l_6, l_7, l_8, l_9, l_10, l_12, l_13, l_24, l_31, l_32, l_40, l_41, l_42, l_44, l_45, l_48, l_49, l_50, l_57, l_59, l_60, l_65, l_88, l_89, l_97, l_98, l_99, l_100, l_105, l_108, l_109, l_114, l_118, l_120, l_122, l_144, l_255, l_269, l_279, l_339, l_400, l_600, l_999, l_1000, l_2373, l_2712, ι_lt, ι_le, ι_eq, ι_add, ι_mul, ι_sub, ι_div, ι_n, ι_m1, m1_ι, m1_lt, m1_le, lt_m1, le_m1, m1_lt_m1, m1_le_m1, m1_add1, neg_ι1, ι_addm, ι_addn, Bool.false_eq_true, Nat.not_lt_zero, Nat.add_zero, Nat.zero_add, Nat.mul_zero, Nat.reduceMul, Nat.reduceAdd, Nat.reduceSub, Nat.reduceLT, Nat.reduceLeDiff, Nat.reduceEqDiff, Nat.reduceDiv, Nat.reduceBEq, Nat.reduceBNe, false_or, or_false, true_or, or_true, and_true, true_and, false_and, and_false, not_false_eq_true, not_true_eq_false, if_true, if_false, if_pos, if_neg, Option.bind_some, ite_false, ite_true, eq_self, reduceIte, lm_0, lm_1, lm_2, lm_3, lm_4, lm_5, lm_6, lm_7, lm_8, lm_9, lm_10, lm_11, lm_12, lm_13, lm_14, lm_15, lm_16, lm_17, e, rom_len, t1', t2', a1, e1, Nat.add_sub_cancel_left]
    by_cases hb : romB k = 32
    · have hW : romW k = [romA k] := by unfold romW; rw [if_pos hb]
      rw [hW] at hl
      have hl : l.length + (1 + (rp [romA k] q).length) ≤ 400 := hl
      rw [← hW] at hl
      obtain ⟨υ, b1, b2, b3⟩ := ih n r υ1 (l ++ [romA k]) hr (by omega) hd (frW_Ro a3 hro) a2 (by rw [len1]; omega)
      refine ⟨υ, ?_, ?_, frW_trans a3 b3⟩
      · rw [st, if_pos (by rw [hb]; rfl)]; exact b1
      · rw [List.append_assoc] at b2; rw [rp]
        have : [romA k] ++ rp (romW k) q = romW k ++ rp (romW k) q := by rw [hW]
        rw [this] at b2; exact b2
    · have hW : romW k = [romA k, romB k] := by unfold romW; rw [if_neg hb]
      have hl2 : l.length + (2 + (rp (romW k) q).length) ≤ 400 := by
        have : (romW k).length = 2 := by rw [hW]; rfl
        omega
      obtain ⟨υ2, d1, d2, d3⟩ := r_w (c := romB k) a2 (by rw [len1]; omega) t4
      have e2 : υ2 11 k = ι (romV k) := (d3 11 k (by omega)).trans e1
      obtain ⟨υ, b1, b2, b3⟩ := ih n r υ2 _ hr (by omega) hd (frW_Ro d3 (frW_Ro a3 hro)) d2 (by rw [len1, len1]; omega)
      refine ⟨υ, ?_, ?_, frW_trans a3 (frW_trans d3 b3)⟩
      · rw [st, if_neg (by rw [l_32, ι_eq (by omega) (by omega)]; exact hb), d1, Option.bind_some]
        generalize q * romV k + r = x at *
        simp (disch := omega) only [l_0, l_1, l_2, l_3, l_4, l_5, l_6, l_7, l_8, l_9, l_10, l_12, l_13, l_24, l_31, l_32, l_40, l_41, l_42, l_44, l_45, l_48, l_49, l_50, l_57, l_59, l_60, l_65, l_88, l_89, l_97, l_98, l_99, l_100, l_105, l_108, l_109, l_114, l_118, l_120, l_122, l_144, l_255, l_269, l_279, l_339, l_400, l_600, l_999, l_1000, l_2373, l_2712, ι_lt, ι_le, ι_eq, ι_add, ι_mul, ι_sub, ι_div, ι_n, ι_m1, m1_ι, m1_lt, m1_le, lt_m1, le_m1, m1_lt_m1, m1_le_m1, m1_add1, neg_ι1, ι_addm, ι_addn, Bool.false_eq_true, Nat.not_lt_zero, Nat.add_zero, Nat.zero_add, Nat.mul_zero, Nat.reduceMul, Nat.reduceAdd, Nat.reduceSub, Nat.reduceLT, Nat.reduceLeDiff, Nat.reduceEqDiff, Nat.reduceDiv, Nat.reduceBEq, Nat.reduceBNe, false_or, or_false, true_or, or_true, and_true, true_and, false_and, and_false, not_false_eq_true, not_true_eq_false, if_true, if_false, if_pos, if_neg, Option.bind_some, ite_false, ite_true, eq_self, reduceIte, lm_0, lm_1, lm_2, lm_3, lm_4, lm_5, lm_6, lm_7, lm_8, lm_9, lm_10, lm_11, lm_12, lm_13, lm_14, lm_15, lm_16, lm_17, e2, Nat.add_sub_cancel_left]
        exact b1
      · rw [List.append_assoc, List.append_assoc] at b2; rw [rp]
        have : [romA k] ++ ([romB k] ++ rp (romW k) q) = romW k ++ rp (romW k) q := by rw [hW]; rfl
        rw [this] at b2; exact b2
theorem r_l8 : ∀ m n k left (τ : Mem) l, k + m = 13 → m < n → left < 2000 → Ro τ → TR τ l → l.length + (gA k m left).length ≤ 400 → ∃ z z' υ, fX12_writesRoman_l8 20 n (ι left) (ι k) τ = some (z, z', υ) ∧ TR υ (l ++ gA k m left) ∧ frW τ υ := by
  intro m
  induction m with
  | zero =>
    intro n k left τ l h hn hx hro ht hl
    obtain ⟨n, rfl⟩ : ∃ k, n = k + 1 := ⟨n - 1, by omega⟩
    rw [fX12_writesRoman_l8]
    simp (disch := omega) only [l_0, l_1, l_2, l_3, l_4, l_5, l_6, l_7, l_8, l_9, l_10, l_12, l_13, l_24, l_31, l_32, l_40, l_41, l_42, l_44, l_45, l_48, l_49, l_50, l_57, l_59, l_60, l_65, l_88, l_89, l_97, l_98, l_99, l_100, l_105, l_108, l_109, l_114, l_118, l_120, l_122, l_144, l_255, l_269, l_279, l_339, l_400, l_600, l_999, l_1000, l_2373, l_2712, ι_lt, ι_le, ι_eq, ι_add, ι_mul, ι_sub, ι_div, ι_n, ι_m1, m1_ι, m1_lt, m1_le, lt_m1, le_m1, m1_lt_m1, m1_le_m1, m1_add1, neg_ι1, ι_addm, ι_addn, Bool.false_eq_true, Nat.not_lt_zero, Nat.add_zero, Nat.zero_add, Nat.mul_zero, Nat.reduceMul, Nat.reduceAdd, Nat.reduceSub, Nat.reduceLT, Nat.reduceLeDiff, Nat.reduceEqDiff, Nat.reduceDiv, Nat.reduceBEq, Nat.reduceBNe, false_or, or_false, true_or, or_true, and_true, true_and, false_and, and_false, not_false_eq_true, not_true_eq_false, if_true, if_false, if_pos, if_neg, Option.bind_some, ite_false, ite_true, eq_self, reduceIte]
    exact ⟨_, _, _, rfl, by rw [gA, List.append_nil]; exact ht, frW_refl _⟩
  | succ m ih =>
    intro n k left τ l h hn hx hro ht hl
    obtain ⟨n, rfl⟩ : ∃ k, n = k + 1 := ⟨n - 1, by omega⟩
    rw [fX12_writesRoman_l8]
    rw [gA, List.length_append] at hl
    have hk : k < 13 := by omega
    obtain ⟨t1, t2, t3, t4, t5, t6⟩ := rom_tab k hk
    have hm : left % romV k < romV k := Nat.mod_lt _ (by omega)
    have he : left / romV k * romV k + left % romV k = left := Nat.div_add_mod' left (romV k)
    have hq : left / romV k ≤ left := Nat.div_le_self _ _
    obtain ⟨τ1, a1, a2, a3⟩ := r_l15 hk (left / romV k) FU (left % romV k) τ l hm (by unfold FU; omega) (by rw [he]; omega) hro ht (by omega)
    rw [he] at a1
    have hlt : left % romV k < 2000 := Nat.lt_of_le_of_lt (Nat.mod_le _ _) hx
    obtain ⟨z, z', υ, b1, b2, b3⟩ := ih n (k + 1) (left % romV k) τ1 _ (by omega) (by omega) hlt (frW_Ro a3 hro) a2 (by rw [List.length_append]; omega)
    refine ⟨z, z', υ, ?_, ?_, frW_trans a3 b3⟩
    · simp (disch := omega) only [l_0, l_1, l_2, l_3, l_4, l_5, l_6, l_7, l_8, l_9, l_10, l_12, l_13, l_24, l_31, l_32, l_40, l_41, l_42, l_44, l_45, l_48, l_49, l_50, l_57, l_59, l_60, l_65, l_88, l_89, l_97, l_98, l_99, l_100, l_105, l_108, l_109, l_114, l_118, l_120, l_122, l_144, l_255, l_269, l_279, l_339, l_400, l_600, l_999, l_1000, l_2373, l_2712, ι_lt, ι_le, ι_eq, ι_add, ι_mul, ι_sub, ι_div, ι_n, ι_m1, m1_ι, m1_lt, m1_le, lt_m1, le_m1, m1_lt_m1, m1_le_m1, m1_add1, neg_ι1, ι_addm, ι_addn, Bool.false_eq_true, Nat.not_lt_zero, Nat.add_zero, Nat.zero_add, Nat.mul_zero, Nat.reduceMul, Nat.reduceAdd, Nat.reduceSub, Nat.reduceLT, Nat.reduceLeDiff, Nat.reduceEqDiff, Nat.reduceDiv, Nat.reduceBEq, Nat.reduceBNe, false_or, or_false, true_or, or_true, and_true, true_and, false_and, and_false, not_false_eq_true, not_true_eq_false, if_true, if_false, if_pos, if_neg, Option.bind_some, ite_false, ite_true, eq_self, reduceIte, a1]
      exact b1
    · rw [gA, ← List.append_assoc]; exact b2
theorem r_rom {τ : Mem} {v : Nat} {l : List Nat} (hv : v < 1200) (hro : Ro τ) (h : TR τ l) (hl : l.length + (romC v).length ≤ 400) : ∃ υ, fX12_writesRoman (ι v) τ = some υ ∧ TR υ (l ++ romC v) ∧ frW τ υ := by
  obtain ⟨e, -⟩ := rom_eq v hv
  rw [← e] at hl ⊢
  obtain ⟨z, z', υ, a1, a2, a3⟩ := r_l8 13 FU 0 v τ l (by omega) (by unfold FU; omega) (by omega) hro h hl
  have a1 : fX12_writesRoman_l8 20 FU (ι v) (0 : Int32) τ = some (z, z', υ) := a1
  refine ⟨υ, ?_, a2, a3⟩
  unfold fX12_writesRoman
  rw [a1, Option.bind_some]
def rgF (F : Nat → Int32) (x : Nat) : Nat → Option Nat
  | 0 => none
  | r + 1 => if nn (F (41 + 4 * r)) ≤ x ∧ x ≤ nn (F (41 + 4 * r + 1)) then some r else rgF F x r
theorem rgF_lt {F : Nat → Int32} {x : Nat} : ∀ b r, rgF F x b = some r → r < b ∧ nn (F (41 + 4 * r)) ≤ x
  | 0, r, h => by simp [rgF] at h
  | b + 1, r, h => by
    rw [rgF] at h
    by_cases hc : nn (F (41 + 4 * b)) ≤ x ∧ x ≤ nn (F (41 + 4 * b + 1))
    · rw [if_pos hc] at h; cases h; exact ⟨by omega, hc.1⟩
    · rw [if_neg hc] at h
      have := rgF_lt b r h
      exact ⟨by omega, this.2⟩
theorem c_rg {σ : Mem} {n b x : Nat} {F : Nat → Int32} (hn : n ≤ 60) (hb : b ≤ 12) (hL : LR σ 53 b F) (hR : ∀ r, r < b → RgI n F r) (hx : x < 60) : ∀ r n', r ≤ b → r < n' → (fX1_rangeOf_l7 53 (ι x) n' (ps r) σ).bind (fun q7 => match q7 with | .inl r => some r | .inr q7 => some (-1 : Int32)) = some (oi (rgF F x r)) := by
  obtain ⟨⟨l1, l2, l3, l4⟩, h1, h2, h3, h4, h5⟩ := hL
  intro r
  induction r with
  | zero =>
    intro n' hr hn'
    obtain ⟨n', rfl⟩ : ∃ k, n' = k + 1 := ⟨n' - 1, by omega⟩
    rw [fX1_rangeOf_l7, if_pos (by unfold ps; decide)]
    rfl
  | succ r ih =>
    intro n' hr hn'
    obtain ⟨n', rfl⟩ : ∃ k, n' = k + 1 := ⟨n' - 1, by omega⟩
    obtain ⟨p, q, s, y, g1, g2, g3, g4, g5, g6, g7, g8, g9⟩ := hR r (by omega)
    have e1 := h2 r (by omega)
    have e2 := h3 r (by omega)
    rw [ps_succ, fX1_rangeOf_l7, c_at l1 (by omega) (show r < 12 by omega), Option.bind_some, c_at l2 (by omega) (show r < 12 by omega), Option.bind_some, e1, e2, g6, g7, ps_dec, rgF, g6, g7, nn_ι (by omega), nn_ι (by omega)]
    rw [if_neg (by simp (disch := omega) only [l_0, l_1, l_2, l_3, l_4, l_5, l_6, l_7, l_8, l_9, l_10, l_12, l_13, l_24, l_31, l_32, l_40, l_41, l_42, l_44, l_45, l_48, l_49, l_50, l_57, l_59, l_60, l_65, l_88, l_89, l_97, l_98, l_99, l_100, l_105, l_108, l_109, l_114, l_118, l_120, l_122, l_144, l_255, l_269, l_279, l_339, l_400, l_600, l_999, l_1000, l_2373, l_2712, ι_lt, ι_le, ι_eq, ι_add, ι_mul, ι_sub, ι_div, ι_n, ι_m1, m1_ι, m1_lt, m1_le, lt_m1, le_m1, m1_lt_m1, m1_le_m1, m1_add1, neg_ι1, ι_addm, ι_addn, Bool.false_eq_true, Nat.not_lt_zero, Nat.add_zero, Nat.zero_add, Nat.mul_zero, Nat.reduceMul, Nat.reduceAdd, Nat.reduceSub, Nat.reduceLT, Nat.reduceLeDiff, Nat.reduceEqDiff, Nat.reduceDiv, Nat.reduceBEq, Nat.reduceBNe, false_or, or_false, true_or, or_true, and_true, true_and, false_and, and_false, not_false_eq_true, not_true_eq_false, if_true, if_false, if_pos, if_neg, Option.bind_some, ite_false, ite_true, eq_self, reduceIte])]
    by_cases c1 : x < p
    · rw [if_pos (by rw [ι_lt (by omega) (by omega)]; exact c1), if_neg (by omega)]
      exact ih n' (by omega) (by omega)
    · rw [if_neg (by rw [ι_lt (by omega) (by omega)]; exact c1)]
      by_cases c2 : q < x
      · rw [if_pos (by rw [ι_lt (by omega) (by omega)]; exact c2), if_neg (by omega)]
        exact ih n' (by omega) (by omega)
      · rw [if_neg (by rw [ι_lt (by omega) (by omega)]; exact c2), if_pos (by omega)]
        rfl
theorem c_rangeOf {σ : Mem} {n b x : Nat} {F : Nat → Int32} (hn : n ≤ 60) (hb : b ≤ 12) (hL : LR σ 53 b F) (hR : ∀ r, r < b → RgI n F r) (hx : x < 60) : fX1_rangeOf 53 (ι x) σ = some (oi (rgF F x b)) := by
  unfold fX1_rangeOf
  rw [hL.2.1, ps_sub]
  exact c_rg hn hb hL hR hx b FU (by omega) (by unfold FU; omega)
theorem r_rg {τ : Mem} {n b x : Nat} (hn : n ≤ 60) (hb : b ≤ 12) (hR : ∀ r, r < b → RgI n (τ 3) r) (hx : x < 60) : ∀ r n', r ≤ b → r < n' → (fX12_rangeOf_l9 (ι x) n' (ps r) τ).bind (fun q9 => match q9 with | .inl r => some r | .inr q9 => some (-1 : Int32)) = some (oi (rgF (τ 3) x r)) := by
  intro r
  induction r with
  | zero =>
    intro n' hr hn'
    obtain ⟨n', rfl⟩ : ∃ k, n' = k + 1 := ⟨n' - 1, by omega⟩
    rw [fX12_rangeOf_l9, if_pos (by unfold ps; decide)]
    rfl
  | succ r ih =>
    intro n' hr hn'
    obtain ⟨n', rfl⟩ : ∃ k, n' = k + 1 := ⟨n' - 1, by omega⟩
    obtain ⟨p, q, s, y, g1, g2, g3, g4, g5, g6, g7, g8, g9⟩ := hR r (by omega)
    rw [ps_succ, fX12_rangeOf_l9, ps_dec, rgF, g6, g7, nn_ι (by omega), nn_ι (by omega)]
    by_cases c1 : p ≤ x ∧ x ≤ q
    · simp (disch := omega) only [l_0, l_1, l_2, l_3, l_4, l_5, l_6, l_7, l_8, l_9, l_10, l_12, l_13, l_24, l_31, l_32, l_40, l_41, l_42, l_44, l_45, l_48, l_49, l_50, l_57, l_59, l_60, l_65, l_88, l_89, l_97, l_98, l_99, l_100, l_105, l_108, l_109, l_114, l_118, l_120, l_122, l_144, l_255, l_269, l_279, l_339, l_400, l_600, l_999, l_1000, l_2373, l_2712, ι_lt, ι_le, ι_eq, ι_add, ι_mul, ι_sub, ι_div, ι_n, ι_m1, m1_ι, m1_lt, m1_le, lt_m1, le_m1, m1_lt_m1, m1_le_m1, m1_add1, neg_ι1, ι_addm, ι_addn, Bool.false_eq_true, Nat.not_lt_zero, Nat.add_zero, Nat.zero_add, Nat.mul_zero, Nat.reduceMul, Nat.reduceAdd, Nat.reduceSub, Nat.reduceLT, Nat.reduceLeDiff, Nat.reduceEqDiff, Nat.reduceDiv, Nat.reduceBEq, Nat.reduceBNe, false_or, or_false, true_or, or_true, and_true, true_and, false_and, and_false, not_false_eq_true, not_true_eq_false, if_true, if_false, if_pos, if_neg, Option.bind_some, ite_false, ite_true, eq_self, reduceIte, lm_0, lm_1, lm_2, lm_3, lm_4, lm_5, lm_6, lm_7, lm_8, lm_9, lm_10, lm_11, lm_12, lm_13, lm_14, lm_15, lm_16, lm_17, g6, g7, r_isIn]; rfl
    · simp (disch := omega) only [l_0, l_1, l_2, l_3, l_4, l_5, l_6, l_7, l_8, l_9, l_10, l_12, l_13, l_24, l_31, l_32, l_40, l_41, l_42, l_44, l_45, l_48, l_49, l_50, l_57, l_59, l_60, l_65, l_88, l_89, l_97, l_98, l_99, l_100, l_105, l_108, l_109, l_114, l_118, l_120, l_122, l_144, l_255, l_269, l_279, l_339, l_400, l_600, l_999, l_1000, l_2373, l_2712, ι_lt, ι_le, ι_eq, ι_add, ι_mul, ι_sub, ι_div, ι_n, ι_m1, m1_ι, m1_lt, m1_le, lt_m1, le_m1, m1_lt_m1, m1_le_m1, m1_add1, neg_ι1, ι_addm, ι_addn, Bool.false_eq_true, Nat.not_lt_zero, Nat.add_zero, Nat.zero_add, Nat.mul_zero, Nat.reduceMul, Nat.reduceAdd, Nat.reduceSub, Nat.reduceLT, Nat.reduceLeDiff, Nat.reduceEqDiff, Nat.reduceDiv, Nat.reduceBEq, Nat.reduceBNe, false_or, or_false, true_or, or_true, and_true, true_and, false_and, and_false, not_false_eq_true, not_true_eq_false, if_true, if_false, if_pos, if_neg, Option.bind_some, ite_false, ite_true, eq_self, reduceIte, lm_0, lm_1, lm_2, lm_3, lm_4, lm_5, lm_6, lm_7, lm_8, lm_9, lm_10, lm_11, lm_12, lm_13, lm_14, lm_15, lm_16, lm_17, g6, g7, r_isIn]
      exact ih n' (by omega) (by omega)
theorem r_rangeOf {τ : Mem} {n b x : Nat} (hn : n ≤ 60) (h1 : τ 3 1 = ι b) (hb : b ≤ 12) (hR : ∀ r, r < b → RgI n (τ 3) r) (hx : x < 60) : fX12_rangeOf (ι x) τ = some (oi (rgF (τ 3) x b)) := by
  unfold fX12_rangeOf
  rw [if_neg (by decide)]
  have e : τ 3 (1 : Int32).toNatClampNeg = ι b := h1
  rw [e, ps_sub]
  exact r_rg hn hb hR hx b FU (by omega) (by unfold FU; omega)
def labR (F : Nat → Int32) (x y r : Nat) : List Nat :=
  if nn (F (41 + 4 * r + 2)) = 0 then dec (nn (F (41 + 4 * r + 3)) + (x - nn (F (41 + 4 * r)))) ++ [if y = 0 then 114 else 118]
  else if nn (F (41 + 4 * r + 2)) = 1 then dec (nn (F (41 + 4 * r + 3)) + 2 * (x - nn (F (41 + 4 * r))) + y)
  else if nn (F (41 + 4 * r + 2)) = 2 then romC (nn (F (41 + 4 * r + 3)) + 2 * (x - nn (F (41 + 4 * r))) + y) else []
def labW (F : Nat → Int32) (b x y : Nat) : List Nat := match rgF F x b with | none => [] | some r => labR F x y r
theorem lab_len {F : Nat → Int32} {n b x y : Nat} (hn : n ≤ 60) (hR : ∀ r, r < b → RgI n F r) (hx : x < 60) (hy : y < 2) : (labW F b x y).length ≤ 12 := by
  unfold labW
  cases h : rgF F x b with
  | none => exact Nat.zero_le _
  | some r =>
    show (labR F x y r).length ≤ 12
    obtain ⟨h1, h2⟩ := rgF_lt b r h
    obtain ⟨p, q, s, z, g1, g2, g3, g4, g5, g6, g7, g8, g9⟩ := hR r h1
    unfold labR
    rw [g9, nn_ι (by omega)]
    have d1 := dec_len (z + (x - nn (F (41 + 4 * r))))
    have d2 := dec_len (z + 2 * (x - nn (F (41 + 4 * r))) + y)
    have d3 := (rom_eq (z + 2 * (x - nn (F (41 + 4 * r))) + y) (by omega)).2
    repeat' split
    · rw [len1]; omega
    · rw [len1]; omega
    · omega
    · exact d3
    · exact Nat.zero_le _
theorem oi_neg {o : Option Nat} (h : o = none) : oi o = (-1 : Int32) := by rw [h]; rfl
theorem oi_pos {o : Option Nat} {r : Nat} (h : o = some r) (hr : r < 60) : ¬ oi o = (-1 : Int32) := by
  rw [h]
  intro z
  have z : ι r = μ := z
  rw [ι_m1 (by omega)] at z; exact z
theorem c_lab {σ : Mem} {o L n b x y : Nat} {F : Nat → Int32} {l : List Nat} (hn : n ≤ 60) (hb : b ≤ 12) (hL : LR σ 53 b F) (hR : ∀ r, r < b → RgI n F r) (hx : x < 60) (hy : y < 2) (h : TC σ o L l) (hl : l.length + 12 ≤ L) : ∃ ρ, fX1_write 53 (ι x) (ι y) o σ = some ρ ∧ TC ρ o L (l ++ labW F b x y) ∧ frT o σ ρ := by
  have hlen := lab_len hn hR hx hy
  unfold fX1_write
  rw [c_rangeOf hn hb hL hR hx, Option.bind_some]
  unfold labW at *
  cases hr : rgF F x b with
  | none =>
    rw [if_pos (oi_neg rfl)]
    exact ⟨σ, rfl, by rw [List.append_nil]; exact h, frT_refl _ _⟩
  | some r =>
    rw [hr] at hlen
    have hlen : (labR F x y r).length ≤ 12 := hlen
    show ∃ ρ, _ ∧ TC ρ o L (l ++ labR F x y r) ∧ _
    obtain ⟨h1, h2⟩ := rgF_lt b r hr
    rw [if_neg (oi_pos rfl (by omega))]
    obtain ⟨p, q, s, z, g1, g2, g3, g4, g5, g6, g7, g8, g9⟩ := hR r h1
    obtain ⟨⟨l1, l2, l3, l4⟩, k1, k2, k3, k4, k5⟩ := hL
    have hp : nn (F (41 + 4 * r)) = p := by rw [g6, nn_ι (by omega)]
    have hs : nn (F (41 + 4 * r + 2)) = s := by rw [g8, nn_ι (by omega)]
    have hz : nn (F (41 + 4 * r + 3)) = z := by rw [g9, nn_ι (by omega)]
    rw [hp] at h2
    unfold labR at hlen ⊢
    rw [hp, hs, hz] at hlen ⊢
    have c1 : fX3_at (53 + 1) (oi (some r)) σ = some (ι p) := by
      show fX3_at (53 + 1) (ι r) σ = _
      rw [c_at l1 (by omega) (show r < 12 by omega), k2 r h1, g6]
    have c2 : fX3_at (53 + 7) (oi (some r)) σ = some (ι z) := by
      show fX3_at (53 + 7) (ι r) σ = _
      rw [c_at l4 (by omega) (show r < 12 by omega), k5 r h1, g9]
    have c3 : fX3_at (53 + 5) (oi (some r)) σ = some (ι s) := by
      show fX3_at (53 + 5) (ι r) σ = _
      rw [c_at l3 (by omega) (show r < 12 by omega), k4 r h1, g8]
    rw [c1, Option.bind_some, c2, Option.bind_some, c3, Option.bind_some]
    simp (disch := omega) only [l_0, l_1, l_2, ι_sub, ι_mul, ι_add, ι_eq]
    by_cases s0 : s = 0
    · rw [if_pos s0] at hlen
      rw [if_pos s0, if_pos s0]
      rw [len1] at hlen
      obtain ⟨ρ1, a1, a2, a3⟩ := c_dec (v := z + (x - p)) (by omega) h (by omega)
      obtain ⟨ρ2, b1, b2, b3⟩ := c_w (c := if y = 0 then 114 else 118) a2 (by rw [List.length_append]; omega)
      refine ⟨ρ2, ?_, by rw [List.append_assoc] at b2; exact b2, frT_trans a3 b3⟩
      rw [a1, Option.bind_some]
      by_cases y0 : y = 0
      · rw [if_pos y0] at b1 ⊢
        have b1 : fX8_add o (114 : Int32) ρ1 = some ρ2 := b1
        rw [b1, Option.bind_some]
      · rw [if_neg y0] at b1 ⊢
        have b1 : fX8_add o (118 : Int32) ρ1 = some ρ2 := b1
        rw [b1, Option.bind_some]
    · rw [if_neg s0] at hlen
      rw [if_neg s0, if_neg s0]
      by_cases s1 : s = 1
      · rw [if_pos s1] at hlen
        rw [if_pos s1, if_pos s1]
        obtain ⟨ρ1, a1, a2, a3⟩ := c_dec (v := z + 2 * (x - p) + y) (by omega) h (by omega)
        exact ⟨ρ1, by rw [a1, Option.bind_some], a2, a3⟩
      · rw [if_neg s1] at hlen
        rw [if_neg s1, if_neg s1]
        by_cases s2 : s = 2
        · rw [if_pos s2] at hlen
          rw [if_pos s2, if_pos s2]
          obtain ⟨ρ1, a1, a2, a3⟩ := c_rom (v := z + 2 * (x - p) + y) (by omega) h (by omega)
          exact ⟨ρ1, by rw [a1, Option.bind_some], a2, a3⟩
        · rw [if_neg s2, if_neg s2]
          exact ⟨σ, rfl, by rw [List.append_nil]; exact h, frT_refl _ _⟩
theorem r_lab {τ : Mem} {n b x y : Nat} {l : List Nat} (hn : n ≤ 60) (h1 : τ 3 1 = ι b) (hb : b ≤ 12) (hR : ∀ r, r < b → RgI n (τ 3) r) (hro : Ro τ) (hx : x < 60) (hy : y < 2) (h : TR τ l) (hl : l.length + 12 ≤ 400) : ∃ υ, fX12_writesLeafLabel (ι x) (ι y) τ = some υ ∧ TR υ (l ++ labW (τ 3) b x y) ∧ frW τ υ := by
  have hlen := lab_len (F := τ 3) hn hR hx hy
  unfold fX12_writesLeafLabel
  rw [r_rangeOf hn h1 hb hR hx, Option.bind_some]
  unfold labW at *
  cases hr : rgF (τ 3) x b with
  | none =>
    rw [if_pos (oi_neg rfl)]
    exact ⟨τ, rfl, by rw [List.append_nil]; exact h, frW_refl _⟩
  | some r =>
    rw [hr] at hlen
    have hlen : (labR (τ 3) x y r).length ≤ 12 := hlen
    show ∃ ρ, _ ∧ TR ρ (l ++ labR (τ 3) x y r) ∧ _
    obtain ⟨h1, h2⟩ := rgF_lt b r hr
    rw [if_neg (oi_pos rfl (by omega))]
    obtain ⟨p, q, s, z, g1, g2, g3, g4, g5, g6, g7, g8, g9⟩ := hR r h1
    have hp : nn (τ 3 (41 + 4 * r)) = p := by rw [g6, nn_ι (by omega)]
    have hs : nn (τ 3 (41 + 4 * r + 2)) = s := by rw [g8, nn_ι (by omega)]
    have hz : nn (τ 3 (41 + 4 * r + 3)) = z := by rw [g9, nn_ι (by omega)]
    rw [hp] at h2
    unfold labR at hlen ⊢
    rw [hp, hs, hz] at hlen ⊢
    have eo : oi (some r) = ι r := rfl
    simp (disch := omega) only [l_0, l_1, l_2, l_3, l_4, l_5, l_6, l_7, l_8, l_9, l_10, l_12, l_13, l_24, l_31, l_32, l_40, l_41, l_42, l_44, l_45, l_48, l_49, l_50, l_57, l_59, l_60, l_65, l_88, l_89, l_97, l_98, l_99, l_100, l_105, l_108, l_109, l_114, l_118, l_120, l_122, l_144, l_255, l_269, l_279, l_339, l_400, l_600, l_999, l_1000, l_2373, l_2712, ι_lt, ι_le, ι_eq, ι_add, ι_mul, ι_sub, ι_div, ι_n, ι_m1, m1_ι, m1_lt, m1_le, lt_m1, le_m1, m1_lt_m1, m1_le_m1, m1_add1, neg_ι1, ι_addm, ι_addn, Bool.false_eq_true, Nat.not_lt_zero, Nat.add_zero, Nat.zero_add, Nat.mul_zero, Nat.reduceMul, Nat.reduceAdd, Nat.reduceSub, Nat.reduceLT, Nat.reduceLeDiff, Nat.reduceEqDiff, Nat.reduceDiv, Nat.reduceBEq, Nat.reduceBNe, false_or, or_false, true_or, or_true, and_true, true_and, false_and, and_false, not_false_eq_true, not_true_eq_false, if_true, if_false, if_pos, if_neg, Option.bind_some, ite_false, ite_true, eq_self, reduceIte, lm_0, lm_1, lm_2, lm_3, lm_4, lm_5, lm_6, lm_7, lm_8, lm_9, lm_10, lm_11, lm_12, lm_13, lm_14, lm_15, lm_16, lm_17, eo, g6, g8, g9]
    by_cases s0 : s = 0
    · rw [if_pos s0] at hlen
      rw [if_pos s0, if_pos s0]
      rw [len1] at hlen
      obtain ⟨ρ1, a1, a2, a3⟩ := r_dec (v := z + (x - p)) (by omega) (by omega) h (by omega)
      obtain ⟨ρ2, b1, b2, b3⟩ := r_w (c := if y = 0 then 114 else 118) a2 (by rw [List.length_append]; omega) (by split <;> omega)
      refine ⟨ρ2, ?_, by rw [List.append_assoc] at b2; exact b2, frW_trans a3 b3⟩
      rw [a1, Option.bind_some]
      by_cases y0 : y = 0
      · rw [if_pos y0] at b1 ⊢
        rw [b1, Option.bind_some]
      · rw [if_neg y0] at b1 ⊢
        rw [b1, Option.bind_some]
    · rw [if_neg s0] at hlen
      rw [if_neg s0, if_neg s0]
      by_cases s1 : s = 1
      · rw [if_pos s1] at hlen
        rw [if_pos s1, if_pos s1]
        obtain ⟨ρ1, a1, a2, a3⟩ := r_dec (v := z + 2 * (x - p) + y) (by omega) (by omega) h (by omega)
        exact ⟨ρ1, by rw [a1, Option.bind_some], a2, a3⟩
      · rw [if_neg s1] at hlen
        rw [if_neg s1, if_neg s1]
        by_cases s2 : s = 2
        · rw [if_pos s2] at hlen
          rw [if_pos s2, if_pos s2]
          obtain ⟨ρ1, a1, a2, a3⟩ := r_rom (v := z + 2 * (x - p) + y) (by omega) hro h (by omega)
          exact ⟨ρ1, by rw [a1, Option.bind_some], a2, a3⟩
        · rw [if_neg s2, if_neg s2]
          exact ⟨τ, rfl, by rw [List.append_nil]; exact h, frW_refl _⟩

/-! PURE PART: labels of places, what is formatted -/
def slW (F : Nat → Int32) (e : En) : List Nat := match e.2 with | none => [] | some p => [42] ++ ([97 + cf (onB F (ι (e.1 / 2)) (ι (e.1 % 2))) 0 p.1] ++ (if p.2 = 1 then [118] else []))
def plW (F : Nat → Int32) (b : Nat) (e : En) : List Nat := labW F b (e.1 / 2) (e.1 % 2) ++ slW F e
theorem OC_f {σ ρ : Mem} {E : List En} (h : OC σ E) (hf : ∀ j, 360 ≤ j → ρ j = σ j) : OC ρ E := by
  unfold OC
  rw [hf 360 (by omega), hf 362 (by omega), hf 364 (by omega), hf 366 (by omega), hf 368 (by omega), hf 370 (by omega), hf 372 (by omega)]
  exact h
def LX (σ τ : Mem) (F q : Nat → Int32) (k n a b : Nat) (E : List En) : Prop := (n ≤ 60 ∧ a ≤ 12 ∧ b ≤ 12) ∧ VR σ 42 q k n a F ∧ LR σ 53 b F ∧ OC σ E ∧ E = ordE F n a ∧ E.length ≤ 144 ∧ (∀ s, s < a → SlI n F s) ∧ (∀ r, r < b → RgI n F r) ∧ τ 3 = F ∧ F 1 = ι b ∧ Ro τ ∧ OT τ E ∧ Tx σ 35 ∧ Tx σ 37 ∧ Tx σ 39
def TO (o : Nat) : Prop := o = 35 ∨ o = 37 ∨ o = 39
theorem TO_ln {o : Nat} (h : TO o) : 32 ≤ ln (o + 1) ∧ ln (o + 1) ≤ 600 := by
  rcases h with rfl | rfl | rfl
  · rw [ln36]; omega
  · rw [ln38]; omega
  · rw [ln40]; omega
theorem LX_c {σ τ ρ υ : Mem} {F q : Nat → Int32} {k n a b o : Nat} {E : List En} (h : LX σ τ F q k n a b E) (ho : TO o) (hσ : frT o σ ρ) (hT : Tx ρ o) (hτ : ∀ k j, k = 3 ∨ k = 8 ∨ k = 11 ∨ (k = 0 ∧ j = 17) → υ k j = τ k j) : LX ρ υ F q k n a b E := by
  obtain ⟨⟨h1, h2, h3⟩, h4, h5, h6, h7, h8, h9, h10, h11, h12, h13, h14, h15, h16, h17⟩ := h
  have f : ∀ j, 41 ≤ j → ρ j = σ j := fun j hj => hσ j (by unfold TO at ho; omega) (by unfold TO at ho; omega)
  have tx : ∀ o', Tx σ o' → TO o' → Tx ρ o' := fun o' hx ho' => by
    by_cases e : o' = o
    · rw [e]; exact hT
    · exact Tx_c hx (hσ o' e (by unfold TO at ho ho'; omega))
  refine ⟨⟨h1, h2, h3⟩, VR_c h1 h2 h4 (fun j hj => f _ (by omega)) (fun _ _ => rfl), LR_c h3 h5 (fun j hj => f _ (by omega)) (fun _ _ => rfl), OC_f h6 (fun j hj => f j (by omega)), h7, h8, h9, h10, ?_, h12, ?_, ?_, tx 35 h15 (Or.inl rfl), tx 37 h16 (Or.inr (Or.inl rfl)), tx 39 h17 (Or.inr (Or.inr rfl))⟩
  · rw [← h11]; exact funext fun j => hτ 3 j (by omega)
  · exact fun i hi => (hτ 11 i (by omega)).trans (h13 i hi)
  · exact OT_c h14 (funext fun j => hτ 8 j (by omega)) (hτ 0 17 (by omega))
theorem onK_vals {F : Nat → Int32} {k s : Nat} (h : onK F k s = true) : F (5 + 3 * s) = ι (k / 2) ∧ F (5 + 3 * s + 1) = ι (k % 2) := by
  unfold onK onB at h
  exact of_decide_eq_true h
theorem c_place {σ τ : Mem} {F q : Nat → Int32} {k n a b o p : Nat} {E : List En} {e : En} (h : LX σ τ F q k n a b E) (ho : TO o) (he : E[p]? = some e) : ∃ ρ, fX11_writeLabelAt 0 (ι p) o σ = some ρ ∧ TC ρ o (ln (o + 1)) (plW F b e) ∧ frT o σ ρ := by
  obtain ⟨⟨h1, h2, h3⟩, h4, h5, h6, h7, h8, h9, h10, h11, h12, h13, h14, h15, h16, h17⟩ := h
  obtain ⟨L1, L2⟩ := TO_ln ho
  have hp : p < E.length := (List.getElem?_eq_some_iff.mp he).1
  have g := ent_lt h1 (show (ordE F n a)[p]? = some e by rw [← h7]; exact he)
  obtain ⟨m, m1, m2⟩ : Tx σ o := by rcases ho with rfl | rfl | rfl <;> assumption
  have t0 : frT o σ (up σ o 1 (ι 0)) := fun j a b => up_k _ _ _ _ _ a
  have T0 : TC (up σ o 1 (ι 0)) o (ln (o + 1)) [] := ⟨rfl, L2, Nat.zero_le _, up_e _ _ _ _, fun i hi => absurd hi (Nat.not_lt_zero i)⟩
  have f : ∀ {ρ : Mem}, frT o σ ρ → ∀ j, 41 ≤ j → ρ j = σ j := fun {ρ} hσ j hj => hσ j (by unfold TO at ho; omega) (by unfold TO at ho; omega)
  have hx : e.1 / 2 < 60 := by omega
  have hy : e.1 % 2 < 2 := by omega
  have hlen := lab_len (F := F) (b := b) h1 h10 hx hy
  obtain ⟨ρ1, a1, a2, a3⟩ := c_lab (σ := up σ o 1 (ι 0)) h1 h3 (LR_c h3 h5 (fun j hj => f t0 _ (by omega)) (fun _ _ => rfl)) h10 hx hy T0 (show 0 + 12 ≤ ln (o + 1) by omega)
  have t1 := frT_trans t0 a3
  obtain ⟨r1, r2, r3, r4⟩ := c_rows h8 (OC_f h6 (fun j hj => f t0 j (by omega))) he hp
  obtain ⟨s1, s2, s3, s4⟩ := c_rows h8 (OC_f h6 (fun j hj => f t1 j (by omega))) he hp
  unfold fX11_writeLabelAt
  rw [l_0, c_short m1 m2 (Nat.zero_le m), Option.bind_some, Nat.zero_add, Nat.zero_add, Nat.zero_add, r1, Option.bind_some, r2, Option.bind_some]
  have a1 : fX1_write 53 (eL e) (eS e) o (up σ o 1 (ι 0)) = some ρ1 := a1
  rw [a1, Option.bind_some, s3, Option.bind_some]
  unfold plW slW
  rw [List.nil_append] at a2
  rcases g.2.2.2 with he2 | ⟨s, w, w1, w2, w3, he2⟩
  · have ep : eP e = (-1 : Int32) := by unfold eP; rw [he2]; rfl
    rw [if_pos ep, he2]
    exact ⟨ρ1, rfl, by rw [List.append_nil]; exact a2, t1⟩
  · have ep : eP e = ι s := by unfold eP; rw [he2]
    have ew : eW e = ι w := by unfold eW; rw [he2]
    have hs12 : s < 12 := by omega
    have hw2 : w < 2 := by
      have := (h9 s w1).2
      rcases this with z | z
      · rw [z, nn_ι (by omega)] at w3; omega
      · rw [z, nn_ι (by omega)] at w3; omega
    obtain ⟨v1, v2⟩ := onK_vals w2
    have hne : ¬ eP e = (-1 : Int32) := by
      rw [ep]; intro z
      have z : ι s = μ := z
      rw [ι_m1 (by omega)] at z; exact z
    rw [if_neg hne, he2]
    show ∃ ρ, _ ∧ TC ρ o (ln (o + 1)) (labW F b (e.1 / 2) (e.1 % 2) ++ ([42] ++ ([97 + cf (onB F (ι (e.1 / 2)) (ι (e.1 % 2))) 0 s] ++ (if w = 1 then [118] else [])))) ∧ _
    have hcf := cf_le (onB F (ι (e.1 / 2)) (ι (e.1 % 2))) s 0
    obtain ⟨ρ2, b1, b2, b3⟩ := c_w (c := 42) a2 (by omega)
    have b1 : fX8_add o (42 : Int32) ρ1 = some ρ2 := b1
    have t2 := frT_trans t1 b3
    have hV2 : VR ρ2 42 q k n a F := VR_c h1 h2 h4 (fun j hj => f t2 _ (by omega)) (fun _ _ => rfl)
    have hrank : fX10_rankOfSlip 42 (eP e) ρ2 = some (ι (cf (onB F (ι (e.1 / 2)) (ι (e.1 % 2))) 0 s)) := by
      unfold fX10_rankOfSlip
      rw [ep, c_at (o := 42 + 5) hV2.1.2.2.1 (by omega) hs12, Option.bind_some, c_at (o := 42 + 7) hV2.1.2.2.2.1 (by omega) hs12, Option.bind_some, hV2.2.2.2.2.2.2.1 s w1, hV2.2.2.2.2.2.2.2.1 s w1, v1, v2, c_slipsOnBefore h2 hV2 (fun z => by rw [ι_m1 (by omega)] at z; exact z) _ (by omega), Option.bind_some]
    obtain ⟨ρ3, c1, c2, c3⟩ := c_w (c := 97 + cf (onB F (ι (e.1 / 2)) (ι (e.1 % 2))) 0 s) b2 (by rw [len1]; omega)
    have t3 := frT_trans t2 c3
    obtain ⟨u1, u2, u3, u4⟩ := c_rows h8 (OC_f h6 (fun j hj => f t3 j (by omega))) he hp
    rw [b1, Option.bind_some, hrank, Option.bind_some, l_97, ι_add, c1, Option.bind_some, u4, Option.bind_some, ew]
    by_cases hw1 : w = 1
    · rw [if_pos hw1]
      obtain ⟨ρ4, d1, d2, d3⟩ := c_w (c := 118) c2 (by rw [len1, len1]; omega)
      have d1 : fX8_add o (118 : Int32) ρ3 = some ρ4 := d1
      refine ⟨ρ4, by rw [if_pos (by rw [hw1]; rfl), d1, Option.bind_some], ?_, frT_trans t3 d3⟩
      rw [List.append_assoc, List.append_assoc] at d2; exact d2
    · rw [if_neg hw1, List.append_nil]
      refine ⟨ρ3, by rw [if_neg (by rw [l_1, ι_eq (by omega) (by omega)]; exact hw1)], ?_, t3⟩
      rw [List.append_assoc] at c2; exact c2
theorem pl_len {F : Nat → Int32} {n b : Nat} {e : En} (hn : n ≤ 60) (hR : ∀ r, r < b → RgI n F r) (he : e.1 < 120) : (plW F b e).length ≤ 15 := by
  unfold plW
  have h1 := lab_len (F := F) (b := b) (x := e.1 / 2) (y := e.1 % 2) hn hR (by omega) (by omega)
  have h2 : (slW F e).length ≤ 3 := by
    unfold slW
    cases e.2 with
    | none => exact Nat.zero_le _
    | some p =>
      show ([42] ++ ([97 + cf (onB F (ι (e.1 / 2)) (ι (e.1 % 2))) 0 p.1] ++ (if p.2 = 1 then [118] else []))).length ≤ 3
      split <;> simp
  rw [List.length_append]; omega
theorem r_place {σ τ : Mem} {F q : Nat → Int32} {k n a b p : Nat} {E : List En} {e : En} (h : LX σ τ F q k n a b E) (he : E[p]? = some e) : ∃ υ, fX12_laysLabel (ι p) τ = some υ ∧ TR υ (plW F b e) ∧ frW τ υ := by
  obtain ⟨⟨h1, h2, h3⟩, h4, h5, h6, h7, h8, h9, h10, h11, h12, h13, h14, h15, h16, h17⟩ := h
  have hp : p < E.length := (List.getElem?_eq_some_iff.mp he).1
  have g := ent_lt h1 (show (ordE F n a)[p]? = some e by rw [← h7]; exact he)
  have hx : e.1 / 2 < 60 := by omega
  have hy : e.1 % 2 < 2 := by omega
  have hlen := lab_len (F := F) (b := b) h1 h10 hx hy
  obtain ⟨o1, o2, o3, o4⟩ := h14.2 p e he
  have t0 : frW τ (up τ 0 21 (ι 0)) := fun k j hk => by rw [up_g, if_neg (by omega)]
  have T0 : TR (up τ 0 21 (ι 0)) [] := ⟨Nat.zero_le _, up_e _ _ _ _, fun i hi => absurd hi (Nat.not_lt_zero i)⟩
  have e3 : up τ 0 21 (ι 0) 3 = F := by rw [up_k _ _ _ _ _ (by omega)]; exact h11
  have e8 : up τ 0 21 (ι 0) 8 = τ 8 := up_k _ _ _ _ _ (by omega)
  obtain ⟨υ1, a1, a2, a3⟩ := r_lab (τ := up τ 0 21 (ι 0)) (b := b) h1 (by rw [e3]; exact h12) h3 (by rw [e3]; exact h10) (frW_Ro t0 h13) hx hy T0 (show 0 + 12 ≤ 400 by omega)
  rw [e3, List.nil_append] at a2
  have a1 : fX12_writesLeafLabel (eL e) (eS e) (up τ 0 21 (ι 0)) = some υ1 := a1
  have t1 := frW_trans t0 a3
  unfold fX12_laysLabel
  simp (disch := omega) only [l_0, l_1, l_2, l_3, l_4, l_5, l_6, l_7, l_8, l_9, l_10, l_12, l_13, l_24, l_31, l_32, l_40, l_41, l_42, l_44, l_45, l_48, l_49, l_50, l_57, l_59, l_60, l_65, l_88, l_89, l_97, l_98, l_99, l_100, l_105, l_108, l_109, l_114, l_118, l_120, l_122, l_144, l_255, l_269, l_279, l_339, l_400, l_600, l_999, l_1000, l_2373, l_2712, ι_lt, ι_le, ι_eq, ι_add, ι_mul, ι_sub, ι_div, ι_n, ι_m1, m1_ι, m1_lt, m1_le, lt_m1, le_m1, m1_lt_m1, m1_le_m1, m1_add1, neg_ι1, ι_addm, ι_addn, Bool.false_eq_true, Nat.not_lt_zero, Nat.add_zero, Nat.zero_add, Nat.mul_zero, Nat.reduceMul, Nat.reduceAdd, Nat.reduceSub, Nat.reduceLT, Nat.reduceLeDiff, Nat.reduceEqDiff, Nat.reduceDiv, Nat.reduceBEq, Nat.reduceBNe, false_or, or_false, true_or, or_true, and_true, true_and, false_and, and_false, not_false_eq_true, not_true_eq_false, if_true, if_false, if_pos, if_neg, Option.bind_some, ite_false, ite_true, eq_self, reduceIte, lm_0, lm_1, lm_2, lm_3, lm_4, lm_5, lm_6, lm_7, lm_8, lm_9, lm_10, lm_11, lm_12, lm_13, lm_14, lm_15, lm_16, lm_17, e8, o1, o2, o3, a1]
  unfold plW slW
  rcases g.2.2.2 with he2 | ⟨s, w, w1, w2, w3, he2⟩
  · have ep : eP e = μ := by unfold eP; rw [he2]
    rw [if_pos ep, he2]
    exact ⟨υ1, rfl, by rw [List.append_nil]; exact a2, t1⟩
  · have ep : eP e = ι s := by unfold eP; rw [he2]
    have ew : eW e = ι w := by unfold eW; rw [he2]
    have hs12 : s < 12 := by omega
    have hw2 : w < 2 := by
      have := (h9 s w1).2
      rcases this with z | z
      · rw [z, nn_ι (by omega)] at w3; omega
      · rw [z, nn_ι (by omega)] at w3; omega
    have hne : ¬ eP e = μ := by
      rw [ep]; intro z
      rw [ι_m1 (by omega)] at z; exact z
    rw [if_neg hne, he2]
    show ∃ υ, _ ∧ TR υ (labW F b (e.1 / 2) (e.1 % 2) ++ ([42] ++ ([97 + cf (onB F (ι (e.1 / 2)) (ι (e.1 % 2))) 0 s] ++ (if w = 1 then [118] else [])))) ∧ _
    have hcf := cf_le (onB F (ι (e.1 / 2)) (ι (e.1 % 2))) s 0
    obtain ⟨υ2, b1, b2, b3⟩ := r_w (c := 42) a2 (by omega) (by omega)
    have t2 := frW_trans t1 b3
    have e32 : υ2 3 = F := by rw [← h11]; exact funext fun j => t2 3 j (by omega)
    have hs : fX12_slipsOn (eL e) (eS e) (eP e) υ2 = some (ι (cf (onB F (ι (e.1 / 2)) (ι (e.1 % 2))) 0 s)) := by
      rw [ep, r_slipsOn _ _ (by omega), e32]; rfl
    obtain ⟨υ3, c1, c2, c3⟩ := r_w (c := 97 + cf (onB F (ι (e.1 / 2)) (ι (e.1 % 2))) 0 s) b2 (by rw [len1]; omega) (by omega)
    have t3 := frW_trans t2 c3
    have u4 : υ3 8 (4 * p + 3) = ι w := by rw [t3 8 _ (by omega), o4, ew]
    rw [b1, Option.bind_some, hs, Option.bind_some, ι_add, c1, Option.bind_some, u4]
    by_cases hw1 : w = 1
    · rw [if_pos hw1]
      obtain ⟨υ4, d1, d2, d3⟩ := r_w (c := 118) c2 (by rw [len1, len1]; omega) (by omega)
      refine ⟨υ4, by rw [if_pos (by rw [hw1]), d1, Option.bind_some], ?_, frW_trans t3 d3⟩
      rw [List.append_assoc, List.append_assoc] at d2; exact d2
    · rw [if_neg hw1, List.append_nil]
      refine ⟨υ3, by rw [if_neg (by rw [ι_eq (by omega) (by omega)]; exact hw1)], ?_, t3⟩
      rw [List.append_assoc] at c2; exact c2
theorem TC_Tx {σ : Mem} {o L : Nat} {l : List Nat} (h : TC σ o L l) : Tx σ o := ⟨l.length, Nat.le_trans h.2.2.1 h.2.1, h.2.2.2.1⟩
theorem frW_LX {τ υ : Mem} (h : frW τ υ) : ∀ k j, k = 3 ∨ k = 8 ∨ k = 11 ∨ (k = 0 ∧ j = 17) → υ k j = τ k j := fun k j hk => h k j (by omega)
theorem place_sim {σ τ : Mem} {F q : Nat → Int32} {k n a b o p : Nat} {E : List En} (h : LX σ τ F q k n a b E) (ho : TO o) (hp : p < E.length) : ∃ w ρ υ, fX11_writeLabelAt 0 (ι p) o σ = some ρ ∧ fX12_laysLabel (ι p) τ = some υ ∧ TC ρ o (ln (o + 1)) w ∧ TR υ w ∧ w.length ≤ 15 ∧ frT o σ ρ ∧ frW τ υ ∧ LX ρ υ F q k n a b E := by
  obtain ⟨e, he⟩ := get_lt hp
  obtain ⟨ρ, a1, a2, a3⟩ := c_place h ho he
  obtain ⟨υ, b1, b2, b3⟩ := r_place h he
  have g := ent_lt h.1.1 (show (ordE F n a)[p]? = some e by rw [← h.2.2.2.2.1]; exact he)
  exact ⟨_, ρ, υ, a1, b1, a2, b2, pl_len h.1.1 h.2.2.2.2.2.2.2.1 g.1, a3, b3, LX_c h ho a3 (TC_Tx a2) (frW_LX b3)⟩
theorem r_tl {l : List Nat} (hl : l.length ≤ 400) : ∀ m n i (τ : Mem), i + m = l.length → m < n → TR τ l → (∀ j, j < i → τ 9 j = ι (gt l j)) → ∃ z υ, fX12_tells_l2 n (ι i) τ = some (z, υ) ∧ (∀ j, j < l.length → υ 9 j = ι (gt l j)) ∧ ∀ k j, k ≠ 9 → υ k j = τ k j := by
  intro m
  induction m with
  | zero =>
    intro n i τ h hn ht hj
    obtain ⟨n, rfl⟩ : ∃ k, n = k + 1 := ⟨n - 1, by omega⟩
    rw [fX12_tells_l2]
    rw [ht.2.1, if_pos (by rw [ι_le (by omega) (by omega)]; omega)]
    exact ⟨_, _, rfl, fun j hj' => hj j (by omega), fun _ _ _ => rfl⟩
  | succ m ih =>
    intro n i τ h hn ht hj
    obtain ⟨n, rfl⟩ : ∃ k, n = k + 1 := ⟨n - 1, by omega⟩
    rw [fX12_tells_l2]
    obtain ⟨e1, e2⟩ := ht.2.2 i (by omega)
    have e0 := ht.2.1
    obtain ⟨z, υ, b1, b2, b3⟩ := ih n (i + 1) (up τ 9 i (ι (gt l i))) (by omega) (by omega) ⟨ht.1, by rw [up_k _ _ _ _ _ (by omega)]; exact e0, fun j hj => by rw [up_k _ _ _ _ _ (by omega)]; exact ht.2.2 j hj⟩ (fun j hj' => by
      by_cases e : j = i
      · rw [e, up_e]
      · rw [up_j _ _ _ _ _ e]; exact hj j (by omega))
    refine ⟨z, υ, ?_, b2, fun k j hk => by rw [b3 k j hk, up_k _ _ _ _ _ hk]⟩
    simp (disch := omega) only [l_0, l_1, l_2, l_3, l_4, l_5, l_6, l_7, l_8, l_9, l_10, l_12, l_13, l_24, l_31, l_32, l_40, l_41, l_42, l_44, l_45, l_48, l_49, l_50, l_57, l_59, l_60, l_65, l_88, l_89, l_97, l_98, l_99, l_100, l_105, l_108, l_109, l_114, l_118, l_120, l_122, l_144, l_255, l_269, l_279, l_339, l_400, l_600, l_999, l_1000, l_2373, l_2712, ι_lt, ι_le, ι_eq, ι_add, ι_mul, ι_sub, ι_div, ι_n, ι_m1, m1_ι, m1_lt, m1_le, lt_m1, le_m1, m1_lt_m1, m1_le_m1, m1_add1, neg_ι1, ι_addm, ι_addn, Bool.false_eq_true, Nat.not_lt_zero, Nat.add_zero, Nat.zero_add, Nat.mul_zero, Nat.reduceMul, Nat.reduceAdd, Nat.reduceSub, Nat.reduceLT, Nat.reduceLeDiff, Nat.reduceEqDiff, Nat.reduceDiv, Nat.reduceBEq, Nat.reduceBNe, false_or, or_false, true_or, or_true, and_true, true_and, false_and, and_false, not_false_eq_true, not_true_eq_false, if_true, if_false, if_pos, if_neg, Option.bind_some, ite_false, ite_true, eq_self, reduceIte, lm_0, lm_1, lm_2, lm_3, lm_4, lm_5, lm_6, lm_7, lm_8, lm_9, lm_10, lm_11, lm_12, lm_13, lm_14, lm_15, lm_16, lm_17, e0, e1, nar_d e2]
    exact b1
theorem r_tells {τ : Mem} {l : List Nat} (h : TR τ l) : ∃ υ, fX12_tells τ = some (ι l.length, υ) ∧ υ 0 20 = ι l.length ∧ (∀ i, i < l.length → υ 9 i = ι (gt l i)) ∧ ∀ k j, ¬ (k = 9 ∨ (k = 0 ∧ j = 20)) → υ k j = τ k j := by
  obtain ⟨z, υ, a1, a2, a3⟩ := r_tl h.1 l.length FU 0 τ (by omega) (by have := h.1; unfold FU; omega) h (fun j hj => absurd hj (Nat.not_lt_zero j))
  have a1 : fX12_tells_l2 FU (0 : Int32) τ = some (z, υ) := a1
  have e : υ 0 21 = ι l.length := (a3 0 21 (by omega)).trans h.2.1
  refine ⟨up υ 0 20 (ι l.length), ?_, up_e _ _ _ _, fun i hi => ?_, fun k j hk => ?_⟩
  · unfold fX12_tells
    rw [a1, Option.bind_some]
    show some (up υ 0 20 (υ 0 21) 0 21, up υ 0 20 (υ 0 21)) = _
    rw [e, up_j _ _ _ _ _ (by omega), e]
  · rw [up_k _ _ _ _ _ (by omega)]; exact a2 i hi
  · rw [up_g, if_neg (by omega)]; exact a3 k j (by omega)
theorem fmt_Rel {σ τ ρ υ ω : Mem} {w : List Nat} {L : Nat} (hR : Rel σ τ) (hw : w.length ≤ 236) (h1 : frT 35 σ ρ) (h2 : frW τ υ) (hC : TC ρ 35 L w) (h4 : ω 0 20 = ι w.length) (h5 : ∀ i, i < w.length → ω 9 i = ι (gt w i)) (h6 : ∀ k j, ¬ (k = 9 ∨ (k = 0 ∧ j = 20)) → ω k j = υ k j) : Rel ρ ω := by
  have hR' := hR
  obtain ⟨k, n, hr, hC'⟩ := hR'
  have f : ∀ j, j ≠ 35 → j ≠ 36 → ρ j = σ j := h1
  have g : ∀ k j, ¬ (k = 9 ∨ k = 10 ∨ (k = 0 ∧ (j = 20 ∨ j = 21))) → ω k j = τ k j := fun k j hk => (h6 k j (by omega)).trans (h2 k j (by omega))
  refine Rel_parts hR (fun j hj => f j (by omega) (by omega)) (fun k j hk => g k j (by omega)) ?_ ?_ ?_ ?_
  · exact IR_c hr.2.2.2.2.1 (f 33 (by omega) (by omega)) (f 34 (by omega) (by omega)) (g 0 12 (by omega)) (funext fun j => g 7 j (by omega))
  · exact ⟨w.length, hw, hC.2.2.2.1, h4, fun i hi => by rw [h5 i hi]; exact hC.2.2.2.2 i hi⟩
  · exact Tx_c hr.2.2.2.2.2.2.1 (f 37 (by omega) (by omega))
  · exact Tx_c hr.2.2.2.2.2.2.2.1 (f 39 (by omega) (by omega))
theorem LX_of {σ τ : Mem} {k n a b d t : Nat} {E : List En} (h : RO σ τ k n a b d t) (hE : E = ordE (τ 3) n a) (oc : OC σ E) (ot : OT τ E) : LX σ τ (τ 3) (τ 1) k n a b E := by
  obtain ⟨hr, hF, hV, hL, hC, hW⟩ := h
  obtain ⟨f1, f2, f3, f4, f5, f6, f7⟩ := hF
  have hn := hr.1.2.2.2.2
  obtain ⟨mf, m1, m2, m3⟩ := hr.2.2.2.2.2.1
  exact ⟨⟨hn, f2, f5⟩, hV, hL, oc, hE, by rw [hE]; exact ordE_len hn f2 f3, f3, f6, rfl, f4, hr.2.2.2.2.2.2.2.2, ot, ⟨mf, by omega, m2⟩, hr.2.2.2.2.2.2.1, hr.2.2.2.2.2.2.2.1⟩
theorem sim26 : Sim26 Rel := by
  intro σ τ x1 hR
  replace hR := Rel_0 hR 0
  unfold fX12_formatLabel fX11_formatLabel
  have h00 : up τ 0 0 0 0 0 = 0 := up_e _ _ _ _
  generalize up τ 0 0 (0 : Int32) = τ at *
  obtain ⟨k, n, a, b, d, t, hO⟩ := RO_of hR
  obtain ⟨ρ, υ, e1, e2, hO2, oc, ot, f1, f2⟩ := ord_RO hO
  obtain ⟨hr, hF, hV, hL', hC, hW⟩ := hO
  have hn := hr.1.2.2.2.2
  have hL := ordE_len (F := τ 3) hn hF.2.1 hF.2.2.1
  have hR2 := RO_rel hO2
  have u0 : υ 0 0 = 0 := (f2 0 0 (by omega)).trans h00
  have e10 : ¬ (ι 1 = (0 : Int32)) := by decide
  have hX := LX_of hO2 (by rw [fr8_3 f2]) oc ot
  rcases leaf_cases x1 (ordE (τ 3) n a).length with ⟨i, hi, rfl⟩ | hx
  · obtain ⟨w, ρ1, υ1, a1, a2, a3, a4, a5, a6, a7, a8⟩ := place_sim (o := 35) hX (Or.inl rfl) hi
    obtain ⟨ω, b1, b2, b3, b4⟩ := r_tells a4
    unfold fX8_size
    simp only [c_reqPlace e1 hL oc hi, r_isPlace e2 hL ot hi, if_neg e10, Option.bind_some, Nat.zero_add, a1, a2, b1]
    refine ⟨_, _, 0, rfl, rfl, Or.inl ⟨_, rfl, rfl⟩, fun v hv => (by cases hv; exact a3.2.2.2.1.symm), ?_, fmt_Rel hR2 (by omega) a6 a7 a3 b2 b3 b4⟩
    show ω 0 0 = 0
    rw [b4 0 0 (by omega), a7 0 0 (by omega)]; exact u0
  · rw [c_reqPlace_no e1 hL oc hx, r_isPlace_no e2 hL ot hx]
    simp only [Option.bind_some, l_0, if_true, ref_fails]
    exact ⟨_, _, 1, rfl, rfl, Or.inr ⟨rfl, rfl⟩, fun v hv => (by cases hv), z_bad, Rel_0 hR2 _⟩
theorem sim27 : Sim27 Rel := by
  intro σ τ x1 x2 hR
  replace hR := Rel_0 hR 0
  unfold fX12_formatLeafLabel fX11_formatLeafLabel
  have h00 : up τ 0 0 0 0 0 = 0 := up_e _ _ _ _
  generalize up τ 0 0 (0 : Int32) = τ at *
  obtain ⟨k, n, a, b, d, t, hO⟩ := RO_of hR
  obtain ⟨hr, hF, hV, hL, hC, hW⟩ := hO
  have hn := hr.1.2.2.2.2
  have e10 : ¬ (ι 1 = (0 : Int32)) := by decide
  obtain ⟨g1, g2, g3, g4, g5, g6, g7⟩ := hF
  rcases leaf_cases x1 n with ⟨i, hi, rfl⟩ | hx
  · rcases leaf_cases x2 2 with ⟨s, hs, rfl⟩ | hx
    · obtain ⟨mf, m1, m2, m3⟩ := hr.2.2.2.2.2.1
      have t0 : frT 35 σ (up σ 35 1 (ι 0)) := fun j a b => up_k _ _ _ _ _ a
      have T0 : TC (up σ 35 1 (ι 0)) 35 236 [] := ⟨ln36, by omega, Nat.zero_le _, up_e _ _ _ _, fun i hi => absurd hi (Nat.not_lt_zero i)⟩
      have q0 : frW τ (up τ 0 21 (ι 0)) := fun k j hk => by rw [up_g, if_neg (by omega)]
      have Q0 : TR (up τ 0 21 (ι 0)) [] := ⟨Nat.zero_le _, up_e _ _ _ _, fun i hi => absurd hi (Nat.not_lt_zero i)⟩
      have e3 : up τ 0 21 (ι 0) 3 = τ 3 := by rw [up_k _ _ _ _ _ (by omega)]
      obtain ⟨ρ1, a1, a2, a3⟩ := c_lab (σ := up σ 35 1 (ι 0)) hn g5 (LR_c g5 hL (fun j hj => up_k _ _ _ _ _ (by omega)) (fun _ _ => rfl)) g6 (show i < 60 by omega) hs T0 (show 0 + 12 ≤ 236 by omega)
      obtain ⟨υ1, b1, b2, b3⟩ := r_lab (τ := up τ 0 21 (ι 0)) (b := b) hn (by rw [e3]; exact g4) g5 (by rw [e3]; exact g6) (frW_Ro q0 hr.2.2.2.2.2.2.2.2) (show i < 60 by omega) hs Q0 (show 0 + 12 ≤ 400 by omega)
      rw [e3] at b2
      obtain ⟨ω, c1, c2, c3, c4⟩ := r_tells b2
      have hlen := lab_len (F := τ 3) (b := b) hn g6 (show i < 60 by omega) hs
      have s0 : fX8_shortenTo 35 (0 : Int32) σ = some (up σ 35 1 (ι 0)) := c_short (by omega) m2 (Nat.zero_le mf)
      have b1 : fX12_writesLeafLabel (ι i) (ι s) (up τ 0 21 (0 : Int32)) = some υ1 := b1
      unfold fX8_size
      simp only [c_reqLeaf hn hV hi, r_isLeaf hr.1 hr.2.1 (show i < 2147483648 by omega), if_pos hi, c_reqSide hs, r_isSide hs, if_neg e10, Option.bind_some, Nat.zero_add, s0, a1, b1, c1]
      refine ⟨_, _, 0, rfl, rfl, Or.inl ⟨_, rfl, rfl⟩, fun v hv => (by cases hv; exact a2.2.2.2.1.symm), ?_, fmt_Rel hR (by rw [List.nil_append]; omega) (frT_trans t0 a3) (frW_trans q0 b3) a2 c2 c3 c4⟩
      show ω 0 0 = 0
      rw [c4 0 0 (by omega), b3 0 0 (by omega), q0 0 0 (by omega)]; exact h00
    · simp only [c_reqLeaf hn hV hi, r_isLeaf hr.1 hr.2.1 (show i < 2147483648 by omega), if_pos hi, c_reqSide_no hx, r_isSide_no hx, if_neg e10, Option.bind_some, l_0, if_true, ref_fails]
      exact ⟨_, _, 2, rfl, rfl, Or.inr (Or.inr ⟨rfl, rfl⟩), fun v hv => (by cases hv), z_bad, Rel_0 hR _⟩
  · rw [c_reqLeaf_no hn hV hx, r_isLeaf_no hr.1 hr.2.1 hx]
    simp only [Option.bind_some, l_0, if_true, ref_fails]
    exact ⟨_, _, 1, rfl, rfl, Or.inr (Or.inl ⟨rfl, rfl⟩), fun v hv => (by cases hv), z_bad, Rel_0 hR _⟩

/-! PURE PART: labels that are sought -/
def nq (A B : Nat → Int32) (i : Nat) : Bool := decide (A i ≠ B i)
theorem nq_f {A B : Nat → Int32} {i : Nat} (e : A i = B i) : ¬ nq A B i = true := by
  unfold nq; rw [decide_eq_true_eq]; exact fun z => z e
theorem nq_t {A B : Nat → Int32} {i : Nat} (e : ¬ A i = B i) : nq A B i = true := by
  unfold nq; rw [decide_eq_true_eq]; exact e
theorem c_sb {σ : Mem} {o o' L L' m : Nat} (h1 : ln (o + 1) = L) (h1' : L ≤ 600) (h2 : m ≤ L) (h3 : σ o 1 = ι m) (g1 : ln (o' + 1) = L') (g1' : L' ≤ 600) (g2 : m ≤ L') (g3 : σ o' 1 = ι m) : ∀ m' n i, i + m' = m → m' < n → (fX8_hasSameBytes_l15 o o' n (ι i) σ).bind (fun q15 => match q15 with | .inl r => some r | .inr q15 => some (1 : Int32)) = some (if ff (nq (σ (o + 1)) (σ (o' + 1))) i m' = none then ι 1 else ι 0) := by
  intro m
  induction m with
  | zero =>
    intro n i h hn
    obtain ⟨n, rfl⟩ : ∃ k, n = k + 1 := ⟨n - 1, by omega⟩
    rw [fX8_hasSameBytes_l15]
    rw [h3, if_pos (by rw [ι_le (by omega) (by omega)]; omega), ff, if_pos rfl]; rfl
  | succ m ih =>
    intro n i h hn
    obtain ⟨n, rfl⟩ : ∃ k, n = k + 1 := ⟨n - 1, by omega⟩
    rw [fX8_hasSameBytes_l15]
    rw [h3, if_neg (by rw [ι_le (by omega) (by omega)]; omega), c_byteAt h1 h1' h2 h3 (by omega), Option.bind_some, c_byteAt g1 g1' g2 g3 (by omega), Option.bind_some, ff, l_1, ι_add]
    by_cases e : σ (o + 1) i = σ (o' + 1) i
    · rw [if_pos e, if_neg (nq_f e)]
      exact ih n (i + 1) (by omega) (by omega)
    · rw [if_neg e, if_pos (nq_t e), if_neg (by simp)]; rfl
theorem c_same {σ : Mem} {o o' L L' m m' : Nat} (h1 : ln (o + 1) = L) (h1' : L ≤ 600) (h2 : m ≤ L) (h3 : σ o 1 = ι m) (g1 : ln (o' + 1) = L') (g1' : L' ≤ 600) (g2 : m' ≤ L') (g3 : σ o' 1 = ι m') : fX8_hasSameBytes o o' σ = some (if m = m' ∧ ff (nq (σ (o + 1)) (σ (o' + 1))) 0 m = none then ι 1 else ι 0) := by
  unfold fX8_hasSameBytes
  rw [h3, g3, ite_eq (by omega) (by omega)]
  by_cases e : m = m'
  · rw [if_pos e]
    subst e
    have := c_sb h1 h1' h2 h3 g1 g1' g2 g3 m FU 0 (by omega) (by unfold FU; omega)
    by_cases c : ff (nq (σ (o + 1)) (σ (o' + 1))) 0 m = none
    · rw [if_pos ⟨rfl, c⟩]; rw [if_pos c] at this; exact this
    · rw [if_neg (fun z => c z.2)]; rw [if_neg c] at this; exact this
  · rw [if_neg e, if_neg (fun z => e z.1)]; rfl
theorem r_ib {τ : Mem} {m : Nat} (hm : m ≤ 400) (h0 : τ 0 21 = ι m) : ∀ m' n i, i + m' = m → m' < n → ∃ z, fX12_isBuffer_l24 n (ι 1) (ι i) τ = some (if ff (nq (τ 10) (τ 7)) i m' = none then ι 1 else ι 0, z) := by
  intro m
  induction m with
  | zero =>
    intro n i h hn
    obtain ⟨n, rfl⟩ : ∃ k, n = k + 1 := ⟨n - 1, by omega⟩
    rw [fX12_isBuffer_l24]
    rw [h0, if_pos (by rw [ι_le (by omega) (by omega)]; omega), ff, if_pos rfl]; exact ⟨_, rfl⟩
  | succ m ih =>
    intro n i h hn
    obtain ⟨n, rfl⟩ : ∃ k, n = k + 1 := ⟨n - 1, by omega⟩
    rw [fX12_isBuffer_l24]
    rw [h0, if_neg (by rw [ι_le (by omega) (by omega)]; omega), if_neg (by decide)]
    simp (disch := omega) only [l_0, l_1, l_2, l_3, l_4, l_5, l_6, l_7, l_8, l_9, l_10, l_12, l_13, l_24, l_31, l_32, l_40, l_41, l_42, l_44, l_45, l_48, l_49, l_50, l_57, l_59, l_60, l_65, l_88, l_89, l_97, l_98, l_99, l_100, l_105, l_108, l_109, l_114, l_118, l_120, l_122, l_144, l_255, l_269, l_279, l_339, l_400, l_600, l_999, l_1000, l_2373, l_2712, ι_lt, ι_le, ι_eq, ι_add, ι_mul, ι_sub, ι_div, ι_n, ι_m1, m1_ι, m1_lt, m1_le, lt_m1, le_m1, m1_lt_m1, m1_le_m1, m1_add1, neg_ι1, ι_addm, ι_addn, Bool.false_eq_true, Nat.not_lt_zero, Nat.add_zero, Nat.zero_add, Nat.mul_zero, Nat.reduceMul, Nat.reduceAdd, Nat.reduceSub, Nat.reduceLT, Nat.reduceLeDiff, Nat.reduceEqDiff, Nat.reduceDiv, Nat.reduceBEq, Nat.reduceBNe, false_or, or_false, true_or, or_true, and_true, true_and, false_and, and_false, not_false_eq_true, not_true_eq_false, if_true, if_false, if_pos, if_neg, Option.bind_some, ite_false, ite_true, eq_self, reduceIte, lm_0, lm_1, lm_2, lm_3, lm_4, lm_5, lm_6, lm_7, lm_8, lm_9, lm_10, lm_11, lm_12, lm_13, lm_14, lm_15, lm_16, lm_17]
    rw [ff]
    by_cases e : τ 10 i = τ 7 i
    · rw [if_pos e, if_neg (nq_f e)]
      exact ih n (i + 1) (by omega) (by omega)
    · rw [if_neg e, if_pos (nq_t e), if_neg (by simp)]
      obtain ⟨n, rfl⟩ : ∃ k, n = k + 1 := ⟨n - 1, by omega⟩
      rw [fX12_isBuffer_l24, h0]
      by_cases c : ι m ≤ ι (i + 1)
      · rw [if_pos c]; exact ⟨_, rfl⟩
      · rw [if_neg c, if_pos rfl]; exact ⟨_, rfl⟩
theorem r_is {τ : Mem} {m : Nat} (hm : m ≤ 400) (h0 : τ 0 21 = ι m) : ∀ m' n i, i + m' = m → m' < n → ∃ z, fX12_isSought_l22 n (ι 1) (ι i) τ = some (if ff (nq (τ 10) (τ 16)) i m' = none then ι 1 else ι 0, z) := by
  intro m
  induction m with
  | zero =>
    intro n i h hn
    obtain ⟨n, rfl⟩ : ∃ k, n = k + 1 := ⟨n - 1, by omega⟩
    rw [fX12_isSought_l22]
    rw [h0, if_pos (by rw [ι_le (by omega) (by omega)]; omega), ff, if_pos rfl]; exact ⟨_, rfl⟩
  | succ m ih =>
    intro n i h hn
    obtain ⟨n, rfl⟩ : ∃ k, n = k + 1 := ⟨n - 1, by omega⟩
    rw [fX12_isSought_l22]
    rw [h0, if_neg (by rw [ι_le (by omega) (by omega)]; omega), if_neg (by decide)]
    simp (disch := omega) only [l_0, l_1, l_2, l_3, l_4, l_5, l_6, l_7, l_8, l_9, l_10, l_12, l_13, l_24, l_31, l_32, l_40, l_41, l_42, l_44, l_45, l_48, l_49, l_50, l_57, l_59, l_60, l_65, l_88, l_89, l_97, l_98, l_99, l_100, l_105, l_108, l_109, l_114, l_118, l_120, l_122, l_144, l_255, l_269, l_279, l_339, l_400, l_600, l_999, l_1000, l_2373, l_2712, ι_lt, ι_le, ι_eq, ι_add, ι_mul, ι_sub, ι_div, ι_n, ι_m1, m1_ι, m1_lt, m1_le, lt_m1, le_m1, m1_lt_m1, m1_le_m1, m1_add1, neg_ι1, ι_addm, ι_addn, Bool.false_eq_true, Nat.not_lt_zero, Nat.add_zero, Nat.zero_add, Nat.mul_zero, Nat.reduceMul, Nat.reduceAdd, Nat.reduceSub, Nat.reduceLT, Nat.reduceLeDiff, Nat.reduceEqDiff, Nat.reduceDiv, Nat.reduceBEq, Nat.reduceBNe, false_or, or_false, true_or, or_true, and_true, true_and, false_and, and_false, not_false_eq_true, not_true_eq_false, if_true, if_false, if_pos, if_neg, Option.bind_some, ite_false, ite_true, eq_self, reduceIte, lm_0, lm_1, lm_2, lm_3, lm_4, lm_5, lm_6, lm_7, lm_8, lm_9, lm_10, lm_11, lm_12, lm_13, lm_14, lm_15, lm_16, lm_17]
    rw [ff]
    by_cases e : τ 10 i = τ 16 i
    · rw [if_pos e, if_neg (nq_f e)]
      exact ih n (i + 1) (by omega) (by omega)
    · rw [if_neg e, if_pos (nq_t e), if_neg (by simp)]
      obtain ⟨n, rfl⟩ : ∃ k, n = k + 1 := ⟨n - 1, by omega⟩
      rw [fX12_isSought_l22, h0]
      by_cases c : ι m ≤ ι (i + 1)
      · rw [if_pos c]; exact ⟨_, rfl⟩
      · rw [if_neg c, if_pos rfl]; exact ⟨_, rfl⟩
theorem r_isBuffer {τ υ : Mem} {p m mb : Nat} (h : fX12_laysLabel (ι p) τ = some υ) (h0 : υ 0 21 = ι m) (hm : m ≤ 400) (hb : υ 0 12 = ι mb) (hmb : mb ≤ 600) : fX12_isBuffer (ι p) τ = some (if m = mb ∧ ff (nq (υ 10) (υ 7)) 0 m = none then ι 1 else ι 0, υ) := by
  unfold fX12_isBuffer fX12_isBuffer_j21
  rw [h, Option.bind_some, h0, hb, ite_eq (by omega) (by omega)]
  by_cases e : m = mb
  · rw [if_pos e]
    obtain ⟨z, a⟩ := r_ib hm h0 m FU 0 (by omega) (by unfold FU; omega)
    have a : fX12_isBuffer_l24 FU (1 : Int32) (0 : Int32) υ = _ := a
    rw [a, Option.bind_some]
    by_cases c : ff (nq (υ 10) (υ 7)) 0 m = none
    · rw [if_pos c, if_pos ⟨e, c⟩]
      exact if_pos (Or.inr rfl)
    · rw [if_neg c, if_neg (fun z => c z.2)]
      exact if_pos (Or.inl rfl)
  · rw [if_neg e, if_neg (fun z => e z.1)]
    rw [show FU = 4095 + 1 from rfl, fX12_isBuffer_l24, h0]
    by_cases c : ι m ≤ (0 : Int32)
    · rw [if_pos c]; exact if_pos (Or.inl rfl)
    · rw [if_neg c, if_pos rfl]; exact if_pos (Or.inl rfl)
theorem r_isSought {τ υ : Mem} {p m mb : Nat} (h : fX12_laysLabel (ι p) τ = some υ) (h0 : υ 0 21 = ι m) (hm : m ≤ 400) (hmb : mb ≤ 600) : fX12_isSought (ι p) (ι mb) τ = some (if m = mb ∧ ff (nq (υ 10) (υ 16)) 0 m = none then ι 1 else ι 0, υ) := by
  unfold fX12_isSought fX12_isSought_j18
  rw [h, Option.bind_some, h0, ite_eq (by omega) (by omega)]
  by_cases e : m = mb
  · rw [if_pos e]
    obtain ⟨z, a⟩ := r_is hm h0 m FU 0 (by omega) (by unfold FU; omega)
    have a : fX12_isSought_l22 FU (1 : Int32) (0 : Int32) υ = _ := a
    rw [a, Option.bind_some]
    by_cases c : ff (nq (υ 10) (υ 16)) 0 m = none
    · rw [if_pos c, if_pos ⟨e, c⟩]
      exact if_pos (Or.inr rfl)
    · rw [if_neg c, if_neg (fun z => c z.2)]
      exact if_pos (Or.inl rfl)
  · rw [if_neg e, if_neg (fun z => e z.1)]
    rw [show FU = 4095 + 1 from rfl, fX12_isSought_l22, h0]
    by_cases c : ι m ≤ (0 : Int32)
    · rw [if_pos c]; exact if_pos (Or.inl rfl)
    · rw [if_neg c, if_pos rfl]; exact if_pos (Or.inl rfl)
theorem sx_hi : ∀ b, b < 128 → (ι (b + 128)).toInt8.toInt32 < ι 0 := by decide +kernel
theorem sx_cmp {c b : Nat} (hc : c < 128) (hb : b < 256) : (ι c = sx b) = (ι c = ι b) := by
  unfold sx
  by_cases h : b < 128
  · rw [nar_0 b h]
  · have h1 := sx_hi (b - 128) (by omega)
    rw [show b - 128 + 128 = b by omega] at h1
    rw [(neg0 h1 (show c < 2147483648 by omega)).2.2.2, ι_eq (by omega) (by omega)]
    exact (eq_false (by omega)).symm
theorem buf_cmp {ρ υ : Mem} {w : List Nat} {m mb L : Nat} (hC : TC ρ 39 L w) (hT : TR υ w) (hI : IRm ρ υ mb) (e : w.length = mb) : ff (nq (ρ 40) (ρ 34)) 0 w.length = ff (nq (υ 10) (υ 7)) 0 w.length := by
  refine ff_congr _ _ fun i _ hi => ?_
  have hi : i < w.length := by omega
  obtain ⟨b, b1, b2, b3, b4⟩ := hI.2.2.2 i (by omega)
  obtain ⟨t1, t2⟩ := hT.2.2 i hi
  have t3 : ρ 40 i = ι (gt w i) := hC.2.2.2.2 i hi
  unfold nq
  rw [t1, t3, b3, b4]
  have := sx_cmp t2 b2
  congr 1
  rw [Ne, Ne, this]
theorem IRm_c {σ ρ τ υ : Mem} {m : Nat} (h : IRm σ τ m) (a1 : ρ 33 = σ 33) (a2 : ρ 34 = σ 34) (a3 : υ 0 12 = τ 0 12) (a4 : υ 7 = τ 7) : IRm ρ υ m := by
  unfold IRm at *; rw [a1, a2, a3, a4]; exact h
theorem find_sim {F q : Nat → Int32} {k n a b mb : Nat} {E : List En} : ∀ m n1 n2 p (σ τ : Mem), p + m = E.length → m < n1 → m < n2 → LX σ τ F q k n a b E → IRm σ τ mb → ∃ v ρ υ, (fX11_findLabel_l7 0 n1 (ι p) σ).bind (fun q7 => match q7 with | .inl r => some r | .inr q7 => some (.inr (-1 : Int32), q7.2)) = some (.inr v, ρ) ∧ (fX12_findLabel_l31 n2 (ι p) τ).bind (fun q31 => match q31 with | .inl r => some r | .inr q31 => some ((-1 : Int32), q31.2)) = some (v, υ) ∧ frT 39 σ ρ ∧ frW τ υ ∧ Tx ρ 39 := by
  intro m
  induction m with
  | zero =>
    intro n1 n2 p σ τ hp h1 h2 hX hI
    obtain ⟨n1, rfl⟩ : ∃ k, n1 = k + 1 := ⟨n1 - 1, by omega⟩
    obtain ⟨n2, rfl⟩ : ∃ k, n2 = k + 1 := ⟨n2 - 1, by omega⟩
    have hE := hX.2.2.2.2.2.1
    have oc := hX.2.2.2.1.1
    have ot := hX.2.2.2.2.2.2.2.2.2.2.2.1.1
    refine ⟨-1, σ, τ, ?_, ?_, frT_refl _ _, frW_refl _, hX.2.2.2.2.2.2.2.2.2.2.2.2.2.2⟩
    · rw [fX11_findLabel_l7]
      unfold fX2_size
      rw [Option.bind_some, Nat.zero_add, oc, if_pos (by rw [ι_le (by omega) (by omega)]; omega)]; rfl
    · rw [fX12_findLabel_l31, ot, if_pos (by rw [ι_le (by omega) (by omega)]; omega)]; rfl
  | succ m ih =>
    intro n1 n2 p σ τ hp h1 h2 hX hI
    obtain ⟨n1, rfl⟩ : ∃ k, n1 = k + 1 := ⟨n1 - 1, by omega⟩
    obtain ⟨n2, rfl⟩ : ∃ k, n2 = k + 1 := ⟨n2 - 1, by omega⟩
    have hE := hX.2.2.2.2.2.1
    have oc := hX.2.2.2.1.1
    have ot := hX.2.2.2.2.2.2.2.2.2.2.2.1.1
    obtain ⟨w, ρ, υ, a1, a2, a3, a4, a5, a6, a7, a8⟩ := place_sim (o := 39) hX (Or.inr (Or.inr rfl)) (show p < E.length by omega)
    have hI2 : IRm ρ υ mb := IRm_c hI (a6 33 (by omega) (by omega)) (a6 34 (by omega) (by omega)) (a7 0 12 (by omega)) (funext fun j => a7 7 j (by omega))
    have r1 := r_isBuffer a2 a4.2.1 a4.1 hI2.2.2.1 hI2.1
    have c1 := c_same (o := 39) (o' := 33) a3.1 a3.2.1 a3.2.2.1 a3.2.2.2.1 ln34 (by omega) hI2.1 hI2.2.1
    have hcm : (w.length = mb ∧ ff (nq (ρ (39 + 1)) (ρ (33 + 1))) 0 w.length = none) = (w.length = mb ∧ ff (nq (υ 10) (υ 7)) 0 w.length = none) := by
      refine propext (and_congr_right fun e => ?_)
      have := buf_cmp (m := 0) a3 a4 hI2 e
      rw [show (39 + 1 : Nat) = 40 from rfl, show (33 + 1 : Nat) = 34 from rfl, this]
    have c1 : fX8_hasSameBytes 39 33 ρ = some (if w.length = mb ∧ ff (nq (υ 10) (υ 7)) 0 w.length = none then ι 1 else ι 0) := by
      rw [c1]; simp only [hcm]
    rw [fX11_findLabel_l7, fX12_findLabel_l31, ot, if_neg (by rw [ι_le (by omega) (by omega)]; omega)]
    unfold fX2_size
    rw [Option.bind_some, Nat.zero_add, Nat.zero_add, Nat.zero_add, oc, if_neg (by rw [ι_le (by omega) (by omega)]; omega), a1, Option.bind_some, c1, Option.bind_some, r1, Option.bind_some]
    by_cases c : w.length = mb ∧ ff (nq (υ 10) (υ 7)) 0 w.length = none
    · rw [if_pos c, if_neg (by decide)]
      exact ⟨ι p, ρ, υ, rfl, (by rw [if_neg (by decide)]; rfl), a6, a7, TC_Tx a3⟩
    · rw [if_neg c, if_pos (by decide)]
      obtain ⟨v, ρ', υ', b1, b2, b3, b4, b5⟩ := ih n1 n2 (p + 1) ρ υ (by omega) (by omega) (by omega) a8 hI2
      refine ⟨v, ρ', υ', ?_, ?_, frT_trans a6 b3, frW_trans a7 b4, b5⟩
      · rw [l_1, ι_add]; exact b1
      · rw [if_pos (by decide), l_1, ι_add]; exact b2
theorem txt_Rel {σ τ ρ υ : Mem} (hR : Rel σ τ) (h1 : ∀ j, ¬ (37 ≤ j ∧ j ≤ 40) → ρ j = σ j) (h2 : ∀ k j, ¬ (k = 10 ∨ k = 16 ∨ (k = 0 ∧ j = 21)) → υ k j = τ k j) (h3 : Tx ρ 37) (h4 : Tx ρ 39) : Rel ρ υ := by
  have hR' := hR
  obtain ⟨k, n, hr, hC'⟩ := hR'
  refine Rel_parts hR (fun j hj => h1 j (by omega)) (fun k j hk => h2 k j (by omega)) ?_ ?_ h3 h4
  · exact IR_c hr.2.2.2.2.1 (h1 33 (by omega)) (h1 34 (by omega)) (h2 0 12 (by omega)) (funext fun j => h2 7 j (by omega))
  · exact FR_c hr.2.2.2.2.2.1 (h1 35 (by omega)) (h1 36 (by omega)) (h2 0 20 (by omega)) (funext fun j => h2 9 j (by omega))
theorem sim28 : Sim28 Rel := by
  intro σ τ x1 hR
  replace hR := Rel_0 hR 0
  unfold fX12_findLabel fX11_findLabel
  have h00 : up τ 0 0 0 0 0 = 0 := up_e _ _ _ _
  generalize up τ 0 0 (0 : Int32) = τ at *
  obtain ⟨k, n, a, b, d, t, hO⟩ := RO_of hR
  obtain ⟨ρ, υ, e1, e2, hO2, oc, ot, f1, f2⟩ := ord_RO hO
  have hL := ordE_len (F := τ 3) hO.1.1.2.2.2.2 hO.2.1.2.1 hO.2.1.2.2.1
  have hR2 := RO_rel hO2
  have u0 : υ 0 0 = 0 := (f2 0 0 (by omega)).trans h00
  have e10 : ¬ (ι 1 = (0 : Int32)) := by decide
  have hX := LX_of hO2 (by rw [fr8_3 f2]) oc ot
  rw [e2, Option.bind_some, ot.1]
  rcases leaf_cases x1 ((ordE (τ 3) n a).length + 1) with ⟨i, hi, rfl⟩ | hx
  · obtain ⟨mb, hI⟩ := hO2.1.2.2.2.2.1
    obtain ⟨v, ρ', υ', b1, b2, b3, b4, b5⟩ := find_sim (mb := mb) ((ordE (τ 3) n a).length - i) FU FU i ρ υ (by omega) (by unfold FU; omega) (by unfold FU; omega) hX hI
    rw [r_inC (by omega) (by omega), Option.bind_some, if_neg e10, c_reqStart e1 hL oc (by omega), Option.bind_some]
    exact ⟨_, _, 0, b1, b2, Or.inl ⟨_, rfl, rfl⟩, fun v hv => (by cases hv; rfl), z_ok ((b4 0 0 (by omega)).trans u0), txt_Rel hR2 (fun j hj => b3 j (by omega) (by omega)) (fun k j hk => b4 k j (by omega)) (Tx_c hO2.1.2.2.2.2.2.2.1 (b3 37 (by omega) (by omega))) b5⟩
  · rw [c_reqStart_no e1 hL oc hx, r_inC_no (by omega) hx]
    simp only [Option.bind_some, l_0, if_true, ref_fails]
    exact ⟨_, _, 1, rfl, rfl, Or.inr ⟨rfl, rfl⟩, fun v hv => (by cases hv), z_bad, Rel_0 hR2 _⟩
theorem r_cp {l : List Nat} (hl : l.length ≤ 400) : ∀ m n i (τ : Mem), i + m = l.length → m < n → TR τ l → (∀ j, j < i → τ 16 j = ι (gt l j)) → ∃ z υ, fX12_sameLabels_l31 (ι l.length) n (ι i) τ = some (z, υ) ∧ (∀ j, j < l.length → υ 16 j = ι (gt l j)) ∧ ∀ k j, k ≠ 16 → υ k j = τ k j := by
  intro m
  induction m with
  | zero =>
    intro n i τ h hn ht hj
    obtain ⟨n, rfl⟩ : ∃ k, n = k + 1 := ⟨n - 1, by omega⟩
    rw [fX12_sameLabels_l31]
    rw [if_pos (by rw [ι_le (by omega) (by omega)]; omega)]
    exact ⟨_, _, rfl, fun j hj' => hj j (by omega), fun _ _ _ => rfl⟩
  | succ m ih =>
    intro n i τ h hn ht hj
    obtain ⟨n, rfl⟩ : ∃ k, n = k + 1 := ⟨n - 1, by omega⟩
    rw [fX12_sameLabels_l31]
    obtain ⟨e1, e2⟩ := ht.2.2 i (by omega)
    have e0 := ht.2.1
    obtain ⟨z, υ, b1, b2, b3⟩ := ih n (i + 1) (up τ 16 i (ι (gt l i))) (by omega) (by omega) ⟨ht.1, by rw [up_k _ _ _ _ _ (by omega)]; exact e0, fun j hj => by rw [up_k _ _ _ _ _ (by omega)]; exact ht.2.2 j hj⟩ (fun j hj' => by
      by_cases e : j = i
      · rw [e, up_e]
      · rw [up_j _ _ _ _ _ e]; exact hj j (by omega))
    refine ⟨z, υ, ?_, b2, fun k j hk => by rw [b3 k j hk, up_k _ _ _ _ _ hk]⟩
    simp (disch := omega) only [l_0, l_1, l_2, l_3, l_4, l_5, l_6, l_7, l_8, l_9, l_10, l_12, l_13, l_24, l_31, l_32, l_40, l_41, l_42, l_44, l_45, l_48, l_49, l_50, l_57, l_59, l_60, l_65, l_88, l_89, l_97, l_98, l_99, l_100, l_105, l_108, l_109, l_114, l_118, l_120, l_122, l_144, l_255, l_269, l_279, l_339, l_400, l_600, l_999, l_1000, l_2373, l_2712, ι_lt, ι_le, ι_eq, ι_add, ι_mul, ι_sub, ι_div, ι_n, ι_m1, m1_ι, m1_lt, m1_le, lt_m1, le_m1, m1_lt_m1, m1_le_m1, m1_add1, neg_ι1, ι_addm, ι_addn, Bool.false_eq_true, Nat.not_lt_zero, Nat.add_zero, Nat.zero_add, Nat.mul_zero, Nat.reduceMul, Nat.reduceAdd, Nat.reduceSub, Nat.reduceLT, Nat.reduceLeDiff, Nat.reduceEqDiff, Nat.reduceDiv, Nat.reduceBEq, Nat.reduceBNe, false_or, or_false, true_or, or_true, and_true, true_and, false_and, and_false, not_false_eq_true, not_true_eq_false, if_true, if_false, if_pos, if_neg, Option.bind_some, ite_false, ite_true, eq_self, reduceIte, lm_0, lm_1, lm_2, lm_3, lm_4, lm_5, lm_6, lm_7, lm_8, lm_9, lm_10, lm_11, lm_12, lm_13, lm_14, lm_15, lm_16, lm_17, e1, nar_d e2]
    exact b1
def SO (τ : Mem) (l : List Nat) : Prop := ∀ j, j < l.length → τ 16 j = ι (gt l j)
theorem same_sim {F q : Nat → Int32} {k n a b L : Nat} {E : List En} {u : List Nat} (hu : u.length ≤ 15) : ∀ m n1 n2 p c (σ τ : Mem), p + m = E.length → m < n1 → m < n2 → LX σ τ F q k n a b E → TC σ 37 L u → SO τ u → ∃ v z z' ρ υ, fX11_sameLabels_l18 0 n1 (ι c) (ι p) σ = some (v, z, ρ) ∧ fX12_sameLabels_l59 (ι u.length) n2 (ι c) (ι p) τ = some (v, z', υ) ∧ frT 39 σ ρ ∧ frW τ υ ∧ Tx ρ 39 := by
  intro m
  induction m with
  | zero =>
    intro n1 n2 p c σ τ hp h1 h2 hX hT hS
    obtain ⟨n1, rfl⟩ : ∃ k, n1 = k + 1 := ⟨n1 - 1, by omega⟩
    obtain ⟨n2, rfl⟩ : ∃ k, n2 = k + 1 := ⟨n2 - 1, by omega⟩
    have hE := hX.2.2.2.2.2.1
    have oc := hX.2.2.2.1.1
    have ot := hX.2.2.2.2.2.2.2.2.2.2.2.1.1
    refine ⟨ι c, ι p, ι p, σ, τ, ?_, ?_, frT_refl _ _, frW_refl _, hX.2.2.2.2.2.2.2.2.2.2.2.2.2.2⟩
    · rw [fX11_sameLabels_l18]
      unfold fX2_size
      rw [Option.bind_some, Nat.zero_add, oc, if_pos (by rw [ι_le (by omega) (by omega)]; omega)]
    · rw [fX12_sameLabels_l59, ot, if_pos (by rw [ι_le (by omega) (by omega)]; omega)]
  | succ m ih =>
    intro n1 n2 p c σ τ hp h1 h2 hX hT hS
    obtain ⟨n1, rfl⟩ : ∃ k, n1 = k + 1 := ⟨n1 - 1, by omega⟩
    obtain ⟨n2, rfl⟩ : ∃ k, n2 = k + 1 := ⟨n2 - 1, by omega⟩
    have hE := hX.2.2.2.2.2.1
    have oc := hX.2.2.2.1.1
    have ot := hX.2.2.2.2.2.2.2.2.2.2.2.1.1
    obtain ⟨w, ρ, υ, a1, a2, a3, a4, a5, a6, a7, a8⟩ := place_sim (o := 39) hX (Or.inr (Or.inr rfl)) (show p < E.length by omega)
    have hT2 : TC ρ 37 L u := by
      obtain ⟨q1, q2, q3, q4, q5⟩ := hT
      have f37 : ρ 37 = σ 37 := a6 37 (by omega) (by omega)
      have f38 : ρ 38 = σ 38 := a6 38 (by omega) (by omega)
      exact ⟨q1, q2, q3, by rw [f37]; exact q4, fun i hi => (congrFun f38 i).trans (q5 i hi)⟩
    have hS2 : SO υ u := fun j hj => (a7 16 j (by omega)).trans (hS j hj)
    have r1 := r_isSought (mb := u.length) a2 a4.2.1 a4.1 (by omega)
    have c1 := c_same (o := 39) (o' := 37) a3.1 a3.2.1 a3.2.2.1 a3.2.2.2.1 hT2.1 hT2.2.1 hT2.2.2.1 hT2.2.2.2.1
    have hcm : (w.length = u.length ∧ ff (nq (ρ (39 + 1)) (ρ (37 + 1))) 0 w.length = none) = (w.length = u.length ∧ ff (nq (υ 10) (υ 16)) 0 w.length = none) := by
      refine propext (and_congr_right fun e => ?_)
      rw [ff_congr (P := nq (ρ (39 + 1)) (ρ (37 + 1))) (Q := nq (υ 10) (υ 16)) w.length 0 fun i _ hi => ?_]
      have hi : i < w.length := by omega
      unfold nq
      rw [a3.2.2.2.2 i hi, (a4.2.2 i hi).1, hT2.2.2.2.2 i (by omega), hS2 i (by omega)]
    have c1 : fX8_hasSameBytes 39 37 ρ = some (if w.length = u.length ∧ ff (nq (υ 10) (υ 16)) 0 w.length = none then ι 1 else ι 0) := by
      rw [c1]; simp only [hcm]
    rw [fX11_sameLabels_l18, fX12_sameLabels_l59, ot, if_neg (by rw [ι_le (by omega) (by omega)]; omega)]
    unfold fX2_size
    rw [Option.bind_some, Nat.zero_add, Nat.zero_add, Nat.zero_add, oc, if_neg (by rw [ι_le (by omega) (by omega)]; omega), a1, Option.bind_some, c1, Option.bind_some, r1, Option.bind_some, l_1, l_0, ι_add, ι_add, ι_add, Nat.add_zero]
    by_cases cc : w.length = u.length ∧ ff (nq (υ 10) (υ 16)) 0 w.length = none
    · rw [if_pos cc, if_neg (by decide)]
      obtain ⟨v, z, z', ρ', υ', b1, b2, b3, b4, b5⟩ := ih n1 n2 (p + 1) (c + 1) ρ υ (by omega) (by omega) (by omega) a8 hT2 hS2
      refine ⟨v, z, z', ρ', υ', b1, ?_, frT_trans a6 b3, frW_trans a7 b4, b5⟩
      rw [if_neg (by decide)]; exact b2
    · rw [if_neg cc, if_pos (by decide)]
      obtain ⟨v, z, z', ρ', υ', b1, b2, b3, b4, b5⟩ := ih n1 n2 (p + 1) c ρ υ (by omega) (by omega) (by omega) a8 hT2 hS2
      refine ⟨v, z, z', ρ', υ', b1, ?_, frT_trans a6 b3, frW_trans a7 b4, b5⟩
      rw [if_pos (by decide)]; exact b2
theorem sim29 : Sim29 Rel := by
  intro σ τ x1 hR
  replace hR := Rel_0 hR 0
  unfold fX12_sameLabels fX11_sameLabels
  have h00 : up τ 0 0 0 0 0 = 0 := up_e _ _ _ _
  generalize up τ 0 0 (0 : Int32) = τ at *
  obtain ⟨k, n, a, b, d, t, hO⟩ := RO_of hR
  obtain ⟨ρ, υ, e1, e2, hO2, oc, ot, f1, f2⟩ := ord_RO hO
  have hL := ordE_len (F := τ 3) hO.1.1.2.2.2.2 hO.2.1.2.1 hO.2.1.2.2.1
  have hR2 := RO_rel hO2
  have u0 : υ 0 0 = 0 := (f2 0 0 (by omega)).trans h00
  have e10 : ¬ (ι 1 = (0 : Int32)) := by decide
  have hX := LX_of hO2 (by rw [fr8_3 f2]) oc ot
  rcases leaf_cases x1 (ordE (τ 3) n a).length with ⟨i, hi, rfl⟩ | hx
  · obtain ⟨w, ρ1, υ1, a1, a2, a3, a4, a5, a6, a7, a8⟩ := place_sim (o := 37) hX (Or.inr (Or.inl rfl)) hi
    obtain ⟨z, ω, b1, b2, b3⟩ := r_cp a4.1 w.length FU 0 υ1 (by omega) (by unfold FU; omega) a4 (fun j hj => absurd hj (Nat.not_lt_zero j))
    have b1 : fX12_sameLabels_l31 (ι w.length) FU (0 : Int32) υ1 = some (z, ω) := b1
    have hX2 : LX ρ1 ω _ _ _ _ _ _ _ := LX_c (o := 37) (ρ := ρ1) a8 (Or.inr (Or.inl rfl)) (frT_refl _ _) (TC_Tx a3) (fun k j hk => b3 k j (by omega))
    obtain ⟨v, z1, z2, ρ2, ω2, c1, c2, c3, c4, c5⟩ := same_sim a5 (ordE (τ 3) n a).length FU FU 0 0 ρ1 ω (by omega) (by unfold FU; omega) (by unfold FU; omega) hX2 a3 b2
    have c1 : fX11_sameLabels_l18 0 FU (0 : Int32) (0 : Int32) ρ1 = some (v, z1, ρ2) := c1
    have c2 : fX12_sameLabels_l59 (ι w.length) FU (0 : Int32) (0 : Int32) ω = some (v, z2, ω2) := c2
    simp only [c_reqPlace e1 hL oc hi, r_isPlace e2 hL ot hi, if_neg e10, Option.bind_some, Nat.zero_add, a1, a2, a4.2.1, b1, c1, c2]
    refine ⟨_, _, 0, rfl, rfl, Or.inl ⟨_, rfl, rfl⟩, fun v hv => (by cases hv; rfl), ?_, txt_Rel hR2 (fun j hj => (c3 j (by omega) (by omega)).trans (a6 j (by omega) (by omega))) (fun k j hk => (c4 k j (by omega)).trans ((b3 k j (by omega)).trans (a7 k j (by omega)))) (Tx_c (TC_Tx a3) (c3 37 (by omega) (by omega))) c5⟩
    show ω2 0 0 = 0
    rw [c4 0 0 (by omega), b3 0 0 (by omega), a7 0 0 (by omega)]; exact u0
  · rw [c_reqPlace_no e1 hL oc hx, r_isPlace_no e2 hL ot hx]
    simp only [Option.bind_some, l_0, if_true, ref_fails]
    exact ⟨_, _, 1, rfl, rfl, Or.inr ⟨rfl, rfl⟩, fun v hv => (by cases hv), z_bad, Rel_0 hR2 _⟩

/-! PURE PART: the collation -/
theorem sm_mono (f : Nat → Nat) {x y : Nat} (h : x ≤ y) : sm f 0 x ≤ sm f 0 y := by
  induction y with
  | zero => have e : x = 0 := by omega
            rw [e]; exact Nat.le_refl _
  | succ y ih =>
    by_cases e : x = y + 1
    · rw [e]; exact Nat.le_refl _
    · rw [sm_last]
      have := ih (by omega)
      omega
theorem q_end {q : Nat → Int32} {k n x : Nat} (hQ : QI q k n) (hx : x < k) : sm (qN q) 0 x + qN q x ≤ n := by
  have h := sm_last (qN q) x 0
  rw [Nat.zero_add] at h
  have := sm_mono (qN q) (show x + 1 ≤ k by omega)
  rw [hQ.2.2.2.1] at this
  omega
theorem VR_t {σ ρ : Mem} {q F : Nat → Int32} {k n a : Nat} (hn : n ≤ 60) (ha : a ≤ 12) (hV : VR σ 42 q k n a F) (h : frT 35 σ ρ) : VR ρ 42 q k n a F := VR_c hn ha hV (fun j hj => h _ (by omega) (by omega)) (fun _ _ => rfl)
def cz (c : Nat) : Nat := if c = 0 then 2 else 1
def cy (c : Nat) : Nat := if c = 0 then 0 else 1
theorem miss_sim {F qf : Nat → Int32} {k n a q : Nat} (hQ : QI qf k n) (ha : a ≤ 12) (hq : q < k) : ∀ m n1 n2 c i (σ τ : Mem) l, i + m = qN qf q → m < n1 → m < n2 → c ≤ i → VR σ 42 qf k n a F → τ 1 = qf → τ 0 3 = ι k → τ 3 = F → TC σ 35 236 l → TR τ l → l.length + 3 * m + cz c ≤ 236 → ∃ c' z z' ρ υ l', fX10_writeMissing_l12 42 (ι q) 35 (ι (sm (qN qf) 0 q)) n1 (ι c) (ι i) σ = some (ι c', z, ρ) ∧ fX12_writesMissing_l4 (ι q) n2 (ι c) (ι i) τ = some (ι c', z', υ) ∧ TC ρ 35 236 l' ∧ TR υ l' ∧ l'.length + cy c' ≤ l.length + 3 * m + cz c ∧ c' ≤ 12 ∧ frT 35 σ ρ ∧ frW τ υ := by
  have hn := hQ.2.2.2.2
  have hk := hQ.2.1
  obtain ⟨g1, g2, g3⟩ := hQ.2.2.1 q hq
  have hend := q_end hQ hq
  intro m
  induction m with
  | zero =>
    intro n1 n2 c i σ τ l hi h1 h2 hc hV t1 t2 t3 hT hR hl
    obtain ⟨n1, rfl⟩ : ∃ k, n1 = k + 1 := ⟨n1 - 1, by omega⟩
    obtain ⟨n2, rfl⟩ : ∃ k, n2 = k + 1 := ⟨n2 - 1, by omega⟩
    have e1 : fX3_at (42 + 1) (ι q) σ = some (ι (qN qf q)) := by
      rw [c_at hV.1.1 (by omega) (show q < 8 by omega), hV.2.2.2.2.1 q hq]; rw [← g1]
    have e2 : τ 1 q = ι (qN qf q) := by rw [t1]; exact g1
    refine ⟨c, ι i, ι i, σ, τ, l, ?_, ?_, hT, hR, ?_, by omega, frT_refl _ _, frW_refl _⟩
    · rw [fX10_writeMissing_l12, e1, Option.bind_some, if_pos (by rw [ι_le (by omega) (by omega)]; omega)]
    · rw [fX12_writesMissing_l4]
      simp (disch := omega) only [l_0, l_1, l_2, l_3, l_4, l_5, l_6, l_7, l_8, l_9, l_10, l_12, l_13, l_24, l_31, l_32, l_40, l_41, l_42, l_44, l_45, l_48, l_49, l_50, l_57, l_59, l_60, l_65, l_88, l_89, l_97, l_98, l_99, l_100, l_105, l_108, l_109, l_114, l_118, l_120, l_122, l_144, l_255, l_269, l_279, l_339, l_400, l_600, l_999, l_1000, l_2373, l_2712, ι_lt, ι_le, ι_eq, ι_add, ι_mul, ι_sub, ι_div, ι_n, ι_m1, m1_ι, m1_lt, m1_le, lt_m1, le_m1, m1_lt_m1, m1_le_m1, m1_add1, neg_ι1, ι_addm, ι_addn, Bool.false_eq_true, Nat.not_lt_zero, Nat.add_zero, Nat.zero_add, Nat.mul_zero, Nat.reduceMul, Nat.reduceAdd, Nat.reduceSub, Nat.reduceLT, Nat.reduceLeDiff, Nat.reduceEqDiff, Nat.reduceDiv, Nat.reduceBEq, Nat.reduceBNe, false_or, or_false, true_or, or_true, and_true, true_and, false_and, and_false, not_false_eq_true, not_true_eq_false, if_true, if_false, if_pos, if_neg, Option.bind_some, ite_false, ite_true, eq_self, reduceIte, lm_0, lm_1, lm_2, lm_3, lm_4, lm_5, lm_6, lm_7, lm_8, lm_9, lm_10, lm_11, lm_12, lm_13, lm_14, lm_15, lm_16, lm_17, e2]
    · unfold cy cz; split <;> omega
  | succ m ih =>
    intro n1 n2 c i σ τ l hi h1 h2 hc hV t1 t2 t3 hT hR hl
    obtain ⟨n1, rfl⟩ : ∃ k, n1 = k + 1 := ⟨n1 - 1, by omega⟩
    obtain ⟨n2, rfl⟩ : ∃ k, n2 = k + 1 := ⟨n2 - 1, by omega⟩
    have e1 : fX3_at (42 + 1) (ι q) σ = some (ι (qN qf q)) := by
      rw [c_at hV.1.1 (by omega) (show q < 8 by omega), hV.2.2.2.2.1 q hq]; rw [← g1]
    have e2 : τ 1 q = ι (qN qf q) := by rw [t1]; exact g1
    have e3 := c_isPresent hn hV (show sm (qN qf) 0 q + i < n by omega)
    have e4 : fX12_isPresent (ι (sm (qN qf) 0 q + i)) τ = some (if pB F (sm (qN qf) 0 q + i) then ι 1 else ι 0) := by
      rw [r_isPresent (by omega), t3]
    have e5 : fX12_firstOf (ι q) τ = some (ι (sm (qN qf) 0 q)) := by
      have := r_firstOf (τ := τ) (k := k) (n := n) (by rw [t1]; exact hQ) (show q ≤ k by omega)
      rw [t1] at this; exact this
    have hno : ¬ (ι (qN qf q) ≤ ι i) := by rw [ι_le (by omega) (by omega)]; omega
    have hfn : ¬ (ι q < (0 : Int32) ∨ lm 1 ≤ (ι q).toNatClampNeg) := by simp (disch := omega) only [l_0, l_1, l_2, l_3, l_4, l_5, l_6, l_7, l_8, l_9, l_10, l_12, l_13, l_24, l_31, l_32, l_40, l_41, l_42, l_44, l_45, l_48, l_49, l_50, l_57, l_59, l_60, l_65, l_88, l_89, l_97, l_98, l_99, l_100, l_105, l_108, l_109, l_114, l_118, l_120, l_122, l_144, l_255, l_269, l_279, l_339, l_400, l_600, l_999, l_1000, l_2373, l_2712, ι_lt, ι_le, ι_eq, ι_add, ι_mul, ι_sub, ι_div, ι_n, ι_m1, m1_ι, m1_lt, m1_le, lt_m1, le_m1, m1_lt_m1, m1_le_m1, m1_add1, neg_ι1, ι_addm, ι_addn, Bool.false_eq_true, Nat.not_lt_zero, Nat.add_zero, Nat.zero_add, Nat.mul_zero, Nat.reduceMul, Nat.reduceAdd, Nat.reduceSub, Nat.reduceLT, Nat.reduceLeDiff, Nat.reduceEqDiff, Nat.reduceDiv, Nat.reduceBEq, Nat.reduceBNe, false_or, or_false, true_or, or_true, and_true, true_and, false_and, and_false, not_false_eq_true, not_true_eq_false, if_true, if_false, if_pos, if_neg, Option.bind_some, ite_false, ite_true, eq_self, reduceIte, lm_0, lm_1, lm_2, lm_3, lm_4, lm_5, lm_6, lm_7, lm_8, lm_9, lm_10, lm_11, lm_12, lm_13, lm_14, lm_15, lm_16, lm_17]; omega
    have hqn : (ι q).toNatClampNeg = q := ι_n (by omega)
    rw [fX10_writeMissing_l12, fX12_writesMissing_l4, e1, Option.bind_some, if_neg hno, if_neg hfn, hqn, e2, if_neg hno, e5, Option.bind_some, ι_add, e3, Option.bind_some, e4, Option.bind_some, l_1, ι_add, ι_add]
    by_cases hp : pB F (sm (qN qf) 0 q + i) = true
    · rw [if_pos hp, if_neg (by decide)]
      obtain ⟨c', z, z', ρ, υ, l', b1, b2, b3, b4, b5, b6, b7, b8⟩ := ih n1 n2 c (i + 1) σ τ l (by omega) (by omega) (by omega) (by omega) hV t1 t2 t3 hT hR (by omega)
      exact ⟨c', z, z', ρ, υ, l', b1, by rw [if_neg (by decide)]; exact b2, b3, b4, by omega, b6, b7, b8⟩
    · rw [if_neg hp, if_pos (by decide)]
      have hd := dec_len2 (v := i + 1) (by omega)
      by_cases hc0 : c = 0
      · have hcz : cz c = 2 := by unfold cz; rw [if_pos hc0]
        have hci : ι c = (0 : Int32) := by rw [hc0]; rfl
        obtain ⟨σ1, a1, a2, a3⟩ := c_w (c := 40) hT (by omega)
        obtain ⟨σ2, a4, a5, a6⟩ := c_w (c := 45) a2 (by rw [len1]; omega)
        obtain ⟨σ3, a7, a8, a9⟩ := c_dec (v := i + 1) (by omega) a5 (by rw [len1, len1]; omega)
        obtain ⟨τ1, d1, d2, d3⟩ := r_w (c := 40) hR (by omega) (by omega)
        obtain ⟨τ2, d4, d5, d6⟩ := r_w (c := 45) d2 (by rw [len1]; omega) (by omega)
        obtain ⟨τ3, d7, d8, d9⟩ := r_dec (v := i + 1) (by omega) (by omega) d5 (by rw [len1, len1]; omega)
        have fσ := frT_trans a3 (frT_trans a6 a9)
        have fτ := frW_trans d3 (frW_trans d6 d9)
        have hcz1 : cz (c + 1) = 1 := by unfold cz; rw [if_neg (by omega)]
        have hl3 : (l ++ [40] ++ [45] ++ dec (i + 1)).length ≤ l.length + 4 := by rw [List.length_append, len1, len1]; omega
        obtain ⟨c', z, z', ρ, υ, l', b1, b2, b3, b4, b5, b6, b7, b8⟩ := ih n1 n2 (c + 1) (i + 1) σ3 τ3 _ (by omega) (by omega) (by omega) (by omega) (VR_t hn ha hV fσ) (by rw [← t1]; exact funext fun j => fτ 1 j (by omega)) ((fτ 0 3 (by omega)).trans t2) (by rw [← t3]; exact funext fun j => fτ 3 j (by omega)) a8 d8 (by omega)
        have a1 : fX8_add 35 (40 : Int32) σ = some σ1 := a1
        have a4 : fX8_add 35 (45 : Int32) σ1 = some σ2 := a4
        have d1 : fX12_writes (40 : Int32) τ = some τ1 := d1
        have d4 : fX12_writes (45 : Int32) τ1 = some τ2 := d4
        refine ⟨c', z, z', ρ, υ, l', ?_, ?_, b3, b4, by omega, b6, frT_trans fσ b7, frW_trans fτ b8⟩
        · rw [if_pos hci, a1, Option.bind_some, a4, Option.bind_some, a7, Option.bind_some]; exact b1
        · rw [if_pos (by decide), if_pos hci, d1, Option.bind_some, if_pos hci, d4, Option.bind_some, d7, Option.bind_some]; exact b2
      · have hcz : cz c = 1 := by unfold cz; rw [if_neg hc0]
        have hci : ¬ ι c = (0 : Int32) := by rw [l_0, ι_eq (by omega) (by omega)]; exact hc0
        obtain ⟨σ1, a1, a2, a3⟩ := c_w (c := 44) hT (by omega)
        obtain ⟨σ3, a7, a8, a9⟩ := c_dec (v := i + 1) (by omega) a2 (by rw [len1]; omega)
        obtain ⟨τ1, d1, d2, d3⟩ := r_w (c := 44) hR (by omega) (by omega)
        obtain ⟨τ3, d7, d8, d9⟩ := r_dec (v := i + 1) (by omega) (by omega) d2 (by rw [len1]; omega)
        have fσ := frT_trans a3 a9
        have fτ := frW_trans d3 d9
        have hcz1 : cz (c + 1) = 1 := by unfold cz; rw [if_neg (by omega)]
        have hl3 : (l ++ [44] ++ dec (i + 1)).length ≤ l.length + 3 := by rw [List.length_append, len1]; omega
        obtain ⟨c', z, z', ρ, υ, l', b1, b2, b3, b4, b5, b6, b7, b8⟩ := ih n1 n2 (c + 1) (i + 1) σ3 τ3 _ (by omega) (by omega) (by omega) (by omega) (VR_t hn ha hV fσ) (by rw [← t1]; exact funext fun j => fτ 1 j (by omega)) ((fτ 0 3 (by omega)).trans t2) (by rw [← t3]; exact funext fun j => fτ 3 j (by omega)) a8 d8 (by omega)
        have a1 : fX8_add 35 (44 : Int32) σ = some σ1 := a1
        have d1 : fX12_writes (44 : Int32) τ = some τ1 := d1
        refine ⟨c', z, z', ρ, υ, l', ?_, ?_, b3, b4, by omega, b6, frT_trans fσ b7, frW_trans fτ b8⟩
        · rw [if_neg hci, a1, Option.bind_some, a7, Option.bind_some]; exact b1
        · rw [if_pos (by decide), if_neg hci, d1, Option.bind_some, if_neg hci, d7, Option.bind_some]; exact b2
theorem wm_sim {F qf : Nat → Int32} {k n a q : Nat} (hQ : QI qf k n) (ha : a ≤ 12) (hq : q < k) (σ τ : Mem) (l : List Nat) (hV : VR σ 42 qf k n a F) (t1 : τ 1 = qf) (t2 : τ 0 3 = ι k) (t3 : τ 3 = F) (hT : TC σ 35 236 l) (hR : TR τ l) (hl : l.length + 3 * qN qf q + 2 ≤ 236) : ∃ ρ υ l', fX10_writeMissing 42 (ι q) 35 σ = some ρ ∧ fX12_writesMissing (ι q) τ = some υ ∧ TC ρ 35 236 l' ∧ TR υ l' ∧ l'.length ≤ l.length + 3 * qN qf q + 2 ∧ frT 35 σ ρ ∧ frW τ υ := by
  have hg := (hQ.2.2.1 q hq).2.2
  obtain ⟨c', z, z', ρ, υ, l', b1, b2, b3, b4, b5, b6, b7, b8⟩ := miss_sim hQ ha hq (qN qf q) FU FU 0 0 σ τ l (by omega) (by unfold FU; omega) (by unfold FU; omega) (by omega) hV t1 t2 t3 hT hR (by unfold cz; rw [if_pos rfl]; omega)
  have hz : cz 0 = 2 := rfl
  rw [hz] at b5
  have b1 : fX10_writeMissing_l12 42 (ι q) 35 (ι (sm (qN qf) 0 q)) FU (0 : Int32) (0 : Int32) σ = some (ι c', z, ρ) := b1
  have b2 : fX12_writesMissing_l4 (ι q) FU (0 : Int32) (0 : Int32) τ = some (ι c', z', υ) := b2
  unfold fX10_writeMissing fX12_writesMissing
  rw [c_firstLeafOf hQ hV (show q ≤ k by omega), Option.bind_some, b1, b2, Option.bind_some, Option.bind_some]
  by_cases hc : c' = 0
  · have e : ι c' ≤ (0 : Int32) := by rw [hc]; decide
    refine ⟨ρ, υ, l', if_pos e, if_pos e, b3, b4, by omega, b7, b8⟩
  · have e : ¬ ι c' ≤ (0 : Int32) := by rw [l_0, ι_le (by omega) (by omega)]; omega
    have hy : cy c' = 1 := by unfold cy; rw [if_neg hc]
    obtain ⟨ρ1, a1, a2, a3⟩ := c_w (c := 41) b3 (by omega)
    obtain ⟨υ1, d1, d2, d3⟩ := r_w (c := 41) b4 (by omega) (by omega)
    have a1 : fX8_add 35 (41 : Int32) ρ = some ρ1 := a1
    have d1 : fX12_writes (41 : Int32) υ = some υ1 := d1
    refine ⟨ρ1, υ1, _, (if_neg e).trans (by rw [a1, Option.bind_some]), (if_neg e).trans (by rw [d1, Option.bind_some]), a2, d2, by rw [len1]; omega, frT_trans b7 a3, frW_trans b8 d3⟩
theorem coll_sim {F qf : Nat → Int32} {k n a : Nat} (hQ : QI qf k n) (ha : a ≤ 12) : ∀ m n1 n2 i (σ τ : Mem) l, i + m = k → m < n1 → m < n2 → VR σ 42 qf k n a F → τ 1 = qf → τ 0 3 = ι k → τ 3 = F → TC σ 35 236 l → TR τ l → l.length + 6 * m + 3 * sm (qN qf) i m ≤ 236 → ∃ z z' ρ υ l', fX10_writeCollation_l2 42 35 n1 (ι i) σ = some (z, ρ) ∧ fX12_formatCollation_l12 n2 (ι i) τ = some (z', υ) ∧ TC ρ 35 236 l' ∧ TR υ l' ∧ frT 35 σ ρ ∧ frW τ υ := by
  have hn := hQ.2.2.2.2
  have hk := hQ.2.1
  intro m
  induction m with
  | zero =>
    intro n1 n2 i σ τ l hi h1 h2 hV t1 t2 t3 hT hR hl
    obtain ⟨n1, rfl⟩ : ∃ k, n1 = k + 1 := ⟨n1 - 1, by omega⟩
    obtain ⟨n2, rfl⟩ : ∃ k, n2 = k + 1 := ⟨n2 - 1, by omega⟩
    refine ⟨ι i, ι i, σ, τ, l, ?_, ?_, hT, hR, frT_refl _ _, frW_refl _⟩
    · rw [fX10_writeCollation_l2, hV.2.1, if_pos (by rw [ι_le (by omega) (by omega)]; omega)]
    · rw [fX12_formatCollation_l12, t2, if_pos (by rw [ι_le (by omega) (by omega)]; omega)]
  | succ m ih =>
    intro n1 n2 i σ τ l hi h1 h2 hV t1 t2 t3 hT hR hl
    obtain ⟨n1, rfl⟩ : ∃ k, n1 = k + 1 := ⟨n1 - 1, by omega⟩
    obtain ⟨n2, rfl⟩ : ∃ k, n2 = k + 1 := ⟨n2 - 1, by omega⟩
    rw [sm] at hl
    have hik : i < k := by omega
    obtain ⟨g1, g2, g3⟩ := hQ.2.2.1 i hik
    have key : ∀ (σ τ : Mem) (l : List Nat), VR σ 42 qf k n a F → τ 1 = qf → τ 0 3 = ι k → τ 3 = F → TC σ 35 236 l → TR τ l → l.length + 5 + 6 * m + 3 * (qN qf i + sm (qN qf) (i + 1) m) ≤ 236 → ∃ z z' ρ υ l', fX10_writeCollation_j20 (fX10_writeCollation_l2 42 35 n1) 42 35 (ι i) σ = some (z, ρ) ∧ fX12_formatCollation_j30 (fX12_formatCollation_l12 n2) (ι i) τ = some (z', υ) ∧ TC ρ 35 236 l' ∧ TR υ l' ∧ frT 35 σ ρ ∧ frW τ υ := by
      intro σ τ l hV t1 t2 t3 hT hR hl
      have hd := dec_len2 (v := qN qf i) (by omega)
      obtain ⟨σ1, a1, a2, a3⟩ := c_w (c := 65 + i) hT (by omega)
      obtain ⟨τ1, d1, d2, d3⟩ := r_w (c := 65 + i) hR (by omega) (by omega)
      have hV1 := VR_t hn ha hV a3
      have e1 : fX3_at (42 + 1) (ι i) σ1 = some (ι (qN qf i)) := by
        rw [c_at hV1.1.1 (by omega) (show i < 8 by omega), hV1.2.2.2.2.1 i hik]; rw [← g1]
      have e2 : τ1 1 i = ι (qN qf i) := by rw [d3 1 i (by omega), t1]; exact g1
      obtain ⟨σ2, a4, a5, a6⟩ := c_dec (v := qN qf i) (by omega) a2 (by rw [len1]; omega)
      obtain ⟨τ2, d4, d5, d6⟩ := r_dec (v := qN qf i) (by omega) (by omega) d2 (by rw [len1]; omega)
      have fσ := frT_trans a3 a6
      have fτ := frW_trans d3 d6
      have s1 : τ2 1 = qf := by rw [← t1]; exact funext fun j => fτ 1 j (by omega)
      have s2 : τ2 0 3 = ι k := (fτ 0 3 (by omega)).trans t2
      have s3 : τ2 3 = F := by rw [← t3]; exact funext fun j => fτ 3 j (by omega)
      have hl2 : (l ++ [65 + i] ++ dec (qN qf i)).length ≤ l.length + 3 := by rw [List.length_append, len1]; omega
      obtain ⟨σ3, τ3, l3, b1, b2, b3, b4, b5, b6, b7⟩ := wm_sim hQ ha hik σ2 τ2 _ (VR_t hn ha hV fσ) s1 s2 s3 a5 d5 (by omega)
      have fσ := frT_trans fσ b6
      have fτ := frW_trans fτ b7
      obtain ⟨z, z', ρ, υ, l', c1, c2, c3, c4, c5, c6⟩ := ih n1 n2 (i + 1) σ3 τ3 l3 (by omega) (by omega) (by omega) (VR_t hn ha hV fσ) (by rw [← t1]; exact funext fun j => fτ 1 j (by omega)) ((fτ 0 3 (by omega)).trans t2) (by rw [← t3]; exact funext fun j => fτ 3 j (by omega)) b3 b4 (by omega)
      have hfn : ¬ (ι i < (0 : Int32) ∨ lm 1 ≤ (ι i).toNatClampNeg) := by simp (disch := omega) only [l_0, l_1, l_2, l_3, l_4, l_5, l_6, l_7, l_8, l_9, l_10, l_12, l_13, l_24, l_31, l_32, l_40, l_41, l_42, l_44, l_45, l_48, l_49, l_50, l_57, l_59, l_60, l_65, l_88, l_89, l_97, l_98, l_99, l_100, l_105, l_108, l_109, l_114, l_118, l_120, l_122, l_144, l_255, l_269, l_279, l_339, l_400, l_600, l_999, l_1000, l_2373, l_2712, ι_lt, ι_le, ι_eq, ι_add, ι_mul, ι_sub, ι_div, ι_n, ι_m1, m1_ι, m1_lt, m1_le, lt_m1, le_m1, m1_lt_m1, m1_le_m1, m1_add1, neg_ι1, ι_addm, ι_addn, Bool.false_eq_true, Nat.not_lt_zero, Nat.add_zero, Nat.zero_add, Nat.mul_zero, Nat.reduceMul, Nat.reduceAdd, Nat.reduceSub, Nat.reduceLT, Nat.reduceLeDiff, Nat.reduceEqDiff, Nat.reduceDiv, Nat.reduceBEq, Nat.reduceBNe, false_or, or_false, true_or, or_true, and_true, true_and, false_and, and_false, not_false_eq_true, not_true_eq_false, if_true, if_false, if_pos, if_neg, Option.bind_some, ite_false, ite_true, eq_self, reduceIte, lm_0, lm_1, lm_2, lm_3, lm_4, lm_5, lm_6, lm_7, lm_8, lm_9, lm_10, lm_11, lm_12, lm_13, lm_14, lm_15, lm_16, lm_17]; omega
      have hqn : (ι i).toNatClampNeg = i := ι_n (by omega)
      refine ⟨z, z', ρ, υ, l', ?_, ?_, c3, c4, frT_trans fσ c5, frW_trans fτ c6⟩
      · unfold fX10_writeCollation_j20
        rw [l_65, ι_add, a1, Option.bind_some, e1, Option.bind_some, a4, Option.bind_some, b1, Option.bind_some, l_1, ι_add]; exact c1
      · unfold fX12_formatCollation_j30
        rw [l_65, ι_add, d1, Option.bind_some, if_neg hfn, hqn, e2, d4, Option.bind_some, b2, Option.bind_some, l_1, ι_add]; exact c2
    rw [fX10_writeCollation_l2, fX12_formatCollation_l12, hV.2.1, t2]
    have hno : ¬ (ι k ≤ ι i) := by rw [ι_le (by omega) (by omega)]; omega
    rw [if_neg hno, if_neg hno]
    by_cases hi0 : i = 0
    · have e : ι i ≤ (0 : Int32) := by rw [hi0]; decide
      rw [if_pos e, if_pos e]
      exact key σ τ l hV t1 t2 t3 hT hR (by omega)
    · have e : ¬ ι i ≤ (0 : Int32) := by rw [l_0, ι_le (by omega) (by omega)]; omega
      rw [if_neg e, if_neg e]
      obtain ⟨σ1, a1, a2, a3⟩ := c_w (c := 32) hT (by omega)
      obtain ⟨τ1, d1, d2, d3⟩ := r_w (c := 32) hR (by omega) (by omega)
      have a1 : fX8_add 35 (32 : Int32) σ = some σ1 := a1
      have d1 : fX12_writes (32 : Int32) τ = some τ1 := d1
      rw [a1, d1, Option.bind_some, Option.bind_some]
      obtain ⟨z, z', ρ, υ, l', c1, c2, c3, c4, c5, c6⟩ := key σ1 τ1 _ (VR_t hn ha hV a3) (by rw [← t1]; exact funext fun j => d3 1 j (by omega)) ((d3 0 3 (by omega)).trans t2) (by rw [← t3]; exact funext fun j => d3 3 j (by omega)) a2 d2 (by rw [len1]; omega)
      exact ⟨z, z', ρ, υ, l', c1, c2, c3, c4, frT_trans a3 c5, frW_trans d3 c6⟩
theorem sim21 : Sim21 Rel := by
  intro σ τ hR
  replace hR := Rel_0 hR 0
  unfold fX12_formatCollation fX11_formatCollation
  generalize up τ 0 0 (0 : Int32) = τ at *
  obtain ⟨k, n, a, b, d, t, hO⟩ := RO_of hR
  obtain ⟨hr, hF, hV, hL, hC, hW⟩ := hO
  have hn := hr.1.2.2.2.2
  have hk := hr.1.2.1
  obtain ⟨mf, m1, m2, m3⟩ := hr.2.2.2.2.2.1
  have t0 : frT 35 σ (up σ 35 1 (ι 0)) := fun j a b => up_k _ _ _ _ _ a
  have T0 : TC (up σ 35 1 (ι 0)) 35 236 [] := ⟨ln36, by omega, Nat.zero_le _, up_e _ _ _ _, fun i hi => absurd hi (Nat.not_lt_zero i)⟩
  have q0 : frW τ (up τ 0 21 (ι 0)) := fun k j hk => by rw [up_g, if_neg (by omega)]
  have Q0 : TR (up τ 0 21 (ι 0)) [] := ⟨Nat.zero_le _, up_e _ _ _ _, fun i hi => absurd hi (Nat.not_lt_zero i)⟩
  have s0 : fX8_shortenTo 35 (0 : Int32) σ = some (up σ 35 1 (ι 0)) := c_short (by omega) m2 (Nat.zero_le mf)
  have hs := hr.1.2.2.2.1
  obtain ⟨z, z', ρ, υ, l', c1, c2, c3, c4, c5, c6⟩ := coll_sim (F := τ 3) hr.1 hF.2.1 k FU FU 0 (up σ 35 1 (ι 0)) (up τ 0 21 (ι 0)) [] (by omega) (by unfold FU; omega) (by unfold FU; omega) (VR_t hn hF.2.1 hV t0) (by rw [up_k _ _ _ _ _ (by omega)]) (by rw [up_j _ _ _ _ _ (by omega)]; exact hr.2.1) (by rw [up_k _ _ _ _ _ (by omega)]) T0 Q0 (by rw [hs]; show 0 + 6 * k + 3 * n ≤ 236; omega)
  obtain ⟨ω, e1, e2, e3, e4⟩ := r_tells c4
  have c1 : fX10_writeCollation_l2 42 35 FU (0 : Int32) (up σ 35 1 (ι 0)) = some (z, ρ) := c1
  have c2 : fX12_formatCollation_l12 FU (0 : Int32) (up τ 0 21 (0 : Int32)) = some (z', υ) := c2
  unfold fX8_size fX10_writeCollation
  simp only [Nat.zero_add, s0, Option.bind_some, c1, c2, e1]
  refine ⟨_, _, _, rfl, ?_, fmt_Rel hR c3.2.2.1 (frT_trans t0 c5) (frW_trans q0 c6) c3 e2 e3 e4⟩
  rw [c3.2.2.2.1]
