/-! PURE PART: the reference's tokens -/
def frL (τ υ : Mem) : Prop := ∀ k j, ¬ (k = 0 ∧ (j = 13 ∨ j = 14)) → υ k j = τ k j
def frM (τ υ : Mem) : Prop := ∀ k j, ¬ (k = 0 ∧ (j = 13 ∨ j = 14 ∨ j = 15)) → υ k j = τ k j
theorem frL_M {τ υ : Mem} (h : frL τ υ) : frM τ υ := fun k j hk => h k j (by omega)
theorem frM_trans {τ υ ω : Mem} (h1 : frM τ υ) (h2 : frM υ ω) : frM τ ω := fun k j hk => (h2 k j hk).trans (h1 k j hk)
theorem frM_BR {B : Nat → Nat} {m : Nat} {τ υ : Mem} (h : frM τ υ) (hB : BR B m τ) : BR B m υ := BR_c hB (h 0 12 (by omega)) (funext fun j => h 7 j (by omega))
theorem sx_and : ∀ b, b < 256 → (ι b).toInt8.toInt32 &&& (255 : Int32) = ι b := by decide +kernel
theorem r_here {B : Nat → Nat} {m p : Nat} {τ : Mem} (h : BR B m τ) (hp : p ≤ m) (h13 : τ 0 13 = ι p) : fX12_here τ = some (bv B m p) := by
  have hm := h.1
  unfold fX12_here bv
  rw [h.2.1, h13, ite_le (by omega) (by omega)]
  by_cases c : m ≤ p
  · rw [if_pos c, if_pos c]; rfl
  · rw [if_neg c, if_neg c]
    have hb := h.2.2 p (by omega)
    rw [if_neg (by simp (disch := omega) only [l_0, l_1, l_2, l_3, l_4, l_5, l_6, l_7, l_8, l_9, l_10, l_12, l_13, l_24, l_31, l_32, l_40, l_41, l_42, l_44, l_45, l_48, l_49, l_50, l_57, l_59, l_60, l_65, l_88, l_89, l_97, l_98, l_99, l_100, l_105, l_108, l_109, l_114, l_118, l_120, l_122, l_144, l_255, l_269, l_279, l_339, l_400, l_600, l_999, l_1000, l_2373, l_2712, ι_lt, ι_le, ι_eq, ι_add, ι_mul, ι_sub, ι_div, ι_n, ι_m1, m1_ι, m1_lt, m1_le, lt_m1, le_m1, m1_lt_m1, m1_le_m1, m1_add1, neg_ι1, ι_addm, ι_addn, Bool.false_eq_true, Nat.not_lt_zero, Nat.add_zero, Nat.zero_add, Nat.mul_zero, Nat.reduceMul, Nat.reduceAdd, Nat.reduceSub, Nat.reduceLT, Nat.reduceLeDiff, Nat.reduceEqDiff, Nat.reduceDiv, Nat.reduceBEq, Nat.reduceBNe, false_or, or_false, true_or, or_true, and_true, true_and, false_and, and_false, not_false_eq_true, not_true_eq_false, if_true, if_false, if_pos, if_neg, Option.bind_some, ite_false, ite_true, eq_self, reduceIte, lm_0, lm_1, lm_2, lm_3, lm_4, lm_5, lm_6, lm_7, lm_8, lm_9, lm_10, lm_11, lm_12, lm_13, lm_14, lm_15, lm_16, lm_17]; omega), ι_n (by omega), hb.2]
    unfold sx
    rw [sx_and _ hb.1]
theorem r_l0 {B : Nat → Nat} {m t : Nat} (ht : t ≤ m) (h2 : t < m → B t ≠ 32) : ∀ d n x (τ : Mem), x + d = t → d < n → (∀ i, x ≤ i → i < t → B i = 32) → BR B m τ → τ 0 13 = ι x → ∃ υ, fX12_look_l0 n τ = some υ ∧ υ 0 13 = ι t ∧ ∀ k j, ¬ (k = 0 ∧ j = 13) → υ k j = τ k j := by
  intro d
  induction d with
  | zero =>
    intro n x τ hx hn hsp hB h13
    obtain ⟨n, rfl⟩ : ∃ k, n = k + 1 := ⟨n - 1, by omega⟩
    have e : x = t := by omega
    subst e
    refine ⟨τ, ?_, h13, fun _ _ _ => rfl⟩
    rw [fX12_look_l0, r_here hB ht h13, Option.bind_some, if_neg]
    unfold bv
    by_cases c : m ≤ x
    · rw [if_pos c]; decide
    · have hb := hB.2.2 x (by omega)
      rw [if_neg c, l_32, ι_eq (by omega) (by omega)]
      exact h2 (by omega)
  | succ d ih =>
    intro n x τ hx hn hsp hB h13
    obtain ⟨n, rfl⟩ : ∃ k, n = k + 1 := ⟨n - 1, by omega⟩
    obtain ⟨υ, a1, a2, a3⟩ := ih n (x + 1) (up τ 0 13 (ι (x + 1))) (by omega) (by omega) (fun i g1 g2 => hsp i (by omega) g2) (BR_c hB (up_j _ _ _ _ _ (by omega)) (up_k _ _ _ _ _ (by omega))) (up_e _ _ _ _)
    refine ⟨υ, ?_, a2, fun k j hk => by rw [a3 k j hk, up_g, if_neg hk]⟩
    rw [fX12_look_l0, r_here hB (by omega) h13, Option.bind_some, if_pos (by unfold bv; rw [if_neg (by omega), hsp x (by omega) (by omega)]; rfl), h13, l_1, ι_add]
    exact a1
theorem r_look {B : Nat → Nat} {m p : Nat} {τ : Mem} (h : BR B m τ) (hp : p ≤ m) (h13 : τ 0 13 = ι p) : ∃ υ, fX12_look τ = some (bv B m (Skp B m p), υ) ∧ υ 0 13 = ι (Skp B m p) ∧ υ 0 14 = ι (Skp B m p) ∧ frL τ υ := by
  obtain ⟨s1, s2, s3, s4⟩ := Skp_spec (B := B) hp
  have hm := h.1
  obtain ⟨υ, a1, a2, a3⟩ := r_l0 s2 s4 (Skp B m p - p) FU p τ (by omega) (by unfold FU; omega) s3 h h13
  have e13 : up υ 0 14 (ι (Skp B m p)) 0 13 = ι (Skp B m p) := by rw [up_j _ _ _ _ _ (by omega)]; exact a2
  have fr : frL τ (up υ 0 14 (ι (Skp B m p))) := fun k j hk => by rw [up_g, if_neg (by omega)]; exact a3 k j (by omega)
  refine ⟨up υ 0 14 (ι (Skp B m p)), ?_, e13, up_e _ _ _ _, fr⟩
  unfold fX12_look
  rw [a1, Option.bind_some, a2, r_here (frM_BR (frL_M fr) h) s2 e13, Option.bind_some]
theorem r_fine {τ : Mem} (h : τ 0 15 = μ) : fX12_isFine τ = some (ι 1) := by
  unfold fX12_isFine; rw [h, if_neg (by decide)]; rfl
theorem r_notf {τ : Mem} {s : Nat} (h : τ 0 15 = ι s) (hs : s ≤ 600) : fX12_isFine τ = some (ι 0) := by
  unfold fX12_isFine; rw [h, if_pos (by rw [l_0, ι_le (by omega) (by omega)]; omega)]; rfl
theorem r_wrong {τ : Mem} (h : τ 0 15 = μ) (x : Int32) : fX12_wrongAt x τ = some (up τ 0 15 x) := by
  unfold fX12_wrongAt; rw [h, if_neg (by decide)]
theorem r_wrong_no {τ : Mem} {s : Nat} (h : τ 0 15 = ι s) (hs : s ≤ 600) (x : Int32) : fX12_wrongAt x τ = some τ := by
  unfold fX12_wrongAt; rw [h, if_pos (by rw [l_0, ι_le (by omega) (by omega)]; omega)]
theorem r_isLetter {b : Nat} (hb : b < 256) (τ : Mem) : fX12_isLetter (sx b) τ = some (if 97 ≤ b ∧ b ≤ 122 then ι 1 else ι 0) := by
  unfold fX12_isLetter sx
  by_cases h : b < 128
  · rw [nar_0 b h]
    simp (disch := omega) only [l_0, l_1, l_2, l_3, l_4, l_5, l_6, l_7, l_8, l_9, l_10, l_12, l_13, l_24, l_31, l_32, l_40, l_41, l_42, l_44, l_45, l_48, l_49, l_50, l_57, l_59, l_60, l_65, l_88, l_89, l_97, l_98, l_99, l_100, l_105, l_108, l_109, l_114, l_118, l_120, l_122, l_144, l_255, l_269, l_279, l_339, l_400, l_600, l_999, l_1000, l_2373, l_2712, ι_lt, ι_le, ι_eq, ι_add, ι_mul, ι_sub, ι_div, ι_n, ι_m1, m1_ι, m1_lt, m1_le, lt_m1, le_m1, m1_lt_m1, m1_le_m1, m1_add1, neg_ι1, ι_addm, ι_addn, Bool.false_eq_true, Nat.not_lt_zero, Nat.add_zero, Nat.zero_add, Nat.mul_zero, Nat.reduceMul, Nat.reduceAdd, Nat.reduceSub, Nat.reduceLT, Nat.reduceLeDiff, Nat.reduceEqDiff, Nat.reduceDiv, Nat.reduceBEq, Nat.reduceBNe, false_or, or_false, true_or, or_true, and_true, true_and, false_and, and_false, not_false_eq_true, not_true_eq_false, if_true, if_false, if_pos, if_neg, Option.bind_some, ite_false, ite_true, eq_self, reduceIte]
    repeat' split
    all_goals first | rfl | omega
  · have h1 := sx_hi (b - 128) (by omega)
    rw [show b - 128 + 128 = b by omega] at h1
    rw [if_pos (by rw [l_97, (neg0 h1 (by omega)).2.1]; exact trivial), if_neg (by omega)]; rfl
theorem r_l19 {B : Nat → Nat} {m t w : Nat} {τ : Mem} (hB : BR B m τ) (ht : t ≤ m) (h2 : t < m → ¬ (97 ≤ B t ∧ B t ≤ 122)) : ∀ d n x, x + d = t → d < n → (∀ i, x ≤ i → i < t → 97 ≤ B i ∧ B i ≤ 122) → fX12_takes_l19 w n (ι x) τ = some (ι t) := by
  have hm := hB.1
  intro m
  induction m with
  | zero =>
    intro n x h hn hd
    obtain ⟨n, rfl⟩ : ∃ k, n = k + 1 := ⟨n - 1, by omega⟩
    rw [fX12_takes_l19]
    have e : x = t := by omega
    subst e
    rw [hB.2.1]
    by_cases c : m ≤ x
    · rw [if_pos (by rw [ι_le (by omega) (by omega)]; exact c)]
    · have hb := hB.2.2 x (by omega)
      rw [if_neg (by rw [ι_le (by omega) (by omega)]; exact c), if_neg (by simp (disch := omega) only [l_0, l_1, l_2, l_3, l_4, l_5, l_6, l_7, l_8, l_9, l_10, l_12, l_13, l_24, l_31, l_32, l_40, l_41, l_42, l_44, l_45, l_48, l_49, l_50, l_57, l_59, l_60, l_65, l_88, l_89, l_97, l_98, l_99, l_100, l_105, l_108, l_109, l_114, l_118, l_120, l_122, l_144, l_255, l_269, l_279, l_339, l_400, l_600, l_999, l_1000, l_2373, l_2712, ι_lt, ι_le, ι_eq, ι_add, ι_mul, ι_sub, ι_div, ι_n, ι_m1, m1_ι, m1_lt, m1_le, lt_m1, le_m1, m1_lt_m1, m1_le_m1, m1_add1, neg_ι1, ι_addm, ι_addn, Bool.false_eq_true, Nat.not_lt_zero, Nat.add_zero, Nat.zero_add, Nat.mul_zero, Nat.reduceMul, Nat.reduceAdd, Nat.reduceSub, Nat.reduceLT, Nat.reduceLeDiff, Nat.reduceEqDiff, Nat.reduceDiv, Nat.reduceBEq, Nat.reduceBNe, false_or, or_false, true_or, or_true, and_true, true_and, false_and, and_false, not_false_eq_true, not_true_eq_false, if_true, if_false, if_pos, if_neg, Option.bind_some, ite_false, ite_true, eq_self, reduceIte, lm_0, lm_1, lm_2, lm_3, lm_4, lm_5, lm_6, lm_7, lm_8, lm_9, lm_10, lm_11, lm_12, lm_13, lm_14, lm_15, lm_16, lm_17]; omega), ι_n (by omega), hb.2, r_isLetter hb.1, Option.bind_some, if_neg (h2 (by omega)), if_pos (show ι 0 = (0 : Int32) from rfl)]
  | succ m ih =>
    intro n x h hn hd
    obtain ⟨n, rfl⟩ : ∃ k, n = k + 1 := ⟨n - 1, by omega⟩
    rw [fX12_takes_l19]
    have hb := hB.2.2 x (by omega)
    rw [hB.2.1, if_neg (by rw [ι_le (by omega) (by omega)]; omega), if_neg (by simp (disch := omega) only [l_0, l_1, l_2, l_3, l_4, l_5, l_6, l_7, l_8, l_9, l_10, l_12, l_13, l_24, l_31, l_32, l_40, l_41, l_42, l_44, l_45, l_48, l_49, l_50, l_57, l_59, l_60, l_65, l_88, l_89, l_97, l_98, l_99, l_100, l_105, l_108, l_109, l_114, l_118, l_120, l_122, l_144, l_255, l_269, l_279, l_339, l_400, l_600, l_999, l_1000, l_2373, l_2712, ι_lt, ι_le, ι_eq, ι_add, ι_mul, ι_sub, ι_div, ι_n, ι_m1, m1_ι, m1_lt, m1_le, lt_m1, le_m1, m1_lt_m1, m1_le_m1, m1_add1, neg_ι1, ι_addm, ι_addn, Bool.false_eq_true, Nat.not_lt_zero, Nat.add_zero, Nat.zero_add, Nat.mul_zero, Nat.reduceMul, Nat.reduceAdd, Nat.reduceSub, Nat.reduceLT, Nat.reduceLeDiff, Nat.reduceEqDiff, Nat.reduceDiv, Nat.reduceBEq, Nat.reduceBNe, false_or, or_false, true_or, or_true, and_true, true_and, false_and, and_false, not_false_eq_true, not_true_eq_false, if_true, if_false, if_pos, if_neg, Option.bind_some, ite_false, ite_true, eq_self, reduceIte, lm_0, lm_1, lm_2, lm_3, lm_4, lm_5, lm_6, lm_7, lm_8, lm_9, lm_10, lm_11, lm_12, lm_13, lm_14, lm_15, lm_16, lm_17]; omega), ι_n (by omega), hb.2, r_isLetter hb.1, Option.bind_some, if_pos (hd x (by omega) (by omega)), if_neg (by decide), l_1, ι_add]
    exact ih n (x + 1) (by omega) (by omega) (fun i g1 g2 => hd i (by omega) g2)
theorem r_l63 {B : Nat → Nat} {m s w : Nat} {τ : Mem} {X : Int32} (hB : BR B m τ) (h13 : τ 0 13 = ι s) (hw : s + wln w ≤ m) (hw7 : wln w ≤ 7) (hl : ∀ i, s ≤ i → i < s + wln w → 97 ≤ B i ∧ B i ≤ 122) : ∀ d n i, i + d = wln w → d < n → fX12_takes_l63 w X n (ι i) τ = some (if ff (wq B w s) i d = none then .inr (ι (wln w)) else .inl (ι 0, τ)) := by
  have hm := hB.1
  have el : Int32.ofNat (bytL.getD w []).length = ι (wln w) := rfl
  have el2 : (bytL.getD w []).length = wln w := rfl
  intro m
  induction m with
  | zero =>
    intro n i h hn
    obtain ⟨n, rfl⟩ : ∃ k, n = k + 1 := ⟨n - 1, by omega⟩
    rw [fX12_takes_l63]
    have e : i = wln w := by omega
    rw [el, if_pos (by rw [ι_le (by omega) (by omega)]; omega), ff, if_pos rfl, e]
  | succ m ih =>
    intro n i h hn
    obtain ⟨n, rfl⟩ : ∃ k, n = k + 1 := ⟨n - 1, by omega⟩
    rw [fX12_takes_l63]
    have hb := hB.2.2 (s + i) (by omega)
    have hc := hl (s + i) (by omega) (by omega)
    have hx : τ 7 (s + i) = ι (B (s + i)) := by rw [hb.2]; unfold sx; rw [nar_0 _ (by omega)]
    rw [el, if_neg (by rw [ι_le (by omega) (by omega)]; omega), h13, ι_add, if_neg (by simp (disch := omega) only [l_0, l_1, l_2, l_3, l_4, l_5, l_6, l_7, l_8, l_9, l_10, l_12, l_13, l_24, l_31, l_32, l_40, l_41, l_42, l_44, l_45, l_48, l_49, l_50, l_57, l_59, l_60, l_65, l_88, l_89, l_97, l_98, l_99, l_100, l_105, l_108, l_109, l_114, l_118, l_120, l_122, l_144, l_255, l_269, l_279, l_339, l_400, l_600, l_999, l_1000, l_2373, l_2712, ι_lt, ι_le, ι_eq, ι_add, ι_mul, ι_sub, ι_div, ι_n, ι_m1, m1_ι, m1_lt, m1_le, lt_m1, le_m1, m1_lt_m1, m1_le_m1, m1_add1, neg_ι1, ι_addm, ι_addn, Bool.false_eq_true, Nat.not_lt_zero, Nat.add_zero, Nat.zero_add, Nat.mul_zero, Nat.reduceMul, Nat.reduceAdd, Nat.reduceSub, Nat.reduceLT, Nat.reduceLeDiff, Nat.reduceEqDiff, Nat.reduceDiv, Nat.reduceBEq, Nat.reduceBNe, false_or, or_false, true_or, or_true, and_true, true_and, false_and, and_false, not_false_eq_true, not_true_eq_false, if_true, if_false, if_pos, if_neg, Option.bind_some, ite_false, ite_true, eq_self, reduceIte, lm_0, lm_1, lm_2, lm_3, lm_4, lm_5, lm_6, lm_7, lm_8, lm_9, lm_10, lm_11, lm_12, lm_13, lm_14, lm_15, lm_16, lm_17]; omega), el2, if_neg (by simp (disch := omega) only [l_0, l_1, l_2, l_3, l_4, l_5, l_6, l_7, l_8, l_9, l_10, l_12, l_13, l_24, l_31, l_32, l_40, l_41, l_42, l_44, l_45, l_48, l_49, l_50, l_57, l_59, l_60, l_65, l_88, l_89, l_97, l_98, l_99, l_100, l_105, l_108, l_109, l_114, l_118, l_120, l_122, l_144, l_255, l_269, l_279, l_339, l_400, l_600, l_999, l_1000, l_2373, l_2712, ι_lt, ι_le, ι_eq, ι_add, ι_mul, ι_sub, ι_div, ι_n, ι_m1, m1_ι, m1_lt, m1_le, lt_m1, le_m1, m1_lt_m1, m1_le_m1, m1_add1, neg_ι1, ι_addm, ι_addn, Bool.false_eq_true, Nat.not_lt_zero, Nat.add_zero, Nat.zero_add, Nat.mul_zero, Nat.reduceMul, Nat.reduceAdd, Nat.reduceSub, Nat.reduceLT, Nat.reduceLeDiff, Nat.reduceEqDiff, Nat.reduceDiv, Nat.reduceBEq, Nat.reduceBNe, false_or, or_false, true_or, or_true, and_true, true_and, false_and, and_false, not_false_eq_true, not_true_eq_false, if_true, if_false, if_pos, if_neg, Option.bind_some, ite_false, ite_true, eq_self, reduceIte]; omega), ι_n (by omega), ι_n (by omega), hx, ff, l_1, ι_add]
    by_cases e : ι (B (s + i)) = (bytL.getD w []).getD i 0
    · have hq : ¬ wq B w s i = true := by unfold wq; rw [decide_eq_true_eq]; exact fun z => z e
      rw [if_pos e, if_neg hq]
      exact ih n (i + 1) (by omega) (by omega)
    · have hq : wq B w s i = true := by unfold wq; rw [decide_eq_true_eq]; exact e
      rw [if_neg e, if_pos hq, if_neg (by simp)]; rfl
def RP (B : Nat → Nat) (m : Nat) (τ : Mem) (p : Nat) : Prop := BR B m τ ∧ p ≤ m ∧ τ 0 13 = ι p ∧ τ 0 15 = μ
theorem r_takes {B : Nat → Nat} {m p s w : Nat} {τ : Mem} (h : RP B m τ p) (hs : Skp B m p = s) (hw1 : 1 ≤ wln w) (hw7 : wln w ≤ 7) : ∃ υ, fX12_takes w τ = some (if isW B m w s then ι 1 else ι 0, υ) ∧ RP B m υ (if isW B m w s then Tk B m s else s) ∧ υ 0 14 = ι s ∧ frL τ υ := by
  obtain ⟨hB, hp, h13, h15⟩ := h
  have hm := hB.1
  obtain ⟨s1, s2, s3, s4⟩ := Skp_spec (B := B) hp
  obtain ⟨υ, a1, a2, a3, a4⟩ := r_look hB hp h13
  rw [hs] at s1 s2 s3 s4 a1 a2 a3
  obtain ⟨t1, t2, t3, t4⟩ := Tk_spec (B := B) s2
  have hB2 := frM_BR (frL_M a4) hB
  have e15 : υ 0 15 = μ := (a4 0 15 (by omega)).trans h15
  have el : Int32.ofNat (bytL.getD w []).length = ι (wln w) := rfl
  unfold fX12_takes
  rw [r_fine h15, Option.bind_some, if_neg (by decide), a1, Option.bind_some]
  show ∃ ω, ((fX12_takes_l19 w FU (υ 0 13) υ).bind fun q19 => fX12_takes_j45 w q19 υ) = some (if isW B m w s = true then ι 1 else ι 0, ω) ∧ _
  unfold fX12_takes_j45
  rw [a2, el]
  have hno : isW B m w s = false → ∃ ω, (some ((0 : Int32), υ) : Option (Int32 × Mem)) = some (if isW B m w s = true then ι 1 else ι 0, ω) ∧ RP B m ω (if isW B m w s = true then Tk B m s else s) ∧ ω 0 14 = ι s ∧ frL τ ω := fun z => by
    rw [z]
    exact ⟨υ, rfl, ⟨hB2, s2, a2, e15⟩, a3, a4⟩
  by_cases k1 : Kd B m s = 1
  · obtain ⟨g1, g2⟩ := t3 (by omega)
    have hlet : ∀ i, s ≤ i → i < Tk B m s → 97 ≤ B i ∧ B i ≤ 122 := fun i z1 z2 => by
      have := g1 i z1 z2
      rw [k1] at this
      exact (Kd_1.mp this).2
    rw [r_l19 hB2 t2 (fun z y => by
      have := (Kd_1 (B := B)).mpr ⟨z, y⟩
      omega) (Tk B m s - s) FU s (by omega) (by unfold FU; omega) hlet, Option.bind_some, ι_sub t1, ite_eq (by omega) (by omega)]
    by_cases c2 : Tk B m s - s = wln w
    · rw [if_pos c2, l_0, r_l63 (X := ι (Tk B m s)) hB2 a2 (by omega) hw7 (fun i z1 z2 => hlet i z1 (by omega)) (wln w) FU 0 (by omega) (by unfold FU; omega), Option.bind_some]
      by_cases c3 : ff (wq B w s) 0 (wln w) = none
      · rw [if_pos c3]
        have hi : isW B m w s = true := by unfold isW; rw [decide_eq_true_eq]; exact ⟨k1, by omega, c3⟩
        rw [hi]
        refine ⟨up υ 0 13 (ι (Tk B m s)), rfl, ⟨BR_c hB2 (up_j _ _ _ _ _ (by omega)) (up_k _ _ _ _ _ (by omega)), t2, up_e _ _ _ _, ?_⟩, ?_, fun k j hk => ?_⟩
        · rw [up_j _ _ _ _ _ (by omega)]; exact e15
        · rw [up_j _ _ _ _ _ (by omega)]; exact a3
        · rw [up_g, if_neg (by omega)]; exact a4 k j hk
      · rw [if_neg c3]
        exact hno (by unfold isW; rw [decide_eq_false_iff_not]; exact fun z => c3 z.2.2)
    · rw [if_neg c2]
      exact hno (by unfold isW; rw [decide_eq_false_iff_not]; omega)
  · rw [r_l19 hB2 s2 (fun z y => k1 (Kd_1.mpr ⟨z, y⟩)) 0 FU s (by omega) (by unfold FU; omega) (fun i z1 z2 => by omega), Option.bind_some, ι_sub (Nat.le_refl s), Nat.sub_self, ite_eq (by omega) (by omega), if_neg (by omega)]
    exact hno (by unfold isW; rw [decide_eq_false_iff_not]; exact fun z => k1 z.1)
theorem r_isDigit {B : Nat → Nat} {m i : Nat} (hb : i < m → B i < 256) (τ : Mem) : fX12_isDigit (bv B m i) τ = some (if Kd B m i = 2 then ι 1 else ι 0) := by
  unfold fX12_isDigit bv
  by_cases c : m ≤ i
  · rw [if_pos c, if_pos (by decide), if_neg (fun z => by have := (Kd_2.mp z).1; omega)]; rfl
  · have := hb (by omega)
    rw [if_neg c]
    simp (disch := omega) only [l_0, l_1, l_2, l_3, l_4, l_5, l_6, l_7, l_8, l_9, l_10, l_12, l_13, l_24, l_31, l_32, l_40, l_41, l_42, l_44, l_45, l_48, l_49, l_50, l_57, l_59, l_60, l_65, l_88, l_89, l_97, l_98, l_99, l_100, l_105, l_108, l_109, l_114, l_118, l_120, l_122, l_144, l_255, l_269, l_279, l_339, l_400, l_600, l_999, l_1000, l_2373, l_2712, ι_lt, ι_le, ι_eq, ι_add, ι_mul, ι_sub, ι_div, ι_n, ι_m1, m1_ι, m1_lt, m1_le, lt_m1, le_m1, m1_lt_m1, m1_le_m1, m1_add1, neg_ι1, ι_addm, ι_addn, Bool.false_eq_true, Nat.not_lt_zero, Nat.add_zero, Nat.zero_add, Nat.mul_zero, Nat.reduceMul, Nat.reduceAdd, Nat.reduceSub, Nat.reduceLT, Nat.reduceLeDiff, Nat.reduceEqDiff, Nat.reduceDiv, Nat.reduceBEq, Nat.reduceBNe, false_or, or_false, true_or, or_true, and_true, true_and, false_and, and_false, not_false_eq_true, not_true_eq_false, if_true, if_false, if_pos, if_neg, Option.bind_some, ite_false, ite_true, eq_self, reduceIte]
    by_cases k2 : Kd B m i = 2
    · have z := Kd_2.mp k2
      rw [if_pos k2, if_neg (by omega), if_neg (by omega)]
    · rw [if_neg k2]
      by_cases c1 : B i < 48
      · rw [if_pos c1]
      · rw [if_neg c1, if_pos]
        exact Nat.lt_of_not_le fun z => k2 (Kd_2.mpr ⟨by omega, by omega, z⟩)
theorem r_l17 {B : Nat → Nat} {m t s : Nat} {X Z : Int32} (ht : t ≤ m) (h2 : Kd B m t ≠ 2) : ∀ d n x a (τ : Mem), x + d = t → d < n → s ≤ x → (∀ i, x ≤ i → i < t → Kd B m i = 2) → BR B m τ → τ 0 13 = ι x → τ 0 14 = ι s → ∃ a' υ, fX12_number_l17 X Z n (ι a) τ = some (ι a', υ) ∧ υ 0 13 = ι t ∧ (t - s ≤ 4 → a' = nm B x d a) ∧ ∀ k j, ¬ (k = 0 ∧ j = 13) → υ k j = τ k j := by
  intro d
  induction d with
  | zero =>
    intro n x a τ hx hn hsx hd hB h13 h14
    obtain ⟨n, rfl⟩ : ∃ k, n = k + 1 := ⟨n - 1, by omega⟩
    have e : x = t := by omega
    subst e
    refine ⟨a, τ, ?_, h13, fun _ => rfl, fun _ _ _ => rfl⟩
    rw [fX12_number_l17, r_here hB ht h13, Option.bind_some, r_isDigit (fun z => (hB.2.2 x z).1), Option.bind_some, if_neg h2, if_pos (show ι 0 = (0 : Int32) from rfl)]
  | succ d ih =>
    intro n x a τ hx hn hsx hd hB h13 h14
    obtain ⟨n, rfl⟩ : ∃ k, n = k + 1 := ⟨n - 1, by omega⟩
    have hm := hB.1
    have k2 := hd x (by omega) (by omega)
    have hb := Kd_2.mp k2
    have step : ∀ y, ∃ a' υ, fX12_number_l17 X Z n (ι y) (up τ 0 13 (ι (x + 1))) = some (ι a', υ) ∧ υ 0 13 = ι t ∧ (t - s ≤ 4 → a' = nm B (x + 1) d y) ∧ ∀ k j, ¬ (k = 0 ∧ j = 13) → υ k j = τ k j := fun y => by
      obtain ⟨a', υ, b1, b2, b3, b4⟩ := ih n (x + 1) y (up τ 0 13 (ι (x + 1))) (by omega) (by omega) (by omega) (fun i g1 g2 => hd i (by omega) g2) (BR_c hB (up_j _ _ _ _ _ (by omega)) (up_k _ _ _ _ _ (by omega))) (up_e _ _ _ _) (by rw [up_j _ _ _ _ _ (by omega)]; exact h14)
      exact ⟨a', υ, b1, b2, b3, fun k j hk => by rw [b4 k j hk, up_g, if_neg hk]⟩
    rw [fX12_number_l17, r_here hB (by omega) h13, Option.bind_some, r_isDigit (fun z => (hB.2.2 x z).1), Option.bind_some, if_pos k2, if_neg (by decide), h13, h14, ι_sub hsx, l_4, l_1, ι_add, Option.bind_some, ite_le (by omega) (by omega)]
    by_cases c : 4 ≤ x - s
    · rw [if_pos c]
      obtain ⟨a', υ, b1, b2, b3, b4⟩ := step a
      exact ⟨a', υ, b1, b2, fun z => by omega, b4⟩
    · rw [if_neg c]
      unfold bv
      rw [if_neg (by omega), l_10, l_48, ι_mul, ι_add, ι_sub (by omega), nm]
      exact step _
def numT (x1 x2 : Int32) (a : Int32) (ω : Mem) : Option (Int32 × Mem) := if (ω 0 13) = (ω 0 14) then ((fX12_wrongAt (ω 0 14) ω).bind fun v115 => some (x1, v115)) else (if (4 : Int32) < ((ω 0 13) - (ω 0 14)) then ((fX12_wrongAt (ω 0 14) ω).bind fun v115 => some (x1, v115)) else ((fX12_isIn a.toInt64 x1.toInt64 x2.toInt64 ω).bind fun v104 => if v104 = 0 then ((fX12_wrongAt (ω 0 14) ω).bind fun v115 => some (x1, v115)) else (some (a, ω))))
theorem number_eq {τ : Mem} (h : τ 0 15 = μ) (x z : Int32) : fX12_number x z τ = (fX12_look τ).bind fun v10 => (fX12_number_l17 x z FU (0 : Int32) v10.2).bind fun q17 => numT x z q17.1 q17.2 := by
  unfold fX12_number; rw [r_fine h, Option.bind_some, if_neg (by decide)]; rfl
theorem r_num {B : Nat → Nat} {m p s x : Nat} {z : Int32} {τ : Mem} (h : RP B m τ p) (hs : Skp B m p = s) (hx : x < 2147483648) :
    (∀ v, nv B m s = some v → ι x ≤ ι v → ι v ≤ z → ∃ υ, fX12_number (ι x) z τ = some (ι v, υ) ∧ RP B m υ (Tk B m s) ∧ υ 0 14 = ι s ∧ frL τ υ) ∧
    ((∀ v, nv B m s = some v → ¬ (ι x ≤ ι v ∧ ι v ≤ z)) → ∃ υ p', fX12_number (ι x) z τ = some (ι x, υ) ∧ υ 0 15 = ι s ∧ p' ≤ m ∧ υ 0 13 = ι p' ∧ frM τ υ) := by
  obtain ⟨hB, hp, h13, h15⟩ := h
  have hm := hB.1
  obtain ⟨s1, s2, s3, s4⟩ := Skp_spec (B := B) hp
  obtain ⟨υ, a1, a2, a3, a4⟩ := r_look hB hp h13
  rw [hs] at s1 s2 s3 s4 a1 a2 a3
  obtain ⟨t1, t2, t3, t4⟩ := Tk_spec (B := B) s2
  have hB2 := frM_BR (frL_M a4) hB
  have e15 : υ 0 15 = μ := (a4 0 15 (by omega)).trans h15
  rw [number_eq h15, a1, Option.bind_some]
  have bad : ∀ (ω : Mem) (p' : Nat), p' ≤ m → ω 0 13 = ι p' → ω 0 14 = ι s → (∀ k j, ¬ (k = 0 ∧ j = 13) → ω k j = υ k j) → ∃ υ p', ((fX12_wrongAt (ω 0 14) ω).bind fun v115 => some (ι x, v115)) = some (ι x, υ) ∧ υ 0 15 = ι s ∧ p' ≤ m ∧ υ 0 13 = ι p' ∧ frM τ υ := fun ω p' q1 q2 q3 q4 => by
    have e : ω 0 15 = μ := (q4 0 15 (by omega)).trans e15
    refine ⟨up ω 0 15 (ι s), p', ?_, up_e _ _ _ _, q1, ?_, fun k j hk => ?_⟩
    · rw [r_wrong e, Option.bind_some, q3]
    · rw [up_j _ _ _ _ _ (by omega)]; exact q2
    · rw [up_g, if_neg (by omega), q4 k j (by omega)]; exact a4 k j (by omega)
  by_cases k2 : Kd B m s = 2
  · obtain ⟨g1, g2⟩ := t3 (by omega)
    have hlt := t4 (by omega)
    have hkt : Kd B m (Tk B m s) ≠ 2 := by
      rcases g2 with g2 | g2
      · rw [k2] at g2; exact g2
      · have := (Kd_0 (B := B)).mpr (Nat.le_of_eq g2.symm); omega
    obtain ⟨a', ω, b1, b2, b3, b4⟩ := r_l17 (X := ι x) (Z := z) t2 hkt (Tk B m s - s) FU s 0 υ (by omega) (by unfold FU; omega) (Nat.le_refl s) (fun i z1 z2 => by have := g1 i z1 z2; rw [k2] at this; exact this) hB2 a2 a3
    have b1 : fX12_number_l17 (ι x) z FU (0 : Int32) υ = some (ι a', ω) := b1
    have c14 : ω 0 14 = ι s := (b4 0 14 (by omega)).trans a3
    have c15 : ω 0 15 = μ := (b4 0 15 (by omega)).trans e15
    have fr : frL τ ω := fun k j hk => (b4 k j (by omega)).trans (a4 k j hk)
    rw [b1, Option.bind_some]
    dsimp only
    unfold numT
    rw [b2]
    have hne : ¬ ι (Tk B m s) = ω 0 14 := by rw [c14, ι_eq (by omega) (by omega)]; omega
    rw [if_neg hne]
    rw [show ι (Tk B m s) - ω 0 14 = ι (Tk B m s - s) by rw [c14, ι_sub t1], l_4, ite_lt (by omega) (by omega)]
    by_cases c4 : 4 < Tk B m s - s
    · rw [if_pos c4]
      have hn : nv B m s = none := by unfold nv; rw [if_neg (by omega)]
      refine ⟨fun v hv => ?_, fun _ => bad ω _ t2 b2 c14 b4⟩
      rw [hn] at hv; cases hv
    · rw [if_neg c4]
      have ha := b3 (by omega)
      have hn : nv B m s = some a' := by unfold nv; rw [if_pos ⟨k2, by omega⟩, ha]
      rw [r_isIn, Option.bind_some]
      refine ⟨fun v hv h1 h2 => ?_, fun hno => ?_⟩
      · rw [hn] at hv
        cases hv
        rw [if_pos (show ι x ≤ ι a' ∧ ι a' ≤ z from ⟨h1, h2⟩), if_neg (by decide)]
        exact ⟨ω, rfl, ⟨frM_BR (frL_M fr) hB, t2, b2, c15⟩, c14, fr⟩
      · rw [if_neg (hno a' hn), if_pos (show ι 0 = (0 : Int32) from rfl)]
        exact bad ω _ t2 b2 c14 b4
  · obtain ⟨a', ω, b1, b2, b3, b4⟩ := r_l17 (X := ι x) (Z := z) s2 k2 0 FU s 0 υ (by omega) (by unfold FU; omega) (Nat.le_refl s) (fun i z1 z2 => by omega) hB2 a2 a3
    have b1 : fX12_number_l17 (ι x) z FU (0 : Int32) υ = some (ι a', ω) := b1
    have c14 : ω 0 14 = ι s := (b4 0 14 (by omega)).trans a3
    rw [b1, Option.bind_some]
    dsimp only
    unfold numT
    rw [b2, if_pos (by rw [c14])]
    have hn : nv B m s = none := by unfold nv; rw [if_neg (fun z => k2 z.1)]
    refine ⟨fun v hv => ?_, fun _ => bad ω _ s2 b2 c14 b4⟩
    rw [hn] at hv; cases hv
