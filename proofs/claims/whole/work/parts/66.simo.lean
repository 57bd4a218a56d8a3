/-! PURE PART: questions about places -/
theorem RO_c {σ ρ τ υ : Mem} {k n a b d t : Nat} (h : RO σ τ k n a b d t) (hσ : ∀ j, KK j → ρ j = σ j) (hτ : ∀ k j, KT k j → υ k j = τ k j) : RO ρ υ k n a b d t := by
  obtain ⟨hr, hF, hV, hL, hC, hW⟩ := h
  have e1 : υ 1 = τ 1 := funext fun j => hτ 1 j (by simp [KT, RT])
  have e3 : υ 3 = τ 3 := funext fun j => hτ 3 j (by simp [KT, RT])
  have hn := hr.1.2.2.2.2
  refine ⟨Rest_c hr (fun k hk => hσ k (Or.inl hk)) (fun k j hk => hτ k j (Or.inl hk)), by rw [e3]; exact hF, ?_, ?_, ?_, ?_⟩
  · rw [e1, e3]; exact VR_c hn hF.2.1 hV (fun j hj => hσ _ (by unfold KK; omega)) (fun _ _ => rfl)
  · rw [e3]; exact LR_c hF.2.2.2.2.1 hL (fun j hj => hσ _ (by unfold KK; omega)) (fun _ _ => rfl)
  · rw [e3]; exact CR_c hF.2.2.2.2.2.2.2.1 hC (fun j hj => hσ _ (by unfold KK; omega)) (fun _ _ => rfl)
  · rw [e3]; exact WR_c hF.2.2.2.2.2.2.2.2.2.2.1 hW (fun j hj => hσ _ (by unfold KK; omega)) (fun _ _ => rfl)
theorem frO_KK {σ ρ : Mem} (h : frO σ ρ) : ∀ j, KK j → ρ j = σ j := fun j hj => h j (by unfold KK RK at hj; omega)
theorem fr8_KT {τ υ : Mem} (h : fr8 τ υ) : ∀ k j, KT k j → υ k j = τ k j := fun k j hj => h k j (by unfold KT RT at hj; omega)
theorem ord_RO {σ τ : Mem} {k n a b d t : Nat} (h : RO σ τ k n a b d t) : ∃ ρ υ, fX2_follow 360 42 σ = some ρ ∧ fX12_laysOrder τ = some υ ∧ RO ρ υ k n a b d t ∧ OC ρ (ordE (τ 3) n a) ∧ OT υ (ordE (τ 3) n a) ∧ frO σ ρ ∧ fr8 τ υ := by
  have h' := h
  obtain ⟨hr, hF, hV, hL, hC, hW⟩ := h
  have hn := hr.1.2.2.2.2
  obtain ⟨ρ, a1, a2, a3⟩ := c_order hn hF.2.1 hF.2.2.1 hV
  obtain ⟨υ, b1, b2, b3⟩ := r_order hr.1 hr.2.1 hF.2.1 hF.1 hF.2.2.1
  exact ⟨ρ, υ, a1, b1, RO_c h' (frO_KK a3) (fr8_KT b3), a2, b2, a3, b3⟩
theorem sim23 : Sim23 Rel := by
  intro σ τ hR
  replace hR := Rel_0 hR 0
  unfold fX12_placeCount fX11_placeCount
  generalize up τ 0 0 (0 : Int32) = τ at *
  obtain ⟨k, n, a, b, d, t, hO⟩ := RO_of hR
  obtain ⟨ρ, υ, e1, e2, hO2, oc, ot, f1, f2⟩ := ord_RO hO
  unfold fX2_size
  simp only [Nat.zero_add, e1, e2, Option.bind_some, oc.1, ot.1]
  exact ⟨_, _, _, rfl, rfl, RO_rel hO2⟩
theorem c_reqPlace {σ ρ : Mem} {L : List En} (h : fX2_follow 360 42 σ = some ρ) (hL : L.length ≤ 144) (oc : OC ρ L) {i : Nat} (hi : i < L.length) : fX11_requirePlace 0 (ι i) σ = some (.inr 0, ρ) := by
  unfold fX11_requirePlace fX2_size
  simp (disch := omega) only [Nat.zero_add, h, oc.1, l_0, l_1, l_2, l_3, l_4, l_5, l_6, l_7, l_8, l_9, l_10, l_12, l_13, l_24, l_31, l_32, l_40, l_41, l_42, l_44, l_45, l_48, l_49, l_50, l_57, l_59, l_60, l_65, l_88, l_89, l_97, l_98, l_99, l_100, l_105, l_108, l_109, l_114, l_118, l_120, l_122, l_144, l_255, l_269, l_279, l_339, l_400, l_600, l_999, l_1000, l_2373, l_2712, ι_lt, ι_le, ι_eq, ι_add, ι_mul, ι_sub, ι_div, ι_n, ι_m1, m1_ι, m1_lt, m1_le, lt_m1, le_m1, m1_lt_m1, m1_le_m1, m1_add1, neg_ι1, ι_addm, ι_addn, Bool.false_eq_true, Nat.not_lt_zero, Nat.add_zero, Nat.zero_add, Nat.mul_zero, Nat.reduceMul, Nat.reduceAdd, Nat.reduceSub, Nat.reduceLT, Nat.reduceLeDiff, Nat.reduceEqDiff, Nat.reduceDiv, Nat.reduceBEq, Nat.reduceBNe, false_or, or_false, true_or, or_true, and_true, true_and, false_and, and_false, not_false_eq_true, not_true_eq_false, if_true, if_false, if_pos, if_neg, Option.bind_some, ite_false, ite_true, eq_self, reduceIte]
theorem c_reqPlace_no {σ ρ : Mem} {L : List En} (h : fX2_follow 360 42 σ = some ρ) (hL : L.length ≤ 144) (oc : OC ρ L) {x : Int32} (hx : ∀ i, i < L.length → x ≠ ι i) : fX11_requirePlace 0 x σ = some (.inl 2, ρ) := by
  unfold fX11_requirePlace fX2_size
  rw [Nat.zero_add, Nat.zero_add, h, Option.bind_some, oc.1, Option.bind_some]
  rcases ι_cases x with h | ⟨i, h1, h2⟩
  · simp only [l_0, h, if_true]
  · subst h2
    have : ¬ i < L.length := fun z => hx i z rfl
    simp (disch := omega) only [l_0, l_1, l_2, l_3, l_4, l_5, l_6, l_7, l_8, l_9, l_10, l_12, l_13, l_24, l_31, l_32, l_40, l_41, l_42, l_44, l_45, l_48, l_49, l_50, l_57, l_59, l_60, l_65, l_88, l_89, l_97, l_98, l_99, l_100, l_105, l_108, l_109, l_114, l_118, l_120, l_122, l_144, l_255, l_269, l_279, l_339, l_400, l_600, l_999, l_1000, l_2373, l_2712, ι_lt, ι_le, ι_eq, ι_add, ι_mul, ι_sub, ι_div, ι_n, ι_m1, m1_ι, m1_lt, m1_le, lt_m1, le_m1, m1_lt_m1, m1_le_m1, m1_add1, neg_ι1, ι_addm, ι_addn, Bool.false_eq_true, Nat.not_lt_zero, Nat.add_zero, Nat.zero_add, Nat.mul_zero, Nat.reduceMul, Nat.reduceAdd, Nat.reduceSub, Nat.reduceLT, Nat.reduceLeDiff, Nat.reduceEqDiff, Nat.reduceDiv, Nat.reduceBEq, Nat.reduceBNe, false_or, or_false, true_or, or_true, and_true, true_and, false_and, and_false, not_false_eq_true, not_true_eq_false, if_true, if_false, if_pos, if_neg, Option.bind_some, ite_false, ite_true, eq_self, reduceIte]
theorem r_isPlace {τ υ : Mem} {L : List En} (h : fX12_laysOrder τ = some υ) (hL : L.length ≤ 144) (ot : OT υ L) {i : Nat} (hi : i < L.length) : fX12_isPlace (ι i) τ = some (ι 1, υ) := by
  unfold fX12_isPlace
  rw [h, Option.bind_some, ot.1, r_in0 (by omega) (by omega), if_pos hi, Option.bind_some]
  rfl
theorem r_isPlace_no {τ υ : Mem} {L : List En} (h : fX12_laysOrder τ = some υ) (hL : L.length ≤ 144) (ot : OT υ L) {x : Int32} (hx : ∀ i, i < L.length → x ≠ ι i) : fX12_isPlace x τ = some (ι 0, υ) := by
  unfold fX12_isPlace
  rw [h, Option.bind_some, ot.1]
  rcases ι_cases x with h | ⟨i, h1, h2⟩
  · rw [r_in0_neg h _ ⟨_, rfl⟩, Option.bind_some, l_0, if_pos (Or.inl rfl)]
  · subst h2
    rw [r_in0 h1 (by omega), if_neg (fun z => hx i z rfl), Option.bind_some, l_0, if_pos (Or.inl rfl)]
theorem c_rows {ρ : Mem} {L : List En} (hL : L.length ≤ 144) (oc : OC ρ L) {i : Nat} {e : En} (he : L[i]? = some e) (hi : i < L.length) : fX2_leafAt 360 (ι i) ρ = some (eL e) ∧ fX2_leafSideAt 360 (ι i) ρ = some (eS e) ∧ fX2_slipAt 360 (ι i) ρ = some (eP e) ∧ fX2_slipSideAt 360 (ι i) ρ = some (eW e) := by
  obtain ⟨o1, o2, o3, o4⟩ := oc.2.1 i e he
  unfold fX2_leafAt fX2_leafSideAt fX2_slipAt fX2_slipSideAt
  refine ⟨?_, ?_, ?_, ?_⟩
  · rw [c_at (o := 361) ln362 (by omega) (show i < 144 by omega), o1]; rfl
  · rw [c_at (o := 363) ln364 (by omega) (show i < 144 by omega), o2]; rfl
  · rw [c_at (o := 365) ln366 (by omega) (show i < 144 by omega), o3]; rfl
  · rw [c_at (o := 367) ln368 (by omega) (show i < 144 by omega), o4]; rfl
theorem z_ok {a : Int32} {υ : Mem} (h : υ 0 0 = 0) : ((a, υ) : Int32 × Mem).2 0 0 = 0 := h
theorem sim24 : Sim24 Rel := by
  intro σ τ x1 x2 hR
  replace hR := Rel_0 hR 0
  unfold fX12_sideAt fX11_sideAt
  have h00 : up τ 0 0 0 0 0 = 0 := up_e _ _ _ _
  generalize up τ 0 0 (0 : Int32) = τ at *
  obtain ⟨k, n, a, b, d, t, hO⟩ := RO_of hR
  obtain ⟨ρ, υ, e1, e2, hO2, oc, ot, f1, f2⟩ := ord_RO hO
  have hL := ordE_len (F := τ 3) hO.1.1.2.2.2.2 hO.2.1.2.1 hO.2.1.2.2.1
  have hR2 := RO_rel hO2
  have u0 : υ 0 0 = 0 := (f2 0 0 (by omega)).trans h00
  have e10 : ¬ (ι 1 = (0 : Int32)) := by decide
  rcases leaf_cases x1 (ordE (τ 3) n a).length with ⟨i, hi, rfl⟩ | hx
  · obtain ⟨e, he⟩ := get_lt hi
    obtain ⟨c1, c2, c3, c4⟩ := c_rows hL oc he hi
    obtain ⟨o1, o2, o3, o4⟩ := ot.2 i e he
    simp only [c_reqPlace e1 hL oc hi, r_isPlace e2 hL ot hi, Option.bind_some, if_neg e10, Nat.zero_add, c1, c2, c3, c4, j_3]
    by_cases h0 : x2 = 0
    · rw [if_pos h0, h0, l_0, r_inC (by omega) (by omega), Option.bind_some, if_neg (show ¬ ι 1 = ι 0 from e10)]
      simp (disch := omega) only [l_0, l_1, l_2, l_3, l_4, l_5, l_6, l_7, l_8, l_9, l_10, l_12, l_13, l_24, l_31, l_32, l_40, l_41, l_42, l_44, l_45, l_48, l_49, l_50, l_57, l_59, l_60, l_65, l_88, l_89, l_97, l_98, l_99, l_100, l_105, l_108, l_109, l_114, l_118, l_120, l_122, l_144, l_255, l_269, l_279, l_339, l_400, l_600, l_999, l_1000, l_2373, l_2712, ι_lt, ι_le, ι_eq, ι_add, ι_mul, ι_sub, ι_div, ι_n, ι_m1, m1_ι, m1_lt, m1_le, lt_m1, le_m1, m1_lt_m1, m1_le_m1, m1_add1, neg_ι1, ι_addm, ι_addn, Bool.false_eq_true, Nat.not_lt_zero, Nat.add_zero, Nat.zero_add, Nat.mul_zero, Nat.reduceMul, Nat.reduceAdd, Nat.reduceSub, Nat.reduceLT, Nat.reduceLeDiff, Nat.reduceEqDiff, Nat.reduceDiv, Nat.reduceBEq, Nat.reduceBNe, false_or, or_false, true_or, or_true, and_true, true_and, false_and, and_false, not_false_eq_true, not_true_eq_false, if_true, if_false, if_pos, if_neg, Option.bind_some, ite_false, ite_true, eq_self, reduceIte, lm_0, lm_1, lm_2, lm_3, lm_4, lm_5, lm_6, lm_7, lm_8, lm_9, lm_10, lm_11, lm_12, lm_13, lm_14, lm_15, lm_16, lm_17, o1]
      exact ⟨_, _, ι 0, rfl, rfl, Or.inl ⟨_, rfl, rfl⟩, fun v hv => (by cases hv; rfl), z_ok u0, hR2⟩
    rw [if_neg h0]
    by_cases h1 : x2 = 1
    · rw [if_pos h1, h1, l_1, r_inC (by omega) (by omega), Option.bind_some, if_neg e10]
      simp (disch := omega) only [l_0, l_1, l_2, l_3, l_4, l_5, l_6, l_7, l_8, l_9, l_10, l_12, l_13, l_24, l_31, l_32, l_40, l_41, l_42, l_44, l_45, l_48, l_49, l_50, l_57, l_59, l_60, l_65, l_88, l_89, l_97, l_98, l_99, l_100, l_105, l_108, l_109, l_114, l_118, l_120, l_122, l_144, l_255, l_269, l_279, l_339, l_400, l_600, l_999, l_1000, l_2373, l_2712, ι_lt, ι_le, ι_eq, ι_add, ι_mul, ι_sub, ι_div, ι_n, ι_m1, m1_ι, m1_lt, m1_le, lt_m1, le_m1, m1_lt_m1, m1_le_m1, m1_add1, neg_ι1, ι_addm, ι_addn, Bool.false_eq_true, Nat.not_lt_zero, Nat.add_zero, Nat.zero_add, Nat.mul_zero, Nat.reduceMul, Nat.reduceAdd, Nat.reduceSub, Nat.reduceLT, Nat.reduceLeDiff, Nat.reduceEqDiff, Nat.reduceDiv, Nat.reduceBEq, Nat.reduceBNe, false_or, or_false, true_or, or_true, and_true, true_and, false_and, and_false, not_false_eq_true, not_true_eq_false, if_true, if_false, if_pos, if_neg, Option.bind_some, ite_false, ite_true, eq_self, reduceIte, lm_0, lm_1, lm_2, lm_3, lm_4, lm_5, lm_6, lm_7, lm_8, lm_9, lm_10, lm_11, lm_12, lm_13, lm_14, lm_15, lm_16, lm_17, o2]
      exact ⟨_, _, ι 0, rfl, rfl, Or.inl ⟨_, rfl, rfl⟩, fun v hv => (by cases hv; rfl), z_ok u0, hR2⟩
    rw [if_neg h1]
    by_cases h2 : x2 = 2
    · rw [if_pos h2, h2, l_2, r_inC (by omega) (by omega), Option.bind_some, if_neg e10]
      simp (disch := omega) only [l_0, l_1, l_2, l_3, l_4, l_5, l_6, l_7, l_8, l_9, l_10, l_12, l_13, l_24, l_31, l_32, l_40, l_41, l_42, l_44, l_45, l_48, l_49, l_50, l_57, l_59, l_60, l_65, l_88, l_89, l_97, l_98, l_99, l_100, l_105, l_108, l_109, l_114, l_118, l_120, l_122, l_144, l_255, l_269, l_279, l_339, l_400, l_600, l_999, l_1000, l_2373, l_2712, ι_lt, ι_le, ι_eq, ι_add, ι_mul, ι_sub, ι_div, ι_n, ι_m1, m1_ι, m1_lt, m1_le, lt_m1, le_m1, m1_lt_m1, m1_le_m1, m1_add1, neg_ι1, ι_addm, ι_addn, Bool.false_eq_true, Nat.not_lt_zero, Nat.add_zero, Nat.zero_add, Nat.mul_zero, Nat.reduceMul, Nat.reduceAdd, Nat.reduceSub, Nat.reduceLT, Nat.reduceLeDiff, Nat.reduceEqDiff, Nat.reduceDiv, Nat.reduceBEq, Nat.reduceBNe, false_or, or_false, true_or, or_true, and_true, true_and, false_and, and_false, not_false_eq_true, not_true_eq_false, if_true, if_false, if_pos, if_neg, Option.bind_some, ite_false, ite_true, eq_self, reduceIte, lm_0, lm_1, lm_2, lm_3, lm_4, lm_5, lm_6, lm_7, lm_8, lm_9, lm_10, lm_11, lm_12, lm_13, lm_14, lm_15, lm_16, lm_17, o3]
      exact ⟨_, _, ι 0, rfl, rfl, Or.inl ⟨_, rfl, rfl⟩, fun v hv => (by cases hv; rfl), z_ok u0, hR2⟩
    rw [if_neg h2]
    by_cases h3 : x2 = 3
    · rw [if_pos h3, h3, l_3, r_inC (by omega) (by omega), Option.bind_some, if_neg e10]
      simp (disch := omega) only [l_0, l_1, l_2, l_3, l_4, l_5, l_6, l_7, l_8, l_9, l_10, l_12, l_13, l_24, l_31, l_32, l_40, l_41, l_42, l_44, l_45, l_48, l_49, l_50, l_57, l_59, l_60, l_65, l_88, l_89, l_97, l_98, l_99, l_100, l_105, l_108, l_109, l_114, l_118, l_120, l_122, l_144, l_255, l_269, l_279, l_339, l_400, l_600, l_999, l_1000, l_2373, l_2712, ι_lt, ι_le, ι_eq, ι_add, ι_mul, ι_sub, ι_div, ι_n, ι_m1, m1_ι, m1_lt, m1_le, lt_m1, le_m1, m1_lt_m1, m1_le_m1, m1_add1, neg_ι1, ι_addm, ι_addn, Bool.false_eq_true, Nat.not_lt_zero, Nat.add_zero, Nat.zero_add, Nat.mul_zero, Nat.reduceMul, Nat.reduceAdd, Nat.reduceSub, Nat.reduceLT, Nat.reduceLeDiff, Nat.reduceEqDiff, Nat.reduceDiv, Nat.reduceBEq, Nat.reduceBNe, false_or, or_false, true_or, or_true, and_true, true_and, false_and, and_false, not_false_eq_true, not_true_eq_false, if_true, if_false, if_pos, if_neg, Option.bind_some, ite_false, ite_true, eq_self, reduceIte, lm_0, lm_1, lm_2, lm_3, lm_4, lm_5, lm_6, lm_7, lm_8, lm_9, lm_10, lm_11, lm_12, lm_13, lm_14, lm_15, lm_16, lm_17, o4]
      exact ⟨_, _, ι 0, rfl, rfl, Or.inl ⟨_, rfl, rfl⟩, fun v hv => (by cases hv; rfl), z_ok u0, hR2⟩
    rw [if_neg h3, r_inC_no (by omega)]
    · simp only [l_0, if_true, ref_fails, Option.bind_some]
      exact ⟨_, _, 2, rfl, rfl, Or.inr (Or.inr ⟨rfl, rfl⟩), fun v hv => (by cases hv), z_bad, Rel_0 hR2 _⟩
    · intro c c1 c2
      have : c = 0 ∨ c = 1 ∨ c = 2 ∨ c = 3 := by omega
      rcases this with z | z | z | z <;> subst z
      · exact h0 c2
      · exact h1 c2
      · exact h2 c2
      · exact h3 c2
  · rw [c_reqPlace_no e1 hL oc hx, r_isPlace_no e2 hL ot hx]
    simp only [Option.bind_some, l_0, if_true, ref_fails]
    exact ⟨_, _, 1, rfl, rfl, Or.inr (Or.inl ⟨rfl, rfl⟩), fun v hv => (by cases hv), z_bad, Rel_0 hR2 _⟩
theorem c_placeOfLeaf {ρ : Mem} {L : List En} (oc : OC ρ L) {x y : Nat} (hx : x < 60) (hy : y < 2) : fX2_placeOfLeaf 360 (ι x) (ι y) ρ = some (oi (ix (isL (2 * x + y)) L 0)) := by
  unfold fX2_placeOfLeaf
  have hx' : ¬ ι x = (-1 : Int32) := fun z => by
    have z : ι x = μ := z
    rw [ι_m1 (by omega)] at z; exact z
  rw [if_neg hx', l_2, ι_mul, ι_add, c_at (o := 369) ln370 (by omega) (show 2 * x + y < 120 by omega), oc.2.2.1 (2 * x + y) (by omega)]; rfl
theorem c_placeOfSlip {ρ : Mem} {L : List En} (oc : OC ρ L) {x y : Nat} (hx : x < 12) (hy : y < 2) : fX2_placeOfSlip 360 (ι x) (ι y) ρ = some (oi (ix (isS x y) L 0)) := by
  unfold fX2_placeOfSlip
  rw [l_2, ι_mul, ι_add, c_at (o := 371) ln372 (by omega) (show 2 * x + y < 24 by omega), oc.2.2.2 x y hx hy]; rfl
theorem sim25 : Sim25 Rel := by
  intro σ τ x1 x2 hR
  replace hR := Rel_0 hR 0
  unfold fX12_placeOf fX11_placeOf
  have h00 : up τ 0 0 0 0 0 = 0 := up_e _ _ _ _
  generalize up τ 0 0 (0 : Int32) = τ at *
  obtain ⟨k, n, a, b, d, t, hO⟩ := RO_of hR
  obtain ⟨ρ, υ, e1, e2, hO2, oc, ot, f1, f2⟩ := ord_RO hO
  obtain ⟨hr, hF, hV, hL', hC, hW⟩ := hO
  have hn := hr.1.2.2.2.2
  have hL := ordE_len (F := τ 3) hn hF.2.1 hF.2.2.1
  have hE := ordE_ent (F := τ 3) hn hF.2.1 hF.2.2.1
  have hR2 := RO_rel hO2
  have u0 : υ 0 0 = 0 := (f2 0 0 (by omega)).trans h00
  have e10 : ¬ (ι 1 = (0 : Int32)) := by decide
  rcases leaf_cases x1 n with ⟨i, hi, rfl⟩ | hx
  · simp only [c_reqLeaf hn hV hi, r_isLeaf hr.1 hr.2.1 (show i < 2147483648 by omega), if_pos hi, Option.bind_some, if_neg e10, e2]
    rcases leaf_cases x2 2 with ⟨s, hs, rfl⟩ | hx
    · simp only [c_reqSide hs, r_isSide hs, Option.bind_some, if_neg e10, Nat.zero_add, e1, c_placeOfLeaf oc (show i < 60 by omega) hs, r_placeOfLeaf hL ot (fun p e h => ⟨(hE p e h).1, fun s w hsw => ((hE p e h).2 s w hsw).1⟩) (show i < 60 by omega) hs]
      exact ⟨_, _, 0, rfl, rfl, Or.inl ⟨_, rfl, rfl⟩, fun v hv => (by cases hv; rfl), z_ok u0, hR2⟩
    · simp only [c_reqSide_no hx, r_isSide_no hx, Option.bind_some, l_0, if_true, ref_fails]
      exact ⟨_, _, 2, rfl, rfl, Or.inr (Or.inr ⟨rfl, rfl⟩), fun v hv => (by cases hv), z_bad, Rel_0 (Rel_c hR (fun _ _ => rfl) (fr8_KT f2)) _⟩
  · rw [c_reqLeaf_no hn hV hx, r_isLeaf_no hr.1 hr.2.1 hx]
    simp only [Option.bind_some, l_0, if_true, ref_fails]
    exact ⟨_, _, 1, rfl, rfl, Or.inr (Or.inl ⟨rfl, rfl⟩), fun v hv => (by cases hv), z_bad, Rel_0 hR _⟩
theorem r_oo_l {τ : Mem} {e : Nat} (he : e ≤ 60) : ∀ m n i c, i + m = e → m < n → fX12_openingOf_l5 (ι e) n (ι c) (ι i) τ = some (ι (c + cf (pB (τ 3)) i m), ι e) := by
  intro m
  induction m with
  | zero =>
    intro n i c h hn
    obtain ⟨n, rfl⟩ : ∃ k, n = k + 1 := ⟨n - 1, by omega⟩
    rw [fX12_openingOf_l5]
    simp (disch := omega) only [l_0, l_1, l_2, l_3, l_4, l_5, l_6, l_7, l_8, l_9, l_10, l_12, l_13, l_24, l_31, l_32, l_40, l_41, l_42, l_44, l_45, l_48, l_49, l_50, l_57, l_59, l_60, l_65, l_88, l_89, l_97, l_98, l_99, l_100, l_105, l_108, l_109, l_114, l_118, l_120, l_122, l_144, l_255, l_269, l_279, l_339, l_400, l_600, l_999, l_1000, l_2373, l_2712, ι_lt, ι_le, ι_eq, ι_add, ι_mul, ι_sub, ι_div, ι_n, ι_m1, m1_ι, m1_lt, m1_le, lt_m1, le_m1, m1_lt_m1, m1_le_m1, m1_add1, neg_ι1, ι_addm, ι_addn, Bool.false_eq_true, Nat.not_lt_zero, Nat.add_zero, Nat.zero_add, Nat.mul_zero, Nat.reduceMul, Nat.reduceAdd, Nat.reduceSub, Nat.reduceLT, Nat.reduceLeDiff, Nat.reduceEqDiff, Nat.reduceDiv, Nat.reduceBEq, Nat.reduceBNe, false_or, or_false, true_or, or_true, and_true, true_and, false_and, and_false, not_false_eq_true, not_true_eq_false, if_true, if_false, if_pos, if_neg, Option.bind_some, ite_false, ite_true, eq_self, reduceIte, cf]
    have e : i = e := by omega
    rw [e]
  | succ m ih =>
    intro n i c h hn
    obtain ⟨n, rfl⟩ : ∃ k, n = k + 1 := ⟨n - 1, by omega⟩
    rw [fX12_openingOf_l5]
    rw [r_isPresent (by omega)]
    by_cases hp : pB (τ 3) i = true
    · simp (disch := omega) only [l_0, l_1, l_2, l_3, l_4, l_5, l_6, l_7, l_8, l_9, l_10, l_12, l_13, l_24, l_31, l_32, l_40, l_41, l_42, l_44, l_45, l_48, l_49, l_50, l_57, l_59, l_60, l_65, l_88, l_89, l_97, l_98, l_99, l_100, l_105, l_108, l_109, l_114, l_118, l_120, l_122, l_144, l_255, l_269, l_279, l_339, l_400, l_600, l_999, l_1000, l_2373, l_2712, ι_lt, ι_le, ι_eq, ι_add, ι_mul, ι_sub, ι_div, ι_n, ι_m1, m1_ι, m1_lt, m1_le, lt_m1, le_m1, m1_lt_m1, m1_le_m1, m1_add1, neg_ι1, ι_addm, ι_addn, Bool.false_eq_true, Nat.not_lt_zero, Nat.add_zero, Nat.zero_add, Nat.mul_zero, Nat.reduceMul, Nat.reduceAdd, Nat.reduceSub, Nat.reduceLT, Nat.reduceLeDiff, Nat.reduceEqDiff, Nat.reduceDiv, Nat.reduceBEq, Nat.reduceBNe, false_or, or_false, true_or, or_true, and_true, true_and, false_and, and_false, not_false_eq_true, not_true_eq_false, if_true, if_false, if_pos, if_neg, Option.bind_some, ite_false, ite_true, eq_self, reduceIte, hp, cf]
      rw [ih _ _ _ (by omega) (by omega)]
      congr 3; omega
    · simp (disch := omega) only [l_0, l_1, l_2, l_3, l_4, l_5, l_6, l_7, l_8, l_9, l_10, l_12, l_13, l_24, l_31, l_32, l_40, l_41, l_42, l_44, l_45, l_48, l_49, l_50, l_57, l_59, l_60, l_65, l_88, l_89, l_97, l_98, l_99, l_100, l_105, l_108, l_109, l_114, l_118, l_120, l_122, l_144, l_255, l_269, l_279, l_339, l_400, l_600, l_999, l_1000, l_2373, l_2712, ι_lt, ι_le, ι_eq, ι_add, ι_mul, ι_sub, ι_div, ι_n, ι_m1, m1_ι, m1_lt, m1_le, lt_m1, le_m1, m1_lt_m1, m1_le_m1, m1_add1, neg_ι1, ι_addm, ι_addn, Bool.false_eq_true, Nat.not_lt_zero, Nat.add_zero, Nat.zero_add, Nat.mul_zero, Nat.reduceMul, Nat.reduceAdd, Nat.reduceSub, Nat.reduceLT, Nat.reduceLeDiff, Nat.reduceEqDiff, Nat.reduceDiv, Nat.reduceBEq, Nat.reduceBNe, false_or, or_false, true_or, or_true, and_true, true_and, false_and, and_false, not_false_eq_true, not_true_eq_false, if_true, if_false, if_pos, if_neg, Option.bind_some, ite_false, ite_true, eq_self, reduceIte, hp, cf]
      rw [ih _ _ _ (by omega) (by omega)]
theorem r_openingOf {τ : Mem} {x y : Nat} (hx : x ≤ 60) : fX12_openingOf (ι x) (ι y) τ = some (ι (y + cf (pB (τ 3)) 0 x)) := by
  unfold fX12_openingOf
  rw [l_0, r_oo_l hx x FU 0 y (by omega) (by unfold FU; omega), Option.bind_some]
theorem c_openingWith {ρ : Mem} {q F : Nat → Int32} {k n a : Nat} {L : List En} (hn : n ≤ 60) (hV : VR ρ 42 q k n a F) (hL : L.length ≤ 144) (oc : OC ρ L) {i : Nat} {e : En} (he : L[i]? = some e) (hi : i < L.length) (h1 : e.1 < 2 * n) : fX11_openingWith 0 (ι i) ρ = some (ι (cf (pB F) 0 (e.1 / 2) + e.1 % 2)) := by
  obtain ⟨c1, c2, c3, c4⟩ := c_rows hL oc he hi
  unfold fX11_openingWith
  have hx' : ¬ ι i = (-1 : Int32) := fun z => by
    have z : ι i = μ := z
    rw [ι_m1 (by omega)] at z; exact z
  rw [if_neg hx', Nat.zero_add, Nat.zero_add, c1, Option.bind_some, c2]
  unfold eL eS
  rw [c_presentBefore hn hV (by omega), Option.bind_some, Option.bind_some, ι_add]
theorem sim16 : Sim16 Rel := by
  intro σ τ x1 hR
  replace hR := Rel_0 hR 0
  unfold fX12_goTo fX11_goTo
  have h00 : up τ 0 0 0 0 0 = 0 := up_e _ _ _ _
  generalize up τ 0 0 (0 : Int32) = τ at *
  obtain ⟨k, n, a, b, d, t, hO⟩ := RO_of hR
  obtain ⟨ρ, υ, e1, e2, hO2, oc, ot, f1, f2⟩ := ord_RO hO
  obtain ⟨hr, hF, hV, hL', hC, hW⟩ := hO
  have hn := hr.1.2.2.2.2
  have hL := ordE_len (F := τ 3) hn hF.2.1 hF.2.2.1
  have hR2 := RO_rel hO2
  have u0 : υ 0 0 = 0 := (f2 0 0 (by omega)).trans h00
  have e10 : ¬ (ι 1 = (0 : Int32)) := by decide
  rcases leaf_cases x1 (ordE (τ 3) n a).length with ⟨i, hi, rfl⟩ | hx
  · obtain ⟨e, he⟩ := get_lt hi
    have g := ent_lt hn he
    obtain ⟨ρ', υ', k1, k2, hO3, g1, g2⟩ := keep_RO hO2
    have oc' : OC ρ' (ordE (τ 3) n a) := by
      unfold OC
      rw [g1 360 (by omega), g1 362 (by omega), g1 364 (by omega), g1 366 (by omega), g1 368 (by omega), g1 370 (by omega), g1 372 (by omega)]
      exact oc
    have t3 : υ' 3 = τ 3 := (funext fun j => g2 3 j (by omega)).trans (fr8_3 f2)
    have hV3 : VR ρ' 42 (υ' 1) k n a (υ' 3) := hO3.2.2.1
    rw [t3] at hV3
    obtain ⟨o1, o2, o3, o4⟩ := ot.2 i e he
    obtain ⟨ρ'', υ'', a1, a2, a3, a4, a5, a6⟩ := view_RO hO3 (ι (cf (pB (τ 3)) 0 (e.1 / 2) + e.1 % 2))
    have eo : fX12_openingOf (eL e) (eS e) υ' = some (ι (cf (pB (τ 3)) 0 (e.1 / 2) + e.1 % 2)) := by
      unfold eL eS
      rw [r_openingOf (by omega), t3, Nat.add_comm]
    have m8 : ∀ j, υ' 8 j = υ 8 j := fun j => g2 8 j (by omega)
    unfold fX9_current
    simp (disch := omega) only [c_reqPlace e1 hL oc hi, r_isPlace e2 hL ot hi, if_neg e10, k1, k2, c_openingWith hn hV3 hL oc' he hi g.2.1, a1, a3, l_0, l_1, l_2, l_3, l_4, l_5, l_6, l_7, l_8, l_9, l_10, l_12, l_13, l_24, l_31, l_32, l_40, l_41, l_42, l_44, l_45, l_48, l_49, l_50, l_57, l_59, l_60, l_65, l_88, l_89, l_97, l_98, l_99, l_100, l_105, l_108, l_109, l_114, l_118, l_120, l_122, l_144, l_255, l_269, l_279, l_339, l_400, l_600, l_999, l_1000, l_2373, l_2712, ι_lt, ι_le, ι_eq, ι_add, ι_mul, ι_sub, ι_div, ι_n, ι_m1, m1_ι, m1_lt, m1_le, lt_m1, le_m1, m1_lt_m1, m1_le_m1, m1_add1, neg_ι1, ι_addm, ι_addn, Bool.false_eq_true, Nat.not_lt_zero, Nat.add_zero, Nat.zero_add, Nat.mul_zero, Nat.reduceMul, Nat.reduceAdd, Nat.reduceSub, Nat.reduceLT, Nat.reduceLeDiff, Nat.reduceEqDiff, Nat.reduceDiv, Nat.reduceBEq, Nat.reduceBNe, false_or, or_false, true_or, or_true, and_true, true_and, false_and, and_false, not_false_eq_true, not_true_eq_false, if_true, if_false, if_pos, if_neg, Option.bind_some, ite_false, ite_true, eq_self, reduceIte, lm_0, lm_1, lm_2, lm_3, lm_4, lm_5, lm_6, lm_7, lm_8, lm_9, lm_10, lm_11, lm_12, lm_13, lm_14, lm_15, lm_16, lm_17, m8, o1, o2, eo, a2, a4]
    exact ⟨_, _, ι 0, rfl, rfl, Or.inl ⟨_, rfl, rfl⟩, fun v hv => (by cases hv; rfl), z_ok ((a5.trans (g2 0 0 (by omega))).trans u0), a6⟩
  · rw [c_reqPlace_no e1 hL oc hx, r_isPlace_no e2 hL ot hx]
    simp only [Option.bind_some, l_0, if_true, ref_fails]
    exact ⟨_, _, 1, rfl, rfl, Or.inr ⟨rfl, rfl⟩, fun v hv => (by cases hv), z_bad, Rel_0 hR2 _⟩
