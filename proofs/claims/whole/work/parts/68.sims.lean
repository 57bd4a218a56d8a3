/-! PURE PART: questions about scans -/
def EnI (L : List En) : Prop := ∀ (p : Nat) e, L[p]? = some e → e.1 < 120 ∧ ∀ s w, e.2 = some (s, w) → s < 12 ∧ w < 2
def SX (τ : Mem) (F : Nat → Int32) (L : List En) (n a d : Nat) : Prop := n ≤ 60 ∧ a ≤ 12 ∧ d ≤ 60 ∧ L.length ≤ 144 ∧ EnI L ∧ L = ordE F n a ∧ τ 3 = F ∧ OT τ L ∧ (∀ c, c < d → ScI n a F c) ∧ F 2 = ι d
theorem SX_c {τ υ : Mem} {F : Nat → Int32} {L : List En} {n a d : Nat} (h : SX τ F L n a d) (h3 : υ 3 = τ 3) (h8 : υ 8 = τ 8) (h17 : υ 0 17 = τ 0 17) : SX υ F L n a d := by
  obtain ⟨a1, a2, a3, a4, a5, a6, a7, a8, a9, a10⟩ := h
  exact ⟨a1, a2, a3, a4, a5, a6, h3.trans a7, OT_c a8 h8 h17, a9, a10⟩
theorem SX_12 {τ υ : Mem} {F : Nat → Int32} {L : List En} {n a d : Nat} (h : SX τ F L n a d) (hf : fr12 τ υ) : SX υ F L n a d :=
  SX_c h (funext fun j => hf 3 j (by omega)) (funext fun j => hf 8 j (by omega)) (hf 0 17 (by omega))
theorem fr12_trans {τ υ ω : Mem} (h1 : fr12 τ υ) (h2 : fr12 υ ω) : fr12 τ ω := fun k j h => (h2 k j h).trans (h1 k j h)
theorem fr12_refl (τ : Mem) : fr12 τ τ := fun _ _ _ => rfl
theorem fr12_KT {τ υ : Mem} (h : fr12 τ υ) : ∀ k j, KT k j → υ k j = τ k j := fun k j hj => h k j (by unfold KT RT at hj; omega)
theorem scans_RO {σ τ : Mem} {k n a b d t : Nat} (h : RO σ τ k n a b d t) : ∃ ρ υ, fX11_followScans 0 σ = some ρ ∧ fX12_laysOrder τ = some υ ∧ RO ρ υ k n a b d t ∧ OC ρ (ordE (τ 3) n a) ∧ PC ρ (τ 3) (ordE (τ 3) n a) d ∧ SX υ (τ 3) (ordE (τ 3) n a) n a d ∧ (∀ j, j < 360 → ρ j = σ j) ∧ fr8 τ υ := by
  obtain ⟨ρ, υ, e1, e2, hO2, oc, ot, f1, f2⟩ := ord_RO h
  obtain ⟨hr, hF, hV, hL', hC, hW⟩ := h
  have hn := hr.1.2.2.2.2
  have hL := ordE_len (F := τ 3) hn hF.2.1 hF.2.2.1
  have hd := hF.2.2.2.2.2.2.2.1
  have hS := hF.2.2.2.2.2.2.2.2.1
  obtain ⟨ω, a1, a2, a3, a4⟩ := c_follow hn hF.2.1 hd hL hS (CR_c hd hC (fun j hj => f1 _ (by omega)) (fun _ _ => rfl)) oc
  refine ⟨ω, υ, ?_, e2, RO_c hO2 (fun j hj => a4 j (by unfold KK RK at hj; omega)) (fun _ _ _ => rfl), a3, a2, ⟨hn, hF.2.1, hd, hL, ordE_ent hn hF.2.1 hF.2.2.1, rfl, fr8_3 f2, ot, hS, hF.2.2.2.2.2.2.1⟩, fun j hj => (a4 j (by omega)).trans (f1 j (by omega)), f2⟩
  unfold fX11_followScans
  simp only [Nat.zero_add, e1, a1, Option.bind_some]
theorem oi_ι {o : Option Nat} {p : Nat} (ho : ∀ i, o = some i → i < 144) (hp : p < 2147483648) : (oi o = ι p) = (o = some p) := by
  cases o with
  | none => exact propext ⟨fun z => by rw [show oi none = μ from rfl, m1_ι hp] at z; exact z.elim, fun z => by cases z⟩
  | some i =>
    have := ho i rfl
    rw [show oi (some i) = ι i from rfl, ι_eq (by omega) hp]
    exact propext ⟨fun z => by rw [z], fun z => by cases z; rfl⟩
theorem oi_μ {o : Option Nat} (ho : ∀ i, o = some i → i < 144) : (oi o = μ) = (o = none) := by
  cases o with
  | none => exact propext ⟨fun _ => rfl, fun _ => rfl⟩
  | some i =>
    have := ho i rfl
    rw [show oi (some i) = ι i from rfl, ι_m1 (by omega)]
    exact propext ⟨fun z => z.elim, fun z => by cases z⟩
def shB (F : Nat → Int32) (L : List En) (p c : Nat) : Bool := decide (sh0 F L c = some p ∨ sh1 F L c = some p)
theorem fs_lt {F : Nat → Int32} {L : List En} {c p : Nat} (hL : L.length ≤ 144) (h : fs F L c = some p) : p < L.length := by
  unfold fs oA at h
  cases h0 : sh0 F L c with
  | none => rw [h0] at h; exact sh1_lt hL h
  | some x => rw [h0] at h; cases h; exact sh0_lt hL h0
theorem sc_lt {F : Nat → Int32} {L : List En} {c p : Nat} (hL : L.length ≤ 144) (h : sc F L c = some p) : p < L.length := by
  unfold sc oB at h
  cases h0 : sh0 F L c with
  | none => rw [h0] at h; cases h
  | some x => rw [h0] at h; exact sh1_lt hL h
theorem fs_sc {F : Nat → Int32} {L : List En} {c p : Nat} : (fs F L c = some p ∨ sc F L c = some p) = (sh0 F L c = some p ∨ sh1 F L c = some p) := by
  unfold fs sc oA oB
  cases h0 : sh0 F L c with
  | none => simp
  | some x => rfl
theorem r_placeOfScan {τ : Mem} {F : Nat → Int32} {L : List En} {n a d c : Nat} (h : SX τ F L n a d) (hc : c < d) : ∃ υ, fX12_placeOfScan (ι c) τ = some (oi (fs F L c), υ) ∧ fr12 τ υ := by
  obtain ⟨hn, ha, hd, hL, hE, hLe, h3, hO, hS, h2⟩ := h
  obtain ⟨υ, a1, a2, a3, a4⟩ := r_shown hn ha hd hL hE hO hc (by rw [h3]; exact hS c hc)
  rw [h3] at a2 a3
  refine ⟨υ, ?_, a4⟩
  unfold fX12_placeOfScan
  rw [a1, Option.bind_some]
  have b0 : ∀ i, sh0 F L c = some i → i < 144 := fun i hi => by have := sh0_lt hL hi; omega
  have b1 : ∀ i, sh1 F L c = some i → i < 144 := fun i hi => by have := sh1_lt hL hi; omega
  simp (disch := omega) only [l_0, l_1, l_2, l_3, l_4, l_5, l_6, l_7, l_8, l_9, l_10, l_12, l_13, l_24, l_31, l_32, l_40, l_41, l_42, l_44, l_45, l_48, l_49, l_50, l_57, l_59, l_60, l_65, l_88, l_89, l_97, l_98, l_99, l_100, l_105, l_108, l_109, l_114, l_118, l_120, l_122, l_144, l_255, l_269, l_279, l_339, l_400, l_600, l_999, l_1000, l_2373, l_2712, ι_lt, ι_le, ι_eq, ι_add, ι_mul, ι_sub, ι_div, ι_n, ι_m1, m1_ι, m1_lt, m1_le, lt_m1, le_m1, m1_lt_m1, m1_le_m1, m1_add1, neg_ι1, ι_addm, ι_addn, Bool.false_eq_true, Nat.not_lt_zero, Nat.add_zero, Nat.zero_add, Nat.mul_zero, Nat.reduceMul, Nat.reduceAdd, Nat.reduceSub, Nat.reduceLT, Nat.reduceLeDiff, Nat.reduceEqDiff, Nat.reduceDiv, Nat.reduceBEq, Nat.reduceBNe, false_or, or_false, true_or, or_true, and_true, true_and, false_and, and_false, not_false_eq_true, not_true_eq_false, if_true, if_false, if_pos, if_neg, Option.bind_some, ite_false, ite_true, eq_self, reduceIte, lm_0, lm_1, lm_2, lm_3, lm_4, lm_5, lm_6, lm_7, lm_8, lm_9, lm_10, lm_11, lm_12, lm_13, lm_14, lm_15, lm_16, lm_17, a2, a3, oi_μ b0, oi_μ b1]
  unfold fs oA
  cases h0 : sh0 F L c with
  | none =>
    cases h1 : sh1 F L c with
    | none => rfl
    | some y =>
      have := b1 y h1
      simp (disch := omega) only [oi, l_0, l_1, l_2, l_3, l_4, l_5, l_6, l_7, l_8, l_9, l_10, l_12, l_13, l_24, l_31, l_32, l_40, l_41, l_42, l_44, l_45, l_48, l_49, l_50, l_57, l_59, l_60, l_65, l_88, l_89, l_97, l_98, l_99, l_100, l_105, l_108, l_109, l_114, l_118, l_120, l_122, l_144, l_255, l_269, l_279, l_339, l_400, l_600, l_999, l_1000, l_2373, l_2712, ι_lt, ι_le, ι_eq, ι_add, ι_mul, ι_sub, ι_div, ι_n, ι_m1, m1_ι, m1_lt, m1_le, lt_m1, le_m1, m1_lt_m1, m1_le_m1, m1_add1, neg_ι1, ι_addm, ι_addn, Bool.false_eq_true, Nat.not_lt_zero, Nat.add_zero, Nat.zero_add, Nat.mul_zero, Nat.reduceMul, Nat.reduceAdd, Nat.reduceSub, Nat.reduceLT, Nat.reduceLeDiff, Nat.reduceEqDiff, Nat.reduceDiv, Nat.reduceBEq, Nat.reduceBNe, false_or, or_false, true_or, or_true, and_true, true_and, false_and, and_false, not_false_eq_true, not_true_eq_false, if_true, if_false, if_pos, if_neg, Option.bind_some, ite_false, ite_true, eq_self, reduceIte]
  | some x =>
    have := b0 x h0
    cases h1 : sh1 F L c with
    | none => simp (disch := omega) only [oi, l_0, l_1, l_2, l_3, l_4, l_5, l_6, l_7, l_8, l_9, l_10, l_12, l_13, l_24, l_31, l_32, l_40, l_41, l_42, l_44, l_45, l_48, l_49, l_50, l_57, l_59, l_60, l_65, l_88, l_89, l_97, l_98, l_99, l_100, l_105, l_108, l_109, l_114, l_118, l_120, l_122, l_144, l_255, l_269, l_279, l_339, l_400, l_600, l_999, l_1000, l_2373, l_2712, ι_lt, ι_le, ι_eq, ι_add, ι_mul, ι_sub, ι_div, ι_n, ι_m1, m1_ι, m1_lt, m1_le, lt_m1, le_m1, m1_lt_m1, m1_le_m1, m1_add1, neg_ι1, ι_addm, ι_addn, Bool.false_eq_true, Nat.not_lt_zero, Nat.add_zero, Nat.zero_add, Nat.mul_zero, Nat.reduceMul, Nat.reduceAdd, Nat.reduceSub, Nat.reduceLT, Nat.reduceLeDiff, Nat.reduceEqDiff, Nat.reduceDiv, Nat.reduceBEq, Nat.reduceBNe, false_or, or_false, true_or, or_true, and_true, true_and, false_and, and_false, not_false_eq_true, not_true_eq_false, if_true, if_false, if_pos, if_neg, Option.bind_some, ite_false, ite_true, eq_self, reduceIte, reduceCtorEq]
    | some y =>
      have := b1 y h1
      have hlt : x < y := by
        subst hLe
        exact sh_lt hn (hS c hc) h0 h1
      simp (disch := omega) only [oi, l_0, l_1, l_2, l_3, l_4, l_5, l_6, l_7, l_8, l_9, l_10, l_12, l_13, l_24, l_31, l_32, l_40, l_41, l_42, l_44, l_45, l_48, l_49, l_50, l_57, l_59, l_60, l_65, l_88, l_89, l_97, l_98, l_99, l_100, l_105, l_108, l_109, l_114, l_118, l_120, l_122, l_144, l_255, l_269, l_279, l_339, l_400, l_600, l_999, l_1000, l_2373, l_2712, ι_lt, ι_le, ι_eq, ι_add, ι_mul, ι_sub, ι_div, ι_n, ι_m1, m1_ι, m1_lt, m1_le, lt_m1, le_m1, m1_lt_m1, m1_le_m1, m1_add1, neg_ι1, ι_addm, ι_addn, Bool.false_eq_true, Nat.not_lt_zero, Nat.add_zero, Nat.zero_add, Nat.mul_zero, Nat.reduceMul, Nat.reduceAdd, Nat.reduceSub, Nat.reduceLT, Nat.reduceLeDiff, Nat.reduceEqDiff, Nat.reduceDiv, Nat.reduceBEq, Nat.reduceBNe, false_or, or_false, true_or, or_true, and_true, true_and, false_and, and_false, not_false_eq_true, not_true_eq_false, if_true, if_false, if_pos, if_neg, Option.bind_some, ite_false, ite_true, eq_self, reduceIte, reduceCtorEq]
theorem r_isShown {τ : Mem} {F : Nat → Int32} {L : List En} {n a d c p : Nat} (h : SX τ F L n a d) (hc : c < d) (hp : p < 2147483648) : ∃ υ, fX12_isShown (ι c) (ι p) τ = some (if shB F L p c then ι 1 else ι 0, υ) ∧ fr12 τ υ := by
  obtain ⟨hn, ha, hd, hL, hE, hLe, h3, hO, hS, h2⟩ := h
  obtain ⟨υ, a1, a2, a3, a4⟩ := r_shown hn ha hd hL hE hO hc (by rw [h3]; exact hS c hc)
  rw [h3] at a2 a3
  refine ⟨υ, ?_, a4⟩
  unfold fX12_isShown shB
  rw [a1, Option.bind_some]
  have b0 : ∀ i, sh0 F L c = some i → i < 144 := fun i hi => by have := sh0_lt hL hi; omega
  have b1 : ∀ i, sh1 F L c = some i → i < 144 := fun i hi => by have := sh1_lt hL hi; omega
  simp (disch := omega) only [l_0, l_1, l_2, l_3, l_4, l_5, l_6, l_7, l_8, l_9, l_10, l_12, l_13, l_24, l_31, l_32, l_40, l_41, l_42, l_44, l_45, l_48, l_49, l_50, l_57, l_59, l_60, l_65, l_88, l_89, l_97, l_98, l_99, l_100, l_105, l_108, l_109, l_114, l_118, l_120, l_122, l_144, l_255, l_269, l_279, l_339, l_400, l_600, l_999, l_1000, l_2373, l_2712, ι_lt, ι_le, ι_eq, ι_add, ι_mul, ι_sub, ι_div, ι_n, ι_m1, m1_ι, m1_lt, m1_le, lt_m1, le_m1, m1_lt_m1, m1_le_m1, m1_add1, neg_ι1, ι_addm, ι_addn, Bool.false_eq_true, Nat.not_lt_zero, Nat.add_zero, Nat.zero_add, Nat.mul_zero, Nat.reduceMul, Nat.reduceAdd, Nat.reduceSub, Nat.reduceLT, Nat.reduceLeDiff, Nat.reduceEqDiff, Nat.reduceDiv, Nat.reduceBEq, Nat.reduceBNe, false_or, or_false, true_or, or_true, and_true, true_and, false_and, and_false, not_false_eq_true, not_true_eq_false, if_true, if_false, if_pos, if_neg, Option.bind_some, ite_false, ite_true, eq_self, reduceIte, lm_0, lm_1, lm_2, lm_3, lm_4, lm_5, lm_6, lm_7, lm_8, lm_9, lm_10, lm_11, lm_12, lm_13, lm_14, lm_15, lm_16, lm_17, a2, a3, oi_ι b0 hp, oi_ι b1 hp]
  by_cases h0 : sh0 F L c = some p
  · simp only [h0, true_or, decide_true, if_true]
  · by_cases h1 : sh1 F L c = some p
    · simp only [h0, h1, or_true, decide_true, if_true, if_false]
    · simp only [h0, h1, or_self, decide_false, if_false, Bool.false_eq_true]
theorem r_so4 {F : Nat → Int32} {L : List En} {n a d p : Nat} (hp : p < 2147483648) : ∀ m n' c x (τ : Mem), c + m = d → m < n' → SX τ F L n a d → ∃ υ, fX12_showingOf_l4 (ι p) n' (ι x) (ι c) τ = some (ι (x + cf (shB F L p) c m), ι d, υ) ∧ fr12 τ υ := by
  intro m
  induction m with
  | zero =>
    intro n' c x τ h hn' hX
    obtain ⟨n', rfl⟩ : ∃ k, n' = k + 1 := ⟨n' - 1, by omega⟩
    have hd := hX.2.2.1
    have h2 : τ 3 2 = ι d := by rw [hX.2.2.2.2.2.2.1]; exact hX.2.2.2.2.2.2.2.2.2
    refine ⟨τ, ?_, fr12_refl τ⟩
    rw [fX12_showingOf_l4]
    have e : c = d := by omega
    subst e
    simp (disch := omega) only [l_0, l_1, l_2, l_3, l_4, l_5, l_6, l_7, l_8, l_9, l_10, l_12, l_13, l_24, l_31, l_32, l_40, l_41, l_42, l_44, l_45, l_48, l_49, l_50, l_57, l_59, l_60, l_65, l_88, l_89, l_97, l_98, l_99, l_100, l_105, l_108, l_109, l_114, l_118, l_120, l_122, l_144, l_255, l_269, l_279, l_339, l_400, l_600, l_999, l_1000, l_2373, l_2712, ι_lt, ι_le, ι_eq, ι_add, ι_mul, ι_sub, ι_div, ι_n, ι_m1, m1_ι, m1_lt, m1_le, lt_m1, le_m1, m1_lt_m1, m1_le_m1, m1_add1, neg_ι1, ι_addm, ι_addn, Bool.false_eq_true, Nat.not_lt_zero, Nat.add_zero, Nat.zero_add, Nat.mul_zero, Nat.reduceMul, Nat.reduceAdd, Nat.reduceSub, Nat.reduceLT, Nat.reduceLeDiff, Nat.reduceEqDiff, Nat.reduceDiv, Nat.reduceBEq, Nat.reduceBNe, false_or, or_false, true_or, or_true, and_true, true_and, false_and, and_false, not_false_eq_true, not_true_eq_false, if_true, if_false, if_pos, if_neg, Option.bind_some, ite_false, ite_true, eq_self, reduceIte, lm_0, lm_1, lm_2, lm_3, lm_4, lm_5, lm_6, lm_7, lm_8, lm_9, lm_10, lm_11, lm_12, lm_13, lm_14, lm_15, lm_16, lm_17, h2, cf, Nat.le_refl]
  | succ m ih =>
    intro n' c x τ h hn' hX
    obtain ⟨n', rfl⟩ : ∃ k, n' = k + 1 := ⟨n' - 1, by omega⟩
    have hd := hX.2.2.1
    have h2 : τ 3 2 = ι d := by rw [hX.2.2.2.2.2.2.1]; exact hX.2.2.2.2.2.2.2.2.2
    obtain ⟨υ, a1, a2⟩ := r_isShown hX (show c < d by omega) hp
    rw [fX12_showingOf_l4]
    by_cases hb : shB F L p c = true
    · obtain ⟨ω, b1, b2⟩ := ih n' (c + 1) (x + 1) υ (by omega) (by omega) (SX_12 hX a2)
      refine ⟨ω, ?_, fr12_trans a2 b2⟩
      simp (disch := omega) only [l_0, l_1, l_2, l_3, l_4, l_5, l_6, l_7, l_8, l_9, l_10, l_12, l_13, l_24, l_31, l_32, l_40, l_41, l_42, l_44, l_45, l_48, l_49, l_50, l_57, l_59, l_60, l_65, l_88, l_89, l_97, l_98, l_99, l_100, l_105, l_108, l_109, l_114, l_118, l_120, l_122, l_144, l_255, l_269, l_279, l_339, l_400, l_600, l_999, l_1000, l_2373, l_2712, ι_lt, ι_le, ι_eq, ι_add, ι_mul, ι_sub, ι_div, ι_n, ι_m1, m1_ι, m1_lt, m1_le, lt_m1, le_m1, m1_lt_m1, m1_le_m1, m1_add1, neg_ι1, ι_addm, ι_addn, Bool.false_eq_true, Nat.not_lt_zero, Nat.add_zero, Nat.zero_add, Nat.mul_zero, Nat.reduceMul, Nat.reduceAdd, Nat.reduceSub, Nat.reduceLT, Nat.reduceLeDiff, Nat.reduceEqDiff, Nat.reduceDiv, Nat.reduceBEq, Nat.reduceBNe, false_or, or_false, true_or, or_true, and_true, true_and, false_and, and_false, not_false_eq_true, not_true_eq_false, if_true, if_false, if_pos, if_neg, Option.bind_some, ite_false, ite_true, eq_self, reduceIte, lm_0, lm_1, lm_2, lm_3, lm_4, lm_5, lm_6, lm_7, lm_8, lm_9, lm_10, lm_11, lm_12, lm_13, lm_14, lm_15, lm_16, lm_17, h2, a1, hb, cf]
      rw [b1]; congr 3; omega
    · obtain ⟨ω, b1, b2⟩ := ih n' (c + 1) x υ (by omega) (by omega) (SX_12 hX a2)
      refine ⟨ω, ?_, fr12_trans a2 b2⟩
      simp (disch := omega) only [l_0, l_1, l_2, l_3, l_4, l_5, l_6, l_7, l_8, l_9, l_10, l_12, l_13, l_24, l_31, l_32, l_40, l_41, l_42, l_44, l_45, l_48, l_49, l_50, l_57, l_59, l_60, l_65, l_88, l_89, l_97, l_98, l_99, l_100, l_105, l_108, l_109, l_114, l_118, l_120, l_122, l_144, l_255, l_269, l_279, l_339, l_400, l_600, l_999, l_1000, l_2373, l_2712, ι_lt, ι_le, ι_eq, ι_add, ι_mul, ι_sub, ι_div, ι_n, ι_m1, m1_ι, m1_lt, m1_le, lt_m1, le_m1, m1_lt_m1, m1_le_m1, m1_add1, neg_ι1, ι_addm, ι_addn, Bool.false_eq_true, Nat.not_lt_zero, Nat.add_zero, Nat.zero_add, Nat.mul_zero, Nat.reduceMul, Nat.reduceAdd, Nat.reduceSub, Nat.reduceLT, Nat.reduceLeDiff, Nat.reduceEqDiff, Nat.reduceDiv, Nat.reduceBEq, Nat.reduceBNe, false_or, or_false, true_or, or_true, and_true, true_and, false_and, and_false, not_false_eq_true, not_true_eq_false, if_true, if_false, if_pos, if_neg, Option.bind_some, ite_false, ite_true, eq_self, reduceIte, lm_0, lm_1, lm_2, lm_3, lm_4, lm_5, lm_6, lm_7, lm_8, lm_9, lm_10, lm_11, lm_12, lm_13, lm_14, lm_15, lm_16, lm_17, h2, a1, hb, cf]
      rw [b1]
theorem r_showingOf {τ : Mem} {F : Nat → Int32} {L : List En} {n a d p : Nat} (hX : SX τ F L n a d) (hp : p < 2147483648) : ∃ υ, fX12_showingOf (ι p) τ = some (ι (cf (shB F L p) 0 d), υ) ∧ fr12 τ υ := by
  have hd := hX.2.2.1
  obtain ⟨υ, a1, a2⟩ := r_so4 hp d FU 0 0 τ (by omega) (by unfold FU; omega) hX
  refine ⟨υ, ?_, a2⟩
  unfold fX12_showingOf
  rw [l_0, a1, Option.bind_some, Nat.zero_add]
theorem ln375 : ln (374 + 1) = 60 := by decide
theorem ln377 : ln (376 + 1) = 60 := by decide
theorem c_first {σ : Mem} {F : Nat → Int32} {L : List En} {d c : Nat} (hd : d ≤ 60) (hP : PC σ F L d) (hc : c < d) : fX3_at 374 (ι c) σ = some (oi (fs F L c)) := by
  rw [c_at ln375 (by omega) (by omega), (hP.2 c hc).1]
theorem c_second {σ : Mem} {F : Nat → Int32} {L : List En} {d c : Nat} (hd : d ≤ 60) (hP : PC σ F L d) (hc : c < d) : fX3_at 376 (ι c) σ = some (oi (sc F L c)) := by
  rw [c_at ln377 (by omega) (by omega), (hP.2 c hc).2]
theorem c_cs_l {σ : Mem} {F : Nat → Int32} {L : List En} {d p : Nat} (hd : d ≤ 60) (hL : L.length ≤ 144) (hP : PC σ F L d) (hp : p < 2147483648) : ∀ m n' c x, c + m = d → m < n' → fX4_countShowing_l4 373 (ι p) n' (ι x) (ι c) σ = some (ι (x + cf (shB F L p) c m), ι d) := by
  intro m
  induction m with
  | zero =>
    intro n' c x h hn'
    obtain ⟨n', rfl⟩ : ∃ k, n' = k + 1 := ⟨n' - 1, by omega⟩
    rw [fX4_countShowing_l4]
    have e : c = d := by omega
    subst e
    simp (disch := omega) only [l_0, l_1, l_2, l_3, l_4, l_5, l_6, l_7, l_8, l_9, l_10, l_12, l_13, l_24, l_31, l_32, l_40, l_41, l_42, l_44, l_45, l_48, l_49, l_50, l_57, l_59, l_60, l_65, l_88, l_89, l_97, l_98, l_99, l_100, l_105, l_108, l_109, l_114, l_118, l_120, l_122, l_144, l_255, l_269, l_279, l_339, l_400, l_600, l_999, l_1000, l_2373, l_2712, ι_lt, ι_le, ι_eq, ι_add, ι_mul, ι_sub, ι_div, ι_n, ι_m1, m1_ι, m1_lt, m1_le, lt_m1, le_m1, m1_lt_m1, m1_le_m1, m1_add1, neg_ι1, ι_addm, ι_addn, Bool.false_eq_true, Nat.not_lt_zero, Nat.add_zero, Nat.zero_add, Nat.mul_zero, Nat.reduceMul, Nat.reduceAdd, Nat.reduceSub, Nat.reduceLT, Nat.reduceLeDiff, Nat.reduceEqDiff, Nat.reduceDiv, Nat.reduceBEq, Nat.reduceBNe, false_or, or_false, true_or, or_true, and_true, true_and, false_and, and_false, not_false_eq_true, not_true_eq_false, if_true, if_false, if_pos, if_neg, Option.bind_some, ite_false, ite_true, eq_self, reduceIte, hP.1, cf, Nat.le_refl]
  | succ m ih =>
    intro n' c x h hn'
    obtain ⟨n', rfl⟩ : ∃ k, n' = k + 1 := ⟨n' - 1, by omega⟩
    have b0 : ∀ i, fs F L c = some i → i < 144 := fun i hi => by have := fs_lt hL hi; omega
    have b1 : ∀ i, sc F L c = some i → i < 144 := fun i hi => by have := sc_lt hL hi; omega
    have hsb : shB F L p c = decide (fs F L c = some p ∨ sc F L c = some p) := by unfold shB; simp only [fs_sc]
    rw [fX4_countShowing_l4]
    simp (disch := omega) only [l_0, l_1, l_2, l_3, l_4, l_5, l_6, l_7, l_8, l_9, l_10, l_12, l_13, l_24, l_31, l_32, l_40, l_41, l_42, l_44, l_45, l_48, l_49, l_50, l_57, l_59, l_60, l_65, l_88, l_89, l_97, l_98, l_99, l_100, l_105, l_108, l_109, l_114, l_118, l_120, l_122, l_144, l_255, l_269, l_279, l_339, l_400, l_600, l_999, l_1000, l_2373, l_2712, ι_lt, ι_le, ι_eq, ι_add, ι_mul, ι_sub, ι_div, ι_n, ι_m1, m1_ι, m1_lt, m1_le, lt_m1, le_m1, m1_lt_m1, m1_le_m1, m1_add1, neg_ι1, ι_addm, ι_addn, Bool.false_eq_true, Nat.not_lt_zero, Nat.add_zero, Nat.zero_add, Nat.mul_zero, Nat.reduceMul, Nat.reduceAdd, Nat.reduceSub, Nat.reduceLT, Nat.reduceLeDiff, Nat.reduceEqDiff, Nat.reduceDiv, Nat.reduceBEq, Nat.reduceBNe, false_or, or_false, true_or, or_true, and_true, true_and, false_and, and_false, not_false_eq_true, not_true_eq_false, if_true, if_false, if_pos, if_neg, Option.bind_some, ite_false, ite_true, eq_self, reduceIte, hP.1, c_first hd hP (show c < d by omega), c_second hd hP (show c < d by omega), oi_ι b0 hp, oi_ι b1 hp, cf, hsb]
    by_cases h0 : fs F L c = some p
    · simp only [h0, true_or, decide_true, if_true]
      rw [ih _ _ _ (by omega) (by omega)]; congr 3; omega
    · by_cases h1 : sc F L c = some p
      · simp only [h0, h1, or_true, decide_true, if_true, if_false]
        rw [ih _ _ _ (by omega) (by omega)]; congr 3; omega
      · simp only [h0, h1, or_self, decide_false, if_false, Bool.false_eq_true]
        rw [ih _ _ _ (by omega) (by omega)]; congr 3; omega
theorem c_countShowing {σ : Mem} {F : Nat → Int32} {L : List En} {d p : Nat} (hd : d ≤ 60) (hL : L.length ≤ 144) (hP : PC σ F L d) (hp : p < 2147483648) : fX4_countShowing 373 (ι p) σ = some (ι (cf (shB F L p) 0 d)) := by
  unfold fX4_countShowing
  rw [l_0, c_cs_l hd hL hP hp d FU 0 0 (by omega) (by unfold FU; omega), Option.bind_some, Nat.zero_add]
theorem r_isScan {τ : Mem} {d : Nat} (h2 : τ 3 2 = ι d) (hd : d ≤ 60) {i : Nat} (hi : i < 2147483648) : fX12_isScan (ι i) τ = some (if i < d then ι 1 else ι 0) := by
  unfold fX12_isScan
  have e : (2 : Int32).toNatClampNeg = 2 := rfl
  have ez : ¬ ((2 : Int32) < 0 ∨ lm 3 ≤ 2) := by decide
  rw [e, if_neg ez, h2, r_in0 hi (by omega), Option.bind_some]
  by_cases h : i < d
  · simp (disch := omega) only [l_0, l_1, l_2, l_3, l_4, l_5, l_6, l_7, l_8, l_9, l_10, l_12, l_13, l_24, l_31, l_32, l_40, l_41, l_42, l_44, l_45, l_48, l_49, l_50, l_57, l_59, l_60, l_65, l_88, l_89, l_97, l_98, l_99, l_100, l_105, l_108, l_109, l_114, l_118, l_120, l_122, l_144, l_255, l_269, l_279, l_339, l_400, l_600, l_999, l_1000, l_2373, l_2712, ι_lt, ι_le, ι_eq, ι_add, ι_mul, ι_sub, ι_div, ι_n, ι_m1, m1_ι, m1_lt, m1_le, lt_m1, le_m1, m1_lt_m1, m1_le_m1, m1_add1, neg_ι1, ι_addm, ι_addn, Bool.false_eq_true, Nat.not_lt_zero, Nat.add_zero, Nat.zero_add, Nat.mul_zero, Nat.reduceMul, Nat.reduceAdd, Nat.reduceSub, Nat.reduceLT, Nat.reduceLeDiff, Nat.reduceEqDiff, Nat.reduceDiv, Nat.reduceBEq, Nat.reduceBNe, false_or, or_false, true_or, or_true, and_true, true_and, false_and, and_false, not_false_eq_true, not_true_eq_false, if_true, if_false, if_pos, if_neg, Option.bind_some, ite_false, ite_true, eq_self, reduceIte]
  · simp (disch := omega) only [l_0, l_1, l_2, l_3, l_4, l_5, l_6, l_7, l_8, l_9, l_10, l_12, l_13, l_24, l_31, l_32, l_40, l_41, l_42, l_44, l_45, l_48, l_49, l_50, l_57, l_59, l_60, l_65, l_88, l_89, l_97, l_98, l_99, l_100, l_105, l_108, l_109, l_114, l_118, l_120, l_122, l_144, l_255, l_269, l_279, l_339, l_400, l_600, l_999, l_1000, l_2373, l_2712, ι_lt, ι_le, ι_eq, ι_add, ι_mul, ι_sub, ι_div, ι_n, ι_m1, m1_ι, m1_lt, m1_le, lt_m1, le_m1, m1_lt_m1, m1_le_m1, m1_add1, neg_ι1, ι_addm, ι_addn, Bool.false_eq_true, Nat.not_lt_zero, Nat.add_zero, Nat.zero_add, Nat.mul_zero, Nat.reduceMul, Nat.reduceAdd, Nat.reduceSub, Nat.reduceLT, Nat.reduceLeDiff, Nat.reduceEqDiff, Nat.reduceDiv, Nat.reduceBEq, Nat.reduceBNe, false_or, or_false, true_or, or_true, and_true, true_and, false_and, and_false, not_false_eq_true, not_true_eq_false, if_true, if_false, if_pos, if_neg, Option.bind_some, ite_false, ite_true, eq_self, reduceIte]
theorem r_isScan_no {τ : Mem} {d : Nat} (h2 : τ 3 2 = ι d) (hd : d ≤ 60) {x : Int32} (hx : ∀ i, i < d → x ≠ ι i) : fX12_isScan x τ = some (ι 0) := by
  rcases ι_cases x with h | ⟨i, h1, h2'⟩
  · unfold fX12_isScan
    have ez : ¬ ((2 : Int32) < 0 ∨ lm 3 ≤ (2 : Int32).toNatClampNeg) := by decide
    rw [if_neg ez, r_in0_neg h _ ⟨_, rfl⟩, Option.bind_some, l_0, if_pos (Or.inl rfl)]
  · subst h2'
    rw [r_isScan h2 hd h1, if_neg (fun z => hx i z rfl)]
theorem c_reqScan {σ : Mem} {d : Nat} {F : Nat → Int32} (hd : d ≤ 60) (hC : CR σ 62 d F) {i : Nat} (hi : i < d) : fX11_requireScan 0 (ι i) σ = some (.inr 0, σ) := by
  unfold fX11_requireScan fX5_size
  rw [Nat.zero_add, hC.2.1]
  simp (disch := omega) only [l_0, l_1, l_2, l_3, l_4, l_5, l_6, l_7, l_8, l_9, l_10, l_12, l_13, l_24, l_31, l_32, l_40, l_41, l_42, l_44, l_45, l_48, l_49, l_50, l_57, l_59, l_60, l_65, l_88, l_89, l_97, l_98, l_99, l_100, l_105, l_108, l_109, l_114, l_118, l_120, l_122, l_144, l_255, l_269, l_279, l_339, l_400, l_600, l_999, l_1000, l_2373, l_2712, ι_lt, ι_le, ι_eq, ι_add, ι_mul, ι_sub, ι_div, ι_n, ι_m1, m1_ι, m1_lt, m1_le, lt_m1, le_m1, m1_lt_m1, m1_le_m1, m1_add1, neg_ι1, ι_addm, ι_addn, Bool.false_eq_true, Nat.not_lt_zero, Nat.add_zero, Nat.zero_add, Nat.mul_zero, Nat.reduceMul, Nat.reduceAdd, Nat.reduceSub, Nat.reduceLT, Nat.reduceLeDiff, Nat.reduceEqDiff, Nat.reduceDiv, Nat.reduceBEq, Nat.reduceBNe, false_or, or_false, true_or, or_true, and_true, true_and, false_and, and_false, not_false_eq_true, not_true_eq_false, if_true, if_false, if_pos, if_neg, Option.bind_some, ite_false, ite_true, eq_self, reduceIte]
theorem c_reqScan_no {σ : Mem} {d : Nat} {F : Nat → Int32} (hd : d ≤ 60) (hC : CR σ 62 d F) {x : Int32} (hx : ∀ i, i < d → x ≠ ι i) : fX11_requireScan 0 x σ = some (.inl 2, σ) := by
  unfold fX11_requireScan fX5_size
  rw [Nat.zero_add, hC.2.1]
  rcases ι_cases x with h | ⟨i, h1, h2⟩
  · simp only [l_0, h, if_true]
  · subst h2
    have : ¬ i < d := fun z => hx i z rfl
    simp (disch := omega) only [l_0, l_1, l_2, l_3, l_4, l_5, l_6, l_7, l_8, l_9, l_10, l_12, l_13, l_24, l_31, l_32, l_40, l_41, l_42, l_44, l_45, l_48, l_49, l_50, l_57, l_59, l_60, l_65, l_88, l_89, l_97, l_98, l_99, l_100, l_105, l_108, l_109, l_114, l_118, l_120, l_122, l_144, l_255, l_269, l_279, l_339, l_400, l_600, l_999, l_1000, l_2373, l_2712, ι_lt, ι_le, ι_eq, ι_add, ι_mul, ι_sub, ι_div, ι_n, ι_m1, m1_ι, m1_lt, m1_le, lt_m1, le_m1, m1_lt_m1, m1_le_m1, m1_add1, neg_ι1, ι_addm, ι_addn, Bool.false_eq_true, Nat.not_lt_zero, Nat.add_zero, Nat.zero_add, Nat.mul_zero, Nat.reduceMul, Nat.reduceAdd, Nat.reduceSub, Nat.reduceLT, Nat.reduceLeDiff, Nat.reduceEqDiff, Nat.reduceDiv, Nat.reduceBEq, Nat.reduceBNe, false_or, or_false, true_or, or_true, and_true, true_and, false_and, and_false, not_false_eq_true, not_true_eq_false, if_true, if_false, if_pos, if_neg, Option.bind_some, ite_false, ite_true, eq_self, reduceIte]
theorem sim35 : Sim35 Rel := by
  intro σ τ x1 x2 hR
  replace hR := Rel_0 hR 0
  unfold fX12_scan fX11_scan
  have h00 : up τ 0 0 0 0 0 = 0 := up_e _ _ _ _
  generalize up τ 0 0 (0 : Int32) = τ at *
  obtain ⟨k, n, a, b, d, t, hO⟩ := RO_of hR
  obtain ⟨ρ, υ, e1, e2, hO2, oc, pc, sx, f1, f2⟩ := scans_RO hO
  obtain ⟨hr, hF, hV, hL', hC, hW⟩ := hO
  have hd := hF.2.2.2.2.2.2.2.1
  have hR2 := RO_rel hO2
  have hRq : Rel σ υ := Rel_c hR (fun _ _ => rfl) (fr8_KT f2)
  have u0 : υ 0 0 = 0 := (f2 0 0 (by omega)).trans h00
  have u3 : υ 3 = τ 3 := fr8_3 f2
  have e10 : ¬ (ι 1 = (0 : Int32)) := by decide
  rcases leaf_cases x1 d with ⟨i, hi, rfl⟩ | hx
  · obtain ⟨r1, r2, r3⟩ := c_scanRow hd hC hi
    obtain ⟨ω, b1, b2⟩ := r_placeOfScan sx hi
    have w0 : ω 0 0 = 0 := (b2 0 0 (by omega)).trans u0
    have hR3 : Rel ρ ω := Rel_c hR2 (fun _ _ => rfl) (fr12_KT b2)
    have q0 : fX12_ofScan (ι i) (0 : Int32) υ = some (τ 3 (89 + 3 * i)) := by rw [l_0, r_ofScan (by omega) (by omega), u3]; rfl
    have q1 : fX12_ofScan (ι i) (1 : Int32) υ = some (τ 3 (89 + 3 * i + 1)) := by rw [l_1, r_ofScan (by omega) (by omega), u3]
    have q2 : fX12_ofScan (ι i) (2 : Int32) υ = some (τ 3 (89 + 3 * i + 2)) := by rw [l_2, r_ofScan (by omega) (by omega), u3]
    have cf1 : fX4_firstOf 373 (ι i) ρ = some (oi (fs (τ 3) (ordE (τ 3) n a) i)) := by
      unfold fX4_firstOf
      rw [c_first hd pc hi]; rfl
    simp only [c_reqScan hd hC hi, r_isScan hF.2.2.2.2.2.2.1 hd (show i < 2147483648 by omega), if_pos hi, Option.bind_some, if_neg e10, Nat.zero_add, e1, e2, r1, r2, r3, q0, q1, q2, cf1, b1, ref_fails]
    by_cases h0 : x2 = 0
    · rw [if_pos h0, if_pos h0]
      exact ⟨_, _, 0, rfl, rfl, Or.inl ⟨_, rfl, rfl⟩, fun v hv => (by cases hv; rfl), z_ok u0, hRq⟩
    rw [if_neg h0, if_neg h0]
    by_cases h0 : x2 = 1
    · rw [if_pos h0, if_pos h0]
      exact ⟨_, _, 0, rfl, rfl, Or.inl ⟨_, rfl, rfl⟩, fun v hv => (by cases hv; rfl), z_ok w0, hR3⟩
    rw [if_neg h0, if_neg h0]
    by_cases h0 : x2 = 2
    · rw [if_pos h0, if_pos h0]
      exact ⟨_, _, 0, rfl, rfl, Or.inl ⟨_, rfl, rfl⟩, fun v hv => (by cases hv; rfl), z_ok u0, hRq⟩
    rw [if_neg h0, if_neg h0]
    by_cases h0 : x2 = 3
    · rw [if_pos h0, if_pos h0]
      exact ⟨_, _, 0, rfl, rfl, Or.inl ⟨_, rfl, rfl⟩, fun v hv => (by cases hv; rfl), z_ok u0, hRq⟩
    rw [if_neg h0, if_neg h0]
    exact ⟨_, _, 2, rfl, rfl, Or.inr (Or.inr ⟨rfl, rfl⟩), fun v hv => (by cases hv), z_bad, Rel_0 hRq _⟩
  · rw [c_reqScan_no hd hC hx, r_isScan_no hF.2.2.2.2.2.2.1 hd hx]
    simp only [Option.bind_some, l_0, if_true, ref_fails]
    exact ⟨_, _, 1, rfl, rfl, Or.inr (Or.inl ⟨rfl, rfl⟩), fun v hv => (by cases hv), z_bad, Rel_0 hR _⟩
theorem sim36 : Sim36 Rel := by
  intro σ τ x1 hR
  replace hR := Rel_0 hR 0
  unfold fX12_showing fX11_showing
  have h00 : up τ 0 0 0 0 0 = 0 := up_e _ _ _ _
  generalize up τ 0 0 (0 : Int32) = τ at *
  obtain ⟨k, n, a, b, d, t, hO⟩ := RO_of hR
  obtain ⟨ρ, υ, e1, e2, hO2, oc, ot, f1, f2⟩ := ord_RO hO
  have hL := ordE_len (F := τ 3) hO.1.1.2.2.2.2 hO.2.1.2.1 hO.2.1.2.2.1
  have hR2 := RO_rel hO2
  have u0 : υ 0 0 = 0 := (f2 0 0 (by omega)).trans h00
  have u3 : υ 3 = τ 3 := fr8_3 f2
  have e10 : ¬ (ι 1 = (0 : Int32)) := by decide
  have hd := hO.2.1.2.2.2.2.2.2.2.1
  rcases leaf_cases x1 (ordE (τ 3) n a).length with ⟨i, hi, rfl⟩ | hx
  · obtain ⟨ρ', υ', g1, g2, hO3, oc', pc', sx', w1, w2⟩ := scans_RO hO2
    have sx : SX υ (τ 3) (ordE (τ 3) n a) n a d := ⟨hO.1.1.2.2.2.2, hO.2.1.2.1, hd, hL, ordE_ent hO.1.1.2.2.2.2 hO.2.1.2.1 hO.2.1.2.2.1, rfl, u3, ot, hO.2.1.2.2.2.2.2.2.2.2.1, hO.2.1.2.2.2.2.2.2.1⟩
    obtain ⟨ω, b1, b2⟩ := r_showingOf (p := i) sx (by omega)
    rw [u3] at pc'
    simp only [c_reqPlace e1 hL oc hi, r_isPlace e2 hL ot hi, Option.bind_some, if_neg e10, Nat.zero_add, g1, c_countShowing hd hL pc' (show i < 2147483648 by omega), b1]
    exact ⟨_, _, 0, rfl, rfl, Or.inl ⟨_, rfl, rfl⟩, fun v hv => (by cases hv; rfl), z_ok ((b2 0 0 (by omega)).trans u0), Rel_c hR2 (fun j hj => w1 j (by unfold KK RK at hj; omega)) (fr12_KT b2)⟩
  · rw [c_reqPlace_no e1 hL oc hx, r_isPlace_no e2 hL ot hx]
    simp only [Option.bind_some, l_0, if_true, ref_fails]
    exact ⟨_, _, 1, rfl, rfl, Or.inr ⟨rfl, rfl⟩, fun v hv => (by cases hv), z_bad, Rel_0 hR2 _⟩
