/-! PURE PART: sorting the scans -/
theorem ordE_congr {F G : Nat → Int32} {n a : Nat} (hn : n ≤ 60) (ha : a ≤ 12) (e1 : ∀ j, 5 ≤ j → j < 41 → G j = F j) (e2 : ∀ j, 279 ≤ j → j < 339 → G j = F j) : ordE G n a = ordE F n a := by
  unfold ordE
  refine fl_congr _ _ fun k h1 h2 => ?_
  have hs : fl (slE G k) 0 a = fl (slE F k) 0 a := fl_congr _ _ fun s h3 h4 => by
    unfold slE onK onB
    rw [e1 (5 + 3 * s) (by omega) (by omega), e1 (5 + 3 * s + 1) (by omega) (by omega), e1 (5 + 3 * s + 2) (by omega) (by omega)]
  unfold kE pB sdE
  rw [e2 (279 + k / 2) (by omega) (by omega), hs]
def ky (F : Nat → Int32) (L : List En) (c : Nat) : Nat := match fs F L c with | none => 144 | some p => p
theorem ky_le {F : Nat → Int32} {L : List En} (hL : L.length ≤ 144) (c : Nat) : ky F L c ≤ 144 := by
  unfold ky
  cases h : fs F L c with
  | none => exact Nat.le_refl _
  | some p => have := fs_lt hL h; show p ≤ 144; omega
theorem ky_row {F G : Nat → Int32} {L : List En} {c c' : Nat} (h : ∀ w, w < 3 → G (89 + 3 * c + w) = F (89 + 3 * c' + w)) : ky G L c = ky F L c' := by
  have h0 := h 0 (by omega)
  have h1 := h 1 (by omega)
  have h2 := h 2 (by omega)
  rw [Nat.add_zero, Nat.add_zero] at h0
  unfold ky fs sh0 sh1
  rw [h0, h1, h2]
theorem SX_sw {τ υ : Mem} {F : Nat → Int32} {L : List En} {n a d : Nat} {p : Nat → Nat} (h : SX τ F L n a d) (h2 : SW τ υ p) (hp : ∀ i, i < d → p i < d) : SX υ (υ 3) L n a d := by
  obtain ⟨a1, a2, a3, a4, a5, a6, a7, a8, a9, a10⟩ := h
  subst a7
  refine ⟨a1, a2, a3, a4, a5, a6.trans (ordE_congr a1 a2 (fun j g1 g2 => h2.2 3 j (by omega)) (fun j g1 g2 => h2.2 3 j (by omega))).symm, rfl, OT_c a8 (funext fun j => h2.2 8 j (by omega)) (h2.2 0 17 (by omega)), fun c hc => ?_, ?_⟩
  · have := a9 (p c) (hp c hc)
    rw [ScI_V] at this ⊢
    rw [h2.1 c 1 (by omega) (by omega), h2.1 c 2 (by omega) (by omega)]
    have e0 := h2.1 c 0 (by omega) (by omega)
    rw [Nat.add_zero, Nat.add_zero] at e0
    rw [e0]; exact this
  · rw [h2.2 3 2 (by omega)]; exact a10
theorem r_rank {τ : Mem} {F : Nat → Int32} {L : List En} {n a d c : Nat} (h : SX τ F L n a d) (hc : c < d) : ∃ υ, fX12_rank (ι c) τ = some (ι (ky F L c), υ) ∧ fr12 τ υ := by
  obtain ⟨υ, a1, a2⟩ := r_placeOfScan h hc
  have hL := h.2.2.2.1
  refine ⟨υ, ?_, a2⟩
  unfold fX12_rank ky
  rw [a1, Option.bind_some]
  cases hf : fs F L c with
  | none => rw [if_pos (show ((oi none, υ) : Int32 × Mem).1 = -1 from rfl)]; rfl
  | some p =>
    have := fs_lt hL hf
    rw [if_neg (fun z => by
      have z : ι p = μ := z
      rw [ι_m1 (by omega)] at z; exact z)]; rfl
theorem c_sortKey {σ : Mem} {F : Nat → Int32} {L : List En} {d c : Nat} (hd : d ≤ 60) (hL : L.length ≤ 144) (hP : PC σ F L d) (hc : c < d) : fX4_sortKey 373 (ι c) σ = some (ι (ky F L c)) := by
  unfold fX4_sortKey ky
  rw [c_isPlaced hd hL hP hc, Option.bind_some, c_first hd hP hc]
  cases hf : fs F L c with
  | none => simp (disch := omega) only [l_0, l_1, l_2, l_3, l_4, l_5, l_6, l_7, l_8, l_9, l_10, l_12, l_13, l_24, l_31, l_32, l_40, l_41, l_42, l_44, l_45, l_48, l_49, l_50, l_57, l_59, l_60, l_65, l_88, l_89, l_97, l_98, l_99, l_100, l_105, l_108, l_109, l_114, l_118, l_120, l_122, l_144, l_255, l_269, l_279, l_339, l_400, l_600, l_999, l_1000, l_2373, l_2712, ι_lt, ι_le, ι_eq, ι_add, ι_mul, ι_sub, ι_div, ι_n, ι_m1, m1_ι, m1_lt, m1_le, lt_m1, le_m1, m1_lt_m1, m1_le_m1, m1_add1, neg_ι1, ι_addm, ι_addn, Bool.false_eq_true, Nat.not_lt_zero, Nat.add_zero, Nat.zero_add, Nat.mul_zero, Nat.reduceMul, Nat.reduceAdd, Nat.reduceSub, Nat.reduceLT, Nat.reduceLeDiff, Nat.reduceEqDiff, Nat.reduceDiv, Nat.reduceBEq, Nat.reduceBNe, false_or, or_false, true_or, or_true, and_true, true_and, false_and, and_false, not_false_eq_true, not_true_eq_false, if_true, if_false, if_pos, if_neg, Option.bind_some, ite_false, ite_true, eq_self, reduceIte, Option.isSome_none]
  | some p => simp (disch := omega) only [l_0, l_1, l_2, l_3, l_4, l_5, l_6, l_7, l_8, l_9, l_10, l_12, l_13, l_24, l_31, l_32, l_40, l_41, l_42, l_44, l_45, l_48, l_49, l_50, l_57, l_59, l_60, l_65, l_88, l_89, l_97, l_98, l_99, l_100, l_105, l_108, l_109, l_114, l_118, l_120, l_122, l_144, l_255, l_269, l_279, l_339, l_400, l_600, l_999, l_1000, l_2373, l_2712, ι_lt, ι_le, ι_eq, ι_add, ι_mul, ι_sub, ι_div, ι_n, ι_m1, m1_ι, m1_lt, m1_le, lt_m1, le_m1, m1_lt_m1, m1_le_m1, m1_add1, neg_ι1, ι_addm, ι_addn, Bool.false_eq_true, Nat.not_lt_zero, Nat.add_zero, Nat.zero_add, Nat.mul_zero, Nat.reduceMul, Nat.reduceAdd, Nat.reduceSub, Nat.reduceLT, Nat.reduceLeDiff, Nat.reduceEqDiff, Nat.reduceDiv, Nat.reduceBEq, Nat.reduceBNe, false_or, or_false, true_or, or_true, and_true, true_and, false_and, and_false, not_false_eq_true, not_true_eq_false, if_true, if_false, if_pos, if_neg, Option.bind_some, ite_false, ite_true, eq_self, reduceIte, Option.isSome_some, oi]
def RQ (F : Nat → Int32) (L : List En) (n a d : Nat) (τ0 τ : Mem) (q : Nat → Nat) : Prop := SX τ (τ 3) L n a d ∧ (∀ i w, i < 60 → w < 3 → τ 3 (89 + 3 * i + w) = F (89 + 3 * q i + w)) ∧ (∀ i, i < d → τ 15 i = ι (q i)) ∧ (∀ i, i < d → q i < d) ∧ (∀ k j, k ≠ 12 → k ≠ 15 → ¬ (k = 3 ∧ 89 ≤ j ∧ j < 269) → τ k j = τ0 k j)
theorem RQ_12 {F : Nat → Int32} {L : List En} {n a d : Nat} {τ0 τ υ : Mem} {q : Nat → Nat} (h : RQ F L n a d τ0 τ q) (hf : fr12 τ υ) : RQ F L n a d τ0 υ q := by
  obtain ⟨a1, a2, a3, a4, a5⟩ := h
  have e3 : υ 3 = τ 3 := funext fun j => hf 3 j (by omega)
  refine ⟨by rw [e3]; exact SX_12 a1 hf, by rw [e3]; exact a2, fun i hi => by rw [hf 15 i (by omega)]; exact a3 i hi, a4, fun k j h1 h2 h3 => by rw [hf k j h1]; exact a5 k j h1 h2 h3⟩
theorem ln383 : ln (382 + 1) = 60 := by decide
theorem sort_in {F : Nat → Int32} {L : List En} {n a d s : Nat} {τ0 : Mem} (hd : d ≤ 60) (hL : L.length ≤ 144) (hs : s < d) (x1 x2 : Int32) : ∀ k n1 n2 (q : Nat → Nat) (σ τ : Mem), k ≤ s → k < n1 → k < n2 → PC σ F L d → RQ F L n a d τ0 τ q → q k = s → (∀ i, i ≤ s → i ≠ k → σ 383 i = ι (q i)) → ∃ k' ρ z υ q', fX4_rankScans_l12 373 (ι s) n1 (ι k) σ = some (ι k', ρ) ∧ fX12_sortScans_l49 x1 x2 n2 (ι k) τ = some (z, υ) ∧ k' ≤ s ∧ q' k' = s ∧ RQ F L n a d τ0 υ q' ∧ (∀ i, i ≤ s → i ≠ k' → ρ 383 i = ι (q' i)) ∧ (∀ j, j ≠ 383 → ρ j = σ j) ∧ (∀ i, s < i → q' i = q i) := by
  intro k
  induction k with
  | zero =>
    intro n1 n2 q σ τ hk h1 h2 hP hQ hqk hr
    obtain ⟨n1, rfl⟩ : ∃ k, n1 = k + 1 := ⟨n1 - 1, by omega⟩
    obtain ⟨n2, rfl⟩ : ∃ k, n2 = k + 1 := ⟨n2 - 1, by omega⟩
    rw [fX4_rankScans_l12, fX12_sortScans_l49, if_pos (by decide), if_pos (by decide)]
    exact ⟨0, σ, _, τ, q, rfl, rfl, hk, hqk, hQ, hr, fun _ _ => rfl, fun _ _ => rfl⟩
  | succ k ih =>
    intro n1 n2 q σ τ hk h1 h2 hP hQ hqk hr
    obtain ⟨n1, rfl⟩ : ∃ k, n1 = k + 1 := ⟨n1 - 1, by omega⟩
    obtain ⟨n2, rfl⟩ : ∃ k, n2 = k + 1 := ⟨n2 - 1, by omega⟩
    have e1 : ι (k + 1) - (1 : Int32) = ι k := by rw [l_1, ι_sub (by omega)]; rfl
    have e2 : ι (k + 1) + (-1 : Int32) = ι k := by
      show ι (k + 1) + μ = ι k
      rw [ι_addm (by omega)]; rfl
    have e3 : ¬ ι (k + 1) ≤ 0 := by simp (disch := omega) only [l_0, l_1, l_2, l_3, l_4, l_5, l_6, l_7, l_8, l_9, l_10, l_12, l_13, l_24, l_31, l_32, l_40, l_41, l_42, l_44, l_45, l_48, l_49, l_50, l_57, l_59, l_60, l_65, l_88, l_89, l_97, l_98, l_99, l_100, l_105, l_108, l_109, l_114, l_118, l_120, l_122, l_144, l_255, l_269, l_279, l_339, l_400, l_600, l_999, l_1000, l_2373, l_2712, ι_lt, ι_le, ι_eq, ι_add, ι_mul, ι_sub, ι_div, ι_n, ι_m1, m1_ι, m1_lt, m1_le, lt_m1, le_m1, m1_lt_m1, m1_le_m1, m1_add1, neg_ι1, ι_addm, ι_addn, Bool.false_eq_true, Nat.not_lt_zero, Nat.add_zero, Nat.zero_add, Nat.mul_zero, Nat.reduceMul, Nat.reduceAdd, Nat.reduceSub, Nat.reduceLT, Nat.reduceLeDiff, Nat.reduceEqDiff, Nat.reduceDiv, Nat.reduceBEq, Nat.reduceBNe, false_or, or_false, true_or, or_true, and_true, true_and, false_and, and_false, not_false_eq_true, not_true_eq_false, if_true, if_false, if_pos, if_neg, Option.bind_some, ite_false, ite_true, eq_self, reduceIte]
    have hqd := hQ.2.2.2.1 k (by omega)
    have hrk := hr k (by omega) (by omega)
    obtain ⟨τ1, a1, a2⟩ := r_rank hQ.1 (show k + 1 < d by omega)
    have hQ1 := RQ_12 hQ a2
    obtain ⟨τ2, b1, b2⟩ := r_rank hQ1.1 (show k < d by omega)
    have hQ2 := RQ_12 hQ1 b2
    rw [ky_row (F := F) (c' := s) (fun w hw => by rw [hQ.2.1 (k + 1) w (by omega) hw, hqk])] at a1
    rw [ky_row (F := F) (c' := q k) (fun w hw => hQ1.2.1 k w (by omega) hw)] at b1
    have k1 := ky_le (F := F) hL s
    have k2 := ky_le (F := F) hL (q k)
    have hat : fX3_at (373 + 9) (ι k) σ = some (ι (q k)) := by rw [c_at ln383 (by omega) (by omega), hrk]
    have hput : fX3_put (373 + 9) (ι (k + 1)) (ι (q k)) σ = some (up σ 383 (k + 1) (ι (q k))) := c_put ln383 (by omega) (by omega)
    rw [fX4_rankScans_l12, fX12_sortScans_l49, if_neg e3, if_neg e3, e1, hat]
    simp only [Option.bind_some, c_sortKey hd hL hP hqd, c_sortKey hd hL hP hs, a1, b1]
    by_cases hle : ky F L (q k) ≤ ky F L s
    · have hle' : ι (ky F L (q k)) ≤ ι (ky F L s) := by rw [ι_le (by omega) (by omega)]; exact hle
      rw [if_pos hle', if_pos hle']
      exact ⟨k + 1, σ, _, τ2, q, rfl, rfl, hk, hqk, hQ2, hr, fun _ _ => rfl, fun _ _ => rfl⟩
    · have hle' : ¬ ι (ky F L (q k)) ≤ ι (ky F L s) := by rw [ι_le (by omega) (by omega)]; exact hle
      rw [if_neg hle', if_neg hle', hput, Option.bind_some]
      obtain ⟨τ3, c1, c2⟩ := r_swaps (p := k + 1) (q := k) (by omega) (by omega) (by omega) τ2
      have hlt : ∀ i, i < d → sw (k + 1) k i < d := fun i hi => by
        unfold sw; repeat' split
        all_goals omega
      have hlt' : ∀ i, i < 60 → sw (k + 1) k i < 60 := fun i hi => by
        unfold sw; repeat' split
        all_goals omega
      rw [c1, Option.bind_some, e2]
      simp (disch := omega) only [l_0, l_1, l_2, l_3, l_4, l_5, l_6, l_7, l_8, l_9, l_10, l_12, l_13, l_24, l_31, l_32, l_40, l_41, l_42, l_44, l_45, l_48, l_49, l_50, l_57, l_59, l_60, l_65, l_88, l_89, l_97, l_98, l_99, l_100, l_105, l_108, l_109, l_114, l_118, l_120, l_122, l_144, l_255, l_269, l_279, l_339, l_400, l_600, l_999, l_1000, l_2373, l_2712, ι_lt, ι_le, ι_eq, ι_add, ι_mul, ι_sub, ι_div, ι_n, ι_m1, m1_ι, m1_lt, m1_le, lt_m1, le_m1, m1_lt_m1, m1_le_m1, m1_add1, neg_ι1, ι_addm, ι_addn, Bool.false_eq_true, Nat.not_lt_zero, Nat.add_zero, Nat.zero_add, Nat.mul_zero, Nat.reduceMul, Nat.reduceAdd, Nat.reduceSub, Nat.reduceLT, Nat.reduceLeDiff, Nat.reduceEqDiff, Nat.reduceDiv, Nat.reduceBEq, Nat.reduceBNe, false_or, or_false, true_or, or_true, and_true, true_and, false_and, and_false, not_false_eq_true, not_true_eq_false, if_true, if_false, if_pos, if_neg, Option.bind_some, ite_false, ite_true, eq_self, reduceIte, lm_0, lm_1, lm_2, lm_3, lm_4, lm_5, lm_6, lm_7, lm_8, lm_9, lm_10, lm_11, lm_12, lm_13, lm_14, lm_15, lm_16, lm_17]
      have hQ3 : RQ F L n a d τ0 (up (up τ3 15 (k + 1) (τ3 15 k)) 15 k (τ3 15 (k + 1))) (fun i => q (sw (k + 1) k i)) := by
        have w : ∀ k' j, k' ≠ 15 → up (up τ3 15 (k + 1) (τ3 15 k)) 15 k (τ3 15 (k + 1)) k' j = τ3 k' j := fun k' j h => by
          rw [up_k _ _ _ _ _ h, up_k _ _ _ _ _ h]
        have w3 : up (up τ3 15 (k + 1) (τ3 15 k)) 15 k (τ3 15 (k + 1)) 3 = τ3 3 := funext fun j => w 3 j (by omega)
        refine ⟨by rw [w3]; exact SX_c (SX_sw hQ2.1 c2 hlt) w3 (funext fun j => w 8 j (by omega)) (w 0 17 (by omega)), fun i w' hi hw => ?_, fun i hi => ?_, fun i hi => hQ2.2.2.2.1 _ (hlt i hi), fun k' j g1 g2 g3 => ?_⟩
        · rw [w3, c2.1 i w' hi hw, hQ2.2.1 _ w' (hlt' i hi) hw]
        · have f15 : ∀ i, τ3 15 i = τ2 15 i := fun i => c2.2 15 i (by omega)
          rw [f15, f15]
          by_cases h1 : i = k
          · rw [h1, up_e, hQ2.2.2.1 (k + 1) (by omega)]
            show _ = ι (q (sw (k + 1) k k))
            unfold sw; rw [if_neg (by omega), if_pos rfl]
          · rw [up_j _ _ _ _ _ h1]
            by_cases h2 : i = k + 1
            · rw [h2, up_e, hQ2.2.2.1 k (by omega)]
              show _ = ι (q (sw (k + 1) k (k + 1)))
              unfold sw; rw [if_pos rfl]
            · rw [up_j _ _ _ _ _ h2, f15, hQ2.2.2.1 i hi]
              show _ = ι (q (sw (k + 1) k i))
              unfold sw; rw [if_neg h2, if_neg h1]
        · rw [w k' j g2, c2.2 k' j g3, hQ2.2.2.2.2 k' j g1 g2 g3]
      have hP1 : PC (up σ 383 (k + 1) (ι (q k))) F L d := ⟨by rw [up_k _ _ _ _ _ (by omega)]; exact hP.1, by rw [up_k _ _ _ _ _ (show (375 : Nat) ≠ 383 by omega), up_k _ _ _ _ _ (show (377 : Nat) ≠ 383 by omega)]; exact hP.2⟩
      obtain ⟨k', ρ, z, υ, q', d1, d2, d3, d4, d5, d6, d7, d8⟩ := ih n1 n2 _ (up σ 383 (k + 1) (ι (q k))) _ (by omega) (by omega) (by omega) hP1 hQ3 (by
          show q (sw (k + 1) k k) = s
          unfold sw; rw [if_neg (by omega), if_pos rfl]; exact hqk) (fun i hi hik => by
          show _ = ι (q (sw (k + 1) k i))
          unfold sw
          by_cases h2 : i = k + 1
          · rw [h2, if_pos rfl, up_e]
          · rw [up_j _ _ _ _ _ h2, if_neg h2, if_neg hik]; exact hr i hi h2)
      refine ⟨k', ρ, z, υ, q', d1, d2, d3, d4, d5, d6, fun j hj => (d7 j hj).trans (up_k _ _ _ _ _ hj), fun i hi => ?_⟩
      rw [d8 i hi]
      show q (sw (k + 1) k i) = q i
      unfold sw; rw [if_neg (by omega), if_neg (by omega)]
theorem sort_out {F : Nat → Int32} {L : List En} {n a d : Nat} {τ0 : Mem} (hd : d ≤ 60) (hL : L.length ≤ 144) : ∀ m s n1 n2 (q : Nat → Nat) (σ τ : Mem), s + m = d → m < n1 → m < n2 → PC σ F L d → RQ F L n a d τ0 τ q → (∀ i, i < s → σ 383 i = ι (q i)) → (∀ i, s ≤ i → q i = i) → ∃ z ρ z' υ q', fX4_rankScans_l2 373 n1 (ι s) σ = some (z, ρ) ∧ fX12_sortScans_l42 (ι d) n2 (ι s) τ = some (z', υ) ∧ RQ F L n a d τ0 υ q' ∧ (∀ i, i < d → ρ 383 i = ι (q' i)) ∧ (∀ j, j ≠ 383 → ρ j = σ j) ∧ (∀ i, d ≤ i → q' i = i) := by
  intro m
  induction m with
  | zero =>
    intro s n1 n2 q σ τ h h1 h2 hP hQ hr hq
    obtain ⟨n1, rfl⟩ : ∃ k, n1 = k + 1 := ⟨n1 - 1, by omega⟩
    obtain ⟨n2, rfl⟩ : ∃ k, n2 = k + 1 := ⟨n2 - 1, by omega⟩
    have e : s = d := by omega
    subst e
    rw [fX4_rankScans_l2, fX12_sortScans_l42, hP.1, if_pos (by rw [ι_le (by omega) (by omega)]; omega), if_pos (by rw [ι_le (by omega) (by omega)]; omega)]
    exact ⟨_, σ, _, τ, q, rfl, rfl, hQ, hr, fun _ _ => rfl, hq⟩
  | succ m ih =>
    intro s n1 n2 q σ τ h h1 h2 hP hQ hr hq
    obtain ⟨n1, rfl⟩ : ∃ k, n1 = k + 1 := ⟨n1 - 1, by omega⟩
    obtain ⟨n2, rfl⟩ : ∃ k, n2 = k + 1 := ⟨n2 - 1, by omega⟩
    obtain ⟨k', ρ, z, υ, q', d1, d2, d3, d4, d5, d6, d7, d8⟩ := sort_in (s := s) hd hL (by omega) (ι d) (ι s) s FU FU q σ τ (Nat.le_refl s) (by unfold FU; omega) (by unfold FU; omega) hP hQ (hq s (Nat.le_refl s)) (fun i hi his => hr i (by omega))
    have hput : fX3_put (373 + 9) (ι k') (ι s) ρ = some (up ρ 383 k' (ι s)) := c_put ln383 (by omega) (by omega)
    have hP1 : PC (up ρ 383 k' (ι s)) F L d := ⟨by rw [up_k _ _ _ _ _ (by omega), d7 373 (by omega)]; exact hP.1, by rw [up_k _ _ _ _ _ (show (375 : Nat) ≠ 383 by omega), up_k _ _ _ _ _ (show (377 : Nat) ≠ 383 by omega), d7 375 (by omega), d7 377 (by omega)]; exact hP.2⟩
    obtain ⟨w, ρ2, w', υ2, q2, g1, g2, g3, g4, g5, g6⟩ := ih (s + 1) n1 n2 q' (up ρ 383 k' (ι s)) υ (by omega) (by omega) (by omega) hP1 d5 (fun i hi => by
      by_cases hik : i = k'
      · rw [hik, up_e, d4]
      · rw [up_j _ _ _ _ _ hik]; exact d6 i (by omega) hik) (fun i hi => by rw [d8 i (by omega)]; exact hq i (by omega))
    refine ⟨w, ρ2, w', υ2, q2, ?_, ?_, g3, g4, fun j hj => (g5 j hj).trans ((up_k _ _ _ _ _ hj).trans (d7 j hj)), g6⟩
    · rw [fX4_rankScans_l2, hP.1, if_neg (by rw [ι_le (by omega) (by omega)]; omega), d1, Option.bind_some, hput, Option.bind_some, l_1, ι_add]
      exact g1
    · rw [fX12_sortScans_l42, if_neg (by rw [ι_le (by omega) (by omega)]; omega), d2, Option.bind_some, l_1, ι_add]
      exact g2
def nqB (q : Nat → Nat) (i : Nat) : Bool := decide (q i ≠ i)
theorem c_moved {σ : Mem} {d : Nat} {q : Nat → Nat} (hd : d ≤ 60) (h5 : σ 373 5 = ι d) (hq : ∀ i, i < d → q i < d) (hr : ∀ i, i < d → σ 383 i = ι (q i)) : ∀ m n i x, i + m = d → m < n → fX4_rankScans_l81 373 n (ι x) (ι i) σ = some (ι (x + cf (nqB q) i m), ι d) := by
  intro m
  induction m with
  | zero =>
    intro n i x h hn
    obtain ⟨n, rfl⟩ : ∃ k, n = k + 1 := ⟨n - 1, by omega⟩
    rw [fX4_rankScans_l81, h5]
    have e : i = d := by omega
    subst e
    simp (disch := omega) only [l_0, l_1, l_2, l_3, l_4, l_5, l_6, l_7, l_8, l_9, l_10, l_12, l_13, l_24, l_31, l_32, l_40, l_41, l_42, l_44, l_45, l_48, l_49, l_50, l_57, l_59, l_60, l_65, l_88, l_89, l_97, l_98, l_99, l_100, l_105, l_108, l_109, l_114, l_118, l_120, l_122, l_144, l_255, l_269, l_279, l_339, l_400, l_600, l_999, l_1000, l_2373, l_2712, ι_lt, ι_le, ι_eq, ι_add, ι_mul, ι_sub, ι_div, ι_n, ι_m1, m1_ι, m1_lt, m1_le, lt_m1, le_m1, m1_lt_m1, m1_le_m1, m1_add1, neg_ι1, ι_addm, ι_addn, Bool.false_eq_true, Nat.not_lt_zero, Nat.add_zero, Nat.zero_add, Nat.mul_zero, Nat.reduceMul, Nat.reduceAdd, Nat.reduceSub, Nat.reduceLT, Nat.reduceLeDiff, Nat.reduceEqDiff, Nat.reduceDiv, Nat.reduceBEq, Nat.reduceBNe, false_or, or_false, true_or, or_true, and_true, true_and, false_and, and_false, not_false_eq_true, not_true_eq_false, if_true, if_false, if_pos, if_neg, Option.bind_some, ite_false, ite_true, eq_self, reduceIte, cf, Nat.le_refl]
  | succ m ih =>
    intro n i x h hn
    obtain ⟨n, rfl⟩ : ∃ k, n = k + 1 := ⟨n - 1, by omega⟩
    have hqi := hq i (by omega)
    have hat : fX3_at (373 + 9) (ι i) σ = some (ι (q i)) := by rw [c_at ln383 (by omega) (by omega), hr i (by omega)]
    rw [fX4_rankScans_l81, h5, hat]
    unfold cf nqB
    by_cases hqi' : q i = i
    · simp (disch := omega) only [l_0, l_1, l_2, l_3, l_4, l_5, l_6, l_7, l_8, l_9, l_10, l_12, l_13, l_24, l_31, l_32, l_40, l_41, l_42, l_44, l_45, l_48, l_49, l_50, l_57, l_59, l_60, l_65, l_88, l_89, l_97, l_98, l_99, l_100, l_105, l_108, l_109, l_114, l_118, l_120, l_122, l_144, l_255, l_269, l_279, l_339, l_400, l_600, l_999, l_1000, l_2373, l_2712, ι_lt, ι_le, ι_eq, ι_add, ι_mul, ι_sub, ι_div, ι_n, ι_m1, m1_ι, m1_lt, m1_le, lt_m1, le_m1, m1_lt_m1, m1_le_m1, m1_add1, neg_ι1, ι_addm, ι_addn, Bool.false_eq_true, Nat.not_lt_zero, Nat.add_zero, Nat.zero_add, Nat.mul_zero, Nat.reduceMul, Nat.reduceAdd, Nat.reduceSub, Nat.reduceLT, Nat.reduceLeDiff, Nat.reduceEqDiff, Nat.reduceDiv, Nat.reduceBEq, Nat.reduceBNe, false_or, or_false, true_or, or_true, and_true, true_and, false_and, and_false, not_false_eq_true, not_true_eq_false, if_true, if_false, if_pos, if_neg, Option.bind_some, ite_false, ite_true, eq_self, reduceIte, hqi', ne_eq, decide_false]
      exact ih _ _ _ (by omega) (by omega)
    · simp (disch := omega) only [l_0, l_1, l_2, l_3, l_4, l_5, l_6, l_7, l_8, l_9, l_10, l_12, l_13, l_24, l_31, l_32, l_40, l_41, l_42, l_44, l_45, l_48, l_49, l_50, l_57, l_59, l_60, l_65, l_88, l_89, l_97, l_98, l_99, l_100, l_105, l_108, l_109, l_114, l_118, l_120, l_122, l_144, l_255, l_269, l_279, l_339, l_400, l_600, l_999, l_1000, l_2373, l_2712, ι_lt, ι_le, ι_eq, ι_add, ι_mul, ι_sub, ι_div, ι_n, ι_m1, m1_ι, m1_lt, m1_le, lt_m1, le_m1, m1_lt_m1, m1_le_m1, m1_add1, neg_ι1, ι_addm, ι_addn, Bool.false_eq_true, Nat.not_lt_zero, Nat.add_zero, Nat.zero_add, Nat.mul_zero, Nat.reduceMul, Nat.reduceAdd, Nat.reduceSub, Nat.reduceLT, Nat.reduceLeDiff, Nat.reduceEqDiff, Nat.reduceDiv, Nat.reduceBEq, Nat.reduceBNe, false_or, or_false, true_or, or_true, and_true, true_and, false_and, and_false, not_false_eq_true, not_true_eq_false, if_true, if_false, if_pos, if_neg, Option.bind_some, ite_false, ite_true, eq_self, reduceIte, hqi', ne_eq, decide_true]
      rw [← Nat.add_assoc]
      exact ih _ _ _ (by omega) (by omega)
theorem r_moved {τ : Mem} {d : Nat} {q : Nat → Nat} (hd : d ≤ 60) (hq : ∀ i, i < d → q i < d) (hr : ∀ i, i < d → τ 15 i = ι (q i)) : ∀ m n i x, i + m = d → m < n → fX12_sortScans_l124 (ι d) n (ι x) (ι i) τ = some (ι (x + cf (nqB q) i m), ι d) := by
  intro m
  induction m with
  | zero =>
    intro n i x h hn
    obtain ⟨n, rfl⟩ : ∃ k, n = k + 1 := ⟨n - 1, by omega⟩
    rw [fX12_sortScans_l124]
    have e : i = d := by omega
    subst e
    simp (disch := omega) only [l_0, l_1, l_2, l_3, l_4, l_5, l_6, l_7, l_8, l_9, l_10, l_12, l_13, l_24, l_31, l_32, l_40, l_41, l_42, l_44, l_45, l_48, l_49, l_50, l_57, l_59, l_60, l_65, l_88, l_89, l_97, l_98, l_99, l_100, l_105, l_108, l_109, l_114, l_118, l_120, l_122, l_144, l_255, l_269, l_279, l_339, l_400, l_600, l_999, l_1000, l_2373, l_2712, ι_lt, ι_le, ι_eq, ι_add, ι_mul, ι_sub, ι_div, ι_n, ι_m1, m1_ι, m1_lt, m1_le, lt_m1, le_m1, m1_lt_m1, m1_le_m1, m1_add1, neg_ι1, ι_addm, ι_addn, Bool.false_eq_true, Nat.not_lt_zero, Nat.add_zero, Nat.zero_add, Nat.mul_zero, Nat.reduceMul, Nat.reduceAdd, Nat.reduceSub, Nat.reduceLT, Nat.reduceLeDiff, Nat.reduceEqDiff, Nat.reduceDiv, Nat.reduceBEq, Nat.reduceBNe, false_or, or_false, true_or, or_true, and_true, true_and, false_and, and_false, not_false_eq_true, not_true_eq_false, if_true, if_false, if_pos, if_neg, Option.bind_some, ite_false, ite_true, eq_self, reduceIte, cf, Nat.le_refl]
  | succ m ih =>
    intro n i x h hn
    obtain ⟨n, rfl⟩ : ∃ k, n = k + 1 := ⟨n - 1, by omega⟩
    have hqi := hq i (by omega)
    have hri := hr i (by omega)
    rw [fX12_sortScans_l124]
    unfold cf nqB
    by_cases hqi' : q i = i
    · simp (disch := omega) only [l_0, l_1, l_2, l_3, l_4, l_5, l_6, l_7, l_8, l_9, l_10, l_12, l_13, l_24, l_31, l_32, l_40, l_41, l_42, l_44, l_45, l_48, l_49, l_50, l_57, l_59, l_60, l_65, l_88, l_89, l_97, l_98, l_99, l_100, l_105, l_108, l_109, l_114, l_118, l_120, l_122, l_144, l_255, l_269, l_279, l_339, l_400, l_600, l_999, l_1000, l_2373, l_2712, ι_lt, ι_le, ι_eq, ι_add, ι_mul, ι_sub, ι_div, ι_n, ι_m1, m1_ι, m1_lt, m1_le, lt_m1, le_m1, m1_lt_m1, m1_le_m1, m1_add1, neg_ι1, ι_addm, ι_addn, Bool.false_eq_true, Nat.not_lt_zero, Nat.add_zero, Nat.zero_add, Nat.mul_zero, Nat.reduceMul, Nat.reduceAdd, Nat.reduceSub, Nat.reduceLT, Nat.reduceLeDiff, Nat.reduceEqDiff, Nat.reduceDiv, Nat.reduceBEq, Nat.reduceBNe, false_or, or_false, true_or, or_true, and_true, true_and, false_and, and_false, not_false_eq_true, not_true_eq_false, if_true, if_false, if_pos, if_neg, Option.bind_some, ite_false, ite_true, eq_self, reduceIte, lm_0, lm_1, lm_2, lm_3, lm_4, lm_5, lm_6, lm_7, lm_8, lm_9, lm_10, lm_11, lm_12, lm_13, lm_14, lm_15, lm_16, lm_17, hri, hqi', ne_eq, decide_false]
      exact ih _ _ _ (by omega) (by omega)
    · simp (disch := omega) only [l_0, l_1, l_2, l_3, l_4, l_5, l_6, l_7, l_8, l_9, l_10, l_12, l_13, l_24, l_31, l_32, l_40, l_41, l_42, l_44, l_45, l_48, l_49, l_50, l_57, l_59, l_60, l_65, l_88, l_89, l_97, l_98, l_99, l_100, l_105, l_108, l_109, l_114, l_118, l_120, l_122, l_144, l_255, l_269, l_279, l_339, l_400, l_600, l_999, l_1000, l_2373, l_2712, ι_lt, ι_le, ι_eq, ι_add, ι_mul, ι_sub, ι_div, ι_n, ι_m1, m1_ι, m1_lt, m1_le, lt_m1, le_m1, m1_lt_m1, m1_le_m1, m1_add1, neg_ι1, ι_addm, ι_addn, Bool.false_eq_true, Nat.not_lt_zero, Nat.add_zero, Nat.zero_add, Nat.mul_zero, Nat.reduceMul, Nat.reduceAdd, Nat.reduceSub, Nat.reduceLT, Nat.reduceLeDiff, Nat.reduceEqDiff, Nat.reduceDiv, Nat.reduceBEq, Nat.reduceBNe, false_or, or_false, true_or, or_true, and_true, true_and, false_and, and_false, not_false_eq_true, not_true_eq_false, if_true, if_false, if_pos, if_neg, Option.bind_some, ite_false, ite_true, eq_self, reduceIte, lm_0, lm_1, lm_2, lm_3, lm_4, lm_5, lm_6, lm_7, lm_8, lm_9, lm_10, lm_11, lm_12, lm_13, lm_14, lm_15, lm_16, lm_17, hri, hqi', ne_eq, decide_true]
      rw [← Nat.add_assoc]
      exact ih _ _ _ (by omega) (by omega)
theorem r_was {d : Nat} (hd : d ≤ 60) : ∀ m n i (τ : Mem), i + m = d → m < n → (∀ j, j < i → τ 15 j = ι j) → ∃ z υ, fX12_sortScans_l22 (ι d) n (ι i) τ = some (z, υ) ∧ (∀ j, j < d → υ 15 j = ι j) ∧ ∀ k j, k ≠ 15 → υ k j = τ k j := by
  intro m
  induction m with
  | zero =>
    intro n i τ h hn hr
    obtain ⟨n, rfl⟩ : ∃ k, n = k + 1 := ⟨n - 1, by omega⟩
    rw [fX12_sortScans_l22, if_pos (by rw [ι_le (by omega) (by omega)]; omega)]
    exact ⟨_, _, rfl, fun j hj => hr j (by omega), fun _ _ _ => rfl⟩
  | succ m ih =>
    intro n i τ h hn hr
    obtain ⟨n, rfl⟩ : ∃ k, n = k + 1 := ⟨n - 1, by omega⟩
    obtain ⟨z, υ, a1, a2, a3⟩ := ih n (i + 1) (up τ 15 i (ι i)) (by omega) (by omega) (fun j hj => by
      by_cases hji : j = i
      · rw [hji, up_e]
      · rw [up_j _ _ _ _ _ hji]; exact hr j (by omega))
    refine ⟨z, υ, ?_, a2, fun k j hk => (a3 k j hk).trans (congrFun (up_k _ _ _ _ _ hk) j)⟩
    rw [fX12_sortScans_l22]
    simp (disch := omega) only [l_0, l_1, l_2, l_3, l_4, l_5, l_6, l_7, l_8, l_9, l_10, l_12, l_13, l_24, l_31, l_32, l_40, l_41, l_42, l_44, l_45, l_48, l_49, l_50, l_57, l_59, l_60, l_65, l_88, l_89, l_97, l_98, l_99, l_100, l_105, l_108, l_109, l_114, l_118, l_120, l_122, l_144, l_255, l_269, l_279, l_339, l_400, l_600, l_999, l_1000, l_2373, l_2712, ι_lt, ι_le, ι_eq, ι_add, ι_mul, ι_sub, ι_div, ι_n, ι_m1, m1_ι, m1_lt, m1_le, lt_m1, le_m1, m1_lt_m1, m1_le_m1, m1_add1, neg_ι1, ι_addm, ι_addn, Bool.false_eq_true, Nat.not_lt_zero, Nat.add_zero, Nat.zero_add, Nat.mul_zero, Nat.reduceMul, Nat.reduceAdd, Nat.reduceSub, Nat.reduceLT, Nat.reduceLeDiff, Nat.reduceEqDiff, Nat.reduceDiv, Nat.reduceBEq, Nat.reduceBNe, false_or, or_false, true_or, or_true, and_true, true_and, false_and, and_false, not_false_eq_true, not_true_eq_false, if_true, if_false, if_pos, if_neg, Option.bind_some, ite_false, ite_true, eq_self, reduceIte, lm_0, lm_1, lm_2, lm_3, lm_4, lm_5, lm_6, lm_7, lm_8, lm_9, lm_10, lm_11, lm_12, lm_13, lm_14, lm_15, lm_16, lm_17]
    exact a1
theorem c_arr {d : Nat} {q : Nat → Nat} (hd : d ≤ 60) (hq : ∀ i, i < d → q i < d) : ∀ m n i (σ : Mem), i + m = d → m < n → σ 62 3 = ι d → (∀ j, j < d → σ 383 j = ι (q j)) → ∃ z ρ, fX5_arrange_l2 62 72 382 n (ι i) σ = some (z, ρ) ∧ (∀ k j, R3 k → i ≤ j → j < d → ρ k j = σ (k + 10) (q j)) ∧ ∀ k j, ¬ (R3 k ∧ i ≤ j ∧ j < d) → ρ k j = σ k j := by
  intro m
  induction m with
  | zero =>
    intro n i σ h hn h3 hr
    obtain ⟨n, rfl⟩ : ∃ k, n = k + 1 := ⟨n - 1, by omega⟩
    rw [fX5_arrange_l2, h3, if_pos (by rw [ι_le (by omega) (by omega)]; omega)]
    exact ⟨_, _, rfl, fun k j _ h1 h2 => by omega, fun _ _ _ => rfl⟩
  | succ m ih =>
    intro n i σ h hn h3 hr
    obtain ⟨n, rfl⟩ : ∃ k, n = k + 1 := ⟨n - 1, by omega⟩
    have hqi := hq i (by omega)
    obtain ⟨σ1, a1, a2, a3⟩ := c_putFrom (δ := 10) (f := q i) (t := i) (Or.inr rfl) (by omega) (by omega) σ
    have a1 : fX5_putFrom 62 72 (ι (q i)) (ι i) σ = some σ1 := a1
    obtain ⟨z, ρ, b1, b2, b3⟩ := ih n (i + 1) σ1 (by omega) (by omega) (by rw [a3 62 3 (by unfold R3; omega)]; exact h3) (fun j hj => by rw [a3 383 j (by unfold R3; omega)]; exact hr j hj)
    refine ⟨z, ρ, ?_, fun k j hk h1 h2 => ?_, fun k j hk => ?_⟩
    · rw [fX5_arrange_l2, h3, if_neg (by rw [ι_le (by omega) (by omega)]; omega), c_at ln383 (by omega) (by omega), Option.bind_some, hr i (by omega), a1, Option.bind_some, l_1, ι_add]
      exact b1
    · by_cases hj : j = i
      · subst hj
        rw [b3 k j (by omega), a2 k hk]
      · rw [b2 k j hk (by omega) h2, a3 (k + 10) (q j) (by unfold R3 at hk ⊢; omega)]
    · rw [b3 k j (fun z => hk ⟨z.1, by omega, z.2.2⟩), a3 k j (fun z => hk ⟨z.1, by omega, by omega⟩)]
theorem sim14 : Sim14 Rel := by
  intro σ τ hR
  replace hR := Rel_0 hR 0
  unfold fX12_sortScans fX11_sortScans
  generalize up τ 0 0 (0 : Int32) = τ at *
  obtain ⟨k, n, a, b, d, t, hO⟩ := RO_of hR
  obtain ⟨ρ1, υ', e1, -, hO1, -, pc1, -, f1, f1'⟩ := scans_RO hO
  have hd := hO.2.1.2.2.2.2.2.2.2.1
  have hLl := ordE_len (F := τ 3) hO.1.1.2.2.2.2 hO.2.1.2.1 hO.2.1.2.2.1
  have hO1' : RO ρ1 τ k n a b d t := RO_c hO (fun j hj => f1 j (by unfold KK RK at hj; omega)) (fun _ _ _ => rfl)
  -- the reference's side first: what is remembered, the order
  obtain ⟨ρx, υ1, -, e2, hOx, -, u2⟩ := keep_RO hO1'
  obtain ⟨-, υ2, -, e3, -, -, -, sx, -, f2⟩ := scans_RO hOx
  have v3 : υ1 3 = τ 3 := funext fun j => u2 3 j (by omega)
  rw [v3] at sx
  generalize hLe : ordE (τ 3) n a = L at *
  have w3 : υ2 3 = τ 3 := sx.2.2.2.2.2.2.1
  have hw2 : υ2 3 2 = ι d := by rw [w3]; exact sx.2.2.2.2.2.2.2.2.2
  obtain ⟨z1, υ3, g1, g2, g3⟩ := r_was hd d FU 0 υ2 (by omega) (by unfold FU; omega) (fun j hj => by omega)
  have hQ0 : RQ (τ 3) L n a d υ2 υ3 (fun i => i) := by
    have x3 : υ3 3 = τ 3 := (funext fun j => g3 3 j (by omega) : υ3 3 = υ2 3).trans w3
    refine ⟨by rw [x3]; exact SX_c sx (x3.trans w3.symm) (funext fun j => g3 8 j (by omega)) (g3 0 17 (by omega)), fun i w hi hw => by rw [x3], g2, fun i hi => hi, fun k j h1 h2 h3 => g3 k j h2⟩
  -- both sorts
  have key : ∃ z ρ z' υ q', fX4_rankScans_l2 373 FU (ι 0) ρ1 = some (z, ρ) ∧ fX12_sortScans_l42 (ι d) FU (ι 1) υ3 = some (z', υ) ∧ RQ (τ 3) L n a d υ2 υ q' ∧ (∀ i, i < d → ρ 383 i = ι (q' i)) ∧ (∀ j, j ≠ 383 → ρ j = ρ1 j) ∧ (∀ i, d ≤ i → q' i = i) := by
    by_cases h0 : d = 0
    · subst h0
      rw [show FU = 4095 + 1 from rfl, fX4_rankScans_l2, fX12_sortScans_l42, pc1.1, if_pos (by decide), if_pos (by decide)]
      exact ⟨_, _, _, _, _, rfl, rfl, hQ0, fun i hi => by omega, fun _ _ => rfl, fun _ _ => rfl⟩
    · have hput : fX3_put (373 + 9) (ι 0) (ι 0) ρ1 = some (up ρ1 383 0 (ι 0)) := c_put ln383 (by omega) (by omega)
      have hP1 : PC (up ρ1 383 0 (ι 0)) (τ 3) L d := ⟨by rw [up_k _ _ _ _ _ (by omega)]; exact pc1.1, by rw [up_k _ _ _ _ _ (show (375 : Nat) ≠ 383 by omega), up_k _ _ _ _ _ (show (377 : Nat) ≠ 383 by omega)]; exact pc1.2⟩
      obtain ⟨z, ρ, z', υ, q', h1, h2, h3, h4, h5, h6⟩ := sort_out hd hLl (d - 1) 1 4095 FU (fun i => i) (up ρ1 383 0 (ι 0)) υ3 (by omega) (by omega) (by unfold FU; omega) hP1 hQ0 (fun i hi => by
        have : i = 0 := by omega
        subst this; exact up_e _ _ _ _) (fun _ _ => rfl)
      refine ⟨z, ρ, z', υ, q', ?_, h2, h3, h4, fun j hj => (h5 j hj).trans (up_k _ _ _ _ _ hj), h6⟩
      have hin : fX4_rankScans_l12 373 (ι 0) FU (ι 0) ρ1 = some (ι 0, ρ1) := by
        rw [show FU = 4095 + 1 from rfl, fX4_rankScans_l12, if_pos (by decide)]
      rw [show FU = 4095 + 1 from rfl, fX4_rankScans_l2, pc1.1, if_neg (by rw [ι_le (by omega) (by omega)]; omega), hin, Option.bind_some, hput, Option.bind_some, l_1, ι_add]
      exact h1
  obtain ⟨z, ρ2, z', υ4, q, s1, s2, s3, s4, s5, s6⟩ := key
  have hO2 : RO ρ2 τ k n a b d t := RO_c hO1' (fun j hj => s5 j (by unfold KK RK at hj; omega)) (fun _ _ _ => rfl)
  obtain ⟨ρ3, υ1', e4, e2', hO3, u3, -⟩ := keep_RO hO2
  have hυ : υ1' = υ1 := by rw [e2] at e2'; exact (Option.some.inj e2').symm
  subst hυ
  have hc := hO3.2.2.2.2.1
  obtain ⟨ρ4, e5, c4, u4⟩ := CR_copy (v := 72) (w := 62) hd (by decide) hc (by omega)
  have h62 : ρ4 62 3 = ι d := by rw [u4 62 (by omega)]; exact hc.2.1
  have h383 : ∀ j, j < d → ρ4 383 j = ι (q j) := fun j hj => by rw [u4 383 (by omega), u3 383 (by omega)]; exact s4 j hj
  obtain ⟨z2, ρ5, e6, a1, a2⟩ := c_arr hd s3.2.2.2.1 d FU 0 ρ4 (by omega) (by unfold FU; omega) h62 h383
  have hm1 := c_moved (q := q) hd (by rw [s5 373 (by omega)]; exact pc1.1) s3.2.2.2.1 s4 d FU 0 0 (by omega) (by unfold FU; omega)
  have hm2 := r_moved (q := q) hd s3.2.2.2.1 s3.2.2.1 d FU 0 0 (by omega) (by unfold FU; omega)
  refine ⟨ι (0 + cf (nqB q) 0 d), ρ5, υ4, ?_, ?_, ?_⟩
  · have s1 : fX4_rankScans_l2 373 FU 0 ρ1 = _ := s1
    have hm1 : fX4_rankScans_l81 373 FU 0 0 ρ2 = _ := hm1
    have e6 : fX5_arrange_l2 62 72 382 FU 0 ρ4 = _ := e6
    unfold fX4_rankScans fX5_arrange
    rw [e1, Option.bind_some, Nat.zero_add, s1, Option.bind_some, hm1, Option.bind_some, Option.bind_some, Nat.zero_add, Nat.zero_add, e4, Option.bind_some, Nat.zero_add, Nat.zero_add, e5, Option.bind_some, e6]; rfl
  · have g1 : fX12_sortScans_l22 (ι d) FU 0 υ2 = _ := g1
    have s2 : fX12_sortScans_l42 (ι d) FU 1 υ3 = _ := s2
    have hm2 : fX12_sortScans_l124 (ι d) FU 0 0 υ4 = _ := hm2
    have ez : ¬ ((2 : Int32) < 0 ∨ lm 3 ≤ (2 : Int32).toNatClampNeg) := by decide
    have en : (2 : Int32).toNatClampNeg = 2 := rfl
    rw [e2, Option.bind_some, e3, Option.bind_some, if_neg ez, en, hw2, g1, Option.bind_some, s2, Option.bind_some, hm2, Option.bind_some]
  · have hcs : CSW ρ3 (fun j => if j = 64 ∨ j = 66 ∨ j = 68 then ρ5 j else ρ3 j) q := by
      refine ⟨fun i hi => ?_, fun j h1 h2 h3 => ?_⟩
      · show ρ5 64 i = ρ3 64 (q i) ∧ ρ5 66 i = ρ3 66 (q i) ∧ ρ5 68 i = ρ3 68 (q i)
        by_cases hi' : i < d
        · have hq' := s3.2.2.2.1 i hi'
          refine ⟨?_, ?_, ?_⟩
          · rw [a1 64 i (by unfold R3; omega) (by omega) hi', hc.2.2.1 _ hq']; exact c4.2.2.1 _ hq'
          · rw [a1 66 i (by unfold R3; omega) (by omega) hi', hc.2.2.2.1 _ hq']; exact c4.2.2.2.1 _ hq'
          · rw [a1 68 i (by unfold R3; omega) (by omega) hi', hc.2.2.2.2 _ hq']; exact c4.2.2.2.2 _ hq'
        · rw [s6 i (by omega)]
          refine ⟨?_, ?_, ?_⟩
          · rw [a2 64 i (by omega), u4 64 (by omega)]
          · rw [a2 66 i (by omega), u4 66 (by omega)]
          · rw [a2 68 i (by omega), u4 68 (by omega)]
      · simp only [h1, h2, h3, or_self, if_false]
    have hsw : SW υ1' (fun k j => if k = 3 then υ4 k j else υ1' k j) q := by
      refine ⟨fun i w hi hw => ?_, fun k j hk => ?_⟩
      · show (if 3 = 3 then υ4 3 (89 + 3 * i + w) else _) = _
        rw [if_pos rfl, s3.2.1 i w hi hw, v3]
      · show (if k = 3 then υ4 k j else υ1' k j) = _
        by_cases h3 : k = 3
        · rw [if_pos h3, s3.2.2.2.2 k j (by omega) (by omega) hk, f2 k j (by omega)]
        · rw [if_neg h3]
    have hP := perm_RO (d' := d) hO3 hcs hsw (Nat.le_refl d) s3.2.2.2.1
    refine Rel_c (RO_rel hP) (fun j hj => ?_) (fun k j hk => ?_)
    · funext i
      rw [up_g]
      by_cases h1 : j = 64 ∨ j = 66 ∨ j = 68
      · rw [if_neg (by omega)]
        simp only [if_pos h1]
      · by_cases h2 : j = 62 ∧ i = 3
        · rw [if_pos h2, h2.1, h2.2, a2 62 3 (by unfold R3; omega), h62]
        · rw [if_neg h2]
          simp only [if_neg h1]
          rw [a2 j i (by unfold R3; omega), u4 j (by unfold KK RK at hj; omega)]
    · rw [up_g]
      by_cases h3 : k = 3
      · subst h3
        by_cases h2 : j = 2
        · subst h2
          rw [if_pos ⟨rfl, rfl⟩, s3.2.2.2.2 3 2 (by omega) (by omega) (by omega), hw2]
        · rw [if_neg (by omega), if_pos rfl]
      · rw [if_neg (by omega), if_neg h3, s3.2.2.2.2 k j (by unfold KT RT at hk; omega) (by unfold KT RT at hk; omega) (by omega), f2 k j (by unfold KT RT at hk; omega)]
