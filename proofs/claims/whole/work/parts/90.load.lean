/-! PURE PART: errorPosition and load -/
theorem IR_B {σ τ : Mem} (h : IR σ τ) : ∃ B m, BC B m σ ∧ BR B m τ := by
  obtain ⟨m, h1, h2, h3, h4⟩ := h
  refine ⟨fun i => nn (σ 34 i), m, ⟨h1, h2, fun i hi => ?_⟩, ⟨h1, h3, fun i hi => ?_⟩⟩
  · obtain ⟨b, b1, b2, b3, b4⟩ := h4 i hi
    show nn (σ 34 i) < 256 ∧ σ 34 i = ι (nn (σ 34 i))
    rw [b3, nn_ι (by omega)]; exact ⟨b2, rfl⟩
  · obtain ⟨b, b1, b2, b3, b4⟩ := h4 i hi
    show nn (σ 34 i) < 256 ∧ τ 7 i = sx (nn (σ 34 i))
    rw [b3, nn_ι (by omega)]; exact ⟨b2, b4⟩
theorem frQ_KK {σ ρ : Mem} (h : frQ σ ρ) : ∀ j, KK j → ρ j = σ j := fun j hj => h j (by unfold KK RK at hj; omega)
theorem frP_KT {τ υ : Mem} (h : frP τ υ) : ∀ k j, KT k j → υ k j = τ k j := fun k j hj => h k j (by unfold KT RT at hj; omega)
theorem sim2 : Sim2 Rel := by
  intro σ τ hR
  replace hR := Rel_0 hR 0
  unfold fX12_errorPosition fX11_errorPosition
  generalize up τ 0 0 (0 : Int32) = τ at *
  have hR' := hR
  obtain ⟨k, n, hr, hC⟩ := hR'
  obtain ⟨B, m, hB, hb⟩ := IR_B hr.2.2.2.2.1
  obtain ⟨v, ρ, υ, h1, h2, h3, h4, -⟩ := text_sim hB hb
  rw [show 0 + 1 = 1 from rfl, h1, h2, Option.bind_some, Option.bind_some]
  exact ⟨v, ρ, υ, rfl, rfl, Rel_c hR (frQ_KK h3) (frP_KT h4)⟩
theorem r_bl : ∀ d f i (τ : Mem), i + d = 8 → d < f → ∃ z υ, fX12_begins_l10 f (ι i) τ = some (z, υ) ∧ (∀ j, i ≤ j → j < 8 → υ 1 j = τ 2 j) ∧ ∀ k j, ¬ (k = 1 ∧ i ≤ j ∧ j < 8) → υ k j = τ k j := by
  intro d
  induction d with
  | zero =>
    intro f i τ hi hf
    obtain ⟨f, rfl⟩ : ∃ k, f = k + 1 := ⟨f - 1, by omega⟩
    rw [fX12_begins_l10, if_pos (by rw [l_8, ι_le (by omega) (by omega)]; omega)]
    exact ⟨_, _, rfl, fun j h1 h2 => by omega, fun _ _ _ => rfl⟩
  | succ d ih =>
    intro f i τ hi hf
    obtain ⟨f, rfl⟩ : ∃ k, f = k + 1 := ⟨f - 1, by omega⟩
    have hf1 : ¬ (ι i < (0 : Int32) ∨ lm 2 ≤ (ι i).toNatClampNeg) := by simp (disch := omega) only [l_0, l_1, l_2, l_3, l_4, l_5, l_6, l_7, l_8, l_9, l_10, l_12, l_13, l_24, l_31, l_32, l_40, l_41, l_42, l_44, l_45, l_48, l_49, l_50, l_57, l_59, l_60, l_65, l_88, l_89, l_97, l_98, l_99, l_100, l_105, l_108, l_109, l_114, l_118, l_120, l_122, l_144, l_255, l_269, l_279, l_339, l_400, l_600, l_999, l_1000, l_2373, l_2712, ι_lt, ι_le, ι_eq, ι_add, ι_mul, ι_sub, ι_div, ι_n, ι_m1, m1_ι, m1_lt, m1_le, lt_m1, le_m1, m1_lt_m1, m1_le_m1, m1_add1, neg_ι1, ι_addm, ι_addn, Bool.false_eq_true, Nat.not_lt_zero, Nat.add_zero, Nat.zero_add, Nat.mul_zero, Nat.reduceMul, Nat.reduceAdd, Nat.reduceSub, Nat.reduceLT, Nat.reduceLeDiff, Nat.reduceEqDiff, Nat.reduceDiv, Nat.reduceBEq, Nat.reduceBNe, false_or, or_false, true_or, or_true, and_true, true_and, false_and, and_false, not_false_eq_true, not_true_eq_false, if_true, if_false, if_pos, if_neg, Option.bind_some, ite_false, ite_true, eq_self, reduceIte, lm_0, lm_1, lm_2, lm_3, lm_4, lm_5, lm_6, lm_7, lm_8, lm_9, lm_10, lm_11, lm_12, lm_13, lm_14, lm_15, lm_16, lm_17]; omega
    have hf2 : ¬ (ι i < (0 : Int32) ∨ lm 1 ≤ (ι i).toNatClampNeg) := by simp (disch := omega) only [l_0, l_1, l_2, l_3, l_4, l_5, l_6, l_7, l_8, l_9, l_10, l_12, l_13, l_24, l_31, l_32, l_40, l_41, l_42, l_44, l_45, l_48, l_49, l_50, l_57, l_59, l_60, l_65, l_88, l_89, l_97, l_98, l_99, l_100, l_105, l_108, l_109, l_114, l_118, l_120, l_122, l_144, l_255, l_269, l_279, l_339, l_400, l_600, l_999, l_1000, l_2373, l_2712, ι_lt, ι_le, ι_eq, ι_add, ι_mul, ι_sub, ι_div, ι_n, ι_m1, m1_ι, m1_lt, m1_le, lt_m1, le_m1, m1_lt_m1, m1_le_m1, m1_add1, neg_ι1, ι_addm, ι_addn, Bool.false_eq_true, Nat.not_lt_zero, Nat.add_zero, Nat.zero_add, Nat.mul_zero, Nat.reduceMul, Nat.reduceAdd, Nat.reduceSub, Nat.reduceLT, Nat.reduceLeDiff, Nat.reduceEqDiff, Nat.reduceDiv, Nat.reduceBEq, Nat.reduceBNe, false_or, or_false, true_or, or_true, and_true, true_and, false_and, and_false, not_false_eq_true, not_true_eq_false, if_true, if_false, if_pos, if_neg, Option.bind_some, ite_false, ite_true, eq_self, reduceIte, lm_0, lm_1, lm_2, lm_3, lm_4, lm_5, lm_6, lm_7, lm_8, lm_9, lm_10, lm_11, lm_12, lm_13, lm_14, lm_15, lm_16, lm_17]; omega
    rw [fX12_begins_l10, if_neg (by rw [l_8, ι_le (by omega) (by omega)]; omega), if_neg hf1, if_neg hf2, ι_n (by omega), l_1, ι_add]
    obtain ⟨z, υ, b1, b2, b3⟩ := ih f (i + 1) (up τ 1 i (τ 2 i)) (by omega) (by omega)
    refine ⟨z, υ, b1, fun j h1 h2 => ?_, fun k j hk => ?_⟩
    · by_cases e : j = i
      · rw [b3 1 j (by omega), e, up_e]
      · rw [b2 j (by omega) h2, up_k _ _ _ _ _ (by omega)]
    · rw [b3 k j (by omega), up_g, if_neg (by omega)]
theorem r_begins (τ : Mem) : ∃ υ, fX12_begins τ = some υ ∧ (∀ j, j < 8 → υ 1 j = τ 2 j) ∧ (∀ j, j < 339 → υ 3 j = τ 4 j) ∧ υ 0 3 = τ 0 4 ∧ υ 0 9 = ι 0 ∧ υ 0 10 = ι 0 ∧ ∀ k j, ¬ (k = 1 ∨ k = 3 ∨ (k = 0 ∧ (j = 3 ∨ j = 9 ∨ j = 10))) → υ k j = τ k j := by
  obtain ⟨z, υ, a1, a2, a3⟩ := r_bl 8 FU 0 (up τ 0 3 (τ 0 4)) (by omega) (by unfold FU; omega)
  have a1 : fX12_begins_l10 FU (0 : Int32) (up τ 0 3 (τ 0 4)) = some (z, υ) := a1
  have hc := ref_copies (τ := υ) (o := 4) (p := 3) (A := 0) (B := 0) (by omega) (by decide) (by decide) (by omega) (by omega)
  have hc : fX12_copies 4 (0 : Int32) 3 (0 : Int32) υ = _ := hc
  refine ⟨_, (by unfold fX12_begins; rw [a1, Option.bind_some]; show (fX12_copies 4 (0 : Int32) 3 (0 : Int32) υ).bind _ = _; rw [hc, Option.bind_some]), fun j hj => ?_, fun j hj => ?_, ?_, ?_, ?_, fun k j hk => ?_⟩
  · rw [up_k _ _ _ _ _ (by omega), up_k _ _ _ _ _ (by omega)]
    show (if 1 = 3 ∧ 0 ≤ j ∧ j < 0 + 339 then υ 4 (0 + (j - 0)) else υ 1 j) = _
    rw [if_neg (by omega), a2 j (by omega) hj, up_k _ _ _ _ _ (by omega)]
  · rw [up_k _ _ _ _ _ (by omega), up_k _ _ _ _ _ (by omega)]
    show (if 3 = 3 ∧ 0 ≤ j ∧ j < 0 + 339 then υ 4 (0 + (j - 0)) else υ 3 j) = _
    rw [if_pos (by omega), Nat.zero_add, Nat.sub_zero, a3 4 j (by omega), up_k _ _ _ _ _ (by omega)]
  · rw [up_j _ _ _ _ _ (by omega), up_j _ _ _ _ _ (by omega)]
    show (if 0 = 3 ∧ 0 ≤ 3 ∧ 3 < 0 + 339 then υ 4 (0 + (3 - 0)) else υ 0 3) = _
    rw [if_neg (by omega), a3 0 3 (by omega), up_e]
  · rw [up_j _ _ _ _ _ (by omega), up_e]; rfl
  · rw [up_e]; rfl
  · rw [up_g, if_neg (by omega), up_g, if_neg (by omega)]
    show (if k = 3 ∧ 0 ≤ j ∧ j < 0 + 339 then υ 4 (0 + (j - 0)) else υ k j) = _
    rw [if_neg (by omega), a3 k j (by omega), up_g, if_neg (by omega)]
theorem load_Rel {σ τ ρ υ : Mem} {k n a b : Nat} (hk : 1 ≤ k) (hD : DR σ τ k n a b) (hI : ∃ m, m ≤ 600 ∧ σ 33 1 = ι m) (h35 : FR σ τ) (h37 : Tx σ 37) (h39 : Tx σ 39) (h79 : ∃ nx, nx < 8 ∧ σ 79 1 = ι nx) (hro : Ro τ) (h12 : τ 0 12 = ι 0) (hu : fX12_begins τ = some υ) : ∃ ρ, ((fX7_copyFrom 41 2 σ).bind fun v32 => (fX0_clear 79 v32).bind fun v39 => fX8_shortenTo 33 (0 : Int32) (up v39 0 13 (0 : Int32))) = some ρ ∧ Rel ρ υ ∧ ρ 42 6 = ι n ∧ fX12_leaves υ = some (ι n) ∧ υ 0 0 = τ 0 0 := by
  obtain ⟨υ', b0, b1, b2, b3, b4, b5, b6⟩ := r_begins τ
  have e : υ' = υ := by rw [hu] at b0; exact (Option.some.inj b0).symm
  subst e
  obtain ⟨d1, d2, d3, d4, d5, ⟨d6, d7, d8, d9⟩, d10⟩ := hD
  have hn := d1.2.2.2
  have hQ : QI (τ 2) k n := ⟨hk, d1.1, d1.2.1, d1.2.2.1, d1.2.2.2⟩
  have hS : SR σ 2 (τ 2) k n a b 0 0 (τ 4) := ⟨d4, d5, ⟨by decide, d6, fun i hi => by omega, fun i hi => by omega, fun i hi => by omega⟩, ⟨by decide, d7, by rw [d9]; exact d8, fun i hi => by omega⟩⟩
  obtain ⟨ρ1, c1, c2, c3⟩ := SR_copy hQ d3 SL_41 hS (by omega)
  obtain ⟨m, m1, m2⟩ := hI
  have s33 : (up (up ρ1 79 2 (0 : Int32)) 0 13 (0 : Int32)) 33 1 = ι m := by rw [up_k _ _ _ _ _ (by omega), up_k _ _ _ _ _ (by omega), c3 33 (by omega)]; exact m2
  have hsh : fX8_shortenTo 33 (0 : Int32) (up (up ρ1 79 2 (0 : Int32)) 0 13 (0 : Int32)) = some (up (up (up ρ1 79 2 (0 : Int32)) 0 13 (0 : Int32)) 33 1 (ι 0)) := c_short m1 s33 (Nat.zero_le m)
  -- what the new memories hold
  have hq1 : ∀ i, i < 8 → υ' 1 i = τ 2 i := b1
  have hqN : ∀ i, i < 8 → qN (υ' 1) i = qN (τ 2) i := fun i hi => by unfold qN; rw [hq1 i hi]
  have hk8 := d1.1
  have hQ2 : QI (υ' 1) k n := ⟨hk, d1.1, fun i hi => by rw [hqN i (by omega), hq1 i (by omega)]; exact d1.2.1 i hi, by rw [sm_congr k 0 (fun i _ hi => hqN i (by omega))]; exact d1.2.2.1, hn⟩
  have hF2 : FI n a b 0 0 (υ' 3) := FI_c hn d3 b2
  have hS2 : SR (up (up (up ρ1 79 2 (0 : Int32)) 0 13 (0 : Int32)) 33 1 (ι 0)) 41 (τ 2) k n a b 0 0 (υ' 3) := SR_c hn d3 c2 (fun j h1 h2 => by rw [up_k _ _ _ _ _ (by omega), up_k _ _ _ _ _ (by omega), up_k _ _ _ _ _ (by omega)]) b2
  have hS3 : SR (up (up (up ρ1 79 2 (0 : Int32)) 0 13 (0 : Int32)) 33 1 (ι 0)) 41 (υ' 1) k n a b 0 0 (υ' 3) := by
    obtain ⟨⟨v0, v1, v2, v3, v4, v5⟩, w2, w3, w4⟩ := hS2
    exact ⟨⟨v0, v1, v2, v3, fun i hi => by rw [hq1 i (by omega)]; exact v4 i hi, v5⟩, w2, w3, w4⟩
  have g : ∀ j, j ≠ 0 → j ≠ 33 → j ≠ 79 → (j < 41 ∨ 72 ≤ j) → (up (up (up ρ1 79 2 (0 : Int32)) 0 13 (0 : Int32)) 33 1 (ι 0)) j = σ j := fun j h1 h2 h3 h4 => by
    rw [up_k _ _ _ _ _ h2, up_k _ _ _ _ _ h1, up_k _ _ _ _ _ h3]; exact c3 j (by omega)
  obtain ⟨nx, x1, x2⟩ := h79
  refine ⟨_, (by rw [c1, Option.bind_some]; unfold fX0_clear; rw [Option.bind_some, hsh]), ⟨k, n, ⟨hQ2, b3.trans d2, ⟨nx, 0, x1, by omega, ?_, ?_, b4, fun i hi => by omega⟩, Or.inl ⟨?_, b5⟩, ⟨0, by omega, up_e _ _ _ _, (b6 0 12 (by omega)).trans h12, fun i hi => by omega⟩, ?_, ?_, ?_, ?_⟩, a, b, 0, 0, hF2, hS3⟩, hS3.1.2.2.1, ?_, b6 0 0 (by omega)⟩
  · rw [up_k _ _ _ _ _ (by omega), up_k _ _ _ _ _ (by omega), up_j _ _ _ _ _ (by omega), c3 79 (by omega)]; exact x2
  · rw [up_k _ _ _ _ _ (by omega), up_k _ _ _ _ _ (by omega), up_e]; rfl
  · rw [up_k _ _ _ _ _ (by omega), up_e]; rfl
  · exact FR_c h35 (g 35 (by omega) (by omega) (by omega) (by omega)) (g 36 (by omega) (by omega) (by omega) (by omega)) (b6 0 20 (by omega)) (funext fun j => b6 9 j (by omega))
  · exact Tx_c h37 (g 37 (by omega) (by omega) (by omega) (by omega))
  · exact Tx_c h39 (g 39 (by omega) (by omega) (by omega) (by omega))
  · exact fun i hi => (b6 11 i (by omega)).trans (hro i hi)
  · exact r_leaves hQ2 (b3.trans d2)
theorem sim3 : Sim3 Rel := by
  intro σ τ hR
  replace hR := Rel_0 hR 0
  unfold fX12_load fX11_load
  have h00 : up τ 0 0 0 0 0 = 0 := up_e _ _ _ _
  generalize up τ 0 0 (0 : Int32) = τ at *
  have hR' := hR
  obtain ⟨k, n, hr, hC⟩ := hR'
  obtain ⟨B, m, hB, hb⟩ := IR_B hr.2.2.2.2.1
  obtain ⟨v, ρ, υ, h1, h2, h3, h4, h5⟩ := text_sim hB hb
  have hR2 : Rel ρ υ := Rel_c hR (frQ_KK h3) (frP_KT h4)
  have u0 : υ 0 0 = 0 := (h4 0 0 (by omega)).trans h00
  rw [show 0 + 1 = 1 from rfl, h1, h2, Option.bind_some, Option.bind_some]
  rcases h5 with ⟨rfl, k', n', a', b', g1, g2⟩ | ⟨s, g1, rfl⟩
  · have hR3 := hR2
    obtain ⟨k2, n2, hr2, -⟩ := hR3
    obtain ⟨nx, nh, x1, x2, x3, x4, x5⟩ := hr2.2.2.1
    have hB2 := frQ_BC h3 hB
    obtain ⟨υ2, c0, c1⟩ := r_begins (up υ 0 12 (0 : Int32))
    have hD2 : DR ρ (up υ 0 12 (0 : Int32)) k' n' a' b' := DR_c g2 (fun _ _ _ => rfl) (up_k _ _ _ _ _ (by omega)) (up_k _ _ _ _ _ (by omega)) (up_j _ _ _ _ _ (by omega))
    obtain ⟨ρ2, q1, q2, q3, q4, q5⟩ := load_Rel (ρ := ρ) g1 hD2 ⟨m, hB2.1, hB2.2.1⟩ (FR_c hr2.2.2.2.2.2.1 rfl rfl (up_j _ _ _ _ _ (by omega)) (up_k _ _ _ _ _ (by omega))) hr2.2.2.2.2.2.2.1 hr2.2.2.2.2.2.2.2.1 ⟨nx, x1, x3⟩ (fun i hi => (congrFun (up_k _ _ _ _ _ (by omega)) i).trans (hr2.2.2.2.2.2.2.2.2 i hi)) (up_e _ _ _ _) c0
    have eC : (fX7_copyFrom (0 + 41) (1 + 1) ρ).bind (fun v32 => (fX0_clear (0 + 79) v32).bind fun v39 => (fX8_shortenTo (0 + 33) (0 : Int32) (up v39 0 13 (0 : Int32))).bind fun v52 => (fX10_leafCount (0 + 42) v52).bind fun v59 => (some (.inr v59, v52) : Option Rx)) = some (.inr (ι n'), ρ2) := by
      have q1' : ((fX7_copyFrom 41 2 ρ).bind fun v32 => (fX0_clear 79 v32).bind fun v39 => fX8_shortenTo 33 (0 : Int32) (up v39 0 13 (0 : Int32))).bind (fun v52 => (fX10_leafCount 42 v52).bind fun v59 => (some (.inr v59, v52) : Option Rx)) = some (.inr (ι n'), ρ2) := by
        rw [q1, Option.bind_some]
        unfold fX10_leafCount
        rw [q3, Option.bind_some]
      rw [Option.bind_assoc] at q1'
      simp only [Option.bind_assoc] at q1'
      exact q1'
    refine ⟨(.inr (ι n'), ρ2), (ι n', υ2), 0, ?_, ?_, Or.inl ⟨_, rfl, rfl⟩, fun v hv => (by cases hv; rfl), ?_, q2⟩
    · exact (if_pos (show μ = (-1 : Int32) from rfl)).trans eC
    · refine (if_pos (show μ = (-1 : Int32) from rfl)).trans ?_
      show (fX12_begins (up υ 0 12 (0 : Int32))).bind _ = _
      rw [c0, Option.bind_some, q4, Option.bind_some]
    · show υ2 0 0 = 0
      rw [q5, up_j _ _ _ _ _ (by omega)]; exact u0
  · have hne : ¬ ι s = (-1 : Int32) := by
      intro z
      have z : ι s = μ := z
      rw [ι_m1 (by omega)] at z; exact z
    refine ⟨(.inl 1, ρ), (0, up υ 0 0 1), 1, ?_, ?_, Or.inr ⟨rfl, rfl⟩, fun v hv => (by cases hv), z_bad, Rel_0 hR2 _⟩
    · exact if_neg hne
    · refine (if_neg hne).trans ?_
      show (fX12_fails (1 : Int32) υ).bind _ = _
      rw [ref_fails, Option.bind_some]
