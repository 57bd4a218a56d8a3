/-! PURE PART: labels that are sought -/
def nq (A B : Nat → Int32) (i : Nat) : Bool := decide (A i ≠ B i)
theorem nq_f {A B : Nat → Int32} {i : Nat} (e : A i = B i) : ¬ nq A B i = true := by
  unfold nq; rw [decide_eq_true_eq]; exact fun z => z e
theorem nq_t {A B : Nat → Int32} {i : Nat} (e : ¬ A i = B i) : nq A B i = true := by
  unfold nq; rw [decide_eq_true_eq]; exact e
theorem c_sb {σ : Mem} {o o' L L' m : Nat} (h1 : ln (o + 1) = L) (h1' : L ≤ 600) (h2 : m ≤ L) (h3 : σ o 1 = ι m) (g1 : ln (o' + 1) = L') (g1' : L' ≤ 600) (g2 : m ≤ L') (g3 : σ o' 1 = ι m) : ∀ m' n i, i + m' = m → m' < n → (fX8_hasSameBytes_l15 o o' n (ι i) σ).bind (fun q15 => match q15 with | .inl r => some r | .inr q15 => some (1 : Int32)) = some (if ff (nq (σ (o + 1)) (σ (o' + 1))) i m' = none then ι 1 else ι 0) := by
  intro m
  induction m with
  | zero =>
    intro n i h hn
    obtain ⟨n, rfl⟩ : ∃ k, n = k + 1 := ⟨n - 1, by omega⟩
    rw [fX8_hasSameBytes_l15]
    rw [h3, if_pos (by rw [ι_le (by omega) (by omega)]; omega), ff, if_pos rfl]; rfl
  | succ m ih =>
    intro n i h hn
    obtain ⟨n, rfl⟩ : ∃ k, n = k + 1 := ⟨n - 1, by omega⟩
    rw [fX8_hasSameBytes_l15]
    rw [h3, if_neg (by rw [ι_le (by omega) (by omega)]; omega), c_byteAt h1 h1' h2 h3 (by omega), Option.bind_some, c_byteAt g1 g1' g2 g3 (by omega), Option.bind_some, ff, l_1, ι_add]
    by_cases e : σ (o + 1) i = σ (o' + 1) i
    · rw [if_pos e, if_neg (nq_f e)]
      exact ih n (i + 1) (by omega) (by omega)
    · rw [if_neg e, if_pos (nq_t e), if_neg (by simp)]; rfl
theorem c_same {σ : Mem} {o o' L L' m m' : Nat} (h1 : ln (o + 1) = L) (h1' : L ≤ 600) (h2 : m ≤ L) (h3 : σ o 1 = ι m) (g1 : ln (o' + 1) = L') (g1' : L' ≤ 600) (g2 : m' ≤ L') (g3 : σ o' 1 = ι m') : fX8_hasSameBytes o o' σ = some (if m = m' ∧ ff (nq (σ (o + 1)) (σ (o' + 1))) 0 m = none then ι 1 else ι 0) := by
  unfold fX8_hasSameBytes
  rw [h3, g3, ite_eq (by omega) (by omega)]
  by_cases e : m = m'
  · rw [if_pos e]
    subst e
    have := c_sb h1 h1' h2 h3 g1 g1' g2 g3 m FU 0 (by omega) (by unfold FU; omega)
    by_cases c : ff (nq (σ (o + 1)) (σ (o' + 1))) 0 m = none
    · rw [if_pos ⟨rfl, c⟩]; rw [if_pos c] at this; exact this
    · rw [if_neg (fun z => c z.2)]; rw [if_neg c] at this; exact this
  · rw [if_neg e, if_neg (fun z => e z.1)]; rfl
theorem r_ib {τ : Mem} {w : Nat} (hm : w ≤ 400) (h0 : τ 0 21 = ι w) : ∀ m' n i, i + m' = w → m' < n → ∃ z, fX12_isBuffer_l24 n (ι 1) (ι i) τ = some (if ff (nq (τ 10) (τ 7)) i m' = none then ι 1 else ι 0, z) := by
  intro m
  induction m with
  | zero =>
    intro n i h hn
    obtain ⟨n, rfl⟩ : ∃ k, n = k + 1 := ⟨n - 1, by omega⟩
    rw [fX12_isBuffer_l24]
    rw [h0, if_pos (by rw [ι_le (by omega) (by omega)]; omega), ff, if_pos rfl]; exact ⟨_, rfl⟩
  | succ m ih =>
    intro n i h hn
    obtain ⟨n, rfl⟩ : ∃ k, n = k + 1 := ⟨n - 1, by omega⟩
    rw [fX12_isBuffer_l24]
    rw [h0, if_neg (by rw [ι_le (by omega) (by omega)]; omega), if_neg (by decide)]
    simp (disch := omega) only [l_0, l_1, l_2, l_3, l_4, l_5, l_6, l_7, l_8, l_9, l_10, l_12, l_13, l_24, l_31, l_32, l_40, l_41, l_42, l_44, l_45, l_48, l_49, l_50, l_57, l_59, l_60, l_65, l_88, l_89, l_97, l_98, l_99, l_100, l_105, l_108, l_109, l_114, l_118, l_120, l_122, l_144, l_255, l_269, l_279, l_339, l_400, l_600, l_999, l_1000, l_2373, l_2712, ι_lt, ι_le, ι_eq, ι_add, ι_mul, ι_sub, ι_div, ι_n, ι_m1, m1_ι, m1_lt, m1_le, lt_m1, le_m1, m1_lt_m1, m1_le_m1, m1_add1, neg_ι1, ι_addm, ι_addn, Bool.false_eq_true, Nat.not_lt_zero, Nat.add_zero, Nat.zero_add, Nat.mul_zero, Nat.reduceMul, Nat.reduceAdd, Nat.reduceSub, Nat.reduceLT, Nat.reduceLeDiff, Nat.reduceEqDiff, Nat.reduceDiv, Nat.reduceBEq, Nat.reduceBNe, false_or, or_false, true_or, or_true, and_true, true_and, false_and, and_false, not_false_eq_true, not_true_eq_false, if_true, if_false, if_pos, if_neg, Option.bind_some, ite_false, ite_true, eq_self, reduceIte, lm_0, lm_1, lm_2, lm_3, lm_4, lm_5, lm_6, lm_7, lm_8, lm_9, lm_10, lm_11, lm_12, lm_13, lm_14, lm_15, lm_16, lm_17]
    rw [ff]
    by_cases e : τ 10 i = τ 7 i
    · rw [if_pos e, if_neg (nq_f e)]
      exact ih n (i + 1) (by omega) (by omega)
    · rw [if_neg e, if_pos (nq_t e), if_neg (by simp)]
      obtain ⟨n, rfl⟩ : ∃ k, n = k + 1 := ⟨n - 1, by omega⟩
      rw [fX12_isBuffer_l24, h0]
      by_cases c : ι w ≤ ι (i + 1)
      · rw [if_pos c]; exact ⟨_, rfl⟩
      · rw [if_neg c, if_pos (show ι 0 = (0 : Int32) from rfl)]; exact ⟨_, rfl⟩
theorem r_is {τ : Mem} {w : Nat} (hm : w ≤ 400) (h0 : τ 0 21 = ι w) : ∀ m' n i, i + m' = w → m' < n → ∃ z, fX12_isSought_l22 n (ι 1) (ι i) τ = some (if ff (nq (τ 10) (τ 16)) i m' = none then ι 1 else ι 0, z) := by
  intro m
  induction m with
  | zero =>
    intro n i h hn
    obtain ⟨n, rfl⟩ : ∃ k, n = k + 1 := ⟨n - 1, by omega⟩
    rw [fX12_isSought_l22]
    rw [h0, if_pos (by rw [ι_le (by omega) (by omega)]; omega), ff, if_pos rfl]; exact ⟨_, rfl⟩
  | succ m ih =>
    intro n i h hn
    obtain ⟨n, rfl⟩ : ∃ k, n = k + 1 := ⟨n - 1, by omega⟩
    rw [fX12_isSought_l22]
    rw [h0, if_neg (by rw [ι_le (by omega) (by omega)]; omega), if_neg (by decide)]
    simp (disch := omega) only [l_0, l_1, l_2, l_3, l_4, l_5, l_6, l_7, l_8, l_9, l_10, l_12, l_13, l_24, l_31, l_32, l_40, l_41, l_42, l_44, l_45, l_48, l_49, l_50, l_57, l_59, l_60, l_65, l_88, l_89, l_97, l_98, l_99, l_100, l_105, l_108, l_109, l_114, l_118, l_120, l_122, l_144, l_255, l_269, l_279, l_339, l_400, l_600, l_999, l_1000, l_2373, l_2712, ι_lt, ι_le, ι_eq, ι_add, ι_mul, ι_sub, ι_div, ι_n, ι_m1, m1_ι, m1_lt, m1_le, lt_m1, le_m1, m1_lt_m1, m1_le_m1, m1_add1, neg_ι1, ι_addm, ι_addn, Bool.false_eq_true, Nat.not_lt_zero, Nat.add_zero, Nat.zero_add, Nat.mul_zero, Nat.reduceMul, Nat.reduceAdd, Nat.reduceSub, Nat.reduceLT, Nat.reduceLeDiff, Nat.reduceEqDiff, Nat.reduceDiv, Nat.reduceBEq, Nat.reduceBNe, false_or, or_false, true_or, or_true, and_true, true_and, false_and, and_false, not_false_eq_true, not_true_eq_false, if_true, if_false, if_pos, if_neg, Option.bind_some, ite_false, ite_true, eq_self, reduceIte, lm_0, lm_1, lm_2, lm_3, lm_4, lm_5, lm_6, lm_7, lm_8, lm_9, lm_10, lm_11, lm_12, lm_13, lm_14, lm_15, lm_16, lm_17]
    rw [ff]
    by_cases e : τ 10 i = τ 16 i
    · rw [if_pos e, if_neg (nq_f e)]
      exact ih n (i + 1) (by omega) (by omega)
    · rw [if_neg e, if_pos (nq_t e), if_neg (by simp)]
      obtain ⟨n, rfl⟩ : ∃ k, n = k + 1 := ⟨n - 1, by omega⟩
      rw [fX12_isSought_l22, h0]
      by_cases c : ι w ≤ ι (i + 1)
      · rw [if_pos c]; exact ⟨_, rfl⟩
      · rw [if_neg c, if_pos (show ι 0 = (0 : Int32) from rfl)]; exact ⟨_, rfl⟩
theorem r_isBuffer {τ υ : Mem} {p m mb : Nat} (h : fX12_laysLabel (ι p) τ = some υ) (h0 : υ 0 21 = ι m) (hm : m ≤ 400) (hb : υ 0 12 = ι mb) (hmb : mb ≤ 600) : fX12_isBuffer (ι p) τ = some (if m = mb ∧ ff (nq (υ 10) (υ 7)) 0 m = none then ι 1 else ι 0, υ) := by
  unfold fX12_isBuffer fX12_isBuffer_j21
  rw [h, Option.bind_some, h0, hb, ite_eq (by omega) (by omega)]
  by_cases e : m = mb
  · rw [if_pos e]
    obtain ⟨z, a⟩ := r_ib hm h0 m FU 0 (by omega) (by unfold FU; omega)
    have a : fX12_isBuffer_l24 FU (1 : Int32) (0 : Int32) υ = _ := a
    rw [a, Option.bind_some]
    by_cases c : ff (nq (υ 10) (υ 7)) 0 m = none
    · have g : (if m = mb ∧ ff (nq (υ 10) (υ 7)) 0 m = none then ι 1 else ι 0) = ι 1 := if_pos ⟨e, c⟩
      rw [if_pos c, g]
      exact if_pos (Or.inr rfl)
    · have g : (if m = mb ∧ ff (nq (υ 10) (υ 7)) 0 m = none then ι 1 else ι 0) = ι 0 := if_neg (fun z => c z.2)
      rw [if_neg c, g]
      exact if_pos (Or.inl rfl)
  · rw [if_neg e, if_neg (fun z => e z.1)]
    rw [show FU = 4095 + 1 from rfl, fX12_isBuffer_l24, h0]
    by_cases c : ι m ≤ (0 : Int32)
    · rw [if_pos c, Option.bind_some]; exact if_pos (Or.inl rfl)
    · rw [if_neg c, if_pos rfl, Option.bind_some]; exact if_pos (Or.inl rfl)
theorem r_isSought {τ υ : Mem} {p m mb : Nat} (h : fX12_laysLabel (ι p) τ = some υ) (h0 : υ 0 21 = ι m) (hm : m ≤ 400) (hmb : mb ≤ 600) : fX12_isSought (ι p) (ι mb) τ = some (if m = mb ∧ ff (nq (υ 10) (υ 16)) 0 m = none then ι 1 else ι 0, υ) := by
  unfold fX12_isSought fX12_isSought_j18
  rw [h, Option.bind_some, h0, ite_eq (by omega) (by omega)]
  by_cases e : m = mb
  · rw [if_pos e]
    obtain ⟨z, a⟩ := r_is hm h0 m FU 0 (by omega) (by unfold FU; omega)
    have a : fX12_isSought_l22 FU (1 : Int32) (0 : Int32) υ = _ := a
    rw [a, Option.bind_some]
    by_cases c : ff (nq (υ 10) (υ 16)) 0 m = none
    · have g : (if m = mb ∧ ff (nq (υ 10) (υ 16)) 0 m = none then ι 1 else ι 0) = ι 1 := if_pos ⟨e, c⟩
      rw [if_pos c, g]
      exact if_pos (Or.inr rfl)
    · have g : (if m = mb ∧ ff (nq (υ 10) (υ 16)) 0 m = none then ι 1 else ι 0) = ι 0 := if_neg (fun z => c z.2)
      rw [if_neg c, g]
      exact if_pos (Or.inl rfl)
  · rw [if_neg e, if_neg (fun z => e z.1)]
    rw [show FU = 4095 + 1 from rfl, fX12_isSought_l22, h0]
    by_cases c : ι m ≤ (0 : Int32)
    · rw [if_pos c, Option.bind_some]; exact if_pos (Or.inl rfl)
    · rw [if_neg c, if_pos rfl, Option.bind_some]; exact if_pos (Or.inl rfl)
theorem sx_hi : ∀ b, b < 128 → (ι (b + 128)).toInt8.toInt32 < ι 0 := by decide +kernel
theorem sx_cmp {c b : Nat} (hc : c < 128) (hb : b < 256) : (ι c = sx b) = (ι c = ι b) := by
  unfold sx
  by_cases h : b < 128
  · rw [nar_0 b h]
  · have h1 := sx_hi (b - 128) (by omega)
    rw [show b - 128 + 128 = b by omega] at h1
    rw [(neg0 h1 (show c < 2147483648 by omega)).2.2.2, ι_eq (by omega) (by omega)]
    exact (eq_false (by omega)).symm
theorem buf_cmp {ρ υ : Mem} {w : List Nat} {m mb L : Nat} (hC : TC ρ 39 L w) (hT : TR υ w) (hI : IRm ρ υ mb) (e : w.length = mb) : ff (nq (ρ 40) (ρ 34)) 0 w.length = ff (nq (υ 10) (υ 7)) 0 w.length := by
  refine ff_congr _ _ fun i _ hi => ?_
  have hi : i < w.length := by omega
  obtain ⟨b, b1, b2, b3, b4⟩ := hI.2.2.2 i (by omega)
  obtain ⟨t1, t2⟩ := hT.2.2 i hi
  have t3 : ρ 40 i = ι (gt w i) := hC.2.2.2.2 i hi
  unfold nq
  rw [t1, t3, b3, b4]
  have := sx_cmp t2 b2
  congr 1
  rw [Ne, Ne, this]
theorem IRm_c {σ ρ τ υ : Mem} {m : Nat} (h : IRm σ τ m) (a1 : ρ 33 = σ 33) (a2 : ρ 34 = σ 34) (a3 : υ 0 12 = τ 0 12) (a4 : υ 7 = τ 7) : IRm ρ υ m := by
  unfold IRm at *; rw [a1, a2, a3, a4]; exact h
theorem find_sim {F q : Nat → Int32} {k n a b mb : Nat} {E : List En} : ∀ m n1 n2 p (σ τ : Mem), p + m = E.length → m < n1 → m < n2 → LX σ τ F q k n a b E → IRm σ τ mb → ∃ v ρ υ, (fX11_findLabel_l7 0 n1 (ι p) σ).bind (fun q7 => match q7 with | .inl r => some r | .inr q7 => some (.inr (-1 : Int32), q7.2)) = some (.inr v, ρ) ∧ (fX12_findLabel_l31 n2 (ι p) τ).bind (fun q31 => match q31 with | .inl r => some r | .inr q31 => some ((-1 : Int32), q31.2)) = some (v, υ) ∧ frT 39 σ ρ ∧ frW τ υ ∧ Tx ρ 39 := by
  intro m
  induction m with
  | zero =>
    intro n1 n2 p σ τ hp h1 h2 hX hI
    obtain ⟨n1, rfl⟩ : ∃ k, n1 = k + 1 := ⟨n1 - 1, by omega⟩
    obtain ⟨n2, rfl⟩ : ∃ k, n2 = k + 1 := ⟨n2 - 1, by omega⟩
    have hE := hX.2.2.2.2.2.1
    have oc := hX.2.2.2.1.1
    have ot := hX.2.2.2.2.2.2.2.2.2.2.2.1.1
    refine ⟨-1, σ, τ, ?_, ?_, frT_refl _ _, frW_refl _, hX.2.2.2.2.2.2.2.2.2.2.2.2.2.2⟩
    · rw [fX11_findLabel_l7]
      unfold fX2_size
      rw [Option.bind_some, Nat.zero_add, oc, if_pos (by rw [ι_le (by omega) (by omega)]; omega)]; rfl
    · rw [fX12_findLabel_l31, ot, if_pos (by rw [ι_le (by omega) (by omega)]; omega)]; rfl
  | succ m ih =>
    intro n1 n2 p σ τ hp h1 h2 hX hI
    obtain ⟨n1, rfl⟩ : ∃ k, n1 = k + 1 := ⟨n1 - 1, by omega⟩
    obtain ⟨n2, rfl⟩ : ∃ k, n2 = k + 1 := ⟨n2 - 1, by omega⟩
    have hE := hX.2.2.2.2.2.1
    have oc := hX.2.2.2.1.1
    have ot := hX.2.2.2.2.2.2.2.2.2.2.2.1.1
    obtain ⟨w, ρ, υ, a1, a2, a3, a4, a5, a6, a7, a8⟩ := place_sim (o := 39) hX (Or.inr (Or.inr rfl)) (show p < E.length by omega)
    have hI2 : IRm ρ υ mb := IRm_c hI (a6 33 (by omega) (by omega)) (a6 34 (by omega) (by omega)) (a7 0 12 (by omega)) (funext fun j => a7 7 j (by omega))
    have r1 := r_isBuffer a2 a4.2.1 a4.1 hI2.2.2.1 hI2.1
    have c1 := c_same (o := 39) (o' := 33) a3.1 a3.2.1 a3.2.2.1 a3.2.2.2.1 ln34 (by omega) hI2.1 hI2.2.1
    have hcm : (w.length = mb ∧ ff (nq (ρ (39 + 1)) (ρ (33 + 1))) 0 w.length = none) = (w.length = mb ∧ ff (nq (υ 10) (υ 7)) 0 w.length = none) := by
      refine propext (and_congr_right fun e => ?_)
      have := buf_cmp (m := 0) a3 a4 hI2 e
      rw [show (39 + 1 : Nat) = 40 from rfl, show (33 + 1 : Nat) = 34 from rfl, this]
    have c1 : fX8_hasSameBytes 39 33 ρ = some (if w.length = mb ∧ ff (nq (υ 10) (υ 7)) 0 w.length = none then ι 1 else ι 0) := by
      rw [c1]; simp only [hcm]
    rw [fX11_findLabel_l7, fX12_findLabel_l31, ot, if_neg (by rw [ι_le (by omega) (by omega)]; omega)]
    unfold fX2_size
    rw [Option.bind_some, Nat.zero_add, Nat.zero_add, Nat.zero_add, oc, if_neg (by rw [ι_le (by omega) (by omega)]; omega), a1, Option.bind_some, c1, Option.bind_some, r1, Option.bind_some]
    by_cases c : w.length = mb ∧ ff (nq (υ 10) (υ 7)) 0 w.length = none
    · rw [if_pos c, if_neg (by decide)]
      exact ⟨ι p, ρ, υ, rfl, (by dsimp only; rw [if_neg (by decide)]; rfl), a6, a7, TC_Tx a3⟩
    · rw [if_neg c, if_pos (by decide)]
      obtain ⟨v, ρ', υ', b1, b2, b3, b4, b5⟩ := ih n1 n2 (p + 1) ρ υ (by omega) (by omega) (by omega) a8 hI2
      refine ⟨v, ρ', υ', ?_, ?_, frT_trans a6 b3, frW_trans a7 b4, b5⟩
      · rw [l_1, ι_add]; exact b1
      · dsimp only; rw [if_pos (by decide), l_1, ι_add]; exact b2
theorem txt_Rel {σ τ ρ υ : Mem} (hR : Rel σ τ) (h1 : ∀ j, ¬ (37 ≤ j ∧ j ≤ 40) → ρ j = σ j) (h2 : ∀ k j, ¬ (k = 10 ∨ k = 16 ∨ (k = 0 ∧ j = 21)) → υ k j = τ k j) (h3 : Tx ρ 37) (h4 : Tx ρ 39) : Rel ρ υ := by
  have hR' := hR
  obtain ⟨k, n, hr, hC'⟩ := hR'
  refine Rel_parts hR (fun j hj => h1 j (by omega)) (fun k j hk => h2 k j (by omega)) ?_ ?_ h3 h4
  · exact IR_c hr.2.2.2.2.1 (h1 33 (by omega)) (h1 34 (by omega)) (h2 0 12 (by omega)) (funext fun j => h2 7 j (by omega))
  · exact FR_c hr.2.2.2.2.2.1 (h1 35 (by omega)) (h1 36 (by omega)) (h2 0 20 (by omega)) (funext fun j => h2 9 j (by omega))
theorem sim28 : Sim28 Rel := by
  intro σ τ x1 hR
  replace hR := Rel_0 hR 0
  unfold fX12_findLabel fX11_findLabel
  have h00 : up τ 0 0 0 0 0 = 0 := up_e _ _ _ _
  generalize up τ 0 0 (0 : Int32) = τ at *
  obtain ⟨k, n, a, b, d, t, hO⟩ := RO_of hR
  obtain ⟨ρ, υ, e1, e2, hO2, oc, ot, f1, f2⟩ := ord_RO hO
  have hL := ordE_len (F := τ 3) hO.1.1.2.2.2.2 hO.2.1.2.1 hO.2.1.2.2.1
  have hR2 := RO_rel hO2
  have u0 : υ 0 0 = 0 := (f2 0 0 (by omega)).trans h00
  have e10 : ¬ (ι 1 = (0 : Int32)) := by decide
  have hX := LX_of hO2 (by rw [fr8_3 f2]) oc ot
  rw [e2, Option.bind_some, ot.1]
  rcases leaf_cases x1 ((ordE (τ 3) n a).length + 1) with ⟨i, hi, rfl⟩ | hx
  · obtain ⟨mb, hI⟩ := hO2.1.2.2.2.2.1
    obtain ⟨v, ρ', υ', b1, b2, b3, b4, b5⟩ := find_sim (mb := mb) ((ordE (τ 3) n a).length - i) FU FU i ρ υ (by omega) (by unfold FU; omega) (by unfold FU; omega) hX hI
    rw [r_inC (by omega) (by omega), Option.bind_some, if_neg e10, c_reqStart e1 hL oc (by omega), Option.bind_some]
    exact ⟨_, _, 0, b1, b2, Or.inl ⟨_, rfl, rfl⟩, fun v hv => (by cases hv; rfl), z_ok ((b4 0 0 (by omega)).trans u0), txt_Rel hR2 (fun j hj => b3 j (by omega) (by omega)) (fun k j hk => b4 k j (by omega)) (Tx_c hO2.1.2.2.2.2.2.2.1 (b3 37 (by omega) (by omega))) b5⟩
  · rw [c_reqStart_no e1 hL oc hx, r_inC_no (by omega) hx]
    simp only [Option.bind_some, l_0, if_true, ref_fails]
    exact ⟨_, _, 1, rfl, rfl, Or.inr ⟨rfl, rfl⟩, fun v hv => (by cases hv), z_bad, Rel_0 hR2 _⟩
theorem r_cp {l : List Nat} (hl : l.length ≤ 400) : ∀ m n i (τ : Mem), i + m = l.length → m < n → TR τ l → (∀ j, j < i → τ 16 j = ι (gt l j)) → ∃ z υ, fX12_sameLabels_l31 (ι l.length) n (ι i) τ = some (z, υ) ∧ (∀ j, j < l.length → υ 16 j = ι (gt l j)) ∧ ∀ k j, k ≠ 16 → υ k j = τ k j := by
  intro m
  induction m with
  | zero =>
    intro n i τ h hn ht hj
    obtain ⟨n, rfl⟩ : ∃ k, n = k + 1 := ⟨n - 1, by omega⟩
    rw [fX12_sameLabels_l31]
    rw [if_pos (by rw [ι_le (by omega) (by omega)]; omega)]
    exact ⟨_, _, rfl, fun j hj' => hj j (by omega), fun _ _ _ => rfl⟩
  | succ m ih =>
    intro n i τ h hn ht hj
    obtain ⟨n, rfl⟩ : ∃ k, n = k + 1 := ⟨n - 1, by omega⟩
    rw [fX12_sameLabels_l31]
    obtain ⟨e1, e2⟩ := ht.2.2 i (by omega)
    have e0 := ht.2.1
    obtain ⟨z, υ, b1, b2, b3⟩ := ih n (i + 1) (up τ 16 i (ι (gt l i))) (by omega) (by omega) ⟨ht.1, by rw [up_k _ _ _ _ _ (by omega)]; exact e0, fun j hj => by rw [up_k _ _ _ _ _ (by omega)]; exact ht.2.2 j hj⟩ (fun j hj' => by
      by_cases e : j = i
      · rw [e, up_e]
      · rw [up_j _ _ _ _ _ e]; exact hj j (by omega))
    refine ⟨z, υ, ?_, b2, fun k j hk => by rw [b3 k j hk, up_k _ _ _ _ _ hk]⟩
    simp (disch := omega) only [l_0, l_1, l_2, l_3, l_4, l_5, l_6, l_7, l_8, l_9, l_10, l_12, l_13, l_24, l_31, l_32, l_40, l_41, l_42, l_44, l_45, l_48, l_49, l_50, l_57, l_59, l_60, l_65, l_88, l_89, l_97, l_98, l_99, l_100, l_105, l_108, l_109, l_114, l_118, l_120, l_122, l_144, l_255, l_269, l_279, l_339, l_400, l_600, l_999, l_1000, l_2373, l_2712, ι_lt, ι_le, ι_eq, ι_add, ι_mul, ι_sub, ι_div, ι_n, ι_m1, m1_ι, m1_lt, m1_le, lt_m1, le_m1, m1_lt_m1, m1_le_m1, m1_add1, neg_ι1, ι_addm, ι_addn, Bool.false_eq_true, Nat.not_lt_zero, Nat.add_zero, Nat.zero_add, Nat.mul_zero, Nat.reduceMul, Nat.reduceAdd, Nat.reduceSub, Nat.reduceLT, Nat.reduceLeDiff, Nat.reduceEqDiff, Nat.reduceDiv, Nat.reduceBEq, Nat.reduceBNe, false_or, or_false, true_or, or_true, and_true, true_and, false_and, and_false, not_false_eq_true, not_true_eq_false, if_true, if_false, if_pos, if_neg, Option.bind_some, ite_false, ite_true, eq_self, reduceIte, lm_0, lm_1, lm_2, lm_3, lm_4, lm_5, lm_6, lm_7, lm_8, lm_9, lm_10, lm_11, lm_12, lm_13, lm_14, lm_15, lm_16, lm_17, e1, nar_d e2]
    exact b1
def SO (τ : Mem) (l : List Nat) : Prop := ∀ j, j < l.length → τ 16 j = ι (gt l j)
theorem same_sim {F q : Nat → Int32} {k n a b L : Nat} {E : List En} {u : List Nat} (hu : u.length ≤ 15) : ∀ m n1 n2 p c (σ τ : Mem), p + m = E.length → m < n1 → m < n2 → LX σ τ F q k n a b E → TC σ 37 L u → SO τ u → ∃ v z z' ρ υ, fX11_sameLabels_l18 0 n1 (ι c) (ι p) σ = some (v, z, ρ) ∧ fX12_sameLabels_l59 (ι u.length) n2 (ι c) (ι p) τ = some (v, z', υ) ∧ frT 39 σ ρ ∧ frW τ υ ∧ Tx ρ 39 := by
  intro m
  induction m with
  | zero =>
    intro n1 n2 p c σ τ hp h1 h2 hX hT hS
    obtain ⟨n1, rfl⟩ : ∃ k, n1 = k + 1 := ⟨n1 - 1, by omega⟩
    obtain ⟨n2, rfl⟩ : ∃ k, n2 = k + 1 := ⟨n2 - 1, by omega⟩
    have hE := hX.2.2.2.2.2.1
    have oc := hX.2.2.2.1.1
    have ot := hX.2.2.2.2.2.2.2.2.2.2.2.1.1
    refine ⟨ι c, ι p, ι p, σ, τ, ?_, ?_, frT_refl _ _, frW_refl _, hX.2.2.2.2.2.2.2.2.2.2.2.2.2.2⟩
    · rw [fX11_sameLabels_l18]
      unfold fX2_size
      rw [Option.bind_some, Nat.zero_add, oc, if_pos (by rw [ι_le (by omega) (by omega)]; omega)]
    · rw [fX12_sameLabels_l59, ot, if_pos (by rw [ι_le (by omega) (by omega)]; omega)]
  | succ m ih =>
    intro n1 n2 p c σ τ hp h1 h2 hX hT hS
    obtain ⟨n1, rfl⟩ : ∃ k, n1 = k + 1 := ⟨n1 - 1, by omega⟩
    obtain ⟨n2, rfl⟩ : ∃ k, n2 = k + 1 := ⟨n2 - 1, by omega⟩
    have hE := hX.2.2.2.2.2.1
    have oc := hX.2.2.2.1.1
    have ot := hX.2.2.2.2.2.2.2.2.2.2.2.1.1
    obtain ⟨w, ρ, υ, a1, a2, a3, a4, a5, a6, a7, a8⟩ := place_sim (o := 39) hX (Or.inr (Or.inr rfl)) (show p < E.length by omega)
    have hT2 : TC ρ 37 L u := by
      obtain ⟨q1, q2, q3, q4, q5⟩ := hT
      have f37 : ρ 37 = σ 37 := a6 37 (by omega) (by omega)
      have f38 : ρ 38 = σ 38 := a6 38 (by omega) (by omega)
      exact ⟨q1, q2, q3, by rw [f37]; exact q4, fun i hi => (congrFun f38 i).trans (q5 i hi)⟩
    have hS2 : SO υ u := fun j hj => (a7 16 j (by omega)).trans (hS j hj)
    have r1 := r_isSought (mb := u.length) a2 a4.2.1 a4.1 (by omega)
    have c1 := c_same (o := 39) (o' := 37) a3.1 a3.2.1 a3.2.2.1 a3.2.2.2.1 hT2.1 hT2.2.1 hT2.2.2.1 hT2.2.2.2.1
    have hcm : (w.length = u.length ∧ ff (nq (ρ (39 + 1)) (ρ (37 + 1))) 0 w.length = none) = (w.length = u.length ∧ ff (nq (υ 10) (υ 16)) 0 w.length = none) := by
      refine propext (and_congr_right fun e => ?_)
      rw [ff_congr (P := nq (ρ (39 + 1)) (ρ (37 + 1))) (Q := nq (υ 10) (υ 16)) w.length 0 fun i _ hi => ?_]
      have hi : i < w.length := by omega
      unfold nq
      rw [a3.2.2.2.2 i hi, (a4.2.2 i hi).1, hT2.2.2.2.2 i (by omega), hS2 i (by omega)]
    have c1 : fX8_hasSameBytes 39 37 ρ = some (if w.length = u.length ∧ ff (nq (υ 10) (υ 16)) 0 w.length = none then ι 1 else ι 0) := by
      rw [c1]; simp only [hcm]
    rw [fX11_sameLabels_l18, fX12_sameLabels_l59, ot, if_neg (by rw [ι_le (by omega) (by omega)]; omega)]
    unfold fX2_size
    rw [Option.bind_some, Nat.zero_add, Nat.zero_add, Nat.zero_add, oc, if_neg (by rw [ι_le (by omega) (by omega)]; omega), a1, Option.bind_some, c1, Option.bind_some, r1, Option.bind_some, l_1, l_0, ι_add, ι_add, ι_add, Nat.add_zero]
    by_cases cc : w.length = u.length ∧ ff (nq (υ 10) (υ 16)) 0 w.length = none
    · rw [if_pos cc, if_neg (by decide)]
      obtain ⟨v, z, z', ρ', υ', b1, b2, b3, b4, b5⟩ := ih n1 n2 (p + 1) (c + 1) ρ υ (by omega) (by omega) (by omega) a8 hT2 hS2
      refine ⟨v, z, z', ρ', υ', b1, ?_, frT_trans a6 b3, frW_trans a7 b4, b5⟩
      dsimp only; rw [if_neg (by decide)]; exact b2
    · rw [if_neg cc, if_pos (by decide)]
      obtain ⟨v, z, z', ρ', υ', b1, b2, b3, b4, b5⟩ := ih n1 n2 (p + 1) c ρ υ (by omega) (by omega) (by omega) a8 hT2 hS2
      refine ⟨v, z, z', ρ', υ', b1, ?_, frT_trans a6 b3, frW_trans a7 b4, b5⟩
      dsimp only; rw [if_pos (by decide)]; exact b2
theorem sim29 : Sim29 Rel := by
  intro σ τ x1 hR
  replace hR := Rel_0 hR 0
  unfold fX12_sameLabels fX11_sameLabels
  have h00 : up τ 0 0 0 0 0 = 0 := up_e _ _ _ _
  generalize up τ 0 0 (0 : Int32) = τ at *
  obtain ⟨k, n, a, b, d, t, hO⟩ := RO_of hR
  obtain ⟨ρ, υ, e1, e2, hO2, oc, ot, f1, f2⟩ := ord_RO hO
  have hL := ordE_len (F := τ 3) hO.1.1.2.2.2.2 hO.2.1.2.1 hO.2.1.2.2.1
  have hR2 := RO_rel hO2
  have u0 : υ 0 0 = 0 := (f2 0 0 (by omega)).trans h00
  have e10 : ¬ (ι 1 = (0 : Int32)) := by decide
  have hX := LX_of hO2 (by rw [fr8_3 f2]) oc ot
  rcases leaf_cases x1 (ordE (τ 3) n a).length with ⟨i, hi, rfl⟩ | hx
  · obtain ⟨w, ρ1, υ1, a1, a2, a3, a4, a5, a6, a7, a8⟩ := place_sim (o := 37) hX (Or.inr (Or.inl rfl)) hi
    obtain ⟨z, ω, b1, b2, b3⟩ := r_cp a4.1 w.length FU 0 υ1 (by omega) (by unfold FU; omega) a4 (fun j hj => absurd hj (Nat.not_lt_zero j))
    have b1 : fX12_sameLabels_l31 (ι w.length) FU (0 : Int32) υ1 = some (z, ω) := b1
    have hX2 : LX ρ1 ω _ _ _ _ _ _ _ := LX_c (o := 37) (ρ := ρ1) a8 (Or.inr (Or.inl rfl)) (frT_refl _ _) (TC_Tx a3) (fun k j hk => b3 k j (by omega))
    obtain ⟨v, z1, z2, ρ2, ω2, c1, c2, c3, c4, c5⟩ := same_sim a5 (ordE (τ 3) n a).length FU FU 0 0 ρ1 ω (by omega) (by unfold FU; omega) (by unfold FU; omega) hX2 a3 b2
    have c1 : fX11_sameLabels_l18 0 FU (0 : Int32) (0 : Int32) ρ1 = some (v, z1, ρ2) := c1
    have c2 : fX12_sameLabels_l59 (ι w.length) FU (0 : Int32) (0 : Int32) ω = some (v, z2, ω2) := c2
    simp only [c_reqPlace e1 hL oc hi, r_isPlace e2 hL ot hi, if_neg e10, Option.bind_some, Nat.zero_add, a1, a2, a4.2.1, b1, c1, c2]
    refine ⟨_, _, 0, rfl, rfl, Or.inl ⟨_, rfl, rfl⟩, fun v hv => (by cases hv; rfl), ?_, txt_Rel hR2 (fun j hj => (c3 j (by omega) (by omega)).trans (a6 j (by omega) (by omega))) (fun k j hk => (c4 k j (by omega)).trans ((b3 k j (by omega)).trans (a7 k j (by omega)))) (Tx_c (TC_Tx a3) (c3 37 (by omega) (by omega))) c5⟩
    show ω2 0 0 = 0
    rw [c4 0 0 (by omega), b3 0 0 (by omega), a7 0 0 (by omega)]; exact u0
  · rw [c_reqPlace_no e1 hL oc hx, r_isPlace_no e2 hL ot hx]
    simp only [Option.bind_some, l_0, if_true, ref_fails]
    exact ⟨_, _, 1, rfl, rfl, Or.inr ⟨rfl, rfl⟩, fun v hv => (by cases hv), z_bad, Rel_0 hR2 _⟩
